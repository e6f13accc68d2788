theorem dX5_whileRest_0 : decode cX5_whileRest 0 = .ok (.aload_n 0, 1) := by decide +kernel
theorem dX5_whileRest_1 : decode cX5_whileRest 1 = .ok (.getfield 27, 3) := by decide +kernel
theorem dX5_whileRest_4 : decode cX5_whileRest 4 = .ok (.aload_n 0, 1) := by decide +kernel
theorem dX5_whileRest_5 : decode cX5_whileRest 5 = .ok (.getfield 153, 3) := by decide +kernel
theorem tw_614 : (.fieldLink RX5 153 "PocketCompiler$Parser" "continueTo" "I" : Cond) ∈ tw_W := tw_in (t8_2 (List.mem_of_getElem? (i := 60) rfl)) rfl
theorem dX5_whileRest_8 : decode cX5_whileRest 8 = .ok (.invokevirtual 165, 3) := by decide +kernel
theorem tw_615 : ∀ w ∈ ([.methodLink RX5 165 yX1_setLabel, .instanceMethod yX1_setLabel, .selects RX1 yX1_setLabel yX1_setLabel, .initialized RX1] : List Cond), w ∈ tw_W := al_c (tw_in (t8_4 (List.mem_of_getElem? (i := 193) rfl)) rfl) (al_c (tw_in (t8_4 (List.mem_of_getElem? (i := 165) rfl)) rfl) (al_c (tw_in (t8_4 (List.mem_of_getElem? (i := 166) rfl)) rfl) (al_c (tw_in (t8_1 (List.mem_of_getElem? (i := 11) rfl)) rfl) al_n)))
theorem dX5_whileRest_11 : decode cX5_whileRest 11 = .ok (.aload_n 0, 1) := by decide +kernel
theorem dX5_whileRest_12 : decode cX5_whileRest 12 = .ok (.getfield 27, 3) := by decide +kernel
theorem dX5_whileRest_15 : decode cX5_whileRest 15 = .ok (.bipush 24, 2) := by decide +kernel
theorem dX5_whileRest_17 : decode cX5_whileRest 17 = .ok (.iconst 0, 1) := by decide +kernel
theorem dX5_whileRest_18 : decode cX5_whileRest 18 = .ok (.iconst 0, 1) := by decide +kernel
theorem dX5_whileRest_19 : decode cX5_whileRest 19 = .ok (.invokevirtual 147, 3) := by decide +kernel
theorem dX5_whileRest_22 : decode cX5_whileRest 22 = .ok (.aload_n 0, 1) := by decide +kernel
theorem dX5_whileRest_23 : decode cX5_whileRest 23 = .ok (.invokevirtual 210, 3) := by decide +kernel
theorem tw_616 : (.code yX5_condition cX5_condition 1 none : Cond) ∈ tw_W := tw_in (t8_4 (List.mem_of_getElem? (i := 188) rfl)) rfl
theorem tw_617 : ∀ w ∈ ([.methodLink RX5 210 yX5_condition, .instanceMethod yX5_condition, .selects RX5 yX5_condition yX5_condition, .initialized RX5] : List Cond), w ∈ tw_W := al_c (tw_in (t8_4 (List.mem_of_getElem? (i := 185) rfl)) rfl) (al_c (tw_in (t8_4 (List.mem_of_getElem? (i := 187) rfl)) rfl) (al_c (tw_in (t7_3 (q := (yX5_condition, 7)) (List.mem_of_getElem? (i := 4) rfl)) rfl) (al_c (tw_in (t8_1 (List.mem_of_getElem? (i := 9) rfl)) rfl) al_n)))
theorem dX5_whileRest_26 : decode cX5_whileRest 26 = .ok (.aload_n 0, 1) := by decide +kernel
theorem dX5_whileRest_27 : decode cX5_whileRest 27 = .ok (.getfield 27, 3) := by decide +kernel
theorem dX5_whileRest_30 : decode cX5_whileRest 30 = .ok (.bipush 16, 2) := by decide +kernel
theorem dX5_whileRest_32 : decode cX5_whileRest 32 = .ok (.aload_n 0, 1) := by decide +kernel
theorem dX5_whileRest_33 : decode cX5_whileRest 33 = .ok (.getfield 150, 3) := by decide +kernel
theorem tw_618 : (.fieldLink RX5 150 "PocketCompiler$Parser" "breakTo" "I" : Cond) ∈ tw_W := tw_in (t8_2 (List.mem_of_getElem? (i := 59) rfl)) rfl
theorem dX5_whileRest_36 : decode cX5_whileRest 36 = .ok (.iconst 0, 1) := by decide +kernel
theorem dX5_whileRest_37 : decode cX5_whileRest 37 = .ok (.invokevirtual 147, 3) := by decide +kernel
theorem dX5_whileRest_40 : decode cX5_whileRest 40 = .ok (.aload_n 0, 1) := by decide +kernel
theorem dX5_whileRest_41 : decode cX5_whileRest 41 = .ok (.invokevirtual 223, 3) := by decide +kernel
theorem tw_619 : (.code yX5_innerStat cX5_innerStat 3 none : Cond) ∈ tw_W := tw_in (t8_4 (List.mem_of_getElem? (i := 192) rfl)) rfl
theorem tw_620 : ∀ w ∈ ([.methodLink RX5 223 yX5_innerStat, .instanceMethod yX5_innerStat, .selects RX5 yX5_innerStat yX5_innerStat, .initialized RX5] : List Cond), w ∈ tw_W := al_c (tw_in (t8_4 (List.mem_of_getElem? (i := 189) rfl)) rfl) (al_c (tw_in (t8_4 (List.mem_of_getElem? (i := 191) rfl)) rfl) (al_c (tw_in (t7_3 (q := (yX5_innerStat, 7)) (List.mem_of_getElem? (i := 5) rfl)) rfl) (al_c (tw_in (t8_1 (List.mem_of_getElem? (i := 9) rfl)) rfl) al_n)))
theorem dX5_whileRest_44 : decode cX5_whileRest 44 = .ok (.aload_n 0, 1) := by decide +kernel
theorem dX5_whileRest_45 : decode cX5_whileRest 45 = .ok (.getfield 27, 3) := by decide +kernel
theorem dX5_whileRest_48 : decode cX5_whileRest 48 = .ok (.bipush 19, 2) := by decide +kernel
theorem dX5_whileRest_50 : decode cX5_whileRest 50 = .ok (.aload_n 0, 1) := by decide +kernel
theorem dX5_whileRest_51 : decode cX5_whileRest 51 = .ok (.getfield 153, 3) := by decide +kernel
theorem dX5_whileRest_54 : decode cX5_whileRest 54 = .ok (.iconst 0, 1) := by decide +kernel
theorem dX5_whileRest_55 : decode cX5_whileRest 55 = .ok (.invokevirtual 147, 3) := by decide +kernel
theorem dX5_whileRest_58 : decode cX5_whileRest 58 = .ok (.return_, 1) := by decide +kernel
theorem dX5_doRest_0 : decode cX5_doRest 0 = .ok (.aload_n 0, 1) := by decide +kernel
theorem dX5_doRest_1 : decode cX5_doRest 1 = .ok (.getfield 27, 3) := by decide +kernel
theorem dX5_doRest_4 : decode cX5_doRest 4 = .ok (.invokevirtual 156, 3) := by decide +kernel
theorem tw_621 : ∀ w ∈ ([.methodLink RX5 156 yX1_newLabel, .instanceMethod yX1_newLabel, .selects RX1 yX1_newLabel yX1_newLabel, .initialized RX1] : List Cond), w ∈ tw_W := al_c (tw_in (t8_4 (List.mem_of_getElem? (i := 55) rfl)) rfl) (al_c (tw_in (t8_4 (List.mem_of_getElem? (i := 56) rfl)) rfl) (al_c (tw_in (t8_4 (List.mem_of_getElem? (i := 57) rfl)) rfl) (al_c (tw_in (t8_1 (List.mem_of_getElem? (i := 11) rfl)) rfl) al_n)))
theorem dX5_doRest_7 : decode cX5_doRest 7 = .ok (.istore_n 1, 1) := by decide +kernel
theorem dX5_doRest_8 : decode cX5_doRest 8 = .ok (.aload_n 0, 1) := by decide +kernel
theorem dX5_doRest_9 : decode cX5_doRest 9 = .ok (.getfield 27, 3) := by decide +kernel
theorem dX5_doRest_12 : decode cX5_doRest 12 = .ok (.iload_n 1, 1) := by decide +kernel
theorem dX5_doRest_13 : decode cX5_doRest 13 = .ok (.invokevirtual 165, 3) := by decide +kernel
theorem dX5_doRest_16 : decode cX5_doRest 16 = .ok (.aload_n 0, 1) := by decide +kernel
theorem dX5_doRest_17 : decode cX5_doRest 17 = .ok (.getfield 27, 3) := by decide +kernel
theorem dX5_doRest_20 : decode cX5_doRest 20 = .ok (.bipush 24, 2) := by decide +kernel
theorem dX5_doRest_22 : decode cX5_doRest 22 = .ok (.iconst 0, 1) := by decide +kernel
theorem dX5_doRest_23 : decode cX5_doRest 23 = .ok (.iconst 0, 1) := by decide +kernel
theorem dX5_doRest_24 : decode cX5_doRest 24 = .ok (.invokevirtual 147, 3) := by decide +kernel
theorem dX5_doRest_27 : decode cX5_doRest 27 = .ok (.aload_n 0, 1) := by decide +kernel
theorem dX5_doRest_28 : decode cX5_doRest 28 = .ok (.invokevirtual 223, 3) := by decide +kernel
theorem dX5_doRest_31 : decode cX5_doRest 31 = .ok (.aload_n 0, 1) := by decide +kernel
theorem dX5_doRest_32 : decode cX5_doRest 32 = .ok (.getfield 27, 3) := by decide +kernel
theorem dX5_doRest_35 : decode cX5_doRest 35 = .ok (.aload_n 0, 1) := by decide +kernel
theorem dX5_doRest_36 : decode cX5_doRest 36 = .ok (.getfield 153, 3) := by decide +kernel
theorem dX5_doRest_39 : decode cX5_doRest 39 = .ok (.invokevirtual 165, 3) := by decide +kernel
theorem dX5_doRest_42 : decode cX5_doRest 42 = .ok (.aload_n 0, 1) := by decide +kernel
theorem dX5_doRest_43 : decode cX5_doRest 43 = .ok (.getfield 20, 3) := by decide +kernel
theorem dX5_doRest_46 : decode cX5_doRest 46 = .ok (.bipush 13, 2) := by decide +kernel
theorem dX5_doRest_48 : decode cX5_doRest 48 = .ok (.invokevirtual 87, 3) := by decide +kernel
theorem dX5_doRest_51 : decode cX5_doRest 51 = .ok (.aload_n 0, 1) := by decide +kernel
theorem dX5_doRest_52 : decode cX5_doRest 52 = .ok (.invokevirtual 210, 3) := by decide +kernel
theorem dX5_doRest_55 : decode cX5_doRest 55 = .ok (.aload_n 0, 1) := by decide +kernel
theorem dX5_doRest_56 : decode cX5_doRest 56 = .ok (.getfield 27, 3) := by decide +kernel
theorem dX5_doRest_59 : decode cX5_doRest 59 = .ok (.bipush 17, 2) := by decide +kernel
theorem dX5_doRest_61 : decode cX5_doRest 61 = .ok (.iload_n 1, 1) := by decide +kernel
theorem dX5_doRest_62 : decode cX5_doRest 62 = .ok (.iconst 0, 1) := by decide +kernel
theorem dX5_doRest_63 : decode cX5_doRest 63 = .ok (.invokevirtual 147, 3) := by decide +kernel
theorem dX5_doRest_66 : decode cX5_doRest 66 = .ok (.aload_n 0, 1) := by decide +kernel
theorem dX5_doRest_67 : decode cX5_doRest 67 = .ok (.getfield 20, 3) := by decide +kernel
theorem dX5_doRest_70 : decode cX5_doRest 70 = .ok (.bipush 36, 2) := by decide +kernel
theorem dX5_doRest_72 : decode cX5_doRest 72 = .ok (.invokevirtual 87, 3) := by decide +kernel
theorem dX5_doRest_75 : decode cX5_doRest 75 = .ok (.return_, 1) := by decide +kernel
theorem dX5_forRest_0 : decode cX5_forRest 0 = .ok (.aload_n 0, 1) := by decide +kernel
theorem dX5_forRest_1 : decode cX5_forRest 1 = .ok (.getfield 27, 3) := by decide +kernel
theorem dX5_forRest_4 : decode cX5_forRest 4 = .ok (.invokevirtual 156, 3) := by decide +kernel
theorem dX5_forRest_7 : decode cX5_forRest 7 = .ok (.istore_n 1, 1) := by decide +kernel
theorem dX5_forRest_8 : decode cX5_forRest 8 = .ok (.aload_n 0, 1) := by decide +kernel
theorem dX5_forRest_9 : decode cX5_forRest 9 = .ok (.getfield 27, 3) := by decide +kernel
theorem dX5_forRest_12 : decode cX5_forRest 12 = .ok (.invokevirtual 156, 3) := by decide +kernel
theorem dX5_forRest_15 : decode cX5_forRest 15 = .ok (.istore_n 2, 1) := by decide +kernel
theorem dX5_forRest_16 : decode cX5_forRest 16 = .ok (.aload_n 0, 1) := by decide +kernel
theorem dX5_forRest_17 : decode cX5_forRest 17 = .ok (.getfield 20, 3) := by decide +kernel
theorem dX5_forRest_20 : decode cX5_forRest 20 = .ok (.bipush 30, 2) := by decide +kernel
theorem dX5_forRest_22 : decode cX5_forRest 22 = .ok (.invokevirtual 90, 3) := by decide +kernel
theorem dX5_forRest_25 : decode cX5_forRest 25 = .ok (.aload_n 0, 1) := by decide +kernel
theorem dX5_forRest_26 : decode cX5_forRest 26 = .ok (.getfield 20, 3) := by decide +kernel
theorem dX5_forRest_29 : decode cX5_forRest 29 = .ok (.invokevirtual 123, 3) := by decide +kernel
theorem dX5_forRest_32 : decode cX5_forRest 32 = .ok (.aload_n 0, 1) := by decide +kernel
theorem dX5_forRest_33 : decode cX5_forRest 33 = .ok (.bipush 36, 2) := by decide +kernel
theorem dX5_forRest_35 : decode cX5_forRest 35 = .ok (.invokevirtual 235, 3) := by decide +kernel
theorem tw_622 : (.code yX5_optional cX5_optional 2 (some .boolean) : Cond) ∈ tw_W := tw_in (t8_4 (List.mem_of_getElem? (i := 213) rfl)) rfl
theorem tw_623 : ∀ w ∈ ([.methodLink RX5 235 yX5_optional, .instanceMethod yX5_optional, .selects RX5 yX5_optional yX5_optional, .initialized RX5] : List Cond), w ∈ tw_W := al_c (tw_in (t8_4 (List.mem_of_getElem? (i := 210) rfl)) rfl) (al_c (tw_in (t8_4 (List.mem_of_getElem? (i := 212) rfl)) rfl) (al_c (tw_in (t7_3 (q := (yX5_optional, 7)) (List.mem_of_getElem? (i := 10) rfl)) rfl) (al_c (tw_in (t8_1 (List.mem_of_getElem? (i := 9) rfl)) rfl) al_n)))
theorem dX5_forRest_38 : decode cX5_forRest 38 = .ok (.pop, 1) := by decide +kernel
theorem dX5_forRest_39 : decode cX5_forRest 39 = .ok (.aload_n 0, 1) := by decide +kernel
theorem dX5_forRest_40 : decode cX5_forRest 40 = .ok (.getfield 20, 3) := by decide +kernel
theorem dX5_forRest_43 : decode cX5_forRest 43 = .ok (.bipush 36, 2) := by decide +kernel
theorem dX5_forRest_45 : decode cX5_forRest 45 = .ok (.invokevirtual 87, 3) := by decide +kernel
theorem dX5_forRest_48 : decode cX5_forRest 48 = .ok (.aload_n 0, 1) := by decide +kernel
theorem dX5_forRest_49 : decode cX5_forRest 49 = .ok (.getfield 27, 3) := by decide +kernel
theorem dX5_forRest_52 : decode cX5_forRest 52 = .ok (.iload_n 1, 1) := by decide +kernel
theorem dX5_forRest_53 : decode cX5_forRest 53 = .ok (.invokevirtual 165, 3) := by decide +kernel
theorem dX5_forRest_56 : decode cX5_forRest 56 = .ok (.aload_n 0, 1) := by decide +kernel
theorem dX5_forRest_57 : decode cX5_forRest 57 = .ok (.getfield 27, 3) := by decide +kernel
theorem dX5_forRest_60 : decode cX5_forRest 60 = .ok (.bipush 24, 2) := by decide +kernel
theorem dX5_forRest_62 : decode cX5_forRest 62 = .ok (.iconst 0, 1) := by decide +kernel
theorem dX5_forRest_63 : decode cX5_forRest 63 = .ok (.iconst 0, 1) := by decide +kernel
theorem dX5_forRest_64 : decode cX5_forRest 64 = .ok (.invokevirtual 147, 3) := by decide +kernel
theorem dX5_forRest_67 : decode cX5_forRest 67 = .ok (.aload_n 0, 1) := by decide +kernel
theorem dX5_forRest_68 : decode cX5_forRest 68 = .ok (.bipush 36, 2) := by decide +kernel
theorem dX5_forRest_70 : decode cX5_forRest 70 = .ok (.invokevirtual 235, 3) := by decide +kernel
theorem dX5_forRest_73 : decode cX5_forRest 73 = .ok (.ifCond .eq 17, 3) := by decide +kernel
theorem dX5_forRest_90 : decode cX5_forRest 90 = .ok (.aload_n 0, 1) := by decide +kernel
theorem dX5_forRest_91 : decode cX5_forRest 91 = .ok (.getfield 20, 3) := by decide +kernel
theorem dX5_forRest_94 : decode cX5_forRest 94 = .ok (.bipush 36, 2) := by decide +kernel
theorem dX5_forRest_96 : decode cX5_forRest 96 = .ok (.invokevirtual 87, 3) := by decide +kernel
theorem dX5_forRest_99 : decode cX5_forRest 99 = .ok (.aload_n 0, 1) := by decide +kernel
theorem dX5_forRest_100 : decode cX5_forRest 100 = .ok (.getfield 27, 3) := by decide +kernel
theorem dX5_forRest_103 : decode cX5_forRest 103 = .ok (.bipush 19, 2) := by decide +kernel
theorem dX5_forRest_105 : decode cX5_forRest 105 = .ok (.iload_n 2, 1) := by decide +kernel
theorem dX5_forRest_106 : decode cX5_forRest 106 = .ok (.iconst 0, 1) := by decide +kernel
theorem dX5_forRest_107 : decode cX5_forRest 107 = .ok (.invokevirtual 147, 3) := by decide +kernel
theorem dX5_forRest_110 : decode cX5_forRest 110 = .ok (.aload_n 0, 1) := by decide +kernel
theorem dX5_forRest_111 : decode cX5_forRest 111 = .ok (.getfield 27, 3) := by decide +kernel
theorem dX5_forRest_114 : decode cX5_forRest 114 = .ok (.aload_n 0, 1) := by decide +kernel
theorem dX5_forRest_115 : decode cX5_forRest 115 = .ok (.getfield 153, 3) := by decide +kernel
theorem dX5_forRest_118 : decode cX5_forRest 118 = .ok (.invokevirtual 165, 3) := by decide +kernel
theorem dX5_forRest_121 : decode cX5_forRest 121 = .ok (.aload_n 0, 1) := by decide +kernel
theorem dX5_forRest_122 : decode cX5_forRest 122 = .ok (.bipush 31, 2) := by decide +kernel
theorem dX5_forRest_124 : decode cX5_forRest 124 = .ok (.invokevirtual 235, 3) := by decide +kernel
theorem dX5_forRest_127 : decode cX5_forRest 127 = .ok (.pop, 1) := by decide +kernel
theorem dX5_forRest_128 : decode cX5_forRest 128 = .ok (.aload_n 0, 1) := by decide +kernel
theorem dX5_forRest_129 : decode cX5_forRest 129 = .ok (.getfield 20, 3) := by decide +kernel
theorem dX5_forRest_132 : decode cX5_forRest 132 = .ok (.bipush 31, 2) := by decide +kernel
theorem dX5_forRest_134 : decode cX5_forRest 134 = .ok (.invokevirtual 87, 3) := by decide +kernel
theorem dX5_forRest_137 : decode cX5_forRest 137 = .ok (.aload_n 0, 1) := by decide +kernel
theorem dX5_forRest_138 : decode cX5_forRest 138 = .ok (.getfield 20, 3) := by decide +kernel
theorem dX5_forRest_141 : decode cX5_forRest 141 = .ok (.invokevirtual 126, 3) := by decide +kernel
theorem dX5_forRest_144 : decode cX5_forRest 144 = .ok (.aload_n 0, 1) := by decide +kernel
theorem dX5_forRest_145 : decode cX5_forRest 145 = .ok (.getfield 27, 3) := by decide +kernel
theorem dX5_forRest_148 : decode cX5_forRest 148 = .ok (.bipush 19, 2) := by decide +kernel
theorem dX5_forRest_150 : decode cX5_forRest 150 = .ok (.iload_n 1, 1) := by decide +kernel
theorem dX5_forRest_151 : decode cX5_forRest 151 = .ok (.iconst 0, 1) := by decide +kernel
theorem dX5_forRest_152 : decode cX5_forRest 152 = .ok (.invokevirtual 147, 3) := by decide +kernel
theorem dX5_forRest_155 : decode cX5_forRest 155 = .ok (.aload_n 0, 1) := by decide +kernel
theorem dX5_forRest_156 : decode cX5_forRest 156 = .ok (.getfield 27, 3) := by decide +kernel
theorem dX5_forRest_159 : decode cX5_forRest 159 = .ok (.iload_n 2, 1) := by decide +kernel
theorem dX5_forRest_160 : decode cX5_forRest 160 = .ok (.invokevirtual 165, 3) := by decide +kernel
theorem dX5_forRest_163 : decode cX5_forRest 163 = .ok (.aload_n 0, 1) := by decide +kernel
theorem dX5_forRest_164 : decode cX5_forRest 164 = .ok (.invokevirtual 223, 3) := by decide +kernel
theorem dX5_forRest_167 : decode cX5_forRest 167 = .ok (.aload_n 0, 1) := by decide +kernel
theorem dX5_forRest_168 : decode cX5_forRest 168 = .ok (.getfield 27, 3) := by decide +kernel
theorem dX5_forRest_171 : decode cX5_forRest 171 = .ok (.bipush 19, 2) := by decide +kernel
theorem dX5_forRest_173 : decode cX5_forRest 173 = .ok (.aload_n 0, 1) := by decide +kernel
theorem dX5_forRest_174 : decode cX5_forRest 174 = .ok (.getfield 153, 3) := by decide +kernel
theorem dX5_forRest_177 : decode cX5_forRest 177 = .ok (.iconst 0, 1) := by decide +kernel
theorem dX5_forRest_178 : decode cX5_forRest 178 = .ok (.invokevirtual 147, 3) := by decide +kernel
theorem dX5_forRest_181 : decode cX5_forRest 181 = .ok (.return_, 1) := by decide +kernel
theorem dX5_forRest_76 : decode cX5_forRest 76 = .ok (.aload_n 0, 1) := by decide +kernel
theorem dX5_forRest_77 : decode cX5_forRest 77 = .ok (.getfield 27, 3) := by decide +kernel
theorem dX5_forRest_80 : decode cX5_forRest 80 = .ok (.bipush 16, 2) := by decide +kernel
theorem dX5_forRest_82 : decode cX5_forRest 82 = .ok (.aload_n 0, 1) := by decide +kernel
theorem dX5_forRest_83 : decode cX5_forRest 83 = .ok (.getfield 150, 3) := by decide +kernel
theorem dX5_forRest_86 : decode cX5_forRest 86 = .ok (.iconst 0, 1) := by decide +kernel
theorem dX5_forRest_87 : decode cX5_forRest 87 = .ok (.invokevirtual 147, 3) := by decide +kernel
theorem dX5_block_0 : decode cX5_block 0 = .ok (.aload_n 0, 1) := by decide +kernel
theorem dX5_block_1 : decode cX5_block 1 = .ok (.getfield 27, 3) := by decide +kernel
theorem dX5_block_4 : decode cX5_block 4 = .ok (.getfield 141, 3) := by decide +kernel
theorem dX5_block_7 : decode cX5_block 7 = .ok (.istore_n 1, 1) := by decide +kernel
theorem dX5_block_8 : decode cX5_block 8 = .ok (.aload_n 0, 1) := by decide +kernel
theorem dX5_block_9 : decode cX5_block 9 = .ok (.getfield 27, 3) := by decide +kernel
theorem dX5_block_12 : decode cX5_block 12 = .ok (.getfield 217, 3) := by decide +kernel
theorem dX5_block_15 : decode cX5_block 15 = .ok (.istore_n 2, 1) := by decide +kernel
theorem dX5_block_16 : decode cX5_block 16 = .ok (.aload_n 0, 1) := by decide +kernel
theorem dX5_block_17 : decode cX5_block 17 = .ok (.getfield 27, 3) := by decide +kernel
theorem dX5_block_20 : decode cX5_block 20 = .ok (.iload_n 1, 1) := by decide +kernel
theorem dX5_block_21 : decode cX5_block 21 = .ok (.putfield 217, 3) := by decide +kernel
theorem dX5_block_24 : decode cX5_block 24 = .ok (.aload_n 0, 1) := by decide +kernel
theorem dX5_block_25 : decode cX5_block 25 = .ok (.getfield 20, 3) := by decide +kernel
theorem dX5_block_28 : decode cX5_block 28 = .ok (.invokevirtual 123, 3) := by decide +kernel
theorem dX5_block_31 : decode cX5_block 31 = .ok (.aload_n 0, 1) := by decide +kernel
theorem dX5_block_32 : decode cX5_block 32 = .ok (.invokevirtual 162, 3) := by decide +kernel
theorem tw_624 : (.code yX5_stats cX5_stats 2 none : Cond) ∈ tw_W := tw_in (t8_4 (List.mem_of_getElem? (i := 62) rfl)) rfl
theorem tw_625 : ∀ w ∈ ([.methodLink RX5 162 yX5_stats, .instanceMethod yX5_stats, .selects RX5 yX5_stats yX5_stats, .initialized RX5] : List Cond), w ∈ tw_W := al_c (tw_in (t8_4 (List.mem_of_getElem? (i := 59) rfl)) rfl) (al_c (tw_in (t8_4 (List.mem_of_getElem? (i := 61) rfl)) rfl) (al_c (tw_in (t7_2 (q := (yX5_stats, 7)) (List.mem_of_getElem? (i := 2) rfl)) rfl) (al_c (tw_in (t8_1 (List.mem_of_getElem? (i := 9) rfl)) rfl) al_n)))
theorem dX5_block_35 : decode cX5_block 35 = .ok (.aload_n 0, 1) := by decide +kernel
theorem dX5_block_36 : decode cX5_block 36 = .ok (.getfield 20, 3) := by decide +kernel
theorem dX5_block_39 : decode cX5_block 39 = .ok (.bipush 33, 2) := by decide +kernel
theorem dX5_block_41 : decode cX5_block 41 = .ok (.invokevirtual 87, 3) := by decide +kernel
theorem dX5_block_44 : decode cX5_block 44 = .ok (.aload_n 0, 1) := by decide +kernel
theorem dX5_block_45 : decode cX5_block 45 = .ok (.getfield 20, 3) := by decide +kernel
theorem dX5_block_48 : decode cX5_block 48 = .ok (.invokevirtual 126, 3) := by decide +kernel
theorem dX5_block_51 : decode cX5_block 51 = .ok (.aload_n 0, 1) := by decide +kernel
theorem dX5_block_52 : decode cX5_block 52 = .ok (.getfield 27, 3) := by decide +kernel
theorem dX5_block_55 : decode cX5_block 55 = .ok (.iload_n 1, 1) := by decide +kernel
theorem dX5_block_56 : decode cX5_block 56 = .ok (.putfield 141, 3) := by decide +kernel
theorem dX5_block_59 : decode cX5_block 59 = .ok (.aload_n 0, 1) := by decide +kernel
theorem dX5_block_60 : decode cX5_block 60 = .ok (.getfield 27, 3) := by decide +kernel
theorem dX5_block_63 : decode cX5_block 63 = .ok (.iload_n 2, 1) := by decide +kernel
theorem dX5_block_64 : decode cX5_block 64 = .ok (.putfield 217, 3) := by decide +kernel
theorem dX5_block_67 : decode cX5_block 67 = .ok (.return_, 1) := by decide +kernel
theorem dX5_ifStat_0 : decode cX5_ifStat 0 = .ok (.aload_n 0, 1) := by decide +kernel
theorem dX5_ifStat_1 : decode cX5_ifStat 1 = .ok (.getfield 27, 3) := by decide +kernel
theorem dX5_ifStat_4 : decode cX5_ifStat 4 = .ok (.invokevirtual 156, 3) := by decide +kernel
theorem dX5_ifStat_7 : decode cX5_ifStat 7 = .ok (.istore_n 1, 1) := by decide +kernel
theorem dX5_ifStat_8 : decode cX5_ifStat 8 = .ok (.aload_n 0, 1) := by decide +kernel
theorem dX5_ifStat_9 : decode cX5_ifStat 9 = .ok (.getfield 20, 3) := by decide +kernel
theorem dX5_ifStat_12 : decode cX5_ifStat 12 = .ok (.invokevirtual 123, 3) := by decide +kernel
theorem dX5_ifStat_15 : decode cX5_ifStat 15 = .ok (.aload_n 0, 1) := by decide +kernel
theorem dX5_ifStat_16 : decode cX5_ifStat 16 = .ok (.invokevirtual 210, 3) := by decide +kernel
theorem dX5_ifStat_19 : decode cX5_ifStat 19 = .ok (.aload_n 0, 1) := by decide +kernel
theorem dX5_ifStat_20 : decode cX5_ifStat 20 = .ok (.getfield 27, 3) := by decide +kernel
theorem dX5_ifStat_23 : decode cX5_ifStat 23 = .ok (.bipush 16, 2) := by decide +kernel
theorem dX5_ifStat_25 : decode cX5_ifStat 25 = .ok (.iload_n 1, 1) := by decide +kernel
theorem dX5_ifStat_26 : decode cX5_ifStat 26 = .ok (.iconst 0, 1) := by decide +kernel
theorem dX5_ifStat_27 : decode cX5_ifStat 27 = .ok (.invokevirtual 147, 3) := by decide +kernel
theorem dX5_ifStat_30 : decode cX5_ifStat 30 = .ok (.aload_n 0, 1) := by decide +kernel
theorem dX5_ifStat_31 : decode cX5_ifStat 31 = .ok (.invokevirtual 223, 3) := by decide +kernel
theorem dX5_ifStat_34 : decode cX5_ifStat 34 = .ok (.aload_n 0, 1) := by decide +kernel
theorem dX5_ifStat_35 : decode cX5_ifStat 35 = .ok (.getfield 20, 3) := by decide +kernel
theorem dX5_ifStat_38 : decode cX5_ifStat 38 = .ok (.invokevirtual 48, 3) := by decide +kernel
theorem dX5_ifStat_41 : decode cX5_ifStat 41 = .ok (.bipush 12, 2) := by decide +kernel
theorem dX5_ifStat_43 : decode cX5_ifStat 43 = .ok (.if_icmp .ne 52, 3) := by decide +kernel
theorem dX5_ifStat_95 : decode cX5_ifStat 95 = .ok (.aload_n 0, 1) := by decide +kernel
theorem dX5_ifStat_96 : decode cX5_ifStat 96 = .ok (.getfield 27, 3) := by decide +kernel
theorem dX5_ifStat_99 : decode cX5_ifStat 99 = .ok (.iload_n 1, 1) := by decide +kernel
theorem dX5_ifStat_100 : decode cX5_ifStat 100 = .ok (.invokevirtual 165, 3) := by decide +kernel
theorem dX5_ifStat_103 : decode cX5_ifStat 103 = .ok (.aload_n 0, 1) := by decide +kernel
theorem dX5_ifStat_104 : decode cX5_ifStat 104 = .ok (.getfield 20, 3) := by decide +kernel
theorem dX5_ifStat_107 : decode cX5_ifStat 107 = .ok (.invokevirtual 126, 3) := by decide +kernel
theorem dX5_ifStat_110 : decode cX5_ifStat 110 = .ok (.return_, 1) := by decide +kernel
theorem dX5_ifStat_46 : decode cX5_ifStat 46 = .ok (.aload_n 0, 1) := by decide +kernel
theorem dX5_ifStat_47 : decode cX5_ifStat 47 = .ok (.getfield 27, 3) := by decide +kernel
theorem dX5_ifStat_50 : decode cX5_ifStat 50 = .ok (.invokevirtual 156, 3) := by decide +kernel
theorem dX5_ifStat_53 : decode cX5_ifStat 53 = .ok (.istore_n 2, 1) := by decide +kernel
theorem dX5_ifStat_54 : decode cX5_ifStat 54 = .ok (.aload_n 0, 1) := by decide +kernel
theorem dX5_ifStat_55 : decode cX5_ifStat 55 = .ok (.getfield 20, 3) := by decide +kernel
theorem dX5_ifStat_58 : decode cX5_ifStat 58 = .ok (.invokevirtual 117, 3) := by decide +kernel
theorem dX5_ifStat_61 : decode cX5_ifStat 61 = .ok (.aload_n 0, 1) := by decide +kernel
theorem dX5_ifStat_62 : decode cX5_ifStat 62 = .ok (.getfield 27, 3) := by decide +kernel
theorem dX5_ifStat_65 : decode cX5_ifStat 65 = .ok (.bipush 19, 2) := by decide +kernel
theorem dX5_ifStat_67 : decode cX5_ifStat 67 = .ok (.iload_n 2, 1) := by decide +kernel
theorem dX5_ifStat_68 : decode cX5_ifStat 68 = .ok (.iconst 0, 1) := by decide +kernel
theorem dX5_ifStat_69 : decode cX5_ifStat 69 = .ok (.invokevirtual 147, 3) := by decide +kernel
theorem dX5_ifStat_72 : decode cX5_ifStat 72 = .ok (.aload_n 0, 1) := by decide +kernel
theorem dX5_ifStat_73 : decode cX5_ifStat 73 = .ok (.getfield 27, 3) := by decide +kernel
theorem dX5_ifStat_76 : decode cX5_ifStat 76 = .ok (.iload_n 1, 1) := by decide +kernel
theorem dX5_ifStat_77 : decode cX5_ifStat 77 = .ok (.invokevirtual 165, 3) := by decide +kernel
theorem dX5_ifStat_80 : decode cX5_ifStat 80 = .ok (.aload_n 0, 1) := by decide +kernel
theorem dX5_ifStat_81 : decode cX5_ifStat 81 = .ok (.invokevirtual 223, 3) := by decide +kernel
theorem dX5_ifStat_84 : decode cX5_ifStat 84 = .ok (.aload_n 0, 1) := by decide +kernel
theorem dX5_ifStat_85 : decode cX5_ifStat 85 = .ok (.getfield 27, 3) := by decide +kernel
theorem dX5_ifStat_88 : decode cX5_ifStat 88 = .ok (.iload_n 2, 1) := by decide +kernel
theorem dX5_ifStat_89 : decode cX5_ifStat 89 = .ok (.invokevirtual 165, 3) := by decide +kernel
theorem dX5_ifStat_92 : decode cX5_ifStat 92 = .ok (.goto 11, 3) := by decide +kernel
theorem dX5_loopStat_0 : decode cX5_loopStat 0 = .ok (.aload_n 0, 1) := by decide +kernel
theorem dX5_loopStat_1 : decode cX5_loopStat 1 = .ok (.getfield 150, 3) := by decide +kernel
theorem dX5_loopStat_4 : decode cX5_loopStat 4 = .ok (.istore_n 2, 1) := by decide +kernel
theorem dX5_loopStat_5 : decode cX5_loopStat 5 = .ok (.aload_n 0, 1) := by decide +kernel
theorem dX5_loopStat_6 : decode cX5_loopStat 6 = .ok (.getfield 153, 3) := by decide +kernel
theorem dX5_loopStat_9 : decode cX5_loopStat 9 = .ok (.istore_n 3, 1) := by decide +kernel
theorem dX5_loopStat_10 : decode cX5_loopStat 10 = .ok (.aload_n 0, 1) := by decide +kernel
theorem dX5_loopStat_11 : decode cX5_loopStat 11 = .ok (.aload_n 0, 1) := by decide +kernel
theorem dX5_loopStat_12 : decode cX5_loopStat 12 = .ok (.getfield 27, 3) := by decide +kernel
theorem dX5_loopStat_15 : decode cX5_loopStat 15 = .ok (.invokevirtual 156, 3) := by decide +kernel
theorem dX5_loopStat_18 : decode cX5_loopStat 18 = .ok (.putfield 150, 3) := by decide +kernel
theorem dX5_loopStat_21 : decode cX5_loopStat 21 = .ok (.aload_n 0, 1) := by decide +kernel
theorem dX5_loopStat_22 : decode cX5_loopStat 22 = .ok (.aload_n 0, 1) := by decide +kernel
theorem dX5_loopStat_23 : decode cX5_loopStat 23 = .ok (.getfield 27, 3) := by decide +kernel
theorem dX5_loopStat_26 : decode cX5_loopStat 26 = .ok (.invokevirtual 156, 3) := by decide +kernel
theorem dX5_loopStat_29 : decode cX5_loopStat 29 = .ok (.putfield 153, 3) := by decide +kernel
theorem dX5_loopStat_32 : decode cX5_loopStat 32 = .ok (.aload_n 0, 1) := by decide +kernel
theorem dX5_loopStat_33 : decode cX5_loopStat 33 = .ok (.getfield 20, 3) := by decide +kernel
theorem dX5_loopStat_36 : decode cX5_loopStat 36 = .ok (.invokevirtual 123, 3) := by decide +kernel
theorem dX5_loopStat_39 : decode cX5_loopStat 39 = .ok (.iload_n 1, 1) := by decide +kernel
theorem dX5_loopStat_40 : decode cX5_loopStat 40 = .ok (.bipush 13, 2) := by decide +kernel
theorem dX5_loopStat_42 : decode cX5_loopStat 42 = .ok (.if_icmp .ne 10, 3) := by decide +kernel
theorem dX5_loopStat_52 : decode cX5_loopStat 52 = .ok (.iload_n 1, 1) := by decide +kernel
theorem dX5_loopStat_53 : decode cX5_loopStat 53 = .ok (.bipush 14, 2) := by decide +kernel
theorem dX5_loopStat_55 : decode cX5_loopStat 55 = .ok (.if_icmp .ne 10, 3) := by decide +kernel
theorem dX5_loopStat_65 : decode cX5_loopStat 65 = .ok (.aload_n 0, 1) := by decide +kernel
theorem dX5_loopStat_66 : decode cX5_loopStat 66 = .ok (.invokevirtual 232, 3) := by decide +kernel
theorem tw_626 : (.code yX5_forRest cX5_forRest 3 none : Cond) ∈ tw_W := tw_in (t8_4 (List.mem_of_getElem? (i := 209) rfl)) rfl
theorem tw_627 : ∀ w ∈ ([.methodLink RX5 232 yX5_forRest, .instanceMethod yX5_forRest, .selects RX5 yX5_forRest yX5_forRest, .initialized RX5] : List Cond), w ∈ tw_W := al_c (tw_in (t8_4 (List.mem_of_getElem? (i := 206) rfl)) rfl) (al_c (tw_in (t8_4 (List.mem_of_getElem? (i := 208) rfl)) rfl) (al_c (tw_in (t7_3 (q := (yX5_forRest, 7)) (List.mem_of_getElem? (i := 9) rfl)) rfl) (al_c (tw_in (t8_1 (List.mem_of_getElem? (i := 9) rfl)) rfl) al_n)))
theorem dX5_loopStat_69 : decode cX5_loopStat 69 = .ok (.aload_n 0, 1) := by decide +kernel
theorem dX5_loopStat_70 : decode cX5_loopStat 70 = .ok (.getfield 27, 3) := by decide +kernel
theorem dX5_loopStat_73 : decode cX5_loopStat 73 = .ok (.aload_n 0, 1) := by decide +kernel
theorem dX5_loopStat_74 : decode cX5_loopStat 74 = .ok (.getfield 150, 3) := by decide +kernel
theorem dX5_loopStat_77 : decode cX5_loopStat 77 = .ok (.invokevirtual 165, 3) := by decide +kernel
theorem dX5_loopStat_80 : decode cX5_loopStat 80 = .ok (.aload_n 0, 1) := by decide +kernel
theorem dX5_loopStat_81 : decode cX5_loopStat 81 = .ok (.getfield 20, 3) := by decide +kernel
theorem dX5_loopStat_84 : decode cX5_loopStat 84 = .ok (.invokevirtual 126, 3) := by decide +kernel
theorem dX5_loopStat_87 : decode cX5_loopStat 87 = .ok (.aload_n 0, 1) := by decide +kernel
theorem dX5_loopStat_88 : decode cX5_loopStat 88 = .ok (.iload_n 2, 1) := by decide +kernel
theorem dX5_loopStat_89 : decode cX5_loopStat 89 = .ok (.putfield 150, 3) := by decide +kernel
theorem dX5_loopStat_92 : decode cX5_loopStat 92 = .ok (.aload_n 0, 1) := by decide +kernel
theorem dX5_loopStat_93 : decode cX5_loopStat 93 = .ok (.iload_n 3, 1) := by decide +kernel
theorem dX5_loopStat_94 : decode cX5_loopStat 94 = .ok (.putfield 153, 3) := by decide +kernel
theorem dX5_loopStat_97 : decode cX5_loopStat 97 = .ok (.return_, 1) := by decide +kernel
theorem dX5_loopStat_58 : decode cX5_loopStat 58 = .ok (.aload_n 0, 1) := by decide +kernel
theorem dX5_loopStat_59 : decode cX5_loopStat 59 = .ok (.invokevirtual 229, 3) := by decide +kernel
theorem tw_628 : (.code yX5_doRest cX5_doRest 2 none : Cond) ∈ tw_W := tw_in (t8_4 (List.mem_of_getElem? (i := 205) rfl)) rfl
theorem tw_629 : ∀ w ∈ ([.methodLink RX5 229 yX5_doRest, .instanceMethod yX5_doRest, .selects RX5 yX5_doRest yX5_doRest, .initialized RX5] : List Cond), w ∈ tw_W := al_c (tw_in (t8_4 (List.mem_of_getElem? (i := 202) rfl)) rfl) (al_c (tw_in (t8_4 (List.mem_of_getElem? (i := 204) rfl)) rfl) (al_c (tw_in (t7_3 (q := (yX5_doRest, 7)) (List.mem_of_getElem? (i := 8) rfl)) rfl) (al_c (tw_in (t8_1 (List.mem_of_getElem? (i := 9) rfl)) rfl) al_n)))
theorem dX5_loopStat_62 : decode cX5_loopStat 62 = .ok (.goto 7, 3) := by decide +kernel
theorem dX5_loopStat_45 : decode cX5_loopStat 45 = .ok (.aload_n 0, 1) := by decide +kernel
theorem dX5_loopStat_46 : decode cX5_loopStat 46 = .ok (.invokevirtual 226, 3) := by decide +kernel
theorem tw_630 : (.code yX5_whileRest cX5_whileRest 1 none : Cond) ∈ tw_W := tw_in (t8_4 (List.mem_of_getElem? (i := 201) rfl)) rfl
theorem tw_631 : ∀ w ∈ ([.methodLink RX5 226 yX5_whileRest, .instanceMethod yX5_whileRest, .selects RX5 yX5_whileRest yX5_whileRest, .initialized RX5] : List Cond), w ∈ tw_W := al_c (tw_in (t8_4 (List.mem_of_getElem? (i := 198) rfl)) rfl) (al_c (tw_in (t8_4 (List.mem_of_getElem? (i := 200) rfl)) rfl) (al_c (tw_in (t7_3 (q := (yX5_whileRest, 7)) (List.mem_of_getElem? (i := 7) rfl)) rfl) (al_c (tw_in (t8_1 (List.mem_of_getElem? (i := 9) rfl)) rfl) al_n)))
theorem dX5_loopStat_49 : decode cX5_loopStat 49 = .ok (.goto 20, 3) := by decide +kernel
theorem om_7b3d5df7aa {n0 : Nat} : 0 + 1 ≤ 8 * n0 + 42 := by omega
theorem om_8b45c8e7c0 {n0 : Nat} : 8 + (2 + 11) + 0 ≤ 28 * (8 * n0 + 42) := by omega
theorem om_a3857ee34e {n0 : Nat} : 8 + (5 + 11) + 0 ≤ 28 * (8 * n0 + 42) := by omega
theorem om_fb00cfe62c {n0 : Nat} : (8 * n0 + 14) + 1 ≤ 8 * n0 + 42 := by omega
theorem om_cdb869e629 {n0 : Nat} : 8 + (1 + 11) + 28 * (8 * n0 + 14) ≤ 28 * (8 * n0 + 42) := by omega
theorem om_4c50098c67 {x0 x2 x3 x4 x5 : Int} {n1 : Nat} (h0 : 40 ≤ x0 + (n1 : Int)) (h1 : x2 = x0) (h2 : x3 = x2) (h3 : x4 = x3) (h4 : x5 = x4) : 40 ≤ x5 + (n1 : Int) := by omega
theorem om_3aa7ceaff2 {n0 : Nat} : (8 * n0 + 41) + 1 ≤ 8 * n0 + 42 := by omega
theorem om_b94a2b0ad7 {n0 : Nat} : 8 + (3 + 11) + 28 * (8 * n0 + 41) ≤ 28 * (8 * n0 + 42) := by omega
theorem om_0771acf62d {x0 x1 x2 x3 x4 x5 x6 : Int} (h0 : x0 = x1) (h1 : x2 = x0) (h2 : x3 = x2) (h3 : x4 = x3) (h4 : x5 = x4) (h5 : x6 = x5) : x6 = x1 := by omega
set_option maxHeartbeats 16000000 in
set_option maxRecDepth 100000 in
theorem c_x_X5_whileRest (l : Launch) (n : Nat) (S : Cq_stat l n) (dC : Nat → ClassId) (dI : Nat → Nat → Nat) (cI cB cZ cJ cR : ClassId) (tb : Nat → Nat) (sz : Nat) (ad : Nat → Nat) (pr : Int32 → Nat) (N : Nat) (L1 L2 : List Nat) (v : MS) (ps : Int32) (z304 : 0 ≤ (v.1 0 304).toInt ∧ (v.1 0 304).toInt ≤ 1503) (z306 : 0 ≤ (v.1 0 306).toInt ∧ (v.1 0 306).toInt ≤ 40) (z312 : 0 ≤ (v.1 0 312).toInt ∧ (v.1 0 312).toInt ≤ 500) (z321 : 0 ≤ (v.1 0 321).toInt ∧ (v.1 0 321).toInt ≤ 501) (z326 : 0 ≤ (v.1 0 326).toInt ∧ (v.1 0 326).toInt ≤ 420) (z373 : 0 ≤ (v.1 0 373).toInt ∧ (v.1 0 373).toInt ≤ 4000) (z381 : 0 ≤ (v.1 0 381).toInt ∧ (v.1 0 381).toInt ≤ 3008) (hL1 : L1.length = 40) (hL2 : L2.length = 60) (rp : RP v) (hps : pr ps = ad 908) (es300 : (v.1 0 300) = ps) (es310 : (v.1 0 310) = ps) (hst : l.stackTraces = false) (zn : 40 ≤ (v.1 0 306).toInt + (n : Int)) : vx_Met l yX5_whileRest (Cond.code yX5_whileRest cX5_whileRest 1 none :: tw_W) ({ frames := 8 * n + 42, cells := 1, slots := 6, locals := 28 * (8 * n + 42) }) (pc_ (dC, dI) (tyS cI cB cZ cJ cR) tb (cW ad pr N cI cR L1 L2 v) sz [.ref (ad 903)]) (qvz_ (dC, dI) (cW ad pr N cI cR L1 L2 v) sz (fun (u : MS) => FC [305, 306, 307, 312, 313, 314, 315, 317, 321, 326, 331, 332, 381] [0, 311, 316, 318, 319, 320, 324, 325, 378, 379, 380] v u ∧ (0 ≤ (u.1 0 306).toInt ∧ (u.1 0 306).toInt ≤ 40) ∧ (0 ≤ (u.1 0 312).toInt ∧ (u.1 0 312).toInt ≤ 500) ∧ (0 ≤ (u.1 0 321).toInt ∧ (u.1 0 321).toInt ≤ 501) ∧ (0 ≤ (u.1 0 326).toInt ∧ (u.1 0 326).toInt ≤ 420) ∧ (0 ≤ (u.1 0 381).toInt ∧ (u.1 0 381).toInt ≤ 3008) ∧ ((u.1 0 306).toInt = (v.1 0 306).toInt)) (fun (u : MS) => (cW ad pr N cI cR L1 L2 u))) (qxc (dC, dI) (cW ad pr N cI cR L1 L2 v) sz (fun (u : MS) => (cW ad pr N cI cR L1 L2 u)) (fun (u : MS) => FC xfl xal v u ∧ (u.1 0 308).toInt ≠ 0)) 1 6 (va_A (cW ad pr N cI cR L1 L2 v) sz) := by
  refine vx_ofW (cc := cX5_whileRest) (maxL := 1) (ret := none) (by decide) rfl ?_
  intro p e s m args below meth c s₁ B hml hnt hv
  obtain ⟨rfl, hsz, hP, hKK, hD0, hFx⟩ := hv
  have hK := hKK.1
  have hx := B.exec
  have hb := B.bytes
  have hr := B.returns
  have ht : ∀ w ∈ tw_W, w.before _ s = true := fun w h => atoms_spec (ws := Cond.code yX5_whileRest cX5_whileRest 1 none :: tw_W) B.pre w (List.mem_cons_of_mem _ h)
  have hown : s.vm.findClass RX5 = some m.cls := findClass_of_methodNamed B.named
  have hlocks := B.notSynchronized
  subst hsz
  unfold qvz_ qxc
  have hD := hD0.self (sz := s.heap.size)
  generalize hAe : va_A (cW ad pr N cI cR L1 L2 v) s.heap.size = A at hD hFx ⊢
  have hA : ∀ q : Nat, s.heap.size ≤ q → A q := fun q h => by rw [← hAe]; exact Or.inr h
  have hS : va_S A s.heap s.heap [] := va_S.rf
  have hl := lv_entry ([.ref (ad 903)]) (n := 1) (Nat.le_of_ble_eq_true rfl)
  rw [lg_entry_eq]
  generalize (lg_sl ([.ref (ad 903)]) ++ List.replicate (1 - (lg_sl ([.ref (ad 903)])).length) Slot.unset).toArray = ls at hl ⊢
  have hl : lv_has ls 1 [(0, .ref (ad 903))] := hl
  refine lv_aload_n hx hb dX5_whileRest_0 rfl (lv_at hl 0 rfl) ?_
  refine va_get (D := (dC, dI)) (ci := 8) (fs := oF_X5 ad pr v) (v := .ref (ad 901)) (C := RX5) (T := TX5) (N := 7) hx hb ht itX5 hown hK hP 3 rfl rfl 2 (by decide) (ht _ tw_573) (fun _ h9 => h9) rfl dX5_whileRest_1 ?_
  refine lv_aload_n hx hb dX5_whileRest_4 rfl (lv_at hl 0 rfl) ?_
  refine va_get (D := (dC, dI)) (ci := 8) (fs := oF_X5 ad pr v) (v := .int (v.1 0 332)) (C := RX5) (T := TX5) (N := 7) hx hb ht itX5 hown hK hP 3 rfl rfl 5 (by decide) (ht _ tw_614) (fun _ h9 => h9) rfl dX5_whileRest_5 ?_
  refine cu_v (rn_Vk (n := 1) (As := [.int (v.1 0 332)]) (rest := []) hx hb hml hown ht hKK hFx hP hD hS hA (c_x_X1_setLabel l dC dI cI cB cZ cJ cR tb s.heap.size ad pr N L1 L2 v (v.1 0 332) ps (show 0 ≤ (v.1 0 381).toInt ∧ (v.1 0 381).toInt ≤ 3008 from (om_e78eec72e1 z381)) (show pr ps = ad 908 from hps) (show (v.1 0 310) = ps from es310)) tw_514 tw_615 (by decide +kernel) rfl rfl ⟨show 0 + 1 ≤ 8 * n + 42 from om_7b3d5df7aa, show 8 + (2 + 11) + 0 ≤ 28 * (8 * n + 42) from om_8b45c8e7c0⟩ (List.range (cW ad pr N cI cR L1 L2 v).length) (rg_map _) (nd_range _) 1 rfl rfl rfl rfl hl.1 rfl (Nat.le_of_ble_eq_true rfl) dX5_whileRest_8 ⟨Nat.le_of_ble_eq_true rfl, Nat.le_of_ble_eq_true rfl⟩) hP hD hS hA (fun u2 H locs hw1 hP hD hS => ?_)
  have fr1 := hw1
  refine W.widen (k := 0) (n := 0) (Nat.le_refl _) (Nat.le_refl _) ?_
  refine lv_aload_n hx hb dX5_whileRest_11 rfl (lv_at hl 0 rfl) ?_
  refine va_get (D := (dC, dI)) (ci := 8) (fs := oF_X5 ad pr u2) (v := .ref (ad 901)) (C := RX5) (T := TX5) (N := 7) hx hb ht itX5 hown hK hP 3 rfl rfl 2 (by decide) (ht _ tw_573) (fun _ h9 => h9) rfl dX5_whileRest_12 ?_
  refine lv_bipush (v := 24) hx hb dX5_whileRest_15 (by decide) ?_
  refine lv_iconst (v := 0) hx hb dX5_whileRest_17 (by decide) ?_
  refine lv_iconst (v := 0) hx hb dX5_whileRest_18 (by decide) ?_
  have q4 : (u2.1 0 381).toInt = (v.1 0 381).toInt := congrArg Int32.toInt ((fr1.2.1 381 (by decide)).trans (show v.1 0 381 = (v.1 0 381) by rfl))
  refine cu_v (rn_Vk (n := 3) (As := [.int 24, .int 0, .int 0]) (rest := []) hx hb hml hown ht hKK hFx hP hD hS hA (c_x_X1_add l dC dI cI cB cZ cJ cR tb H.size ad pr N L1 L2 u2 (24 : Int32) (0 : Int32) (0 : Int32) ps (show 0 ≤ (u2.1 0 381).toInt ∧ (u2.1 0 381).toInt ≤ 3008 from (om_6e4eb11ad3 z381 q4)) (show pr ps = ad 908 from hps) (show (u2.1 0 310) = ps from (Eq.trans (fr1.2.1 310 (by decide)) es310))) tw_499 tw_592 (by decide +kernel) rfl rfl ⟨show 0 + 1 ≤ 8 * n + 42 from om_7b3d5df7aa, show 8 + (5 + 11) + 0 ≤ 28 * (8 * n + 42) from om_a3857ee34e⟩ (List.range (cW ad pr N cI cR L1 L2 u2).length) (rg_map _) (nd_range _) 1 rfl rfl rfl rfl hl.1 rfl (Nat.le_of_ble_eq_true rfl) dX5_whileRest_19 ⟨Nat.le_of_ble_eq_true rfl, Nat.le_of_ble_eq_true rfl⟩) hP hD hS hA (fun u6 H locs hw5 hP hD hS => ?_)
  obtain ⟨fr5, i3815⟩ := hw5
  have i3815 : 0 ≤ (u6.1 0 381).toInt ∧ (u6.1 0 381).toInt ≤ 3008 := i3815
  refine W.widen (k := 0) (n := 0) (Nat.le_refl _) (Nat.le_refl _) ?_
  refine lv_aload_n hx hb dX5_whileRest_22 rfl (lv_at hl 0 rfl) ?_
  have q8 : (u2.1 0 304).toInt = (v.1 0 304).toInt := congrArg Int32.toInt ((fr1.2.1 304 (by decide)).trans (show v.1 0 304 = (v.1 0 304) by rfl))
  have q9 : (u6.1 0 304).toInt = (u2.1 0 304).toInt := congrArg Int32.toInt ((fr5.2.1 304 (by decide)).trans (show u2.1 0 304 = (u2.1 0 304) by rfl))
  have q10 : (u2.1 0 306).toInt = (v.1 0 306).toInt := congrArg Int32.toInt ((fr1.2.1 306 (by decide)).trans (show v.1 0 306 = (v.1 0 306) by rfl))
  have q11 : (u6.1 0 306).toInt = (u2.1 0 306).toInt := congrArg Int32.toInt ((fr5.2.1 306 (by decide)).trans (show u2.1 0 306 = (u2.1 0 306) by rfl))
  have q12 : (u2.1 0 312).toInt = (v.1 0 312).toInt := congrArg Int32.toInt ((fr1.2.1 312 (by decide)).trans (show v.1 0 312 = (v.1 0 312) by rfl))
  have q13 : (u6.1 0 312).toInt = (u2.1 0 312).toInt := congrArg Int32.toInt ((fr5.2.1 312 (by decide)).trans (show u2.1 0 312 = (u2.1 0 312) by rfl))
  have q14 : (u2.1 0 321).toInt = (v.1 0 321).toInt := congrArg Int32.toInt ((fr1.2.1 321 (by decide)).trans (show v.1 0 321 = (v.1 0 321) by rfl))
  have q15 : (u6.1 0 321).toInt = (u2.1 0 321).toInt := congrArg Int32.toInt ((fr5.2.1 321 (by decide)).trans (show u2.1 0 321 = (u2.1 0 321) by rfl))
  have q16 : (u2.1 0 326).toInt = (v.1 0 326).toInt := congrArg Int32.toInt ((fr1.2.1 326 (by decide)).trans (show v.1 0 326 = (v.1 0 326) by rfl))
  have q17 : (u6.1 0 326).toInt = (u2.1 0 326).toInt := congrArg Int32.toInt ((fr5.2.1 326 (by decide)).trans (show u2.1 0 326 = (u2.1 0 326) by rfl))
  have q18 : (u2.1 0 373).toInt = (v.1 0 373).toInt := congrArg Int32.toInt ((fr1.2.1 373 (by decide)).trans (show v.1 0 373 = (v.1 0 373) by rfl))
  have q19 : (u6.1 0 373).toInt = (u2.1 0 373).toInt := congrArg Int32.toInt ((fr5.2.1 373 (by decide)).trans (show u2.1 0 373 = (u2.1 0 373) by rfl))
  refine W.sz (fun hz9 => ?_)
  refine czx_v (rx_Vk (n := 0) (As := []) (rest := []) hx hb hml hown ht hKK hFx hP hD hS hA (c_x_X5_condition l n dC dI cI cB cZ cJ cR tb H.size ad pr N L1 L2 u6 ps (show 0 ≤ (u6.1 0 304).toInt ∧ (u6.1 0 304).toInt ≤ 1503 from (om_dd87ee851a z304 q8 q9)) (show 0 ≤ (u6.1 0 306).toInt ∧ (u6.1 0 306).toInt ≤ 40 from (om_68f540929a z306 q10 q11)) (show 0 ≤ (u6.1 0 312).toInt ∧ (u6.1 0 312).toInt ≤ 500 from (om_8a5975ec21 z312 q12 q13)) (show 0 ≤ (u6.1 0 321).toInt ∧ (u6.1 0 321).toInt ≤ 501 from (om_4dfa815534 z321 q14 q15)) (show 0 ≤ (u6.1 0 326).toInt ∧ (u6.1 0 326).toInt ≤ 420 from (om_9591dea625 z326 q16 q17)) (show 0 ≤ (u6.1 0 373).toInt ∧ (u6.1 0 373).toInt ≤ 4000 from (om_03cd8767ac z373 q18 q19)) (show 0 ≤ (u6.1 0 381).toInt ∧ (u6.1 0 381).toInt ≤ 3008 from (om_e78eec72e1 i3815)) (show L1.length = 40 from hL1) (show L2.length = 60 from hL2) (show RP u6 from ((show FC [305, 306, 307, 312, 313, 314, 315, 317, 321, 326, 331, 332, 381] [0, 311, 316, 318, 319, 320, 324, 325, 378, 379, 380] v u6 from (FC.tr (FC.tr (FC.rf _) (FC.up fr1 (by decide) (by decide))) (FC.up fr5 (by decide) (by decide)))).1 rp)) (show pr ps = ad 908 from hps) (show (u6.1 0 300) = ps from (Eq.trans (fr5.2.1 300 (by decide)) (Eq.trans (fr1.2.1 300 (by decide)) es300))) (show (u6.1 0 310) = ps from (Eq.trans (fr5.2.1 310 (by decide)) (Eq.trans (fr1.2.1 310 (by decide)) es310))) (show l.stackTraces = false from hst) (show 40 ≤ (u6.1 0 306).toInt + (n : Int) from (om_ec198adb23 zn q10 q11))) tw_616 tw_617 (by decide +kernel) rfl rfl ⟨show (8 * n + 14) + 1 ≤ 8 * n + 42 from om_fb00cfe62c, show 8 + (1 + 11) + 28 * (8 * n + 14) ≤ 28 * (8 * n + 42) from om_cdb869e629⟩ (List.range (cW ad pr N cI cR L1 L2 u6).length) (rg_map _) (nd_range _) 3 rfl rfl rfl rfl hl.1 rfl (Nat.le_of_ble_eq_true rfl) dX5_whileRest_23 ⟨Nat.le_of_ble_eq_true rfl, Nat.le_of_ble_eq_true rfl⟩) hP hD hS hA (fun u9 ce9 q9 H locs hx9 hP hD hS hc9 hv9 hf9 => ?_) (fun u21 H locs hw20 hP hD hS hz8 => ?_)
  · exact vx_out (fun x h9 => (hnt x h9).elim) hlocks hc9 hv9 hf9 (fun t9 ht9 hv8 => ⟨u9, ⟨FC.tr (FC.tr (FC.tr (FC.rf _) (FC.up fr1 (by decide) (by decide))) (FC.up fr5 (by decide) (by decide))) hx9.1, hx9.2⟩, ⟨rfl, by rw [ht9]; exact hP, hD⟩, hS.F ht9⟩) hS.2.2 (Nat.le_refl _) (Nat.le_refl _)
  refine W.shrink (hz8.trans hz9) ?_
  obtain ⟨fr20, i30620, i32120, i32620, i38120, po20⟩ := hw20
  have i30620 : 0 ≤ (u21.1 0 306).toInt ∧ (u21.1 0 306).toInt ≤ 40 := i30620
  have i32120 : 0 ≤ (u21.1 0 321).toInt ∧ (u21.1 0 321).toInt ≤ 501 := i32120
  have i32620 : 0 ≤ (u21.1 0 326).toInt ∧ (u21.1 0 326).toInt ≤ 420 := i32620
  have i38120 : 0 ≤ (u21.1 0 381).toInt ∧ (u21.1 0 381).toInt ≤ 3008 := i38120
  have po20 : (u21.1 0 306).toInt = (u6.1 0 306).toInt := po20
  refine lv_aload_n hx hb dX5_whileRest_26 rfl (lv_at hl 0 rfl) ?_
  refine va_get (D := (dC, dI)) (ci := 8) (fs := oF_X5 ad pr u21) (v := .ref (ad 901)) (C := RX5) (T := TX5) (N := 7) hx hb ht itX5 hown hK hP 3 rfl rfl 2 (by decide) (ht _ tw_573) (fun _ h9 => h9) rfl dX5_whileRest_27 ?_
  refine lv_bipush (v := 16) hx hb dX5_whileRest_30 (by decide) ?_
  refine lv_aload_n hx hb dX5_whileRest_32 rfl (lv_at hl 0 rfl) ?_
  refine va_get (D := (dC, dI)) (ci := 8) (fs := oF_X5 ad pr u21) (v := .int (u21.1 0 331)) (C := RX5) (T := TX5) (N := 7) hx hb ht itX5 hown hK hP 3 rfl rfl 4 (by decide) (ht _ tw_618) (fun _ h9 => h9) rfl dX5_whileRest_33 ?_
  refine lv_iconst (v := 0) hx hb dX5_whileRest_36 (by decide) ?_
  refine cu_v (rn_Vk (n := 3) (As := [.int 16, .int (u21.1 0 331), .int 0]) (rest := []) hx hb hml hown ht hKK hFx hP hD hS hA (c_x_X1_add l dC dI cI cB cZ cJ cR tb H.size ad pr N L1 L2 u21 (16 : Int32) (u21.1 0 331) (0 : Int32) ps (show 0 ≤ (u21.1 0 381).toInt ∧ (u21.1 0 381).toInt ≤ 3008 from (om_e78eec72e1 i38120)) (show pr ps = ad 908 from hps) (show (u21.1 0 310) = ps from (Eq.trans (fr20.2.1 310 (by decide)) (Eq.trans (fr5.2.1 310 (by decide)) (Eq.trans (fr1.2.1 310 (by decide)) es310))))) tw_499 tw_592 (by decide +kernel) rfl rfl ⟨show 0 + 1 ≤ 8 * n + 42 from om_7b3d5df7aa, show 8 + (5 + 11) + 0 ≤ 28 * (8 * n + 42) from om_a3857ee34e⟩ (List.range (cW ad pr N cI cR L1 L2 u21).length) (rg_map _) (nd_range _) 1 rfl rfl rfl rfl hl.1 rfl (Nat.le_of_ble_eq_true rfl) dX5_whileRest_37 ⟨Nat.le_of_ble_eq_true rfl, Nat.le_of_ble_eq_true rfl⟩) hP hD hS hA (fun u24 H locs hw23 hP hD hS => ?_)
  obtain ⟨fr23, i38123⟩ := hw23
  have i38123 : 0 ≤ (u24.1 0 381).toInt ∧ (u24.1 0 381).toInt ≤ 3008 := i38123
  refine W.widen (k := 0) (n := 0) (Nat.le_refl _) (Nat.le_refl _) ?_
  refine lv_aload_n hx hb dX5_whileRest_40 rfl (lv_at hl 0 rfl) ?_
  have q26 : (u21.1 0 304).toInt = (u6.1 0 304).toInt := congrArg Int32.toInt ((fr20.2.1 304 (by decide)).trans (show u6.1 0 304 = (u6.1 0 304) by rfl))
  have q27 : (u24.1 0 304).toInt = (u21.1 0 304).toInt := congrArg Int32.toInt ((fr23.2.1 304 (by decide)).trans (show u21.1 0 304 = (u21.1 0 304) by rfl))
  have q28 : (u24.1 0 306).toInt = (u21.1 0 306).toInt := congrArg Int32.toInt ((fr23.2.1 306 (by decide)).trans (show u21.1 0 306 = (u21.1 0 306) by rfl))
  have q29 : (u21.1 0 312).toInt = (u6.1 0 312).toInt := congrArg Int32.toInt ((fr20.2.1 312 (by decide)).trans (show u6.1 0 312 = (u6.1 0 312) by rfl))
  have q30 : (u24.1 0 312).toInt = (u21.1 0 312).toInt := congrArg Int32.toInt ((fr23.2.1 312 (by decide)).trans (show u21.1 0 312 = (u21.1 0 312) by rfl))
  have q31 : (u24.1 0 321).toInt = (u21.1 0 321).toInt := congrArg Int32.toInt ((fr23.2.1 321 (by decide)).trans (show u21.1 0 321 = (u21.1 0 321) by rfl))
  have q32 : (u24.1 0 326).toInt = (u21.1 0 326).toInt := congrArg Int32.toInt ((fr23.2.1 326 (by decide)).trans (show u21.1 0 326 = (u21.1 0 326) by rfl))
  have q33 : (u21.1 0 373).toInt = (u6.1 0 373).toInt := congrArg Int32.toInt ((fr20.2.1 373 (by decide)).trans (show u6.1 0 373 = (u6.1 0 373) by rfl))
  have q34 : (u24.1 0 373).toInt = (u21.1 0 373).toInt := congrArg Int32.toInt ((fr23.2.1 373 (by decide)).trans (show u21.1 0 373 = (u21.1 0 373) by rfl))
  refine W.sz (fun hz9 => ?_)
  refine czx_v (rx_Vk (n := 0) (As := []) (rest := []) hx hb hml hown ht hKK hFx hP hD hS hA (c_x_X5_innerStat l n S dC dI cI cB cZ cJ cR tb H.size ad pr N L1 L2 u24 ps (show 0 ≤ (u24.1 0 304).toInt ∧ (u24.1 0 304).toInt ≤ 1503 from (om_8044691ca6 z304 q8 q9 q26 q27)) (show 0 ≤ (u24.1 0 306).toInt ∧ (u24.1 0 306).toInt ≤ 40 from (om_99e115f631 i30620 q28)) (show 0 ≤ (u24.1 0 312).toInt ∧ (u24.1 0 312).toInt ≤ 500 from (om_31e0c91fb9 z312 q12 q13 q29 q30)) (show 0 ≤ (u24.1 0 321).toInt ∧ (u24.1 0 321).toInt ≤ 501 from (om_ff27494c0e i32120 q31)) (show 0 ≤ (u24.1 0 326).toInt ∧ (u24.1 0 326).toInt ≤ 420 from (om_8ed0dedb19 i32620 q32)) (show 0 ≤ (u24.1 0 373).toInt ∧ (u24.1 0 373).toInt ≤ 4000 from (om_fdcbb58227 z373 q18 q19 q33 q34)) (show 0 ≤ (u24.1 0 381).toInt ∧ (u24.1 0 381).toInt ≤ 3008 from (om_e78eec72e1 i38123)) (show L1.length = 40 from hL1) (show L2.length = 60 from hL2) (show RP u24 from ((show FC [305, 306, 307, 312, 313, 314, 315, 317, 321, 326, 331, 332, 381] [0, 311, 316, 318, 319, 320, 324, 325, 378, 379, 380] v u24 from (FC.tr (FC.tr (FC.tr (FC.tr (FC.rf _) (FC.up fr1 (by decide) (by decide))) (FC.up fr5 (by decide) (by decide))) (FC.up fr20 (by decide) (by decide))) (FC.up fr23 (by decide) (by decide)))).1 rp)) (show pr ps = ad 908 from hps) (show (u24.1 0 300) = ps from (Eq.trans (fr23.2.1 300 (by decide)) (Eq.trans (fr20.2.1 300 (by decide)) (Eq.trans (fr5.2.1 300 (by decide)) (Eq.trans (fr1.2.1 300 (by decide)) es300))))) (show (u24.1 0 310) = ps from (Eq.trans (fr23.2.1 310 (by decide)) (Eq.trans (fr20.2.1 310 (by decide)) (Eq.trans (fr5.2.1 310 (by decide)) (Eq.trans (fr1.2.1 310 (by decide)) es310))))) (show l.stackTraces = false from hst) (show 40 ≤ (u24.1 0 306).toInt + (n : Int) from (om_4c50098c67 zn q10 q11 po20 q28))) tw_619 tw_620 (by decide +kernel) rfl rfl ⟨show (8 * n + 41) + 1 ≤ 8 * n + 42 from om_3aa7ceaff2, show 8 + (3 + 11) + 28 * (8 * n + 41) ≤ 28 * (8 * n + 42) from om_b94a2b0ad7⟩ (List.range (cW ad pr N cI cR L1 L2 u24).length) (rg_map _) (nd_range _) 3 rfl rfl rfl rfl hl.1 rfl (Nat.le_of_ble_eq_true rfl) dX5_whileRest_41 ⟨Nat.le_of_ble_eq_true rfl, Nat.le_of_ble_eq_true rfl⟩) hP hD hS hA (fun u9 ce9 q9 H locs hx9 hP hD hS hc9 hv9 hf9 => ?_) (fun u36 H locs hw35 hP hD hS hz8 => ?_)
  · exact vx_out (fun x h9 => (hnt x h9).elim) hlocks hc9 hv9 hf9 (fun t9 ht9 hv8 => ⟨u9, ⟨FC.tr (FC.tr (FC.tr (FC.tr (FC.tr (FC.rf _) (FC.up fr1 (by decide) (by decide))) (FC.up fr5 (by decide) (by decide))) (FC.up fr20 (by decide) (by decide))) (FC.up fr23 (by decide) (by decide))) hx9.1, hx9.2⟩, ⟨rfl, by rw [ht9]; exact hP, hD⟩, hS.F ht9⟩) hS.2.2 (Nat.le_refl _) (Nat.le_refl _)
  refine W.shrink (hz8.trans hz9) ?_
  obtain ⟨fr35, i30635, i31235, i32135, i32635, i38135, po35⟩ := hw35
  have i30635 : 0 ≤ (u36.1 0 306).toInt ∧ (u36.1 0 306).toInt ≤ 40 := i30635
  have i31235 : 0 ≤ (u36.1 0 312).toInt ∧ (u36.1 0 312).toInt ≤ 500 := i31235
  have i32135 : 0 ≤ (u36.1 0 321).toInt ∧ (u36.1 0 321).toInt ≤ 501 := i32135
  have i32635 : 0 ≤ (u36.1 0 326).toInt ∧ (u36.1 0 326).toInt ≤ 420 := i32635
  have i38135 : 0 ≤ (u36.1 0 381).toInt ∧ (u36.1 0 381).toInt ≤ 3008 := i38135
  have po35 : (u36.1 0 306).toInt = (u24.1 0 306).toInt := po35
  refine lv_aload_n hx hb dX5_whileRest_44 rfl (lv_at hl 0 rfl) ?_
  refine va_get (D := (dC, dI)) (ci := 8) (fs := oF_X5 ad pr u36) (v := .ref (ad 901)) (C := RX5) (T := TX5) (N := 7) hx hb ht itX5 hown hK hP 3 rfl rfl 2 (by decide) (ht _ tw_573) (fun _ h9 => h9) rfl dX5_whileRest_45 ?_
  refine lv_bipush (v := 19) hx hb dX5_whileRest_48 (by decide) ?_
  refine lv_aload_n hx hb dX5_whileRest_50 rfl (lv_at hl 0 rfl) ?_
  refine va_get (D := (dC, dI)) (ci := 8) (fs := oF_X5 ad pr u36) (v := .int (u36.1 0 332)) (C := RX5) (T := TX5) (N := 7) hx hb ht itX5 hown hK hP 3 rfl rfl 5 (by decide) (ht _ tw_614) (fun _ h9 => h9) rfl dX5_whileRest_51 ?_
  refine lv_iconst (v := 0) hx hb dX5_whileRest_54 (by decide) ?_
  refine cu_v (rn_Vk (n := 3) (As := [.int 19, .int (u36.1 0 332), .int 0]) (rest := []) hx hb hml hown ht hKK hFx hP hD hS hA (c_x_X1_add l dC dI cI cB cZ cJ cR tb H.size ad pr N L1 L2 u36 (19 : Int32) (u36.1 0 332) (0 : Int32) ps (show 0 ≤ (u36.1 0 381).toInt ∧ (u36.1 0 381).toInt ≤ 3008 from (om_e78eec72e1 i38135)) (show pr ps = ad 908 from hps) (show (u36.1 0 310) = ps from (Eq.trans (fr35.2.1 310 (by decide)) (Eq.trans (fr23.2.1 310 (by decide)) (Eq.trans (fr20.2.1 310 (by decide)) (Eq.trans (fr5.2.1 310 (by decide)) (Eq.trans (fr1.2.1 310 (by decide)) es310))))))) tw_499 tw_592 (by decide +kernel) rfl rfl ⟨show 0 + 1 ≤ 8 * n + 42 from om_7b3d5df7aa, show 8 + (5 + 11) + 0 ≤ 28 * (8 * n + 42) from om_a3857ee34e⟩ (List.range (cW ad pr N cI cR L1 L2 u36).length) (rg_map _) (nd_range _) 1 rfl rfl rfl rfl hl.1 rfl (Nat.le_of_ble_eq_true rfl) dX5_whileRest_55 ⟨Nat.le_of_ble_eq_true rfl, Nat.le_of_ble_eq_true rfl⟩) hP hD hS hA (fun u39 H locs hw38 hP hD hS => ?_)
  obtain ⟨fr38, i38138⟩ := hw38
  have i38138 : 0 ≤ (u39.1 0 381).toInt ∧ (u39.1 0 381).toInt ≤ 3008 := i38138
  refine W.widen (k := 0) (n := 0) (Nat.le_refl _) (Nat.le_refl _) ?_
  have q41 : (u39.1 0 306).toInt = (u36.1 0 306).toInt := congrArg Int32.toInt ((fr38.2.1 306 (by decide)).trans (show u36.1 0 306 = (u36.1 0 306) by rfl))
  have q42 : (u39.1 0 312).toInt = (u36.1 0 312).toInt := congrArg Int32.toInt ((fr38.2.1 312 (by decide)).trans (show u36.1 0 312 = (u36.1 0 312) by rfl))
  have q43 : (u39.1 0 321).toInt = (u36.1 0 321).toInt := congrArg Int32.toInt ((fr38.2.1 321 (by decide)).trans (show u36.1 0 321 = (u36.1 0 321) by rfl))
  have q44 : (u39.1 0 326).toInt = (u36.1 0 326).toInt := congrArg Int32.toInt ((fr38.2.1 326 (by decide)).trans (show u36.1 0 326 = (u36.1 0 326) by rfl))
  refine W.sz (fun hz => ?_)
  refine vx_ret ?_
  refine W.widen (k := 1) (n := 6) (Nat.le_of_ble_eq_true rfl) (Nat.le_of_ble_eq_true rfl) ?_
  exact W.vret hx hb hr (fun t ht9 hW => ⟨⟨u39, rfl, ⟨(FC.tr (FC.tr (FC.tr (FC.tr (FC.tr (FC.tr (FC.rf _) (FC.up fr1 (by decide) (by decide))) (FC.up fr5 (by decide) (by decide))) (FC.up fr20 (by decide) (by decide))) (FC.up fr23 (by decide) (by decide))) (FC.up fr35 (by decide) (by decide))) (FC.up fr38 (by decide) (by decide))), (show 0 ≤ (u39.1 0 306).toInt ∧ (u39.1 0 306).toInt ≤ 40 from (om_99e115f631 i30635 q41)), (show 0 ≤ (u39.1 0 312).toInt ∧ (u39.1 0 312).toInt ≤ 500 from (om_f8376ff89c i31235 q42)), (show 0 ≤ (u39.1 0 321).toInt ∧ (u39.1 0 321).toInt ≤ 501 from (om_ff27494c0e i32135 q43)), (show 0 ≤ (u39.1 0 326).toInt ∧ (u39.1 0 326).toInt ≤ 420 from (om_8ed0dedb19 i32635 q44)), (show 0 ≤ (u39.1 0 381).toInt ∧ (u39.1 0 381).toInt ≤ 3008 from (om_e78eec72e1 i38138)), (show (u39.1 0 306).toInt = (v.1 0 306).toInt from (om_0771acf62d q10 q11 po20 q28 po35 q41))⟩, ⟨by rw [ht9]; exact hP, hD⟩, by rw [ht9]; exact hz⟩, hS.F ht9⟩) hS.2.2 dX5_whileRest_58
theorem om_2ad1feabc9 {n0 : Nat} : 8 + (1 + 11) + 0 ≤ 28 * (8 * n0 + 42) := by omega
theorem om_24bb48a271 {n0 : Nat} : 7 + 1 ≤ 8 * n0 + 42 := by omega
theorem om_46dbd0fc2a {n0 : Nat} : 8 + (2 + 11) + 104 ≤ 28 * (8 * n0 + 42) := by omega
theorem om_24686d45a5 {x0 x2 x3 x4 x5 x6 x7 : Int} {n1 : Nat} (h0 : 40 ≤ x0 + (n1 : Int)) (h1 : x2 = x0) (h2 : x3 = x2) (h3 : x4 = x3) (h4 : x5 = x4) (h5 : x6 = x5) (h6 : x7 = x6) : 40 ≤ x7 + (n1 : Int) := by omega
set_option maxHeartbeats 16000000 in
set_option maxRecDepth 100000 in
theorem c_x_X5_doRest (l : Launch) (n : Nat) (S : Cq_stat l n) (dC : Nat → ClassId) (dI : Nat → Nat → Nat) (cI cB cZ cJ cR : ClassId) (tb : Nat → Nat) (sz : Nat) (ad : Nat → Nat) (pr : Int32 → Nat) (N : Nat) (L1 L2 : List Nat) (v : MS) (ps : Int32) (z304 : 0 ≤ (v.1 0 304).toInt ∧ (v.1 0 304).toInt ≤ 1503) (z306 : 0 ≤ (v.1 0 306).toInt ∧ (v.1 0 306).toInt ≤ 40) (z312 : 0 ≤ (v.1 0 312).toInt ∧ (v.1 0 312).toInt ≤ 500) (z321 : 0 ≤ (v.1 0 321).toInt ∧ (v.1 0 321).toInt ≤ 501) (z326 : 0 ≤ (v.1 0 326).toInt ∧ (v.1 0 326).toInt ≤ 420) (z373 : 0 ≤ (v.1 0 373).toInt ∧ (v.1 0 373).toInt ≤ 4000) (z381 : 0 ≤ (v.1 0 381).toInt ∧ (v.1 0 381).toInt ≤ 3008) (hL1 : L1.length = 40) (hL2 : L2.length = 60) (rp : RP v) (hps : pr ps = ad 908) (es300 : (v.1 0 300) = ps) (es310 : (v.1 0 310) = ps) (hst : l.stackTraces = false) (zn : 40 ≤ (v.1 0 306).toInt + (n : Int)) : vx_Met l yX5_doRest (Cond.code yX5_doRest cX5_doRest 2 none :: tw_W) ({ frames := 8 * n + 42, cells := 1, slots := 6, locals := 28 * (8 * n + 42) }) (pc_ (dC, dI) (tyS cI cB cZ cJ cR) tb (cW ad pr N cI cR L1 L2 v) sz [.ref (ad 903)]) (qvz_ (dC, dI) (cW ad pr N cI cR L1 L2 v) sz (fun (u : MS) => FC [305, 306, 307, 312, 313, 314, 315, 317, 321, 326, 331, 332, 381] [0, 311, 316, 318, 319, 320, 324, 325, 378, 379, 380] v u ∧ (0 ≤ (u.1 0 306).toInt ∧ (u.1 0 306).toInt ≤ 40) ∧ (0 ≤ (u.1 0 312).toInt ∧ (u.1 0 312).toInt ≤ 500) ∧ (0 ≤ (u.1 0 321).toInt ∧ (u.1 0 321).toInt ≤ 501) ∧ (0 ≤ (u.1 0 326).toInt ∧ (u.1 0 326).toInt ≤ 420) ∧ (0 ≤ (u.1 0 381).toInt ∧ (u.1 0 381).toInt ≤ 3008) ∧ ((u.1 0 306).toInt = (v.1 0 306).toInt)) (fun (u : MS) => (cW ad pr N cI cR L1 L2 u))) (qxc (dC, dI) (cW ad pr N cI cR L1 L2 v) sz (fun (u : MS) => (cW ad pr N cI cR L1 L2 u)) (fun (u : MS) => FC xfl xal v u ∧ (u.1 0 308).toInt ≠ 0)) 1 6 (va_A (cW ad pr N cI cR L1 L2 v) sz) := by
  refine vx_ofW (cc := cX5_doRest) (maxL := 2) (ret := none) (by decide) rfl ?_
  intro p e s m args below meth c s₁ B hml hnt hv
  obtain ⟨rfl, hsz, hP, hKK, hD0, hFx⟩ := hv
  have hK := hKK.1
  have hx := B.exec
  have hb := B.bytes
  have hr := B.returns
  have ht : ∀ w ∈ tw_W, w.before _ s = true := fun w h => atoms_spec (ws := Cond.code yX5_doRest cX5_doRest 2 none :: tw_W) B.pre w (List.mem_cons_of_mem _ h)
  have hown : s.vm.findClass RX5 = some m.cls := findClass_of_methodNamed B.named
  have hlocks := B.notSynchronized
  subst hsz
  unfold qvz_ qxc
  have hD := hD0.self (sz := s.heap.size)
  generalize hAe : va_A (cW ad pr N cI cR L1 L2 v) s.heap.size = A at hD hFx ⊢
  have hA : ∀ q : Nat, s.heap.size ≤ q → A q := fun q h => by rw [← hAe]; exact Or.inr h
  have hS : va_S A s.heap s.heap [] := va_S.rf
  have hl := lv_entry ([.ref (ad 903)]) (n := 2) (Nat.le_of_ble_eq_true rfl)
  rw [lg_entry_eq]
  generalize (lg_sl ([.ref (ad 903)]) ++ List.replicate (2 - (lg_sl ([.ref (ad 903)])).length) Slot.unset).toArray = ls at hl ⊢
  have hl : lv_has ls 2 [(0, .ref (ad 903))] := hl
  refine lv_aload_n hx hb dX5_doRest_0 rfl (lv_at hl 0 rfl) ?_
  refine va_get (D := (dC, dI)) (ci := 8) (fs := oF_X5 ad pr v) (v := .ref (ad 901)) (C := RX5) (T := TX5) (N := 7) hx hb ht itX5 hown hK hP 3 rfl rfl 2 (by decide) (ht _ tw_573) (fun _ h9 => h9) rfl dX5_doRest_1 ?_
  refine cu_i (rn_Vk (n := 0) (As := []) (rest := []) hx hb hml hown ht hKK hFx hP hD hS hA (c_x_X1_newLabel l dC dI cI cB cZ cJ cR tb s.heap.size ad pr N L1 L2 v  ) tw_501 tw_621 (by decide +kernel) rfl rfl ⟨show 0 + 1 ≤ 8 * n + 42 from om_7b3d5df7aa, show 8 + (1 + 11) + 0 ≤ 28 * (8 * n + 42) from om_2ad1feabc9⟩ (List.range (cW ad pr N cI cR L1 L2 v).length) (rg_map _) (nd_range _) 1 rfl rfl rfl rfl hl.1 rfl (Nat.le_of_ble_eq_true rfl) dX5_doRest_4 ⟨Nat.le_of_ble_eq_true rfl, Nat.le_of_ble_eq_true rfl⟩) hP hD hS hA (fun r3 u2 H locs hw1 hP hD hS => ?_)
  have fr1 := hw1
  refine W.widen (k := 0) (n := 0) (Nat.le_refl _) (Nat.le_refl _) ?_
  refine lv_istore_n (lv' := [(1, .int r3), (0, .ref (ad 903))]) hx hb dX5_doRest_7 rfl hl (by decide) rfl (fun ls hl => ?_)
  refine lv_aload_n hx hb dX5_doRest_8 rfl (lv_at hl 1 rfl) ?_
  refine va_get (D := (dC, dI)) (ci := 8) (fs := oF_X5 ad pr u2) (v := .ref (ad 901)) (C := RX5) (T := TX5) (N := 7) hx hb ht itX5 hown hK hP 3 rfl rfl 2 (by decide) (ht _ tw_573) (fun _ h9 => h9) rfl dX5_doRest_9 ?_
  refine lv_iload_n hx hb dX5_doRest_12 rfl (lv_at hl 0 rfl) ?_
  have q4 : (u2.1 0 381).toInt = (v.1 0 381).toInt := congrArg Int32.toInt ((fr1.2.1 381 (by decide)).trans (show v.1 0 381 = (v.1 0 381) by rfl))
  refine cu_v (rn_Vk (n := 1) (As := [.int r3]) (rest := []) hx hb hml hown ht hKK hFx hP hD hS hA (c_x_X1_setLabel l dC dI cI cB cZ cJ cR tb H.size ad pr N L1 L2 u2 r3 ps (show 0 ≤ (u2.1 0 381).toInt ∧ (u2.1 0 381).toInt ≤ 3008 from (om_6e4eb11ad3 z381 q4)) (show pr ps = ad 908 from hps) (show (u2.1 0 310) = ps from (Eq.trans (fr1.2.1 310 (by decide)) es310))) tw_514 tw_615 (by decide +kernel) rfl rfl ⟨show 0 + 1 ≤ 8 * n + 42 from om_7b3d5df7aa, show 8 + (2 + 11) + 0 ≤ 28 * (8 * n + 42) from om_8b45c8e7c0⟩ (List.range (cW ad pr N cI cR L1 L2 u2).length) (rg_map _) (nd_range _) 1 rfl rfl rfl rfl hl.1 rfl (Nat.le_of_ble_eq_true rfl) dX5_doRest_13 ⟨Nat.le_of_ble_eq_true rfl, Nat.le_of_ble_eq_true rfl⟩) hP hD hS hA (fun u6 H locs hw5 hP hD hS => ?_)
  have fr5 := hw5
  refine W.widen (k := 0) (n := 0) (Nat.le_refl _) (Nat.le_refl _) ?_
  refine lv_aload_n hx hb dX5_doRest_16 rfl (lv_at hl 1 rfl) ?_
  refine va_get (D := (dC, dI)) (ci := 8) (fs := oF_X5 ad pr u6) (v := .ref (ad 901)) (C := RX5) (T := TX5) (N := 7) hx hb ht itX5 hown hK hP 3 rfl rfl 2 (by decide) (ht _ tw_573) (fun _ h9 => h9) rfl dX5_doRest_17 ?_
  refine lv_bipush (v := 24) hx hb dX5_doRest_20 (by decide) ?_
  refine lv_iconst (v := 0) hx hb dX5_doRest_22 (by decide) ?_
  refine lv_iconst (v := 0) hx hb dX5_doRest_23 (by decide) ?_
  have q8 : (u6.1 0 381).toInt = (u2.1 0 381).toInt := congrArg Int32.toInt ((fr5.2.1 381 (by decide)).trans (show u2.1 0 381 = (u2.1 0 381) by rfl))
  refine cu_v (rn_Vk (n := 3) (As := [.int 24, .int 0, .int 0]) (rest := []) hx hb hml hown ht hKK hFx hP hD hS hA (c_x_X1_add l dC dI cI cB cZ cJ cR tb H.size ad pr N L1 L2 u6 (24 : Int32) (0 : Int32) (0 : Int32) ps (show 0 ≤ (u6.1 0 381).toInt ∧ (u6.1 0 381).toInt ≤ 3008 from (om_769192f2a4 z381 q4 q8)) (show pr ps = ad 908 from hps) (show (u6.1 0 310) = ps from (Eq.trans (fr5.2.1 310 (by decide)) (Eq.trans (fr1.2.1 310 (by decide)) es310)))) tw_499 tw_592 (by decide +kernel) rfl rfl ⟨show 0 + 1 ≤ 8 * n + 42 from om_7b3d5df7aa, show 8 + (5 + 11) + 0 ≤ 28 * (8 * n + 42) from om_a3857ee34e⟩ (List.range (cW ad pr N cI cR L1 L2 u6).length) (rg_map _) (nd_range _) 1 rfl rfl rfl rfl hl.1 rfl (Nat.le_of_ble_eq_true rfl) dX5_doRest_24 ⟨Nat.le_of_ble_eq_true rfl, Nat.le_of_ble_eq_true rfl⟩) hP hD hS hA (fun u10 H locs hw9 hP hD hS => ?_)
  obtain ⟨fr9, i3819⟩ := hw9
  have i3819 : 0 ≤ (u10.1 0 381).toInt ∧ (u10.1 0 381).toInt ≤ 3008 := i3819
  refine W.widen (k := 0) (n := 0) (Nat.le_refl _) (Nat.le_refl _) ?_
  refine lv_aload_n hx hb dX5_doRest_27 rfl (lv_at hl 1 rfl) ?_
  have q12 : (u2.1 0 304).toInt = (v.1 0 304).toInt := congrArg Int32.toInt ((fr1.2.1 304 (by decide)).trans (show v.1 0 304 = (v.1 0 304) by rfl))
  have q13 : (u6.1 0 304).toInt = (u2.1 0 304).toInt := congrArg Int32.toInt ((fr5.2.1 304 (by decide)).trans (show u2.1 0 304 = (u2.1 0 304) by rfl))
  have q14 : (u10.1 0 304).toInt = (u6.1 0 304).toInt := congrArg Int32.toInt ((fr9.2.1 304 (by decide)).trans (show u6.1 0 304 = (u6.1 0 304) by rfl))
  have q15 : (u2.1 0 306).toInt = (v.1 0 306).toInt := congrArg Int32.toInt ((fr1.2.1 306 (by decide)).trans (show v.1 0 306 = (v.1 0 306) by rfl))
  have q16 : (u6.1 0 306).toInt = (u2.1 0 306).toInt := congrArg Int32.toInt ((fr5.2.1 306 (by decide)).trans (show u2.1 0 306 = (u2.1 0 306) by rfl))
  have q17 : (u10.1 0 306).toInt = (u6.1 0 306).toInt := congrArg Int32.toInt ((fr9.2.1 306 (by decide)).trans (show u6.1 0 306 = (u6.1 0 306) by rfl))
  have q18 : (u2.1 0 312).toInt = (v.1 0 312).toInt := congrArg Int32.toInt ((fr1.2.1 312 (by decide)).trans (show v.1 0 312 = (v.1 0 312) by rfl))
  have q19 : (u6.1 0 312).toInt = (u2.1 0 312).toInt := congrArg Int32.toInt ((fr5.2.1 312 (by decide)).trans (show u2.1 0 312 = (u2.1 0 312) by rfl))
  have q20 : (u10.1 0 312).toInt = (u6.1 0 312).toInt := congrArg Int32.toInt ((fr9.2.1 312 (by decide)).trans (show u6.1 0 312 = (u6.1 0 312) by rfl))
  have q21 : (u2.1 0 321).toInt = (v.1 0 321).toInt := congrArg Int32.toInt ((fr1.2.1 321 (by decide)).trans (show v.1 0 321 = (v.1 0 321) by rfl))
  have q22 : (u6.1 0 321).toInt = (u2.1 0 321).toInt := congrArg Int32.toInt ((fr5.2.1 321 (by decide)).trans (show u2.1 0 321 = (u2.1 0 321) by rfl))
  have q23 : (u10.1 0 321).toInt = (u6.1 0 321).toInt := congrArg Int32.toInt ((fr9.2.1 321 (by decide)).trans (show u6.1 0 321 = (u6.1 0 321) by rfl))
  have q24 : (u2.1 0 326).toInt = (v.1 0 326).toInt := congrArg Int32.toInt ((fr1.2.1 326 (by decide)).trans (show v.1 0 326 = (v.1 0 326) by rfl))
  have q25 : (u6.1 0 326).toInt = (u2.1 0 326).toInt := congrArg Int32.toInt ((fr5.2.1 326 (by decide)).trans (show u2.1 0 326 = (u2.1 0 326) by rfl))
  have q26 : (u10.1 0 326).toInt = (u6.1 0 326).toInt := congrArg Int32.toInt ((fr9.2.1 326 (by decide)).trans (show u6.1 0 326 = (u6.1 0 326) by rfl))
  have q27 : (u2.1 0 373).toInt = (v.1 0 373).toInt := congrArg Int32.toInt ((fr1.2.1 373 (by decide)).trans (show v.1 0 373 = (v.1 0 373) by rfl))
  have q28 : (u6.1 0 373).toInt = (u2.1 0 373).toInt := congrArg Int32.toInt ((fr5.2.1 373 (by decide)).trans (show u2.1 0 373 = (u2.1 0 373) by rfl))
  have q29 : (u10.1 0 373).toInt = (u6.1 0 373).toInt := congrArg Int32.toInt ((fr9.2.1 373 (by decide)).trans (show u6.1 0 373 = (u6.1 0 373) by rfl))
  refine W.sz (fun hz9 => ?_)
  refine czx_v (rx_Vk (n := 0) (As := []) (rest := []) hx hb hml hown ht hKK hFx hP hD hS hA (c_x_X5_innerStat l n S dC dI cI cB cZ cJ cR tb H.size ad pr N L1 L2 u10 ps (show 0 ≤ (u10.1 0 304).toInt ∧ (u10.1 0 304).toInt ≤ 1503 from (om_57e3d9ffbd z304 q12 q13 q14)) (show 0 ≤ (u10.1 0 306).toInt ∧ (u10.1 0 306).toInt ≤ 40 from (om_91b0537b40 z306 q15 q16 q17)) (show 0 ≤ (u10.1 0 312).toInt ∧ (u10.1 0 312).toInt ≤ 500 from (om_a369f3fea6 z312 q18 q19 q20)) (show 0 ≤ (u10.1 0 321).toInt ∧ (u10.1 0 321).toInt ≤ 501 from (om_ca65317fd6 z321 q21 q22 q23)) (show 0 ≤ (u10.1 0 326).toInt ∧ (u10.1 0 326).toInt ≤ 420 from (om_ba86cd30dc z326 q24 q25 q26)) (show 0 ≤ (u10.1 0 373).toInt ∧ (u10.1 0 373).toInt ≤ 4000 from (om_282c7f458f z373 q27 q28 q29)) (show 0 ≤ (u10.1 0 381).toInt ∧ (u10.1 0 381).toInt ≤ 3008 from (om_e78eec72e1 i3819)) (show L1.length = 40 from hL1) (show L2.length = 60 from hL2) (show RP u10 from ((show FC [305, 306, 307, 312, 313, 314, 315, 317, 321, 326, 331, 332, 381] [0, 311, 316, 318, 319, 320, 324, 325, 378, 379, 380] v u10 from (FC.tr (FC.tr (FC.tr (FC.rf _) (FC.up fr1 (by decide) (by decide))) (FC.up fr5 (by decide) (by decide))) (FC.up fr9 (by decide) (by decide)))).1 rp)) (show pr ps = ad 908 from hps) (show (u10.1 0 300) = ps from (Eq.trans (fr9.2.1 300 (by decide)) (Eq.trans (fr5.2.1 300 (by decide)) (Eq.trans (fr1.2.1 300 (by decide)) es300)))) (show (u10.1 0 310) = ps from (Eq.trans (fr9.2.1 310 (by decide)) (Eq.trans (fr5.2.1 310 (by decide)) (Eq.trans (fr1.2.1 310 (by decide)) es310)))) (show l.stackTraces = false from hst) (show 40 ≤ (u10.1 0 306).toInt + (n : Int) from (om_00c4deb960 zn q15 q16 q17))) tw_619 tw_620 (by decide +kernel) rfl rfl ⟨show (8 * n + 41) + 1 ≤ 8 * n + 42 from om_3aa7ceaff2, show 8 + (3 + 11) + 28 * (8 * n + 41) ≤ 28 * (8 * n + 42) from om_b94a2b0ad7⟩ (List.range (cW ad pr N cI cR L1 L2 u10).length) (rg_map _) (nd_range _) 3 rfl rfl rfl rfl hl.1 rfl (Nat.le_of_ble_eq_true rfl) dX5_doRest_28 ⟨Nat.le_of_ble_eq_true rfl, Nat.le_of_ble_eq_true rfl⟩) hP hD hS hA (fun u9 ce9 q9 H locs hx9 hP hD hS hc9 hv9 hf9 => ?_) (fun u31 H locs hw30 hP hD hS hz8 => ?_)
  · exact vx_out (fun x h9 => (hnt x h9).elim) hlocks hc9 hv9 hf9 (fun t9 ht9 hv8 => ⟨u9, ⟨FC.tr (FC.tr (FC.tr (FC.tr (FC.rf _) (FC.up fr1 (by decide) (by decide))) (FC.up fr5 (by decide) (by decide))) (FC.up fr9 (by decide) (by decide))) hx9.1, hx9.2⟩, ⟨rfl, by rw [ht9]; exact hP, hD⟩, hS.F ht9⟩) hS.2.2 (Nat.le_refl _) (Nat.le_refl _)
  refine W.shrink (hz8.trans hz9) ?_
  obtain ⟨fr30, i30630, i31230, i32130, i32630, i38130, po30⟩ := hw30
  have i30630 : 0 ≤ (u31.1 0 306).toInt ∧ (u31.1 0 306).toInt ≤ 40 := i30630
  have i31230 : 0 ≤ (u31.1 0 312).toInt ∧ (u31.1 0 312).toInt ≤ 500 := i31230
  have i32130 : 0 ≤ (u31.1 0 321).toInt ∧ (u31.1 0 321).toInt ≤ 501 := i32130
  have i32630 : 0 ≤ (u31.1 0 326).toInt ∧ (u31.1 0 326).toInt ≤ 420 := i32630
  have i38130 : 0 ≤ (u31.1 0 381).toInt ∧ (u31.1 0 381).toInt ≤ 3008 := i38130
  have po30 : (u31.1 0 306).toInt = (u10.1 0 306).toInt := po30
  refine lv_aload_n hx hb dX5_doRest_31 rfl (lv_at hl 1 rfl) ?_
  refine va_get (D := (dC, dI)) (ci := 8) (fs := oF_X5 ad pr u31) (v := .ref (ad 901)) (C := RX5) (T := TX5) (N := 7) hx hb ht itX5 hown hK hP 3 rfl rfl 2 (by decide) (ht _ tw_573) (fun _ h9 => h9) rfl dX5_doRest_32 ?_
  refine lv_aload_n hx hb dX5_doRest_35 rfl (lv_at hl 1 rfl) ?_
  refine va_get (D := (dC, dI)) (ci := 8) (fs := oF_X5 ad pr u31) (v := .int (u31.1 0 332)) (C := RX5) (T := TX5) (N := 7) hx hb ht itX5 hown hK hP 3 rfl rfl 5 (by decide) (ht _ tw_614) (fun _ h9 => h9) rfl dX5_doRest_36 ?_
  refine cu_v (rn_Vk (n := 1) (As := [.int (u31.1 0 332)]) (rest := []) hx hb hml hown ht hKK hFx hP hD hS hA (c_x_X1_setLabel l dC dI cI cB cZ cJ cR tb H.size ad pr N L1 L2 u31 (u31.1 0 332) ps (show 0 ≤ (u31.1 0 381).toInt ∧ (u31.1 0 381).toInt ≤ 3008 from (om_e78eec72e1 i38130)) (show pr ps = ad 908 from hps) (show (u31.1 0 310) = ps from (Eq.trans (fr30.2.1 310 (by decide)) (Eq.trans (fr9.2.1 310 (by decide)) (Eq.trans (fr5.2.1 310 (by decide)) (Eq.trans (fr1.2.1 310 (by decide)) es310)))))) tw_514 tw_615 (by decide +kernel) rfl rfl ⟨show 0 + 1 ≤ 8 * n + 42 from om_7b3d5df7aa, show 8 + (2 + 11) + 0 ≤ 28 * (8 * n + 42) from om_8b45c8e7c0⟩ (List.range (cW ad pr N cI cR L1 L2 u31).length) (rg_map _) (nd_range _) 1 rfl rfl rfl rfl hl.1 rfl (Nat.le_of_ble_eq_true rfl) dX5_doRest_39 ⟨Nat.le_of_ble_eq_true rfl, Nat.le_of_ble_eq_true rfl⟩) hP hD hS hA (fun u34 H locs hw33 hP hD hS => ?_)
  have fr33 := hw33
  refine W.widen (k := 0) (n := 0) (Nat.le_refl _) (Nat.le_refl _) ?_
  refine lv_aload_n hx hb dX5_doRest_42 rfl (lv_at hl 1 rfl) ?_
  refine va_get (D := (dC, dI)) (ci := 8) (fs := oF_X5 ad pr u34) (v := .ref (ad 900)) (C := RX5) (T := TX5) (N := 7) hx hb ht itX5 hown hK hP 3 rfl rfl 1 (by decide) (ht _ tw_571) (fun _ h9 => h9) rfl dX5_doRest_43 ?_
  refine lv_bipush (v := 13) hx hb dX5_doRest_46 (by decide) ?_
  have q36 : (u31.1 0 304).toInt = (u10.1 0 304).toInt := congrArg Int32.toInt ((fr30.2.1 304 (by decide)).trans (show u10.1 0 304 = (u10.1 0 304) by rfl))
  have q37 : (u34.1 0 304).toInt = (u31.1 0 304).toInt := congrArg Int32.toInt ((fr33.2.1 304 (by decide)).trans (show u31.1 0 304 = (u31.1 0 304) by rfl))
  have q38 : (u31.1 0 373).toInt = (u10.1 0 373).toInt := congrArg Int32.toInt ((fr30.2.1 373 (by decide)).trans (show u10.1 0 373 = (u10.1 0 373) by rfl))
  have q39 : (u34.1 0 373).toInt = (u31.1 0 373).toInt := congrArg Int32.toInt ((fr33.2.1 373 (by decide)).trans (show u31.1 0 373 = (u31.1 0 373) by rfl))
  refine W.sz (fun hz9 => ?_)
  refine czx_v (rx_Vk (n := 1) (As := [.int 13]) (rest := []) hx hb hml hown ht hKK hFx hP hD hS hA (c_x_X9_expect l dC dI cI cB cZ cJ cR tb H.size ad pr N L1 L2 u34 (13 : Int32) ps (show 0 ≤ (u34.1 0 304).toInt ∧ (u34.1 0 304).toInt ≤ 1503 from (om_303b0e9f26 z304 q12 q13 q14 q36 q37)) (show 0 ≤ (u34.1 0 373).toInt ∧ (u34.1 0 373).toInt ≤ 4000 from (om_d59e6e0f1e z373 q27 q28 q29 q38 q39)) (show pr ps = ad 908 from hps) (show (u34.1 0 300) = ps from (Eq.trans (fr33.2.1 300 (by decide)) (Eq.trans (fr30.2.1 300 (by decide)) (Eq.trans (fr9.2.1 300 (by decide)) (Eq.trans (fr5.2.1 300 (by decide)) (Eq.trans (fr1.2.1 300 (by decide)) es300)))))) (show l.stackTraces = false from hst)) tw_526 tw_580 (by decide +kernel) rfl rfl ⟨show 7 + 1 ≤ 8 * n + 42 from om_24bb48a271, show 8 + (2 + 11) + 104 ≤ 28 * (8 * n + 42) from om_46dbd0fc2a⟩ (List.range (cW ad pr N cI cR L1 L2 u34).length) (rg_map _) (nd_range _) 0 rfl rfl rfl rfl hl.1 rfl (Nat.le_of_ble_eq_true rfl) dX5_doRest_48 ⟨Nat.le_of_ble_eq_true rfl, Nat.le_of_ble_eq_true rfl⟩) hP hD hS hA (fun u9 ce9 q9 H locs hx9 hP hD hS hc9 hv9 hf9 => ?_) (fun u41 H locs hw40 hP hD hS hz8 => ?_)
  · exact vx_out (fun x h9 => (hnt x h9).elim) hlocks hc9 hv9 hf9 (fun t9 ht9 hv8 => ⟨u9, ⟨FC.tr (FC.tr (FC.tr (FC.tr (FC.tr (FC.tr (FC.rf _) (FC.up fr1 (by decide) (by decide))) (FC.up fr5 (by decide) (by decide))) (FC.up fr9 (by decide) (by decide))) (FC.up fr30 (by decide) (by decide))) (FC.up fr33 (by decide) (by decide))) hx9.1, hx9.2⟩, ⟨rfl, by rw [ht9]; exact hP, hD⟩, hS.F ht9⟩) hS.2.2 (Nat.le_refl _) (Nat.le_refl _)
  refine W.shrink (hz8.trans hz9) ?_
  have fr40 := hw40
  refine lv_aload_n hx hb dX5_doRest_51 rfl (lv_at hl 1 rfl) ?_
  have q43 : (u41.1 0 304).toInt = (u34.1 0 304).toInt := congrArg Int32.toInt ((fr40.2.1 304 (by decide)).trans (show u34.1 0 304 = (u34.1 0 304) by rfl))
  have q44 : (u34.1 0 306).toInt = (u31.1 0 306).toInt := congrArg Int32.toInt ((fr33.2.1 306 (by decide)).trans (show u31.1 0 306 = (u31.1 0 306) by rfl))
  have q45 : (u41.1 0 306).toInt = (u34.1 0 306).toInt := congrArg Int32.toInt ((fr40.2.1 306 (by decide)).trans (show u34.1 0 306 = (u34.1 0 306) by rfl))
  have q46 : (u34.1 0 312).toInt = (u31.1 0 312).toInt := congrArg Int32.toInt ((fr33.2.1 312 (by decide)).trans (show u31.1 0 312 = (u31.1 0 312) by rfl))
  have q47 : (u41.1 0 312).toInt = (u34.1 0 312).toInt := congrArg Int32.toInt ((fr40.2.1 312 (by decide)).trans (show u34.1 0 312 = (u34.1 0 312) by rfl))
  have q48 : (u34.1 0 321).toInt = (u31.1 0 321).toInt := congrArg Int32.toInt ((fr33.2.1 321 (by decide)).trans (show u31.1 0 321 = (u31.1 0 321) by rfl))
  have q49 : (u41.1 0 321).toInt = (u34.1 0 321).toInt := congrArg Int32.toInt ((fr40.2.1 321 (by decide)).trans (show u34.1 0 321 = (u34.1 0 321) by rfl))
  have q50 : (u34.1 0 326).toInt = (u31.1 0 326).toInt := congrArg Int32.toInt ((fr33.2.1 326 (by decide)).trans (show u31.1 0 326 = (u31.1 0 326) by rfl))
  have q51 : (u41.1 0 326).toInt = (u34.1 0 326).toInt := congrArg Int32.toInt ((fr40.2.1 326 (by decide)).trans (show u34.1 0 326 = (u34.1 0 326) by rfl))
  have q52 : (u41.1 0 373).toInt = (u34.1 0 373).toInt := congrArg Int32.toInt ((fr40.2.1 373 (by decide)).trans (show u34.1 0 373 = (u34.1 0 373) by rfl))
  have q53 : (u34.1 0 381).toInt = (u31.1 0 381).toInt := congrArg Int32.toInt ((fr33.2.1 381 (by decide)).trans (show u31.1 0 381 = (u31.1 0 381) by rfl))
  have q54 : (u41.1 0 381).toInt = (u34.1 0 381).toInt := congrArg Int32.toInt ((fr40.2.1 381 (by decide)).trans (show u34.1 0 381 = (u34.1 0 381) by rfl))
  refine W.sz (fun hz9 => ?_)
  refine czx_v (rx_Vk (n := 0) (As := []) (rest := []) hx hb hml hown ht hKK hFx hP hD hS hA (c_x_X5_condition l n dC dI cI cB cZ cJ cR tb H.size ad pr N L1 L2 u41 ps (show 0 ≤ (u41.1 0 304).toInt ∧ (u41.1 0 304).toInt ≤ 1503 from (om_1a945f4049 z304 q12 q13 q14 q36 q37 q43)) (show 0 ≤ (u41.1 0 306).toInt ∧ (u41.1 0 306).toInt ≤ 40 from (om_68f540929a i30630 q44 q45)) (show 0 ≤ (u41.1 0 312).toInt ∧ (u41.1 0 312).toInt ≤ 500 from (om_8a5975ec21 i31230 q46 q47)) (show 0 ≤ (u41.1 0 321).toInt ∧ (u41.1 0 321).toInt ≤ 501 from (om_4dfa815534 i32130 q48 q49)) (show 0 ≤ (u41.1 0 326).toInt ∧ (u41.1 0 326).toInt ≤ 420 from (om_9591dea625 i32630 q50 q51)) (show 0 ≤ (u41.1 0 373).toInt ∧ (u41.1 0 373).toInt ≤ 4000 from (om_1de556205c z373 q27 q28 q29 q38 q39 q52)) (show 0 ≤ (u41.1 0 381).toInt ∧ (u41.1 0 381).toInt ≤ 3008 from (om_769192f2a4 i38130 q53 q54)) (show L1.length = 40 from hL1) (show L2.length = 60 from hL2) (show RP u41 from ((show FC [305, 306, 307, 312, 313, 314, 315, 317, 321, 326, 331, 332, 381] [0, 311, 316, 318, 319, 320, 324, 325, 378, 379, 380] v u41 from (FC.tr (FC.tr (FC.tr (FC.tr (FC.tr (FC.tr (FC.rf _) (FC.up fr1 (by decide) (by decide))) (FC.up fr5 (by decide) (by decide))) (FC.up fr9 (by decide) (by decide))) (FC.up fr30 (by decide) (by decide))) (FC.up fr33 (by decide) (by decide))) (FC.up fr40 (by decide) (by decide)))).1 rp)) (show pr ps = ad 908 from hps) (show (u41.1 0 300) = ps from (Eq.trans (fr40.2.1 300 (by decide)) (Eq.trans (fr33.2.1 300 (by decide)) (Eq.trans (fr30.2.1 300 (by decide)) (Eq.trans (fr9.2.1 300 (by decide)) (Eq.trans (fr5.2.1 300 (by decide)) (Eq.trans (fr1.2.1 300 (by decide)) es300))))))) (show (u41.1 0 310) = ps from (Eq.trans (fr40.2.1 310 (by decide)) (Eq.trans (fr33.2.1 310 (by decide)) (Eq.trans (fr30.2.1 310 (by decide)) (Eq.trans (fr9.2.1 310 (by decide)) (Eq.trans (fr5.2.1 310 (by decide)) (Eq.trans (fr1.2.1 310 (by decide)) es310))))))) (show l.stackTraces = false from hst) (show 40 ≤ (u41.1 0 306).toInt + (n : Int) from (om_24686d45a5 zn q15 q16 q17 po30 q44 q45))) tw_616 tw_617 (by decide +kernel) rfl rfl ⟨show (8 * n + 14) + 1 ≤ 8 * n + 42 from om_fb00cfe62c, show 8 + (1 + 11) + 28 * (8 * n + 14) ≤ 28 * (8 * n + 42) from om_cdb869e629⟩ (List.range (cW ad pr N cI cR L1 L2 u41).length) (rg_map _) (nd_range _) 3 rfl rfl rfl rfl hl.1 rfl (Nat.le_of_ble_eq_true rfl) dX5_doRest_52 ⟨Nat.le_of_ble_eq_true rfl, Nat.le_of_ble_eq_true rfl⟩) hP hD hS hA (fun u9 ce9 q9 H locs hx9 hP hD hS hc9 hv9 hf9 => ?_) (fun u56 H locs hw55 hP hD hS hz8 => ?_)
  · exact vx_out (fun x h9 => (hnt x h9).elim) hlocks hc9 hv9 hf9 (fun t9 ht9 hv8 => ⟨u9, ⟨FC.tr (FC.tr (FC.tr (FC.tr (FC.tr (FC.tr (FC.tr (FC.rf _) (FC.up fr1 (by decide) (by decide))) (FC.up fr5 (by decide) (by decide))) (FC.up fr9 (by decide) (by decide))) (FC.up fr30 (by decide) (by decide))) (FC.up fr33 (by decide) (by decide))) (FC.up fr40 (by decide) (by decide))) hx9.1, hx9.2⟩, ⟨rfl, by rw [ht9]; exact hP, hD⟩, hS.F ht9⟩) hS.2.2 (Nat.le_refl _) (Nat.le_refl _)
  refine W.shrink (hz8.trans hz9) ?_
  obtain ⟨fr55, i30655, i32155, i32655, i38155, po55⟩ := hw55
  have i30655 : 0 ≤ (u56.1 0 306).toInt ∧ (u56.1 0 306).toInt ≤ 40 := i30655
  have i32155 : 0 ≤ (u56.1 0 321).toInt ∧ (u56.1 0 321).toInt ≤ 501 := i32155
  have i32655 : 0 ≤ (u56.1 0 326).toInt ∧ (u56.1 0 326).toInt ≤ 420 := i32655
  have i38155 : 0 ≤ (u56.1 0 381).toInt ∧ (u56.1 0 381).toInt ≤ 3008 := i38155
  have po55 : (u56.1 0 306).toInt = (u41.1 0 306).toInt := po55
  refine lv_aload_n hx hb dX5_doRest_55 rfl (lv_at hl 1 rfl) ?_
  refine va_get (D := (dC, dI)) (ci := 8) (fs := oF_X5 ad pr u56) (v := .ref (ad 901)) (C := RX5) (T := TX5) (N := 7) hx hb ht itX5 hown hK hP 3 rfl rfl 2 (by decide) (ht _ tw_573) (fun _ h9 => h9) rfl dX5_doRest_56 ?_
  refine lv_bipush (v := 17) hx hb dX5_doRest_59 (by decide) ?_
  refine lv_iload_n hx hb dX5_doRest_61 rfl (lv_at hl 0 rfl) ?_
  refine lv_iconst (v := 0) hx hb dX5_doRest_62 (by decide) ?_
  refine cu_v (rn_Vk (n := 3) (As := [.int 17, .int r3, .int 0]) (rest := []) hx hb hml hown ht hKK hFx hP hD hS hA (c_x_X1_add l dC dI cI cB cZ cJ cR tb H.size ad pr N L1 L2 u56 (17 : Int32) r3 (0 : Int32) ps (show 0 ≤ (u56.1 0 381).toInt ∧ (u56.1 0 381).toInt ≤ 3008 from (om_e78eec72e1 i38155)) (show pr ps = ad 908 from hps) (show (u56.1 0 310) = ps from (Eq.trans (fr55.2.1 310 (by decide)) (Eq.trans (fr40.2.1 310 (by decide)) (Eq.trans (fr33.2.1 310 (by decide)) (Eq.trans (fr30.2.1 310 (by decide)) (Eq.trans (fr9.2.1 310 (by decide)) (Eq.trans (fr5.2.1 310 (by decide)) (Eq.trans (fr1.2.1 310 (by decide)) es310))))))))) tw_499 tw_592 (by decide +kernel) rfl rfl ⟨show 0 + 1 ≤ 8 * n + 42 from om_7b3d5df7aa, show 8 + (5 + 11) + 0 ≤ 28 * (8 * n + 42) from om_a3857ee34e⟩ (List.range (cW ad pr N cI cR L1 L2 u56).length) (rg_map _) (nd_range _) 1 rfl rfl rfl rfl hl.1 rfl (Nat.le_of_ble_eq_true rfl) dX5_doRest_63 ⟨Nat.le_of_ble_eq_true rfl, Nat.le_of_ble_eq_true rfl⟩) hP hD hS hA (fun u59 H locs hw58 hP hD hS => ?_)
  obtain ⟨fr58, i38158⟩ := hw58
  have i38158 : 0 ≤ (u59.1 0 381).toInt ∧ (u59.1 0 381).toInt ≤ 3008 := i38158
  refine W.widen (k := 0) (n := 0) (Nat.le_refl _) (Nat.le_refl _) ?_
  refine lv_aload_n hx hb dX5_doRest_66 rfl (lv_at hl 1 rfl) ?_
  refine va_get (D := (dC, dI)) (ci := 8) (fs := oF_X5 ad pr u59) (v := .ref (ad 900)) (C := RX5) (T := TX5) (N := 7) hx hb ht itX5 hown hK hP 3 rfl rfl 1 (by decide) (ht _ tw_571) (fun _ h9 => h9) rfl dX5_doRest_67 ?_
  refine lv_bipush (v := 36) hx hb dX5_doRest_70 (by decide) ?_
  have q61 : (u56.1 0 304).toInt = (u41.1 0 304).toInt := congrArg Int32.toInt ((fr55.2.1 304 (by decide)).trans (show u41.1 0 304 = (u41.1 0 304) by rfl))
  have q62 : (u59.1 0 304).toInt = (u56.1 0 304).toInt := congrArg Int32.toInt ((fr58.2.1 304 (by decide)).trans (show u56.1 0 304 = (u56.1 0 304) by rfl))
  have q63 : (u56.1 0 373).toInt = (u41.1 0 373).toInt := congrArg Int32.toInt ((fr55.2.1 373 (by decide)).trans (show u41.1 0 373 = (u41.1 0 373) by rfl))
  have q64 : (u59.1 0 373).toInt = (u56.1 0 373).toInt := congrArg Int32.toInt ((fr58.2.1 373 (by decide)).trans (show u56.1 0 373 = (u56.1 0 373) by rfl))
  refine W.sz (fun hz9 => ?_)
  refine czx_v (rx_Vk (n := 1) (As := [.int 36]) (rest := []) hx hb hml hown ht hKK hFx hP hD hS hA (c_x_X9_expect l dC dI cI cB cZ cJ cR tb H.size ad pr N L1 L2 u59 (36 : Int32) ps (show 0 ≤ (u59.1 0 304).toInt ∧ (u59.1 0 304).toInt ≤ 1503 from (om_003b4c170d z304 q12 q13 q14 q36 q37 q43 q61 q62)) (show 0 ≤ (u59.1 0 373).toInt ∧ (u59.1 0 373).toInt ≤ 4000 from (om_40c7802ef9 z373 q27 q28 q29 q38 q39 q52 q63 q64)) (show pr ps = ad 908 from hps) (show (u59.1 0 300) = ps from (Eq.trans (fr58.2.1 300 (by decide)) (Eq.trans (fr55.2.1 300 (by decide)) (Eq.trans (fr40.2.1 300 (by decide)) (Eq.trans (fr33.2.1 300 (by decide)) (Eq.trans (fr30.2.1 300 (by decide)) (Eq.trans (fr9.2.1 300 (by decide)) (Eq.trans (fr5.2.1 300 (by decide)) (Eq.trans (fr1.2.1 300 (by decide)) es300))))))))) (show l.stackTraces = false from hst)) tw_526 tw_580 (by decide +kernel) rfl rfl ⟨show 7 + 1 ≤ 8 * n + 42 from om_24bb48a271, show 8 + (2 + 11) + 104 ≤ 28 * (8 * n + 42) from om_46dbd0fc2a⟩ (List.range (cW ad pr N cI cR L1 L2 u59).length) (rg_map _) (nd_range _) 0 rfl rfl rfl rfl hl.1 rfl (Nat.le_of_ble_eq_true rfl) dX5_doRest_72 ⟨Nat.le_of_ble_eq_true rfl, Nat.le_of_ble_eq_true rfl⟩) hP hD hS hA (fun u9 ce9 q9 H locs hx9 hP hD hS hc9 hv9 hf9 => ?_) (fun u66 H locs hw65 hP hD hS hz8 => ?_)
  · exact vx_out (fun x h9 => (hnt x h9).elim) hlocks hc9 hv9 hf9 (fun t9 ht9 hv8 => ⟨u9, ⟨FC.tr (FC.tr (FC.tr (FC.tr (FC.tr (FC.tr (FC.tr (FC.tr (FC.tr (FC.rf _) (FC.up fr1 (by decide) (by decide))) (FC.up fr5 (by decide) (by decide))) (FC.up fr9 (by decide) (by decide))) (FC.up fr30 (by decide) (by decide))) (FC.up fr33 (by decide) (by decide))) (FC.up fr40 (by decide) (by decide))) (FC.up fr55 (by decide) (by decide))) (FC.up fr58 (by decide) (by decide))) hx9.1, hx9.2⟩, ⟨rfl, by rw [ht9]; exact hP, hD⟩, hS.F ht9⟩) hS.2.2 (Nat.le_refl _) (Nat.le_refl _)
  refine W.shrink (hz8.trans hz9) ?_
  have fr65 := hw65
  have q68 : (u59.1 0 306).toInt = (u56.1 0 306).toInt := congrArg Int32.toInt ((fr58.2.1 306 (by decide)).trans (show u56.1 0 306 = (u56.1 0 306) by rfl))
  have q69 : (u66.1 0 306).toInt = (u59.1 0 306).toInt := congrArg Int32.toInt ((fr65.2.1 306 (by decide)).trans (show u59.1 0 306 = (u59.1 0 306) by rfl))
  have q70 : (u56.1 0 312).toInt = (u41.1 0 312).toInt := congrArg Int32.toInt ((fr55.2.1 312 (by decide)).trans (show u41.1 0 312 = (u41.1 0 312) by rfl))
  have q71 : (u59.1 0 312).toInt = (u56.1 0 312).toInt := congrArg Int32.toInt ((fr58.2.1 312 (by decide)).trans (show u56.1 0 312 = (u56.1 0 312) by rfl))
  have q72 : (u66.1 0 312).toInt = (u59.1 0 312).toInt := congrArg Int32.toInt ((fr65.2.1 312 (by decide)).trans (show u59.1 0 312 = (u59.1 0 312) by rfl))
  have q73 : (u59.1 0 321).toInt = (u56.1 0 321).toInt := congrArg Int32.toInt ((fr58.2.1 321 (by decide)).trans (show u56.1 0 321 = (u56.1 0 321) by rfl))
  have q74 : (u66.1 0 321).toInt = (u59.1 0 321).toInt := congrArg Int32.toInt ((fr65.2.1 321 (by decide)).trans (show u59.1 0 321 = (u59.1 0 321) by rfl))
  have q75 : (u59.1 0 326).toInt = (u56.1 0 326).toInt := congrArg Int32.toInt ((fr58.2.1 326 (by decide)).trans (show u56.1 0 326 = (u56.1 0 326) by rfl))
  have q76 : (u66.1 0 326).toInt = (u59.1 0 326).toInt := congrArg Int32.toInt ((fr65.2.1 326 (by decide)).trans (show u59.1 0 326 = (u59.1 0 326) by rfl))
  have q77 : (u66.1 0 381).toInt = (u59.1 0 381).toInt := congrArg Int32.toInt ((fr65.2.1 381 (by decide)).trans (show u59.1 0 381 = (u59.1 0 381) by rfl))
  refine W.sz (fun hz => ?_)
  refine vx_ret ?_
  refine W.widen (k := 1) (n := 6) (Nat.le_of_ble_eq_true rfl) (Nat.le_of_ble_eq_true rfl) ?_
  exact W.vret hx hb hr (fun t ht9 hW => ⟨⟨u66, rfl, ⟨(FC.tr (FC.tr (FC.tr (FC.tr (FC.tr (FC.tr (FC.tr (FC.tr (FC.tr (FC.rf _) (FC.up fr1 (by decide) (by decide))) (FC.up fr5 (by decide) (by decide))) (FC.up fr9 (by decide) (by decide))) (FC.up fr30 (by decide) (by decide))) (FC.up fr33 (by decide) (by decide))) (FC.up fr40 (by decide) (by decide))) (FC.up fr55 (by decide) (by decide))) (FC.up fr58 (by decide) (by decide))) (FC.up fr65 (by decide) (by decide))), (show 0 ≤ (u66.1 0 306).toInt ∧ (u66.1 0 306).toInt ≤ 40 from (om_68f540929a i30655 q68 q69)), (show 0 ≤ (u66.1 0 312).toInt ∧ (u66.1 0 312).toInt ≤ 500 from (om_7cf4561601 i31230 q46 q47 q70 q71 q72)), (show 0 ≤ (u66.1 0 321).toInt ∧ (u66.1 0 321).toInt ≤ 501 from (om_4dfa815534 i32155 q73 q74)), (show 0 ≤ (u66.1 0 326).toInt ∧ (u66.1 0 326).toInt ≤ 420 from (om_9591dea625 i32655 q75 q76)), (show 0 ≤ (u66.1 0 381).toInt ∧ (u66.1 0 381).toInt ≤ 3008 from (om_6e4eb11ad3 i38158 q77)), (show (u66.1 0 306).toInt = (v.1 0 306).toInt from (om_0c8fea9952 q15 q16 q17 po30 q44 q45 po55 q68 q69))⟩, ⟨by rw [ht9]; exact hP, hD⟩, by rw [ht9]; exact hz⟩, hS.F ht9⟩) hS.2.2 dX5_doRest_75
theorem om_e8d79dc0ac {n0 : Nat} : 8 + (1 + 11) + 104 ≤ 28 * (8 * n0 + 42) := by omega
theorem om_3318d17b61 {x0 x2 x3 x4 x5 : Int} {n1 : Nat} (h0 : 40 ≤ x0 + (n1 : Int)) (h1 : x2 = x0) (h2 : x3 = x2) (h3 : x4 = x3) (h4 : 0 ≤ x5 ∧ x5 ≤ 40) (h5 : x5 = x4 + 1) : 1 ≤ (n1 : Int) := by omega
theorem om_142f9b484c {x0 x2 x3 x4 x5 : Int} {n1 n6 : Nat} (h0 : 40 ≤ x0 + (n1 : Int)) (h1 : x2 = x0) (h2 : x3 = x2) (h3 : x4 = x3) (h4 : x5 = x4 + 1) (h5 : n1 = n6 + 1) : 40 ≤ x5 + (n6 : Int) := by omega
theorem om_f35f427e08 {n0 n1 : Nat} (h0 : n0 = n1 + 1) : (8 * n1 + 21) + 1 ≤ 8 * n0 + 42 := by omega
theorem om_13e07992b6 {n0 n1 : Nat} (h0 : n0 = n1 + 1) : 8 + (2 + 11) + 28 * (8 * n1 + 21) ≤ 28 * (8 * n0 + 42) := by omega
theorem om_b8aba6585b {x0 x2 x3 x4 x5 x6 x7 x8 x9 : Int} {n1 n10 : Nat} (h0 : 40 ≤ x0 + (n1 : Int)) (h1 : x2 = x0) (h2 : x3 = x2) (h3 : x4 = x3) (h4 : x5 = x4 + 1) (h5 : x6 = x5) (h6 : x7 = x6) (h7 : x8 = x7) (h8 : x9 = x8) (h9 : n1 = n10 + 1) : 40 ≤ x9 + (n10 : Int) := by omega
theorem om_295132b1a0 {x0 x1 x2 x3 x4 x5 x6 x7 x8 x9 : Int} (h0 : 0 ≤ x0 ∧ x0 ≤ 1503) (h1 : x1 = x0) (h2 : x2 = x1) (h3 : x3 = x2) (h4 : x4 = x3) (h5 : x5 = x4) (h6 : x6 = x5) (h7 : x7 = x6) (h8 : x8 = x7) (h9 : x9 = x8) : 0 ≤ x9 ∧ x9 ≤ 1503 := by omega
theorem om_df10c0c0da {x0 x1 x2 x3 x4 x5 x6 x7 x8 x9 : Int} (h0 : 0 ≤ x0 ∧ x0 ≤ 4000) (h1 : x1 = x0) (h2 : x2 = x1) (h3 : x3 = x2) (h4 : x4 = x3) (h5 : x5 = x4) (h6 : x6 = x5) (h7 : x7 = x6) (h8 : x8 = x7) (h9 : x9 = x8) : 0 ≤ x9 ∧ x9 ≤ 4000 := by omega
theorem om_012594a37a {x0 x1 x2 x3 x4 x5 x6 x7 x8 x9 x10 x11 x12 : Int} (h0 : 0 ≤ x0 ∧ x0 ≤ 1503) (h1 : x1 = x0) (h2 : x2 = x1) (h3 : x3 = x2) (h4 : x4 = x3) (h5 : x5 = x4) (h6 : x6 = x5) (h7 : x7 = x6) (h8 : x8 = x7) (h9 : x9 = x8) (h10 : x10 = x9) (h11 : x11 = x10) (h12 : x12 = x11) : 0 ≤ x12 ∧ x12 ≤ 1503 := by omega
theorem om_b379355bea {x0 x1 x2 x3 x4 x5 x6 x7 x8 x9 x10 x11 x12 : Int} (h0 : 0 ≤ x0 ∧ x0 ≤ 500) (h1 : x1 = x0) (h2 : x2 = x1) (h3 : x3 = x2) (h4 : x4 = x3) (h5 : x5 = x4) (h6 : x6 = x5) (h7 : x7 = x6) (h8 : x8 = x7) (h9 : x9 = x8) (h10 : x10 = x9) (h11 : x11 = x10) (h12 : x12 = x11) : 0 ≤ x12 ∧ x12 ≤ 500 := by omega
theorem om_5e2648c024 {x0 x1 x2 x3 x4 x5 x6 x7 x8 x9 x10 x11 x12 : Int} (h0 : 0 ≤ x0 ∧ x0 ≤ 4000) (h1 : x1 = x0) (h2 : x2 = x1) (h3 : x3 = x2) (h4 : x4 = x3) (h5 : x5 = x4) (h6 : x6 = x5) (h7 : x7 = x6) (h8 : x8 = x7) (h9 : x9 = x8) (h10 : x10 = x9) (h11 : x11 = x10) (h12 : x12 = x11) : 0 ≤ x12 ∧ x12 ≤ 4000 := by omega
theorem om_31bd07a141 {x0 x2 x3 x4 x5 x6 x7 x8 x9 x10 x11 x12 x13 : Int} {n1 n14 : Nat} (h0 : 40 ≤ x0 + (n1 : Int)) (h1 : x2 = x0) (h2 : x3 = x2) (h3 : x4 = x3) (h4 : x5 = x4 + 1) (h5 : x6 = x5) (h6 : x7 = x6) (h7 : x8 = x7) (h8 : x9 = x8) (h9 : x10 = x9) (h10 : x11 = x10) (h11 : x12 = x11) (h12 : x13 = x12) (h13 : n1 = n14 + 1) : 40 ≤ x13 + (n14 : Int) := by omega
theorem om_0266c5b6cc {x0 x1 x2 x3 x4 x5 x6 x7 x8 x9 x10 x11 x12 x13 : Int} (h0 : 0 ≤ x0 ∧ x0 ≤ 1503) (h1 : x1 = x0) (h2 : x2 = x1) (h3 : x3 = x2) (h4 : x4 = x3) (h5 : x5 = x4) (h6 : x6 = x5) (h7 : x7 = x6) (h8 : x8 = x7) (h9 : x9 = x8) (h10 : x10 = x9) (h11 : x11 = x10) (h12 : x12 = x11) (h13 : x13 = x12) : 0 ≤ x13 ∧ x13 ≤ 1503 := by omega
theorem om_73ad7353b7 {x0 x1 x2 x3 x4 x5 x6 x7 x8 x9 x10 x11 x12 x13 : Int} (h0 : 0 ≤ x0 ∧ x0 ≤ 4000) (h1 : x1 = x0) (h2 : x2 = x1) (h3 : x3 = x2) (h4 : x4 = x3) (h5 : x5 = x4) (h6 : x6 = x5) (h7 : x7 = x6) (h8 : x8 = x7) (h9 : x9 = x8) (h10 : x10 = x9) (h11 : x11 = x10) (h12 : x12 = x11) (h13 : x13 = x12) : 0 ≤ x13 ∧ x13 ≤ 4000 := by omega
theorem om_db04ae2ab6 {x0 x1 x2 x3 x4 x5 x6 x7 x8 x9 x10 x11 x12 x13 x14 : Int} (h0 : 0 ≤ x0 ∧ x0 ≤ 40) (h1 : x1 = x0) (h2 : x2 = x1) (h3 : x3 = x2) (h4 : x4 = x3 + 1) (h5 : x5 = x4) (h6 : x6 = x5) (h7 : x7 = x6) (h8 : x8 = x7) (h9 : x9 = x8) (h10 : x10 = x9) (h11 : x11 = x10) (h12 : x12 = x11) (h13 : x13 = x12) (h14 : x14 = x13) : 1 ≤ x14 := by omega
theorem om_0d05a877d2 {x0 x1 x2 x3 x4 x5 x6 x7 x8 x9 x10 x11 x12 x13 x14 x15 x16 x17 : Int} (h0 : 0 ≤ x0 ∧ x0 ≤ 1503) (h1 : x1 = x0) (h2 : x2 = x1) (h3 : x3 = x2) (h4 : x4 = x3) (h5 : x5 = x4) (h6 : x6 = x5) (h7 : x7 = x6) (h8 : x8 = x7) (h9 : x9 = x8) (h10 : x10 = x9) (h11 : x11 = x10) (h12 : x12 = x11) (h13 : x13 = x12) (h14 : x14 = x13) (h15 : x15 = x14) (h16 : x16 = x15) (h17 : x17 = x16) : 0 ≤ x17 ∧ x17 ≤ 1503 := by omega
theorem om_5db7a6ef3c {x0 x1 x2 x3 x4 : Int} (h0 : 0 ≤ x0 ∧ x0 ≤ 40) (h1 : x1 = x0) (h2 : 0 ≤ x2 ∧ x2 ≤ 40) (h3 : x2 = x1 - 1) (h4 : x3 = x2) (h5 : x4 = x3) : 0 ≤ x4 ∧ x4 ≤ 40 := by omega
theorem om_cba1a58a90 {x0 x1 x2 x3 x4 x5 x6 x7 x8 x9 x10 x11 x12 x13 x14 x15 x16 x17 : Int} (h0 : 0 ≤ x0 ∧ x0 ≤ 500) (h1 : x1 = x0) (h2 : x2 = x1) (h3 : x3 = x2) (h4 : x4 = x3) (h5 : x5 = x4) (h6 : x6 = x5) (h7 : x7 = x6) (h8 : x8 = x7) (h9 : x9 = x8) (h10 : x10 = x9) (h11 : x11 = x10) (h12 : x12 = x11) (h13 : x13 = x12) (h14 : x14 = x13) (h15 : x15 = x14) (h16 : x16 = x15) (h17 : x17 = x16) : 0 ≤ x17 ∧ x17 ≤ 500 := by omega
theorem om_25eec210ed {x0 x1 x2 x3 x4 x5 x6 x7 x8 x9 x10 x11 x12 x13 x14 x15 x16 x17 : Int} (h0 : 0 ≤ x0 ∧ x0 ≤ 4000) (h1 : x1 = x0) (h2 : x2 = x1) (h3 : x3 = x2) (h4 : x4 = x3) (h5 : x5 = x4) (h6 : x6 = x5) (h7 : x7 = x6) (h8 : x8 = x7) (h9 : x9 = x8) (h10 : x10 = x9) (h11 : x11 = x10) (h12 : x12 = x11) (h13 : x13 = x12) (h14 : x14 = x13) (h15 : x15 = x14) (h16 : x16 = x15) (h17 : x17 = x16) : 0 ≤ x17 ∧ x17 ≤ 4000 := by omega
theorem om_7525ca43ab {x0 x2 x3 x4 x5 x6 x7 x8 x9 x10 x11 x12 x13 x14 x15 x16 x17 x18 : Int} {n1 : Nat} (h0 : 40 ≤ x0 + (n1 : Int)) (h1 : x2 = x0) (h2 : x3 = x2) (h3 : x4 = x3) (h4 : x5 = x4 + 1) (h5 : x6 = x5) (h6 : x7 = x6) (h7 : x8 = x7) (h8 : x9 = x8) (h9 : x10 = x9) (h10 : x11 = x10) (h11 : x12 = x11) (h12 : x13 = x12) (h13 : x14 = x13) (h14 : x15 = x14) (h15 : x16 = x15 - 1) (h16 : x17 = x16) (h17 : x18 = x17) : 40 ≤ x18 + (n1 : Int) := by omega
theorem om_09310d7f72 {x0 x1 x2 x3 x4 x5 x6 x7 x8 x9 x10 x11 x12 x13 x14 x15 x16 x17 x18 x19 : Int} (h0 : x0 = x1) (h1 : x2 = x0) (h2 : x3 = x2) (h3 : x4 = x3 + 1) (h4 : x5 = x4) (h5 : x6 = x5) (h6 : x7 = x6) (h7 : x8 = x7) (h8 : x9 = x8) (h9 : x10 = x9) (h10 : x11 = x10) (h11 : x12 = x11) (h12 : x13 = x12) (h13 : x14 = x13) (h14 : x15 = x14 - 1) (h15 : x16 = x15) (h16 : x17 = x16) (h17 : x18 = x17) (h18 : x19 = x18) : x19 = x1 := by omega
theorem om_da3662a68c {x0 x1 x2 x3 x4 x5 x6 x7 x8 x9 x10 : Int} (h0 : 0 ≤ x0 ∧ x0 ≤ 1503) (h1 : x1 = x0) (h2 : x2 = x1) (h3 : x3 = x2) (h4 : x4 = x3) (h5 : x5 = x4) (h6 : x6 = x5) (h7 : x7 = x6) (h8 : x8 = x7) (h9 : x9 = x8) (h10 : x10 = x9) : 0 ≤ x10 ∧ x10 ≤ 1503 := by omega
theorem om_463e4f842d {x0 x1 x2 x3 x4 x5 x6 x7 x8 x9 x10 : Int} (h0 : 0 ≤ x0 ∧ x0 ≤ 4000) (h1 : x1 = x0) (h2 : x2 = x1) (h3 : x3 = x2) (h4 : x4 = x3) (h5 : x5 = x4) (h6 : x6 = x5) (h7 : x7 = x6) (h8 : x8 = x7) (h9 : x9 = x8) (h10 : x10 = x9) : 0 ≤ x10 ∧ x10 ≤ 4000 := by omega
theorem om_1971465ea5 {x0 x1 x2 x3 x4 x5 x6 x7 x8 x9 x10 x11 x12 x13 : Int} (h0 : 0 ≤ x0 ∧ x0 ≤ 500) (h1 : x1 = x0) (h2 : x2 = x1) (h3 : x3 = x2) (h4 : x4 = x3) (h5 : x5 = x4) (h6 : x6 = x5) (h7 : x7 = x6) (h8 : x8 = x7) (h9 : x9 = x8) (h10 : x10 = x9) (h11 : x11 = x10) (h12 : x12 = x11) (h13 : x13 = x12) : 0 ≤ x13 ∧ x13 ≤ 500 := by omega
theorem om_d06f51844c {x0 x2 x3 x4 x5 x6 x7 x8 x9 x10 x11 x12 x13 x14 : Int} {n1 n15 : Nat} (h0 : 40 ≤ x0 + (n1 : Int)) (h1 : x2 = x0) (h2 : x3 = x2) (h3 : x4 = x3) (h4 : x5 = x4 + 1) (h5 : x6 = x5) (h6 : x7 = x6) (h7 : x8 = x7) (h8 : x9 = x8) (h9 : x10 = x9) (h10 : x11 = x10) (h11 : x12 = x11) (h12 : x13 = x12) (h13 : x14 = x13) (h14 : n1 = n15 + 1) : 40 ≤ x14 + (n15 : Int) := by omega
theorem om_88e0c5ac50 {x0 x1 x2 x3 x4 x5 x6 x7 x8 x9 x10 x11 x12 x13 x14 : Int} (h0 : 0 ≤ x0 ∧ x0 ≤ 1503) (h1 : x1 = x0) (h2 : x2 = x1) (h3 : x3 = x2) (h4 : x4 = x3) (h5 : x5 = x4) (h6 : x6 = x5) (h7 : x7 = x6) (h8 : x8 = x7) (h9 : x9 = x8) (h10 : x10 = x9) (h11 : x11 = x10) (h12 : x12 = x11) (h13 : x13 = x12) (h14 : x14 = x13) : 0 ≤ x14 ∧ x14 ≤ 1503 := by omega
theorem om_0a1b993692 {x0 x1 x2 x3 x4 x5 x6 x7 x8 x9 x10 x11 x12 x13 x14 : Int} (h0 : 0 ≤ x0 ∧ x0 ≤ 4000) (h1 : x1 = x0) (h2 : x2 = x1) (h3 : x3 = x2) (h4 : x4 = x3) (h5 : x5 = x4) (h6 : x6 = x5) (h7 : x7 = x6) (h8 : x8 = x7) (h9 : x9 = x8) (h10 : x10 = x9) (h11 : x11 = x10) (h12 : x12 = x11) (h13 : x13 = x12) (h14 : x14 = x13) : 0 ≤ x14 ∧ x14 ≤ 4000 := by omega
theorem om_dde18c5ac6 {x0 x1 x2 x3 x4 x5 x6 x7 x8 x9 x10 x11 x12 x13 x14 x15 : Int} (h0 : 0 ≤ x0 ∧ x0 ≤ 40) (h1 : x1 = x0) (h2 : x2 = x1) (h3 : x3 = x2) (h4 : x4 = x3 + 1) (h5 : x5 = x4) (h6 : x6 = x5) (h7 : x7 = x6) (h8 : x8 = x7) (h9 : x9 = x8) (h10 : x10 = x9) (h11 : x11 = x10) (h12 : x12 = x11) (h13 : x13 = x12) (h14 : x14 = x13) (h15 : x15 = x14) : 1 ≤ x15 := by omega
theorem om_d923b9d3a6 {x0 x1 x2 x3 x4 x5 x6 x7 x8 x9 x10 x11 x12 x13 x14 x15 x16 x17 x18 : Int} (h0 : 0 ≤ x0 ∧ x0 ≤ 1503) (h1 : x1 = x0) (h2 : x2 = x1) (h3 : x3 = x2) (h4 : x4 = x3) (h5 : x5 = x4) (h6 : x6 = x5) (h7 : x7 = x6) (h8 : x8 = x7) (h9 : x9 = x8) (h10 : x10 = x9) (h11 : x11 = x10) (h12 : x12 = x11) (h13 : x13 = x12) (h14 : x14 = x13) (h15 : x15 = x14) (h16 : x16 = x15) (h17 : x17 = x16) (h18 : x18 = x17) : 0 ≤ x18 ∧ x18 ≤ 1503 := by omega
theorem om_1c98284a27 {x0 x1 x2 x3 x4 x5 x6 x7 x8 x9 x10 x11 x12 x13 x14 x15 x16 x17 x18 : Int} (h0 : 0 ≤ x0 ∧ x0 ≤ 500) (h1 : x1 = x0) (h2 : x2 = x1) (h3 : x3 = x2) (h4 : x4 = x3) (h5 : x5 = x4) (h6 : x6 = x5) (h7 : x7 = x6) (h8 : x8 = x7) (h9 : x9 = x8) (h10 : x10 = x9) (h11 : x11 = x10) (h12 : x12 = x11) (h13 : x13 = x12) (h14 : x14 = x13) (h15 : x15 = x14) (h16 : x16 = x15) (h17 : x17 = x16) (h18 : x18 = x17) : 0 ≤ x18 ∧ x18 ≤ 500 := by omega
theorem om_0d95758d56 {x0 x1 x2 x3 x4 x5 x6 x7 x8 x9 x10 x11 x12 x13 x14 x15 x16 x17 x18 : Int} (h0 : 0 ≤ x0 ∧ x0 ≤ 4000) (h1 : x1 = x0) (h2 : x2 = x1) (h3 : x3 = x2) (h4 : x4 = x3) (h5 : x5 = x4) (h6 : x6 = x5) (h7 : x7 = x6) (h8 : x8 = x7) (h9 : x9 = x8) (h10 : x10 = x9) (h11 : x11 = x10) (h12 : x12 = x11) (h13 : x13 = x12) (h14 : x14 = x13) (h15 : x15 = x14) (h16 : x16 = x15) (h17 : x17 = x16) (h18 : x18 = x17) : 0 ≤ x18 ∧ x18 ≤ 4000 := by omega
theorem om_f00cfc2b26 {x0 x2 x3 x4 x5 x6 x7 x8 x9 x10 x11 x12 x13 x14 x15 x16 x17 x18 x19 : Int} {n1 : Nat} (h0 : 40 ≤ x0 + (n1 : Int)) (h1 : x2 = x0) (h2 : x3 = x2) (h3 : x4 = x3) (h4 : x5 = x4 + 1) (h5 : x6 = x5) (h6 : x7 = x6) (h7 : x8 = x7) (h8 : x9 = x8) (h9 : x10 = x9) (h10 : x11 = x10) (h11 : x12 = x11) (h12 : x13 = x12) (h13 : x14 = x13) (h14 : x15 = x14) (h15 : x16 = x15) (h16 : x17 = x16 - 1) (h17 : x18 = x17) (h18 : x19 = x18) : 40 ≤ x19 + (n1 : Int) := by omega
theorem om_35df07069e {x0 x1 x2 x3 x4 x5 x6 x7 x8 x9 x10 x11 x12 x13 x14 x15 x16 x17 x18 x19 x20 : Int} (h0 : x0 = x1) (h1 : x2 = x0) (h2 : x3 = x2) (h3 : x4 = x3 + 1) (h4 : x5 = x4) (h5 : x6 = x5) (h6 : x7 = x6) (h7 : x8 = x7) (h8 : x9 = x8) (h9 : x10 = x9) (h10 : x11 = x10) (h11 : x12 = x11) (h12 : x13 = x12) (h13 : x14 = x13) (h14 : x15 = x14) (h15 : x16 = x15 - 1) (h16 : x17 = x16) (h17 : x18 = x17) (h18 : x19 = x18) (h19 : x20 = x19) : x20 = x1 := by omega
set_option maxHeartbeats 16000000 in
set_option maxRecDepth 100000 in
theorem c_x_X5_forRest (l : Launch) (n : Nat) (S : Cq_stat l n) (dC : Nat → ClassId) (dI : Nat → Nat → Nat) (cI cB cZ cJ cR : ClassId) (tb : Nat → Nat) (sz : Nat) (ad : Nat → Nat) (pr : Int32 → Nat) (N : Nat) (L1 L2 : List Nat) (v : MS) (ps : Int32) (z304 : 0 ≤ (v.1 0 304).toInt ∧ (v.1 0 304).toInt ≤ 1503) (z306 : 0 ≤ (v.1 0 306).toInt ∧ (v.1 0 306).toInt ≤ 40) (z312 : 0 ≤ (v.1 0 312).toInt ∧ (v.1 0 312).toInt ≤ 500) (z321 : 0 ≤ (v.1 0 321).toInt ∧ (v.1 0 321).toInt ≤ 501) (z326 : 0 ≤ (v.1 0 326).toInt ∧ (v.1 0 326).toInt ≤ 420) (z373 : 0 ≤ (v.1 0 373).toInt ∧ (v.1 0 373).toInt ≤ 4000) (z381 : 0 ≤ (v.1 0 381).toInt ∧ (v.1 0 381).toInt ≤ 3008) (hL1 : L1.length = 40) (hL2 : L2.length = 60) (rp : RP v) (hps : pr ps = ad 908) (es300 : (v.1 0 300) = ps) (es310 : (v.1 0 310) = ps) (hst : l.stackTraces = false) (zn : 40 ≤ (v.1 0 306).toInt + (n : Int)) : vx_Met l yX5_forRest (Cond.code yX5_forRest cX5_forRest 3 none :: tw_W) ({ frames := 8 * n + 42, cells := 1, slots := 6, locals := 28 * (8 * n + 42) }) (pc_ (dC, dI) (tyS cI cB cZ cJ cR) tb (cW ad pr N cI cR L1 L2 v) sz [.ref (ad 903)]) (qvz_ (dC, dI) (cW ad pr N cI cR L1 L2 v) sz (fun (u : MS) => FC [305, 306, 307, 312, 313, 314, 315, 317, 321, 326, 331, 332, 381] [0, 311, 316, 318, 319, 320, 324, 325, 378, 379, 380] v u ∧ (0 ≤ (u.1 0 306).toInt ∧ (u.1 0 306).toInt ≤ 40) ∧ (0 ≤ (u.1 0 312).toInt ∧ (u.1 0 312).toInt ≤ 500) ∧ (0 ≤ (u.1 0 321).toInt ∧ (u.1 0 321).toInt ≤ 501) ∧ (0 ≤ (u.1 0 326).toInt ∧ (u.1 0 326).toInt ≤ 420) ∧ (0 ≤ (u.1 0 381).toInt ∧ (u.1 0 381).toInt ≤ 3008) ∧ ((u.1 0 306).toInt = (v.1 0 306).toInt)) (fun (u : MS) => (cW ad pr N cI cR L1 L2 u))) (qxc (dC, dI) (cW ad pr N cI cR L1 L2 v) sz (fun (u : MS) => (cW ad pr N cI cR L1 L2 u)) (fun (u : MS) => FC xfl xal v u ∧ (u.1 0 308).toInt ≠ 0)) 1 6 (va_A (cW ad pr N cI cR L1 L2 v) sz) := by
  refine vx_ofW (cc := cX5_forRest) (maxL := 3) (ret := none) (by decide) rfl ?_
  intro p e s m args below meth c s₁ B hml hnt hv
  obtain ⟨rfl, hsz, hP, hKK, hD0, hFx⟩ := hv
  have hK := hKK.1
  have hx := B.exec
  have hb := B.bytes
  have hr := B.returns
  have ht : ∀ w ∈ tw_W, w.before _ s = true := fun w h => atoms_spec (ws := Cond.code yX5_forRest cX5_forRest 3 none :: tw_W) B.pre w (List.mem_cons_of_mem _ h)
  have hown : s.vm.findClass RX5 = some m.cls := findClass_of_methodNamed B.named
  have hlocks := B.notSynchronized
  subst hsz
  unfold qvz_ qxc
  have hD := hD0.self (sz := s.heap.size)
  generalize hAe : va_A (cW ad pr N cI cR L1 L2 v) s.heap.size = A at hD hFx ⊢
  have hA : ∀ q : Nat, s.heap.size ≤ q → A q := fun q h => by rw [← hAe]; exact Or.inr h
  have hS : va_S A s.heap s.heap [] := va_S.rf
  have hl := lv_entry ([.ref (ad 903)]) (n := 3) (Nat.le_of_ble_eq_true rfl)
  rw [lg_entry_eq]
  generalize (lg_sl ([.ref (ad 903)]) ++ List.replicate (3 - (lg_sl ([.ref (ad 903)])).length) Slot.unset).toArray = ls at hl ⊢
  have hl : lv_has ls 3 [(0, .ref (ad 903))] := hl
  refine lv_aload_n hx hb dX5_forRest_0 rfl (lv_at hl 0 rfl) ?_
  refine va_get (D := (dC, dI)) (ci := 8) (fs := oF_X5 ad pr v) (v := .ref (ad 901)) (C := RX5) (T := TX5) (N := 7) hx hb ht itX5 hown hK hP 3 rfl rfl 2 (by decide) (ht _ tw_573) (fun _ h9 => h9) rfl dX5_forRest_1 ?_
  refine cu_i (rn_Vk (n := 0) (As := []) (rest := []) hx hb hml hown ht hKK hFx hP hD hS hA (c_x_X1_newLabel l dC dI cI cB cZ cJ cR tb s.heap.size ad pr N L1 L2 v  ) tw_501 tw_621 (by decide +kernel) rfl rfl ⟨show 0 + 1 ≤ 8 * n + 42 from om_7b3d5df7aa, show 8 + (1 + 11) + 0 ≤ 28 * (8 * n + 42) from om_2ad1feabc9⟩ (List.range (cW ad pr N cI cR L1 L2 v).length) (rg_map _) (nd_range _) 1 rfl rfl rfl rfl hl.1 rfl (Nat.le_of_ble_eq_true rfl) dX5_forRest_4 ⟨Nat.le_of_ble_eq_true rfl, Nat.le_of_ble_eq_true rfl⟩) hP hD hS hA (fun r3 u2 H locs hw1 hP hD hS => ?_)
  have fr1 := hw1
  refine W.widen (k := 0) (n := 0) (Nat.le_refl _) (Nat.le_refl _) ?_
  refine lv_istore_n (lv' := [(1, .int r3), (0, .ref (ad 903))]) hx hb dX5_forRest_7 rfl hl (by decide) rfl (fun ls hl => ?_)
  refine lv_aload_n hx hb dX5_forRest_8 rfl (lv_at hl 1 rfl) ?_
  refine va_get (D := (dC, dI)) (ci := 8) (fs := oF_X5 ad pr u2) (v := .ref (ad 901)) (C := RX5) (T := TX5) (N := 7) hx hb ht itX5 hown hK hP 3 rfl rfl 2 (by decide) (ht _ tw_573) (fun _ h9 => h9) rfl dX5_forRest_9 ?_
  refine cu_i (rn_Vk (n := 0) (As := []) (rest := []) hx hb hml hown ht hKK hFx hP hD hS hA (c_x_X1_newLabel l dC dI cI cB cZ cJ cR tb H.size ad pr N L1 L2 u2  ) tw_501 tw_621 (by decide +kernel) rfl rfl ⟨show 0 + 1 ≤ 8 * n + 42 from om_7b3d5df7aa, show 8 + (1 + 11) + 0 ≤ 28 * (8 * n + 42) from om_2ad1feabc9⟩ (List.range (cW ad pr N cI cR L1 L2 u2).length) (rg_map _) (nd_range _) 1 rfl rfl rfl rfl hl.1 rfl (Nat.le_of_ble_eq_true rfl) dX5_forRest_12 ⟨Nat.le_of_ble_eq_true rfl, Nat.le_of_ble_eq_true rfl⟩) hP hD hS hA (fun r6 u5 H locs hw4 hP hD hS => ?_)
  have fr4 := hw4
  refine W.widen (k := 0) (n := 0) (Nat.le_refl _) (Nat.le_refl _) ?_
  refine lv_istore_n (lv' := [(2, .int r6), (1, .int r3), (0, .ref (ad 903))]) hx hb dX5_forRest_15 rfl hl (by decide) rfl (fun ls hl => ?_)
  refine lv_aload_n hx hb dX5_forRest_16 rfl (lv_at hl 2 rfl) ?_
  refine va_get (D := (dC, dI)) (ci := 8) (fs := oF_X5 ad pr u5) (v := .ref (ad 900)) (C := RX5) (T := TX5) (N := 7) hx hb ht itX5 hown hK hP 3 rfl rfl 1 (by decide) (ht _ tw_571) (fun _ h9 => h9) rfl dX5_forRest_17 ?_
  refine lv_bipush (v := 30) hx hb dX5_forRest_20 (by decide) ?_
  have q7 : (u2.1 0 304).toInt = (v.1 0 304).toInt := congrArg Int32.toInt ((fr1.2.1 304 (by decide)).trans (show v.1 0 304 = (v.1 0 304) by rfl))
  have q8 : (u5.1 0 304).toInt = (u2.1 0 304).toInt := congrArg Int32.toInt ((fr4.2.1 304 (by decide)).trans (show u2.1 0 304 = (u2.1 0 304) by rfl))
  have q9 : (u2.1 0 373).toInt = (v.1 0 373).toInt := congrArg Int32.toInt ((fr1.2.1 373 (by decide)).trans (show v.1 0 373 = (v.1 0 373) by rfl))
  have q10 : (u5.1 0 373).toInt = (u2.1 0 373).toInt := congrArg Int32.toInt ((fr4.2.1 373 (by decide)).trans (show u2.1 0 373 = (u2.1 0 373) by rfl))
  refine W.sz (fun hz9 => ?_)
  refine czx_v (rx_Vk (n := 1) (As := [.int 30]) (rest := []) hx hb hml hown ht hKK hFx hP hD hS hA (c_x_X9_need l dC dI cI cB cZ cJ cR tb H.size ad pr N L1 L2 u5 (30 : Int32) ps (show 0 ≤ (u5.1 0 304).toInt ∧ (u5.1 0 304).toInt ≤ 1503 from (om_dd87ee851a z304 q7 q8)) (show 0 ≤ (u5.1 0 373).toInt ∧ (u5.1 0 373).toInt ≤ 4000 from (om_03cd8767ac z373 q9 q10)) (show pr ps = ad 908 from hps) (show (u5.1 0 300) = ps from (Eq.trans (fr4.2.1 300 (by decide)) (Eq.trans (fr1.2.1 300 (by decide)) es300))) (show l.stackTraces = false from hst)) tw_559 tw_572 (by decide +kernel) rfl rfl ⟨show 7 + 1 ≤ 8 * n + 42 from om_24bb48a271, show 8 + (2 + 11) + 104 ≤ 28 * (8 * n + 42) from om_46dbd0fc2a⟩ (List.range (cW ad pr N cI cR L1 L2 u5).length) (rg_map _) (nd_range _) 0 rfl rfl rfl rfl hl.1 rfl (Nat.le_of_ble_eq_true rfl) dX5_forRest_22 ⟨Nat.le_of_ble_eq_true rfl, Nat.le_of_ble_eq_true rfl⟩) hP hD hS hA (fun u9 ce9 q9 H locs hx9 hP hD hS hc9 hv9 hf9 => ?_) (fun u12 H locs hw11 hP hD hS hz8 => ?_)
  · exact vx_out (fun x h9 => (hnt x h9).elim) hlocks hc9 hv9 hf9 (fun t9 ht9 hv8 => ⟨u9, ⟨FC.tr (FC.tr (FC.tr (FC.rf _) (FC.up fr1 (by decide) (by decide))) (FC.up fr4 (by decide) (by decide))) hx9.1, hx9.2⟩, ⟨rfl, by rw [ht9]; exact hP, hD⟩, hS.F ht9⟩) hS.2.2 (Nat.le_refl _) (Nat.le_refl _)
  refine W.shrink (hz8.trans hz9) ?_
  have fr11 := hw11
  refine lv_aload_n hx hb dX5_forRest_25 rfl (lv_at hl 2 rfl) ?_
  refine va_get (D := (dC, dI)) (ci := 8) (fs := oF_X5 ad pr u12) (v := .ref (ad 900)) (C := RX5) (T := TX5) (N := 7) hx hb ht itX5 hown hK hP 3 rfl rfl 1 (by decide) (ht _ tw_571) (fun _ h9 => h9) rfl dX5_forRest_26 ?_
  have q14 : (u12.1 0 304).toInt = (u5.1 0 304).toInt := congrArg Int32.toInt ((fr11.2.1 304 (by decide)).trans (show u5.1 0 304 = (u5.1 0 304) by rfl))
  have q15 : (u2.1 0 306).toInt = (v.1 0 306).toInt := congrArg Int32.toInt ((fr1.2.1 306 (by decide)).trans (show v.1 0 306 = (v.1 0 306) by rfl))
  have q16 : (u5.1 0 306).toInt = (u2.1 0 306).toInt := congrArg Int32.toInt ((fr4.2.1 306 (by decide)).trans (show u2.1 0 306 = (u2.1 0 306) by rfl))
  have q17 : (u12.1 0 306).toInt = (u5.1 0 306).toInt := congrArg Int32.toInt ((fr11.2.1 306 (by decide)).trans (show u5.1 0 306 = (u5.1 0 306) by rfl))
  have q18 : (u12.1 0 373).toInt = (u5.1 0 373).toInt := congrArg Int32.toInt ((fr11.2.1 373 (by decide)).trans (show u5.1 0 373 = (u5.1 0 373) by rfl))
  refine W.sz (fun hz9 => ?_)
  refine czx_v (rx_Vk (n := 0) (As := []) (rest := []) hx hb hml hown ht hKK hFx hP hD hS hA (c_x_X9_open l dC dI cI cB cZ cJ cR tb H.size ad pr N L1 L2 u12 ps (show 0 ≤ (u12.1 0 304).toInt ∧ (u12.1 0 304).toInt ≤ 1503 from (om_57e3d9ffbd z304 q7 q8 q14)) (show 0 ≤ (u12.1 0 306).toInt ∧ (u12.1 0 306).toInt ≤ 40 from (om_91b0537b40 z306 q15 q16 q17)) (show 0 ≤ (u12.1 0 373).toInt ∧ (u12.1 0 373).toInt ≤ 4000 from (om_282c7f458f z373 q9 q10 q18)) (show pr ps = ad 908 from hps) (show (u12.1 0 300) = ps from (Eq.trans (fr11.2.1 300 (by decide)) (Eq.trans (fr4.2.1 300 (by decide)) (Eq.trans (fr1.2.1 300 (by decide)) es300)))) (show l.stackTraces = false from hst)) tw_524 tw_593 (by decide +kernel) rfl rfl ⟨show 7 + 1 ≤ 8 * n + 42 from om_24bb48a271, show 8 + (1 + 11) + 104 ≤ 28 * (8 * n + 42) from om_e8d79dc0ac⟩ (List.range (cW ad pr N cI cR L1 L2 u12).length) (rg_map _) (nd_range _) 0 rfl rfl rfl rfl hl.1 rfl (Nat.le_of_ble_eq_true rfl) dX5_forRest_29 ⟨Nat.le_of_ble_eq_true rfl, Nat.le_of_ble_eq_true rfl⟩) hP hD hS hA (fun u9 ce9 q9 H locs hx9 hP hD hS hc9 hv9 hf9 => ?_) (fun u20 H locs hw19 hP hD hS hz8 => ?_)
  · exact vx_out (fun x h9 => (hnt x h9).elim) hlocks hc9 hv9 hf9 (fun t9 ht9 hv8 => ⟨u9, ⟨FC.tr (FC.tr (FC.tr (FC.tr (FC.rf _) (FC.up fr1 (by decide) (by decide))) (FC.up fr4 (by decide) (by decide))) (FC.up fr11 (by decide) (by decide))) hx9.1, hx9.2⟩, ⟨rfl, by rw [ht9]; exact hP, hD⟩, hS.F ht9⟩) hS.2.2 (Nat.le_refl _) (Nat.le_refl _)
  refine W.shrink (hz8.trans hz9) ?_
  obtain ⟨fr19, i30619, pj19⟩ := hw19
  have i30619 : 0 ≤ (u20.1 0 306).toInt ∧ (u20.1 0 306).toInt ≤ 40 := i30619
  have pj19 : (u20.1 0 306).toInt = (u12.1 0 306).toInt + 1 := pj19
  refine lv_aload_n hx hb dX5_forRest_32 rfl (lv_at hl 2 rfl) ?_
  refine lv_bipush (v := 36) hx hb dX5_forRest_33 (by decide) ?_
  obtain ⟨n22, hn23⟩ : ∃ m, n = m + 1 := ex_z (om_3318d17b61 zn q15 q16 q17 i30619 pj19)
  have q24 : (u20.1 0 304).toInt = (u12.1 0 304).toInt := congrArg Int32.toInt ((fr19.2.1 304 (by decide)).trans (show u12.1 0 304 = (u12.1 0 304) by rfl))
  have q25 : (u2.1 0 312).toInt = (v.1 0 312).toInt := congrArg Int32.toInt ((fr1.2.1 312 (by decide)).trans (show v.1 0 312 = (v.1 0 312) by rfl))
  have q26 : (u5.1 0 312).toInt = (u2.1 0 312).toInt := congrArg Int32.toInt ((fr4.2.1 312 (by decide)).trans (show u2.1 0 312 = (u2.1 0 312) by rfl))
  have q27 : (u12.1 0 312).toInt = (u5.1 0 312).toInt := congrArg Int32.toInt ((fr11.2.1 312 (by decide)).trans (show u5.1 0 312 = (u5.1 0 312) by rfl))
  have q28 : (u20.1 0 312).toInt = (u12.1 0 312).toInt := congrArg Int32.toInt ((fr19.2.1 312 (by decide)).trans (show u12.1 0 312 = (u12.1 0 312) by rfl))
  have q29 : (u2.1 0 321).toInt = (v.1 0 321).toInt := congrArg Int32.toInt ((fr1.2.1 321 (by decide)).trans (show v.1 0 321 = (v.1 0 321) by rfl))
  have q30 : (u5.1 0 321).toInt = (u2.1 0 321).toInt := congrArg Int32.toInt ((fr4.2.1 321 (by decide)).trans (show u2.1 0 321 = (u2.1 0 321) by rfl))
  have q31 : (u12.1 0 321).toInt = (u5.1 0 321).toInt := congrArg Int32.toInt ((fr11.2.1 321 (by decide)).trans (show u5.1 0 321 = (u5.1 0 321) by rfl))
  have q32 : (u20.1 0 321).toInt = (u12.1 0 321).toInt := congrArg Int32.toInt ((fr19.2.1 321 (by decide)).trans (show u12.1 0 321 = (u12.1 0 321) by rfl))
  have q33 : (u2.1 0 326).toInt = (v.1 0 326).toInt := congrArg Int32.toInt ((fr1.2.1 326 (by decide)).trans (show v.1 0 326 = (v.1 0 326) by rfl))
  have q34 : (u5.1 0 326).toInt = (u2.1 0 326).toInt := congrArg Int32.toInt ((fr4.2.1 326 (by decide)).trans (show u2.1 0 326 = (u2.1 0 326) by rfl))
  have q35 : (u12.1 0 326).toInt = (u5.1 0 326).toInt := congrArg Int32.toInt ((fr11.2.1 326 (by decide)).trans (show u5.1 0 326 = (u5.1 0 326) by rfl))
  have q36 : (u20.1 0 326).toInt = (u12.1 0 326).toInt := congrArg Int32.toInt ((fr19.2.1 326 (by decide)).trans (show u12.1 0 326 = (u12.1 0 326) by rfl))
  have q37 : (u20.1 0 373).toInt = (u12.1 0 373).toInt := congrArg Int32.toInt ((fr19.2.1 373 (by decide)).trans (show u12.1 0 373 = (u12.1 0 373) by rfl))
  have q38 : (u2.1 0 381).toInt = (v.1 0 381).toInt := congrArg Int32.toInt ((fr1.2.1 381 (by decide)).trans (show v.1 0 381 = (v.1 0 381) by rfl))
  have q39 : (u5.1 0 381).toInt = (u2.1 0 381).toInt := congrArg Int32.toInt ((fr4.2.1 381 (by decide)).trans (show u2.1 0 381 = (u2.1 0 381) by rfl))
  have q40 : (u12.1 0 381).toInt = (u5.1 0 381).toInt := congrArg Int32.toInt ((fr11.2.1 381 (by decide)).trans (show u5.1 0 381 = (u5.1 0 381) by rfl))
  have q41 : (u20.1 0 381).toInt = (u12.1 0 381).toInt := congrArg Int32.toInt ((fr19.2.1 381 (by decide)).trans (show u12.1 0 381 = (u12.1 0 381) by rfl))
  refine W.sz (fun hz9 => ?_)
  refine czx_i (rx_Vk (n := 1) (As := [.int 36]) (rest := []) hx hb hml hown ht hKK hFx hP hD hS hA (c_x_X5_optional l n22 dC dI cI cB cZ cJ cR tb H.size ad pr N L1 L2 u20 (36 : Int32) ps (show 0 ≤ (u20.1 0 304).toInt ∧ (u20.1 0 304).toInt ≤ 1503 from (om_8044691ca6 z304 q7 q8 q14 q24)) (show 0 ≤ (u20.1 0 306).toInt ∧ (u20.1 0 306).toInt ≤ 40 from (om_7eaf33e007 i30619)) (show 0 ≤ (u20.1 0 312).toInt ∧ (u20.1 0 312).toInt ≤ 500 from (om_31e0c91fb9 z312 q25 q26 q27 q28)) (show 0 ≤ (u20.1 0 321).toInt ∧ (u20.1 0 321).toInt ≤ 501 from (om_404ac90bf6 z321 q29 q30 q31 q32)) (show 0 ≤ (u20.1 0 326).toInt ∧ (u20.1 0 326).toInt ≤ 420 from (om_73f5be2f84 z326 q33 q34 q35 q36)) (show 0 ≤ (u20.1 0 373).toInt ∧ (u20.1 0 373).toInt ≤ 4000 from (om_fdcbb58227 z373 q9 q10 q18 q37)) (show 0 ≤ (u20.1 0 381).toInt ∧ (u20.1 0 381).toInt ≤ 3008 from (om_4267952275 z381 q38 q39 q40 q41)) (show L1.length = 40 from hL1) (show L2.length = 60 from hL2) (show RP u20 from ((show FC [305, 306, 307, 312, 313, 314, 315, 317, 321, 326, 331, 332, 381] [0, 311, 316, 318, 319, 320, 324, 325, 378, 379, 380] v u20 from (FC.tr (FC.tr (FC.tr (FC.tr (FC.rf _) (FC.up fr1 (by decide) (by decide))) (FC.up fr4 (by decide) (by decide))) (FC.up fr11 (by decide) (by decide))) (FC.up fr19 (by decide) (by decide)))).1 rp)) (show pr ps = ad 908 from hps) (show (u20.1 0 300) = ps from (Eq.trans (fr19.2.1 300 (by decide)) (Eq.trans (fr11.2.1 300 (by decide)) (Eq.trans (fr4.2.1 300 (by decide)) (Eq.trans (fr1.2.1 300 (by decide)) es300))))) (show (u20.1 0 310) = ps from (Eq.trans (fr19.2.1 310 (by decide)) (Eq.trans (fr11.2.1 310 (by decide)) (Eq.trans (fr4.2.1 310 (by decide)) (Eq.trans (fr1.2.1 310 (by decide)) es310))))) (show l.stackTraces = false from hst) (show 40 ≤ (u20.1 0 306).toInt + (n22 : Int) from (om_142f9b484c zn q15 q16 q17 pj19 hn23))) tw_622 tw_623 (by decide +kernel) rfl rfl ⟨show (8 * n22 + 21) + 1 ≤ 8 * n + 42 from (om_f35f427e08 hn23), show 8 + (2 + 11) + 28 * (8 * n22 + 21) ≤ 28 * (8 * n + 42) from (om_13e07992b6 hn23)⟩ (List.range (cW ad pr N cI cR L1 L2 u20).length) (rg_map _) (nd_range _) 3 rfl rfl rfl rfl hl.1 rfl (Nat.le_of_ble_eq_true rfl) dX5_forRest_35 ⟨Nat.le_of_ble_eq_true rfl, Nat.le_of_ble_eq_true rfl⟩) hP hD hS hA (fun u9 ce9 q9 H locs hx9 hP hD hS hc9 hv9 hf9 => ?_) (fun r44 u43 H locs hw42 hP hD hS hz8 => ?_)
  · exact vx_out (fun x h9 => (hnt x h9).elim) hlocks hc9 hv9 hf9 (fun t9 ht9 hv8 => ⟨u9, ⟨FC.tr (FC.tr (FC.tr (FC.tr (FC.tr (FC.rf _) (FC.up fr1 (by decide) (by decide))) (FC.up fr4 (by decide) (by decide))) (FC.up fr11 (by decide) (by decide))) (FC.up fr19 (by decide) (by decide))) hx9.1, hx9.2⟩, ⟨rfl, by rw [ht9]; exact hP, hD⟩, hS.F ht9⟩) hS.2.2 (Nat.le_refl _) (Nat.le_refl _)
  refine W.shrink (hz8.trans hz9) ?_
  obtain ⟨fr42, i30642, i32142, i32642, i38142, po42, bz42⟩ := hw42
  have i30642 : 0 ≤ (u43.1 0 306).toInt ∧ (u43.1 0 306).toInt ≤ 40 := i30642
  have i32142 : 0 ≤ (u43.1 0 321).toInt ∧ (u43.1 0 321).toInt ≤ 501 := i32142
  have i32642 : 0 ≤ (u43.1 0 326).toInt ∧ (u43.1 0 326).toInt ≤ 420 := i32642
  have i38142 : 0 ≤ (u43.1 0 381).toInt ∧ (u43.1 0 381).toInt ≤ 3008 := i38142
  have po42 : (u43.1 0 306).toInt = (u20.1 0 306).toInt := po42
  have bz42 : r44 = 0 ∨ r44 = 1 := bz42
  refine lv_pop hx hb dX5_forRest_38 rfl ?_
  refine lv_aload_n hx hb dX5_forRest_39 rfl (lv_at hl 2 rfl) ?_
  refine va_get (D := (dC, dI)) (ci := 8) (fs := oF_X5 ad pr u43) (v := .ref (ad 900)) (C := RX5) (T := TX5) (N := 7) hx hb ht itX5 hown hK hP 3 rfl rfl 1 (by decide) (ht _ tw_571) (fun _ h9 => h9) rfl dX5_forRest_40 ?_
  refine lv_bipush (v := 36) hx hb dX5_forRest_43 (by decide) ?_
  have q45 : (u43.1 0 304).toInt = (u20.1 0 304).toInt := congrArg Int32.toInt ((fr42.2.1 304 (by decide)).trans (show u20.1 0 304 = (u20.1 0 304) by rfl))
  have q46 : (u43.1 0 373).toInt = (u20.1 0 373).toInt := congrArg Int32.toInt ((fr42.2.1 373 (by decide)).trans (show u20.1 0 373 = (u20.1 0 373) by rfl))
  refine W.sz (fun hz9 => ?_)
  refine czx_v (rx_Vk (n := 1) (As := [.int 36]) (rest := []) hx hb hml hown ht hKK hFx hP hD hS hA (c_x_X9_expect l dC dI cI cB cZ cJ cR tb H.size ad pr N L1 L2 u43 (36 : Int32) ps (show 0 ≤ (u43.1 0 304).toInt ∧ (u43.1 0 304).toInt ≤ 1503 from (om_303b0e9f26 z304 q7 q8 q14 q24 q45)) (show 0 ≤ (u43.1 0 373).toInt ∧ (u43.1 0 373).toInt ≤ 4000 from (om_d59e6e0f1e z373 q9 q10 q18 q37 q46)) (show pr ps = ad 908 from hps) (show (u43.1 0 300) = ps from (Eq.trans (fr42.2.1 300 (by decide)) (Eq.trans (fr19.2.1 300 (by decide)) (Eq.trans (fr11.2.1 300 (by decide)) (Eq.trans (fr4.2.1 300 (by decide)) (Eq.trans (fr1.2.1 300 (by decide)) es300)))))) (show l.stackTraces = false from hst)) tw_526 tw_580 (by decide +kernel) rfl rfl ⟨show 7 + 1 ≤ 8 * n + 42 from om_24bb48a271, show 8 + (2 + 11) + 104 ≤ 28 * (8 * n + 42) from om_46dbd0fc2a⟩ (List.range (cW ad pr N cI cR L1 L2 u43).length) (rg_map _) (nd_range _) 0 rfl rfl rfl rfl hl.1 rfl (Nat.le_of_ble_eq_true rfl) dX5_forRest_45 ⟨Nat.le_of_ble_eq_true rfl, Nat.le_of_ble_eq_true rfl⟩) hP hD hS hA (fun u9 ce9 q9 H locs hx9 hP hD hS hc9 hv9 hf9 => ?_) (fun u48 H locs hw47 hP hD hS hz8 => ?_)
  · exact vx_out (fun x h9 => (hnt x h9).elim) hlocks hc9 hv9 hf9 (fun t9 ht9 hv8 => ⟨u9, ⟨FC.tr (FC.tr (FC.tr (FC.tr (FC.tr (FC.tr (FC.rf _) (FC.up fr1 (by decide) (by decide))) (FC.up fr4 (by decide) (by decide))) (FC.up fr11 (by decide) (by decide))) (FC.up fr19 (by decide) (by decide))) (FC.up fr42 (by decide) (by decide))) hx9.1, hx9.2⟩, ⟨rfl, by rw [ht9]; exact hP, hD⟩, hS.F ht9⟩) hS.2.2 (Nat.le_refl _) (Nat.le_refl _)
  refine W.shrink (hz8.trans hz9) ?_
  have fr47 := hw47
  refine lv_aload_n hx hb dX5_forRest_48 rfl (lv_at hl 2 rfl) ?_
  refine va_get (D := (dC, dI)) (ci := 8) (fs := oF_X5 ad pr u48) (v := .ref (ad 901)) (C := RX5) (T := TX5) (N := 7) hx hb ht itX5 hown hK hP 3 rfl rfl 2 (by decide) (ht _ tw_573) (fun _ h9 => h9) rfl dX5_forRest_49 ?_
  refine lv_iload_n hx hb dX5_forRest_52 rfl (lv_at hl 1 rfl) ?_
  have q50 : (u48.1 0 381).toInt = (u43.1 0 381).toInt := congrArg Int32.toInt ((fr47.2.1 381 (by decide)).trans (show u43.1 0 381 = (u43.1 0 381) by rfl))
  refine cu_v (rn_Vk (n := 1) (As := [.int r3]) (rest := []) hx hb hml hown ht hKK hFx hP hD hS hA (c_x_X1_setLabel l dC dI cI cB cZ cJ cR tb H.size ad pr N L1 L2 u48 r3 ps (show 0 ≤ (u48.1 0 381).toInt ∧ (u48.1 0 381).toInt ≤ 3008 from (om_6e4eb11ad3 i38142 q50)) (show pr ps = ad 908 from hps) (show (u48.1 0 310) = ps from (Eq.trans (fr47.2.1 310 (by decide)) (Eq.trans (fr42.2.1 310 (by decide)) (Eq.trans (fr19.2.1 310 (by decide)) (Eq.trans (fr11.2.1 310 (by decide)) (Eq.trans (fr4.2.1 310 (by decide)) (Eq.trans (fr1.2.1 310 (by decide)) es310)))))))) tw_514 tw_615 (by decide +kernel) rfl rfl ⟨show 0 + 1 ≤ 8 * n + 42 from om_7b3d5df7aa, show 8 + (2 + 11) + 0 ≤ 28 * (8 * n + 42) from om_8b45c8e7c0⟩ (List.range (cW ad pr N cI cR L1 L2 u48).length) (rg_map _) (nd_range _) 1 rfl rfl rfl rfl hl.1 rfl (Nat.le_of_ble_eq_true rfl) dX5_forRest_53 ⟨Nat.le_of_ble_eq_true rfl, Nat.le_of_ble_eq_true rfl⟩) hP hD hS hA (fun u52 H locs hw51 hP hD hS => ?_)
  have fr51 := hw51
  refine W.widen (k := 0) (n := 0) (Nat.le_refl _) (Nat.le_refl _) ?_
  refine lv_aload_n hx hb dX5_forRest_56 rfl (lv_at hl 2 rfl) ?_
  refine va_get (D := (dC, dI)) (ci := 8) (fs := oF_X5 ad pr u52) (v := .ref (ad 901)) (C := RX5) (T := TX5) (N := 7) hx hb ht itX5 hown hK hP 3 rfl rfl 2 (by decide) (ht _ tw_573) (fun _ h9 => h9) rfl dX5_forRest_57 ?_
  refine lv_bipush (v := 24) hx hb dX5_forRest_60 (by decide) ?_
  refine lv_iconst (v := 0) hx hb dX5_forRest_62 (by decide) ?_
  refine lv_iconst (v := 0) hx hb dX5_forRest_63 (by decide) ?_
  have q54 : (u52.1 0 381).toInt = (u48.1 0 381).toInt := congrArg Int32.toInt ((fr51.2.1 381 (by decide)).trans (show u48.1 0 381 = (u48.1 0 381) by rfl))
  refine cu_v (rn_Vk (n := 3) (As := [.int 24, .int 0, .int 0]) (rest := []) hx hb hml hown ht hKK hFx hP hD hS hA (c_x_X1_add l dC dI cI cB cZ cJ cR tb H.size ad pr N L1 L2 u52 (24 : Int32) (0 : Int32) (0 : Int32) ps (show 0 ≤ (u52.1 0 381).toInt ∧ (u52.1 0 381).toInt ≤ 3008 from (om_769192f2a4 i38142 q50 q54)) (show pr ps = ad 908 from hps) (show (u52.1 0 310) = ps from (Eq.trans (fr51.2.1 310 (by decide)) (Eq.trans (fr47.2.1 310 (by decide)) (Eq.trans (fr42.2.1 310 (by decide)) (Eq.trans (fr19.2.1 310 (by decide)) (Eq.trans (fr11.2.1 310 (by decide)) (Eq.trans (fr4.2.1 310 (by decide)) (Eq.trans (fr1.2.1 310 (by decide)) es310))))))))) tw_499 tw_592 (by decide +kernel) rfl rfl ⟨show 0 + 1 ≤ 8 * n + 42 from om_7b3d5df7aa, show 8 + (5 + 11) + 0 ≤ 28 * (8 * n + 42) from om_a3857ee34e⟩ (List.range (cW ad pr N cI cR L1 L2 u52).length) (rg_map _) (nd_range _) 1 rfl rfl rfl rfl hl.1 rfl (Nat.le_of_ble_eq_true rfl) dX5_forRest_64 ⟨Nat.le_of_ble_eq_true rfl, Nat.le_of_ble_eq_true rfl⟩) hP hD hS hA (fun u56 H locs hw55 hP hD hS => ?_)
  obtain ⟨fr55, i38155⟩ := hw55
  have i38155 : 0 ≤ (u56.1 0 381).toInt ∧ (u56.1 0 381).toInt ≤ 3008 := i38155
  refine W.widen (k := 0) (n := 0) (Nat.le_refl _) (Nat.le_refl _) ?_
  refine lv_aload_n hx hb dX5_forRest_67 rfl (lv_at hl 2 rfl) ?_
  refine lv_bipush (v := 36) hx hb dX5_forRest_68 (by decide) ?_
  obtain ⟨n58, hn59⟩ : ∃ m, n = m + 1 := ex_z (om_bce5f2fb63 hn23)
  have q60 : (u48.1 0 304).toInt = (u43.1 0 304).toInt := congrArg Int32.toInt ((fr47.2.1 304 (by decide)).trans (show u43.1 0 304 = (u43.1 0 304) by rfl))
  have q61 : (u52.1 0 304).toInt = (u48.1 0 304).toInt := congrArg Int32.toInt ((fr51.2.1 304 (by decide)).trans (show u48.1 0 304 = (u48.1 0 304) by rfl))
  have q62 : (u56.1 0 304).toInt = (u52.1 0 304).toInt := congrArg Int32.toInt ((fr55.2.1 304 (by decide)).trans (show u52.1 0 304 = (u52.1 0 304) by rfl))
  have q63 : (u48.1 0 306).toInt = (u43.1 0 306).toInt := congrArg Int32.toInt ((fr47.2.1 306 (by decide)).trans (show u43.1 0 306 = (u43.1 0 306) by rfl))
  have q64 : (u52.1 0 306).toInt = (u48.1 0 306).toInt := congrArg Int32.toInt ((fr51.2.1 306 (by decide)).trans (show u48.1 0 306 = (u48.1 0 306) by rfl))
  have q65 : (u56.1 0 306).toInt = (u52.1 0 306).toInt := congrArg Int32.toInt ((fr55.2.1 306 (by decide)).trans (show u52.1 0 306 = (u52.1 0 306) by rfl))
  have q66 : (u43.1 0 312).toInt = (u20.1 0 312).toInt := congrArg Int32.toInt ((fr42.2.1 312 (by decide)).trans (show u20.1 0 312 = (u20.1 0 312) by rfl))
  have q67 : (u48.1 0 312).toInt = (u43.1 0 312).toInt := congrArg Int32.toInt ((fr47.2.1 312 (by decide)).trans (show u43.1 0 312 = (u43.1 0 312) by rfl))
  have q68 : (u52.1 0 312).toInt = (u48.1 0 312).toInt := congrArg Int32.toInt ((fr51.2.1 312 (by decide)).trans (show u48.1 0 312 = (u48.1 0 312) by rfl))
  have q69 : (u56.1 0 312).toInt = (u52.1 0 312).toInt := congrArg Int32.toInt ((fr55.2.1 312 (by decide)).trans (show u52.1 0 312 = (u52.1 0 312) by rfl))
  have q70 : (u48.1 0 321).toInt = (u43.1 0 321).toInt := congrArg Int32.toInt ((fr47.2.1 321 (by decide)).trans (show u43.1 0 321 = (u43.1 0 321) by rfl))
  have q71 : (u52.1 0 321).toInt = (u48.1 0 321).toInt := congrArg Int32.toInt ((fr51.2.1 321 (by decide)).trans (show u48.1 0 321 = (u48.1 0 321) by rfl))
  have q72 : (u56.1 0 321).toInt = (u52.1 0 321).toInt := congrArg Int32.toInt ((fr55.2.1 321 (by decide)).trans (show u52.1 0 321 = (u52.1 0 321) by rfl))
  have q73 : (u48.1 0 326).toInt = (u43.1 0 326).toInt := congrArg Int32.toInt ((fr47.2.1 326 (by decide)).trans (show u43.1 0 326 = (u43.1 0 326) by rfl))
  have q74 : (u52.1 0 326).toInt = (u48.1 0 326).toInt := congrArg Int32.toInt ((fr51.2.1 326 (by decide)).trans (show u48.1 0 326 = (u48.1 0 326) by rfl))
  have q75 : (u56.1 0 326).toInt = (u52.1 0 326).toInt := congrArg Int32.toInt ((fr55.2.1 326 (by decide)).trans (show u52.1 0 326 = (u52.1 0 326) by rfl))
  have q76 : (u48.1 0 373).toInt = (u43.1 0 373).toInt := congrArg Int32.toInt ((fr47.2.1 373 (by decide)).trans (show u43.1 0 373 = (u43.1 0 373) by rfl))
  have q77 : (u52.1 0 373).toInt = (u48.1 0 373).toInt := congrArg Int32.toInt ((fr51.2.1 373 (by decide)).trans (show u48.1 0 373 = (u48.1 0 373) by rfl))
  have q78 : (u56.1 0 373).toInt = (u52.1 0 373).toInt := congrArg Int32.toInt ((fr55.2.1 373 (by decide)).trans (show u52.1 0 373 = (u52.1 0 373) by rfl))
  refine W.sz (fun hz9 => ?_)
  refine czx_i (rx_Vk (n := 1) (As := [.int 36]) (rest := []) hx hb hml hown ht hKK hFx hP hD hS hA (c_x_X5_optional l n58 dC dI cI cB cZ cJ cR tb H.size ad pr N L1 L2 u56 (36 : Int32) ps (show 0 ≤ (u56.1 0 304).toInt ∧ (u56.1 0 304).toInt ≤ 1503 from (om_003b4c170d z304 q7 q8 q14 q24 q45 q60 q61 q62)) (show 0 ≤ (u56.1 0 306).toInt ∧ (u56.1 0 306).toInt ≤ 40 from (om_91b0537b40 i30642 q63 q64 q65)) (show 0 ≤ (u56.1 0 312).toInt ∧ (u56.1 0 312).toInt ≤ 500 from (om_d466fad2f2 z312 q25 q26 q27 q28 q66 q67 q68 q69)) (show 0 ≤ (u56.1 0 321).toInt ∧ (u56.1 0 321).toInt ≤ 501 from (om_ca65317fd6 i32142 q70 q71 q72)) (show 0 ≤ (u56.1 0 326).toInt ∧ (u56.1 0 326).toInt ≤ 420 from (om_ba86cd30dc i32642 q73 q74 q75)) (show 0 ≤ (u56.1 0 373).toInt ∧ (u56.1 0 373).toInt ≤ 4000 from (om_40c7802ef9 z373 q9 q10 q18 q37 q46 q76 q77 q78)) (show 0 ≤ (u56.1 0 381).toInt ∧ (u56.1 0 381).toInt ≤ 3008 from (om_e78eec72e1 i38155)) (show L1.length = 40 from hL1) (show L2.length = 60 from hL2) (show RP u56 from ((show FC [305, 306, 307, 312, 313, 314, 315, 317, 321, 326, 331, 332, 381] [0, 311, 316, 318, 319, 320, 324, 325, 378, 379, 380] v u56 from (FC.tr (FC.tr (FC.tr (FC.tr (FC.tr (FC.tr (FC.tr (FC.tr (FC.rf _) (FC.up fr1 (by decide) (by decide))) (FC.up fr4 (by decide) (by decide))) (FC.up fr11 (by decide) (by decide))) (FC.up fr19 (by decide) (by decide))) (FC.up fr42 (by decide) (by decide))) (FC.up fr47 (by decide) (by decide))) (FC.up fr51 (by decide) (by decide))) (FC.up fr55 (by decide) (by decide)))).1 rp)) (show pr ps = ad 908 from hps) (show (u56.1 0 300) = ps from (Eq.trans (fr55.2.1 300 (by decide)) (Eq.trans (fr51.2.1 300 (by decide)) (Eq.trans (fr47.2.1 300 (by decide)) (Eq.trans (fr42.2.1 300 (by decide)) (Eq.trans (fr19.2.1 300 (by decide)) (Eq.trans (fr11.2.1 300 (by decide)) (Eq.trans (fr4.2.1 300 (by decide)) (Eq.trans (fr1.2.1 300 (by decide)) es300))))))))) (show (u56.1 0 310) = ps from (Eq.trans (fr55.2.1 310 (by decide)) (Eq.trans (fr51.2.1 310 (by decide)) (Eq.trans (fr47.2.1 310 (by decide)) (Eq.trans (fr42.2.1 310 (by decide)) (Eq.trans (fr19.2.1 310 (by decide)) (Eq.trans (fr11.2.1 310 (by decide)) (Eq.trans (fr4.2.1 310 (by decide)) (Eq.trans (fr1.2.1 310 (by decide)) es310))))))))) (show l.stackTraces = false from hst) (show 40 ≤ (u56.1 0 306).toInt + (n58 : Int) from (om_b8aba6585b zn q15 q16 q17 pj19 po42 q63 q64 q65 hn59))) tw_622 tw_623 (by decide +kernel) rfl rfl ⟨show (8 * n58 + 21) + 1 ≤ 8 * n + 42 from (om_f35f427e08 hn59), show 8 + (2 + 11) + 28 * (8 * n58 + 21) ≤ 28 * (8 * n + 42) from (om_13e07992b6 hn59)⟩ (List.range (cW ad pr N cI cR L1 L2 u56).length) (rg_map _) (nd_range _) 3 rfl rfl rfl rfl hl.1 rfl (Nat.le_of_ble_eq_true rfl) dX5_forRest_70 ⟨Nat.le_of_ble_eq_true rfl, Nat.le_of_ble_eq_true rfl⟩) hP hD hS hA (fun u9 ce9 q9 H locs hx9 hP hD hS hc9 hv9 hf9 => ?_) (fun r81 u80 H locs hw79 hP hD hS hz8 => ?_)
  · exact vx_out (fun x h9 => (hnt x h9).elim) hlocks hc9 hv9 hf9 (fun t9 ht9 hv8 => ⟨u9, ⟨FC.tr (FC.tr (FC.tr (FC.tr (FC.tr (FC.tr (FC.tr (FC.tr (FC.tr (FC.rf _) (FC.up fr1 (by decide) (by decide))) (FC.up fr4 (by decide) (by decide))) (FC.up fr11 (by decide) (by decide))) (FC.up fr19 (by decide) (by decide))) (FC.up fr42 (by decide) (by decide))) (FC.up fr47 (by decide) (by decide))) (FC.up fr51 (by decide) (by decide))) (FC.up fr55 (by decide) (by decide))) hx9.1, hx9.2⟩, ⟨rfl, by rw [ht9]; exact hP, hD⟩, hS.F ht9⟩) hS.2.2 (Nat.le_refl _) (Nat.le_refl _)
  refine W.shrink (hz8.trans hz9) ?_
  obtain ⟨fr79, i30679, i32179, i32679, i38179, po79, bz79⟩ := hw79
  have i30679 : 0 ≤ (u80.1 0 306).toInt ∧ (u80.1 0 306).toInt ≤ 40 := i30679
  have i32179 : 0 ≤ (u80.1 0 321).toInt ∧ (u80.1 0 321).toInt ≤ 501 := i32179
  have i32679 : 0 ≤ (u80.1 0 326).toInt ∧ (u80.1 0 326).toInt ≤ 420 := i32679
  have i38179 : 0 ≤ (u80.1 0 381).toInt ∧ (u80.1 0 381).toInt ≤ 3008 := i38179
  have po79 : (u80.1 0 306).toInt = (u56.1 0 306).toInt := po79
  have bz79 : r81 = 0 ∨ r81 = 1 := bz79
  refine lv_if_eq (tgt := 90) hx hb dX5_forRest_73 (by decide) (fun h82 => ?_) (fun h82 => ?_)
  · have z83 : r81.toInt = (0 : Int) := eq_z rfl (show (0 : Int32).toInt = (0 : Int) by decide) h82
    refine lv_aload_n hx hb dX5_forRest_90 rfl (lv_at hl 2 rfl) ?_
    refine va_get (D := (dC, dI)) (ci := 8) (fs := oF_X5 ad pr u80) (v := .ref (ad 900)) (C := RX5) (T := TX5) (N := 7) hx hb ht itX5 hown hK hP 3 rfl rfl 1 (by decide) (ht _ tw_571) (fun _ h9 => h9) rfl dX5_forRest_91 ?_
    refine lv_bipush (v := 36) hx hb dX5_forRest_94 (by decide) ?_
    have q84 : (u80.1 0 304).toInt = (u56.1 0 304).toInt := congrArg Int32.toInt ((fr79.2.1 304 (by decide)).trans (show u56.1 0 304 = (u56.1 0 304) by rfl))
    have q85 : (u80.1 0 373).toInt = (u56.1 0 373).toInt := congrArg Int32.toInt ((fr79.2.1 373 (by decide)).trans (show u56.1 0 373 = (u56.1 0 373) by rfl))
    refine W.sz (fun hz9 => ?_)
    refine czx_v (rx_Vk (n := 1) (As := [.int 36]) (rest := []) hx hb hml hown ht hKK hFx hP hD hS hA (c_x_X9_expect l dC dI cI cB cZ cJ cR tb H.size ad pr N L1 L2 u80 (36 : Int32) ps (show 0 ≤ (u80.1 0 304).toInt ∧ (u80.1 0 304).toInt ≤ 1503 from (om_295132b1a0 z304 q7 q8 q14 q24 q45 q60 q61 q62 q84)) (show 0 ≤ (u80.1 0 373).toInt ∧ (u80.1 0 373).toInt ≤ 4000 from (om_df10c0c0da z373 q9 q10 q18 q37 q46 q76 q77 q78 q85)) (show pr ps = ad 908 from hps) (show (u80.1 0 300) = ps from (Eq.trans (fr79.2.1 300 (by decide)) (Eq.trans (fr55.2.1 300 (by decide)) (Eq.trans (fr51.2.1 300 (by decide)) (Eq.trans (fr47.2.1 300 (by decide)) (Eq.trans (fr42.2.1 300 (by decide)) (Eq.trans (fr19.2.1 300 (by decide)) (Eq.trans (fr11.2.1 300 (by decide)) (Eq.trans (fr4.2.1 300 (by decide)) (Eq.trans (fr1.2.1 300 (by decide)) es300)))))))))) (show l.stackTraces = false from hst)) tw_526 tw_580 (by decide +kernel) rfl rfl ⟨show 7 + 1 ≤ 8 * n + 42 from om_24bb48a271, show 8 + (2 + 11) + 104 ≤ 28 * (8 * n + 42) from om_46dbd0fc2a⟩ (List.range (cW ad pr N cI cR L1 L2 u80).length) (rg_map _) (nd_range _) 0 rfl rfl rfl rfl hl.1 rfl (Nat.le_of_ble_eq_true rfl) dX5_forRest_96 ⟨Nat.le_of_ble_eq_true rfl, Nat.le_of_ble_eq_true rfl⟩) hP hD hS hA (fun u9 ce9 q9 H locs hx9 hP hD hS hc9 hv9 hf9 => ?_) (fun u87 H locs hw86 hP hD hS hz8 => ?_)
    · exact vx_out (fun x h9 => (hnt x h9).elim) hlocks hc9 hv9 hf9 (fun t9 ht9 hv8 => ⟨u9, ⟨FC.tr (FC.tr (FC.tr (FC.tr (FC.tr (FC.tr (FC.tr (FC.tr (FC.tr (FC.tr (FC.rf _) (FC.up fr1 (by decide) (by decide))) (FC.up fr4 (by decide) (by decide))) (FC.up fr11 (by decide) (by decide))) (FC.up fr19 (by decide) (by decide))) (FC.up fr42 (by decide) (by decide))) (FC.up fr47 (by decide) (by decide))) (FC.up fr51 (by decide) (by decide))) (FC.up fr55 (by decide) (by decide))) (FC.up fr79 (by decide) (by decide))) hx9.1, hx9.2⟩, ⟨rfl, by rw [ht9]; exact hP, hD⟩, hS.F ht9⟩) hS.2.2 (Nat.le_refl _) (Nat.le_refl _)
    refine W.shrink (hz8.trans hz9) ?_
    have fr86 := hw86
    refine lv_aload_n hx hb dX5_forRest_99 rfl (lv_at hl 2 rfl) ?_
    refine va_get (D := (dC, dI)) (ci := 8) (fs := oF_X5 ad pr u87) (v := .ref (ad 901)) (C := RX5) (T := TX5) (N := 7) hx hb ht itX5 hown hK hP 3 rfl rfl 2 (by decide) (ht _ tw_573) (fun _ h9 => h9) rfl dX5_forRest_100 ?_
    refine lv_bipush (v := 19) hx hb dX5_forRest_103 (by decide) ?_
    refine lv_iload_n hx hb dX5_forRest_105 rfl (lv_at hl 0 rfl) ?_
    refine lv_iconst (v := 0) hx hb dX5_forRest_106 (by decide) ?_
    have q89 : (u87.1 0 381).toInt = (u80.1 0 381).toInt := congrArg Int32.toInt ((fr86.2.1 381 (by decide)).trans (show u80.1 0 381 = (u80.1 0 381) by rfl))
    refine cu_v (rn_Vk (n := 3) (As := [.int 19, .int r6, .int 0]) (rest := []) hx hb hml hown ht hKK hFx hP hD hS hA (c_x_X1_add l dC dI cI cB cZ cJ cR tb H.size ad pr N L1 L2 u87 (19 : Int32) r6 (0 : Int32) ps (show 0 ≤ (u87.1 0 381).toInt ∧ (u87.1 0 381).toInt ≤ 3008 from (om_6e4eb11ad3 i38179 q89)) (show pr ps = ad 908 from hps) (show (u87.1 0 310) = ps from (Eq.trans (fr86.2.1 310 (by decide)) (Eq.trans (fr79.2.1 310 (by decide)) (Eq.trans (fr55.2.1 310 (by decide)) (Eq.trans (fr51.2.1 310 (by decide)) (Eq.trans (fr47.2.1 310 (by decide)) (Eq.trans (fr42.2.1 310 (by decide)) (Eq.trans (fr19.2.1 310 (by decide)) (Eq.trans (fr11.2.1 310 (by decide)) (Eq.trans (fr4.2.1 310 (by decide)) (Eq.trans (fr1.2.1 310 (by decide)) es310)))))))))))) tw_499 tw_592 (by decide +kernel) rfl rfl ⟨show 0 + 1 ≤ 8 * n + 42 from om_7b3d5df7aa, show 8 + (5 + 11) + 0 ≤ 28 * (8 * n + 42) from om_a3857ee34e⟩ (List.range (cW ad pr N cI cR L1 L2 u87).length) (rg_map _) (nd_range _) 1 rfl rfl rfl rfl hl.1 rfl (Nat.le_of_ble_eq_true rfl) dX5_forRest_107 ⟨Nat.le_of_ble_eq_true rfl, Nat.le_of_ble_eq_true rfl⟩) hP hD hS hA (fun u91 H locs hw90 hP hD hS => ?_)
    obtain ⟨fr90, i38190⟩ := hw90
    have i38190 : 0 ≤ (u91.1 0 381).toInt ∧ (u91.1 0 381).toInt ≤ 3008 := i38190
    refine W.widen (k := 0) (n := 0) (Nat.le_refl _) (Nat.le_refl _) ?_
    refine lv_aload_n hx hb dX5_forRest_110 rfl (lv_at hl 2 rfl) ?_
    refine va_get (D := (dC, dI)) (ci := 8) (fs := oF_X5 ad pr u91) (v := .ref (ad 901)) (C := RX5) (T := TX5) (N := 7) hx hb ht itX5 hown hK hP 3 rfl rfl 2 (by decide) (ht _ tw_573) (fun _ h9 => h9) rfl dX5_forRest_111 ?_
    refine lv_aload_n hx hb dX5_forRest_114 rfl (lv_at hl 2 rfl) ?_
    refine va_get (D := (dC, dI)) (ci := 8) (fs := oF_X5 ad pr u91) (v := .int (u91.1 0 332)) (C := RX5) (T := TX5) (N := 7) hx hb ht itX5 hown hK hP 3 rfl rfl 5 (by decide) (ht _ tw_614) (fun _ h9 => h9) rfl dX5_forRest_115 ?_
    refine cu_v (rn_Vk (n := 1) (As := [.int (u91.1 0 332)]) (rest := []) hx hb hml hown ht hKK hFx hP hD hS hA (c_x_X1_setLabel l dC dI cI cB cZ cJ cR tb H.size ad pr N L1 L2 u91 (u91.1 0 332) ps (show 0 ≤ (u91.1 0 381).toInt ∧ (u91.1 0 381).toInt ≤ 3008 from (om_e78eec72e1 i38190)) (show pr ps = ad 908 from hps) (show (u91.1 0 310) = ps from (Eq.trans (fr90.2.1 310 (by decide)) (Eq.trans (fr86.2.1 310 (by decide)) (Eq.trans (fr79.2.1 310 (by decide)) (Eq.trans (fr55.2.1 310 (by decide)) (Eq.trans (fr51.2.1 310 (by decide)) (Eq.trans (fr47.2.1 310 (by decide)) (Eq.trans (fr42.2.1 310 (by decide)) (Eq.trans (fr19.2.1 310 (by decide)) (Eq.trans (fr11.2.1 310 (by decide)) (Eq.trans (fr4.2.1 310 (by decide)) (Eq.trans (fr1.2.1 310 (by decide)) es310))))))))))))) tw_514 tw_615 (by decide +kernel) rfl rfl ⟨show 0 + 1 ≤ 8 * n + 42 from om_7b3d5df7aa, show 8 + (2 + 11) + 0 ≤ 28 * (8 * n + 42) from om_8b45c8e7c0⟩ (List.range (cW ad pr N cI cR L1 L2 u91).length) (rg_map _) (nd_range _) 1 rfl rfl rfl rfl hl.1 rfl (Nat.le_of_ble_eq_true rfl) dX5_forRest_118 ⟨Nat.le_of_ble_eq_true rfl, Nat.le_of_ble_eq_true rfl⟩) hP hD hS hA (fun u94 H locs hw93 hP hD hS => ?_)
    have fr93 := hw93
    refine W.widen (k := 0) (n := 0) (Nat.le_refl _) (Nat.le_refl _) ?_
    refine lv_aload_n hx hb dX5_forRest_121 rfl (lv_at hl 2 rfl) ?_
    refine lv_bipush (v := 31) hx hb dX5_forRest_122 (by decide) ?_
    obtain ⟨n96, hn97⟩ : ∃ m, n = m + 1 := ex_z (om_bce5f2fb63 hn23)
    have q98 : (u87.1 0 304).toInt = (u80.1 0 304).toInt := congrArg Int32.toInt ((fr86.2.1 304 (by decide)).trans (show u80.1 0 304 = (u80.1 0 304) by rfl))
    have q99 : (u91.1 0 304).toInt = (u87.1 0 304).toInt := congrArg Int32.toInt ((fr90.2.1 304 (by decide)).trans (show u87.1 0 304 = (u87.1 0 304) by rfl))
    have q100 : (u94.1 0 304).toInt = (u91.1 0 304).toInt := congrArg Int32.toInt ((fr93.2.1 304 (by decide)).trans (show u91.1 0 304 = (u91.1 0 304) by rfl))
    have q101 : (u87.1 0 306).toInt = (u80.1 0 306).toInt := congrArg Int32.toInt ((fr86.2.1 306 (by decide)).trans (show u80.1 0 306 = (u80.1 0 306) by rfl))
    have q102 : (u91.1 0 306).toInt = (u87.1 0 306).toInt := congrArg Int32.toInt ((fr90.2.1 306 (by decide)).trans (show u87.1 0 306 = (u87.1 0 306) by rfl))
    have q103 : (u94.1 0 306).toInt = (u91.1 0 306).toInt := congrArg Int32.toInt ((fr93.2.1 306 (by decide)).trans (show u91.1 0 306 = (u91.1 0 306) by rfl))
    have q104 : (u80.1 0 312).toInt = (u56.1 0 312).toInt := congrArg Int32.toInt ((fr79.2.1 312 (by decide)).trans (show u56.1 0 312 = (u56.1 0 312) by rfl))
    have q105 : (u87.1 0 312).toInt = (u80.1 0 312).toInt := congrArg Int32.toInt ((fr86.2.1 312 (by decide)).trans (show u80.1 0 312 = (u80.1 0 312) by rfl))
    have q106 : (u91.1 0 312).toInt = (u87.1 0 312).toInt := congrArg Int32.toInt ((fr90.2.1 312 (by decide)).trans (show u87.1 0 312 = (u87.1 0 312) by rfl))
    have q107 : (u94.1 0 312).toInt = (u91.1 0 312).toInt := congrArg Int32.toInt ((fr93.2.1 312 (by decide)).trans (show u91.1 0 312 = (u91.1 0 312) by rfl))
    have q108 : (u87.1 0 321).toInt = (u80.1 0 321).toInt := congrArg Int32.toInt ((fr86.2.1 321 (by decide)).trans (show u80.1 0 321 = (u80.1 0 321) by rfl))
    have q109 : (u91.1 0 321).toInt = (u87.1 0 321).toInt := congrArg Int32.toInt ((fr90.2.1 321 (by decide)).trans (show u87.1 0 321 = (u87.1 0 321) by rfl))
    have q110 : (u94.1 0 321).toInt = (u91.1 0 321).toInt := congrArg Int32.toInt ((fr93.2.1 321 (by decide)).trans (show u91.1 0 321 = (u91.1 0 321) by rfl))
    have q111 : (u87.1 0 326).toInt = (u80.1 0 326).toInt := congrArg Int32.toInt ((fr86.2.1 326 (by decide)).trans (show u80.1 0 326 = (u80.1 0 326) by rfl))
    have q112 : (u91.1 0 326).toInt = (u87.1 0 326).toInt := congrArg Int32.toInt ((fr90.2.1 326 (by decide)).trans (show u87.1 0 326 = (u87.1 0 326) by rfl))
    have q113 : (u94.1 0 326).toInt = (u91.1 0 326).toInt := congrArg Int32.toInt ((fr93.2.1 326 (by decide)).trans (show u91.1 0 326 = (u91.1 0 326) by rfl))
    have q114 : (u87.1 0 373).toInt = (u80.1 0 373).toInt := congrArg Int32.toInt ((fr86.2.1 373 (by decide)).trans (show u80.1 0 373 = (u80.1 0 373) by rfl))
    have q115 : (u91.1 0 373).toInt = (u87.1 0 373).toInt := congrArg Int32.toInt ((fr90.2.1 373 (by decide)).trans (show u87.1 0 373 = (u87.1 0 373) by rfl))
    have q116 : (u94.1 0 373).toInt = (u91.1 0 373).toInt := congrArg Int32.toInt ((fr93.2.1 373 (by decide)).trans (show u91.1 0 373 = (u91.1 0 373) by rfl))
    have q117 : (u94.1 0 381).toInt = (u91.1 0 381).toInt := congrArg Int32.toInt ((fr93.2.1 381 (by decide)).trans (show u91.1 0 381 = (u91.1 0 381) by rfl))
    refine W.sz (fun hz9 => ?_)
    refine czx_i (rx_Vk (n := 1) (As := [.int 31]) (rest := []) hx hb hml hown ht hKK hFx hP hD hS hA (c_x_X5_optional l n96 dC dI cI cB cZ cJ cR tb H.size ad pr N L1 L2 u94 (31 : Int32) ps (show 0 ≤ (u94.1 0 304).toInt ∧ (u94.1 0 304).toInt ≤ 1503 from (om_012594a37a z304 q7 q8 q14 q24 q45 q60 q61 q62 q84 q98 q99 q100)) (show 0 ≤ (u94.1 0 306).toInt ∧ (u94.1 0 306).toInt ≤ 40 from (om_91b0537b40 i30679 q101 q102 q103)) (show 0 ≤ (u94.1 0 312).toInt ∧ (u94.1 0 312).toInt ≤ 500 from (om_b379355bea z312 q25 q26 q27 q28 q66 q67 q68 q69 q104 q105 q106 q107)) (show 0 ≤ (u94.1 0 321).toInt ∧ (u94.1 0 321).toInt ≤ 501 from (om_ca65317fd6 i32179 q108 q109 q110)) (show 0 ≤ (u94.1 0 326).toInt ∧ (u94.1 0 326).toInt ≤ 420 from (om_ba86cd30dc i32679 q111 q112 q113)) (show 0 ≤ (u94.1 0 373).toInt ∧ (u94.1 0 373).toInt ≤ 4000 from (om_5e2648c024 z373 q9 q10 q18 q37 q46 q76 q77 q78 q85 q114 q115 q116)) (show 0 ≤ (u94.1 0 381).toInt ∧ (u94.1 0 381).toInt ≤ 3008 from (om_6e4eb11ad3 i38190 q117)) (show L1.length = 40 from hL1) (show L2.length = 60 from hL2) (show RP u94 from ((show FC [305, 306, 307, 312, 313, 314, 315, 317, 321, 326, 331, 332, 381] [0, 311, 316, 318, 319, 320, 324, 325, 378, 379, 380] v u94 from (FC.tr (FC.tr (FC.tr (FC.tr (FC.tr (FC.tr (FC.tr (FC.tr (FC.tr (FC.tr (FC.tr (FC.tr (FC.rf _) (FC.up fr1 (by decide) (by decide))) (FC.up fr4 (by decide) (by decide))) (FC.up fr11 (by decide) (by decide))) (FC.up fr19 (by decide) (by decide))) (FC.up fr42 (by decide) (by decide))) (FC.up fr47 (by decide) (by decide))) (FC.up fr51 (by decide) (by decide))) (FC.up fr55 (by decide) (by decide))) (FC.up fr79 (by decide) (by decide))) (FC.up fr86 (by decide) (by decide))) (FC.up fr90 (by decide) (by decide))) (FC.up fr93 (by decide) (by decide)))).1 rp)) (show pr ps = ad 908 from hps) (show (u94.1 0 300) = ps from (Eq.trans (fr93.2.1 300 (by decide)) (Eq.trans (fr90.2.1 300 (by decide)) (Eq.trans (fr86.2.1 300 (by decide)) (Eq.trans (fr79.2.1 300 (by decide)) (Eq.trans (fr55.2.1 300 (by decide)) (Eq.trans (fr51.2.1 300 (by decide)) (Eq.trans (fr47.2.1 300 (by decide)) (Eq.trans (fr42.2.1 300 (by decide)) (Eq.trans (fr19.2.1 300 (by decide)) (Eq.trans (fr11.2.1 300 (by decide)) (Eq.trans (fr4.2.1 300 (by decide)) (Eq.trans (fr1.2.1 300 (by decide)) es300))))))))))))) (show (u94.1 0 310) = ps from (Eq.trans (fr93.2.1 310 (by decide)) (Eq.trans (fr90.2.1 310 (by decide)) (Eq.trans (fr86.2.1 310 (by decide)) (Eq.trans (fr79.2.1 310 (by decide)) (Eq.trans (fr55.2.1 310 (by decide)) (Eq.trans (fr51.2.1 310 (by decide)) (Eq.trans (fr47.2.1 310 (by decide)) (Eq.trans (fr42.2.1 310 (by decide)) (Eq.trans (fr19.2.1 310 (by decide)) (Eq.trans (fr11.2.1 310 (by decide)) (Eq.trans (fr4.2.1 310 (by decide)) (Eq.trans (fr1.2.1 310 (by decide)) es310))))))))))))) (show l.stackTraces = false from hst) (show 40 ≤ (u94.1 0 306).toInt + (n96 : Int) from (om_31bd07a141 zn q15 q16 q17 pj19 po42 q63 q64 q65 po79 q101 q102 q103 hn97))) tw_622 tw_623 (by decide +kernel) rfl rfl ⟨show (8 * n96 + 21) + 1 ≤ 8 * n + 42 from (om_f35f427e08 hn97), show 8 + (2 + 11) + 28 * (8 * n96 + 21) ≤ 28 * (8 * n + 42) from (om_13e07992b6 hn97)⟩ (List.range (cW ad pr N cI cR L1 L2 u94).length) (rg_map _) (nd_range _) 3 rfl rfl rfl rfl hl.1 rfl (Nat.le_of_ble_eq_true rfl) dX5_forRest_124 ⟨Nat.le_of_ble_eq_true rfl, Nat.le_of_ble_eq_true rfl⟩) hP hD hS hA (fun u9 ce9 q9 H locs hx9 hP hD hS hc9 hv9 hf9 => ?_) (fun r120 u119 H locs hw118 hP hD hS hz8 => ?_)
    · exact vx_out (fun x h9 => (hnt x h9).elim) hlocks hc9 hv9 hf9 (fun t9 ht9 hv8 => ⟨u9, ⟨FC.tr (FC.tr (FC.tr (FC.tr (FC.tr (FC.tr (FC.tr (FC.tr (FC.tr (FC.tr (FC.tr (FC.tr (FC.tr (FC.rf _) (FC.up fr1 (by decide) (by decide))) (FC.up fr4 (by decide) (by decide))) (FC.up fr11 (by decide) (by decide))) (FC.up fr19 (by decide) (by decide))) (FC.up fr42 (by decide) (by decide))) (FC.up fr47 (by decide) (by decide))) (FC.up fr51 (by decide) (by decide))) (FC.up fr55 (by decide) (by decide))) (FC.up fr79 (by decide) (by decide))) (FC.up fr86 (by decide) (by decide))) (FC.up fr90 (by decide) (by decide))) (FC.up fr93 (by decide) (by decide))) hx9.1, hx9.2⟩, ⟨rfl, by rw [ht9]; exact hP, hD⟩, hS.F ht9⟩) hS.2.2 (Nat.le_refl _) (Nat.le_refl _)
    refine W.shrink (hz8.trans hz9) ?_
    obtain ⟨fr118, i306118, i321118, i326118, i381118, po118, bz118⟩ := hw118
    have i306118 : 0 ≤ (u119.1 0 306).toInt ∧ (u119.1 0 306).toInt ≤ 40 := i306118
    have i321118 : 0 ≤ (u119.1 0 321).toInt ∧ (u119.1 0 321).toInt ≤ 501 := i321118
    have i326118 : 0 ≤ (u119.1 0 326).toInt ∧ (u119.1 0 326).toInt ≤ 420 := i326118
    have i381118 : 0 ≤ (u119.1 0 381).toInt ∧ (u119.1 0 381).toInt ≤ 3008 := i381118
    have po118 : (u119.1 0 306).toInt = (u94.1 0 306).toInt := po118
    have bz118 : r120 = 0 ∨ r120 = 1 := bz118
    refine lv_pop hx hb dX5_forRest_127 rfl ?_
    refine lv_aload_n hx hb dX5_forRest_128 rfl (lv_at hl 2 rfl) ?_
    refine va_get (D := (dC, dI)) (ci := 8) (fs := oF_X5 ad pr u119) (v := .ref (ad 900)) (C := RX5) (T := TX5) (N := 7) hx hb ht itX5 hown hK hP 3 rfl rfl 1 (by decide) (ht _ tw_571) (fun _ h9 => h9) rfl dX5_forRest_129 ?_
    refine lv_bipush (v := 31) hx hb dX5_forRest_132 (by decide) ?_
    have q121 : (u119.1 0 304).toInt = (u94.1 0 304).toInt := congrArg Int32.toInt ((fr118.2.1 304 (by decide)).trans (show u94.1 0 304 = (u94.1 0 304) by rfl))
    have q122 : (u119.1 0 373).toInt = (u94.1 0 373).toInt := congrArg Int32.toInt ((fr118.2.1 373 (by decide)).trans (show u94.1 0 373 = (u94.1 0 373) by rfl))
    refine W.sz (fun hz9 => ?_)
    refine czx_v (rx_Vk (n := 1) (As := [.int 31]) (rest := []) hx hb hml hown ht hKK hFx hP hD hS hA (c_x_X9_expect l dC dI cI cB cZ cJ cR tb H.size ad pr N L1 L2 u119 (31 : Int32) ps (show 0 ≤ (u119.1 0 304).toInt ∧ (u119.1 0 304).toInt ≤ 1503 from (om_0266c5b6cc z304 q7 q8 q14 q24 q45 q60 q61 q62 q84 q98 q99 q100 q121)) (show 0 ≤ (u119.1 0 373).toInt ∧ (u119.1 0 373).toInt ≤ 4000 from (om_73ad7353b7 z373 q9 q10 q18 q37 q46 q76 q77 q78 q85 q114 q115 q116 q122)) (show pr ps = ad 908 from hps) (show (u119.1 0 300) = ps from (Eq.trans (fr118.2.1 300 (by decide)) (Eq.trans (fr93.2.1 300 (by decide)) (Eq.trans (fr90.2.1 300 (by decide)) (Eq.trans (fr86.2.1 300 (by decide)) (Eq.trans (fr79.2.1 300 (by decide)) (Eq.trans (fr55.2.1 300 (by decide)) (Eq.trans (fr51.2.1 300 (by decide)) (Eq.trans (fr47.2.1 300 (by decide)) (Eq.trans (fr42.2.1 300 (by decide)) (Eq.trans (fr19.2.1 300 (by decide)) (Eq.trans (fr11.2.1 300 (by decide)) (Eq.trans (fr4.2.1 300 (by decide)) (Eq.trans (fr1.2.1 300 (by decide)) es300)))))))))))))) (show l.stackTraces = false from hst)) tw_526 tw_580 (by decide +kernel) rfl rfl ⟨show 7 + 1 ≤ 8 * n + 42 from om_24bb48a271, show 8 + (2 + 11) + 104 ≤ 28 * (8 * n + 42) from om_46dbd0fc2a⟩ (List.range (cW ad pr N cI cR L1 L2 u119).length) (rg_map _) (nd_range _) 0 rfl rfl rfl rfl hl.1 rfl (Nat.le_of_ble_eq_true rfl) dX5_forRest_134 ⟨Nat.le_of_ble_eq_true rfl, Nat.le_of_ble_eq_true rfl⟩) hP hD hS hA (fun u9 ce9 q9 H locs hx9 hP hD hS hc9 hv9 hf9 => ?_) (fun u124 H locs hw123 hP hD hS hz8 => ?_)
    · exact vx_out (fun x h9 => (hnt x h9).elim) hlocks hc9 hv9 hf9 (fun t9 ht9 hv8 => ⟨u9, ⟨FC.tr (FC.tr (FC.tr (FC.tr (FC.tr (FC.tr (FC.tr (FC.tr (FC.tr (FC.tr (FC.tr (FC.tr (FC.tr (FC.tr (FC.rf _) (FC.up fr1 (by decide) (by decide))) (FC.up fr4 (by decide) (by decide))) (FC.up fr11 (by decide) (by decide))) (FC.up fr19 (by decide) (by decide))) (FC.up fr42 (by decide) (by decide))) (FC.up fr47 (by decide) (by decide))) (FC.up fr51 (by decide) (by decide))) (FC.up fr55 (by decide) (by decide))) (FC.up fr79 (by decide) (by decide))) (FC.up fr86 (by decide) (by decide))) (FC.up fr90 (by decide) (by decide))) (FC.up fr93 (by decide) (by decide))) (FC.up fr118 (by decide) (by decide))) hx9.1, hx9.2⟩, ⟨rfl, by rw [ht9]; exact hP, hD⟩, hS.F ht9⟩) hS.2.2 (Nat.le_refl _) (Nat.le_refl _)
    refine W.shrink (hz8.trans hz9) ?_
    have fr123 := hw123
    refine lv_aload_n hx hb dX5_forRest_137 rfl (lv_at hl 2 rfl) ?_
    refine va_get (D := (dC, dI)) (ci := 8) (fs := oF_X5 ad pr u124) (v := .ref (ad 900)) (C := RX5) (T := TX5) (N := 7) hx hb ht itX5 hown hK hP 3 rfl rfl 1 (by decide) (ht _ tw_571) (fun _ h9 => h9) rfl dX5_forRest_138 ?_
    have q126 : (u124.1 0 306).toInt = (u119.1 0 306).toInt := congrArg Int32.toInt ((fr123.2.1 306 (by decide)).trans (show u119.1 0 306 = (u119.1 0 306) by rfl))
    refine cu_v (rn_Vk (n := 0) (As := []) (rest := []) hx hb hml hown ht hKK hFx hP hD hS hA (c_x_X9_close l dC dI cI cB cZ cJ cR tb H.size ad pr N L1 L2 u124  (show 0 ≤ (u124.1 0 306).toInt ∧ (u124.1 0 306).toInt ≤ 40 from (om_99e115f631 i306118 q126)) (show 1 ≤ (u124.1 0 306).toInt from (om_db04ae2ab6 z306 q15 q16 q17 pj19 po42 q63 q64 q65 po79 q101 q102 q103 po118 q126))) tw_528 tw_595 (by decide +kernel) rfl rfl ⟨show 0 + 1 ≤ 8 * n + 42 from om_7b3d5df7aa, show 8 + (1 + 11) + 0 ≤ 28 * (8 * n + 42) from om_2ad1feabc9⟩ (List.range (cW ad pr N cI cR L1 L2 u124).length) (rg_map _) (nd_range _) 0 rfl rfl rfl rfl hl.1 rfl (Nat.le_of_ble_eq_true rfl) dX5_forRest_141 ⟨Nat.le_of_ble_eq_true rfl, Nat.le_of_ble_eq_true rfl⟩) hP hD hS hA (fun u128 H locs hw127 hP hD hS => ?_)
    obtain ⟨fr127, i306127, pj127⟩ := hw127
    have i306127 : 0 ≤ (u128.1 0 306).toInt ∧ (u128.1 0 306).toInt ≤ 40 := i306127
    have pj127 : (u128.1 0 306).toInt = (u124.1 0 306).toInt - 1 := pj127
    refine W.widen (k := 0) (n := 0) (Nat.le_refl _) (Nat.le_refl _) ?_
    refine lv_aload_n hx hb dX5_forRest_144 rfl (lv_at hl 2 rfl) ?_
    refine va_get (D := (dC, dI)) (ci := 8) (fs := oF_X5 ad pr u128) (v := .ref (ad 901)) (C := RX5) (T := TX5) (N := 7) hx hb ht itX5 hown hK hP 3 rfl rfl 2 (by decide) (ht _ tw_573) (fun _ h9 => h9) rfl dX5_forRest_145 ?_
    refine lv_bipush (v := 19) hx hb dX5_forRest_148 (by decide) ?_
    refine lv_iload_n hx hb dX5_forRest_150 rfl (lv_at hl 1 rfl) ?_
    refine lv_iconst (v := 0) hx hb dX5_forRest_151 (by decide) ?_
    have q130 : (u124.1 0 381).toInt = (u119.1 0 381).toInt := congrArg Int32.toInt ((fr123.2.1 381 (by decide)).trans (show u119.1 0 381 = (u119.1 0 381) by rfl))
    have q131 : (u128.1 0 381).toInt = (u124.1 0 381).toInt := congrArg Int32.toInt ((fr127.2.1 381 (by decide)).trans (show u124.1 0 381 = (u124.1 0 381) by rfl))
    refine cu_v (rn_Vk (n := 3) (As := [.int 19, .int r3, .int 0]) (rest := []) hx hb hml hown ht hKK hFx hP hD hS hA (c_x_X1_add l dC dI cI cB cZ cJ cR tb H.size ad pr N L1 L2 u128 (19 : Int32) r3 (0 : Int32) ps (show 0 ≤ (u128.1 0 381).toInt ∧ (u128.1 0 381).toInt ≤ 3008 from (om_769192f2a4 i381118 q130 q131)) (show pr ps = ad 908 from hps) (show (u128.1 0 310) = ps from (Eq.trans (fr127.2.1 310 (by decide)) (Eq.trans (fr123.2.1 310 (by decide)) (Eq.trans (fr118.2.1 310 (by decide)) (Eq.trans (fr93.2.1 310 (by decide)) (Eq.trans (fr90.2.1 310 (by decide)) (Eq.trans (fr86.2.1 310 (by decide)) (Eq.trans (fr79.2.1 310 (by decide)) (Eq.trans (fr55.2.1 310 (by decide)) (Eq.trans (fr51.2.1 310 (by decide)) (Eq.trans (fr47.2.1 310 (by decide)) (Eq.trans (fr42.2.1 310 (by decide)) (Eq.trans (fr19.2.1 310 (by decide)) (Eq.trans (fr11.2.1 310 (by decide)) (Eq.trans (fr4.2.1 310 (by decide)) (Eq.trans (fr1.2.1 310 (by decide)) es310))))))))))))))))) tw_499 tw_592 (by decide +kernel) rfl rfl ⟨show 0 + 1 ≤ 8 * n + 42 from om_7b3d5df7aa, show 8 + (5 + 11) + 0 ≤ 28 * (8 * n + 42) from om_a3857ee34e⟩ (List.range (cW ad pr N cI cR L1 L2 u128).length) (rg_map _) (nd_range _) 1 rfl rfl rfl rfl hl.1 rfl (Nat.le_of_ble_eq_true rfl) dX5_forRest_152 ⟨Nat.le_of_ble_eq_true rfl, Nat.le_of_ble_eq_true rfl⟩) hP hD hS hA (fun u133 H locs hw132 hP hD hS => ?_)
    obtain ⟨fr132, i381132⟩ := hw132
    have i381132 : 0 ≤ (u133.1 0 381).toInt ∧ (u133.1 0 381).toInt ≤ 3008 := i381132
    refine W.widen (k := 0) (n := 0) (Nat.le_refl _) (Nat.le_refl _) ?_
    refine lv_aload_n hx hb dX5_forRest_155 rfl (lv_at hl 2 rfl) ?_
    refine va_get (D := (dC, dI)) (ci := 8) (fs := oF_X5 ad pr u133) (v := .ref (ad 901)) (C := RX5) (T := TX5) (N := 7) hx hb ht itX5 hown hK hP 3 rfl rfl 2 (by decide) (ht _ tw_573) (fun _ h9 => h9) rfl dX5_forRest_156 ?_
    refine lv_iload_n hx hb dX5_forRest_159 rfl (lv_at hl 0 rfl) ?_
    refine cu_v (rn_Vk (n := 1) (As := [.int r6]) (rest := []) hx hb hml hown ht hKK hFx hP hD hS hA (c_x_X1_setLabel l dC dI cI cB cZ cJ cR tb H.size ad pr N L1 L2 u133 r6 ps (show 0 ≤ (u133.1 0 381).toInt ∧ (u133.1 0 381).toInt ≤ 3008 from (om_e78eec72e1 i381132)) (show pr ps = ad 908 from hps) (show (u133.1 0 310) = ps from (Eq.trans (fr132.2.1 310 (by decide)) (Eq.trans (fr127.2.1 310 (by decide)) (Eq.trans (fr123.2.1 310 (by decide)) (Eq.trans (fr118.2.1 310 (by decide)) (Eq.trans (fr93.2.1 310 (by decide)) (Eq.trans (fr90.2.1 310 (by decide)) (Eq.trans (fr86.2.1 310 (by decide)) (Eq.trans (fr79.2.1 310 (by decide)) (Eq.trans (fr55.2.1 310 (by decide)) (Eq.trans (fr51.2.1 310 (by decide)) (Eq.trans (fr47.2.1 310 (by decide)) (Eq.trans (fr42.2.1 310 (by decide)) (Eq.trans (fr19.2.1 310 (by decide)) (Eq.trans (fr11.2.1 310 (by decide)) (Eq.trans (fr4.2.1 310 (by decide)) (Eq.trans (fr1.2.1 310 (by decide)) es310)))))))))))))))))) tw_514 tw_615 (by decide +kernel) rfl rfl ⟨show 0 + 1 ≤ 8 * n + 42 from om_7b3d5df7aa, show 8 + (2 + 11) + 0 ≤ 28 * (8 * n + 42) from om_8b45c8e7c0⟩ (List.range (cW ad pr N cI cR L1 L2 u133).length) (rg_map _) (nd_range _) 1 rfl rfl rfl rfl hl.1 rfl (Nat.le_of_ble_eq_true rfl) dX5_forRest_160 ⟨Nat.le_of_ble_eq_true rfl, Nat.le_of_ble_eq_true rfl⟩) hP hD hS hA (fun u136 H locs hw135 hP hD hS => ?_)
    have fr135 := hw135
    refine W.widen (k := 0) (n := 0) (Nat.le_refl _) (Nat.le_refl _) ?_
    refine lv_aload_n hx hb dX5_forRest_163 rfl (lv_at hl 2 rfl) ?_
    have q138 : (u124.1 0 304).toInt = (u119.1 0 304).toInt := congrArg Int32.toInt ((fr123.2.1 304 (by decide)).trans (show u119.1 0 304 = (u119.1 0 304) by rfl))
    have q139 : (u128.1 0 304).toInt = (u124.1 0 304).toInt := congrArg Int32.toInt ((fr127.2.1 304 (by decide)).trans (show u124.1 0 304 = (u124.1 0 304) by rfl))
    have q140 : (u133.1 0 304).toInt = (u128.1 0 304).toInt := congrArg Int32.toInt ((fr132.2.1 304 (by decide)).trans (show u128.1 0 304 = (u128.1 0 304) by rfl))
    have q141 : (u136.1 0 304).toInt = (u133.1 0 304).toInt := congrArg Int32.toInt ((fr135.2.1 304 (by decide)).trans (show u133.1 0 304 = (u133.1 0 304) by rfl))
    have q142 : (u133.1 0 306).toInt = (u128.1 0 306).toInt := congrArg Int32.toInt ((fr132.2.1 306 (by decide)).trans (show u128.1 0 306 = (u128.1 0 306) by rfl))
    have q143 : (u136.1 0 306).toInt = (u133.1 0 306).toInt := congrArg Int32.toInt ((fr135.2.1 306 (by decide)).trans (show u133.1 0 306 = (u133.1 0 306) by rfl))
    have q144 : (u119.1 0 312).toInt = (u94.1 0 312).toInt := congrArg Int32.toInt ((fr118.2.1 312 (by decide)).trans (show u94.1 0 312 = (u94.1 0 312) by rfl))
    have q145 : (u124.1 0 312).toInt = (u119.1 0 312).toInt := congrArg Int32.toInt ((fr123.2.1 312 (by decide)).trans (show u119.1 0 312 = (u119.1 0 312) by rfl))
    have q146 : (u128.1 0 312).toInt = (u124.1 0 312).toInt := congrArg Int32.toInt ((fr127.2.1 312 (by decide)).trans (show u124.1 0 312 = (u124.1 0 312) by rfl))
    have q147 : (u133.1 0 312).toInt = (u128.1 0 312).toInt := congrArg Int32.toInt ((fr132.2.1 312 (by decide)).trans (show u128.1 0 312 = (u128.1 0 312) by rfl))
    have q148 : (u136.1 0 312).toInt = (u133.1 0 312).toInt := congrArg Int32.toInt ((fr135.2.1 312 (by decide)).trans (show u133.1 0 312 = (u133.1 0 312) by rfl))
    have q149 : (u124.1 0 321).toInt = (u119.1 0 321).toInt := congrArg Int32.toInt ((fr123.2.1 321 (by decide)).trans (show u119.1 0 321 = (u119.1 0 321) by rfl))
    have q150 : (u128.1 0 321).toInt = (u124.1 0 321).toInt := congrArg Int32.toInt ((fr127.2.1 321 (by decide)).trans (show u124.1 0 321 = (u124.1 0 321) by rfl))
    have q151 : (u133.1 0 321).toInt = (u128.1 0 321).toInt := congrArg Int32.toInt ((fr132.2.1 321 (by decide)).trans (show u128.1 0 321 = (u128.1 0 321) by rfl))
    have q152 : (u136.1 0 321).toInt = (u133.1 0 321).toInt := congrArg Int32.toInt ((fr135.2.1 321 (by decide)).trans (show u133.1 0 321 = (u133.1 0 321) by rfl))
    have q153 : (u124.1 0 326).toInt = (u119.1 0 326).toInt := congrArg Int32.toInt ((fr123.2.1 326 (by decide)).trans (show u119.1 0 326 = (u119.1 0 326) by rfl))
    have q154 : (u128.1 0 326).toInt = (u124.1 0 326).toInt := congrArg Int32.toInt ((fr127.2.1 326 (by decide)).trans (show u124.1 0 326 = (u124.1 0 326) by rfl))
    have q155 : (u133.1 0 326).toInt = (u128.1 0 326).toInt := congrArg Int32.toInt ((fr132.2.1 326 (by decide)).trans (show u128.1 0 326 = (u128.1 0 326) by rfl))
    have q156 : (u136.1 0 326).toInt = (u133.1 0 326).toInt := congrArg Int32.toInt ((fr135.2.1 326 (by decide)).trans (show u133.1 0 326 = (u133.1 0 326) by rfl))
    have q157 : (u124.1 0 373).toInt = (u119.1 0 373).toInt := congrArg Int32.toInt ((fr123.2.1 373 (by decide)).trans (show u119.1 0 373 = (u119.1 0 373) by rfl))
    have q158 : (u128.1 0 373).toInt = (u124.1 0 373).toInt := congrArg Int32.toInt ((fr127.2.1 373 (by decide)).trans (show u124.1 0 373 = (u124.1 0 373) by rfl))
    have q159 : (u133.1 0 373).toInt = (u128.1 0 373).toInt := congrArg Int32.toInt ((fr132.2.1 373 (by decide)).trans (show u128.1 0 373 = (u128.1 0 373) by rfl))
    have q160 : (u136.1 0 373).toInt = (u133.1 0 373).toInt := congrArg Int32.toInt ((fr135.2.1 373 (by decide)).trans (show u133.1 0 373 = (u133.1 0 373) by rfl))
    have q161 : (u136.1 0 381).toInt = (u133.1 0 381).toInt := congrArg Int32.toInt ((fr135.2.1 381 (by decide)).trans (show u133.1 0 381 = (u133.1 0 381) by rfl))
    refine W.sz (fun hz9 => ?_)
    refine czx_v (rx_Vk (n := 0) (As := []) (rest := []) hx hb hml hown ht hKK hFx hP hD hS hA (c_x_X5_innerStat l n S dC dI cI cB cZ cJ cR tb H.size ad pr N L1 L2 u136 ps (show 0 ≤ (u136.1 0 304).toInt ∧ (u136.1 0 304).toInt ≤ 1503 from (om_0d05a877d2 z304 q7 q8 q14 q24 q45 q60 q61 q62 q84 q98 q99 q100 q121 q138 q139 q140 q141)) (show 0 ≤ (u136.1 0 306).toInt ∧ (u136.1 0 306).toInt ≤ 40 from (om_5db7a6ef3c i306118 q126 i306127 pj127 q142 q143)) (show 0 ≤ (u136.1 0 312).toInt ∧ (u136.1 0 312).toInt ≤ 500 from (om_cba1a58a90 z312 q25 q26 q27 q28 q66 q67 q68 q69 q104 q105 q106 q107 q144 q145 q146 q147 q148)) (show 0 ≤ (u136.1 0 321).toInt ∧ (u136.1 0 321).toInt ≤ 501 from (om_404ac90bf6 i321118 q149 q150 q151 q152)) (show 0 ≤ (u136.1 0 326).toInt ∧ (u136.1 0 326).toInt ≤ 420 from (om_73f5be2f84 i326118 q153 q154 q155 q156)) (show 0 ≤ (u136.1 0 373).toInt ∧ (u136.1 0 373).toInt ≤ 4000 from (om_25eec210ed z373 q9 q10 q18 q37 q46 q76 q77 q78 q85 q114 q115 q116 q122 q157 q158 q159 q160)) (show 0 ≤ (u136.1 0 381).toInt ∧ (u136.1 0 381).toInt ≤ 3008 from (om_6e4eb11ad3 i381132 q161)) (show L1.length = 40 from hL1) (show L2.length = 60 from hL2) (show RP u136 from ((show FC [305, 306, 307, 312, 313, 314, 315, 317, 321, 326, 331, 332, 381] [0, 311, 316, 318, 319, 320, 324, 325, 378, 379, 380] v u136 from (FC.tr (FC.tr (FC.tr (FC.tr (FC.tr (FC.tr (FC.tr (FC.tr (FC.tr (FC.tr (FC.tr (FC.tr (FC.tr (FC.tr (FC.tr (FC.tr (FC.tr (FC.rf _) (FC.up fr1 (by decide) (by decide))) (FC.up fr4 (by decide) (by decide))) (FC.up fr11 (by decide) (by decide))) (FC.up fr19 (by decide) (by decide))) (FC.up fr42 (by decide) (by decide))) (FC.up fr47 (by decide) (by decide))) (FC.up fr51 (by decide) (by decide))) (FC.up fr55 (by decide) (by decide))) (FC.up fr79 (by decide) (by decide))) (FC.up fr86 (by decide) (by decide))) (FC.up fr90 (by decide) (by decide))) (FC.up fr93 (by decide) (by decide))) (FC.up fr118 (by decide) (by decide))) (FC.up fr123 (by decide) (by decide))) (FC.up fr127 (by decide) (by decide))) (FC.up fr132 (by decide) (by decide))) (FC.up fr135 (by decide) (by decide)))).1 rp)) (show pr ps = ad 908 from hps) (show (u136.1 0 300) = ps from (Eq.trans (fr135.2.1 300 (by decide)) (Eq.trans (fr132.2.1 300 (by decide)) (Eq.trans (fr127.2.1 300 (by decide)) (Eq.trans (fr123.2.1 300 (by decide)) (Eq.trans (fr118.2.1 300 (by decide)) (Eq.trans (fr93.2.1 300 (by decide)) (Eq.trans (fr90.2.1 300 (by decide)) (Eq.trans (fr86.2.1 300 (by decide)) (Eq.trans (fr79.2.1 300 (by decide)) (Eq.trans (fr55.2.1 300 (by decide)) (Eq.trans (fr51.2.1 300 (by decide)) (Eq.trans (fr47.2.1 300 (by decide)) (Eq.trans (fr42.2.1 300 (by decide)) (Eq.trans (fr19.2.1 300 (by decide)) (Eq.trans (fr11.2.1 300 (by decide)) (Eq.trans (fr4.2.1 300 (by decide)) (Eq.trans (fr1.2.1 300 (by decide)) es300)))))))))))))))))) (show (u136.1 0 310) = ps from (Eq.trans (fr135.2.1 310 (by decide)) (Eq.trans (fr132.2.1 310 (by decide)) (Eq.trans (fr127.2.1 310 (by decide)) (Eq.trans (fr123.2.1 310 (by decide)) (Eq.trans (fr118.2.1 310 (by decide)) (Eq.trans (fr93.2.1 310 (by decide)) (Eq.trans (fr90.2.1 310 (by decide)) (Eq.trans (fr86.2.1 310 (by decide)) (Eq.trans (fr79.2.1 310 (by decide)) (Eq.trans (fr55.2.1 310 (by decide)) (Eq.trans (fr51.2.1 310 (by decide)) (Eq.trans (fr47.2.1 310 (by decide)) (Eq.trans (fr42.2.1 310 (by decide)) (Eq.trans (fr19.2.1 310 (by decide)) (Eq.trans (fr11.2.1 310 (by decide)) (Eq.trans (fr4.2.1 310 (by decide)) (Eq.trans (fr1.2.1 310 (by decide)) es310)))))))))))))))))) (show l.stackTraces = false from hst) (show 40 ≤ (u136.1 0 306).toInt + (n : Int) from (om_7525ca43ab zn q15 q16 q17 pj19 po42 q63 q64 q65 po79 q101 q102 q103 po118 q126 pj127 q142 q143))) tw_619 tw_620 (by decide +kernel) rfl rfl ⟨show (8 * n + 41) + 1 ≤ 8 * n + 42 from om_3aa7ceaff2, show 8 + (3 + 11) + 28 * (8 * n + 41) ≤ 28 * (8 * n + 42) from om_b94a2b0ad7⟩ (List.range (cW ad pr N cI cR L1 L2 u136).length) (rg_map _) (nd_range _) 3 rfl rfl rfl rfl hl.1 rfl (Nat.le_of_ble_eq_true rfl) dX5_forRest_164 ⟨Nat.le_of_ble_eq_true rfl, Nat.le_of_ble_eq_true rfl⟩) hP hD hS hA (fun u9 ce9 q9 H locs hx9 hP hD hS hc9 hv9 hf9 => ?_) (fun u163 H locs hw162 hP hD hS hz8 => ?_)
    · exact vx_out (fun x h9 => (hnt x h9).elim) hlocks hc9 hv9 hf9 (fun t9 ht9 hv8 => ⟨u9, ⟨FC.tr (FC.tr (FC.tr (FC.tr (FC.tr (FC.tr (FC.tr (FC.tr (FC.tr (FC.tr (FC.tr (FC.tr (FC.tr (FC.tr (FC.tr (FC.tr (FC.tr (FC.tr (FC.rf _) (FC.up fr1 (by decide) (by decide))) (FC.up fr4 (by decide) (by decide))) (FC.up fr11 (by decide) (by decide))) (FC.up fr19 (by decide) (by decide))) (FC.up fr42 (by decide) (by decide))) (FC.up fr47 (by decide) (by decide))) (FC.up fr51 (by decide) (by decide))) (FC.up fr55 (by decide) (by decide))) (FC.up fr79 (by decide) (by decide))) (FC.up fr86 (by decide) (by decide))) (FC.up fr90 (by decide) (by decide))) (FC.up fr93 (by decide) (by decide))) (FC.up fr118 (by decide) (by decide))) (FC.up fr123 (by decide) (by decide))) (FC.up fr127 (by decide) (by decide))) (FC.up fr132 (by decide) (by decide))) (FC.up fr135 (by decide) (by decide))) hx9.1, hx9.2⟩, ⟨rfl, by rw [ht9]; exact hP, hD⟩, hS.F ht9⟩) hS.2.2 (Nat.le_refl _) (Nat.le_refl _)
    refine W.shrink (hz8.trans hz9) ?_
    obtain ⟨fr162, i306162, i312162, i321162, i326162, i381162, po162⟩ := hw162
    have i306162 : 0 ≤ (u163.1 0 306).toInt ∧ (u163.1 0 306).toInt ≤ 40 := i306162
    have i312162 : 0 ≤ (u163.1 0 312).toInt ∧ (u163.1 0 312).toInt ≤ 500 := i312162
    have i321162 : 0 ≤ (u163.1 0 321).toInt ∧ (u163.1 0 321).toInt ≤ 501 := i321162
    have i326162 : 0 ≤ (u163.1 0 326).toInt ∧ (u163.1 0 326).toInt ≤ 420 := i326162
    have i381162 : 0 ≤ (u163.1 0 381).toInt ∧ (u163.1 0 381).toInt ≤ 3008 := i381162
    have po162 : (u163.1 0 306).toInt = (u136.1 0 306).toInt := po162
    refine lv_aload_n hx hb dX5_forRest_167 rfl (lv_at hl 2 rfl) ?_
    refine va_get (D := (dC, dI)) (ci := 8) (fs := oF_X5 ad pr u163) (v := .ref (ad 901)) (C := RX5) (T := TX5) (N := 7) hx hb ht itX5 hown hK hP 3 rfl rfl 2 (by decide) (ht _ tw_573) (fun _ h9 => h9) rfl dX5_forRest_168 ?_
    refine lv_bipush (v := 19) hx hb dX5_forRest_171 (by decide) ?_
    refine lv_aload_n hx hb dX5_forRest_173 rfl (lv_at hl 2 rfl) ?_
    refine va_get (D := (dC, dI)) (ci := 8) (fs := oF_X5 ad pr u163) (v := .int (u163.1 0 332)) (C := RX5) (T := TX5) (N := 7) hx hb ht itX5 hown hK hP 3 rfl rfl 5 (by decide) (ht _ tw_614) (fun _ h9 => h9) rfl dX5_forRest_174 ?_
    refine lv_iconst (v := 0) hx hb dX5_forRest_177 (by decide) ?_
    refine cu_v (rn_Vk (n := 3) (As := [.int 19, .int (u163.1 0 332), .int 0]) (rest := []) hx hb hml hown ht hKK hFx hP hD hS hA (c_x_X1_add l dC dI cI cB cZ cJ cR tb H.size ad pr N L1 L2 u163 (19 : Int32) (u163.1 0 332) (0 : Int32) ps (show 0 ≤ (u163.1 0 381).toInt ∧ (u163.1 0 381).toInt ≤ 3008 from (om_e78eec72e1 i381162)) (show pr ps = ad 908 from hps) (show (u163.1 0 310) = ps from (Eq.trans (fr162.2.1 310 (by decide)) (Eq.trans (fr135.2.1 310 (by decide)) (Eq.trans (fr132.2.1 310 (by decide)) (Eq.trans (fr127.2.1 310 (by decide)) (Eq.trans (fr123.2.1 310 (by decide)) (Eq.trans (fr118.2.1 310 (by decide)) (Eq.trans (fr93.2.1 310 (by decide)) (Eq.trans (fr90.2.1 310 (by decide)) (Eq.trans (fr86.2.1 310 (by decide)) (Eq.trans (fr79.2.1 310 (by decide)) (Eq.trans (fr55.2.1 310 (by decide)) (Eq.trans (fr51.2.1 310 (by decide)) (Eq.trans (fr47.2.1 310 (by decide)) (Eq.trans (fr42.2.1 310 (by decide)) (Eq.trans (fr19.2.1 310 (by decide)) (Eq.trans (fr11.2.1 310 (by decide)) (Eq.trans (fr4.2.1 310 (by decide)) (Eq.trans (fr1.2.1 310 (by decide)) es310)))))))))))))))))))) tw_499 tw_592 (by decide +kernel) rfl rfl ⟨show 0 + 1 ≤ 8 * n + 42 from om_7b3d5df7aa, show 8 + (5 + 11) + 0 ≤ 28 * (8 * n + 42) from om_a3857ee34e⟩ (List.range (cW ad pr N cI cR L1 L2 u163).length) (rg_map _) (nd_range _) 1 rfl rfl rfl rfl hl.1 rfl (Nat.le_of_ble_eq_true rfl) dX5_forRest_178 ⟨Nat.le_of_ble_eq_true rfl, Nat.le_of_ble_eq_true rfl⟩) hP hD hS hA (fun u166 H locs hw165 hP hD hS => ?_)
    obtain ⟨fr165, i381165⟩ := hw165
    have i381165 : 0 ≤ (u166.1 0 381).toInt ∧ (u166.1 0 381).toInt ≤ 3008 := i381165
    refine W.widen (k := 0) (n := 0) (Nat.le_refl _) (Nat.le_refl _) ?_
    have q168 : (u166.1 0 306).toInt = (u163.1 0 306).toInt := congrArg Int32.toInt ((fr165.2.1 306 (by decide)).trans (show u163.1 0 306 = (u163.1 0 306) by rfl))
    have q169 : (u166.1 0 312).toInt = (u163.1 0 312).toInt := congrArg Int32.toInt ((fr165.2.1 312 (by decide)).trans (show u163.1 0 312 = (u163.1 0 312) by rfl))
    have q170 : (u166.1 0 321).toInt = (u163.1 0 321).toInt := congrArg Int32.toInt ((fr165.2.1 321 (by decide)).trans (show u163.1 0 321 = (u163.1 0 321) by rfl))
    have q171 : (u166.1 0 326).toInt = (u163.1 0 326).toInt := congrArg Int32.toInt ((fr165.2.1 326 (by decide)).trans (show u163.1 0 326 = (u163.1 0 326) by rfl))
    refine W.sz (fun hz => ?_)
    refine vx_ret ?_
    refine W.widen (k := 1) (n := 6) (Nat.le_of_ble_eq_true rfl) (Nat.le_of_ble_eq_true rfl) ?_
    exact W.vret hx hb hr (fun t ht9 hW => ⟨⟨u166, rfl, ⟨(FC.tr (FC.tr (FC.tr (FC.tr (FC.tr (FC.tr (FC.tr (FC.tr (FC.tr (FC.tr (FC.tr (FC.tr (FC.tr (FC.tr (FC.tr (FC.tr (FC.tr (FC.tr (FC.tr (FC.rf _) (FC.up fr1 (by decide) (by decide))) (FC.up fr4 (by decide) (by decide))) (FC.up fr11 (by decide) (by decide))) (FC.up fr19 (by decide) (by decide))) (FC.up fr42 (by decide) (by decide))) (FC.up fr47 (by decide) (by decide))) (FC.up fr51 (by decide) (by decide))) (FC.up fr55 (by decide) (by decide))) (FC.up fr79 (by decide) (by decide))) (FC.up fr86 (by decide) (by decide))) (FC.up fr90 (by decide) (by decide))) (FC.up fr93 (by decide) (by decide))) (FC.up fr118 (by decide) (by decide))) (FC.up fr123 (by decide) (by decide))) (FC.up fr127 (by decide) (by decide))) (FC.up fr132 (by decide) (by decide))) (FC.up fr135 (by decide) (by decide))) (FC.up fr162 (by decide) (by decide))) (FC.up fr165 (by decide) (by decide))), (show 0 ≤ (u166.1 0 306).toInt ∧ (u166.1 0 306).toInt ≤ 40 from (om_99e115f631 i306162 q168)), (show 0 ≤ (u166.1 0 312).toInt ∧ (u166.1 0 312).toInt ≤ 500 from (om_f8376ff89c i312162 q169)), (show 0 ≤ (u166.1 0 321).toInt ∧ (u166.1 0 321).toInt ≤ 501 from (om_ff27494c0e i321162 q170)), (show 0 ≤ (u166.1 0 326).toInt ∧ (u166.1 0 326).toInt ≤ 420 from (om_8ed0dedb19 i326162 q171)), (show 0 ≤ (u166.1 0 381).toInt ∧ (u166.1 0 381).toInt ≤ 3008 from (om_e78eec72e1 i381165)), (show (u166.1 0 306).toInt = (v.1 0 306).toInt from (om_09310d7f72 q15 q16 q17 pj19 po42 q63 q64 q65 po79 q101 q102 q103 po118 q126 pj127 q142 q143 po162 q168))⟩, ⟨by rw [ht9]; exact hP, hD⟩, by rw [ht9]; exact hz⟩, hS.F ht9⟩) hS.2.2 dX5_forRest_181
  · have z172 : r81.toInt ≠ (0 : Int) := ne_z rfl (show (0 : Int32).toInt = (0 : Int) by decide) h82
    refine lv_aload_n hx hb dX5_forRest_76 rfl (lv_at hl 2 rfl) ?_
    refine va_get (D := (dC, dI)) (ci := 8) (fs := oF_X5 ad pr u80) (v := .ref (ad 901)) (C := RX5) (T := TX5) (N := 7) hx hb ht itX5 hown hK hP 3 rfl rfl 2 (by decide) (ht _ tw_573) (fun _ h9 => h9) rfl dX5_forRest_77 ?_
    refine lv_bipush (v := 16) hx hb dX5_forRest_80 (by decide) ?_
    refine lv_aload_n hx hb dX5_forRest_82 rfl (lv_at hl 2 rfl) ?_
    refine va_get (D := (dC, dI)) (ci := 8) (fs := oF_X5 ad pr u80) (v := .int (u80.1 0 331)) (C := RX5) (T := TX5) (N := 7) hx hb ht itX5 hown hK hP 3 rfl rfl 4 (by decide) (ht _ tw_618) (fun _ h9 => h9) rfl dX5_forRest_83 ?_
    refine lv_iconst (v := 0) hx hb dX5_forRest_86 (by decide) ?_
    refine cu_v (rn_Vk (n := 3) (As := [.int 16, .int (u80.1 0 331), .int 0]) (rest := []) hx hb hml hown ht hKK hFx hP hD hS hA (c_x_X1_add l dC dI cI cB cZ cJ cR tb H.size ad pr N L1 L2 u80 (16 : Int32) (u80.1 0 331) (0 : Int32) ps (show 0 ≤ (u80.1 0 381).toInt ∧ (u80.1 0 381).toInt ≤ 3008 from (om_e78eec72e1 i38179)) (show pr ps = ad 908 from hps) (show (u80.1 0 310) = ps from (Eq.trans (fr79.2.1 310 (by decide)) (Eq.trans (fr55.2.1 310 (by decide)) (Eq.trans (fr51.2.1 310 (by decide)) (Eq.trans (fr47.2.1 310 (by decide)) (Eq.trans (fr42.2.1 310 (by decide)) (Eq.trans (fr19.2.1 310 (by decide)) (Eq.trans (fr11.2.1 310 (by decide)) (Eq.trans (fr4.2.1 310 (by decide)) (Eq.trans (fr1.2.1 310 (by decide)) es310))))))))))) tw_499 tw_592 (by decide +kernel) rfl rfl ⟨show 0 + 1 ≤ 8 * n + 42 from om_7b3d5df7aa, show 8 + (5 + 11) + 0 ≤ 28 * (8 * n + 42) from om_a3857ee34e⟩ (List.range (cW ad pr N cI cR L1 L2 u80).length) (rg_map _) (nd_range _) 1 rfl rfl rfl rfl hl.1 rfl (Nat.le_of_ble_eq_true rfl) dX5_forRest_87 ⟨Nat.le_of_ble_eq_true rfl, Nat.le_of_ble_eq_true rfl⟩) hP hD hS hA (fun u174 H locs hw173 hP hD hS => ?_)
    obtain ⟨fr173, i381173⟩ := hw173
    have i381173 : 0 ≤ (u174.1 0 381).toInt ∧ (u174.1 0 381).toInt ≤ 3008 := i381173
    refine W.widen (k := 0) (n := 0) (Nat.le_refl _) (Nat.le_refl _) ?_
    refine lv_aload_n hx hb dX5_forRest_90 rfl (lv_at hl 2 rfl) ?_
    refine va_get (D := (dC, dI)) (ci := 8) (fs := oF_X5 ad pr u174) (v := .ref (ad 900)) (C := RX5) (T := TX5) (N := 7) hx hb ht itX5 hown hK hP 3 rfl rfl 1 (by decide) (ht _ tw_571) (fun _ h9 => h9) rfl dX5_forRest_91 ?_
    refine lv_bipush (v := 36) hx hb dX5_forRest_94 (by decide) ?_
    have q176 : (u80.1 0 304).toInt = (u56.1 0 304).toInt := congrArg Int32.toInt ((fr79.2.1 304 (by decide)).trans (show u56.1 0 304 = (u56.1 0 304) by rfl))
    have q177 : (u174.1 0 304).toInt = (u80.1 0 304).toInt := congrArg Int32.toInt ((fr173.2.1 304 (by decide)).trans (show u80.1 0 304 = (u80.1 0 304) by rfl))
    have q178 : (u80.1 0 373).toInt = (u56.1 0 373).toInt := congrArg Int32.toInt ((fr79.2.1 373 (by decide)).trans (show u56.1 0 373 = (u56.1 0 373) by rfl))
    have q179 : (u174.1 0 373).toInt = (u80.1 0 373).toInt := congrArg Int32.toInt ((fr173.2.1 373 (by decide)).trans (show u80.1 0 373 = (u80.1 0 373) by rfl))
    refine W.sz (fun hz9 => ?_)
    refine czx_v (rx_Vk (n := 1) (As := [.int 36]) (rest := []) hx hb hml hown ht hKK hFx hP hD hS hA (c_x_X9_expect l dC dI cI cB cZ cJ cR tb H.size ad pr N L1 L2 u174 (36 : Int32) ps (show 0 ≤ (u174.1 0 304).toInt ∧ (u174.1 0 304).toInt ≤ 1503 from (om_da3662a68c z304 q7 q8 q14 q24 q45 q60 q61 q62 q176 q177)) (show 0 ≤ (u174.1 0 373).toInt ∧ (u174.1 0 373).toInt ≤ 4000 from (om_463e4f842d z373 q9 q10 q18 q37 q46 q76 q77 q78 q178 q179)) (show pr ps = ad 908 from hps) (show (u174.1 0 300) = ps from (Eq.trans (fr173.2.1 300 (by decide)) (Eq.trans (fr79.2.1 300 (by decide)) (Eq.trans (fr55.2.1 300 (by decide)) (Eq.trans (fr51.2.1 300 (by decide)) (Eq.trans (fr47.2.1 300 (by decide)) (Eq.trans (fr42.2.1 300 (by decide)) (Eq.trans (fr19.2.1 300 (by decide)) (Eq.trans (fr11.2.1 300 (by decide)) (Eq.trans (fr4.2.1 300 (by decide)) (Eq.trans (fr1.2.1 300 (by decide)) es300))))))))))) (show l.stackTraces = false from hst)) tw_526 tw_580 (by decide +kernel) rfl rfl ⟨show 7 + 1 ≤ 8 * n + 42 from om_24bb48a271, show 8 + (2 + 11) + 104 ≤ 28 * (8 * n + 42) from om_46dbd0fc2a⟩ (List.range (cW ad pr N cI cR L1 L2 u174).length) (rg_map _) (nd_range _) 0 rfl rfl rfl rfl hl.1 rfl (Nat.le_of_ble_eq_true rfl) dX5_forRest_96 ⟨Nat.le_of_ble_eq_true rfl, Nat.le_of_ble_eq_true rfl⟩) hP hD hS hA (fun u9 ce9 q9 H locs hx9 hP hD hS hc9 hv9 hf9 => ?_) (fun u181 H locs hw180 hP hD hS hz8 => ?_)
    · exact vx_out (fun x h9 => (hnt x h9).elim) hlocks hc9 hv9 hf9 (fun t9 ht9 hv8 => ⟨u9, ⟨FC.tr (FC.tr (FC.tr (FC.tr (FC.tr (FC.tr (FC.tr (FC.tr (FC.tr (FC.tr (FC.tr (FC.rf _) (FC.up fr1 (by decide) (by decide))) (FC.up fr4 (by decide) (by decide))) (FC.up fr11 (by decide) (by decide))) (FC.up fr19 (by decide) (by decide))) (FC.up fr42 (by decide) (by decide))) (FC.up fr47 (by decide) (by decide))) (FC.up fr51 (by decide) (by decide))) (FC.up fr55 (by decide) (by decide))) (FC.up fr79 (by decide) (by decide))) (FC.up fr173 (by decide) (by decide))) hx9.1, hx9.2⟩, ⟨rfl, by rw [ht9]; exact hP, hD⟩, hS.F ht9⟩) hS.2.2 (Nat.le_refl _) (Nat.le_refl _)
    refine W.shrink (hz8.trans hz9) ?_
    have fr180 := hw180
    refine lv_aload_n hx hb dX5_forRest_99 rfl (lv_at hl 2 rfl) ?_
    refine va_get (D := (dC, dI)) (ci := 8) (fs := oF_X5 ad pr u181) (v := .ref (ad 901)) (C := RX5) (T := TX5) (N := 7) hx hb ht itX5 hown hK hP 3 rfl rfl 2 (by decide) (ht _ tw_573) (fun _ h9 => h9) rfl dX5_forRest_100 ?_
    refine lv_bipush (v := 19) hx hb dX5_forRest_103 (by decide) ?_
    refine lv_iload_n hx hb dX5_forRest_105 rfl (lv_at hl 0 rfl) ?_
    refine lv_iconst (v := 0) hx hb dX5_forRest_106 (by decide) ?_
    have q183 : (u181.1 0 381).toInt = (u174.1 0 381).toInt := congrArg Int32.toInt ((fr180.2.1 381 (by decide)).trans (show u174.1 0 381 = (u174.1 0 381) by rfl))
    refine cu_v (rn_Vk (n := 3) (As := [.int 19, .int r6, .int 0]) (rest := []) hx hb hml hown ht hKK hFx hP hD hS hA (c_x_X1_add l dC dI cI cB cZ cJ cR tb H.size ad pr N L1 L2 u181 (19 : Int32) r6 (0 : Int32) ps (show 0 ≤ (u181.1 0 381).toInt ∧ (u181.1 0 381).toInt ≤ 3008 from (om_6e4eb11ad3 i381173 q183)) (show pr ps = ad 908 from hps) (show (u181.1 0 310) = ps from (Eq.trans (fr180.2.1 310 (by decide)) (Eq.trans (fr173.2.1 310 (by decide)) (Eq.trans (fr79.2.1 310 (by decide)) (Eq.trans (fr55.2.1 310 (by decide)) (Eq.trans (fr51.2.1 310 (by decide)) (Eq.trans (fr47.2.1 310 (by decide)) (Eq.trans (fr42.2.1 310 (by decide)) (Eq.trans (fr19.2.1 310 (by decide)) (Eq.trans (fr11.2.1 310 (by decide)) (Eq.trans (fr4.2.1 310 (by decide)) (Eq.trans (fr1.2.1 310 (by decide)) es310))))))))))))) tw_499 tw_592 (by decide +kernel) rfl rfl ⟨show 0 + 1 ≤ 8 * n + 42 from om_7b3d5df7aa, show 8 + (5 + 11) + 0 ≤ 28 * (8 * n + 42) from om_a3857ee34e⟩ (List.range (cW ad pr N cI cR L1 L2 u181).length) (rg_map _) (nd_range _) 1 rfl rfl rfl rfl hl.1 rfl (Nat.le_of_ble_eq_true rfl) dX5_forRest_107 ⟨Nat.le_of_ble_eq_true rfl, Nat.le_of_ble_eq_true rfl⟩) hP hD hS hA (fun u185 H locs hw184 hP hD hS => ?_)
    obtain ⟨fr184, i381184⟩ := hw184
    have i381184 : 0 ≤ (u185.1 0 381).toInt ∧ (u185.1 0 381).toInt ≤ 3008 := i381184
    refine W.widen (k := 0) (n := 0) (Nat.le_refl _) (Nat.le_refl _) ?_
    refine lv_aload_n hx hb dX5_forRest_110 rfl (lv_at hl 2 rfl) ?_
    refine va_get (D := (dC, dI)) (ci := 8) (fs := oF_X5 ad pr u185) (v := .ref (ad 901)) (C := RX5) (T := TX5) (N := 7) hx hb ht itX5 hown hK hP 3 rfl rfl 2 (by decide) (ht _ tw_573) (fun _ h9 => h9) rfl dX5_forRest_111 ?_
    refine lv_aload_n hx hb dX5_forRest_114 rfl (lv_at hl 2 rfl) ?_
    refine va_get (D := (dC, dI)) (ci := 8) (fs := oF_X5 ad pr u185) (v := .int (u185.1 0 332)) (C := RX5) (T := TX5) (N := 7) hx hb ht itX5 hown hK hP 3 rfl rfl 5 (by decide) (ht _ tw_614) (fun _ h9 => h9) rfl dX5_forRest_115 ?_
    refine cu_v (rn_Vk (n := 1) (As := [.int (u185.1 0 332)]) (rest := []) hx hb hml hown ht hKK hFx hP hD hS hA (c_x_X1_setLabel l dC dI cI cB cZ cJ cR tb H.size ad pr N L1 L2 u185 (u185.1 0 332) ps (show 0 ≤ (u185.1 0 381).toInt ∧ (u185.1 0 381).toInt ≤ 3008 from (om_e78eec72e1 i381184)) (show pr ps = ad 908 from hps) (show (u185.1 0 310) = ps from (Eq.trans (fr184.2.1 310 (by decide)) (Eq.trans (fr180.2.1 310 (by decide)) (Eq.trans (fr173.2.1 310 (by decide)) (Eq.trans (fr79.2.1 310 (by decide)) (Eq.trans (fr55.2.1 310 (by decide)) (Eq.trans (fr51.2.1 310 (by decide)) (Eq.trans (fr47.2.1 310 (by decide)) (Eq.trans (fr42.2.1 310 (by decide)) (Eq.trans (fr19.2.1 310 (by decide)) (Eq.trans (fr11.2.1 310 (by decide)) (Eq.trans (fr4.2.1 310 (by decide)) (Eq.trans (fr1.2.1 310 (by decide)) es310)))))))))))))) tw_514 tw_615 (by decide +kernel) rfl rfl ⟨show 0 + 1 ≤ 8 * n + 42 from om_7b3d5df7aa, show 8 + (2 + 11) + 0 ≤ 28 * (8 * n + 42) from om_8b45c8e7c0⟩ (List.range (cW ad pr N cI cR L1 L2 u185).length) (rg_map _) (nd_range _) 1 rfl rfl rfl rfl hl.1 rfl (Nat.le_of_ble_eq_true rfl) dX5_forRest_118 ⟨Nat.le_of_ble_eq_true rfl, Nat.le_of_ble_eq_true rfl⟩) hP hD hS hA (fun u188 H locs hw187 hP hD hS => ?_)
    have fr187 := hw187
    refine W.widen (k := 0) (n := 0) (Nat.le_refl _) (Nat.le_refl _) ?_
    refine lv_aload_n hx hb dX5_forRest_121 rfl (lv_at hl 2 rfl) ?_
    refine lv_bipush (v := 31) hx hb dX5_forRest_122 (by decide) ?_
    obtain ⟨n190, hn191⟩ : ∃ m, n = m + 1 := ex_z (om_bce5f2fb63 hn23)
    have q192 : (u181.1 0 304).toInt = (u174.1 0 304).toInt := congrArg Int32.toInt ((fr180.2.1 304 (by decide)).trans (show u174.1 0 304 = (u174.1 0 304) by rfl))
    have q193 : (u185.1 0 304).toInt = (u181.1 0 304).toInt := congrArg Int32.toInt ((fr184.2.1 304 (by decide)).trans (show u181.1 0 304 = (u181.1 0 304) by rfl))
    have q194 : (u188.1 0 304).toInt = (u185.1 0 304).toInt := congrArg Int32.toInt ((fr187.2.1 304 (by decide)).trans (show u185.1 0 304 = (u185.1 0 304) by rfl))
    have q195 : (u174.1 0 306).toInt = (u80.1 0 306).toInt := congrArg Int32.toInt ((fr173.2.1 306 (by decide)).trans (show u80.1 0 306 = (u80.1 0 306) by rfl))
    have q196 : (u181.1 0 306).toInt = (u174.1 0 306).toInt := congrArg Int32.toInt ((fr180.2.1 306 (by decide)).trans (show u174.1 0 306 = (u174.1 0 306) by rfl))
    have q197 : (u185.1 0 306).toInt = (u181.1 0 306).toInt := congrArg Int32.toInt ((fr184.2.1 306 (by decide)).trans (show u181.1 0 306 = (u181.1 0 306) by rfl))
    have q198 : (u188.1 0 306).toInt = (u185.1 0 306).toInt := congrArg Int32.toInt ((fr187.2.1 306 (by decide)).trans (show u185.1 0 306 = (u185.1 0 306) by rfl))
    have q199 : (u80.1 0 312).toInt = (u56.1 0 312).toInt := congrArg Int32.toInt ((fr79.2.1 312 (by decide)).trans (show u56.1 0 312 = (u56.1 0 312) by rfl))
    have q200 : (u174.1 0 312).toInt = (u80.1 0 312).toInt := congrArg Int32.toInt ((fr173.2.1 312 (by decide)).trans (show u80.1 0 312 = (u80.1 0 312) by rfl))
    have q201 : (u181.1 0 312).toInt = (u174.1 0 312).toInt := congrArg Int32.toInt ((fr180.2.1 312 (by decide)).trans (show u174.1 0 312 = (u174.1 0 312) by rfl))
    have q202 : (u185.1 0 312).toInt = (u181.1 0 312).toInt := congrArg Int32.toInt ((fr184.2.1 312 (by decide)).trans (show u181.1 0 312 = (u181.1 0 312) by rfl))
    have q203 : (u188.1 0 312).toInt = (u185.1 0 312).toInt := congrArg Int32.toInt ((fr187.2.1 312 (by decide)).trans (show u185.1 0 312 = (u185.1 0 312) by rfl))
    have q204 : (u174.1 0 321).toInt = (u80.1 0 321).toInt := congrArg Int32.toInt ((fr173.2.1 321 (by decide)).trans (show u80.1 0 321 = (u80.1 0 321) by rfl))
    have q205 : (u181.1 0 321).toInt = (u174.1 0 321).toInt := congrArg Int32.toInt ((fr180.2.1 321 (by decide)).trans (show u174.1 0 321 = (u174.1 0 321) by rfl))
    have q206 : (u185.1 0 321).toInt = (u181.1 0 321).toInt := congrArg Int32.toInt ((fr184.2.1 321 (by decide)).trans (show u181.1 0 321 = (u181.1 0 321) by rfl))
    have q207 : (u188.1 0 321).toInt = (u185.1 0 321).toInt := congrArg Int32.toInt ((fr187.2.1 321 (by decide)).trans (show u185.1 0 321 = (u185.1 0 321) by rfl))
    have q208 : (u174.1 0 326).toInt = (u80.1 0 326).toInt := congrArg Int32.toInt ((fr173.2.1 326 (by decide)).trans (show u80.1 0 326 = (u80.1 0 326) by rfl))
    have q209 : (u181.1 0 326).toInt = (u174.1 0 326).toInt := congrArg Int32.toInt ((fr180.2.1 326 (by decide)).trans (show u174.1 0 326 = (u174.1 0 326) by rfl))
    have q210 : (u185.1 0 326).toInt = (u181.1 0 326).toInt := congrArg Int32.toInt ((fr184.2.1 326 (by decide)).trans (show u181.1 0 326 = (u181.1 0 326) by rfl))
    have q211 : (u188.1 0 326).toInt = (u185.1 0 326).toInt := congrArg Int32.toInt ((fr187.2.1 326 (by decide)).trans (show u185.1 0 326 = (u185.1 0 326) by rfl))
    have q212 : (u181.1 0 373).toInt = (u174.1 0 373).toInt := congrArg Int32.toInt ((fr180.2.1 373 (by decide)).trans (show u174.1 0 373 = (u174.1 0 373) by rfl))
    have q213 : (u185.1 0 373).toInt = (u181.1 0 373).toInt := congrArg Int32.toInt ((fr184.2.1 373 (by decide)).trans (show u181.1 0 373 = (u181.1 0 373) by rfl))
    have q214 : (u188.1 0 373).toInt = (u185.1 0 373).toInt := congrArg Int32.toInt ((fr187.2.1 373 (by decide)).trans (show u185.1 0 373 = (u185.1 0 373) by rfl))
    have q215 : (u188.1 0 381).toInt = (u185.1 0 381).toInt := congrArg Int32.toInt ((fr187.2.1 381 (by decide)).trans (show u185.1 0 381 = (u185.1 0 381) by rfl))
    refine W.sz (fun hz9 => ?_)
    refine czx_i (rx_Vk (n := 1) (As := [.int 31]) (rest := []) hx hb hml hown ht hKK hFx hP hD hS hA (c_x_X5_optional l n190 dC dI cI cB cZ cJ cR tb H.size ad pr N L1 L2 u188 (31 : Int32) ps (show 0 ≤ (u188.1 0 304).toInt ∧ (u188.1 0 304).toInt ≤ 1503 from (om_0266c5b6cc z304 q7 q8 q14 q24 q45 q60 q61 q62 q176 q177 q192 q193 q194)) (show 0 ≤ (u188.1 0 306).toInt ∧ (u188.1 0 306).toInt ≤ 40 from (om_ca678151ea i30679 q195 q196 q197 q198)) (show 0 ≤ (u188.1 0 312).toInt ∧ (u188.1 0 312).toInt ≤ 500 from (om_1971465ea5 z312 q25 q26 q27 q28 q66 q67 q68 q69 q199 q200 q201 q202 q203)) (show 0 ≤ (u188.1 0 321).toInt ∧ (u188.1 0 321).toInt ≤ 501 from (om_404ac90bf6 i32179 q204 q205 q206 q207)) (show 0 ≤ (u188.1 0 326).toInt ∧ (u188.1 0 326).toInt ≤ 420 from (om_73f5be2f84 i32679 q208 q209 q210 q211)) (show 0 ≤ (u188.1 0 373).toInt ∧ (u188.1 0 373).toInt ≤ 4000 from (om_73ad7353b7 z373 q9 q10 q18 q37 q46 q76 q77 q78 q178 q179 q212 q213 q214)) (show 0 ≤ (u188.1 0 381).toInt ∧ (u188.1 0 381).toInt ≤ 3008 from (om_6e4eb11ad3 i381184 q215)) (show L1.length = 40 from hL1) (show L2.length = 60 from hL2) (show RP u188 from ((show FC [305, 306, 307, 312, 313, 314, 315, 317, 321, 326, 331, 332, 381] [0, 311, 316, 318, 319, 320, 324, 325, 378, 379, 380] v u188 from (FC.tr (FC.tr (FC.tr (FC.tr (FC.tr (FC.tr (FC.tr (FC.tr (FC.tr (FC.tr (FC.tr (FC.tr (FC.tr (FC.rf _) (FC.up fr1 (by decide) (by decide))) (FC.up fr4 (by decide) (by decide))) (FC.up fr11 (by decide) (by decide))) (FC.up fr19 (by decide) (by decide))) (FC.up fr42 (by decide) (by decide))) (FC.up fr47 (by decide) (by decide))) (FC.up fr51 (by decide) (by decide))) (FC.up fr55 (by decide) (by decide))) (FC.up fr79 (by decide) (by decide))) (FC.up fr173 (by decide) (by decide))) (FC.up fr180 (by decide) (by decide))) (FC.up fr184 (by decide) (by decide))) (FC.up fr187 (by decide) (by decide)))).1 rp)) (show pr ps = ad 908 from hps) (show (u188.1 0 300) = ps from (Eq.trans (fr187.2.1 300 (by decide)) (Eq.trans (fr184.2.1 300 (by decide)) (Eq.trans (fr180.2.1 300 (by decide)) (Eq.trans (fr173.2.1 300 (by decide)) (Eq.trans (fr79.2.1 300 (by decide)) (Eq.trans (fr55.2.1 300 (by decide)) (Eq.trans (fr51.2.1 300 (by decide)) (Eq.trans (fr47.2.1 300 (by decide)) (Eq.trans (fr42.2.1 300 (by decide)) (Eq.trans (fr19.2.1 300 (by decide)) (Eq.trans (fr11.2.1 300 (by decide)) (Eq.trans (fr4.2.1 300 (by decide)) (Eq.trans (fr1.2.1 300 (by decide)) es300)))))))))))))) (show (u188.1 0 310) = ps from (Eq.trans (fr187.2.1 310 (by decide)) (Eq.trans (fr184.2.1 310 (by decide)) (Eq.trans (fr180.2.1 310 (by decide)) (Eq.trans (fr173.2.1 310 (by decide)) (Eq.trans (fr79.2.1 310 (by decide)) (Eq.trans (fr55.2.1 310 (by decide)) (Eq.trans (fr51.2.1 310 (by decide)) (Eq.trans (fr47.2.1 310 (by decide)) (Eq.trans (fr42.2.1 310 (by decide)) (Eq.trans (fr19.2.1 310 (by decide)) (Eq.trans (fr11.2.1 310 (by decide)) (Eq.trans (fr4.2.1 310 (by decide)) (Eq.trans (fr1.2.1 310 (by decide)) es310)))))))))))))) (show l.stackTraces = false from hst) (show 40 ≤ (u188.1 0 306).toInt + (n190 : Int) from (om_d06f51844c zn q15 q16 q17 pj19 po42 q63 q64 q65 po79 q195 q196 q197 q198 hn191))) tw_622 tw_623 (by decide +kernel) rfl rfl ⟨show (8 * n190 + 21) + 1 ≤ 8 * n + 42 from (om_f35f427e08 hn191), show 8 + (2 + 11) + 28 * (8 * n190 + 21) ≤ 28 * (8 * n + 42) from (om_13e07992b6 hn191)⟩ (List.range (cW ad pr N cI cR L1 L2 u188).length) (rg_map _) (nd_range _) 3 rfl rfl rfl rfl hl.1 rfl (Nat.le_of_ble_eq_true rfl) dX5_forRest_124 ⟨Nat.le_of_ble_eq_true rfl, Nat.le_of_ble_eq_true rfl⟩) hP hD hS hA (fun u9 ce9 q9 H locs hx9 hP hD hS hc9 hv9 hf9 => ?_) (fun r218 u217 H locs hw216 hP hD hS hz8 => ?_)
    · exact vx_out (fun x h9 => (hnt x h9).elim) hlocks hc9 hv9 hf9 (fun t9 ht9 hv8 => ⟨u9, ⟨FC.tr (FC.tr (FC.tr (FC.tr (FC.tr (FC.tr (FC.tr (FC.tr (FC.tr (FC.tr (FC.tr (FC.tr (FC.tr (FC.tr (FC.rf _) (FC.up fr1 (by decide) (by decide))) (FC.up fr4 (by decide) (by decide))) (FC.up fr11 (by decide) (by decide))) (FC.up fr19 (by decide) (by decide))) (FC.up fr42 (by decide) (by decide))) (FC.up fr47 (by decide) (by decide))) (FC.up fr51 (by decide) (by decide))) (FC.up fr55 (by decide) (by decide))) (FC.up fr79 (by decide) (by decide))) (FC.up fr173 (by decide) (by decide))) (FC.up fr180 (by decide) (by decide))) (FC.up fr184 (by decide) (by decide))) (FC.up fr187 (by decide) (by decide))) hx9.1, hx9.2⟩, ⟨rfl, by rw [ht9]; exact hP, hD⟩, hS.F ht9⟩) hS.2.2 (Nat.le_refl _) (Nat.le_refl _)
    refine W.shrink (hz8.trans hz9) ?_
    obtain ⟨fr216, i306216, i321216, i326216, i381216, po216, bz216⟩ := hw216
    have i306216 : 0 ≤ (u217.1 0 306).toInt ∧ (u217.1 0 306).toInt ≤ 40 := i306216
    have i321216 : 0 ≤ (u217.1 0 321).toInt ∧ (u217.1 0 321).toInt ≤ 501 := i321216
    have i326216 : 0 ≤ (u217.1 0 326).toInt ∧ (u217.1 0 326).toInt ≤ 420 := i326216
    have i381216 : 0 ≤ (u217.1 0 381).toInt ∧ (u217.1 0 381).toInt ≤ 3008 := i381216
    have po216 : (u217.1 0 306).toInt = (u188.1 0 306).toInt := po216
    have bz216 : r218 = 0 ∨ r218 = 1 := bz216
    refine lv_pop hx hb dX5_forRest_127 rfl ?_
    refine lv_aload_n hx hb dX5_forRest_128 rfl (lv_at hl 2 rfl) ?_
    refine va_get (D := (dC, dI)) (ci := 8) (fs := oF_X5 ad pr u217) (v := .ref (ad 900)) (C := RX5) (T := TX5) (N := 7) hx hb ht itX5 hown hK hP 3 rfl rfl 1 (by decide) (ht _ tw_571) (fun _ h9 => h9) rfl dX5_forRest_129 ?_
    refine lv_bipush (v := 31) hx hb dX5_forRest_132 (by decide) ?_
    have q219 : (u217.1 0 304).toInt = (u188.1 0 304).toInt := congrArg Int32.toInt ((fr216.2.1 304 (by decide)).trans (show u188.1 0 304 = (u188.1 0 304) by rfl))
    have q220 : (u217.1 0 373).toInt = (u188.1 0 373).toInt := congrArg Int32.toInt ((fr216.2.1 373 (by decide)).trans (show u188.1 0 373 = (u188.1 0 373) by rfl))
    refine W.sz (fun hz9 => ?_)
    refine czx_v (rx_Vk (n := 1) (As := [.int 31]) (rest := []) hx hb hml hown ht hKK hFx hP hD hS hA (c_x_X9_expect l dC dI cI cB cZ cJ cR tb H.size ad pr N L1 L2 u217 (31 : Int32) ps (show 0 ≤ (u217.1 0 304).toInt ∧ (u217.1 0 304).toInt ≤ 1503 from (om_88e0c5ac50 z304 q7 q8 q14 q24 q45 q60 q61 q62 q176 q177 q192 q193 q194 q219)) (show 0 ≤ (u217.1 0 373).toInt ∧ (u217.1 0 373).toInt ≤ 4000 from (om_0a1b993692 z373 q9 q10 q18 q37 q46 q76 q77 q78 q178 q179 q212 q213 q214 q220)) (show pr ps = ad 908 from hps) (show (u217.1 0 300) = ps from (Eq.trans (fr216.2.1 300 (by decide)) (Eq.trans (fr187.2.1 300 (by decide)) (Eq.trans (fr184.2.1 300 (by decide)) (Eq.trans (fr180.2.1 300 (by decide)) (Eq.trans (fr173.2.1 300 (by decide)) (Eq.trans (fr79.2.1 300 (by decide)) (Eq.trans (fr55.2.1 300 (by decide)) (Eq.trans (fr51.2.1 300 (by decide)) (Eq.trans (fr47.2.1 300 (by decide)) (Eq.trans (fr42.2.1 300 (by decide)) (Eq.trans (fr19.2.1 300 (by decide)) (Eq.trans (fr11.2.1 300 (by decide)) (Eq.trans (fr4.2.1 300 (by decide)) (Eq.trans (fr1.2.1 300 (by decide)) es300))))))))))))))) (show l.stackTraces = false from hst)) tw_526 tw_580 (by decide +kernel) rfl rfl ⟨show 7 + 1 ≤ 8 * n + 42 from om_24bb48a271, show 8 + (2 + 11) + 104 ≤ 28 * (8 * n + 42) from om_46dbd0fc2a⟩ (List.range (cW ad pr N cI cR L1 L2 u217).length) (rg_map _) (nd_range _) 0 rfl rfl rfl rfl hl.1 rfl (Nat.le_of_ble_eq_true rfl) dX5_forRest_134 ⟨Nat.le_of_ble_eq_true rfl, Nat.le_of_ble_eq_true rfl⟩) hP hD hS hA (fun u9 ce9 q9 H locs hx9 hP hD hS hc9 hv9 hf9 => ?_) (fun u222 H locs hw221 hP hD hS hz8 => ?_)
    · exact vx_out (fun x h9 => (hnt x h9).elim) hlocks hc9 hv9 hf9 (fun t9 ht9 hv8 => ⟨u9, ⟨FC.tr (FC.tr (FC.tr (FC.tr (FC.tr (FC.tr (FC.tr (FC.tr (FC.tr (FC.tr (FC.tr (FC.tr (FC.tr (FC.tr (FC.tr (FC.rf _) (FC.up fr1 (by decide) (by decide))) (FC.up fr4 (by decide) (by decide))) (FC.up fr11 (by decide) (by decide))) (FC.up fr19 (by decide) (by decide))) (FC.up fr42 (by decide) (by decide))) (FC.up fr47 (by decide) (by decide))) (FC.up fr51 (by decide) (by decide))) (FC.up fr55 (by decide) (by decide))) (FC.up fr79 (by decide) (by decide))) (FC.up fr173 (by decide) (by decide))) (FC.up fr180 (by decide) (by decide))) (FC.up fr184 (by decide) (by decide))) (FC.up fr187 (by decide) (by decide))) (FC.up fr216 (by decide) (by decide))) hx9.1, hx9.2⟩, ⟨rfl, by rw [ht9]; exact hP, hD⟩, hS.F ht9⟩) hS.2.2 (Nat.le_refl _) (Nat.le_refl _)
    refine W.shrink (hz8.trans hz9) ?_
    have fr221 := hw221
    refine lv_aload_n hx hb dX5_forRest_137 rfl (lv_at hl 2 rfl) ?_
    refine va_get (D := (dC, dI)) (ci := 8) (fs := oF_X5 ad pr u222) (v := .ref (ad 900)) (C := RX5) (T := TX5) (N := 7) hx hb ht itX5 hown hK hP 3 rfl rfl 1 (by decide) (ht _ tw_571) (fun _ h9 => h9) rfl dX5_forRest_138 ?_
    have q224 : (u222.1 0 306).toInt = (u217.1 0 306).toInt := congrArg Int32.toInt ((fr221.2.1 306 (by decide)).trans (show u217.1 0 306 = (u217.1 0 306) by rfl))
    refine cu_v (rn_Vk (n := 0) (As := []) (rest := []) hx hb hml hown ht hKK hFx hP hD hS hA (c_x_X9_close l dC dI cI cB cZ cJ cR tb H.size ad pr N L1 L2 u222  (show 0 ≤ (u222.1 0 306).toInt ∧ (u222.1 0 306).toInt ≤ 40 from (om_99e115f631 i306216 q224)) (show 1 ≤ (u222.1 0 306).toInt from (om_dde18c5ac6 z306 q15 q16 q17 pj19 po42 q63 q64 q65 po79 q195 q196 q197 q198 po216 q224))) tw_528 tw_595 (by decide +kernel) rfl rfl ⟨show 0 + 1 ≤ 8 * n + 42 from om_7b3d5df7aa, show 8 + (1 + 11) + 0 ≤ 28 * (8 * n + 42) from om_2ad1feabc9⟩ (List.range (cW ad pr N cI cR L1 L2 u222).length) (rg_map _) (nd_range _) 0 rfl rfl rfl rfl hl.1 rfl (Nat.le_of_ble_eq_true rfl) dX5_forRest_141 ⟨Nat.le_of_ble_eq_true rfl, Nat.le_of_ble_eq_true rfl⟩) hP hD hS hA (fun u226 H locs hw225 hP hD hS => ?_)
    obtain ⟨fr225, i306225, pj225⟩ := hw225
    have i306225 : 0 ≤ (u226.1 0 306).toInt ∧ (u226.1 0 306).toInt ≤ 40 := i306225
    have pj225 : (u226.1 0 306).toInt = (u222.1 0 306).toInt - 1 := pj225
    refine W.widen (k := 0) (n := 0) (Nat.le_refl _) (Nat.le_refl _) ?_
    refine lv_aload_n hx hb dX5_forRest_144 rfl (lv_at hl 2 rfl) ?_
    refine va_get (D := (dC, dI)) (ci := 8) (fs := oF_X5 ad pr u226) (v := .ref (ad 901)) (C := RX5) (T := TX5) (N := 7) hx hb ht itX5 hown hK hP 3 rfl rfl 2 (by decide) (ht _ tw_573) (fun _ h9 => h9) rfl dX5_forRest_145 ?_
    refine lv_bipush (v := 19) hx hb dX5_forRest_148 (by decide) ?_
    refine lv_iload_n hx hb dX5_forRest_150 rfl (lv_at hl 1 rfl) ?_
    refine lv_iconst (v := 0) hx hb dX5_forRest_151 (by decide) ?_
    have q228 : (u222.1 0 381).toInt = (u217.1 0 381).toInt := congrArg Int32.toInt ((fr221.2.1 381 (by decide)).trans (show u217.1 0 381 = (u217.1 0 381) by rfl))
    have q229 : (u226.1 0 381).toInt = (u222.1 0 381).toInt := congrArg Int32.toInt ((fr225.2.1 381 (by decide)).trans (show u222.1 0 381 = (u222.1 0 381) by rfl))
    refine cu_v (rn_Vk (n := 3) (As := [.int 19, .int r3, .int 0]) (rest := []) hx hb hml hown ht hKK hFx hP hD hS hA (c_x_X1_add l dC dI cI cB cZ cJ cR tb H.size ad pr N L1 L2 u226 (19 : Int32) r3 (0 : Int32) ps (show 0 ≤ (u226.1 0 381).toInt ∧ (u226.1 0 381).toInt ≤ 3008 from (om_769192f2a4 i381216 q228 q229)) (show pr ps = ad 908 from hps) (show (u226.1 0 310) = ps from (Eq.trans (fr225.2.1 310 (by decide)) (Eq.trans (fr221.2.1 310 (by decide)) (Eq.trans (fr216.2.1 310 (by decide)) (Eq.trans (fr187.2.1 310 (by decide)) (Eq.trans (fr184.2.1 310 (by decide)) (Eq.trans (fr180.2.1 310 (by decide)) (Eq.trans (fr173.2.1 310 (by decide)) (Eq.trans (fr79.2.1 310 (by decide)) (Eq.trans (fr55.2.1 310 (by decide)) (Eq.trans (fr51.2.1 310 (by decide)) (Eq.trans (fr47.2.1 310 (by decide)) (Eq.trans (fr42.2.1 310 (by decide)) (Eq.trans (fr19.2.1 310 (by decide)) (Eq.trans (fr11.2.1 310 (by decide)) (Eq.trans (fr4.2.1 310 (by decide)) (Eq.trans (fr1.2.1 310 (by decide)) es310)))))))))))))))))) tw_499 tw_592 (by decide +kernel) rfl rfl ⟨show 0 + 1 ≤ 8 * n + 42 from om_7b3d5df7aa, show 8 + (5 + 11) + 0 ≤ 28 * (8 * n + 42) from om_a3857ee34e⟩ (List.range (cW ad pr N cI cR L1 L2 u226).length) (rg_map _) (nd_range _) 1 rfl rfl rfl rfl hl.1 rfl (Nat.le_of_ble_eq_true rfl) dX5_forRest_152 ⟨Nat.le_of_ble_eq_true rfl, Nat.le_of_ble_eq_true rfl⟩) hP hD hS hA (fun u231 H locs hw230 hP hD hS => ?_)
    obtain ⟨fr230, i381230⟩ := hw230
    have i381230 : 0 ≤ (u231.1 0 381).toInt ∧ (u231.1 0 381).toInt ≤ 3008 := i381230
    refine W.widen (k := 0) (n := 0) (Nat.le_refl _) (Nat.le_refl _) ?_
    refine lv_aload_n hx hb dX5_forRest_155 rfl (lv_at hl 2 rfl) ?_
    refine va_get (D := (dC, dI)) (ci := 8) (fs := oF_X5 ad pr u231) (v := .ref (ad 901)) (C := RX5) (T := TX5) (N := 7) hx hb ht itX5 hown hK hP 3 rfl rfl 2 (by decide) (ht _ tw_573) (fun _ h9 => h9) rfl dX5_forRest_156 ?_
    refine lv_iload_n hx hb dX5_forRest_159 rfl (lv_at hl 0 rfl) ?_
    refine cu_v (rn_Vk (n := 1) (As := [.int r6]) (rest := []) hx hb hml hown ht hKK hFx hP hD hS hA (c_x_X1_setLabel l dC dI cI cB cZ cJ cR tb H.size ad pr N L1 L2 u231 r6 ps (show 0 ≤ (u231.1 0 381).toInt ∧ (u231.1 0 381).toInt ≤ 3008 from (om_e78eec72e1 i381230)) (show pr ps = ad 908 from hps) (show (u231.1 0 310) = ps from (Eq.trans (fr230.2.1 310 (by decide)) (Eq.trans (fr225.2.1 310 (by decide)) (Eq.trans (fr221.2.1 310 (by decide)) (Eq.trans (fr216.2.1 310 (by decide)) (Eq.trans (fr187.2.1 310 (by decide)) (Eq.trans (fr184.2.1 310 (by decide)) (Eq.trans (fr180.2.1 310 (by decide)) (Eq.trans (fr173.2.1 310 (by decide)) (Eq.trans (fr79.2.1 310 (by decide)) (Eq.trans (fr55.2.1 310 (by decide)) (Eq.trans (fr51.2.1 310 (by decide)) (Eq.trans (fr47.2.1 310 (by decide)) (Eq.trans (fr42.2.1 310 (by decide)) (Eq.trans (fr19.2.1 310 (by decide)) (Eq.trans (fr11.2.1 310 (by decide)) (Eq.trans (fr4.2.1 310 (by decide)) (Eq.trans (fr1.2.1 310 (by decide)) es310))))))))))))))))))) tw_514 tw_615 (by decide +kernel) rfl rfl ⟨show 0 + 1 ≤ 8 * n + 42 from om_7b3d5df7aa, show 8 + (2 + 11) + 0 ≤ 28 * (8 * n + 42) from om_8b45c8e7c0⟩ (List.range (cW ad pr N cI cR L1 L2 u231).length) (rg_map _) (nd_range _) 1 rfl rfl rfl rfl hl.1 rfl (Nat.le_of_ble_eq_true rfl) dX5_forRest_160 ⟨Nat.le_of_ble_eq_true rfl, Nat.le_of_ble_eq_true rfl⟩) hP hD hS hA (fun u234 H locs hw233 hP hD hS => ?_)
    have fr233 := hw233
    refine W.widen (k := 0) (n := 0) (Nat.le_refl _) (Nat.le_refl _) ?_
    refine lv_aload_n hx hb dX5_forRest_163 rfl (lv_at hl 2 rfl) ?_
    have q236 : (u222.1 0 304).toInt = (u217.1 0 304).toInt := congrArg Int32.toInt ((fr221.2.1 304 (by decide)).trans (show u217.1 0 304 = (u217.1 0 304) by rfl))
    have q237 : (u226.1 0 304).toInt = (u222.1 0 304).toInt := congrArg Int32.toInt ((fr225.2.1 304 (by decide)).trans (show u222.1 0 304 = (u222.1 0 304) by rfl))
    have q238 : (u231.1 0 304).toInt = (u226.1 0 304).toInt := congrArg Int32.toInt ((fr230.2.1 304 (by decide)).trans (show u226.1 0 304 = (u226.1 0 304) by rfl))
    have q239 : (u234.1 0 304).toInt = (u231.1 0 304).toInt := congrArg Int32.toInt ((fr233.2.1 304 (by decide)).trans (show u231.1 0 304 = (u231.1 0 304) by rfl))
    have q240 : (u231.1 0 306).toInt = (u226.1 0 306).toInt := congrArg Int32.toInt ((fr230.2.1 306 (by decide)).trans (show u226.1 0 306 = (u226.1 0 306) by rfl))
    have q241 : (u234.1 0 306).toInt = (u231.1 0 306).toInt := congrArg Int32.toInt ((fr233.2.1 306 (by decide)).trans (show u231.1 0 306 = (u231.1 0 306) by rfl))
    have q242 : (u217.1 0 312).toInt = (u188.1 0 312).toInt := congrArg Int32.toInt ((fr216.2.1 312 (by decide)).trans (show u188.1 0 312 = (u188.1 0 312) by rfl))
    have q243 : (u222.1 0 312).toInt = (u217.1 0 312).toInt := congrArg Int32.toInt ((fr221.2.1 312 (by decide)).trans (show u217.1 0 312 = (u217.1 0 312) by rfl))
    have q244 : (u226.1 0 312).toInt = (u222.1 0 312).toInt := congrArg Int32.toInt ((fr225.2.1 312 (by decide)).trans (show u222.1 0 312 = (u222.1 0 312) by rfl))
    have q245 : (u231.1 0 312).toInt = (u226.1 0 312).toInt := congrArg Int32.toInt ((fr230.2.1 312 (by decide)).trans (show u226.1 0 312 = (u226.1 0 312) by rfl))
    have q246 : (u234.1 0 312).toInt = (u231.1 0 312).toInt := congrArg Int32.toInt ((fr233.2.1 312 (by decide)).trans (show u231.1 0 312 = (u231.1 0 312) by rfl))
    have q247 : (u222.1 0 321).toInt = (u217.1 0 321).toInt := congrArg Int32.toInt ((fr221.2.1 321 (by decide)).trans (show u217.1 0 321 = (u217.1 0 321) by rfl))
    have q248 : (u226.1 0 321).toInt = (u222.1 0 321).toInt := congrArg Int32.toInt ((fr225.2.1 321 (by decide)).trans (show u222.1 0 321 = (u222.1 0 321) by rfl))
    have q249 : (u231.1 0 321).toInt = (u226.1 0 321).toInt := congrArg Int32.toInt ((fr230.2.1 321 (by decide)).trans (show u226.1 0 321 = (u226.1 0 321) by rfl))
    have q250 : (u234.1 0 321).toInt = (u231.1 0 321).toInt := congrArg Int32.toInt ((fr233.2.1 321 (by decide)).trans (show u231.1 0 321 = (u231.1 0 321) by rfl))
    have q251 : (u222.1 0 326).toInt = (u217.1 0 326).toInt := congrArg Int32.toInt ((fr221.2.1 326 (by decide)).trans (show u217.1 0 326 = (u217.1 0 326) by rfl))
    have q252 : (u226.1 0 326).toInt = (u222.1 0 326).toInt := congrArg Int32.toInt ((fr225.2.1 326 (by decide)).trans (show u222.1 0 326 = (u222.1 0 326) by rfl))
    have q253 : (u231.1 0 326).toInt = (u226.1 0 326).toInt := congrArg Int32.toInt ((fr230.2.1 326 (by decide)).trans (show u226.1 0 326 = (u226.1 0 326) by rfl))
    have q254 : (u234.1 0 326).toInt = (u231.1 0 326).toInt := congrArg Int32.toInt ((fr233.2.1 326 (by decide)).trans (show u231.1 0 326 = (u231.1 0 326) by rfl))
    have q255 : (u222.1 0 373).toInt = (u217.1 0 373).toInt := congrArg Int32.toInt ((fr221.2.1 373 (by decide)).trans (show u217.1 0 373 = (u217.1 0 373) by rfl))
    have q256 : (u226.1 0 373).toInt = (u222.1 0 373).toInt := congrArg Int32.toInt ((fr225.2.1 373 (by decide)).trans (show u222.1 0 373 = (u222.1 0 373) by rfl))
    have q257 : (u231.1 0 373).toInt = (u226.1 0 373).toInt := congrArg Int32.toInt ((fr230.2.1 373 (by decide)).trans (show u226.1 0 373 = (u226.1 0 373) by rfl))
    have q258 : (u234.1 0 373).toInt = (u231.1 0 373).toInt := congrArg Int32.toInt ((fr233.2.1 373 (by decide)).trans (show u231.1 0 373 = (u231.1 0 373) by rfl))
    have q259 : (u234.1 0 381).toInt = (u231.1 0 381).toInt := congrArg Int32.toInt ((fr233.2.1 381 (by decide)).trans (show u231.1 0 381 = (u231.1 0 381) by rfl))
    refine W.sz (fun hz9 => ?_)
    refine czx_v (rx_Vk (n := 0) (As := []) (rest := []) hx hb hml hown ht hKK hFx hP hD hS hA (c_x_X5_innerStat l n S dC dI cI cB cZ cJ cR tb H.size ad pr N L1 L2 u234 ps (show 0 ≤ (u234.1 0 304).toInt ∧ (u234.1 0 304).toInt ≤ 1503 from (om_d923b9d3a6 z304 q7 q8 q14 q24 q45 q60 q61 q62 q176 q177 q192 q193 q194 q219 q236 q237 q238 q239)) (show 0 ≤ (u234.1 0 306).toInt ∧ (u234.1 0 306).toInt ≤ 40 from (om_5db7a6ef3c i306216 q224 i306225 pj225 q240 q241)) (show 0 ≤ (u234.1 0 312).toInt ∧ (u234.1 0 312).toInt ≤ 500 from (om_1c98284a27 z312 q25 q26 q27 q28 q66 q67 q68 q69 q199 q200 q201 q202 q203 q242 q243 q244 q245 q246)) (show 0 ≤ (u234.1 0 321).toInt ∧ (u234.1 0 321).toInt ≤ 501 from (om_404ac90bf6 i321216 q247 q248 q249 q250)) (show 0 ≤ (u234.1 0 326).toInt ∧ (u234.1 0 326).toInt ≤ 420 from (om_73f5be2f84 i326216 q251 q252 q253 q254)) (show 0 ≤ (u234.1 0 373).toInt ∧ (u234.1 0 373).toInt ≤ 4000 from (om_0d95758d56 z373 q9 q10 q18 q37 q46 q76 q77 q78 q178 q179 q212 q213 q214 q220 q255 q256 q257 q258)) (show 0 ≤ (u234.1 0 381).toInt ∧ (u234.1 0 381).toInt ≤ 3008 from (om_6e4eb11ad3 i381230 q259)) (show L1.length = 40 from hL1) (show L2.length = 60 from hL2) (show RP u234 from ((show FC [305, 306, 307, 312, 313, 314, 315, 317, 321, 326, 331, 332, 381] [0, 311, 316, 318, 319, 320, 324, 325, 378, 379, 380] v u234 from (FC.tr (FC.tr (FC.tr (FC.tr (FC.tr (FC.tr (FC.tr (FC.tr (FC.tr (FC.tr (FC.tr (FC.tr (FC.tr (FC.tr (FC.tr (FC.tr (FC.tr (FC.tr (FC.rf _) (FC.up fr1 (by decide) (by decide))) (FC.up fr4 (by decide) (by decide))) (FC.up fr11 (by decide) (by decide))) (FC.up fr19 (by decide) (by decide))) (FC.up fr42 (by decide) (by decide))) (FC.up fr47 (by decide) (by decide))) (FC.up fr51 (by decide) (by decide))) (FC.up fr55 (by decide) (by decide))) (FC.up fr79 (by decide) (by decide))) (FC.up fr173 (by decide) (by decide))) (FC.up fr180 (by decide) (by decide))) (FC.up fr184 (by decide) (by decide))) (FC.up fr187 (by decide) (by decide))) (FC.up fr216 (by decide) (by decide))) (FC.up fr221 (by decide) (by decide))) (FC.up fr225 (by decide) (by decide))) (FC.up fr230 (by decide) (by decide))) (FC.up fr233 (by decide) (by decide)))).1 rp)) (show pr ps = ad 908 from hps) (show (u234.1 0 300) = ps from (Eq.trans (fr233.2.1 300 (by decide)) (Eq.trans (fr230.2.1 300 (by decide)) (Eq.trans (fr225.2.1 300 (by decide)) (Eq.trans (fr221.2.1 300 (by decide)) (Eq.trans (fr216.2.1 300 (by decide)) (Eq.trans (fr187.2.1 300 (by decide)) (Eq.trans (fr184.2.1 300 (by decide)) (Eq.trans (fr180.2.1 300 (by decide)) (Eq.trans (fr173.2.1 300 (by decide)) (Eq.trans (fr79.2.1 300 (by decide)) (Eq.trans (fr55.2.1 300 (by decide)) (Eq.trans (fr51.2.1 300 (by decide)) (Eq.trans (fr47.2.1 300 (by decide)) (Eq.trans (fr42.2.1 300 (by decide)) (Eq.trans (fr19.2.1 300 (by decide)) (Eq.trans (fr11.2.1 300 (by decide)) (Eq.trans (fr4.2.1 300 (by decide)) (Eq.trans (fr1.2.1 300 (by decide)) es300))))))))))))))))))) (show (u234.1 0 310) = ps from (Eq.trans (fr233.2.1 310 (by decide)) (Eq.trans (fr230.2.1 310 (by decide)) (Eq.trans (fr225.2.1 310 (by decide)) (Eq.trans (fr221.2.1 310 (by decide)) (Eq.trans (fr216.2.1 310 (by decide)) (Eq.trans (fr187.2.1 310 (by decide)) (Eq.trans (fr184.2.1 310 (by decide)) (Eq.trans (fr180.2.1 310 (by decide)) (Eq.trans (fr173.2.1 310 (by decide)) (Eq.trans (fr79.2.1 310 (by decide)) (Eq.trans (fr55.2.1 310 (by decide)) (Eq.trans (fr51.2.1 310 (by decide)) (Eq.trans (fr47.2.1 310 (by decide)) (Eq.trans (fr42.2.1 310 (by decide)) (Eq.trans (fr19.2.1 310 (by decide)) (Eq.trans (fr11.2.1 310 (by decide)) (Eq.trans (fr4.2.1 310 (by decide)) (Eq.trans (fr1.2.1 310 (by decide)) es310))))))))))))))))))) (show l.stackTraces = false from hst) (show 40 ≤ (u234.1 0 306).toInt + (n : Int) from (om_f00cfc2b26 zn q15 q16 q17 pj19 po42 q63 q64 q65 po79 q195 q196 q197 q198 po216 q224 pj225 q240 q241))) tw_619 tw_620 (by decide +kernel) rfl rfl ⟨show (8 * n + 41) + 1 ≤ 8 * n + 42 from om_3aa7ceaff2, show 8 + (3 + 11) + 28 * (8 * n + 41) ≤ 28 * (8 * n + 42) from om_b94a2b0ad7⟩ (List.range (cW ad pr N cI cR L1 L2 u234).length) (rg_map _) (nd_range _) 3 rfl rfl rfl rfl hl.1 rfl (Nat.le_of_ble_eq_true rfl) dX5_forRest_164 ⟨Nat.le_of_ble_eq_true rfl, Nat.le_of_ble_eq_true rfl⟩) hP hD hS hA (fun u9 ce9 q9 H locs hx9 hP hD hS hc9 hv9 hf9 => ?_) (fun u261 H locs hw260 hP hD hS hz8 => ?_)
    · exact vx_out (fun x h9 => (hnt x h9).elim) hlocks hc9 hv9 hf9 (fun t9 ht9 hv8 => ⟨u9, ⟨FC.tr (FC.tr (FC.tr (FC.tr (FC.tr (FC.tr (FC.tr (FC.tr (FC.tr (FC.tr (FC.tr (FC.tr (FC.tr (FC.tr (FC.tr (FC.tr (FC.tr (FC.tr (FC.tr (FC.rf _) (FC.up fr1 (by decide) (by decide))) (FC.up fr4 (by decide) (by decide))) (FC.up fr11 (by decide) (by decide))) (FC.up fr19 (by decide) (by decide))) (FC.up fr42 (by decide) (by decide))) (FC.up fr47 (by decide) (by decide))) (FC.up fr51 (by decide) (by decide))) (FC.up fr55 (by decide) (by decide))) (FC.up fr79 (by decide) (by decide))) (FC.up fr173 (by decide) (by decide))) (FC.up fr180 (by decide) (by decide))) (FC.up fr184 (by decide) (by decide))) (FC.up fr187 (by decide) (by decide))) (FC.up fr216 (by decide) (by decide))) (FC.up fr221 (by decide) (by decide))) (FC.up fr225 (by decide) (by decide))) (FC.up fr230 (by decide) (by decide))) (FC.up fr233 (by decide) (by decide))) hx9.1, hx9.2⟩, ⟨rfl, by rw [ht9]; exact hP, hD⟩, hS.F ht9⟩) hS.2.2 (Nat.le_refl _) (Nat.le_refl _)
    refine W.shrink (hz8.trans hz9) ?_
    obtain ⟨fr260, i306260, i312260, i321260, i326260, i381260, po260⟩ := hw260
    have i306260 : 0 ≤ (u261.1 0 306).toInt ∧ (u261.1 0 306).toInt ≤ 40 := i306260
    have i312260 : 0 ≤ (u261.1 0 312).toInt ∧ (u261.1 0 312).toInt ≤ 500 := i312260
    have i321260 : 0 ≤ (u261.1 0 321).toInt ∧ (u261.1 0 321).toInt ≤ 501 := i321260
    have i326260 : 0 ≤ (u261.1 0 326).toInt ∧ (u261.1 0 326).toInt ≤ 420 := i326260
    have i381260 : 0 ≤ (u261.1 0 381).toInt ∧ (u261.1 0 381).toInt ≤ 3008 := i381260
    have po260 : (u261.1 0 306).toInt = (u234.1 0 306).toInt := po260
    refine lv_aload_n hx hb dX5_forRest_167 rfl (lv_at hl 2 rfl) ?_
    refine va_get (D := (dC, dI)) (ci := 8) (fs := oF_X5 ad pr u261) (v := .ref (ad 901)) (C := RX5) (T := TX5) (N := 7) hx hb ht itX5 hown hK hP 3 rfl rfl 2 (by decide) (ht _ tw_573) (fun _ h9 => h9) rfl dX5_forRest_168 ?_
    refine lv_bipush (v := 19) hx hb dX5_forRest_171 (by decide) ?_
    refine lv_aload_n hx hb dX5_forRest_173 rfl (lv_at hl 2 rfl) ?_
    refine va_get (D := (dC, dI)) (ci := 8) (fs := oF_X5 ad pr u261) (v := .int (u261.1 0 332)) (C := RX5) (T := TX5) (N := 7) hx hb ht itX5 hown hK hP 3 rfl rfl 5 (by decide) (ht _ tw_614) (fun _ h9 => h9) rfl dX5_forRest_174 ?_
    refine lv_iconst (v := 0) hx hb dX5_forRest_177 (by decide) ?_
    refine cu_v (rn_Vk (n := 3) (As := [.int 19, .int (u261.1 0 332), .int 0]) (rest := []) hx hb hml hown ht hKK hFx hP hD hS hA (c_x_X1_add l dC dI cI cB cZ cJ cR tb H.size ad pr N L1 L2 u261 (19 : Int32) (u261.1 0 332) (0 : Int32) ps (show 0 ≤ (u261.1 0 381).toInt ∧ (u261.1 0 381).toInt ≤ 3008 from (om_e78eec72e1 i381260)) (show pr ps = ad 908 from hps) (show (u261.1 0 310) = ps from (Eq.trans (fr260.2.1 310 (by decide)) (Eq.trans (fr233.2.1 310 (by decide)) (Eq.trans (fr230.2.1 310 (by decide)) (Eq.trans (fr225.2.1 310 (by decide)) (Eq.trans (fr221.2.1 310 (by decide)) (Eq.trans (fr216.2.1 310 (by decide)) (Eq.trans (fr187.2.1 310 (by decide)) (Eq.trans (fr184.2.1 310 (by decide)) (Eq.trans (fr180.2.1 310 (by decide)) (Eq.trans (fr173.2.1 310 (by decide)) (Eq.trans (fr79.2.1 310 (by decide)) (Eq.trans (fr55.2.1 310 (by decide)) (Eq.trans (fr51.2.1 310 (by decide)) (Eq.trans (fr47.2.1 310 (by decide)) (Eq.trans (fr42.2.1 310 (by decide)) (Eq.trans (fr19.2.1 310 (by decide)) (Eq.trans (fr11.2.1 310 (by decide)) (Eq.trans (fr4.2.1 310 (by decide)) (Eq.trans (fr1.2.1 310 (by decide)) es310))))))))))))))))))))) tw_499 tw_592 (by decide +kernel) rfl rfl ⟨show 0 + 1 ≤ 8 * n + 42 from om_7b3d5df7aa, show 8 + (5 + 11) + 0 ≤ 28 * (8 * n + 42) from om_a3857ee34e⟩ (List.range (cW ad pr N cI cR L1 L2 u261).length) (rg_map _) (nd_range _) 1 rfl rfl rfl rfl hl.1 rfl (Nat.le_of_ble_eq_true rfl) dX5_forRest_178 ⟨Nat.le_of_ble_eq_true rfl, Nat.le_of_ble_eq_true rfl⟩) hP hD hS hA (fun u264 H locs hw263 hP hD hS => ?_)
    obtain ⟨fr263, i381263⟩ := hw263
    have i381263 : 0 ≤ (u264.1 0 381).toInt ∧ (u264.1 0 381).toInt ≤ 3008 := i381263
    refine W.widen (k := 0) (n := 0) (Nat.le_refl _) (Nat.le_refl _) ?_
    have q266 : (u264.1 0 306).toInt = (u261.1 0 306).toInt := congrArg Int32.toInt ((fr263.2.1 306 (by decide)).trans (show u261.1 0 306 = (u261.1 0 306) by rfl))
    have q267 : (u264.1 0 312).toInt = (u261.1 0 312).toInt := congrArg Int32.toInt ((fr263.2.1 312 (by decide)).trans (show u261.1 0 312 = (u261.1 0 312) by rfl))
    have q268 : (u264.1 0 321).toInt = (u261.1 0 321).toInt := congrArg Int32.toInt ((fr263.2.1 321 (by decide)).trans (show u261.1 0 321 = (u261.1 0 321) by rfl))
    have q269 : (u264.1 0 326).toInt = (u261.1 0 326).toInt := congrArg Int32.toInt ((fr263.2.1 326 (by decide)).trans (show u261.1 0 326 = (u261.1 0 326) by rfl))
    refine W.sz (fun hz => ?_)
    refine vx_ret ?_
    refine W.widen (k := 1) (n := 6) (Nat.le_of_ble_eq_true rfl) (Nat.le_of_ble_eq_true rfl) ?_
    exact W.vret hx hb hr (fun t ht9 hW => ⟨⟨u264, rfl, ⟨(FC.tr (FC.tr (FC.tr (FC.tr (FC.tr (FC.tr (FC.tr (FC.tr (FC.tr (FC.tr (FC.tr (FC.tr (FC.tr (FC.tr (FC.tr (FC.tr (FC.tr (FC.tr (FC.tr (FC.tr (FC.rf _) (FC.up fr1 (by decide) (by decide))) (FC.up fr4 (by decide) (by decide))) (FC.up fr11 (by decide) (by decide))) (FC.up fr19 (by decide) (by decide))) (FC.up fr42 (by decide) (by decide))) (FC.up fr47 (by decide) (by decide))) (FC.up fr51 (by decide) (by decide))) (FC.up fr55 (by decide) (by decide))) (FC.up fr79 (by decide) (by decide))) (FC.up fr173 (by decide) (by decide))) (FC.up fr180 (by decide) (by decide))) (FC.up fr184 (by decide) (by decide))) (FC.up fr187 (by decide) (by decide))) (FC.up fr216 (by decide) (by decide))) (FC.up fr221 (by decide) (by decide))) (FC.up fr225 (by decide) (by decide))) (FC.up fr230 (by decide) (by decide))) (FC.up fr233 (by decide) (by decide))) (FC.up fr260 (by decide) (by decide))) (FC.up fr263 (by decide) (by decide))), (show 0 ≤ (u264.1 0 306).toInt ∧ (u264.1 0 306).toInt ≤ 40 from (om_99e115f631 i306260 q266)), (show 0 ≤ (u264.1 0 312).toInt ∧ (u264.1 0 312).toInt ≤ 500 from (om_f8376ff89c i312260 q267)), (show 0 ≤ (u264.1 0 321).toInt ∧ (u264.1 0 321).toInt ≤ 501 from (om_ff27494c0e i321260 q268)), (show 0 ≤ (u264.1 0 326).toInt ∧ (u264.1 0 326).toInt ≤ 420 from (om_8ed0dedb19 i326260 q269)), (show 0 ≤ (u264.1 0 381).toInt ∧ (u264.1 0 381).toInt ≤ 3008 from (om_e78eec72e1 i381263)), (show (u264.1 0 306).toInt = (v.1 0 306).toInt from (om_35df07069e q15 q16 q17 pj19 po42 q63 q64 q65 po79 q195 q196 q197 q198 po216 q224 pj225 q240 q241 po260 q266))⟩, ⟨by rw [ht9]; exact hP, hD⟩, by rw [ht9]; exact hz⟩, hS.F ht9⟩) hS.2.2 dX5_forRest_181
theorem om_c8df384e44 {n0 : Nat} : 7 + 1 ≤ 8 * n0 + 35 := by omega
theorem om_5e7b6cb3c8 {n0 : Nat} : 8 + (1 + 11) + 104 ≤ 28 * (8 * n0 + 35) := by omega
theorem om_414cf7965f {n0 n1 : Nat} (h0 : n0 = n1 + 1) : (8 * n1 + 41) + 1 ≤ 8 * n0 + 35 := by omega
theorem om_29d42f5339 {n0 n1 : Nat} (h0 : n0 = n1 + 1) : 8 + (2 + 11) + 28 * (8 * n1 + 41) ≤ 28 * (8 * n0 + 35) := by omega
theorem om_d492b1fc6c {n0 : Nat} : 8 + (2 + 11) + 104 ≤ 28 * (8 * n0 + 35) := by omega
theorem om_44e79b90a8 {n0 : Nat} : 0 + 1 ≤ 8 * n0 + 35 := by omega
theorem om_44671b5602 {n0 : Nat} : 8 + (1 + 11) + 0 ≤ 28 * (8 * n0 + 35) := by omega
set_option maxHeartbeats 16000000 in
set_option maxRecDepth 100000 in
theorem c_x_X5_block (l : Launch) (n : Nat) (ihS : ∀ m, n = m + 1 → Cq_stat l m) (dC : Nat → ClassId) (dI : Nat → Nat → Nat) (cI cB cZ cJ cR : ClassId) (tb : Nat → Nat) (sz : Nat) (ad : Nat → Nat) (pr : Int32 → Nat) (N : Nat) (L1 L2 : List Nat) (v : MS) (ps : Int32) (z304 : 0 ≤ (v.1 0 304).toInt ∧ (v.1 0 304).toInt ≤ 1503) (z306 : 0 ≤ (v.1 0 306).toInt ∧ (v.1 0 306).toInt ≤ 40) (z312 : 0 ≤ (v.1 0 312).toInt ∧ (v.1 0 312).toInt ≤ 500) (z321 : 0 ≤ (v.1 0 321).toInt ∧ (v.1 0 321).toInt ≤ 501) (z326 : 0 ≤ (v.1 0 326).toInt ∧ (v.1 0 326).toInt ≤ 420) (z373 : 0 ≤ (v.1 0 373).toInt ∧ (v.1 0 373).toInt ≤ 4000) (z381 : 0 ≤ (v.1 0 381).toInt ∧ (v.1 0 381).toInt ≤ 3008) (hL1 : L1.length = 40) (hL2 : L2.length = 60) (rp : RP v) (hps : pr ps = ad 908) (es300 : (v.1 0 300) = ps) (es310 : (v.1 0 310) = ps) (hst : l.stackTraces = false) (zn : 40 ≤ (v.1 0 306).toInt + (n : Int)) : vx_Met l yX5_block (Cond.code yX5_block cX5_block 3 none :: tw_W) ({ frames := 8 * n + 35, cells := 1, slots := 6, locals := 28 * (8 * n + 35) }) (pc_ (dC, dI) (tyS cI cB cZ cJ cR) tb (cW ad pr N cI cR L1 L2 v) sz [.ref (ad 903)]) (qvz_ (dC, dI) (cW ad pr N cI cR L1 L2 v) sz (fun (u : MS) => FC [305, 306, 307, 312, 313, 314, 315, 317, 321, 326, 331, 332, 381] [0, 311, 316, 318, 319, 320, 324, 325, 378, 379, 380] v u ∧ (0 ≤ (u.1 0 306).toInt ∧ (u.1 0 306).toInt ≤ 40) ∧ (0 ≤ (u.1 0 312).toInt ∧ (u.1 0 312).toInt ≤ 500) ∧ (0 ≤ (u.1 0 321).toInt ∧ (u.1 0 321).toInt ≤ 501) ∧ (0 ≤ (u.1 0 326).toInt ∧ (u.1 0 326).toInt ≤ 420) ∧ (0 ≤ (u.1 0 381).toInt ∧ (u.1 0 381).toInt ≤ 3008) ∧ ((u.1 0 306).toInt = (v.1 0 306).toInt)) (fun (u : MS) => (cW ad pr N cI cR L1 L2 u))) (qxc (dC, dI) (cW ad pr N cI cR L1 L2 v) sz (fun (u : MS) => (cW ad pr N cI cR L1 L2 u)) (fun (u : MS) => FC xfl xal v u ∧ (u.1 0 308).toInt ≠ 0)) 1 6 (va_A (cW ad pr N cI cR L1 L2 v) sz) := by
  refine vx_ofW (cc := cX5_block) (maxL := 3) (ret := none) (by decide) rfl ?_
  intro p e s m args below meth c s₁ B hml hnt hv
  obtain ⟨rfl, hsz, hP, hKK, hD0, hFx⟩ := hv
  have hK := hKK.1
  have hx := B.exec
  have hb := B.bytes
  have hr := B.returns
  have ht : ∀ w ∈ tw_W, w.before _ s = true := fun w h => atoms_spec (ws := Cond.code yX5_block cX5_block 3 none :: tw_W) B.pre w (List.mem_cons_of_mem _ h)
  have hown : s.vm.findClass RX5 = some m.cls := findClass_of_methodNamed B.named
  have hlocks := B.notSynchronized
  subst hsz
  unfold qvz_ qxc
  have hD := hD0.self (sz := s.heap.size)
  generalize hAe : va_A (cW ad pr N cI cR L1 L2 v) s.heap.size = A at hD hFx ⊢
  have hA : ∀ q : Nat, s.heap.size ≤ q → A q := fun q h => by rw [← hAe]; exact Or.inr h
  have hS : va_S A s.heap s.heap [] := va_S.rf
  have hl := lv_entry ([.ref (ad 903)]) (n := 3) (Nat.le_of_ble_eq_true rfl)
  rw [lg_entry_eq]
  generalize (lg_sl ([.ref (ad 903)]) ++ List.replicate (3 - (lg_sl ([.ref (ad 903)])).length) Slot.unset).toArray = ls at hl ⊢
  have hl : lv_has ls 3 [(0, .ref (ad 903))] := hl
  refine lv_aload_n hx hb dX5_block_0 rfl (lv_at hl 0 rfl) ?_
  refine va_get (D := (dC, dI)) (ci := 8) (fs := oF_X5 ad pr v) (v := .ref (ad 901)) (C := RX5) (T := TX5) (N := 7) hx hb ht itX5 hown hK hP 3 rfl rfl 2 (by decide) (ht _ tw_573) (fun _ h9 => h9) rfl dX5_block_1 ?_
  refine va_getN (D := (dC, dI)) (ci := 5) (fs := oF_X1 ad pr v) (v := .int (v.1 0 312)) (C := RX1) (T := TX1) (N := 12) hx hb ht itX1 hown hK hP 1 rfl rfl 2 (by decide) (hKK.fl2 4 rfl) (fun _ h9 => h9) rfl dX5_block_4 ?_
  refine lv_istore_n (lv' := [(1, .int (v.1 0 312)), (0, .ref (ad 903))]) hx hb dX5_block_7 rfl hl (by decide) rfl (fun ls hl => ?_)
  refine lv_aload_n hx hb dX5_block_8 rfl (lv_at hl 1 rfl) ?_
  refine va_get (D := (dC, dI)) (ci := 8) (fs := oF_X5 ad pr v) (v := .ref (ad 901)) (C := RX5) (T := TX5) (N := 7) hx hb ht itX5 hown hK hP 3 rfl rfl 2 (by decide) (ht _ tw_573) (fun _ h9 => h9) rfl dX5_block_9 ?_
  refine va_getN (D := (dC, dI)) (ci := 5) (fs := oF_X1 ad pr v) (v := .int (v.1 0 313)) (C := RX1) (T := TX1) (N := 12) hx hb ht itX1 hown hK hP 1 rfl rfl 3 (by decide) (hKK.fl2 5 rfl) (fun _ h9 => h9) rfl dX5_block_12 ?_
  refine lv_istore_n (lv' := [(2, .int (v.1 0 313)), (1, .int (v.1 0 312)), (0, .ref (ad 903))]) hx hb dX5_block_15 rfl hl (by decide) rfl (fun ls hl => ?_)
  refine lv_aload_n hx hb dX5_block_16 rfl (lv_at hl 2 rfl) ?_
  refine va_get (D := (dC, dI)) (ci := 8) (fs := oF_X5 ad pr v) (v := .ref (ad 901)) (C := RX5) (T := TX5) (N := 7) hx hb ht itX5 hown hK hP 3 rfl rfl 2 (by decide) (ht _ tw_573) (fun _ h9 => h9) rfl dX5_block_17 ?_
  refine lv_iload_n hx hb dX5_block_20 rfl (lv_at hl 1 rfl) ?_
  refine va_putN (D := (dC, dI)) (ci := 5) (fs := oF_X1 ad pr v) (v := .int (v.1 0 312)) (ty := .int) (C := RX1) (T := TX1) (N := 12) hx hb ht itX1 tyX1 tyX1_ok nmX1 hown hK hP hD hS 1 rfl rfl 3 (by decide) (hKK.fl2 5 rfl) (fun _ h9 => h9) rfl (by decide +kernel) rfl rfl (Nat.le_of_ble_eq_true rfl) dX5_block_21 (fun H locs hP hD hS => ?_)
  have hP := cP_ (cw_313 ad pr N cI cR L1 L2 v (v.1 0 312)) hP
  have hD := cD_ (cw_313 ad pr N cI cR L1 L2 v (v.1 0 312)) hD
  refine lv_aload_n hx hb dX5_block_24 rfl (lv_at hl 2 rfl) ?_
  refine va_get (D := (dC, dI)) (ci := 8) (fs := oF_X5 ad pr (wA v 0 313 (v.1 0 312))) (v := .ref (ad 900)) (C := RX5) (T := TX5) (N := 7) hx hb ht itX5 hown hK hP 3 rfl rfl 1 (by decide) (ht _ tw_571) (fun _ h9 => h9) rfl dX5_block_25 ?_
  refine W.sz (fun hz9 => ?_)
  refine czx_v (rx_Vk (n := 0) (As := []) (rest := []) hx hb hml hown ht hKK hFx hP hD hS hA (c_x_X9_open l dC dI cI cB cZ cJ cR tb H.size ad pr N L1 L2 (wA v 0 313 (v.1 0 312)) ps (show 0 ≤ (v.1 0 304).toInt ∧ (v.1 0 304).toInt ≤ 1503 from (om_c99648273b z304)) (show 0 ≤ (v.1 0 306).toInt ∧ (v.1 0 306).toInt ≤ 40 from (om_7eaf33e007 z306)) (show 0 ≤ (v.1 0 373).toInt ∧ (v.1 0 373).toInt ≤ 4000 from (om_c74a68af25 z373)) (show pr ps = ad 908 from hps) (show (v.1 0 300) = ps from es300) (show l.stackTraces = false from hst)) tw_524 tw_593 (by decide +kernel) rfl rfl ⟨show 7 + 1 ≤ 8 * n + 35 from om_c8df384e44, show 8 + (1 + 11) + 104 ≤ 28 * (8 * n + 35) from om_5e7b6cb3c8⟩ (List.range (cW ad pr N cI cR L1 L2 (wA v 0 313 (v.1 0 312))).length) (rg_map _) (nd_range _) 0 rfl rfl rfl rfl hl.1 rfl (Nat.le_of_ble_eq_true rfl) dX5_block_28 ⟨Nat.le_of_ble_eq_true rfl, Nat.le_of_ble_eq_true rfl⟩) hP hD hS hA (fun u9 ce9 q9 H locs hx9 hP hD hS hc9 hv9 hf9 => ?_) (fun u2 H locs hw1 hP hD hS hz8 => ?_)
  · exact vx_out (fun x h9 => (hnt x h9).elim) hlocks hc9 hv9 hf9 (fun t9 ht9 hv8 => ⟨u9, ⟨FC.tr (FC.f (FC.rf _) (v.1 0 312) (by decide)) hx9.1, hx9.2⟩, ⟨rfl, by rw [ht9]; exact hP, hD⟩, hS.F ht9⟩) hS.2.2 (Nat.le_refl _) (Nat.le_refl _)
  refine W.shrink (hz8.trans hz9) ?_
  obtain ⟨fr1, i3061, pj1⟩ := hw1
  have i3061 : 0 ≤ (u2.1 0 306).toInt ∧ (u2.1 0 306).toInt ≤ 40 := i3061
  have pj1 : (u2.1 0 306).toInt = (v.1 0 306).toInt + 1 := pj1
  refine lv_aload_n hx hb dX5_block_31 rfl (lv_at hl 2 rfl) ?_
  obtain ⟨n4, hn5⟩ : ∃ m, n = m + 1 := ex_z (om_ca6f0c0f01 zn i3061 pj1)
  have q6 : (u2.1 0 304).toInt = (v.1 0 304).toInt := congrArg Int32.toInt ((fr1.2.1 304 (by decide)).trans (show (wA v 0 313 (v.1 0 312)).1 0 304 = (v.1 0 304) by rfl))
  have q7 : (u2.1 0 312).toInt = (v.1 0 312).toInt := congrArg Int32.toInt ((fr1.2.1 312 (by decide)).trans (show (wA v 0 313 (v.1 0 312)).1 0 312 = (v.1 0 312) by rfl))
  have q8 : (u2.1 0 321).toInt = (v.1 0 321).toInt := congrArg Int32.toInt ((fr1.2.1 321 (by decide)).trans (show (wA v 0 313 (v.1 0 312)).1 0 321 = (v.1 0 321) by rfl))
  have q9 : (u2.1 0 326).toInt = (v.1 0 326).toInt := congrArg Int32.toInt ((fr1.2.1 326 (by decide)).trans (show (wA v 0 313 (v.1 0 312)).1 0 326 = (v.1 0 326) by rfl))
  have q10 : (u2.1 0 373).toInt = (v.1 0 373).toInt := congrArg Int32.toInt ((fr1.2.1 373 (by decide)).trans (show (wA v 0 313 (v.1 0 312)).1 0 373 = (v.1 0 373) by rfl))
  have q11 : (u2.1 0 381).toInt = (v.1 0 381).toInt := congrArg Int32.toInt ((fr1.2.1 381 (by decide)).trans (show (wA v 0 313 (v.1 0 312)).1 0 381 = (v.1 0 381) by rfl))
  refine W.sz (fun hz9 => ?_)
  refine czx_v (rx_Vk (n := 0) (As := []) (rest := []) hx hb hml hown ht hKK hFx hP hD hS hA (c_x_X5_stats l n4 (ihS n4 hn5) dC dI cI cB cZ cJ cR tb H.size ad pr N L1 L2 u2 ps (show 0 ≤ (u2.1 0 304).toInt ∧ (u2.1 0 304).toInt ≤ 1503 from (om_73002589c1 z304 q6)) (show 0 ≤ (u2.1 0 306).toInt ∧ (u2.1 0 306).toInt ≤ 40 from (om_31a8ca9d36 z306 i3061 pj1)) (show 0 ≤ (u2.1 0 312).toInt ∧ (u2.1 0 312).toInt ≤ 500 from (om_f8376ff89c z312 q7)) (show 0 ≤ (u2.1 0 321).toInt ∧ (u2.1 0 321).toInt ≤ 501 from (om_ff27494c0e z321 q8)) (show 0 ≤ (u2.1 0 326).toInt ∧ (u2.1 0 326).toInt ≤ 420 from (om_8ed0dedb19 z326 q9)) (show 0 ≤ (u2.1 0 373).toInt ∧ (u2.1 0 373).toInt ≤ 4000 from (om_9084c127ed z373 q10)) (show 0 ≤ (u2.1 0 381).toInt ∧ (u2.1 0 381).toInt ≤ 3008 from (om_6e4eb11ad3 z381 q11)) (show L1.length = 40 from hL1) (show L2.length = 60 from hL2) (show RP u2 from ((show FC [305, 306, 307, 312, 313, 314, 315, 317, 321, 326, 331, 332, 381] [0, 311, 316, 318, 319, 320, 324, 325, 378, 379, 380] v u2 from (FC.tr (FC.f (FC.rf _) (v.1 0 312) (by decide)) (FC.up fr1 (by decide) (by decide)))).1 rp)) (show pr ps = ad 908 from hps) (show (u2.1 0 300) = ps from (Eq.trans (fr1.2.1 300 (by decide)) es300)) (show (u2.1 0 310) = ps from (Eq.trans (fr1.2.1 310 (by decide)) es310)) (show l.stackTraces = false from hst) (show 40 ≤ (u2.1 0 306).toInt + (n4 : Int) from (om_5c65d2983c zn pj1 hn5))) tw_624 tw_625 (by decide +kernel) rfl rfl ⟨show (8 * n4 + 41) + 1 ≤ 8 * n + 35 from (om_414cf7965f hn5), show 8 + (2 + 11) + 28 * (8 * n4 + 41) ≤ 28 * (8 * n + 35) from (om_29d42f5339 hn5)⟩ (List.range (cW ad pr N cI cR L1 L2 u2).length) (rg_map _) (nd_range _) 3 rfl rfl rfl rfl hl.1 rfl (Nat.le_of_ble_eq_true rfl) dX5_block_32 ⟨Nat.le_of_ble_eq_true rfl, Nat.le_of_ble_eq_true rfl⟩) hP hD hS hA (fun u9 ce9 q9 H locs hx9 hP hD hS hc9 hv9 hf9 => ?_) (fun u13 H locs hw12 hP hD hS hz8 => ?_)
  · exact vx_out (fun x h9 => (hnt x h9).elim) hlocks hc9 hv9 hf9 (fun t9 ht9 hv8 => ⟨u9, ⟨FC.tr (FC.tr (FC.f (FC.rf _) (v.1 0 312) (by decide)) (FC.up fr1 (by decide) (by decide))) hx9.1, hx9.2⟩, ⟨rfl, by rw [ht9]; exact hP, hD⟩, hS.F ht9⟩) hS.2.2 (Nat.le_refl _) (Nat.le_refl _)
  refine W.shrink (hz8.trans hz9) ?_
  obtain ⟨fr12, i30612, i31212, i32112, i32612, i38112, po12⟩ := hw12
  have i30612 : 0 ≤ (u13.1 0 306).toInt ∧ (u13.1 0 306).toInt ≤ 40 := i30612
  have i31212 : 0 ≤ (u13.1 0 312).toInt ∧ (u13.1 0 312).toInt ≤ 500 := i31212
  have i32112 : 0 ≤ (u13.1 0 321).toInt ∧ (u13.1 0 321).toInt ≤ 501 := i32112
  have i32612 : 0 ≤ (u13.1 0 326).toInt ∧ (u13.1 0 326).toInt ≤ 420 := i32612
  have i38112 : 0 ≤ (u13.1 0 381).toInt ∧ (u13.1 0 381).toInt ≤ 3008 := i38112
  have po12 : (u13.1 0 306).toInt = (u2.1 0 306).toInt := po12
  refine lv_aload_n hx hb dX5_block_35 rfl (lv_at hl 2 rfl) ?_
  refine va_get (D := (dC, dI)) (ci := 8) (fs := oF_X5 ad pr u13) (v := .ref (ad 900)) (C := RX5) (T := TX5) (N := 7) hx hb ht itX5 hown hK hP 3 rfl rfl 1 (by decide) (ht _ tw_571) (fun _ h9 => h9) rfl dX5_block_36 ?_
  refine lv_bipush (v := 33) hx hb dX5_block_39 (by decide) ?_
  have q15 : (u13.1 0 304).toInt = (u2.1 0 304).toInt := congrArg Int32.toInt ((fr12.2.1 304 (by decide)).trans (show u2.1 0 304 = (u2.1 0 304) by rfl))
  have q16 : (u13.1 0 373).toInt = (u2.1 0 373).toInt := congrArg Int32.toInt ((fr12.2.1 373 (by decide)).trans (show u2.1 0 373 = (u2.1 0 373) by rfl))
  refine W.sz (fun hz9 => ?_)
  refine czx_v (rx_Vk (n := 1) (As := [.int 33]) (rest := []) hx hb hml hown ht hKK hFx hP hD hS hA (c_x_X9_expect l dC dI cI cB cZ cJ cR tb H.size ad pr N L1 L2 u13 (33 : Int32) ps (show 0 ≤ (u13.1 0 304).toInt ∧ (u13.1 0 304).toInt ≤ 1503 from (om_dd87ee851a z304 q6 q15)) (show 0 ≤ (u13.1 0 373).toInt ∧ (u13.1 0 373).toInt ≤ 4000 from (om_03cd8767ac z373 q10 q16)) (show pr ps = ad 908 from hps) (show (u13.1 0 300) = ps from (Eq.trans (fr12.2.1 300 (by decide)) (Eq.trans (fr1.2.1 300 (by decide)) es300))) (show l.stackTraces = false from hst)) tw_526 tw_580 (by decide +kernel) rfl rfl ⟨show 7 + 1 ≤ 8 * n + 35 from om_c8df384e44, show 8 + (2 + 11) + 104 ≤ 28 * (8 * n + 35) from om_d492b1fc6c⟩ (List.range (cW ad pr N cI cR L1 L2 u13).length) (rg_map _) (nd_range _) 0 rfl rfl rfl rfl hl.1 rfl (Nat.le_of_ble_eq_true rfl) dX5_block_41 ⟨Nat.le_of_ble_eq_true rfl, Nat.le_of_ble_eq_true rfl⟩) hP hD hS hA (fun u9 ce9 q9 H locs hx9 hP hD hS hc9 hv9 hf9 => ?_) (fun u18 H locs hw17 hP hD hS hz8 => ?_)
  · exact vx_out (fun x h9 => (hnt x h9).elim) hlocks hc9 hv9 hf9 (fun t9 ht9 hv8 => ⟨u9, ⟨FC.tr (FC.tr (FC.tr (FC.f (FC.rf _) (v.1 0 312) (by decide)) (FC.up fr1 (by decide) (by decide))) (FC.up fr12 (by decide) (by decide))) hx9.1, hx9.2⟩, ⟨rfl, by rw [ht9]; exact hP, hD⟩, hS.F ht9⟩) hS.2.2 (Nat.le_refl _) (Nat.le_refl _)
  refine W.shrink (hz8.trans hz9) ?_
  have fr17 := hw17
  refine lv_aload_n hx hb dX5_block_44 rfl (lv_at hl 2 rfl) ?_
  refine va_get (D := (dC, dI)) (ci := 8) (fs := oF_X5 ad pr u18) (v := .ref (ad 900)) (C := RX5) (T := TX5) (N := 7) hx hb ht itX5 hown hK hP 3 rfl rfl 1 (by decide) (ht _ tw_571) (fun _ h9 => h9) rfl dX5_block_45 ?_
  have q20 : (u18.1 0 306).toInt = (u13.1 0 306).toInt := congrArg Int32.toInt ((fr17.2.1 306 (by decide)).trans (show u13.1 0 306 = (u13.1 0 306) by rfl))
  refine cu_v (rn_Vk (n := 0) (As := []) (rest := []) hx hb hml hown ht hKK hFx hP hD hS hA (c_x_X9_close l dC dI cI cB cZ cJ cR tb H.size ad pr N L1 L2 u18  (show 0 ≤ (u18.1 0 306).toInt ∧ (u18.1 0 306).toInt ≤ 40 from (om_d6433c88a8 z306 pj1 i30612 po12 q20)) (show 1 ≤ (u18.1 0 306).toInt from (om_22aff8ea1a z306 pj1 po12 q20))) tw_528 tw_595 (by decide +kernel) rfl rfl ⟨show 0 + 1 ≤ 8 * n + 35 from om_44e79b90a8, show 8 + (1 + 11) + 0 ≤ 28 * (8 * n + 35) from om_44671b5602⟩ (List.range (cW ad pr N cI cR L1 L2 u18).length) (rg_map _) (nd_range _) 0 rfl rfl rfl rfl hl.1 rfl (Nat.le_of_ble_eq_true rfl) dX5_block_48 ⟨Nat.le_of_ble_eq_true rfl, Nat.le_of_ble_eq_true rfl⟩) hP hD hS hA (fun u22 H locs hw21 hP hD hS => ?_)
  obtain ⟨fr21, i30621, pj21⟩ := hw21
  have i30621 : 0 ≤ (u22.1 0 306).toInt ∧ (u22.1 0 306).toInt ≤ 40 := i30621
  have pj21 : (u22.1 0 306).toInt = (u18.1 0 306).toInt - 1 := pj21
  refine W.widen (k := 0) (n := 0) (Nat.le_refl _) (Nat.le_refl _) ?_
  refine lv_aload_n hx hb dX5_block_51 rfl (lv_at hl 2 rfl) ?_
  refine va_get (D := (dC, dI)) (ci := 8) (fs := oF_X5 ad pr u22) (v := .ref (ad 901)) (C := RX5) (T := TX5) (N := 7) hx hb ht itX5 hown hK hP 3 rfl rfl 2 (by decide) (ht _ tw_573) (fun _ h9 => h9) rfl dX5_block_52 ?_
  refine lv_iload_n hx hb dX5_block_55 rfl (lv_at hl 1 rfl) ?_
  refine va_putN (D := (dC, dI)) (ci := 5) (fs := oF_X1 ad pr u22) (v := .int (v.1 0 312)) (ty := .int) (C := RX1) (T := TX1) (N := 12) hx hb ht itX1 tyX1 tyX1_ok nmX1 hown hK hP hD hS 1 rfl rfl 2 (by decide) (hKK.fl2 4 rfl) (fun _ h9 => h9) rfl (by decide +kernel) rfl rfl (Nat.le_of_ble_eq_true rfl) dX5_block_56 (fun H locs hP hD hS => ?_)
  have hP := cP_ (cw_312 ad pr N cI cR L1 L2 u22 (v.1 0 312)) hP
  have hD := cD_ (cw_312 ad pr N cI cR L1 L2 u22 (v.1 0 312)) hD
  refine lv_aload_n hx hb dX5_block_59 rfl (lv_at hl 2 rfl) ?_
  refine va_get (D := (dC, dI)) (ci := 8) (fs := oF_X5 ad pr (wA u22 0 312 (v.1 0 312))) (v := .ref (ad 901)) (C := RX5) (T := TX5) (N := 7) hx hb ht itX5 hown hK hP 3 rfl rfl 2 (by decide) (ht _ tw_573) (fun _ h9 => h9) rfl dX5_block_60 ?_
  refine lv_iload_n hx hb dX5_block_63 rfl (lv_at hl 0 rfl) ?_
  refine va_putN (D := (dC, dI)) (ci := 5) (fs := oF_X1 ad pr (wA u22 0 312 (v.1 0 312))) (v := .int (v.1 0 313)) (ty := .int) (C := RX1) (T := TX1) (N := 12) hx hb ht itX1 tyX1 tyX1_ok nmX1 hown hK hP hD hS 1 rfl rfl 3 (by decide) (hKK.fl2 5 rfl) (fun _ h9 => h9) rfl (by decide +kernel) rfl rfl (Nat.le_of_ble_eq_true rfl) dX5_block_64 (fun H locs hP hD hS => ?_)
  have hP := cP_ (cw_313 ad pr N cI cR L1 L2 (wA u22 0 312 (v.1 0 312)) (v.1 0 313)) hP
  have hD := cD_ (cw_313 ad pr N cI cR L1 L2 (wA u22 0 312 (v.1 0 312)) (v.1 0 313)) hD
  have q24 : (u18.1 0 321).toInt = (u13.1 0 321).toInt := congrArg Int32.toInt ((fr17.2.1 321 (by decide)).trans (show u13.1 0 321 = (u13.1 0 321) by rfl))
  have q25 : (u22.1 0 321).toInt = (u18.1 0 321).toInt := congrArg Int32.toInt ((fr21.2.1 321 (by decide)).trans (show u18.1 0 321 = (u18.1 0 321) by rfl))
  have q26 : (u18.1 0 326).toInt = (u13.1 0 326).toInt := congrArg Int32.toInt ((fr17.2.1 326 (by decide)).trans (show u13.1 0 326 = (u13.1 0 326) by rfl))
  have q27 : (u22.1 0 326).toInt = (u18.1 0 326).toInt := congrArg Int32.toInt ((fr21.2.1 326 (by decide)).trans (show u18.1 0 326 = (u18.1 0 326) by rfl))
  have q28 : (u18.1 0 381).toInt = (u13.1 0 381).toInt := congrArg Int32.toInt ((fr17.2.1 381 (by decide)).trans (show u13.1 0 381 = (u13.1 0 381) by rfl))
  have q29 : (u22.1 0 381).toInt = (u18.1 0 381).toInt := congrArg Int32.toInt ((fr21.2.1 381 (by decide)).trans (show u18.1 0 381 = (u18.1 0 381) by rfl))
  refine W.sz (fun hz => ?_)
  refine vx_ret ?_
  refine W.widen (k := 1) (n := 6) (Nat.le_of_ble_eq_true rfl) (Nat.le_of_ble_eq_true rfl) ?_
  exact W.vret hx hb hr (fun t ht9 hW => ⟨⟨(wA (wA u22 0 312 (v.1 0 312)) 0 313 (v.1 0 313)), rfl, ⟨(FC.f (FC.f (FC.tr (FC.tr (FC.tr (FC.tr (FC.f (FC.rf _) (v.1 0 312) (by decide)) (FC.up fr1 (by decide) (by decide))) (FC.up fr12 (by decide) (by decide))) (FC.up fr17 (by decide) (by decide))) (FC.up fr21 (by decide) (by decide))) (v.1 0 312) (by decide)) (v.1 0 313) (by decide)), (show 0 ≤ (u22.1 0 306).toInt ∧ (u22.1 0 306).toInt ≤ 40 from (om_7eaf33e007 i30621)), (show 0 ≤ (v.1 0 312).toInt ∧ (v.1 0 312).toInt ≤ 500 from (om_9861e69da5 z312)), (show 0 ≤ (u22.1 0 321).toInt ∧ (u22.1 0 321).toInt ≤ 501 from (om_4dfa815534 i32112 q24 q25)), (show 0 ≤ (u22.1 0 326).toInt ∧ (u22.1 0 326).toInt ≤ 420 from (om_9591dea625 i32612 q26 q27)), (show 0 ≤ (u22.1 0 381).toInt ∧ (u22.1 0 381).toInt ≤ 3008 from (om_769192f2a4 i38112 q28 q29)), (show (u22.1 0 306).toInt = (v.1 0 306).toInt from (om_4fee7d990b pj1 po12 q20 pj21))⟩, ⟨by rw [ht9]; exact hP, hD⟩, by rw [ht9]; exact hz⟩, hS.F ht9⟩) hS.2.2 dX5_block_67
theorem om_50d282ed28 {n0 n1 : Nat} (h0 : n0 = n1 + 1) : (8 * n1 + 14) + 1 ≤ 8 * n0 + 35 := by omega
theorem om_fe32149f57 {n0 n1 : Nat} (h0 : n0 = n1 + 1) : 8 + (1 + 11) + 28 * (8 * n1 + 14) ≤ 28 * (8 * n0 + 35) := by omega
theorem om_8591f594e6 {n0 : Nat} : 8 + (5 + 11) + 0 ≤ 28 * (8 * n0 + 35) := by omega
theorem om_2f4f9218db {x0 x2 x3 x4 x5 : Int} {n1 n6 : Nat} (h0 : 40 ≤ x0 + (n1 : Int)) (h1 : x2 = x0) (h2 : x3 = x2 + 1) (h3 : x4 = x3) (h4 : x5 = x4) (h5 : n1 = n6 + 1) : 40 ≤ x5 + (n6 : Int) := by omega
theorem om_8d15d0cb3c {n0 n1 : Nat} (h0 : n0 = n1 + 1) : 8 + (3 + 11) + 28 * (8 * n1 + 41) ≤ 28 * (8 * n0 + 35) := by omega
theorem om_9288fa5c58 {n0 : Nat} : 8 + (2 + 11) + 0 ≤ 28 * (8 * n0 + 35) := by omega
theorem om_3de73bafc8 {x0 x1 x2 x3 x4 x5 x6 : Int} (h0 : 0 ≤ x0 ∧ x0 ≤ 40) (h1 : x1 = x0) (h2 : x2 = x1 + 1) (h3 : x3 = x2) (h4 : x4 = x3) (h5 : x5 = x4) (h6 : x6 = x5) : 1 ≤ x6 := by omega
theorem om_032fcbe1d4 {x0 x1 x2 x3 x4 x5 x6 x7 : Int} (h0 : x0 = x1) (h1 : x2 = x0 + 1) (h2 : x3 = x2) (h3 : x4 = x3) (h4 : x5 = x4) (h5 : x6 = x5) (h6 : x7 = x6 - 1) : x7 = x1 := by omega
theorem om_67dd9b4ab9 {x0 x1 x2 x3 x4 x5 x6 x7 x8 x9 : Int} (h0 : 0 ≤ x0 ∧ x0 ≤ 40) (h1 : x1 = x0) (h2 : x2 = x1 + 1) (h3 : x3 = x2) (h4 : x4 = x3) (h5 : 0 ≤ x5 ∧ x5 ≤ 40) (h6 : x5 = x4) (h7 : x6 = x5) (h8 : x7 = x6) (h9 : x8 = x7) (h10 : x9 = x8) : 0 ≤ x9 ∧ x9 ≤ 40 := by omega
theorem om_148ff8167b {x0 x2 x3 x4 x5 x6 x7 x8 x9 x10 : Int} {n1 n11 : Nat} (h0 : 40 ≤ x0 + (n1 : Int)) (h1 : x2 = x0) (h2 : x3 = x2 + 1) (h3 : x4 = x3) (h4 : x5 = x4) (h5 : x6 = x5) (h6 : x7 = x6) (h7 : x8 = x7) (h8 : x9 = x8) (h9 : x10 = x9) (h10 : n1 = n11 + 1) : 40 ≤ x10 + (n11 : Int) := by omega
theorem om_05a978f2d0 {x0 x1 x2 x3 x4 x5 x6 x7 x8 x9 x10 x11 : Int} (h0 : 0 ≤ x0 ∧ x0 ≤ 40) (h1 : x1 = x0) (h2 : x2 = x1 + 1) (h3 : x3 = x2) (h4 : x4 = x3) (h5 : x5 = x4) (h6 : x6 = x5) (h7 : x7 = x6) (h8 : x8 = x7) (h9 : x9 = x8) (h10 : x10 = x9) (h11 : x11 = x10) : 1 ≤ x11 := by omega
theorem om_82d5a1e88b {x0 x1 x2 x3 x4 x5 x6 x7 x8 x9 x10 x11 x12 : Int} (h0 : x0 = x1) (h1 : x2 = x0 + 1) (h2 : x3 = x2) (h3 : x4 = x3) (h4 : x5 = x4) (h5 : x6 = x5) (h6 : x7 = x6) (h7 : x8 = x7) (h8 : x9 = x8) (h9 : x10 = x9) (h10 : x11 = x10) (h11 : x12 = x11 - 1) : x12 = x1 := by omega
set_option maxHeartbeats 16000000 in
set_option maxRecDepth 100000 in
theorem c_x_X5_ifStat (l : Launch) (n : Nat) (ihS : ∀ m, n = m + 1 → Cq_stat l m) (dC : Nat → ClassId) (dI : Nat → Nat → Nat) (cI cB cZ cJ cR : ClassId) (tb : Nat → Nat) (sz : Nat) (ad : Nat → Nat) (pr : Int32 → Nat) (N : Nat) (L1 L2 : List Nat) (v : MS) (ps : Int32) (z304 : 0 ≤ (v.1 0 304).toInt ∧ (v.1 0 304).toInt ≤ 1503) (z306 : 0 ≤ (v.1 0 306).toInt ∧ (v.1 0 306).toInt ≤ 40) (z312 : 0 ≤ (v.1 0 312).toInt ∧ (v.1 0 312).toInt ≤ 500) (z321 : 0 ≤ (v.1 0 321).toInt ∧ (v.1 0 321).toInt ≤ 501) (z326 : 0 ≤ (v.1 0 326).toInt ∧ (v.1 0 326).toInt ≤ 420) (z373 : 0 ≤ (v.1 0 373).toInt ∧ (v.1 0 373).toInt ≤ 4000) (z381 : 0 ≤ (v.1 0 381).toInt ∧ (v.1 0 381).toInt ≤ 3008) (hL1 : L1.length = 40) (hL2 : L2.length = 60) (rp : RP v) (hps : pr ps = ad 908) (es300 : (v.1 0 300) = ps) (es310 : (v.1 0 310) = ps) (hst : l.stackTraces = false) (zn : 40 ≤ (v.1 0 306).toInt + (n : Int)) : vx_Met l yX5_ifStat (Cond.code yX5_ifStat cX5_ifStat 3 none :: tw_W) ({ frames := 8 * n + 35, cells := 1, slots := 6, locals := 28 * (8 * n + 35) }) (pc_ (dC, dI) (tyS cI cB cZ cJ cR) tb (cW ad pr N cI cR L1 L2 v) sz [.ref (ad 903)]) (qvz_ (dC, dI) (cW ad pr N cI cR L1 L2 v) sz (fun (u : MS) => FC [305, 306, 307, 312, 313, 314, 315, 317, 321, 326, 331, 332, 381] [0, 311, 316, 318, 319, 320, 324, 325, 378, 379, 380] v u ∧ (0 ≤ (u.1 0 306).toInt ∧ (u.1 0 306).toInt ≤ 40) ∧ (0 ≤ (u.1 0 312).toInt ∧ (u.1 0 312).toInt ≤ 500) ∧ (0 ≤ (u.1 0 321).toInt ∧ (u.1 0 321).toInt ≤ 501) ∧ (0 ≤ (u.1 0 326).toInt ∧ (u.1 0 326).toInt ≤ 420) ∧ (0 ≤ (u.1 0 381).toInt ∧ (u.1 0 381).toInt ≤ 3008) ∧ ((u.1 0 306).toInt = (v.1 0 306).toInt)) (fun (u : MS) => (cW ad pr N cI cR L1 L2 u))) (qxc (dC, dI) (cW ad pr N cI cR L1 L2 v) sz (fun (u : MS) => (cW ad pr N cI cR L1 L2 u)) (fun (u : MS) => FC xfl xal v u ∧ (u.1 0 308).toInt ≠ 0)) 1 6 (va_A (cW ad pr N cI cR L1 L2 v) sz) := by
  refine vx_ofW (cc := cX5_ifStat) (maxL := 3) (ret := none) (by decide) rfl ?_
  intro p e s m args below meth c s₁ B hml hnt hv
  obtain ⟨rfl, hsz, hP, hKK, hD0, hFx⟩ := hv
  have hK := hKK.1
  have hx := B.exec
  have hb := B.bytes
  have hr := B.returns
  have ht : ∀ w ∈ tw_W, w.before _ s = true := fun w h => atoms_spec (ws := Cond.code yX5_ifStat cX5_ifStat 3 none :: tw_W) B.pre w (List.mem_cons_of_mem _ h)
  have hown : s.vm.findClass RX5 = some m.cls := findClass_of_methodNamed B.named
  have hlocks := B.notSynchronized
  subst hsz
  unfold qvz_ qxc
  have hD := hD0.self (sz := s.heap.size)
  generalize hAe : va_A (cW ad pr N cI cR L1 L2 v) s.heap.size = A at hD hFx ⊢
  have hA : ∀ q : Nat, s.heap.size ≤ q → A q := fun q h => by rw [← hAe]; exact Or.inr h
  have hS : va_S A s.heap s.heap [] := va_S.rf
  have hl := lv_entry ([.ref (ad 903)]) (n := 3) (Nat.le_of_ble_eq_true rfl)
  rw [lg_entry_eq]
  generalize (lg_sl ([.ref (ad 903)]) ++ List.replicate (3 - (lg_sl ([.ref (ad 903)])).length) Slot.unset).toArray = ls at hl ⊢
  have hl : lv_has ls 3 [(0, .ref (ad 903))] := hl
  refine lv_aload_n hx hb dX5_ifStat_0 rfl (lv_at hl 0 rfl) ?_
  refine va_get (D := (dC, dI)) (ci := 8) (fs := oF_X5 ad pr v) (v := .ref (ad 901)) (C := RX5) (T := TX5) (N := 7) hx hb ht itX5 hown hK hP 3 rfl rfl 2 (by decide) (ht _ tw_573) (fun _ h9 => h9) rfl dX5_ifStat_1 ?_
  refine cu_i (rn_Vk (n := 0) (As := []) (rest := []) hx hb hml hown ht hKK hFx hP hD hS hA (c_x_X1_newLabel l dC dI cI cB cZ cJ cR tb s.heap.size ad pr N L1 L2 v  ) tw_501 tw_621 (by decide +kernel) rfl rfl ⟨show 0 + 1 ≤ 8 * n + 35 from om_44e79b90a8, show 8 + (1 + 11) + 0 ≤ 28 * (8 * n + 35) from om_44671b5602⟩ (List.range (cW ad pr N cI cR L1 L2 v).length) (rg_map _) (nd_range _) 1 rfl rfl rfl rfl hl.1 rfl (Nat.le_of_ble_eq_true rfl) dX5_ifStat_4 ⟨Nat.le_of_ble_eq_true rfl, Nat.le_of_ble_eq_true rfl⟩) hP hD hS hA (fun r3 u2 H locs hw1 hP hD hS => ?_)
  have fr1 := hw1
  refine W.widen (k := 0) (n := 0) (Nat.le_refl _) (Nat.le_refl _) ?_
  refine lv_istore_n (lv' := [(1, .int r3), (0, .ref (ad 903))]) hx hb dX5_ifStat_7 rfl hl (by decide) rfl (fun ls hl => ?_)
  refine lv_aload_n hx hb dX5_ifStat_8 rfl (lv_at hl 1 rfl) ?_
  refine va_get (D := (dC, dI)) (ci := 8) (fs := oF_X5 ad pr u2) (v := .ref (ad 900)) (C := RX5) (T := TX5) (N := 7) hx hb ht itX5 hown hK hP 3 rfl rfl 1 (by decide) (ht _ tw_571) (fun _ h9 => h9) rfl dX5_ifStat_9 ?_
  have q4 : (u2.1 0 304).toInt = (v.1 0 304).toInt := congrArg Int32.toInt ((fr1.2.1 304 (by decide)).trans (show v.1 0 304 = (v.1 0 304) by rfl))
  have q5 : (u2.1 0 306).toInt = (v.1 0 306).toInt := congrArg Int32.toInt ((fr1.2.1 306 (by decide)).trans (show v.1 0 306 = (v.1 0 306) by rfl))
  have q6 : (u2.1 0 373).toInt = (v.1 0 373).toInt := congrArg Int32.toInt ((fr1.2.1 373 (by decide)).trans (show v.1 0 373 = (v.1 0 373) by rfl))
  refine W.sz (fun hz9 => ?_)
  refine czx_v (rx_Vk (n := 0) (As := []) (rest := []) hx hb hml hown ht hKK hFx hP hD hS hA (c_x_X9_open l dC dI cI cB cZ cJ cR tb H.size ad pr N L1 L2 u2 ps (show 0 ≤ (u2.1 0 304).toInt ∧ (u2.1 0 304).toInt ≤ 1503 from (om_73002589c1 z304 q4)) (show 0 ≤ (u2.1 0 306).toInt ∧ (u2.1 0 306).toInt ≤ 40 from (om_99e115f631 z306 q5)) (show 0 ≤ (u2.1 0 373).toInt ∧ (u2.1 0 373).toInt ≤ 4000 from (om_9084c127ed z373 q6)) (show pr ps = ad 908 from hps) (show (u2.1 0 300) = ps from (Eq.trans (fr1.2.1 300 (by decide)) es300)) (show l.stackTraces = false from hst)) tw_524 tw_593 (by decide +kernel) rfl rfl ⟨show 7 + 1 ≤ 8 * n + 35 from om_c8df384e44, show 8 + (1 + 11) + 104 ≤ 28 * (8 * n + 35) from om_5e7b6cb3c8⟩ (List.range (cW ad pr N cI cR L1 L2 u2).length) (rg_map _) (nd_range _) 0 rfl rfl rfl rfl hl.1 rfl (Nat.le_of_ble_eq_true rfl) dX5_ifStat_12 ⟨Nat.le_of_ble_eq_true rfl, Nat.le_of_ble_eq_true rfl⟩) hP hD hS hA (fun u9 ce9 q9 H locs hx9 hP hD hS hc9 hv9 hf9 => ?_) (fun u8 H locs hw7 hP hD hS hz8 => ?_)
  · exact vx_out (fun x h9 => (hnt x h9).elim) hlocks hc9 hv9 hf9 (fun t9 ht9 hv8 => ⟨u9, ⟨FC.tr (FC.tr (FC.rf _) (FC.up fr1 (by decide) (by decide))) hx9.1, hx9.2⟩, ⟨rfl, by rw [ht9]; exact hP, hD⟩, hS.F ht9⟩) hS.2.2 (Nat.le_refl _) (Nat.le_refl _)
  refine W.shrink (hz8.trans hz9) ?_
  obtain ⟨fr7, i3067, pj7⟩ := hw7
  have i3067 : 0 ≤ (u8.1 0 306).toInt ∧ (u8.1 0 306).toInt ≤ 40 := i3067
  have pj7 : (u8.1 0 306).toInt = (u2.1 0 306).toInt + 1 := pj7
  refine lv_aload_n hx hb dX5_ifStat_15 rfl (lv_at hl 1 rfl) ?_
  obtain ⟨n10, hn11⟩ : ∃ m, n = m + 1 := ex_z (om_5ac3184894 zn q5 i3067 pj7)
  have q12 : (u8.1 0 304).toInt = (u2.1 0 304).toInt := congrArg Int32.toInt ((fr7.2.1 304 (by decide)).trans (show u2.1 0 304 = (u2.1 0 304) by rfl))
  have q13 : (u2.1 0 312).toInt = (v.1 0 312).toInt := congrArg Int32.toInt ((fr1.2.1 312 (by decide)).trans (show v.1 0 312 = (v.1 0 312) by rfl))
  have q14 : (u8.1 0 312).toInt = (u2.1 0 312).toInt := congrArg Int32.toInt ((fr7.2.1 312 (by decide)).trans (show u2.1 0 312 = (u2.1 0 312) by rfl))
  have q15 : (u2.1 0 321).toInt = (v.1 0 321).toInt := congrArg Int32.toInt ((fr1.2.1 321 (by decide)).trans (show v.1 0 321 = (v.1 0 321) by rfl))
  have q16 : (u8.1 0 321).toInt = (u2.1 0 321).toInt := congrArg Int32.toInt ((fr7.2.1 321 (by decide)).trans (show u2.1 0 321 = (u2.1 0 321) by rfl))
  have q17 : (u2.1 0 326).toInt = (v.1 0 326).toInt := congrArg Int32.toInt ((fr1.2.1 326 (by decide)).trans (show v.1 0 326 = (v.1 0 326) by rfl))
  have q18 : (u8.1 0 326).toInt = (u2.1 0 326).toInt := congrArg Int32.toInt ((fr7.2.1 326 (by decide)).trans (show u2.1 0 326 = (u2.1 0 326) by rfl))
  have q19 : (u8.1 0 373).toInt = (u2.1 0 373).toInt := congrArg Int32.toInt ((fr7.2.1 373 (by decide)).trans (show u2.1 0 373 = (u2.1 0 373) by rfl))
  have q20 : (u2.1 0 381).toInt = (v.1 0 381).toInt := congrArg Int32.toInt ((fr1.2.1 381 (by decide)).trans (show v.1 0 381 = (v.1 0 381) by rfl))
  have q21 : (u8.1 0 381).toInt = (u2.1 0 381).toInt := congrArg Int32.toInt ((fr7.2.1 381 (by decide)).trans (show u2.1 0 381 = (u2.1 0 381) by rfl))
  refine W.sz (fun hz9 => ?_)
  refine czx_v (rx_Vk (n := 0) (As := []) (rest := []) hx hb hml hown ht hKK hFx hP hD hS hA (c_x_X5_condition l n10 dC dI cI cB cZ cJ cR tb H.size ad pr N L1 L2 u8 ps (show 0 ≤ (u8.1 0 304).toInt ∧ (u8.1 0 304).toInt ≤ 1503 from (om_dd87ee851a z304 q4 q12)) (show 0 ≤ (u8.1 0 306).toInt ∧ (u8.1 0 306).toInt ≤ 40 from (om_7eaf33e007 i3067)) (show 0 ≤ (u8.1 0 312).toInt ∧ (u8.1 0 312).toInt ≤ 500 from (om_8a5975ec21 z312 q13 q14)) (show 0 ≤ (u8.1 0 321).toInt ∧ (u8.1 0 321).toInt ≤ 501 from (om_4dfa815534 z321 q15 q16)) (show 0 ≤ (u8.1 0 326).toInt ∧ (u8.1 0 326).toInt ≤ 420 from (om_9591dea625 z326 q17 q18)) (show 0 ≤ (u8.1 0 373).toInt ∧ (u8.1 0 373).toInt ≤ 4000 from (om_03cd8767ac z373 q6 q19)) (show 0 ≤ (u8.1 0 381).toInt ∧ (u8.1 0 381).toInt ≤ 3008 from (om_769192f2a4 z381 q20 q21)) (show L1.length = 40 from hL1) (show L2.length = 60 from hL2) (show RP u8 from ((show FC [305, 306, 307, 312, 313, 314, 315, 317, 321, 326, 331, 332, 381] [0, 311, 316, 318, 319, 320, 324, 325, 378, 379, 380] v u8 from (FC.tr (FC.tr (FC.rf _) (FC.up fr1 (by decide) (by decide))) (FC.up fr7 (by decide) (by decide)))).1 rp)) (show pr ps = ad 908 from hps) (show (u8.1 0 300) = ps from (Eq.trans (fr7.2.1 300 (by decide)) (Eq.trans (fr1.2.1 300 (by decide)) es300))) (show (u8.1 0 310) = ps from (Eq.trans (fr7.2.1 310 (by decide)) (Eq.trans (fr1.2.1 310 (by decide)) es310))) (show l.stackTraces = false from hst) (show 40 ≤ (u8.1 0 306).toInt + (n10 : Int) from (om_d3bd070dcf zn q5 pj7 hn11))) tw_616 tw_617 (by decide +kernel) rfl rfl ⟨show (8 * n10 + 14) + 1 ≤ 8 * n + 35 from (om_50d282ed28 hn11), show 8 + (1 + 11) + 28 * (8 * n10 + 14) ≤ 28 * (8 * n + 35) from (om_fe32149f57 hn11)⟩ (List.range (cW ad pr N cI cR L1 L2 u8).length) (rg_map _) (nd_range _) 3 rfl rfl rfl rfl hl.1 rfl (Nat.le_of_ble_eq_true rfl) dX5_ifStat_16 ⟨Nat.le_of_ble_eq_true rfl, Nat.le_of_ble_eq_true rfl⟩) hP hD hS hA (fun u9 ce9 q9 H locs hx9 hP hD hS hc9 hv9 hf9 => ?_) (fun u23 H locs hw22 hP hD hS hz8 => ?_)
  · exact vx_out (fun x h9 => (hnt x h9).elim) hlocks hc9 hv9 hf9 (fun t9 ht9 hv8 => ⟨u9, ⟨FC.tr (FC.tr (FC.tr (FC.rf _) (FC.up fr1 (by decide) (by decide))) (FC.up fr7 (by decide) (by decide))) hx9.1, hx9.2⟩, ⟨rfl, by rw [ht9]; exact hP, hD⟩, hS.F ht9⟩) hS.2.2 (Nat.le_refl _) (Nat.le_refl _)
  refine W.shrink (hz8.trans hz9) ?_
  obtain ⟨fr22, i30622, i32122, i32622, i38122, po22⟩ := hw22
  have i30622 : 0 ≤ (u23.1 0 306).toInt ∧ (u23.1 0 306).toInt ≤ 40 := i30622
  have i32122 : 0 ≤ (u23.1 0 321).toInt ∧ (u23.1 0 321).toInt ≤ 501 := i32122
  have i32622 : 0 ≤ (u23.1 0 326).toInt ∧ (u23.1 0 326).toInt ≤ 420 := i32622
  have i38122 : 0 ≤ (u23.1 0 381).toInt ∧ (u23.1 0 381).toInt ≤ 3008 := i38122
  have po22 : (u23.1 0 306).toInt = (u8.1 0 306).toInt := po22
  refine lv_aload_n hx hb dX5_ifStat_19 rfl (lv_at hl 1 rfl) ?_
  refine va_get (D := (dC, dI)) (ci := 8) (fs := oF_X5 ad pr u23) (v := .ref (ad 901)) (C := RX5) (T := TX5) (N := 7) hx hb ht itX5 hown hK hP 3 rfl rfl 2 (by decide) (ht _ tw_573) (fun _ h9 => h9) rfl dX5_ifStat_20 ?_
  refine lv_bipush (v := 16) hx hb dX5_ifStat_23 (by decide) ?_
  refine lv_iload_n hx hb dX5_ifStat_25 rfl (lv_at hl 0 rfl) ?_
  refine lv_iconst (v := 0) hx hb dX5_ifStat_26 (by decide) ?_
  refine cu_v (rn_Vk (n := 3) (As := [.int 16, .int r3, .int 0]) (rest := []) hx hb hml hown ht hKK hFx hP hD hS hA (c_x_X1_add l dC dI cI cB cZ cJ cR tb H.size ad pr N L1 L2 u23 (16 : Int32) r3 (0 : Int32) ps (show 0 ≤ (u23.1 0 381).toInt ∧ (u23.1 0 381).toInt ≤ 3008 from (om_e78eec72e1 i38122)) (show pr ps = ad 908 from hps) (show (u23.1 0 310) = ps from (Eq.trans (fr22.2.1 310 (by decide)) (Eq.trans (fr7.2.1 310 (by decide)) (Eq.trans (fr1.2.1 310 (by decide)) es310))))) tw_499 tw_592 (by decide +kernel) rfl rfl ⟨show 0 + 1 ≤ 8 * n + 35 from om_44e79b90a8, show 8 + (5 + 11) + 0 ≤ 28 * (8 * n + 35) from om_8591f594e6⟩ (List.range (cW ad pr N cI cR L1 L2 u23).length) (rg_map _) (nd_range _) 1 rfl rfl rfl rfl hl.1 rfl (Nat.le_of_ble_eq_true rfl) dX5_ifStat_27 ⟨Nat.le_of_ble_eq_true rfl, Nat.le_of_ble_eq_true rfl⟩) hP hD hS hA (fun u26 H locs hw25 hP hD hS => ?_)
  obtain ⟨fr25, i38125⟩ := hw25
  have i38125 : 0 ≤ (u26.1 0 381).toInt ∧ (u26.1 0 381).toInt ≤ 3008 := i38125
  refine W.widen (k := 0) (n := 0) (Nat.le_refl _) (Nat.le_refl _) ?_
  refine lv_aload_n hx hb dX5_ifStat_30 rfl (lv_at hl 1 rfl) ?_
  obtain ⟨n28, hn29⟩ : ∃ m, n = m + 1 := ex_z (om_bce5f2fb63 hn11)
  have q30 : (u23.1 0 304).toInt = (u8.1 0 304).toInt := congrArg Int32.toInt ((fr22.2.1 304 (by decide)).trans (show u8.1 0 304 = (u8.1 0 304) by rfl))
  have q31 : (u26.1 0 304).toInt = (u23.1 0 304).toInt := congrArg Int32.toInt ((fr25.2.1 304 (by decide)).trans (show u23.1 0 304 = (u23.1 0 304) by rfl))
  have q32 : (u26.1 0 306).toInt = (u23.1 0 306).toInt := congrArg Int32.toInt ((fr25.2.1 306 (by decide)).trans (show u23.1 0 306 = (u23.1 0 306) by rfl))
  have q33 : (u23.1 0 312).toInt = (u8.1 0 312).toInt := congrArg Int32.toInt ((fr22.2.1 312 (by decide)).trans (show u8.1 0 312 = (u8.1 0 312) by rfl))
  have q34 : (u26.1 0 312).toInt = (u23.1 0 312).toInt := congrArg Int32.toInt ((fr25.2.1 312 (by decide)).trans (show u23.1 0 312 = (u23.1 0 312) by rfl))
  have q35 : (u26.1 0 321).toInt = (u23.1 0 321).toInt := congrArg Int32.toInt ((fr25.2.1 321 (by decide)).trans (show u23.1 0 321 = (u23.1 0 321) by rfl))
  have q36 : (u26.1 0 326).toInt = (u23.1 0 326).toInt := congrArg Int32.toInt ((fr25.2.1 326 (by decide)).trans (show u23.1 0 326 = (u23.1 0 326) by rfl))
  have q37 : (u23.1 0 373).toInt = (u8.1 0 373).toInt := congrArg Int32.toInt ((fr22.2.1 373 (by decide)).trans (show u8.1 0 373 = (u8.1 0 373) by rfl))
  have q38 : (u26.1 0 373).toInt = (u23.1 0 373).toInt := congrArg Int32.toInt ((fr25.2.1 373 (by decide)).trans (show u23.1 0 373 = (u23.1 0 373) by rfl))
  refine W.sz (fun hz9 => ?_)
  refine czx_v (rx_Vk (n := 0) (As := []) (rest := []) hx hb hml hown ht hKK hFx hP hD hS hA (c_x_X5_innerStat l n28 (ihS n28 hn29) dC dI cI cB cZ cJ cR tb H.size ad pr N L1 L2 u26 ps (show 0 ≤ (u26.1 0 304).toInt ∧ (u26.1 0 304).toInt ≤ 1503 from (om_8044691ca6 z304 q4 q12 q30 q31)) (show 0 ≤ (u26.1 0 306).toInt ∧ (u26.1 0 306).toInt ≤ 40 from (om_99e115f631 i30622 q32)) (show 0 ≤ (u26.1 0 312).toInt ∧ (u26.1 0 312).toInt ≤ 500 from (om_31e0c91fb9 z312 q13 q14 q33 q34)) (show 0 ≤ (u26.1 0 321).toInt ∧ (u26.1 0 321).toInt ≤ 501 from (om_ff27494c0e i32122 q35)) (show 0 ≤ (u26.1 0 326).toInt ∧ (u26.1 0 326).toInt ≤ 420 from (om_8ed0dedb19 i32622 q36)) (show 0 ≤ (u26.1 0 373).toInt ∧ (u26.1 0 373).toInt ≤ 4000 from (om_fdcbb58227 z373 q6 q19 q37 q38)) (show 0 ≤ (u26.1 0 381).toInt ∧ (u26.1 0 381).toInt ≤ 3008 from (om_e78eec72e1 i38125)) (show L1.length = 40 from hL1) (show L2.length = 60 from hL2) (show RP u26 from ((show FC [305, 306, 307, 312, 313, 314, 315, 317, 321, 326, 331, 332, 381] [0, 311, 316, 318, 319, 320, 324, 325, 378, 379, 380] v u26 from (FC.tr (FC.tr (FC.tr (FC.tr (FC.rf _) (FC.up fr1 (by decide) (by decide))) (FC.up fr7 (by decide) (by decide))) (FC.up fr22 (by decide) (by decide))) (FC.up fr25 (by decide) (by decide)))).1 rp)) (show pr ps = ad 908 from hps) (show (u26.1 0 300) = ps from (Eq.trans (fr25.2.1 300 (by decide)) (Eq.trans (fr22.2.1 300 (by decide)) (Eq.trans (fr7.2.1 300 (by decide)) (Eq.trans (fr1.2.1 300 (by decide)) es300))))) (show (u26.1 0 310) = ps from (Eq.trans (fr25.2.1 310 (by decide)) (Eq.trans (fr22.2.1 310 (by decide)) (Eq.trans (fr7.2.1 310 (by decide)) (Eq.trans (fr1.2.1 310 (by decide)) es310))))) (show l.stackTraces = false from hst) (show 40 ≤ (u26.1 0 306).toInt + (n28 : Int) from (om_2f4f9218db zn q5 pj7 po22 q32 hn29))) tw_619 tw_620 (by decide +kernel) rfl rfl ⟨show (8 * n28 + 41) + 1 ≤ 8 * n + 35 from (om_414cf7965f hn29), show 8 + (3 + 11) + 28 * (8 * n28 + 41) ≤ 28 * (8 * n + 35) from (om_8d15d0cb3c hn29)⟩ (List.range (cW ad pr N cI cR L1 L2 u26).length) (rg_map _) (nd_range _) 3 rfl rfl rfl rfl hl.1 rfl (Nat.le_of_ble_eq_true rfl) dX5_ifStat_31 ⟨Nat.le_of_ble_eq_true rfl, Nat.le_of_ble_eq_true rfl⟩) hP hD hS hA (fun u9 ce9 q9 H locs hx9 hP hD hS hc9 hv9 hf9 => ?_) (fun u40 H locs hw39 hP hD hS hz8 => ?_)
  · exact vx_out (fun x h9 => (hnt x h9).elim) hlocks hc9 hv9 hf9 (fun t9 ht9 hv8 => ⟨u9, ⟨FC.tr (FC.tr (FC.tr (FC.tr (FC.tr (FC.rf _) (FC.up fr1 (by decide) (by decide))) (FC.up fr7 (by decide) (by decide))) (FC.up fr22 (by decide) (by decide))) (FC.up fr25 (by decide) (by decide))) hx9.1, hx9.2⟩, ⟨rfl, by rw [ht9]; exact hP, hD⟩, hS.F ht9⟩) hS.2.2 (Nat.le_refl _) (Nat.le_refl _)
  refine W.shrink (hz8.trans hz9) ?_
  obtain ⟨fr39, i30639, i31239, i32139, i32639, i38139, po39⟩ := hw39
  have i30639 : 0 ≤ (u40.1 0 306).toInt ∧ (u40.1 0 306).toInt ≤ 40 := i30639
  have i31239 : 0 ≤ (u40.1 0 312).toInt ∧ (u40.1 0 312).toInt ≤ 500 := i31239
  have i32139 : 0 ≤ (u40.1 0 321).toInt ∧ (u40.1 0 321).toInt ≤ 501 := i32139
  have i32639 : 0 ≤ (u40.1 0 326).toInt ∧ (u40.1 0 326).toInt ≤ 420 := i32639
  have i38139 : 0 ≤ (u40.1 0 381).toInt ∧ (u40.1 0 381).toInt ≤ 3008 := i38139
  have po39 : (u40.1 0 306).toInt = (u26.1 0 306).toInt := po39
  refine lv_aload_n hx hb dX5_ifStat_34 rfl (lv_at hl 1 rfl) ?_
  refine va_get (D := (dC, dI)) (ci := 8) (fs := oF_X5 ad pr u40) (v := .ref (ad 900)) (C := RX5) (T := TX5) (N := 7) hx hb ht itX5 hown hK hP 3 rfl rfl 1 (by decide) (ht _ tw_571) (fun _ h9 => h9) rfl dX5_ifStat_35 ?_
  have q42 : (u40.1 0 304).toInt = (u26.1 0 304).toInt := congrArg Int32.toInt ((fr39.2.1 304 (by decide)).trans (show u26.1 0 304 = (u26.1 0 304) by rfl))
  refine cu_i (rn_Vk (n := 0) (As := []) (rest := []) hx hb hml hown ht hKK hFx hP hD hS hA (c_x_X9_kind l dC dI cI cB cZ cJ cR tb H.size ad pr N L1 L2 u40  (show 0 ≤ (u40.1 0 304).toInt ∧ (u40.1 0 304).toInt ≤ 1503 from (om_303b0e9f26 z304 q4 q12 q30 q31 q42))) tw_455 tw_594 (by decide +kernel) rfl rfl ⟨show 0 + 1 ≤ 8 * n + 35 from om_44e79b90a8, show 8 + (1 + 11) + 0 ≤ 28 * (8 * n + 35) from om_44671b5602⟩ (List.range (cW ad pr N cI cR L1 L2 u40).length) (rg_map _) (nd_range _) 0 rfl rfl rfl rfl hl.1 rfl (Nat.le_of_ble_eq_true rfl) dX5_ifStat_38 ⟨Nat.le_of_ble_eq_true rfl, Nat.le_of_ble_eq_true rfl⟩) hP hD hS hA (fun r45 u44 H locs hw43 hP hD hS => ?_)
  obtain rfl := hw43
  refine W.widen (k := 0) (n := 0) (Nat.le_refl _) (Nat.le_refl _) ?_
  refine lv_bipush (v := 12) hx hb dX5_ifStat_41 (by decide) ?_
  refine lv_icmp_ne (tgt := 95) hx hb dX5_ifStat_43 (by decide) (fun h46 => ?_) (fun h46 => ?_)
  · have z47 : r45.toInt ≠ (12 : Int) := ne_z rfl (show (12 : Int32).toInt = (12 : Int) by decide) h46
    refine lv_aload_n hx hb dX5_ifStat_95 rfl (lv_at hl 1 rfl) ?_
    refine va_get (D := (dC, dI)) (ci := 8) (fs := oF_X5 ad pr u40) (v := .ref (ad 901)) (C := RX5) (T := TX5) (N := 7) hx hb ht itX5 hown hK hP 3 rfl rfl 2 (by decide) (ht _ tw_573) (fun _ h9 => h9) rfl dX5_ifStat_96 ?_
    refine lv_iload_n hx hb dX5_ifStat_99 rfl (lv_at hl 0 rfl) ?_
    refine cu_v (rn_Vk (n := 1) (As := [.int r3]) (rest := []) hx hb hml hown ht hKK hFx hP hD hS hA (c_x_X1_setLabel l dC dI cI cB cZ cJ cR tb H.size ad pr N L1 L2 u40 r3 ps (show 0 ≤ (u40.1 0 381).toInt ∧ (u40.1 0 381).toInt ≤ 3008 from (om_e78eec72e1 i38139)) (show pr ps = ad 908 from hps) (show (u40.1 0 310) = ps from (Eq.trans (fr39.2.1 310 (by decide)) (Eq.trans (fr25.2.1 310 (by decide)) (Eq.trans (fr22.2.1 310 (by decide)) (Eq.trans (fr7.2.1 310 (by decide)) (Eq.trans (fr1.2.1 310 (by decide)) es310))))))) tw_514 tw_615 (by decide +kernel) rfl rfl ⟨show 0 + 1 ≤ 8 * n + 35 from om_44e79b90a8, show 8 + (2 + 11) + 0 ≤ 28 * (8 * n + 35) from om_9288fa5c58⟩ (List.range (cW ad pr N cI cR L1 L2 u40).length) (rg_map _) (nd_range _) 1 rfl rfl rfl rfl hl.1 rfl (Nat.le_of_ble_eq_true rfl) dX5_ifStat_100 ⟨Nat.le_of_ble_eq_true rfl, Nat.le_of_ble_eq_true rfl⟩) hP hD hS hA (fun u49 H locs hw48 hP hD hS => ?_)
    have fr48 := hw48
    refine W.widen (k := 0) (n := 0) (Nat.le_refl _) (Nat.le_refl _) ?_
    refine lv_aload_n hx hb dX5_ifStat_103 rfl (lv_at hl 1 rfl) ?_
    refine va_get (D := (dC, dI)) (ci := 8) (fs := oF_X5 ad pr u49) (v := .ref (ad 900)) (C := RX5) (T := TX5) (N := 7) hx hb ht itX5 hown hK hP 3 rfl rfl 1 (by decide) (ht _ tw_571) (fun _ h9 => h9) rfl dX5_ifStat_104 ?_
    have q51 : (u49.1 0 306).toInt = (u40.1 0 306).toInt := congrArg Int32.toInt ((fr48.2.1 306 (by decide)).trans (show u40.1 0 306 = (u40.1 0 306) by rfl))
    refine cu_v (rn_Vk (n := 0) (As := []) (rest := []) hx hb hml hown ht hKK hFx hP hD hS hA (c_x_X9_close l dC dI cI cB cZ cJ cR tb H.size ad pr N L1 L2 u49  (show 0 ≤ (u49.1 0 306).toInt ∧ (u49.1 0 306).toInt ≤ 40 from (om_99e115f631 i30639 q51)) (show 1 ≤ (u49.1 0 306).toInt from (om_3de73bafc8 z306 q5 pj7 po22 q32 po39 q51))) tw_528 tw_595 (by decide +kernel) rfl rfl ⟨show 0 + 1 ≤ 8 * n + 35 from om_44e79b90a8, show 8 + (1 + 11) + 0 ≤ 28 * (8 * n + 35) from om_44671b5602⟩ (List.range (cW ad pr N cI cR L1 L2 u49).length) (rg_map _) (nd_range _) 0 rfl rfl rfl rfl hl.1 rfl (Nat.le_of_ble_eq_true rfl) dX5_ifStat_107 ⟨Nat.le_of_ble_eq_true rfl, Nat.le_of_ble_eq_true rfl⟩) hP hD hS hA (fun u53 H locs hw52 hP hD hS => ?_)
    obtain ⟨fr52, i30652, pj52⟩ := hw52
    have i30652 : 0 ≤ (u53.1 0 306).toInt ∧ (u53.1 0 306).toInt ≤ 40 := i30652
    have pj52 : (u53.1 0 306).toInt = (u49.1 0 306).toInt - 1 := pj52
    refine W.widen (k := 0) (n := 0) (Nat.le_refl _) (Nat.le_refl _) ?_
    have q55 : (u49.1 0 312).toInt = (u40.1 0 312).toInt := congrArg Int32.toInt ((fr48.2.1 312 (by decide)).trans (show u40.1 0 312 = (u40.1 0 312) by rfl))
    have q56 : (u53.1 0 312).toInt = (u49.1 0 312).toInt := congrArg Int32.toInt ((fr52.2.1 312 (by decide)).trans (show u49.1 0 312 = (u49.1 0 312) by rfl))
    have q57 : (u49.1 0 321).toInt = (u40.1 0 321).toInt := congrArg Int32.toInt ((fr48.2.1 321 (by decide)).trans (show u40.1 0 321 = (u40.1 0 321) by rfl))
    have q58 : (u53.1 0 321).toInt = (u49.1 0 321).toInt := congrArg Int32.toInt ((fr52.2.1 321 (by decide)).trans (show u49.1 0 321 = (u49.1 0 321) by rfl))
    have q59 : (u49.1 0 326).toInt = (u40.1 0 326).toInt := congrArg Int32.toInt ((fr48.2.1 326 (by decide)).trans (show u40.1 0 326 = (u40.1 0 326) by rfl))
    have q60 : (u53.1 0 326).toInt = (u49.1 0 326).toInt := congrArg Int32.toInt ((fr52.2.1 326 (by decide)).trans (show u49.1 0 326 = (u49.1 0 326) by rfl))
    have q61 : (u49.1 0 381).toInt = (u40.1 0 381).toInt := congrArg Int32.toInt ((fr48.2.1 381 (by decide)).trans (show u40.1 0 381 = (u40.1 0 381) by rfl))
    have q62 : (u53.1 0 381).toInt = (u49.1 0 381).toInt := congrArg Int32.toInt ((fr52.2.1 381 (by decide)).trans (show u49.1 0 381 = (u49.1 0 381) by rfl))
    refine W.sz (fun hz => ?_)
    refine vx_ret ?_
    refine W.widen (k := 1) (n := 6) (Nat.le_of_ble_eq_true rfl) (Nat.le_of_ble_eq_true rfl) ?_
    exact W.vret hx hb hr (fun t ht9 hW => ⟨⟨u53, rfl, ⟨(FC.tr (FC.tr (FC.tr (FC.tr (FC.tr (FC.tr (FC.tr (FC.rf _) (FC.up fr1 (by decide) (by decide))) (FC.up fr7 (by decide) (by decide))) (FC.up fr22 (by decide) (by decide))) (FC.up fr25 (by decide) (by decide))) (FC.up fr39 (by decide) (by decide))) (FC.up fr48 (by decide) (by decide))) (FC.up fr52 (by decide) (by decide))), (show 0 ≤ (u53.1 0 306).toInt ∧ (u53.1 0 306).toInt ≤ 40 from (om_7eaf33e007 i30652)), (show 0 ≤ (u53.1 0 312).toInt ∧ (u53.1 0 312).toInt ≤ 500 from (om_8a5975ec21 i31239 q55 q56)), (show 0 ≤ (u53.1 0 321).toInt ∧ (u53.1 0 321).toInt ≤ 501 from (om_4dfa815534 i32139 q57 q58)), (show 0 ≤ (u53.1 0 326).toInt ∧ (u53.1 0 326).toInt ≤ 420 from (om_9591dea625 i32639 q59 q60)), (show 0 ≤ (u53.1 0 381).toInt ∧ (u53.1 0 381).toInt ≤ 3008 from (om_769192f2a4 i38139 q61 q62)), (show (u53.1 0 306).toInt = (v.1 0 306).toInt from (om_032fcbe1d4 q5 pj7 po22 q32 po39 q51 pj52))⟩, ⟨by rw [ht9]; exact hP, hD⟩, by rw [ht9]; exact hz⟩, hS.F ht9⟩) hS.2.2 dX5_ifStat_110
  · have z63 : r45.toInt = (12 : Int) := eq_z rfl (show (12 : Int32).toInt = (12 : Int) by decide) h46
    refine lv_aload_n hx hb dX5_ifStat_46 rfl (lv_at hl 1 rfl) ?_
    refine va_get (D := (dC, dI)) (ci := 8) (fs := oF_X5 ad pr u40) (v := .ref (ad 901)) (C := RX5) (T := TX5) (N := 7) hx hb ht itX5 hown hK hP 3 rfl rfl 2 (by decide) (ht _ tw_573) (fun _ h9 => h9) rfl dX5_ifStat_47 ?_
    refine cu_i (rn_Vk (n := 0) (As := []) (rest := []) hx hb hml hown ht hKK hFx hP hD hS hA (c_x_X1_newLabel l dC dI cI cB cZ cJ cR tb H.size ad pr N L1 L2 u40  ) tw_501 tw_621 (by decide +kernel) rfl rfl ⟨show 0 + 1 ≤ 8 * n + 35 from om_44e79b90a8, show 8 + (1 + 11) + 0 ≤ 28 * (8 * n + 35) from om_44671b5602⟩ (List.range (cW ad pr N cI cR L1 L2 u40).length) (rg_map _) (nd_range _) 1 rfl rfl rfl rfl hl.1 rfl (Nat.le_of_ble_eq_true rfl) dX5_ifStat_50 ⟨Nat.le_of_ble_eq_true rfl, Nat.le_of_ble_eq_true rfl⟩) hP hD hS hA (fun r66 u65 H locs hw64 hP hD hS => ?_)
    have fr64 := hw64
    refine W.widen (k := 0) (n := 0) (Nat.le_refl _) (Nat.le_refl _) ?_
    refine lv_istore_n (lv' := [(2, .int r66), (1, .int r3), (0, .ref (ad 903))]) hx hb dX5_ifStat_53 rfl hl (by decide) rfl (fun ls hl => ?_)
    refine lv_aload_n hx hb dX5_ifStat_54 rfl (lv_at hl 2 rfl) ?_
    refine va_get (D := (dC, dI)) (ci := 8) (fs := oF_X5 ad pr u65) (v := .ref (ad 900)) (C := RX5) (T := TX5) (N := 7) hx hb ht itX5 hown hK hP 3 rfl rfl 1 (by decide) (ht _ tw_571) (fun _ h9 => h9) rfl dX5_ifStat_55 ?_
    have q67 : (u65.1 0 304).toInt = (u40.1 0 304).toInt := congrArg Int32.toInt ((fr64.2.1 304 (by decide)).trans (show u40.1 0 304 = (u40.1 0 304) by rfl))
    have q68 : (u40.1 0 373).toInt = (u26.1 0 373).toInt := congrArg Int32.toInt ((fr39.2.1 373 (by decide)).trans (show u26.1 0 373 = (u26.1 0 373) by rfl))
    have q69 : (u65.1 0 373).toInt = (u40.1 0 373).toInt := congrArg Int32.toInt ((fr64.2.1 373 (by decide)).trans (show u40.1 0 373 = (u40.1 0 373) by rfl))
    refine W.sz (fun hz9 => ?_)
    refine czx_v (rx_Vk (n := 0) (As := []) (rest := []) hx hb hml hown ht hKK hFx hP hD hS hA (c_x_X9_take l dC dI cI cB cZ cJ cR tb H.size ad pr N L1 L2 u65 ps (show 0 ≤ (u65.1 0 304).toInt ∧ (u65.1 0 304).toInt ≤ 1503 from (om_1a945f4049 z304 q4 q12 q30 q31 q42 q67)) (show 0 ≤ (u65.1 0 373).toInt ∧ (u65.1 0 373).toInt ≤ 4000 from (om_1de556205c z373 q6 q19 q37 q38 q68 q69)) (show pr ps = ad 908 from hps) (show (u65.1 0 300) = ps from (Eq.trans (fr64.2.1 300 (by decide)) (Eq.trans (fr39.2.1 300 (by decide)) (Eq.trans (fr25.2.1 300 (by decide)) (Eq.trans (fr22.2.1 300 (by decide)) (Eq.trans (fr7.2.1 300 (by decide)) (Eq.trans (fr1.2.1 300 (by decide)) es300))))))) (show l.stackTraces = false from hst)) tw_539 tw_585 (by decide +kernel) rfl rfl ⟨show 7 + 1 ≤ 8 * n + 35 from om_c8df384e44, show 8 + (1 + 11) + 104 ≤ 28 * (8 * n + 35) from om_5e7b6cb3c8⟩ (List.range (cW ad pr N cI cR L1 L2 u65).length) (rg_map _) (nd_range _) 0 rfl rfl rfl rfl hl.1 rfl (Nat.le_of_ble_eq_true rfl) dX5_ifStat_58 ⟨Nat.le_of_ble_eq_true rfl, Nat.le_of_ble_eq_true rfl⟩) hP hD hS hA (fun u9 ce9 q9 H locs hx9 hP hD hS hc9 hv9 hf9 => ?_) (fun u71 H locs hw70 hP hD hS hz8 => ?_)
    · exact vx_out (fun x h9 => (hnt x h9).elim) hlocks hc9 hv9 hf9 (fun t9 ht9 hv8 => ⟨u9, ⟨FC.tr (FC.tr (FC.tr (FC.tr (FC.tr (FC.tr (FC.tr (FC.rf _) (FC.up fr1 (by decide) (by decide))) (FC.up fr7 (by decide) (by decide))) (FC.up fr22 (by decide) (by decide))) (FC.up fr25 (by decide) (by decide))) (FC.up fr39 (by decide) (by decide))) (FC.up fr64 (by decide) (by decide))) hx9.1, hx9.2⟩, ⟨rfl, by rw [ht9]; exact hP, hD⟩, hS.F ht9⟩) hS.2.2 (Nat.le_refl _) (Nat.le_refl _)
    refine W.shrink (hz8.trans hz9) ?_
    have fr70 := hw70
    refine lv_aload_n hx hb dX5_ifStat_61 rfl (lv_at hl 2 rfl) ?_
    refine va_get (D := (dC, dI)) (ci := 8) (fs := oF_X5 ad pr u71) (v := .ref (ad 901)) (C := RX5) (T := TX5) (N := 7) hx hb ht itX5 hown hK hP 3 rfl rfl 2 (by decide) (ht _ tw_573) (fun _ h9 => h9) rfl dX5_ifStat_62 ?_
    refine lv_bipush (v := 19) hx hb dX5_ifStat_65 (by decide) ?_
    refine lv_iload_n hx hb dX5_ifStat_67 rfl (lv_at hl 0 rfl) ?_
    refine lv_iconst (v := 0) hx hb dX5_ifStat_68 (by decide) ?_
    have q73 : (u65.1 0 381).toInt = (u40.1 0 381).toInt := congrArg Int32.toInt ((fr64.2.1 381 (by decide)).trans (show u40.1 0 381 = (u40.1 0 381) by rfl))
    have q74 : (u71.1 0 381).toInt = (u65.1 0 381).toInt := congrArg Int32.toInt ((fr70.2.1 381 (by decide)).trans (show u65.1 0 381 = (u65.1 0 381) by rfl))
    refine cu_v (rn_Vk (n := 3) (As := [.int 19, .int r66, .int 0]) (rest := []) hx hb hml hown ht hKK hFx hP hD hS hA (c_x_X1_add l dC dI cI cB cZ cJ cR tb H.size ad pr N L1 L2 u71 (19 : Int32) r66 (0 : Int32) ps (show 0 ≤ (u71.1 0 381).toInt ∧ (u71.1 0 381).toInt ≤ 3008 from (om_769192f2a4 i38139 q73 q74)) (show pr ps = ad 908 from hps) (show (u71.1 0 310) = ps from (Eq.trans (fr70.2.1 310 (by decide)) (Eq.trans (fr64.2.1 310 (by decide)) (Eq.trans (fr39.2.1 310 (by decide)) (Eq.trans (fr25.2.1 310 (by decide)) (Eq.trans (fr22.2.1 310 (by decide)) (Eq.trans (fr7.2.1 310 (by decide)) (Eq.trans (fr1.2.1 310 (by decide)) es310))))))))) tw_499 tw_592 (by decide +kernel) rfl rfl ⟨show 0 + 1 ≤ 8 * n + 35 from om_44e79b90a8, show 8 + (5 + 11) + 0 ≤ 28 * (8 * n + 35) from om_8591f594e6⟩ (List.range (cW ad pr N cI cR L1 L2 u71).length) (rg_map _) (nd_range _) 1 rfl rfl rfl rfl hl.1 rfl (Nat.le_of_ble_eq_true rfl) dX5_ifStat_69 ⟨Nat.le_of_ble_eq_true rfl, Nat.le_of_ble_eq_true rfl⟩) hP hD hS hA (fun u76 H locs hw75 hP hD hS => ?_)
    obtain ⟨fr75, i38175⟩ := hw75
    have i38175 : 0 ≤ (u76.1 0 381).toInt ∧ (u76.1 0 381).toInt ≤ 3008 := i38175
    refine W.widen (k := 0) (n := 0) (Nat.le_refl _) (Nat.le_refl _) ?_
    refine lv_aload_n hx hb dX5_ifStat_72 rfl (lv_at hl 2 rfl) ?_
    refine va_get (D := (dC, dI)) (ci := 8) (fs := oF_X5 ad pr u76) (v := .ref (ad 901)) (C := RX5) (T := TX5) (N := 7) hx hb ht itX5 hown hK hP 3 rfl rfl 2 (by decide) (ht _ tw_573) (fun _ h9 => h9) rfl dX5_ifStat_73 ?_
    refine lv_iload_n hx hb dX5_ifStat_76 rfl (lv_at hl 1 rfl) ?_
    refine cu_v (rn_Vk (n := 1) (As := [.int r3]) (rest := []) hx hb hml hown ht hKK hFx hP hD hS hA (c_x_X1_setLabel l dC dI cI cB cZ cJ cR tb H.size ad pr N L1 L2 u76 r3 ps (show 0 ≤ (u76.1 0 381).toInt ∧ (u76.1 0 381).toInt ≤ 3008 from (om_e78eec72e1 i38175)) (show pr ps = ad 908 from hps) (show (u76.1 0 310) = ps from (Eq.trans (fr75.2.1 310 (by decide)) (Eq.trans (fr70.2.1 310 (by decide)) (Eq.trans (fr64.2.1 310 (by decide)) (Eq.trans (fr39.2.1 310 (by decide)) (Eq.trans (fr25.2.1 310 (by decide)) (Eq.trans (fr22.2.1 310 (by decide)) (Eq.trans (fr7.2.1 310 (by decide)) (Eq.trans (fr1.2.1 310 (by decide)) es310)))))))))) tw_514 tw_615 (by decide +kernel) rfl rfl ⟨show 0 + 1 ≤ 8 * n + 35 from om_44e79b90a8, show 8 + (2 + 11) + 0 ≤ 28 * (8 * n + 35) from om_9288fa5c58⟩ (List.range (cW ad pr N cI cR L1 L2 u76).length) (rg_map _) (nd_range _) 1 rfl rfl rfl rfl hl.1 rfl (Nat.le_of_ble_eq_true rfl) dX5_ifStat_77 ⟨Nat.le_of_ble_eq_true rfl, Nat.le_of_ble_eq_true rfl⟩) hP hD hS hA (fun u79 H locs hw78 hP hD hS => ?_)
    have fr78 := hw78
    refine W.widen (k := 0) (n := 0) (Nat.le_refl _) (Nat.le_refl _) ?_
    refine lv_aload_n hx hb dX5_ifStat_80 rfl (lv_at hl 2 rfl) ?_
    obtain ⟨n81, hn82⟩ : ∃ m, n = m + 1 := ex_z (om_bce5f2fb63 hn11)
    have q83 : (u71.1 0 304).toInt = (u65.1 0 304).toInt := congrArg Int32.toInt ((fr70.2.1 304 (by decide)).trans (show u65.1 0 304 = (u65.1 0 304) by rfl))
    have q84 : (u76.1 0 304).toInt = (u71.1 0 304).toInt := congrArg Int32.toInt ((fr75.2.1 304 (by decide)).trans (show u71.1 0 304 = (u71.1 0 304) by rfl))
    have q85 : (u79.1 0 304).toInt = (u76.1 0 304).toInt := congrArg Int32.toInt ((fr78.2.1 304 (by decide)).trans (show u76.1 0 304 = (u76.1 0 304) by rfl))
    have q86 : (u65.1 0 306).toInt = (u40.1 0 306).toInt := congrArg Int32.toInt ((fr64.2.1 306 (by decide)).trans (show u40.1 0 306 = (u40.1 0 306) by rfl))
    have q87 : (u71.1 0 306).toInt = (u65.1 0 306).toInt := congrArg Int32.toInt ((fr70.2.1 306 (by decide)).trans (show u65.1 0 306 = (u65.1 0 306) by rfl))
    have q88 : (u76.1 0 306).toInt = (u71.1 0 306).toInt := congrArg Int32.toInt ((fr75.2.1 306 (by decide)).trans (show u71.1 0 306 = (u71.1 0 306) by rfl))
    have q89 : (u79.1 0 306).toInt = (u76.1 0 306).toInt := congrArg Int32.toInt ((fr78.2.1 306 (by decide)).trans (show u76.1 0 306 = (u76.1 0 306) by rfl))
    have q90 : (u65.1 0 312).toInt = (u40.1 0 312).toInt := congrArg Int32.toInt ((fr64.2.1 312 (by decide)).trans (show u40.1 0 312 = (u40.1 0 312) by rfl))
    have q91 : (u71.1 0 312).toInt = (u65.1 0 312).toInt := congrArg Int32.toInt ((fr70.2.1 312 (by decide)).trans (show u65.1 0 312 = (u65.1 0 312) by rfl))
    have q92 : (u76.1 0 312).toInt = (u71.1 0 312).toInt := congrArg Int32.toInt ((fr75.2.1 312 (by decide)).trans (show u71.1 0 312 = (u71.1 0 312) by rfl))
    have q93 : (u79.1 0 312).toInt = (u76.1 0 312).toInt := congrArg Int32.toInt ((fr78.2.1 312 (by decide)).trans (show u76.1 0 312 = (u76.1 0 312) by rfl))
    have q94 : (u65.1 0 321).toInt = (u40.1 0 321).toInt := congrArg Int32.toInt ((fr64.2.1 321 (by decide)).trans (show u40.1 0 321 = (u40.1 0 321) by rfl))
    have q95 : (u71.1 0 321).toInt = (u65.1 0 321).toInt := congrArg Int32.toInt ((fr70.2.1 321 (by decide)).trans (show u65.1 0 321 = (u65.1 0 321) by rfl))
    have q96 : (u76.1 0 321).toInt = (u71.1 0 321).toInt := congrArg Int32.toInt ((fr75.2.1 321 (by decide)).trans (show u71.1 0 321 = (u71.1 0 321) by rfl))
    have q97 : (u79.1 0 321).toInt = (u76.1 0 321).toInt := congrArg Int32.toInt ((fr78.2.1 321 (by decide)).trans (show u76.1 0 321 = (u76.1 0 321) by rfl))
    have q98 : (u65.1 0 326).toInt = (u40.1 0 326).toInt := congrArg Int32.toInt ((fr64.2.1 326 (by decide)).trans (show u40.1 0 326 = (u40.1 0 326) by rfl))
    have q99 : (u71.1 0 326).toInt = (u65.1 0 326).toInt := congrArg Int32.toInt ((fr70.2.1 326 (by decide)).trans (show u65.1 0 326 = (u65.1 0 326) by rfl))
    have q100 : (u76.1 0 326).toInt = (u71.1 0 326).toInt := congrArg Int32.toInt ((fr75.2.1 326 (by decide)).trans (show u71.1 0 326 = (u71.1 0 326) by rfl))
    have q101 : (u79.1 0 326).toInt = (u76.1 0 326).toInt := congrArg Int32.toInt ((fr78.2.1 326 (by decide)).trans (show u76.1 0 326 = (u76.1 0 326) by rfl))
    have q102 : (u71.1 0 373).toInt = (u65.1 0 373).toInt := congrArg Int32.toInt ((fr70.2.1 373 (by decide)).trans (show u65.1 0 373 = (u65.1 0 373) by rfl))
    have q103 : (u76.1 0 373).toInt = (u71.1 0 373).toInt := congrArg Int32.toInt ((fr75.2.1 373 (by decide)).trans (show u71.1 0 373 = (u71.1 0 373) by rfl))
    have q104 : (u79.1 0 373).toInt = (u76.1 0 373).toInt := congrArg Int32.toInt ((fr78.2.1 373 (by decide)).trans (show u76.1 0 373 = (u76.1 0 373) by rfl))
    have q105 : (u79.1 0 381).toInt = (u76.1 0 381).toInt := congrArg Int32.toInt ((fr78.2.1 381 (by decide)).trans (show u76.1 0 381 = (u76.1 0 381) by rfl))
    refine W.sz (fun hz9 => ?_)
    refine czx_v (rx_Vk (n := 0) (As := []) (rest := []) hx hb hml hown ht hKK hFx hP hD hS hA (c_x_X5_innerStat l n81 (ihS n81 hn82) dC dI cI cB cZ cJ cR tb H.size ad pr N L1 L2 u79 ps (show 0 ≤ (u79.1 0 304).toInt ∧ (u79.1 0 304).toInt ≤ 1503 from (om_295132b1a0 z304 q4 q12 q30 q31 q42 q67 q83 q84 q85)) (show 0 ≤ (u79.1 0 306).toInt ∧ (u79.1 0 306).toInt ≤ 40 from (om_67dd9b4ab9 z306 q5 pj7 po22 q32 i30639 po39 q86 q87 q88 q89)) (show 0 ≤ (u79.1 0 312).toInt ∧ (u79.1 0 312).toInt ≤ 500 from (om_31e0c91fb9 i31239 q90 q91 q92 q93)) (show 0 ≤ (u79.1 0 321).toInt ∧ (u79.1 0 321).toInt ≤ 501 from (om_404ac90bf6 i32139 q94 q95 q96 q97)) (show 0 ≤ (u79.1 0 326).toInt ∧ (u79.1 0 326).toInt ≤ 420 from (om_73f5be2f84 i32639 q98 q99 q100 q101)) (show 0 ≤ (u79.1 0 373).toInt ∧ (u79.1 0 373).toInt ≤ 4000 from (om_df10c0c0da z373 q6 q19 q37 q38 q68 q69 q102 q103 q104)) (show 0 ≤ (u79.1 0 381).toInt ∧ (u79.1 0 381).toInt ≤ 3008 from (om_6e4eb11ad3 i38175 q105)) (show L1.length = 40 from hL1) (show L2.length = 60 from hL2) (show RP u79 from ((show FC [305, 306, 307, 312, 313, 314, 315, 317, 321, 326, 331, 332, 381] [0, 311, 316, 318, 319, 320, 324, 325, 378, 379, 380] v u79 from (FC.tr (FC.tr (FC.tr (FC.tr (FC.tr (FC.tr (FC.tr (FC.tr (FC.tr (FC.rf _) (FC.up fr1 (by decide) (by decide))) (FC.up fr7 (by decide) (by decide))) (FC.up fr22 (by decide) (by decide))) (FC.up fr25 (by decide) (by decide))) (FC.up fr39 (by decide) (by decide))) (FC.up fr64 (by decide) (by decide))) (FC.up fr70 (by decide) (by decide))) (FC.up fr75 (by decide) (by decide))) (FC.up fr78 (by decide) (by decide)))).1 rp)) (show pr ps = ad 908 from hps) (show (u79.1 0 300) = ps from (Eq.trans (fr78.2.1 300 (by decide)) (Eq.trans (fr75.2.1 300 (by decide)) (Eq.trans (fr70.2.1 300 (by decide)) (Eq.trans (fr64.2.1 300 (by decide)) (Eq.trans (fr39.2.1 300 (by decide)) (Eq.trans (fr25.2.1 300 (by decide)) (Eq.trans (fr22.2.1 300 (by decide)) (Eq.trans (fr7.2.1 300 (by decide)) (Eq.trans (fr1.2.1 300 (by decide)) es300)))))))))) (show (u79.1 0 310) = ps from (Eq.trans (fr78.2.1 310 (by decide)) (Eq.trans (fr75.2.1 310 (by decide)) (Eq.trans (fr70.2.1 310 (by decide)) (Eq.trans (fr64.2.1 310 (by decide)) (Eq.trans (fr39.2.1 310 (by decide)) (Eq.trans (fr25.2.1 310 (by decide)) (Eq.trans (fr22.2.1 310 (by decide)) (Eq.trans (fr7.2.1 310 (by decide)) (Eq.trans (fr1.2.1 310 (by decide)) es310)))))))))) (show l.stackTraces = false from hst) (show 40 ≤ (u79.1 0 306).toInt + (n81 : Int) from (om_148ff8167b zn q5 pj7 po22 q32 po39 q86 q87 q88 q89 hn82))) tw_619 tw_620 (by decide +kernel) rfl rfl ⟨show (8 * n81 + 41) + 1 ≤ 8 * n + 35 from (om_414cf7965f hn82), show 8 + (3 + 11) + 28 * (8 * n81 + 41) ≤ 28 * (8 * n + 35) from (om_8d15d0cb3c hn82)⟩ (List.range (cW ad pr N cI cR L1 L2 u79).length) (rg_map _) (nd_range _) 3 rfl rfl rfl rfl hl.1 rfl (Nat.le_of_ble_eq_true rfl) dX5_ifStat_81 ⟨Nat.le_of_ble_eq_true rfl, Nat.le_of_ble_eq_true rfl⟩) hP hD hS hA (fun u9 ce9 q9 H locs hx9 hP hD hS hc9 hv9 hf9 => ?_) (fun u107 H locs hw106 hP hD hS hz8 => ?_)
    · exact vx_out (fun x h9 => (hnt x h9).elim) hlocks hc9 hv9 hf9 (fun t9 ht9 hv8 => ⟨u9, ⟨FC.tr (FC.tr (FC.tr (FC.tr (FC.tr (FC.tr (FC.tr (FC.tr (FC.tr (FC.tr (FC.rf _) (FC.up fr1 (by decide) (by decide))) (FC.up fr7 (by decide) (by decide))) (FC.up fr22 (by decide) (by decide))) (FC.up fr25 (by decide) (by decide))) (FC.up fr39 (by decide) (by decide))) (FC.up fr64 (by decide) (by decide))) (FC.up fr70 (by decide) (by decide))) (FC.up fr75 (by decide) (by decide))) (FC.up fr78 (by decide) (by decide))) hx9.1, hx9.2⟩, ⟨rfl, by rw [ht9]; exact hP, hD⟩, hS.F ht9⟩) hS.2.2 (Nat.le_refl _) (Nat.le_refl _)
    refine W.shrink (hz8.trans hz9) ?_
    obtain ⟨fr106, i306106, i312106, i321106, i326106, i381106, po106⟩ := hw106
    have i306106 : 0 ≤ (u107.1 0 306).toInt ∧ (u107.1 0 306).toInt ≤ 40 := i306106
    have i312106 : 0 ≤ (u107.1 0 312).toInt ∧ (u107.1 0 312).toInt ≤ 500 := i312106
    have i321106 : 0 ≤ (u107.1 0 321).toInt ∧ (u107.1 0 321).toInt ≤ 501 := i321106
    have i326106 : 0 ≤ (u107.1 0 326).toInt ∧ (u107.1 0 326).toInt ≤ 420 := i326106
    have i381106 : 0 ≤ (u107.1 0 381).toInt ∧ (u107.1 0 381).toInt ≤ 3008 := i381106
    have po106 : (u107.1 0 306).toInt = (u79.1 0 306).toInt := po106
    refine lv_aload_n hx hb dX5_ifStat_84 rfl (lv_at hl 2 rfl) ?_
    refine va_get (D := (dC, dI)) (ci := 8) (fs := oF_X5 ad pr u107) (v := .ref (ad 901)) (C := RX5) (T := TX5) (N := 7) hx hb ht itX5 hown hK hP 3 rfl rfl 2 (by decide) (ht _ tw_573) (fun _ h9 => h9) rfl dX5_ifStat_85 ?_
    refine lv_iload_n hx hb dX5_ifStat_88 rfl (lv_at hl 0 rfl) ?_
    refine cu_v (rn_Vk (n := 1) (As := [.int r66]) (rest := []) hx hb hml hown ht hKK hFx hP hD hS hA (c_x_X1_setLabel l dC dI cI cB cZ cJ cR tb H.size ad pr N L1 L2 u107 r66 ps (show 0 ≤ (u107.1 0 381).toInt ∧ (u107.1 0 381).toInt ≤ 3008 from (om_e78eec72e1 i381106)) (show pr ps = ad 908 from hps) (show (u107.1 0 310) = ps from (Eq.trans (fr106.2.1 310 (by decide)) (Eq.trans (fr78.2.1 310 (by decide)) (Eq.trans (fr75.2.1 310 (by decide)) (Eq.trans (fr70.2.1 310 (by decide)) (Eq.trans (fr64.2.1 310 (by decide)) (Eq.trans (fr39.2.1 310 (by decide)) (Eq.trans (fr25.2.1 310 (by decide)) (Eq.trans (fr22.2.1 310 (by decide)) (Eq.trans (fr7.2.1 310 (by decide)) (Eq.trans (fr1.2.1 310 (by decide)) es310)))))))))))) tw_514 tw_615 (by decide +kernel) rfl rfl ⟨show 0 + 1 ≤ 8 * n + 35 from om_44e79b90a8, show 8 + (2 + 11) + 0 ≤ 28 * (8 * n + 35) from om_9288fa5c58⟩ (List.range (cW ad pr N cI cR L1 L2 u107).length) (rg_map _) (nd_range _) 1 rfl rfl rfl rfl hl.1 rfl (Nat.le_of_ble_eq_true rfl) dX5_ifStat_89 ⟨Nat.le_of_ble_eq_true rfl, Nat.le_of_ble_eq_true rfl⟩) hP hD hS hA (fun u110 H locs hw109 hP hD hS => ?_)
    have fr109 := hw109
    refine W.widen (k := 0) (n := 0) (Nat.le_refl _) (Nat.le_refl _) ?_
    refine lv_goto (tgt := 103) hx hb dX5_ifStat_92 (by decide) ?_
    refine lv_aload_n hx hb dX5_ifStat_103 rfl (lv_at hl 2 rfl) ?_
    refine va_get (D := (dC, dI)) (ci := 8) (fs := oF_X5 ad pr u110) (v := .ref (ad 900)) (C := RX5) (T := TX5) (N := 7) hx hb ht itX5 hown hK hP 3 rfl rfl 1 (by decide) (ht _ tw_571) (fun _ h9 => h9) rfl dX5_ifStat_104 ?_
    have q112 : (u110.1 0 306).toInt = (u107.1 0 306).toInt := congrArg Int32.toInt ((fr109.2.1 306 (by decide)).trans (show u107.1 0 306 = (u107.1 0 306) by rfl))
    refine cu_v (rn_Vk (n := 0) (As := []) (rest := []) hx hb hml hown ht hKK hFx hP hD hS hA (c_x_X9_close l dC dI cI cB cZ cJ cR tb H.size ad pr N L1 L2 u110  (show 0 ≤ (u110.1 0 306).toInt ∧ (u110.1 0 306).toInt ≤ 40 from (om_99e115f631 i306106 q112)) (show 1 ≤ (u110.1 0 306).toInt from (om_05a978f2d0 z306 q5 pj7 po22 q32 po39 q86 q87 q88 q89 po106 q112))) tw_528 tw_595 (by decide +kernel) rfl rfl ⟨show 0 + 1 ≤ 8 * n + 35 from om_44e79b90a8, show 8 + (1 + 11) + 0 ≤ 28 * (8 * n + 35) from om_44671b5602⟩ (List.range (cW ad pr N cI cR L1 L2 u110).length) (rg_map _) (nd_range _) 0 rfl rfl rfl rfl hl.1 rfl (Nat.le_of_ble_eq_true rfl) dX5_ifStat_107 ⟨Nat.le_of_ble_eq_true rfl, Nat.le_of_ble_eq_true rfl⟩) hP hD hS hA (fun u114 H locs hw113 hP hD hS => ?_)
    obtain ⟨fr113, i306113, pj113⟩ := hw113
    have i306113 : 0 ≤ (u114.1 0 306).toInt ∧ (u114.1 0 306).toInt ≤ 40 := i306113
    have pj113 : (u114.1 0 306).toInt = (u110.1 0 306).toInt - 1 := pj113
    refine W.widen (k := 0) (n := 0) (Nat.le_refl _) (Nat.le_refl _) ?_
    have q116 : (u110.1 0 312).toInt = (u107.1 0 312).toInt := congrArg Int32.toInt ((fr109.2.1 312 (by decide)).trans (show u107.1 0 312 = (u107.1 0 312) by rfl))
    have q117 : (u114.1 0 312).toInt = (u110.1 0 312).toInt := congrArg Int32.toInt ((fr113.2.1 312 (by decide)).trans (show u110.1 0 312 = (u110.1 0 312) by rfl))
    have q118 : (u110.1 0 321).toInt = (u107.1 0 321).toInt := congrArg Int32.toInt ((fr109.2.1 321 (by decide)).trans (show u107.1 0 321 = (u107.1 0 321) by rfl))
    have q119 : (u114.1 0 321).toInt = (u110.1 0 321).toInt := congrArg Int32.toInt ((fr113.2.1 321 (by decide)).trans (show u110.1 0 321 = (u110.1 0 321) by rfl))
    have q120 : (u110.1 0 326).toInt = (u107.1 0 326).toInt := congrArg Int32.toInt ((fr109.2.1 326 (by decide)).trans (show u107.1 0 326 = (u107.1 0 326) by rfl))
    have q121 : (u114.1 0 326).toInt = (u110.1 0 326).toInt := congrArg Int32.toInt ((fr113.2.1 326 (by decide)).trans (show u110.1 0 326 = (u110.1 0 326) by rfl))
    have q122 : (u110.1 0 381).toInt = (u107.1 0 381).toInt := congrArg Int32.toInt ((fr109.2.1 381 (by decide)).trans (show u107.1 0 381 = (u107.1 0 381) by rfl))
    have q123 : (u114.1 0 381).toInt = (u110.1 0 381).toInt := congrArg Int32.toInt ((fr113.2.1 381 (by decide)).trans (show u110.1 0 381 = (u110.1 0 381) by rfl))
    refine W.sz (fun hz => ?_)
    refine vx_ret ?_
    refine W.widen (k := 1) (n := 6) (Nat.le_of_ble_eq_true rfl) (Nat.le_of_ble_eq_true rfl) ?_
    exact W.vret hx hb hr (fun t ht9 hW => ⟨⟨u114, rfl, ⟨(FC.tr (FC.tr (FC.tr (FC.tr (FC.tr (FC.tr (FC.tr (FC.tr (FC.tr (FC.tr (FC.tr (FC.tr (FC.rf _) (FC.up fr1 (by decide) (by decide))) (FC.up fr7 (by decide) (by decide))) (FC.up fr22 (by decide) (by decide))) (FC.up fr25 (by decide) (by decide))) (FC.up fr39 (by decide) (by decide))) (FC.up fr64 (by decide) (by decide))) (FC.up fr70 (by decide) (by decide))) (FC.up fr75 (by decide) (by decide))) (FC.up fr78 (by decide) (by decide))) (FC.up fr106 (by decide) (by decide))) (FC.up fr109 (by decide) (by decide))) (FC.up fr113 (by decide) (by decide))), (show 0 ≤ (u114.1 0 306).toInt ∧ (u114.1 0 306).toInt ≤ 40 from (om_7eaf33e007 i306113)), (show 0 ≤ (u114.1 0 312).toInt ∧ (u114.1 0 312).toInt ≤ 500 from (om_8a5975ec21 i312106 q116 q117)), (show 0 ≤ (u114.1 0 321).toInt ∧ (u114.1 0 321).toInt ≤ 501 from (om_4dfa815534 i321106 q118 q119)), (show 0 ≤ (u114.1 0 326).toInt ∧ (u114.1 0 326).toInt ≤ 420 from (om_9591dea625 i326106 q120 q121)), (show 0 ≤ (u114.1 0 381).toInt ∧ (u114.1 0 381).toInt ≤ 3008 from (om_769192f2a4 i381106 q122 q123)), (show (u114.1 0 306).toInt = (v.1 0 306).toInt from (om_82d5a1e88b q5 pj7 po22 q32 po39 q86 q87 q88 q89 po106 q112 pj113))⟩, ⟨by rw [ht9]; exact hP, hD⟩, by rw [ht9]; exact hz⟩, hS.F ht9⟩) hS.2.2 dX5_ifStat_110
theorem om_0d2df9f971 {n0 n1 : Nat} (h0 : n0 = n1 + 1) : (8 * n1 + 42) + 1 ≤ 8 * n0 + 35 := by omega
theorem om_52f3abbc69 {n0 n1 : Nat} (h0 : n0 = n1 + 1) : 8 + (3 + 11) + 28 * (8 * n1 + 42) ≤ 28 * (8 * n0 + 35) := by omega
theorem om_7a24763136 {x0 x1 x2 x3 x4 x5 : Int} (h0 : 0 ≤ x0 ∧ x0 ≤ 40) (h1 : x1 = x0) (h2 : x2 = x1) (h3 : x3 = x2 + 1) (h4 : x4 = x3) (h5 : x5 = x4) : 1 ≤ x5 := by omega
theorem om_190058cac4 {x0 x1 x2 x3 x4 x5 x6 : Int} (h0 : x0 = x1) (h1 : x2 = x0) (h2 : x3 = x2 + 1) (h3 : x4 = x3) (h4 : x5 = x4) (h5 : x6 = x5 - 1) : x6 = x1 := by omega
theorem om_e690bf6769 {n0 n1 : Nat} (h0 : n0 = n1 + 1) : 8 + (2 + 11) + 28 * (8 * n1 + 42) ≤ 28 * (8 * n0 + 35) := by omega
theorem om_fa4c0a5734 {n0 n1 : Nat} (h0 : n0 = n1 + 1) : 8 + (1 + 11) + 28 * (8 * n1 + 42) ≤ 28 * (8 * n0 + 35) := by omega
set_option maxHeartbeats 16000000 in
set_option maxRecDepth 100000 in
theorem c_x_X5_loopStat (l : Launch) (n : Nat) (ihS : ∀ m, n = m + 1 → Cq_stat l m) (dC : Nat → ClassId) (dI : Nat → Nat → Nat) (cI cB cZ cJ cR : ClassId) (tb : Nat → Nat) (sz : Nat) (ad : Nat → Nat) (pr : Int32 → Nat) (N : Nat) (L1 L2 : List Nat) (v : MS) (pa : Int32) (ps : Int32) (z304 : 0 ≤ (v.1 0 304).toInt ∧ (v.1 0 304).toInt ≤ 1503) (z306 : 0 ≤ (v.1 0 306).toInt ∧ (v.1 0 306).toInt ≤ 40) (z312 : 0 ≤ (v.1 0 312).toInt ∧ (v.1 0 312).toInt ≤ 500) (z321 : 0 ≤ (v.1 0 321).toInt ∧ (v.1 0 321).toInt ≤ 501) (z326 : 0 ≤ (v.1 0 326).toInt ∧ (v.1 0 326).toInt ≤ 420) (z373 : 0 ≤ (v.1 0 373).toInt ∧ (v.1 0 373).toInt ≤ 4000) (z381 : 0 ≤ (v.1 0 381).toInt ∧ (v.1 0 381).toInt ≤ 3008) (hL1 : L1.length = 40) (hL2 : L2.length = 60) (rp : RP v) (hps : pr ps = ad 908) (es300 : (v.1 0 300) = ps) (es310 : (v.1 0 310) = ps) (hst : l.stackTraces = false) (zn : 40 ≤ (v.1 0 306).toInt + (n : Int)) : vx_Met l yX5_loopStat (Cond.code yX5_loopStat cX5_loopStat 4 none :: tw_W) ({ frames := 8 * n + 35, cells := 1, slots := 6, locals := 28 * (8 * n + 35) }) (pc_ (dC, dI) (tyS cI cB cZ cJ cR) tb (cW ad pr N cI cR L1 L2 v) sz [.ref (ad 903), .int pa]) (qvz_ (dC, dI) (cW ad pr N cI cR L1 L2 v) sz (fun (u : MS) => FC [305, 306, 307, 312, 313, 314, 315, 317, 321, 326, 331, 332, 381] [0, 311, 316, 318, 319, 320, 324, 325, 378, 379, 380] v u ∧ (0 ≤ (u.1 0 306).toInt ∧ (u.1 0 306).toInt ≤ 40) ∧ (0 ≤ (u.1 0 312).toInt ∧ (u.1 0 312).toInt ≤ 500) ∧ (0 ≤ (u.1 0 321).toInt ∧ (u.1 0 321).toInt ≤ 501) ∧ (0 ≤ (u.1 0 326).toInt ∧ (u.1 0 326).toInt ≤ 420) ∧ (0 ≤ (u.1 0 381).toInt ∧ (u.1 0 381).toInt ≤ 3008) ∧ ((u.1 0 306).toInt = (v.1 0 306).toInt)) (fun (u : MS) => (cW ad pr N cI cR L1 L2 u))) (qxc (dC, dI) (cW ad pr N cI cR L1 L2 v) sz (fun (u : MS) => (cW ad pr N cI cR L1 L2 u)) (fun (u : MS) => FC xfl xal v u ∧ (u.1 0 308).toInt ≠ 0)) 1 6 (va_A (cW ad pr N cI cR L1 L2 v) sz) := by
  refine vx_ofW (cc := cX5_loopStat) (maxL := 4) (ret := none) (by decide) rfl ?_
  intro p e s m args below meth c s₁ B hml hnt hv
  obtain ⟨rfl, hsz, hP, hKK, hD0, hFx⟩ := hv
  have hK := hKK.1
  have hx := B.exec
  have hb := B.bytes
  have hr := B.returns
  have ht : ∀ w ∈ tw_W, w.before _ s = true := fun w h => atoms_spec (ws := Cond.code yX5_loopStat cX5_loopStat 4 none :: tw_W) B.pre w (List.mem_cons_of_mem _ h)
  have hown : s.vm.findClass RX5 = some m.cls := findClass_of_methodNamed B.named
  have hlocks := B.notSynchronized
  subst hsz
  unfold qvz_ qxc
  have hD := hD0.self (sz := s.heap.size)
  generalize hAe : va_A (cW ad pr N cI cR L1 L2 v) s.heap.size = A at hD hFx ⊢
  have hA : ∀ q : Nat, s.heap.size ≤ q → A q := fun q h => by rw [← hAe]; exact Or.inr h
  have hS : va_S A s.heap s.heap [] := va_S.rf
  have hl := lv_entry ([.ref (ad 903), .int pa]) (n := 4) (Nat.le_of_ble_eq_true rfl)
  rw [lg_entry_eq]
  generalize (lg_sl ([.ref (ad 903), .int pa]) ++ List.replicate (4 - (lg_sl ([.ref (ad 903), .int pa])).length) Slot.unset).toArray = ls at hl ⊢
  have hl : lv_has ls 4 [(0, .ref (ad 903)), (1, .int pa)] := hl
  refine lv_aload_n hx hb dX5_loopStat_0 rfl (lv_at hl 0 rfl) ?_
  refine va_get (D := (dC, dI)) (ci := 8) (fs := oF_X5 ad pr v) (v := .int (v.1 0 331)) (C := RX5) (T := TX5) (N := 7) hx hb ht itX5 hown hK hP 3 rfl rfl 4 (by decide) (ht _ tw_618) (fun _ h9 => h9) rfl dX5_loopStat_1 ?_
  refine lv_istore_n (lv' := [(2, .int (v.1 0 331)), (0, .ref (ad 903)), (1, .int pa)]) hx hb dX5_loopStat_4 rfl hl (by decide) rfl (fun ls hl => ?_)
  refine lv_aload_n hx hb dX5_loopStat_5 rfl (lv_at hl 1 rfl) ?_
  refine va_get (D := (dC, dI)) (ci := 8) (fs := oF_X5 ad pr v) (v := .int (v.1 0 332)) (C := RX5) (T := TX5) (N := 7) hx hb ht itX5 hown hK hP 3 rfl rfl 5 (by decide) (ht _ tw_614) (fun _ h9 => h9) rfl dX5_loopStat_6 ?_
  refine lv_istore_n (lv' := [(3, .int (v.1 0 332)), (2, .int (v.1 0 331)), (0, .ref (ad 903)), (1, .int pa)]) hx hb dX5_loopStat_9 rfl hl (by decide) rfl (fun ls hl => ?_)
  refine lv_aload_n hx hb dX5_loopStat_10 rfl (lv_at hl 2 rfl) ?_
  refine lv_aload_n hx hb dX5_loopStat_11 rfl (lv_at hl 2 rfl) ?_
  refine va_get (D := (dC, dI)) (ci := 8) (fs := oF_X5 ad pr v) (v := .ref (ad 901)) (C := RX5) (T := TX5) (N := 7) hx hb ht itX5 hown hK hP 3 rfl rfl 2 (by decide) (ht _ tw_573) (fun _ h9 => h9) rfl dX5_loopStat_12 ?_
  refine cu_i (rn_Vk (n := 0) (As := []) (rest := [.ref (ad 903)]) hx hb hml hown ht hKK hFx hP hD hS hA (c_x_X1_newLabel l dC dI cI cB cZ cJ cR tb s.heap.size ad pr N L1 L2 v  ) tw_501 tw_621 (by decide +kernel) rfl rfl ⟨show 0 + 1 ≤ 8 * n + 35 from om_44e79b90a8, show 8 + (1 + 11) + 0 ≤ 28 * (8 * n + 35) from om_44671b5602⟩ (List.range (cW ad pr N cI cR L1 L2 v).length) (rg_map _) (nd_range _) 1 rfl rfl rfl rfl hl.1 rfl (Nat.le_of_ble_eq_true rfl) dX5_loopStat_15 ⟨Nat.le_of_ble_eq_true rfl, Nat.le_of_ble_eq_true rfl⟩) hP hD hS hA (fun r3 u2 H locs hw1 hP hD hS => ?_)
  have fr1 := hw1
  refine W.widen (k := 0) (n := 0) (Nat.le_refl _) (Nat.le_refl _) ?_
  refine va_put (D := (dC, dI)) (ci := 8) (fs := oF_X5 ad pr u2) (v := .int r3) (ty := .int) (C := RX5) (T := TX5) (N := 7) hx hb ht itX5 tyX5 tyX5_ok nmX5 hown hK hP hD hS 3 rfl rfl 4 (by decide) (ht _ tw_618) (fun _ h9 => h9) rfl (by decide +kernel) rfl rfl (Nat.le_of_ble_eq_true rfl) dX5_loopStat_18 (fun H locs hP hD hS => ?_)
  have hP := cP_ (cw_331 ad pr N cI cR L1 L2 u2 r3) hP
  have hD := cD_ (cw_331 ad pr N cI cR L1 L2 u2 r3) hD
  refine lv_aload_n hx hb dX5_loopStat_21 rfl (lv_at hl 2 rfl) ?_
  refine lv_aload_n hx hb dX5_loopStat_22 rfl (lv_at hl 2 rfl) ?_
  refine va_get (D := (dC, dI)) (ci := 8) (fs := oF_X5 ad pr (wA u2 0 331 r3)) (v := .ref (ad 901)) (C := RX5) (T := TX5) (N := 7) hx hb ht itX5 hown hK hP 3 rfl rfl 2 (by decide) (ht _ tw_573) (fun _ h9 => h9) rfl dX5_loopStat_23 ?_
  refine cu_i (rn_Vk (n := 0) (As := []) (rest := [.ref (ad 903)]) hx hb hml hown ht hKK hFx hP hD hS hA (c_x_X1_newLabel l dC dI cI cB cZ cJ cR tb H.size ad pr N L1 L2 (wA u2 0 331 r3)  ) tw_501 tw_621 (by decide +kernel) rfl rfl ⟨show 0 + 1 ≤ 8 * n + 35 from om_44e79b90a8, show 8 + (1 + 11) + 0 ≤ 28 * (8 * n + 35) from om_44671b5602⟩ (List.range (cW ad pr N cI cR L1 L2 (wA u2 0 331 r3)).length) (rg_map _) (nd_range _) 1 rfl rfl rfl rfl hl.1 rfl (Nat.le_of_ble_eq_true rfl) dX5_loopStat_26 ⟨Nat.le_of_ble_eq_true rfl, Nat.le_of_ble_eq_true rfl⟩) hP hD hS hA (fun r6 u5 H locs hw4 hP hD hS => ?_)
  have fr4 := hw4
  refine W.widen (k := 0) (n := 0) (Nat.le_refl _) (Nat.le_refl _) ?_
  refine va_put (D := (dC, dI)) (ci := 8) (fs := oF_X5 ad pr u5) (v := .int r6) (ty := .int) (C := RX5) (T := TX5) (N := 7) hx hb ht itX5 tyX5 tyX5_ok nmX5 hown hK hP hD hS 3 rfl rfl 5 (by decide) (ht _ tw_614) (fun _ h9 => h9) rfl (by decide +kernel) rfl rfl (Nat.le_of_ble_eq_true rfl) dX5_loopStat_29 (fun H locs hP hD hS => ?_)
  have hP := cP_ (cw_332 ad pr N cI cR L1 L2 u5 r6) hP
  have hD := cD_ (cw_332 ad pr N cI cR L1 L2 u5 r6) hD
  refine lv_aload_n hx hb dX5_loopStat_32 rfl (lv_at hl 2 rfl) ?_
  refine va_get (D := (dC, dI)) (ci := 8) (fs := oF_X5 ad pr (wA u5 0 332 r6)) (v := .ref (ad 900)) (C := RX5) (T := TX5) (N := 7) hx hb ht itX5 hown hK hP 3 rfl rfl 1 (by decide) (ht _ tw_571) (fun _ h9 => h9) rfl dX5_loopStat_33 ?_
  have q7 : (u2.1 0 304).toInt = (v.1 0 304).toInt := congrArg Int32.toInt ((fr1.2.1 304 (by decide)).trans (show v.1 0 304 = (v.1 0 304) by rfl))
  have q8 : (u5.1 0 304).toInt = (u2.1 0 304).toInt := congrArg Int32.toInt ((fr4.2.1 304 (by decide)).trans (show (wA u2 0 331 r3).1 0 304 = (u2.1 0 304) by rfl))
  have q9 : (u2.1 0 306).toInt = (v.1 0 306).toInt := congrArg Int32.toInt ((fr1.2.1 306 (by decide)).trans (show v.1 0 306 = (v.1 0 306) by rfl))
  have q10 : (u5.1 0 306).toInt = (u2.1 0 306).toInt := congrArg Int32.toInt ((fr4.2.1 306 (by decide)).trans (show (wA u2 0 331 r3).1 0 306 = (u2.1 0 306) by rfl))
  have q11 : (u2.1 0 373).toInt = (v.1 0 373).toInt := congrArg Int32.toInt ((fr1.2.1 373 (by decide)).trans (show v.1 0 373 = (v.1 0 373) by rfl))
  have q12 : (u5.1 0 373).toInt = (u2.1 0 373).toInt := congrArg Int32.toInt ((fr4.2.1 373 (by decide)).trans (show (wA u2 0 331 r3).1 0 373 = (u2.1 0 373) by rfl))
  refine W.sz (fun hz9 => ?_)
  refine czx_v (rx_Vk (n := 0) (As := []) (rest := []) hx hb hml hown ht hKK hFx hP hD hS hA (c_x_X9_open l dC dI cI cB cZ cJ cR tb H.size ad pr N L1 L2 (wA u5 0 332 r6) ps (show 0 ≤ (u5.1 0 304).toInt ∧ (u5.1 0 304).toInt ≤ 1503 from (om_dd87ee851a z304 q7 q8)) (show 0 ≤ (u5.1 0 306).toInt ∧ (u5.1 0 306).toInt ≤ 40 from (om_68f540929a z306 q9 q10)) (show 0 ≤ (u5.1 0 373).toInt ∧ (u5.1 0 373).toInt ≤ 4000 from (om_03cd8767ac z373 q11 q12)) (show pr ps = ad 908 from hps) (show (u5.1 0 300) = ps from (Eq.trans (fr4.2.1 300 (by decide)) (Eq.trans (fr1.2.1 300 (by decide)) es300))) (show l.stackTraces = false from hst)) tw_524 tw_593 (by decide +kernel) rfl rfl ⟨show 7 + 1 ≤ 8 * n + 35 from om_c8df384e44, show 8 + (1 + 11) + 104 ≤ 28 * (8 * n + 35) from om_5e7b6cb3c8⟩ (List.range (cW ad pr N cI cR L1 L2 (wA u5 0 332 r6)).length) (rg_map _) (nd_range _) 0 rfl rfl rfl rfl hl.1 rfl (Nat.le_of_ble_eq_true rfl) dX5_loopStat_36 ⟨Nat.le_of_ble_eq_true rfl, Nat.le_of_ble_eq_true rfl⟩) hP hD hS hA (fun u9 ce9 q9 H locs hx9 hP hD hS hc9 hv9 hf9 => ?_) (fun u14 H locs hw13 hP hD hS hz8 => ?_)
  · exact vx_out (fun x h9 => (hnt x h9).elim) hlocks hc9 hv9 hf9 (fun t9 ht9 hv8 => ⟨u9, ⟨FC.tr (FC.f (FC.tr (FC.f (FC.tr (FC.rf _) (FC.up fr1 (by decide) (by decide))) r3 (by decide)) (FC.up fr4 (by decide) (by decide))) r6 (by decide)) hx9.1, hx9.2⟩, ⟨rfl, by rw [ht9]; exact hP, hD⟩, hS.F ht9⟩) hS.2.2 (Nat.le_refl _) (Nat.le_refl _)
  refine W.shrink (hz8.trans hz9) ?_
  obtain ⟨fr13, i30613, pj13⟩ := hw13
  have i30613 : 0 ≤ (u14.1 0 306).toInt ∧ (u14.1 0 306).toInt ≤ 40 := i30613
  have pj13 : (u14.1 0 306).toInt = (u5.1 0 306).toInt + 1 := pj13
  refine lv_iload_n hx hb dX5_loopStat_39 rfl (lv_at hl 3 rfl) ?_
  refine lv_bipush (v := 13) hx hb dX5_loopStat_40 (by decide) ?_
  refine lv_icmp_ne (tgt := 52) hx hb dX5_loopStat_42 (by decide) (fun h16 => ?_) (fun h16 => ?_)
  · have z17 : pa.toInt ≠ (13 : Int) := ne_z rfl (show (13 : Int32).toInt = (13 : Int) by decide) h16
    refine lv_iload_n hx hb dX5_loopStat_52 rfl (lv_at hl 3 rfl) ?_
    refine lv_bipush (v := 14) hx hb dX5_loopStat_53 (by decide) ?_
    refine lv_icmp_ne (tgt := 65) hx hb dX5_loopStat_55 (by decide) (fun h18 => ?_) (fun h18 => ?_)
    · have z19 : pa.toInt ≠ (14 : Int) := ne_z rfl (show (14 : Int32).toInt = (14 : Int) by decide) h18
      refine lv_aload_n hx hb dX5_loopStat_65 rfl (lv_at hl 2 rfl) ?_
      obtain ⟨n20, hn21⟩ : ∃ m, n = m + 1 := ex_z (om_73f0efed2d zn q9 q10 i30613 pj13)
      have q22 : (u14.1 0 304).toInt = (u5.1 0 304).toInt := congrArg Int32.toInt ((fr13.2.1 304 (by decide)).trans (show (wA u5 0 332 r6).1 0 304 = (u5.1 0 304) by rfl))
      have q23 : (u2.1 0 312).toInt = (v.1 0 312).toInt := congrArg Int32.toInt ((fr1.2.1 312 (by decide)).trans (show v.1 0 312 = (v.1 0 312) by rfl))
      have q24 : (u5.1 0 312).toInt = (u2.1 0 312).toInt := congrArg Int32.toInt ((fr4.2.1 312 (by decide)).trans (show (wA u2 0 331 r3).1 0 312 = (u2.1 0 312) by rfl))
      have q25 : (u14.1 0 312).toInt = (u5.1 0 312).toInt := congrArg Int32.toInt ((fr13.2.1 312 (by decide)).trans (show (wA u5 0 332 r6).1 0 312 = (u5.1 0 312) by rfl))
      have q26 : (u2.1 0 321).toInt = (v.1 0 321).toInt := congrArg Int32.toInt ((fr1.2.1 321 (by decide)).trans (show v.1 0 321 = (v.1 0 321) by rfl))
      have q27 : (u5.1 0 321).toInt = (u2.1 0 321).toInt := congrArg Int32.toInt ((fr4.2.1 321 (by decide)).trans (show (wA u2 0 331 r3).1 0 321 = (u2.1 0 321) by rfl))
      have q28 : (u14.1 0 321).toInt = (u5.1 0 321).toInt := congrArg Int32.toInt ((fr13.2.1 321 (by decide)).trans (show (wA u5 0 332 r6).1 0 321 = (u5.1 0 321) by rfl))
      have q29 : (u2.1 0 326).toInt = (v.1 0 326).toInt := congrArg Int32.toInt ((fr1.2.1 326 (by decide)).trans (show v.1 0 326 = (v.1 0 326) by rfl))
      have q30 : (u5.1 0 326).toInt = (u2.1 0 326).toInt := congrArg Int32.toInt ((fr4.2.1 326 (by decide)).trans (show (wA u2 0 331 r3).1 0 326 = (u2.1 0 326) by rfl))
      have q31 : (u14.1 0 326).toInt = (u5.1 0 326).toInt := congrArg Int32.toInt ((fr13.2.1 326 (by decide)).trans (show (wA u5 0 332 r6).1 0 326 = (u5.1 0 326) by rfl))
      have q32 : (u14.1 0 373).toInt = (u5.1 0 373).toInt := congrArg Int32.toInt ((fr13.2.1 373 (by decide)).trans (show (wA u5 0 332 r6).1 0 373 = (u5.1 0 373) by rfl))
      have q33 : (u2.1 0 381).toInt = (v.1 0 381).toInt := congrArg Int32.toInt ((fr1.2.1 381 (by decide)).trans (show v.1 0 381 = (v.1 0 381) by rfl))
      have q34 : (u5.1 0 381).toInt = (u2.1 0 381).toInt := congrArg Int32.toInt ((fr4.2.1 381 (by decide)).trans (show (wA u2 0 331 r3).1 0 381 = (u2.1 0 381) by rfl))
      have q35 : (u14.1 0 381).toInt = (u5.1 0 381).toInt := congrArg Int32.toInt ((fr13.2.1 381 (by decide)).trans (show (wA u5 0 332 r6).1 0 381 = (u5.1 0 381) by rfl))
      refine W.sz (fun hz9 => ?_)
      refine czx_v (rx_Vk (n := 0) (As := []) (rest := []) hx hb hml hown ht hKK hFx hP hD hS hA (c_x_X5_forRest l n20 (ihS n20 hn21) dC dI cI cB cZ cJ cR tb H.size ad pr N L1 L2 u14 ps (show 0 ≤ (u14.1 0 304).toInt ∧ (u14.1 0 304).toInt ≤ 1503 from (om_57e3d9ffbd z304 q7 q8 q22)) (show 0 ≤ (u14.1 0 306).toInt ∧ (u14.1 0 306).toInt ≤ 40 from (om_7eaf33e007 i30613)) (show 0 ≤ (u14.1 0 312).toInt ∧ (u14.1 0 312).toInt ≤ 500 from (om_a369f3fea6 z312 q23 q24 q25)) (show 0 ≤ (u14.1 0 321).toInt ∧ (u14.1 0 321).toInt ≤ 501 from (om_ca65317fd6 z321 q26 q27 q28)) (show 0 ≤ (u14.1 0 326).toInt ∧ (u14.1 0 326).toInt ≤ 420 from (om_ba86cd30dc z326 q29 q30 q31)) (show 0 ≤ (u14.1 0 373).toInt ∧ (u14.1 0 373).toInt ≤ 4000 from (om_282c7f458f z373 q11 q12 q32)) (show 0 ≤ (u14.1 0 381).toInt ∧ (u14.1 0 381).toInt ≤ 3008 from (om_f27686c115 z381 q33 q34 q35)) (show L1.length = 40 from hL1) (show L2.length = 60 from hL2) (show RP u14 from ((show FC [305, 306, 307, 312, 313, 314, 315, 317, 321, 326, 331, 332, 381] [0, 311, 316, 318, 319, 320, 324, 325, 378, 379, 380] v u14 from (FC.tr (FC.f (FC.tr (FC.f (FC.tr (FC.rf _) (FC.up fr1 (by decide) (by decide))) r3 (by decide)) (FC.up fr4 (by decide) (by decide))) r6 (by decide)) (FC.up fr13 (by decide) (by decide)))).1 rp)) (show pr ps = ad 908 from hps) (show (u14.1 0 300) = ps from (Eq.trans (fr13.2.1 300 (by decide)) (Eq.trans (fr4.2.1 300 (by decide)) (Eq.trans (fr1.2.1 300 (by decide)) es300)))) (show (u14.1 0 310) = ps from (Eq.trans (fr13.2.1 310 (by decide)) (Eq.trans (fr4.2.1 310 (by decide)) (Eq.trans (fr1.2.1 310 (by decide)) es310)))) (show l.stackTraces = false from hst) (show 40 ≤ (u14.1 0 306).toInt + (n20 : Int) from (om_2c845f05d0 zn q9 q10 pj13 hn21))) tw_626 tw_627 (by decide +kernel) rfl rfl ⟨show (8 * n20 + 42) + 1 ≤ 8 * n + 35 from (om_0d2df9f971 hn21), show 8 + (3 + 11) + 28 * (8 * n20 + 42) ≤ 28 * (8 * n + 35) from (om_52f3abbc69 hn21)⟩ (List.range (cW ad pr N cI cR L1 L2 u14).length) (rg_map _) (nd_range _) 3 rfl rfl rfl rfl hl.1 rfl (Nat.le_of_ble_eq_true rfl) dX5_loopStat_66 ⟨Nat.le_of_ble_eq_true rfl, Nat.le_of_ble_eq_true rfl⟩) hP hD hS hA (fun u9 ce9 q9 H locs hx9 hP hD hS hc9 hv9 hf9 => ?_) (fun u37 H locs hw36 hP hD hS hz8 => ?_)
      · exact vx_out (fun x h9 => (hnt x h9).elim) hlocks hc9 hv9 hf9 (fun t9 ht9 hv8 => ⟨u9, ⟨FC.tr (FC.tr (FC.f (FC.tr (FC.f (FC.tr (FC.rf _) (FC.up fr1 (by decide) (by decide))) r3 (by decide)) (FC.up fr4 (by decide) (by decide))) r6 (by decide)) (FC.up fr13 (by decide) (by decide))) hx9.1, hx9.2⟩, ⟨rfl, by rw [ht9]; exact hP, hD⟩, hS.F ht9⟩) hS.2.2 (Nat.le_refl _) (Nat.le_refl _)
      refine W.shrink (hz8.trans hz9) ?_
      obtain ⟨fr36, i30636, i31236, i32136, i32636, i38136, po36⟩ := hw36
      have i30636 : 0 ≤ (u37.1 0 306).toInt ∧ (u37.1 0 306).toInt ≤ 40 := i30636
      have i31236 : 0 ≤ (u37.1 0 312).toInt ∧ (u37.1 0 312).toInt ≤ 500 := i31236
      have i32136 : 0 ≤ (u37.1 0 321).toInt ∧ (u37.1 0 321).toInt ≤ 501 := i32136
      have i32636 : 0 ≤ (u37.1 0 326).toInt ∧ (u37.1 0 326).toInt ≤ 420 := i32636
      have i38136 : 0 ≤ (u37.1 0 381).toInt ∧ (u37.1 0 381).toInt ≤ 3008 := i38136
      have po36 : (u37.1 0 306).toInt = (u14.1 0 306).toInt := po36
      refine lv_aload_n hx hb dX5_loopStat_69 rfl (lv_at hl 2 rfl) ?_
      refine va_get (D := (dC, dI)) (ci := 8) (fs := oF_X5 ad pr u37) (v := .ref (ad 901)) (C := RX5) (T := TX5) (N := 7) hx hb ht itX5 hown hK hP 3 rfl rfl 2 (by decide) (ht _ tw_573) (fun _ h9 => h9) rfl dX5_loopStat_70 ?_
      refine lv_aload_n hx hb dX5_loopStat_73 rfl (lv_at hl 2 rfl) ?_
      refine va_get (D := (dC, dI)) (ci := 8) (fs := oF_X5 ad pr u37) (v := .int (u37.1 0 331)) (C := RX5) (T := TX5) (N := 7) hx hb ht itX5 hown hK hP 3 rfl rfl 4 (by decide) (ht _ tw_618) (fun _ h9 => h9) rfl dX5_loopStat_74 ?_
      refine cu_v (rn_Vk (n := 1) (As := [.int (u37.1 0 331)]) (rest := []) hx hb hml hown ht hKK hFx hP hD hS hA (c_x_X1_setLabel l dC dI cI cB cZ cJ cR tb H.size ad pr N L1 L2 u37 (u37.1 0 331) ps (show 0 ≤ (u37.1 0 381).toInt ∧ (u37.1 0 381).toInt ≤ 3008 from (om_e78eec72e1 i38136)) (show pr ps = ad 908 from hps) (show (u37.1 0 310) = ps from (Eq.trans (fr36.2.1 310 (by decide)) (Eq.trans (fr13.2.1 310 (by decide)) (Eq.trans (fr4.2.1 310 (by decide)) (Eq.trans (fr1.2.1 310 (by decide)) es310)))))) tw_514 tw_615 (by decide +kernel) rfl rfl ⟨show 0 + 1 ≤ 8 * n + 35 from om_44e79b90a8, show 8 + (2 + 11) + 0 ≤ 28 * (8 * n + 35) from om_9288fa5c58⟩ (List.range (cW ad pr N cI cR L1 L2 u37).length) (rg_map _) (nd_range _) 1 rfl rfl rfl rfl hl.1 rfl (Nat.le_of_ble_eq_true rfl) dX5_loopStat_77 ⟨Nat.le_of_ble_eq_true rfl, Nat.le_of_ble_eq_true rfl⟩) hP hD hS hA (fun u40 H locs hw39 hP hD hS => ?_)
      have fr39 := hw39
      refine W.widen (k := 0) (n := 0) (Nat.le_refl _) (Nat.le_refl _) ?_
      refine lv_aload_n hx hb dX5_loopStat_80 rfl (lv_at hl 2 rfl) ?_
      refine va_get (D := (dC, dI)) (ci := 8) (fs := oF_X5 ad pr u40) (v := .ref (ad 900)) (C := RX5) (T := TX5) (N := 7) hx hb ht itX5 hown hK hP 3 rfl rfl 1 (by decide) (ht _ tw_571) (fun _ h9 => h9) rfl dX5_loopStat_81 ?_
      have q42 : (u40.1 0 306).toInt = (u37.1 0 306).toInt := congrArg Int32.toInt ((fr39.2.1 306 (by decide)).trans (show u37.1 0 306 = (u37.1 0 306) by rfl))
      refine cu_v (rn_Vk (n := 0) (As := []) (rest := []) hx hb hml hown ht hKK hFx hP hD hS hA (c_x_X9_close l dC dI cI cB cZ cJ cR tb H.size ad pr N L1 L2 u40  (show 0 ≤ (u40.1 0 306).toInt ∧ (u40.1 0 306).toInt ≤ 40 from (om_99e115f631 i30636 q42)) (show 1 ≤ (u40.1 0 306).toInt from (om_7a24763136 z306 q9 q10 pj13 po36 q42))) tw_528 tw_595 (by decide +kernel) rfl rfl ⟨show 0 + 1 ≤ 8 * n + 35 from om_44e79b90a8, show 8 + (1 + 11) + 0 ≤ 28 * (8 * n + 35) from om_44671b5602⟩ (List.range (cW ad pr N cI cR L1 L2 u40).length) (rg_map _) (nd_range _) 0 rfl rfl rfl rfl hl.1 rfl (Nat.le_of_ble_eq_true rfl) dX5_loopStat_84 ⟨Nat.le_of_ble_eq_true rfl, Nat.le_of_ble_eq_true rfl⟩) hP hD hS hA (fun u44 H locs hw43 hP hD hS => ?_)
      obtain ⟨fr43, i30643, pj43⟩ := hw43
      have i30643 : 0 ≤ (u44.1 0 306).toInt ∧ (u44.1 0 306).toInt ≤ 40 := i30643
      have pj43 : (u44.1 0 306).toInt = (u40.1 0 306).toInt - 1 := pj43
      refine W.widen (k := 0) (n := 0) (Nat.le_refl _) (Nat.le_refl _) ?_
      refine lv_aload_n hx hb dX5_loopStat_87 rfl (lv_at hl 2 rfl) ?_
      refine lv_iload_n hx hb dX5_loopStat_88 rfl (lv_at hl 1 rfl) ?_
      refine va_put (D := (dC, dI)) (ci := 8) (fs := oF_X5 ad pr u44) (v := .int (v.1 0 331)) (ty := .int) (C := RX5) (T := TX5) (N := 7) hx hb ht itX5 tyX5 tyX5_ok nmX5 hown hK hP hD hS 3 rfl rfl 4 (by decide) (ht _ tw_618) (fun _ h9 => h9) rfl (by decide +kernel) rfl rfl (Nat.le_of_ble_eq_true rfl) dX5_loopStat_89 (fun H locs hP hD hS => ?_)
      have hP := cP_ (cw_331 ad pr N cI cR L1 L2 u44 (v.1 0 331)) hP
      have hD := cD_ (cw_331 ad pr N cI cR L1 L2 u44 (v.1 0 331)) hD
      refine lv_aload_n hx hb dX5_loopStat_92 rfl (lv_at hl 2 rfl) ?_
      refine lv_iload_n hx hb dX5_loopStat_93 rfl (lv_at hl 0 rfl) ?_
      refine va_put (D := (dC, dI)) (ci := 8) (fs := oF_X5 ad pr (wA u44 0 331 (v.1 0 331))) (v := .int (v.1 0 332)) (ty := .int) (C := RX5) (T := TX5) (N := 7) hx hb ht itX5 tyX5 tyX5_ok nmX5 hown hK hP hD hS 3 rfl rfl 5 (by decide) (ht _ tw_614) (fun _ h9 => h9) rfl (by decide +kernel) rfl rfl (Nat.le_of_ble_eq_true rfl) dX5_loopStat_94 (fun H locs hP hD hS => ?_)
      have hP := cP_ (cw_332 ad pr N cI cR L1 L2 (wA u44 0 331 (v.1 0 331)) (v.1 0 332)) hP
      have hD := cD_ (cw_332 ad pr N cI cR L1 L2 (wA u44 0 331 (v.1 0 331)) (v.1 0 332)) hD
      have q46 : (u40.1 0 312).toInt = (u37.1 0 312).toInt := congrArg Int32.toInt ((fr39.2.1 312 (by decide)).trans (show u37.1 0 312 = (u37.1 0 312) by rfl))
      have q47 : (u44.1 0 312).toInt = (u40.1 0 312).toInt := congrArg Int32.toInt ((fr43.2.1 312 (by decide)).trans (show u40.1 0 312 = (u40.1 0 312) by rfl))
      have q48 : (u40.1 0 321).toInt = (u37.1 0 321).toInt := congrArg Int32.toInt ((fr39.2.1 321 (by decide)).trans (show u37.1 0 321 = (u37.1 0 321) by rfl))
      have q49 : (u44.1 0 321).toInt = (u40.1 0 321).toInt := congrArg Int32.toInt ((fr43.2.1 321 (by decide)).trans (show u40.1 0 321 = (u40.1 0 321) by rfl))
      have q50 : (u40.1 0 326).toInt = (u37.1 0 326).toInt := congrArg Int32.toInt ((fr39.2.1 326 (by decide)).trans (show u37.1 0 326 = (u37.1 0 326) by rfl))
      have q51 : (u44.1 0 326).toInt = (u40.1 0 326).toInt := congrArg Int32.toInt ((fr43.2.1 326 (by decide)).trans (show u40.1 0 326 = (u40.1 0 326) by rfl))
      have q52 : (u40.1 0 381).toInt = (u37.1 0 381).toInt := congrArg Int32.toInt ((fr39.2.1 381 (by decide)).trans (show u37.1 0 381 = (u37.1 0 381) by rfl))
      have q53 : (u44.1 0 381).toInt = (u40.1 0 381).toInt := congrArg Int32.toInt ((fr43.2.1 381 (by decide)).trans (show u40.1 0 381 = (u40.1 0 381) by rfl))
      refine W.sz (fun hz => ?_)
      refine vx_ret ?_
      refine W.widen (k := 1) (n := 6) (Nat.le_of_ble_eq_true rfl) (Nat.le_of_ble_eq_true rfl) ?_
      exact W.vret hx hb hr (fun t ht9 hW => ⟨⟨(wA (wA u44 0 331 (v.1 0 331)) 0 332 (v.1 0 332)), rfl, ⟨(FC.f (FC.f (FC.tr (FC.tr (FC.tr (FC.tr (FC.f (FC.tr (FC.f (FC.tr (FC.rf _) (FC.up fr1 (by decide) (by decide))) r3 (by decide)) (FC.up fr4 (by decide) (by decide))) r6 (by decide)) (FC.up fr13 (by decide) (by decide))) (FC.up fr36 (by decide) (by decide))) (FC.up fr39 (by decide) (by decide))) (FC.up fr43 (by decide) (by decide))) (v.1 0 331) (by decide)) (v.1 0 332) (by decide)), (show 0 ≤ (u44.1 0 306).toInt ∧ (u44.1 0 306).toInt ≤ 40 from (om_7eaf33e007 i30643)), (show 0 ≤ (u44.1 0 312).toInt ∧ (u44.1 0 312).toInt ≤ 500 from (om_8a5975ec21 i31236 q46 q47)), (show 0 ≤ (u44.1 0 321).toInt ∧ (u44.1 0 321).toInt ≤ 501 from (om_4dfa815534 i32136 q48 q49)), (show 0 ≤ (u44.1 0 326).toInt ∧ (u44.1 0 326).toInt ≤ 420 from (om_9591dea625 i32636 q50 q51)), (show 0 ≤ (u44.1 0 381).toInt ∧ (u44.1 0 381).toInt ≤ 3008 from (om_769192f2a4 i38136 q52 q53)), (show (u44.1 0 306).toInt = (v.1 0 306).toInt from (om_190058cac4 q9 q10 pj13 po36 q42 pj43))⟩, ⟨by rw [ht9]; exact hP, hD⟩, by rw [ht9]; exact hz⟩, hS.F ht9⟩) hS.2.2 dX5_loopStat_97
    · have z54 : pa.toInt = (14 : Int) := eq_z rfl (show (14 : Int32).toInt = (14 : Int) by decide) h18
      refine lv_aload_n hx hb dX5_loopStat_58 rfl (lv_at hl 2 rfl) ?_
      obtain ⟨n55, hn56⟩ : ∃ m, n = m + 1 := ex_z (om_73f0efed2d zn q9 q10 i30613 pj13)
      have q57 : (u14.1 0 304).toInt = (u5.1 0 304).toInt := congrArg Int32.toInt ((fr13.2.1 304 (by decide)).trans (show (wA u5 0 332 r6).1 0 304 = (u5.1 0 304) by rfl))
      have q58 : (u2.1 0 312).toInt = (v.1 0 312).toInt := congrArg Int32.toInt ((fr1.2.1 312 (by decide)).trans (show v.1 0 312 = (v.1 0 312) by rfl))
      have q59 : (u5.1 0 312).toInt = (u2.1 0 312).toInt := congrArg Int32.toInt ((fr4.2.1 312 (by decide)).trans (show (wA u2 0 331 r3).1 0 312 = (u2.1 0 312) by rfl))
      have q60 : (u14.1 0 312).toInt = (u5.1 0 312).toInt := congrArg Int32.toInt ((fr13.2.1 312 (by decide)).trans (show (wA u5 0 332 r6).1 0 312 = (u5.1 0 312) by rfl))
      have q61 : (u2.1 0 321).toInt = (v.1 0 321).toInt := congrArg Int32.toInt ((fr1.2.1 321 (by decide)).trans (show v.1 0 321 = (v.1 0 321) by rfl))
      have q62 : (u5.1 0 321).toInt = (u2.1 0 321).toInt := congrArg Int32.toInt ((fr4.2.1 321 (by decide)).trans (show (wA u2 0 331 r3).1 0 321 = (u2.1 0 321) by rfl))
      have q63 : (u14.1 0 321).toInt = (u5.1 0 321).toInt := congrArg Int32.toInt ((fr13.2.1 321 (by decide)).trans (show (wA u5 0 332 r6).1 0 321 = (u5.1 0 321) by rfl))
      have q64 : (u2.1 0 326).toInt = (v.1 0 326).toInt := congrArg Int32.toInt ((fr1.2.1 326 (by decide)).trans (show v.1 0 326 = (v.1 0 326) by rfl))
      have q65 : (u5.1 0 326).toInt = (u2.1 0 326).toInt := congrArg Int32.toInt ((fr4.2.1 326 (by decide)).trans (show (wA u2 0 331 r3).1 0 326 = (u2.1 0 326) by rfl))
      have q66 : (u14.1 0 326).toInt = (u5.1 0 326).toInt := congrArg Int32.toInt ((fr13.2.1 326 (by decide)).trans (show (wA u5 0 332 r6).1 0 326 = (u5.1 0 326) by rfl))
      have q67 : (u14.1 0 373).toInt = (u5.1 0 373).toInt := congrArg Int32.toInt ((fr13.2.1 373 (by decide)).trans (show (wA u5 0 332 r6).1 0 373 = (u5.1 0 373) by rfl))
      have q68 : (u2.1 0 381).toInt = (v.1 0 381).toInt := congrArg Int32.toInt ((fr1.2.1 381 (by decide)).trans (show v.1 0 381 = (v.1 0 381) by rfl))
      have q69 : (u5.1 0 381).toInt = (u2.1 0 381).toInt := congrArg Int32.toInt ((fr4.2.1 381 (by decide)).trans (show (wA u2 0 331 r3).1 0 381 = (u2.1 0 381) by rfl))
      have q70 : (u14.1 0 381).toInt = (u5.1 0 381).toInt := congrArg Int32.toInt ((fr13.2.1 381 (by decide)).trans (show (wA u5 0 332 r6).1 0 381 = (u5.1 0 381) by rfl))
      refine W.sz (fun hz9 => ?_)
      refine czx_v (rx_Vk (n := 0) (As := []) (rest := []) hx hb hml hown ht hKK hFx hP hD hS hA (c_x_X5_doRest l n55 (ihS n55 hn56) dC dI cI cB cZ cJ cR tb H.size ad pr N L1 L2 u14 ps (show 0 ≤ (u14.1 0 304).toInt ∧ (u14.1 0 304).toInt ≤ 1503 from (om_57e3d9ffbd z304 q7 q8 q57)) (show 0 ≤ (u14.1 0 306).toInt ∧ (u14.1 0 306).toInt ≤ 40 from (om_7eaf33e007 i30613)) (show 0 ≤ (u14.1 0 312).toInt ∧ (u14.1 0 312).toInt ≤ 500 from (om_a369f3fea6 z312 q58 q59 q60)) (show 0 ≤ (u14.1 0 321).toInt ∧ (u14.1 0 321).toInt ≤ 501 from (om_ca65317fd6 z321 q61 q62 q63)) (show 0 ≤ (u14.1 0 326).toInt ∧ (u14.1 0 326).toInt ≤ 420 from (om_ba86cd30dc z326 q64 q65 q66)) (show 0 ≤ (u14.1 0 373).toInt ∧ (u14.1 0 373).toInt ≤ 4000 from (om_282c7f458f z373 q11 q12 q67)) (show 0 ≤ (u14.1 0 381).toInt ∧ (u14.1 0 381).toInt ≤ 3008 from (om_f27686c115 z381 q68 q69 q70)) (show L1.length = 40 from hL1) (show L2.length = 60 from hL2) (show RP u14 from ((show FC [305, 306, 307, 312, 313, 314, 315, 317, 321, 326, 331, 332, 381] [0, 311, 316, 318, 319, 320, 324, 325, 378, 379, 380] v u14 from (FC.tr (FC.f (FC.tr (FC.f (FC.tr (FC.rf _) (FC.up fr1 (by decide) (by decide))) r3 (by decide)) (FC.up fr4 (by decide) (by decide))) r6 (by decide)) (FC.up fr13 (by decide) (by decide)))).1 rp)) (show pr ps = ad 908 from hps) (show (u14.1 0 300) = ps from (Eq.trans (fr13.2.1 300 (by decide)) (Eq.trans (fr4.2.1 300 (by decide)) (Eq.trans (fr1.2.1 300 (by decide)) es300)))) (show (u14.1 0 310) = ps from (Eq.trans (fr13.2.1 310 (by decide)) (Eq.trans (fr4.2.1 310 (by decide)) (Eq.trans (fr1.2.1 310 (by decide)) es310)))) (show l.stackTraces = false from hst) (show 40 ≤ (u14.1 0 306).toInt + (n55 : Int) from (om_2c845f05d0 zn q9 q10 pj13 hn56))) tw_628 tw_629 (by decide +kernel) rfl rfl ⟨show (8 * n55 + 42) + 1 ≤ 8 * n + 35 from (om_0d2df9f971 hn56), show 8 + (2 + 11) + 28 * (8 * n55 + 42) ≤ 28 * (8 * n + 35) from (om_e690bf6769 hn56)⟩ (List.range (cW ad pr N cI cR L1 L2 u14).length) (rg_map _) (nd_range _) 3 rfl rfl rfl rfl hl.1 rfl (Nat.le_of_ble_eq_true rfl) dX5_loopStat_59 ⟨Nat.le_of_ble_eq_true rfl, Nat.le_of_ble_eq_true rfl⟩) hP hD hS hA (fun u9 ce9 q9 H locs hx9 hP hD hS hc9 hv9 hf9 => ?_) (fun u72 H locs hw71 hP hD hS hz8 => ?_)
      · exact vx_out (fun x h9 => (hnt x h9).elim) hlocks hc9 hv9 hf9 (fun t9 ht9 hv8 => ⟨u9, ⟨FC.tr (FC.tr (FC.f (FC.tr (FC.f (FC.tr (FC.rf _) (FC.up fr1 (by decide) (by decide))) r3 (by decide)) (FC.up fr4 (by decide) (by decide))) r6 (by decide)) (FC.up fr13 (by decide) (by decide))) hx9.1, hx9.2⟩, ⟨rfl, by rw [ht9]; exact hP, hD⟩, hS.F ht9⟩) hS.2.2 (Nat.le_refl _) (Nat.le_refl _)
      refine W.shrink (hz8.trans hz9) ?_
      obtain ⟨fr71, i30671, i31271, i32171, i32671, i38171, po71⟩ := hw71
      have i30671 : 0 ≤ (u72.1 0 306).toInt ∧ (u72.1 0 306).toInt ≤ 40 := i30671
      have i31271 : 0 ≤ (u72.1 0 312).toInt ∧ (u72.1 0 312).toInt ≤ 500 := i31271
      have i32171 : 0 ≤ (u72.1 0 321).toInt ∧ (u72.1 0 321).toInt ≤ 501 := i32171
      have i32671 : 0 ≤ (u72.1 0 326).toInt ∧ (u72.1 0 326).toInt ≤ 420 := i32671
      have i38171 : 0 ≤ (u72.1 0 381).toInt ∧ (u72.1 0 381).toInt ≤ 3008 := i38171
      have po71 : (u72.1 0 306).toInt = (u14.1 0 306).toInt := po71
      refine lv_goto (tgt := 69) hx hb dX5_loopStat_62 (by decide) ?_
      refine lv_aload_n hx hb dX5_loopStat_69 rfl (lv_at hl 2 rfl) ?_
      refine va_get (D := (dC, dI)) (ci := 8) (fs := oF_X5 ad pr u72) (v := .ref (ad 901)) (C := RX5) (T := TX5) (N := 7) hx hb ht itX5 hown hK hP 3 rfl rfl 2 (by decide) (ht _ tw_573) (fun _ h9 => h9) rfl dX5_loopStat_70 ?_
      refine lv_aload_n hx hb dX5_loopStat_73 rfl (lv_at hl 2 rfl) ?_
      refine va_get (D := (dC, dI)) (ci := 8) (fs := oF_X5 ad pr u72) (v := .int (u72.1 0 331)) (C := RX5) (T := TX5) (N := 7) hx hb ht itX5 hown hK hP 3 rfl rfl 4 (by decide) (ht _ tw_618) (fun _ h9 => h9) rfl dX5_loopStat_74 ?_
      refine cu_v (rn_Vk (n := 1) (As := [.int (u72.1 0 331)]) (rest := []) hx hb hml hown ht hKK hFx hP hD hS hA (c_x_X1_setLabel l dC dI cI cB cZ cJ cR tb H.size ad pr N L1 L2 u72 (u72.1 0 331) ps (show 0 ≤ (u72.1 0 381).toInt ∧ (u72.1 0 381).toInt ≤ 3008 from (om_e78eec72e1 i38171)) (show pr ps = ad 908 from hps) (show (u72.1 0 310) = ps from (Eq.trans (fr71.2.1 310 (by decide)) (Eq.trans (fr13.2.1 310 (by decide)) (Eq.trans (fr4.2.1 310 (by decide)) (Eq.trans (fr1.2.1 310 (by decide)) es310)))))) tw_514 tw_615 (by decide +kernel) rfl rfl ⟨show 0 + 1 ≤ 8 * n + 35 from om_44e79b90a8, show 8 + (2 + 11) + 0 ≤ 28 * (8 * n + 35) from om_9288fa5c58⟩ (List.range (cW ad pr N cI cR L1 L2 u72).length) (rg_map _) (nd_range _) 1 rfl rfl rfl rfl hl.1 rfl (Nat.le_of_ble_eq_true rfl) dX5_loopStat_77 ⟨Nat.le_of_ble_eq_true rfl, Nat.le_of_ble_eq_true rfl⟩) hP hD hS hA (fun u75 H locs hw74 hP hD hS => ?_)
      have fr74 := hw74
      refine W.widen (k := 0) (n := 0) (Nat.le_refl _) (Nat.le_refl _) ?_
      refine lv_aload_n hx hb dX5_loopStat_80 rfl (lv_at hl 2 rfl) ?_
      refine va_get (D := (dC, dI)) (ci := 8) (fs := oF_X5 ad pr u75) (v := .ref (ad 900)) (C := RX5) (T := TX5) (N := 7) hx hb ht itX5 hown hK hP 3 rfl rfl 1 (by decide) (ht _ tw_571) (fun _ h9 => h9) rfl dX5_loopStat_81 ?_
      have q77 : (u75.1 0 306).toInt = (u72.1 0 306).toInt := congrArg Int32.toInt ((fr74.2.1 306 (by decide)).trans (show u72.1 0 306 = (u72.1 0 306) by rfl))
      refine cu_v (rn_Vk (n := 0) (As := []) (rest := []) hx hb hml hown ht hKK hFx hP hD hS hA (c_x_X9_close l dC dI cI cB cZ cJ cR tb H.size ad pr N L1 L2 u75  (show 0 ≤ (u75.1 0 306).toInt ∧ (u75.1 0 306).toInt ≤ 40 from (om_99e115f631 i30671 q77)) (show 1 ≤ (u75.1 0 306).toInt from (om_7a24763136 z306 q9 q10 pj13 po71 q77))) tw_528 tw_595 (by decide +kernel) rfl rfl ⟨show 0 + 1 ≤ 8 * n + 35 from om_44e79b90a8, show 8 + (1 + 11) + 0 ≤ 28 * (8 * n + 35) from om_44671b5602⟩ (List.range (cW ad pr N cI cR L1 L2 u75).length) (rg_map _) (nd_range _) 0 rfl rfl rfl rfl hl.1 rfl (Nat.le_of_ble_eq_true rfl) dX5_loopStat_84 ⟨Nat.le_of_ble_eq_true rfl, Nat.le_of_ble_eq_true rfl⟩) hP hD hS hA (fun u79 H locs hw78 hP hD hS => ?_)
      obtain ⟨fr78, i30678, pj78⟩ := hw78
      have i30678 : 0 ≤ (u79.1 0 306).toInt ∧ (u79.1 0 306).toInt ≤ 40 := i30678
      have pj78 : (u79.1 0 306).toInt = (u75.1 0 306).toInt - 1 := pj78
      refine W.widen (k := 0) (n := 0) (Nat.le_refl _) (Nat.le_refl _) ?_
      refine lv_aload_n hx hb dX5_loopStat_87 rfl (lv_at hl 2 rfl) ?_
      refine lv_iload_n hx hb dX5_loopStat_88 rfl (lv_at hl 1 rfl) ?_
      refine va_put (D := (dC, dI)) (ci := 8) (fs := oF_X5 ad pr u79) (v := .int (v.1 0 331)) (ty := .int) (C := RX5) (T := TX5) (N := 7) hx hb ht itX5 tyX5 tyX5_ok nmX5 hown hK hP hD hS 3 rfl rfl 4 (by decide) (ht _ tw_618) (fun _ h9 => h9) rfl (by decide +kernel) rfl rfl (Nat.le_of_ble_eq_true rfl) dX5_loopStat_89 (fun H locs hP hD hS => ?_)
      have hP := cP_ (cw_331 ad pr N cI cR L1 L2 u79 (v.1 0 331)) hP
      have hD := cD_ (cw_331 ad pr N cI cR L1 L2 u79 (v.1 0 331)) hD
      refine lv_aload_n hx hb dX5_loopStat_92 rfl (lv_at hl 2 rfl) ?_
      refine lv_iload_n hx hb dX5_loopStat_93 rfl (lv_at hl 0 rfl) ?_
      refine va_put (D := (dC, dI)) (ci := 8) (fs := oF_X5 ad pr (wA u79 0 331 (v.1 0 331))) (v := .int (v.1 0 332)) (ty := .int) (C := RX5) (T := TX5) (N := 7) hx hb ht itX5 tyX5 tyX5_ok nmX5 hown hK hP hD hS 3 rfl rfl 5 (by decide) (ht _ tw_614) (fun _ h9 => h9) rfl (by decide +kernel) rfl rfl (Nat.le_of_ble_eq_true rfl) dX5_loopStat_94 (fun H locs hP hD hS => ?_)
      have hP := cP_ (cw_332 ad pr N cI cR L1 L2 (wA u79 0 331 (v.1 0 331)) (v.1 0 332)) hP
      have hD := cD_ (cw_332 ad pr N cI cR L1 L2 (wA u79 0 331 (v.1 0 331)) (v.1 0 332)) hD
      have q81 : (u75.1 0 312).toInt = (u72.1 0 312).toInt := congrArg Int32.toInt ((fr74.2.1 312 (by decide)).trans (show u72.1 0 312 = (u72.1 0 312) by rfl))
      have q82 : (u79.1 0 312).toInt = (u75.1 0 312).toInt := congrArg Int32.toInt ((fr78.2.1 312 (by decide)).trans (show u75.1 0 312 = (u75.1 0 312) by rfl))
      have q83 : (u75.1 0 321).toInt = (u72.1 0 321).toInt := congrArg Int32.toInt ((fr74.2.1 321 (by decide)).trans (show u72.1 0 321 = (u72.1 0 321) by rfl))
      have q84 : (u79.1 0 321).toInt = (u75.1 0 321).toInt := congrArg Int32.toInt ((fr78.2.1 321 (by decide)).trans (show u75.1 0 321 = (u75.1 0 321) by rfl))
      have q85 : (u75.1 0 326).toInt = (u72.1 0 326).toInt := congrArg Int32.toInt ((fr74.2.1 326 (by decide)).trans (show u72.1 0 326 = (u72.1 0 326) by rfl))
      have q86 : (u79.1 0 326).toInt = (u75.1 0 326).toInt := congrArg Int32.toInt ((fr78.2.1 326 (by decide)).trans (show u75.1 0 326 = (u75.1 0 326) by rfl))
      have q87 : (u75.1 0 381).toInt = (u72.1 0 381).toInt := congrArg Int32.toInt ((fr74.2.1 381 (by decide)).trans (show u72.1 0 381 = (u72.1 0 381) by rfl))
      have q88 : (u79.1 0 381).toInt = (u75.1 0 381).toInt := congrArg Int32.toInt ((fr78.2.1 381 (by decide)).trans (show u75.1 0 381 = (u75.1 0 381) by rfl))
      refine W.sz (fun hz => ?_)
      refine vx_ret ?_
      refine W.widen (k := 1) (n := 6) (Nat.le_of_ble_eq_true rfl) (Nat.le_of_ble_eq_true rfl) ?_
      exact W.vret hx hb hr (fun t ht9 hW => ⟨⟨(wA (wA u79 0 331 (v.1 0 331)) 0 332 (v.1 0 332)), rfl, ⟨(FC.f (FC.f (FC.tr (FC.tr (FC.tr (FC.tr (FC.f (FC.tr (FC.f (FC.tr (FC.rf _) (FC.up fr1 (by decide) (by decide))) r3 (by decide)) (FC.up fr4 (by decide) (by decide))) r6 (by decide)) (FC.up fr13 (by decide) (by decide))) (FC.up fr71 (by decide) (by decide))) (FC.up fr74 (by decide) (by decide))) (FC.up fr78 (by decide) (by decide))) (v.1 0 331) (by decide)) (v.1 0 332) (by decide)), (show 0 ≤ (u79.1 0 306).toInt ∧ (u79.1 0 306).toInt ≤ 40 from (om_7eaf33e007 i30678)), (show 0 ≤ (u79.1 0 312).toInt ∧ (u79.1 0 312).toInt ≤ 500 from (om_8a5975ec21 i31271 q81 q82)), (show 0 ≤ (u79.1 0 321).toInt ∧ (u79.1 0 321).toInt ≤ 501 from (om_4dfa815534 i32171 q83 q84)), (show 0 ≤ (u79.1 0 326).toInt ∧ (u79.1 0 326).toInt ≤ 420 from (om_9591dea625 i32671 q85 q86)), (show 0 ≤ (u79.1 0 381).toInt ∧ (u79.1 0 381).toInt ≤ 3008 from (om_769192f2a4 i38171 q87 q88)), (show (u79.1 0 306).toInt = (v.1 0 306).toInt from (om_190058cac4 q9 q10 pj13 po71 q77 pj78))⟩, ⟨by rw [ht9]; exact hP, hD⟩, by rw [ht9]; exact hz⟩, hS.F ht9⟩) hS.2.2 dX5_loopStat_97
  · have z89 : pa.toInt = (13 : Int) := eq_z rfl (show (13 : Int32).toInt = (13 : Int) by decide) h16
    refine lv_aload_n hx hb dX5_loopStat_45 rfl (lv_at hl 2 rfl) ?_
    obtain ⟨n90, hn91⟩ : ∃ m, n = m + 1 := ex_z (om_73f0efed2d zn q9 q10 i30613 pj13)
    have q92 : (u14.1 0 304).toInt = (u5.1 0 304).toInt := congrArg Int32.toInt ((fr13.2.1 304 (by decide)).trans (show (wA u5 0 332 r6).1 0 304 = (u5.1 0 304) by rfl))
    have q93 : (u2.1 0 312).toInt = (v.1 0 312).toInt := congrArg Int32.toInt ((fr1.2.1 312 (by decide)).trans (show v.1 0 312 = (v.1 0 312) by rfl))
    have q94 : (u5.1 0 312).toInt = (u2.1 0 312).toInt := congrArg Int32.toInt ((fr4.2.1 312 (by decide)).trans (show (wA u2 0 331 r3).1 0 312 = (u2.1 0 312) by rfl))
    have q95 : (u14.1 0 312).toInt = (u5.1 0 312).toInt := congrArg Int32.toInt ((fr13.2.1 312 (by decide)).trans (show (wA u5 0 332 r6).1 0 312 = (u5.1 0 312) by rfl))
    have q96 : (u2.1 0 321).toInt = (v.1 0 321).toInt := congrArg Int32.toInt ((fr1.2.1 321 (by decide)).trans (show v.1 0 321 = (v.1 0 321) by rfl))
    have q97 : (u5.1 0 321).toInt = (u2.1 0 321).toInt := congrArg Int32.toInt ((fr4.2.1 321 (by decide)).trans (show (wA u2 0 331 r3).1 0 321 = (u2.1 0 321) by rfl))
    have q98 : (u14.1 0 321).toInt = (u5.1 0 321).toInt := congrArg Int32.toInt ((fr13.2.1 321 (by decide)).trans (show (wA u5 0 332 r6).1 0 321 = (u5.1 0 321) by rfl))
    have q99 : (u2.1 0 326).toInt = (v.1 0 326).toInt := congrArg Int32.toInt ((fr1.2.1 326 (by decide)).trans (show v.1 0 326 = (v.1 0 326) by rfl))
    have q100 : (u5.1 0 326).toInt = (u2.1 0 326).toInt := congrArg Int32.toInt ((fr4.2.1 326 (by decide)).trans (show (wA u2 0 331 r3).1 0 326 = (u2.1 0 326) by rfl))
    have q101 : (u14.1 0 326).toInt = (u5.1 0 326).toInt := congrArg Int32.toInt ((fr13.2.1 326 (by decide)).trans (show (wA u5 0 332 r6).1 0 326 = (u5.1 0 326) by rfl))
    have q102 : (u14.1 0 373).toInt = (u5.1 0 373).toInt := congrArg Int32.toInt ((fr13.2.1 373 (by decide)).trans (show (wA u5 0 332 r6).1 0 373 = (u5.1 0 373) by rfl))
    have q103 : (u2.1 0 381).toInt = (v.1 0 381).toInt := congrArg Int32.toInt ((fr1.2.1 381 (by decide)).trans (show v.1 0 381 = (v.1 0 381) by rfl))
    have q104 : (u5.1 0 381).toInt = (u2.1 0 381).toInt := congrArg Int32.toInt ((fr4.2.1 381 (by decide)).trans (show (wA u2 0 331 r3).1 0 381 = (u2.1 0 381) by rfl))
    have q105 : (u14.1 0 381).toInt = (u5.1 0 381).toInt := congrArg Int32.toInt ((fr13.2.1 381 (by decide)).trans (show (wA u5 0 332 r6).1 0 381 = (u5.1 0 381) by rfl))
    refine W.sz (fun hz9 => ?_)
    refine czx_v (rx_Vk (n := 0) (As := []) (rest := []) hx hb hml hown ht hKK hFx hP hD hS hA (c_x_X5_whileRest l n90 (ihS n90 hn91) dC dI cI cB cZ cJ cR tb H.size ad pr N L1 L2 u14 ps (show 0 ≤ (u14.1 0 304).toInt ∧ (u14.1 0 304).toInt ≤ 1503 from (om_57e3d9ffbd z304 q7 q8 q92)) (show 0 ≤ (u14.1 0 306).toInt ∧ (u14.1 0 306).toInt ≤ 40 from (om_7eaf33e007 i30613)) (show 0 ≤ (u14.1 0 312).toInt ∧ (u14.1 0 312).toInt ≤ 500 from (om_a369f3fea6 z312 q93 q94 q95)) (show 0 ≤ (u14.1 0 321).toInt ∧ (u14.1 0 321).toInt ≤ 501 from (om_ca65317fd6 z321 q96 q97 q98)) (show 0 ≤ (u14.1 0 326).toInt ∧ (u14.1 0 326).toInt ≤ 420 from (om_ba86cd30dc z326 q99 q100 q101)) (show 0 ≤ (u14.1 0 373).toInt ∧ (u14.1 0 373).toInt ≤ 4000 from (om_282c7f458f z373 q11 q12 q102)) (show 0 ≤ (u14.1 0 381).toInt ∧ (u14.1 0 381).toInt ≤ 3008 from (om_f27686c115 z381 q103 q104 q105)) (show L1.length = 40 from hL1) (show L2.length = 60 from hL2) (show RP u14 from ((show FC [305, 306, 307, 312, 313, 314, 315, 317, 321, 326, 331, 332, 381] [0, 311, 316, 318, 319, 320, 324, 325, 378, 379, 380] v u14 from (FC.tr (FC.f (FC.tr (FC.f (FC.tr (FC.rf _) (FC.up fr1 (by decide) (by decide))) r3 (by decide)) (FC.up fr4 (by decide) (by decide))) r6 (by decide)) (FC.up fr13 (by decide) (by decide)))).1 rp)) (show pr ps = ad 908 from hps) (show (u14.1 0 300) = ps from (Eq.trans (fr13.2.1 300 (by decide)) (Eq.trans (fr4.2.1 300 (by decide)) (Eq.trans (fr1.2.1 300 (by decide)) es300)))) (show (u14.1 0 310) = ps from (Eq.trans (fr13.2.1 310 (by decide)) (Eq.trans (fr4.2.1 310 (by decide)) (Eq.trans (fr1.2.1 310 (by decide)) es310)))) (show l.stackTraces = false from hst) (show 40 ≤ (u14.1 0 306).toInt + (n90 : Int) from (om_2c845f05d0 zn q9 q10 pj13 hn91))) tw_630 tw_631 (by decide +kernel) rfl rfl ⟨show (8 * n90 + 42) + 1 ≤ 8 * n + 35 from (om_0d2df9f971 hn91), show 8 + (1 + 11) + 28 * (8 * n90 + 42) ≤ 28 * (8 * n + 35) from (om_fa4c0a5734 hn91)⟩ (List.range (cW ad pr N cI cR L1 L2 u14).length) (rg_map _) (nd_range _) 3 rfl rfl rfl rfl hl.1 rfl (Nat.le_of_ble_eq_true rfl) dX5_loopStat_46 ⟨Nat.le_of_ble_eq_true rfl, Nat.le_of_ble_eq_true rfl⟩) hP hD hS hA (fun u9 ce9 q9 H locs hx9 hP hD hS hc9 hv9 hf9 => ?_) (fun u107 H locs hw106 hP hD hS hz8 => ?_)
    · exact vx_out (fun x h9 => (hnt x h9).elim) hlocks hc9 hv9 hf9 (fun t9 ht9 hv8 => ⟨u9, ⟨FC.tr (FC.tr (FC.f (FC.tr (FC.f (FC.tr (FC.rf _) (FC.up fr1 (by decide) (by decide))) r3 (by decide)) (FC.up fr4 (by decide) (by decide))) r6 (by decide)) (FC.up fr13 (by decide) (by decide))) hx9.1, hx9.2⟩, ⟨rfl, by rw [ht9]; exact hP, hD⟩, hS.F ht9⟩) hS.2.2 (Nat.le_refl _) (Nat.le_refl _)
    refine W.shrink (hz8.trans hz9) ?_
    obtain ⟨fr106, i306106, i312106, i321106, i326106, i381106, po106⟩ := hw106
    have i306106 : 0 ≤ (u107.1 0 306).toInt ∧ (u107.1 0 306).toInt ≤ 40 := i306106
    have i312106 : 0 ≤ (u107.1 0 312).toInt ∧ (u107.1 0 312).toInt ≤ 500 := i312106
    have i321106 : 0 ≤ (u107.1 0 321).toInt ∧ (u107.1 0 321).toInt ≤ 501 := i321106
    have i326106 : 0 ≤ (u107.1 0 326).toInt ∧ (u107.1 0 326).toInt ≤ 420 := i326106
    have i381106 : 0 ≤ (u107.1 0 381).toInt ∧ (u107.1 0 381).toInt ≤ 3008 := i381106
    have po106 : (u107.1 0 306).toInt = (u14.1 0 306).toInt := po106
    refine lv_goto (tgt := 69) hx hb dX5_loopStat_49 (by decide) ?_
    refine lv_aload_n hx hb dX5_loopStat_69 rfl (lv_at hl 2 rfl) ?_
    refine va_get (D := (dC, dI)) (ci := 8) (fs := oF_X5 ad pr u107) (v := .ref (ad 901)) (C := RX5) (T := TX5) (N := 7) hx hb ht itX5 hown hK hP 3 rfl rfl 2 (by decide) (ht _ tw_573) (fun _ h9 => h9) rfl dX5_loopStat_70 ?_
    refine lv_aload_n hx hb dX5_loopStat_73 rfl (lv_at hl 2 rfl) ?_
    refine va_get (D := (dC, dI)) (ci := 8) (fs := oF_X5 ad pr u107) (v := .int (u107.1 0 331)) (C := RX5) (T := TX5) (N := 7) hx hb ht itX5 hown hK hP 3 rfl rfl 4 (by decide) (ht _ tw_618) (fun _ h9 => h9) rfl dX5_loopStat_74 ?_
    refine cu_v (rn_Vk (n := 1) (As := [.int (u107.1 0 331)]) (rest := []) hx hb hml hown ht hKK hFx hP hD hS hA (c_x_X1_setLabel l dC dI cI cB cZ cJ cR tb H.size ad pr N L1 L2 u107 (u107.1 0 331) ps (show 0 ≤ (u107.1 0 381).toInt ∧ (u107.1 0 381).toInt ≤ 3008 from (om_e78eec72e1 i381106)) (show pr ps = ad 908 from hps) (show (u107.1 0 310) = ps from (Eq.trans (fr106.2.1 310 (by decide)) (Eq.trans (fr13.2.1 310 (by decide)) (Eq.trans (fr4.2.1 310 (by decide)) (Eq.trans (fr1.2.1 310 (by decide)) es310)))))) tw_514 tw_615 (by decide +kernel) rfl rfl ⟨show 0 + 1 ≤ 8 * n + 35 from om_44e79b90a8, show 8 + (2 + 11) + 0 ≤ 28 * (8 * n + 35) from om_9288fa5c58⟩ (List.range (cW ad pr N cI cR L1 L2 u107).length) (rg_map _) (nd_range _) 1 rfl rfl rfl rfl hl.1 rfl (Nat.le_of_ble_eq_true rfl) dX5_loopStat_77 ⟨Nat.le_of_ble_eq_true rfl, Nat.le_of_ble_eq_true rfl⟩) hP hD hS hA (fun u110 H locs hw109 hP hD hS => ?_)
    have fr109 := hw109
    refine W.widen (k := 0) (n := 0) (Nat.le_refl _) (Nat.le_refl _) ?_
    refine lv_aload_n hx hb dX5_loopStat_80 rfl (lv_at hl 2 rfl) ?_
    refine va_get (D := (dC, dI)) (ci := 8) (fs := oF_X5 ad pr u110) (v := .ref (ad 900)) (C := RX5) (T := TX5) (N := 7) hx hb ht itX5 hown hK hP 3 rfl rfl 1 (by decide) (ht _ tw_571) (fun _ h9 => h9) rfl dX5_loopStat_81 ?_
    have q112 : (u110.1 0 306).toInt = (u107.1 0 306).toInt := congrArg Int32.toInt ((fr109.2.1 306 (by decide)).trans (show u107.1 0 306 = (u107.1 0 306) by rfl))
    refine cu_v (rn_Vk (n := 0) (As := []) (rest := []) hx hb hml hown ht hKK hFx hP hD hS hA (c_x_X9_close l dC dI cI cB cZ cJ cR tb H.size ad pr N L1 L2 u110  (show 0 ≤ (u110.1 0 306).toInt ∧ (u110.1 0 306).toInt ≤ 40 from (om_99e115f631 i306106 q112)) (show 1 ≤ (u110.1 0 306).toInt from (om_7a24763136 z306 q9 q10 pj13 po106 q112))) tw_528 tw_595 (by decide +kernel) rfl rfl ⟨show 0 + 1 ≤ 8 * n + 35 from om_44e79b90a8, show 8 + (1 + 11) + 0 ≤ 28 * (8 * n + 35) from om_44671b5602⟩ (List.range (cW ad pr N cI cR L1 L2 u110).length) (rg_map _) (nd_range _) 0 rfl rfl rfl rfl hl.1 rfl (Nat.le_of_ble_eq_true rfl) dX5_loopStat_84 ⟨Nat.le_of_ble_eq_true rfl, Nat.le_of_ble_eq_true rfl⟩) hP hD hS hA (fun u114 H locs hw113 hP hD hS => ?_)
    obtain ⟨fr113, i306113, pj113⟩ := hw113
    have i306113 : 0 ≤ (u114.1 0 306).toInt ∧ (u114.1 0 306).toInt ≤ 40 := i306113
    have pj113 : (u114.1 0 306).toInt = (u110.1 0 306).toInt - 1 := pj113
    refine W.widen (k := 0) (n := 0) (Nat.le_refl _) (Nat.le_refl _) ?_
    refine lv_aload_n hx hb dX5_loopStat_87 rfl (lv_at hl 2 rfl) ?_
    refine lv_iload_n hx hb dX5_loopStat_88 rfl (lv_at hl 1 rfl) ?_
    refine va_put (D := (dC, dI)) (ci := 8) (fs := oF_X5 ad pr u114) (v := .int (v.1 0 331)) (ty := .int) (C := RX5) (T := TX5) (N := 7) hx hb ht itX5 tyX5 tyX5_ok nmX5 hown hK hP hD hS 3 rfl rfl 4 (by decide) (ht _ tw_618) (fun _ h9 => h9) rfl (by decide +kernel) rfl rfl (Nat.le_of_ble_eq_true rfl) dX5_loopStat_89 (fun H locs hP hD hS => ?_)
    have hP := cP_ (cw_331 ad pr N cI cR L1 L2 u114 (v.1 0 331)) hP
    have hD := cD_ (cw_331 ad pr N cI cR L1 L2 u114 (v.1 0 331)) hD
    refine lv_aload_n hx hb dX5_loopStat_92 rfl (lv_at hl 2 rfl) ?_
    refine lv_iload_n hx hb dX5_loopStat_93 rfl (lv_at hl 0 rfl) ?_
    refine va_put (D := (dC, dI)) (ci := 8) (fs := oF_X5 ad pr (wA u114 0 331 (v.1 0 331))) (v := .int (v.1 0 332)) (ty := .int) (C := RX5) (T := TX5) (N := 7) hx hb ht itX5 tyX5 tyX5_ok nmX5 hown hK hP hD hS 3 rfl rfl 5 (by decide) (ht _ tw_614) (fun _ h9 => h9) rfl (by decide +kernel) rfl rfl (Nat.le_of_ble_eq_true rfl) dX5_loopStat_94 (fun H locs hP hD hS => ?_)
    have hP := cP_ (cw_332 ad pr N cI cR L1 L2 (wA u114 0 331 (v.1 0 331)) (v.1 0 332)) hP
    have hD := cD_ (cw_332 ad pr N cI cR L1 L2 (wA u114 0 331 (v.1 0 331)) (v.1 0 332)) hD
    have q116 : (u110.1 0 312).toInt = (u107.1 0 312).toInt := congrArg Int32.toInt ((fr109.2.1 312 (by decide)).trans (show u107.1 0 312 = (u107.1 0 312) by rfl))
    have q117 : (u114.1 0 312).toInt = (u110.1 0 312).toInt := congrArg Int32.toInt ((fr113.2.1 312 (by decide)).trans (show u110.1 0 312 = (u110.1 0 312) by rfl))
    have q118 : (u110.1 0 321).toInt = (u107.1 0 321).toInt := congrArg Int32.toInt ((fr109.2.1 321 (by decide)).trans (show u107.1 0 321 = (u107.1 0 321) by rfl))
    have q119 : (u114.1 0 321).toInt = (u110.1 0 321).toInt := congrArg Int32.toInt ((fr113.2.1 321 (by decide)).trans (show u110.1 0 321 = (u110.1 0 321) by rfl))
    have q120 : (u110.1 0 326).toInt = (u107.1 0 326).toInt := congrArg Int32.toInt ((fr109.2.1 326 (by decide)).trans (show u107.1 0 326 = (u107.1 0 326) by rfl))
    have q121 : (u114.1 0 326).toInt = (u110.1 0 326).toInt := congrArg Int32.toInt ((fr113.2.1 326 (by decide)).trans (show u110.1 0 326 = (u110.1 0 326) by rfl))
    have q122 : (u110.1 0 381).toInt = (u107.1 0 381).toInt := congrArg Int32.toInt ((fr109.2.1 381 (by decide)).trans (show u107.1 0 381 = (u107.1 0 381) by rfl))
    have q123 : (u114.1 0 381).toInt = (u110.1 0 381).toInt := congrArg Int32.toInt ((fr113.2.1 381 (by decide)).trans (show u110.1 0 381 = (u110.1 0 381) by rfl))
    refine W.sz (fun hz => ?_)
    refine vx_ret ?_
    refine W.widen (k := 1) (n := 6) (Nat.le_of_ble_eq_true rfl) (Nat.le_of_ble_eq_true rfl) ?_
    exact W.vret hx hb hr (fun t ht9 hW => ⟨⟨(wA (wA u114 0 331 (v.1 0 331)) 0 332 (v.1 0 332)), rfl, ⟨(FC.f (FC.f (FC.tr (FC.tr (FC.tr (FC.tr (FC.f (FC.tr (FC.f (FC.tr (FC.rf _) (FC.up fr1 (by decide) (by decide))) r3 (by decide)) (FC.up fr4 (by decide) (by decide))) r6 (by decide)) (FC.up fr13 (by decide) (by decide))) (FC.up fr106 (by decide) (by decide))) (FC.up fr109 (by decide) (by decide))) (FC.up fr113 (by decide) (by decide))) (v.1 0 331) (by decide)) (v.1 0 332) (by decide)), (show 0 ≤ (u114.1 0 306).toInt ∧ (u114.1 0 306).toInt ≤ 40 from (om_7eaf33e007 i306113)), (show 0 ≤ (u114.1 0 312).toInt ∧ (u114.1 0 312).toInt ≤ 500 from (om_8a5975ec21 i312106 q116 q117)), (show 0 ≤ (u114.1 0 321).toInt ∧ (u114.1 0 321).toInt ≤ 501 from (om_4dfa815534 i321106 q118 q119)), (show 0 ≤ (u114.1 0 326).toInt ∧ (u114.1 0 326).toInt ≤ 420 from (om_9591dea625 i326106 q120 q121)), (show 0 ≤ (u114.1 0 381).toInt ∧ (u114.1 0 381).toInt ≤ 3008 from (om_769192f2a4 i381106 q122 q123)), (show (u114.1 0 306).toInt = (v.1 0 306).toInt from (om_190058cac4 q9 q10 pj13 po106 q112 pj113))⟩, ⟨by rw [ht9]; exact hP, hD⟩, by rw [ht9]; exact hz⟩, hS.F ht9⟩) hS.2.2 dX5_loopStat_97
