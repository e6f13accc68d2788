theorem dX2_change_0 : decode cX2_change 0 = .ok (.aload_n 0, 1) := by decide +kernel
theorem dX2_change_1 : decode cX2_change 1 = .ok (.getfield 18, 3) := by decide +kernel
theorem dX2_change_4 : decode cX2_change 4 = .ok (.invokevirtual 34, 3) := by decide +kernel
theorem tw_532 : ∀ w ∈ ([.methodLink RX2 34 yX9_kind, .instanceMethod yX9_kind, .selects RX9 yX9_kind yX9_kind, .initialized RX9] : List Cond), w ∈ tw_W := al_c (tw_in (t8_4 (List.mem_of_getElem? (i := 87) rfl)) rfl) (al_c (tw_in (t8_3 (List.mem_of_getElem? (i := 104) rfl)) rfl) (al_c (tw_in (t8_3 (List.mem_of_getElem? (i := 105) rfl)) rfl) (al_c (tw_in (t8_1 (List.mem_of_getElem? (i := 10) rfl)) rfl) al_n)))
theorem dX2_change_7 : decode cX2_change 7 = .ok (.istore 4, 2) := by decide +kernel
theorem dX2_change_9 : decode cX2_change 9 = .ok (.iload 4, 2) := by decide +kernel
theorem dX2_change_11 : decode cX2_change 11 = .ok (.bipush 42, 2) := by decide +kernel
theorem dX2_change_13 : decode cX2_change 13 = .ok (.if_icmp .ne 7, 3) := by decide +kernel
theorem dX2_change_20 : decode cX2_change 20 = .ok (.iconst 0, 1) := by decide +kernel
theorem dX2_change_21 : decode cX2_change 21 = .ok (.istore 5, 2) := by decide +kernel
theorem dX2_change_23 : decode cX2_change 23 = .ok (.aload_n 0, 1) := by decide +kernel
theorem dX2_change_24 : decode cX2_change 24 = .ok (.getfield 22, 3) := by decide +kernel
theorem dX2_change_27 : decode cX2_change 27 = .ok (.iload_n 3, 1) := by decide +kernel
theorem dX2_change_28 : decode cX2_change 28 = .ok (.ifCond .eq 7, 3) := by decide +kernel
theorem dX2_change_35 : decode cX2_change 35 = .ok (.iconst 0, 1) := by decide +kernel
theorem dX2_change_36 : decode cX2_change 36 = .ok (.iload 5, 2) := by decide +kernel
theorem dX2_change_38 : decode cX2_change 38 = .ok (.ifCond .eq 7, 3) := by decide +kernel
theorem dX2_change_45 : decode cX2_change 45 = .ok (.iconst 1, 1) := by decide +kernel
theorem dX2_change_46 : decode cX2_change 46 = .ok (.iadd, 1) := by decide +kernel
theorem dX2_change_47 : decode cX2_change 47 = .ok (.invokevirtual 75, 3) := by decide +kernel
theorem dX2_change_50 : decode cX2_change 50 = .ok (.ifCond .ne 18, 3) := by decide +kernel
theorem dX2_change_68 : decode cX2_change 68 = .ok (.aload_n 0, 1) := by decide +kernel
theorem dX2_change_69 : decode cX2_change 69 = .ok (.getfield 18, 3) := by decide +kernel
theorem dX2_change_72 : decode cX2_change 72 = .ok (.invokevirtual 91, 3) := by decide +kernel
theorem dX2_change_75 : decode cX2_change 75 = .ok (.aload_n 0, 1) := by decide +kernel
theorem dX2_change_76 : decode cX2_change 76 = .ok (.getfield 22, 3) := by decide +kernel
theorem dX2_change_79 : decode cX2_change 79 = .ok (.invokevirtual 72, 3) := by decide +kernel
theorem dX2_change_82 : decode cX2_change 82 = .ok (.istore 6, 2) := by decide +kernel
theorem dX2_change_84 : decode cX2_change 84 = .ok (.iload_n 3, 1) := by decide +kernel
theorem dX2_change_85 : decode cX2_change 85 = .ok (.ifCond .eq 28, 3) := by decide +kernel
theorem dX2_change_113 : decode cX2_change 113 = .ok (.iload 5, 2) := by decide +kernel
theorem dX2_change_115 : decode cX2_change 115 = .ok (.ifCond .eq 11, 3) := by decide +kernel
theorem dX2_change_126 : decode cX2_change 126 = .ok (.aload_n 0, 1) := by decide +kernel
theorem dX2_change_127 : decode cX2_change 127 = .ok (.iload 4, 2) := by decide +kernel
theorem dX2_change_129 : decode cX2_change 129 = .ok (.bipush 10, 2) := by decide +kernel
theorem dX2_change_131 : decode cX2_change 131 = .ok (.iadd, 1) := by decide +kernel
theorem dX2_change_132 : decode cX2_change 132 = .ok (.iload_n 1, 1) := by decide +kernel
theorem dX2_change_133 : decode cX2_change 133 = .ok (.iload_n 2, 1) := by decide +kernel
theorem dX2_change_134 : decode cX2_change 134 = .ok (.iload_n 3, 1) := by decide +kernel
theorem dX2_change_135 : decode cX2_change 135 = .ok (.invokevirtual 152, 3) := by decide +kernel
theorem tw_533 : (.code yX2_changeBy cX2_changeBy 6 none : Cond) ∈ tw_W := tw_in (t8_4 (List.mem_of_getElem? (i := 146) rfl)) rfl
theorem tw_534 : ∀ w ∈ ([.methodLink RX2 152 yX2_changeBy, .instanceMethod yX2_changeBy, .selects RX2 yX2_changeBy yX2_changeBy, .initialized RX2] : List Cond), w ∈ tw_W := al_c (tw_in (t8_4 (List.mem_of_getElem? (i := 143) rfl)) rfl) (al_c (tw_in (t8_4 (List.mem_of_getElem? (i := 145) rfl)) rfl) (al_c (tw_in (t7_2 (q := (yX2_changeBy, 5)) (List.mem_of_getElem? (i := 13) rfl)) rfl) (al_c (tw_in (t8_1 (List.mem_of_getElem? (i := 12) rfl)) rfl) al_n)))
theorem dX2_change_138 : decode cX2_change 138 = .ok (.iload_n 3, 1) := by decide +kernel
theorem dX2_change_139 : decode cX2_change 139 = .ok (.ifCond .eq 31, 3) := by decide +kernel
theorem dX2_change_170 : decode cX2_change 170 = .ok (.iload_n 1, 1) := by decide +kernel
theorem dX2_change_171 : decode cX2_change 171 = .ok (.iconst (-1), 1) := by decide +kernel
theorem dX2_change_172 : decode cX2_change 172 = .ok (.if_icmp .eq 16, 3) := by decide +kernel
theorem dX2_change_188 : decode cX2_change 188 = .ok (.aload_n 0, 1) := by decide +kernel
theorem dX2_change_189 : decode cX2_change 189 = .ok (.getfield 22, 3) := by decide +kernel
theorem dX2_change_192 : decode cX2_change 192 = .ok (.bipush 6, 2) := by decide +kernel
theorem dX2_change_194 : decode cX2_change 194 = .ok (.iload_n 2, 1) := by decide +kernel
theorem dX2_change_195 : decode cX2_change 195 = .ok (.iconst 0, 1) := by decide +kernel
theorem dX2_change_196 : decode cX2_change 196 = .ok (.invokevirtual 65, 3) := by decide +kernel
theorem dX2_change_199 : decode cX2_change 199 = .ok (.aload_n 0, 1) := by decide +kernel
theorem dX2_change_200 : decode cX2_change 200 = .ok (.getfield 18, 3) := by decide +kernel
theorem dX2_change_203 : decode cX2_change 203 = .ok (.invokevirtual 101, 3) := by decide +kernel
theorem dX2_change_206 : decode cX2_change 206 = .ok (.return_, 1) := by decide +kernel
theorem dX2_change_175 : decode cX2_change 175 = .ok (.aload_n 0, 1) := by decide +kernel
theorem dX2_change_176 : decode cX2_change 176 = .ok (.getfield 22, 3) := by decide +kernel
theorem dX2_change_179 : decode cX2_change 179 = .ok (.iconst 4, 1) := by decide +kernel
theorem dX2_change_180 : decode cX2_change 180 = .ok (.iload_n 1, 1) := by decide +kernel
theorem dX2_change_181 : decode cX2_change 181 = .ok (.iconst 0, 1) := by decide +kernel
theorem dX2_change_182 : decode cX2_change 182 = .ok (.invokevirtual 65, 3) := by decide +kernel
theorem dX2_change_185 : decode cX2_change 185 = .ok (.goto 14, 3) := by decide +kernel
theorem dX2_change_53 : decode cX2_change 53 = .ok (.aload_n 0, 1) := by decide +kernel
theorem dX2_change_54 : decode cX2_change 54 = .ok (.getfield 18, 3) := by decide +kernel
theorem dX2_change_57 : decode cX2_change 57 = .ok (.iconst 5, 1) := by decide +kernel
theorem dX2_change_58 : decode cX2_change 58 = .ok (.aload_n 0, 1) := by decide +kernel
theorem dX2_change_59 : decode cX2_change 59 = .ok (.getfield 18, 3) := by decide +kernel
theorem dX2_change_62 : decode cX2_change 62 = .ok (.invokevirtual 79, 3) := by decide +kernel
theorem dX2_change_65 : decode cX2_change 65 = .ok (.invokevirtual 82, 3) := by decide +kernel
theorem dX2_change_31 : decode cX2_change 31 = .ok (.iconst 1, 1) := by decide +kernel
theorem dX2_change_32 : decode cX2_change 32 = .ok (.goto 4, 3) := by decide +kernel
theorem dX2_change_88 : decode cX2_change 88 = .ok (.aload_n 0, 1) := by decide +kernel
theorem dX2_change_89 : decode cX2_change 89 = .ok (.getfield 22, 3) := by decide +kernel
theorem dX2_change_92 : decode cX2_change 92 = .ok (.bipush 9, 2) := by decide +kernel
theorem dX2_change_94 : decode cX2_change 94 = .ok (.iload_n 2, 1) := by decide +kernel
theorem dX2_change_95 : decode cX2_change 95 = .ok (.iload 6, 2) := by decide +kernel
theorem dX2_change_97 : decode cX2_change 97 = .ok (.invokevirtual 65, 3) := by decide +kernel
theorem dX2_change_100 : decode cX2_change 100 = .ok (.aload_n 0, 1) := by decide +kernel
theorem dX2_change_101 : decode cX2_change 101 = .ok (.getfield 22, 3) := by decide +kernel
theorem dX2_change_104 : decode cX2_change 104 = .ok (.dup, 1) := by decide +kernel
theorem dX2_change_105 : decode cX2_change 105 = .ok (.getfield 85, 3) := by decide +kernel
theorem dX2_change_108 : decode cX2_change 108 = .ok (.iconst 1, 1) := by decide +kernel
theorem dX2_change_109 : decode cX2_change 109 = .ok (.iadd, 1) := by decide +kernel
theorem dX2_change_110 : decode cX2_change 110 = .ok (.putfield 85, 3) := by decide +kernel
theorem dX2_change_142 : decode cX2_change 142 = .ok (.aload_n 0, 1) := by decide +kernel
theorem dX2_change_143 : decode cX2_change 143 = .ok (.getfield 22, 3) := by decide +kernel
theorem dX2_change_146 : decode cX2_change 146 = .ok (.dup, 1) := by decide +kernel
theorem dX2_change_147 : decode cX2_change 147 = .ok (.getfield 85, 3) := by decide +kernel
theorem dX2_change_150 : decode cX2_change 150 = .ok (.iconst 1, 1) := by decide +kernel
theorem dX2_change_151 : decode cX2_change 151 = .ok (.isub, 1) := by decide +kernel
theorem dX2_change_152 : decode cX2_change 152 = .ok (.putfield 85, 3) := by decide +kernel
theorem dX2_change_155 : decode cX2_change 155 = .ok (.aload_n 0, 1) := by decide +kernel
theorem dX2_change_156 : decode cX2_change 156 = .ok (.getfield 22, 3) := by decide +kernel
theorem dX2_change_159 : decode cX2_change 159 = .ok (.bipush 11, 2) := by decide +kernel
theorem dX2_change_161 : decode cX2_change 161 = .ok (.iload 6, 2) := by decide +kernel
theorem dX2_change_163 : decode cX2_change 163 = .ok (.iconst 0, 1) := by decide +kernel
theorem dX2_change_164 : decode cX2_change 164 = .ok (.invokevirtual 65, 3) := by decide +kernel
theorem dX2_change_167 : decode cX2_change 167 = .ok (.goto 32, 3) := by decide +kernel
theorem dX2_change_16 : decode cX2_change 16 = .ok (.iconst 1, 1) := by decide +kernel
theorem dX2_change_17 : decode cX2_change 17 = .ok (.goto 4, 3) := by decide +kernel
theorem dX2_change_41 : decode cX2_change 41 = .ok (.iconst 0, 1) := by decide +kernel
theorem dX2_change_42 : decode cX2_change 42 = .ok (.goto 4, 3) := by decide +kernel
theorem dX2_change_118 : decode cX2_change 118 = .ok (.aload_n 0, 1) := by decide +kernel
theorem dX2_change_119 : decode cX2_change 119 = .ok (.iconst 1, 1) := by decide +kernel
theorem dX2_change_120 : decode cX2_change 120 = .ok (.invokevirtual 94, 3) := by decide +kernel
theorem dX2_change_123 : decode cX2_change 123 = .ok (.goto 15, 3) := by decide +kernel
theorem dX2_callFunction_0 : decode cX2_callFunction 0 = .ok (.aload_n 0, 1) := by decide +kernel
theorem dX2_callFunction_1 : decode cX2_callFunction 1 = .ok (.getfield 22, 3) := by decide +kernel
theorem dX2_callFunction_4 : decode cX2_callFunction 4 = .ok (.aload_n 0, 1) := by decide +kernel
theorem dX2_callFunction_5 : decode cX2_callFunction 5 = .ok (.getfield 18, 3) := by decide +kernel
theorem dX2_callFunction_8 : decode cX2_callFunction 8 = .ok (.invokevirtual 107, 3) := by decide +kernel
theorem tw_535 : (.code yX9_value cX9_value 1 (some .int) : Cond) ∈ tw_W := tw_in (t8_3 (List.mem_of_getElem? (i := 206) rfl)) rfl
theorem tw_536 : ∀ w ∈ ([.methodLink RX2 107 yX9_value, .instanceMethod yX9_value, .selects RX9 yX9_value yX9_value, .initialized RX9] : List Cond), w ∈ tw_W := al_c (tw_in (t8_4 (List.mem_of_getElem? (i := 95) rfl)) rfl) (al_c (tw_in (t8_3 (List.mem_of_getElem? (i := 204) rfl)) rfl) (al_c (tw_in (t8_3 (List.mem_of_getElem? (i := 205) rfl)) rfl) (al_c (tw_in (t8_1 (List.mem_of_getElem? (i := 10) rfl)) rfl) al_n)))
theorem dX2_callFunction_11 : decode cX2_callFunction 11 = .ok (.aload_n 0, 1) := by decide +kernel
theorem dX2_callFunction_12 : decode cX2_callFunction 12 = .ok (.getfield 18, 3) := by decide +kernel
theorem dX2_callFunction_15 : decode cX2_callFunction 15 = .ok (.invokevirtual 79, 3) := by decide +kernel
theorem dX2_callFunction_18 : decode cX2_callFunction 18 = .ok (.invokevirtual 156, 3) := by decide +kernel
theorem tw_537 : (.code yX1_addCall cX1_addCall 3 (some .int) : Cond) ∈ tw_W := tw_in (t8_4 (List.mem_of_getElem? (i := 116) rfl)) rfl
theorem tw_538 : ∀ w ∈ ([.methodLink RX2 156 yX1_addCall, .instanceMethod yX1_addCall, .selects RX1 yX1_addCall yX1_addCall, .initialized RX1] : List Cond), w ∈ tw_W := al_c (tw_in (t8_4 (List.mem_of_getElem? (i := 113) rfl)) rfl) (al_c (tw_in (t8_4 (List.mem_of_getElem? (i := 114) rfl)) rfl) (al_c (tw_in (t8_4 (List.mem_of_getElem? (i := 115) rfl)) rfl) (al_c (tw_in (t8_1 (List.mem_of_getElem? (i := 11) rfl)) rfl) al_n)))
theorem dX2_callFunction_21 : decode cX2_callFunction 21 = .ok (.istore_n 1, 1) := by decide +kernel
theorem dX2_callFunction_22 : decode cX2_callFunction 22 = .ok (.aload_n 0, 1) := by decide +kernel
theorem dX2_callFunction_23 : decode cX2_callFunction 23 = .ok (.getfield 22, 3) := by decide +kernel
theorem dX2_callFunction_26 : decode cX2_callFunction 26 = .ok (.invokevirtual 72, 3) := by decide +kernel
theorem dX2_callFunction_29 : decode cX2_callFunction 29 = .ok (.istore_n 2, 1) := by decide +kernel
theorem dX2_callFunction_30 : decode cX2_callFunction 30 = .ok (.aload_n 0, 1) := by decide +kernel
theorem dX2_callFunction_31 : decode cX2_callFunction 31 = .ok (.getfield 18, 3) := by decide +kernel
theorem dX2_callFunction_34 : decode cX2_callFunction 34 = .ok (.invokevirtual 52, 3) := by decide +kernel
theorem tw_539 : (.code yX9_take cX9_take 1 none : Cond) ∈ tw_W := tw_in (t8_4 (List.mem_of_getElem? (i := 4) rfl)) rfl
theorem tw_540 : ∀ w ∈ ([.methodLink RX2 52 yX9_take, .instanceMethod yX9_take, .selects RX9 yX9_take yX9_take, .initialized RX9] : List Cond), w ∈ tw_W := al_c (tw_in (t8_4 (List.mem_of_getElem? (i := 96) rfl)) rfl) (al_c (tw_in (t8_4 (List.mem_of_getElem? (i := 2) rfl)) rfl) (al_c (tw_in (t8_4 (List.mem_of_getElem? (i := 3) rfl)) rfl) (al_c (tw_in (t8_1 (List.mem_of_getElem? (i := 10) rfl)) rfl) al_n)))
theorem dX2_callFunction_37 : decode cX2_callFunction 37 = .ok (.aload_n 0, 1) := by decide +kernel
theorem dX2_callFunction_38 : decode cX2_callFunction 38 = .ok (.getfield 18, 3) := by decide +kernel
theorem dX2_callFunction_41 : decode cX2_callFunction 41 = .ok (.invokevirtual 91, 3) := by decide +kernel
theorem dX2_callFunction_44 : decode cX2_callFunction 44 = .ok (.iconst 0, 1) := by decide +kernel
theorem dX2_callFunction_45 : decode cX2_callFunction 45 = .ok (.istore_n 3, 1) := by decide +kernel
theorem dX2_callFunction_46 : decode cX2_callFunction 46 = .ok (.aload_n 0, 1) := by decide +kernel
theorem dX2_callFunction_47 : decode cX2_callFunction 47 = .ok (.getfield 18, 3) := by decide +kernel
theorem dX2_callFunction_50 : decode cX2_callFunction 50 = .ok (.invokevirtual 34, 3) := by decide +kernel
theorem dX2_callFunction_53 : decode cX2_callFunction 53 = .ok (.bipush 31, 2) := by decide +kernel
theorem dX2_callFunction_55 : decode cX2_callFunction 55 = .ok (.if_icmp .eq 58, 3) := by decide +kernel
theorem dX2_callFunction_113 : decode cX2_callFunction 113 = .ok (.aload_n 0, 1) := by decide +kernel
theorem dX2_callFunction_114 : decode cX2_callFunction 114 = .ok (.getfield 18, 3) := by decide +kernel
theorem dX2_callFunction_117 : decode cX2_callFunction 117 = .ok (.bipush 31, 2) := by decide +kernel
theorem dX2_callFunction_119 : decode cX2_callFunction 119 = .ok (.invokevirtual 98, 3) := by decide +kernel
theorem dX2_callFunction_122 : decode cX2_callFunction 122 = .ok (.aload_n 0, 1) := by decide +kernel
theorem dX2_callFunction_123 : decode cX2_callFunction 123 = .ok (.getfield 18, 3) := by decide +kernel
theorem dX2_callFunction_126 : decode cX2_callFunction 126 = .ok (.invokevirtual 101, 3) := by decide +kernel
theorem dX2_callFunction_129 : decode cX2_callFunction 129 = .ok (.aload_n 0, 1) := by decide +kernel
theorem dX2_callFunction_130 : decode cX2_callFunction 130 = .ok (.getfield 22, 3) := by decide +kernel
theorem dX2_callFunction_133 : decode cX2_callFunction 133 = .ok (.dup, 1) := by decide +kernel
theorem dX2_callFunction_134 : decode cX2_callFunction 134 = .ok (.getfield 85, 3) := by decide +kernel
theorem dX2_callFunction_137 : decode cX2_callFunction 137 = .ok (.iload_n 3, 1) := by decide +kernel
theorem dX2_callFunction_138 : decode cX2_callFunction 138 = .ok (.isub, 1) := by decide +kernel
theorem dX2_callFunction_139 : decode cX2_callFunction 139 = .ok (.putfield 85, 3) := by decide +kernel
theorem dX2_callFunction_142 : decode cX2_callFunction 142 = .ok (.aload_n 0, 1) := by decide +kernel
theorem dX2_callFunction_143 : decode cX2_callFunction 143 = .ok (.getfield 22, 3) := by decide +kernel
theorem dX2_callFunction_146 : decode cX2_callFunction 146 = .ok (.bipush 21, 2) := by decide +kernel
theorem dX2_callFunction_148 : decode cX2_callFunction 148 = .ok (.iload_n 1, 1) := by decide +kernel
theorem dX2_callFunction_149 : decode cX2_callFunction 149 = .ok (.iload_n 2, 1) := by decide +kernel
theorem dX2_callFunction_150 : decode cX2_callFunction 150 = .ok (.invokevirtual 65, 3) := by decide +kernel
theorem dX2_callFunction_153 : decode cX2_callFunction 153 = .ok (.return_, 1) := by decide +kernel
theorem dX2_callFunction_58 : decode cX2_callFunction 58 = .ok (.aload_n 0, 1) := by decide +kernel
theorem dX2_callFunction_59 : decode cX2_callFunction 59 = .ok (.iload_n 1, 1) := by decide +kernel
theorem dX2_callFunction_60 : decode cX2_callFunction 60 = .ok (.iconst 0, 1) := by decide +kernel
theorem dX2_callFunction_61 : decode cX2_callFunction 61 = .ok (.invokevirtual 159, 3) := by decide +kernel
theorem tw_541 : (.code yX2_argument cX2_argument 3 none : Cond) ∈ tw_W := tw_in (t8_4 (List.mem_of_getElem? (i := 121) rfl)) rfl
theorem tw_542 : ∀ w ∈ ([.methodLink RX2 159 yX2_argument, .instanceMethod yX2_argument, .selects RX2 yX2_argument yX2_argument, .initialized RX2] : List Cond), w ∈ tw_W := al_c (tw_in (t8_4 (List.mem_of_getElem? (i := 118) rfl)) rfl) (al_c (tw_in (t8_4 (List.mem_of_getElem? (i := 120) rfl)) rfl) (al_c (tw_in (t7_2 (q := (yX2_argument, 5)) (List.mem_of_getElem? (i := 10) rfl)) rfl) (al_c (tw_in (t8_1 (List.mem_of_getElem? (i := 12) rfl)) rfl) al_n)))
theorem dX2_callFunction_64 : decode cX2_callFunction 64 = .ok (.iinc 3 1, 3) := by decide +kernel
theorem dX2_callFunction_67 : decode cX2_callFunction 67 = .ok (.iconst 1, 1) := by decide +kernel
theorem dX2_callFunction_68 : decode cX2_callFunction 68 = .ok (.istore 4, 2) := by decide +kernel
theorem dX2_callFunction_70 : decode cX2_callFunction 70 = .ok (.iload 4, 2) := by decide +kernel
theorem dX2_callFunction_72 : decode cX2_callFunction 72 = .ok (.sipush 1500, 3) := by decide +kernel
theorem dX2_callFunction_75 : decode cX2_callFunction 75 = .ok (.if_icmp .ge 38, 3) := by decide +kernel
theorem dX2_callFunction_78 : decode cX2_callFunction 78 = .ok (.aload_n 0, 1) := by decide +kernel
theorem dX2_callFunction_79 : decode cX2_callFunction 79 = .ok (.getfield 18, 3) := by decide +kernel
theorem dX2_callFunction_82 : decode cX2_callFunction 82 = .ok (.invokevirtual 34, 3) := by decide +kernel
theorem dX2_callFunction_85 : decode cX2_callFunction 85 = .ok (.bipush 37, 2) := by decide +kernel
theorem dX2_callFunction_87 : decode cX2_callFunction 87 = .ok (.if_icmp .ne 26, 3) := by decide +kernel
theorem dX2_callFunction_90 : decode cX2_callFunction 90 = .ok (.aload_n 0, 1) := by decide +kernel
theorem dX2_callFunction_91 : decode cX2_callFunction 91 = .ok (.getfield 18, 3) := by decide +kernel
theorem dX2_callFunction_94 : decode cX2_callFunction 94 = .ok (.invokevirtual 52, 3) := by decide +kernel
theorem dX2_callFunction_97 : decode cX2_callFunction 97 = .ok (.aload_n 0, 1) := by decide +kernel
theorem dX2_callFunction_98 : decode cX2_callFunction 98 = .ok (.iload_n 1, 1) := by decide +kernel
theorem dX2_callFunction_99 : decode cX2_callFunction 99 = .ok (.iload 4, 2) := by decide +kernel
theorem dX2_callFunction_101 : decode cX2_callFunction 101 = .ok (.invokevirtual 159, 3) := by decide +kernel
theorem dX2_callFunction_104 : decode cX2_callFunction 104 = .ok (.iinc 3 1, 3) := by decide +kernel
theorem dX2_callFunction_107 : decode cX2_callFunction 107 = .ok (.iinc 4 1, 3) := by decide +kernel
theorem dX2_callFunction_110 : decode cX2_callFunction 110 = .ok (.goto (-40), 3) := by decide +kernel
theorem om_c88d106276 {n0 : Nat} : 1 + 1 ≤ 8 * n0 + 14 := by omega
theorem om_ebf30c1e5c {n0 : Nat} : 8 + (3 + 11) + 15 ≤ 28 * (8 * n0 + 14) := by omega
theorem om_5ac3184894 {x0 x2 x3 : Int} {n1 : Nat} (h0 : 40 ≤ x0 + (n1 : Int)) (h1 : x2 = x0) (h2 : 0 ≤ x3 ∧ x3 ≤ 40) (h3 : x3 = x2 + 1) : 1 ≤ (n1 : Int) := by omega
theorem om_d3bd070dcf {x0 x2 x3 : Int} {n1 n4 : Nat} (h0 : 40 ≤ x0 + (n1 : Int)) (h1 : x2 = x0) (h2 : x3 = x2 + 1) (h3 : n1 = n4 + 1) : 40 ≤ x3 + (n4 : Int) := by omega
theorem om_a3a29a60ac {n0 n1 : Nat} (h0 : n0 = n1 + 1) : (8 * n1 + 21) + 1 ≤ 8 * n0 + 14 := by omega
theorem om_30bf71c26a {n0 n1 : Nat} (h0 : n0 = n1 + 1) : 8 + (6 + 11) + 28 * (8 * n1 + 21) ≤ 28 * (8 * n0 + 14) := by omega
theorem om_99c73a5d23 {x0 x1 x2 x3 x4 : Int} (h0 : 0 ≤ x0 ∧ x0 ≤ 40) (h1 : x1 = x0) (h2 : x2 = x1 + 1) (h3 : x3 = x2) (h4 : x4 = x3) : 1 ≤ x4 := by omega
theorem om_4c2747e16f {x0 x1 x2 x3 x4 x5 : Int} (h0 : x0 = x1) (h1 : x2 = x0 + 1) (h2 : x3 = x2) (h3 : x4 = x3) (h4 : x5 = x4 - 1) : x5 = x1 := by omega
theorem om_03d1dde555 {n0 : Nat} : 6 + 1 ≤ 8 * n0 + 14 := by omega
theorem om_0d25788d50 {n0 : Nat} : 8 + (3 + 11) + 82 ≤ 28 * (8 * n0 + 14) := by omega
theorem om_2a247253ed {x0 x1 x2 x3 : Int} (h0 : 0 ≤ x0 ∧ x0 ≤ 40) (h1 : x1 = x0) (h2 : 0 ≤ x2 ∧ x2 ≤ 40) (h3 : x2 = x1 + 1) (h4 : x3 = x2) : 0 ≤ x3 ∧ x3 ≤ 40 := by omega
theorem om_9fa395a918 {x0 x2 x3 x4 : Int} {n1 n5 : Nat} (h0 : 40 ≤ x0 + (n1 : Int)) (h1 : x2 = x0) (h2 : x3 = x2 + 1) (h3 : x4 = x3) (h4 : n1 = n5 + 1) : 40 ≤ x4 + (n5 : Int) := by omega
theorem om_874629bc4e {x0 x1 x2 x3 x4 x5 : Int} (h0 : 0 ≤ x0 ∧ x0 ≤ 40) (h1 : x1 = x0) (h2 : x2 = x1 + 1) (h3 : x3 = x2) (h4 : x4 = x3) (h5 : x5 = x4) : 1 ≤ x5 := by omega
theorem om_ac685ab65a {x0 x1 x2 x3 x4 x5 x6 : Int} (h0 : x0 = x1) (h1 : x2 = x0 + 1) (h2 : x3 = x2) (h3 : x4 = x3) (h4 : x5 = x4) (h5 : x6 = x5 - 1) : x6 = x1 := by omega
set_option maxHeartbeats 16000000 in
set_option maxRecDepth 100000 in
theorem c_x_X2_change (l : Launch) (n : Nat) (ihE : ∀ m, n = m + 1 → Cq_expression l m) (dC : Nat → ClassId) (dI : Nat → Nat → Nat) (cI cB cZ cJ cR : ClassId) (tb : Nat → Nat) (sz : Nat) (ad : Nat → Nat) (pr : Int32 → Nat) (N : Nat) (L1 L2 : List Nat) (v : MS) (pa : Int32) (pb : Int32) (pc1 : Int32) (ps : Int32) (z304 : 0 ≤ (v.1 0 304).toInt ∧ (v.1 0 304).toInt ≤ 1503) (z306 : 0 ≤ (v.1 0 306).toInt ∧ (v.1 0 306).toInt ≤ 40) (z312 : 0 ≤ (v.1 0 312).toInt ∧ (v.1 0 312).toInt ≤ 500) (z321 : 0 ≤ (v.1 0 321).toInt ∧ (v.1 0 321).toInt ≤ 501) (z326 : 0 ≤ (v.1 0 326).toInt ∧ (v.1 0 326).toInt ≤ 420) (z373 : 0 ≤ (v.1 0 373).toInt ∧ (v.1 0 373).toInt ≤ 4000) (z381 : 0 ≤ (v.1 0 381).toInt ∧ (v.1 0 381).toInt ≤ 3008) (hL1 : L1.length = 40) (hL2 : L2.length = 60) (rp : RP v) (hps : pr ps = ad 908) (es300 : (v.1 0 300) = ps) (es310 : (v.1 0 310) = ps) (hst : l.stackTraces = false) (zn : 40 ≤ (v.1 0 306).toInt + (n : Int)) : vx_Met l yX2_change (Cond.code yX2_change cX2_change 7 none :: tw_W) ({ frames := 8 * n + 14, cells := 1, slots := 6, locals := 28 * (8 * n + 14) }) (pc_ (dC, dI) (tyS cI cB cZ cJ cR) tb (cW ad pr N cI cR L1 L2 v) sz [.ref (ad 902), .int pa, .int pb, .int pc1]) (qvz_ (dC, dI) (cW ad pr N cI cR L1 L2 v) sz (fun (u : MS) => FC [305, 306, 307, 314, 315, 317, 321, 326, 381] [0, 316, 318, 319, 320, 324, 325, 378, 379, 380] v u ∧ (0 ≤ (u.1 0 306).toInt ∧ (u.1 0 306).toInt ≤ 40) ∧ (0 ≤ (u.1 0 321).toInt ∧ (u.1 0 321).toInt ≤ 501) ∧ (0 ≤ (u.1 0 326).toInt ∧ (u.1 0 326).toInt ≤ 420) ∧ (0 ≤ (u.1 0 381).toInt ∧ (u.1 0 381).toInt ≤ 3008) ∧ ((u.1 0 306).toInt = (v.1 0 306).toInt)) (fun (u : MS) => (cW ad pr N cI cR L1 L2 u))) (qxc (dC, dI) (cW ad pr N cI cR L1 L2 v) sz (fun (u : MS) => (cW ad pr N cI cR L1 L2 u)) (fun (u : MS) => FC xfl xal v u ∧ (u.1 0 308).toInt ≠ 0)) 1 6 (va_A (cW ad pr N cI cR L1 L2 v) sz) := by
  refine vx_ofW (cc := cX2_change) (maxL := 7) (ret := none) (by decide) rfl ?_
  intro p e s m args below meth c s₁ B hml hnt hv
  obtain ⟨rfl, hsz, hP, hKK, hD0, hFx⟩ := hv
  have hK := hKK.1
  have hx := B.exec
  have hb := B.bytes
  have hr := B.returns
  have ht : ∀ w ∈ tw_W, w.before _ s = true := fun w h => atoms_spec (ws := Cond.code yX2_change cX2_change 7 none :: tw_W) B.pre w (List.mem_cons_of_mem _ h)
  have hown : s.vm.findClass RX2 = some m.cls := findClass_of_methodNamed B.named
  have hlocks := B.notSynchronized
  subst hsz
  unfold qvz_ qxc
  have hD := hD0.self (sz := s.heap.size)
  generalize hAe : va_A (cW ad pr N cI cR L1 L2 v) s.heap.size = A at hD hFx ⊢
  have hA : ∀ q : Nat, s.heap.size ≤ q → A q := fun q h => by rw [← hAe]; exact Or.inr h
  have hS : va_S A s.heap s.heap [] := va_S.rf
  have hl := lv_entry ([.ref (ad 902), .int pa, .int pb, .int pc1]) (n := 7) (Nat.le_of_ble_eq_true rfl)
  rw [lg_entry_eq]
  generalize (lg_sl ([.ref (ad 902), .int pa, .int pb, .int pc1]) ++ List.replicate (7 - (lg_sl ([.ref (ad 902), .int pa, .int pb, .int pc1])).length) Slot.unset).toArray = ls at hl ⊢
  have hl : lv_has ls 7 [(0, .ref (ad 902)), (1, .int pa), (2, .int pb), (3, .int pc1)] := hl
  refine lv_aload_n hx hb dX2_change_0 rfl (lv_at hl 0 rfl) ?_
  refine va_get (D := (dC, dI)) (ci := 6) (fs := oF_X2 ad pr v) (v := .ref (ad 900)) (C := RX2) (T := TX2) (N := 5) hx hb ht itX2 hown hK hP 2 rfl rfl 0 (by decide) (ht _ tw_509) (fun _ h9 => h9) rfl dX2_change_1 ?_
  refine cu_i (rn_Vk (n := 0) (As := []) (rest := []) hx hb hml hown ht hKK hFx hP hD hS hA (c_x_X9_kind l dC dI cI cB cZ cJ cR tb s.heap.size ad pr N L1 L2 v  (show 0 ≤ (v.1 0 304).toInt ∧ (v.1 0 304).toInt ≤ 1503 from (om_c99648273b z304))) tw_455 tw_532 (by decide +kernel) rfl rfl ⟨show 0 + 1 ≤ 8 * n + 14 from om_2d92e09058, show 8 + (1 + 11) + 0 ≤ 28 * (8 * n + 14) from om_289622e6d2⟩ (List.range (cW ad pr N cI cR L1 L2 v).length) (rg_map _) (nd_range _) 0 rfl rfl rfl rfl hl.1 rfl (Nat.le_of_ble_eq_true rfl) dX2_change_4 ⟨Nat.le_of_ble_eq_true rfl, Nat.le_of_ble_eq_true rfl⟩) hP hD hS hA (fun r3 u2 H locs hw1 hP hD hS => ?_)
  obtain rfl := hw1
  refine W.widen (k := 0) (n := 0) (Nat.le_refl _) (Nat.le_refl _) ?_
  refine lv_istore (lv' := [(4, .int r3), (0, .ref (ad 902)), (1, .int pa), (2, .int pb), (3, .int pc1)]) hx hb dX2_change_7 hl (by decide) rfl (fun ls hl => ?_)
  refine lv_iload hx hb dX2_change_9 (lv_at hl 0 rfl) ?_
  refine lv_bipush (v := 42) hx hb dX2_change_11 (by decide) ?_
  refine lv_icmp_ne (tgt := 20) hx hb dX2_change_13 (by decide) (fun h4 => ?_) (fun h4 => ?_)
  · have z5 : r3.toInt ≠ (42 : Int) := ne_z rfl (show (42 : Int32).toInt = (42 : Int) by decide) h4
    refine lv_iconst (v := 0) hx hb dX2_change_20 (by decide) ?_
    refine lv_istore (lv' := [(5, .int 0), (4, .int r3), (0, .ref (ad 902)), (1, .int pa), (2, .int pb), (3, .int pc1)]) hx hb dX2_change_21 hl (by decide) rfl (fun ls hl => ?_)
    refine lv_aload_n hx hb dX2_change_23 rfl (lv_at hl 2 rfl) ?_
    refine va_get (D := (dC, dI)) (ci := 6) (fs := oF_X2 ad pr v) (v := .ref (ad 901)) (C := RX2) (T := TX2) (N := 5) hx hb ht itX2 hown hK hP 2 rfl rfl 1 (by decide) (ht _ tw_498) (fun _ h9 => h9) rfl dX2_change_24 ?_
    refine lv_iload_n hx hb dX2_change_27 rfl (lv_at hl 5 rfl) ?_
    refine lv_if_eq (tgt := 35) hx hb dX2_change_28 (by decide) (fun h6 => ?_) (fun h6 => ?_)
    · have z7 : pc1.toInt = (0 : Int) := eq_z rfl (show (0 : Int32).toInt = (0 : Int) by decide) h6
      refine lv_iconst (v := 0) hx hb dX2_change_35 (by decide) ?_
      refine lv_iload hx hb dX2_change_36 (lv_at hl 0 rfl) ?_
      refine lv_if_eq (tgt := 45) hx hb dX2_change_38 (by decide) (fun _ => ?_) (fun k8 => absurd k8 (by decide))
      refine lv_iconst (v := 1) hx hb dX2_change_45 (by decide) ?_
      refine lv_iadd hx hb dX2_change_46 ?_
      refine tp_i (y := 1) (by decide) ?_
      refine cu_i (rn_Vk (n := 1) (As := [.int 1]) (rest := []) hx hb hml hown ht hKK hFx hP hD hS hA (c_x_X1_wantSlots l dC dI cI cB cZ cJ cR tb H.size ad pr N L1 L2 v (1 : Int32) (show 0 ≤ (v.1 0 312).toInt ∧ (v.1 0 312).toInt ≤ 500 from (om_9861e69da5 z312))) tw_507 tw_508 (by decide +kernel) rfl rfl ⟨show 1 + 1 ≤ 8 * n + 14 from om_c88d106276, show 8 + (3 + 11) + 15 ≤ 28 * (8 * n + 14) from om_ebf30c1e5c⟩ (List.range (cW ad pr N cI cR L1 L2 v).length) (rg_map _) (nd_range _) 1 rfl rfl rfl rfl hl.1 rfl (Nat.le_of_ble_eq_true rfl) dX2_change_47 ⟨Nat.le_of_ble_eq_true rfl, Nat.le_of_ble_eq_true rfl⟩) hP hD hS hA (fun r11 u10 H locs hw9 hP hD hS => ?_)
      obtain ⟨fr9, bz9⟩ := hw9
      refine W.widen (k := 0) (n := 0) (Nat.le_refl _) (Nat.le_refl _) ?_
      refine lv_if_ne (tgt := 68) hx hb dX2_change_50 (by decide) (fun h12 => ?_) (fun h12 => ?_)
      · have z13 : r11.toInt ≠ (0 : Int) := ne_z rfl (show (0 : Int32).toInt = (0 : Int) by decide) h12
        refine lv_aload_n hx hb dX2_change_68 rfl (lv_at hl 2 rfl) ?_
        refine va_get (D := (dC, dI)) (ci := 6) (fs := oF_X2 ad pr u10) (v := .ref (ad 900)) (C := RX2) (T := TX2) (N := 5) hx hb ht itX2 hown hK hP 2 rfl rfl 0 (by decide) (ht _ tw_509) (fun _ h9 => h9) rfl dX2_change_69 ?_
        have q14 : (u10.1 0 304).toInt = (v.1 0 304).toInt := congrArg Int32.toInt ((fr9.2.1 304 (by decide)).trans (show v.1 0 304 = (v.1 0 304) by rfl))
        have q15 : (u10.1 0 306).toInt = (v.1 0 306).toInt := congrArg Int32.toInt ((fr9.2.1 306 (by decide)).trans (show v.1 0 306 = (v.1 0 306) by rfl))
        have q16 : (u10.1 0 373).toInt = (v.1 0 373).toInt := congrArg Int32.toInt ((fr9.2.1 373 (by decide)).trans (show v.1 0 373 = (v.1 0 373) by rfl))
        refine W.sz (fun hz9 => ?_)
        refine czx_v (rx_Vk (n := 0) (As := []) (rest := []) hx hb hml hown ht hKK hFx hP hD hS hA (c_x_X9_open l dC dI cI cB cZ cJ cR tb H.size ad pr N L1 L2 u10 ps (show 0 ≤ (u10.1 0 304).toInt ∧ (u10.1 0 304).toInt ≤ 1503 from (om_73002589c1 z304 q14)) (show 0 ≤ (u10.1 0 306).toInt ∧ (u10.1 0 306).toInt ≤ 40 from (om_99e115f631 z306 q15)) (show 0 ≤ (u10.1 0 373).toInt ∧ (u10.1 0 373).toInt ≤ 4000 from (om_9084c127ed z373 q16)) (show pr ps = ad 908 from hps) (show (u10.1 0 300) = ps from (Eq.trans (fr9.2.1 300 (by decide)) es300)) (show l.stackTraces = false from hst)) tw_524 tw_525 (by decide +kernel) rfl rfl ⟨show 7 + 1 ≤ 8 * n + 14 from om_46126d3ba0, show 8 + (1 + 11) + 104 ≤ 28 * (8 * n + 14) from om_6017b980b8⟩ (List.range (cW ad pr N cI cR L1 L2 u10).length) (rg_map _) (nd_range _) 0 rfl rfl rfl rfl hl.1 rfl (Nat.le_of_ble_eq_true rfl) dX2_change_72 ⟨Nat.le_of_ble_eq_true rfl, Nat.le_of_ble_eq_true rfl⟩) hP hD hS hA (fun u9 ce9 q9 H locs hx9 hP hD hS hc9 hv9 hf9 => ?_) (fun u18 H locs hw17 hP hD hS hz8 => ?_)
        · exact vx_out (fun x h9 => (hnt x h9).elim) hlocks hc9 hv9 hf9 (fun t9 ht9 hv8 => ⟨u9, ⟨FC.tr (FC.tr (FC.rf _) (FC.up fr9 (by decide) (by decide))) hx9.1, hx9.2⟩, ⟨rfl, by rw [ht9]; exact hP, hD⟩, hS.F ht9⟩) hS.2.2 (Nat.le_refl _) (Nat.le_refl _)
        refine W.shrink (hz8.trans hz9) ?_
        obtain ⟨fr17, i30617, pj17⟩ := hw17
        have i30617 : 0 ≤ (u18.1 0 306).toInt ∧ (u18.1 0 306).toInt ≤ 40 := i30617
        have pj17 : (u18.1 0 306).toInt = (u10.1 0 306).toInt + 1 := pj17
        refine lv_aload_n hx hb dX2_change_75 rfl (lv_at hl 2 rfl) ?_
        refine va_get (D := (dC, dI)) (ci := 6) (fs := oF_X2 ad pr u18) (v := .ref (ad 901)) (C := RX2) (T := TX2) (N := 5) hx hb ht itX2 hown hK hP 2 rfl rfl 1 (by decide) (ht _ tw_498) (fun _ h9 => h9) rfl dX2_change_76 ?_
        have q20 : (u10.1 0 312).toInt = (v.1 0 312).toInt := congrArg Int32.toInt ((fr9.2.1 312 (by decide)).trans (show v.1 0 312 = (v.1 0 312) by rfl))
        have q21 : (u18.1 0 312).toInt = (u10.1 0 312).toInt := congrArg Int32.toInt ((fr17.2.1 312 (by decide)).trans (show u10.1 0 312 = (u10.1 0 312) by rfl))
        refine cu_i (rn_Vk (n := 0) (As := []) (rest := []) hx hb hml hown ht hKK hFx hP hD hS hA (c_x_X1_nextSlot l dC dI cI cB cZ cJ cR tb H.size ad pr N L1 L2 u18  (show 0 ≤ (u18.1 0 312).toInt ∧ (u18.1 0 312).toInt ≤ 500 from (om_8a5975ec21 z312 q20 q21))) tw_505 tw_506 (by decide +kernel) rfl rfl ⟨show 0 + 1 ≤ 8 * n + 14 from om_2d92e09058, show 8 + (1 + 11) + 0 ≤ 28 * (8 * n + 14) from om_289622e6d2⟩ (List.range (cW ad pr N cI cR L1 L2 u18).length) (rg_map _) (nd_range _) 1 rfl rfl rfl rfl hl.1 rfl (Nat.le_of_ble_eq_true rfl) dX2_change_79 ⟨Nat.le_of_ble_eq_true rfl, Nat.le_of_ble_eq_true rfl⟩) hP hD hS hA (fun r24 u23 H locs hw22 hP hD hS => ?_)
        obtain rfl := hw22
        refine W.widen (k := 0) (n := 0) (Nat.le_refl _) (Nat.le_refl _) ?_
        refine lv_istore (lv' := [(6, .int r24), (5, .int 0), (4, .int r3), (0, .ref (ad 902)), (1, .int pa), (2, .int pb), (3, .int pc1)]) hx hb dX2_change_82 hl (by decide) rfl (fun ls hl => ?_)
        refine lv_iload_n hx hb dX2_change_84 rfl (lv_at hl 6 rfl) ?_
        refine lv_if_eq (tgt := 113) hx hb dX2_change_85 (by decide) (fun h25 => ?_) (fun h25 => ?_)
        · have z26 : pc1.toInt = (0 : Int) := eq_z rfl (show (0 : Int32).toInt = (0 : Int) by decide) h25
          refine lv_iload hx hb dX2_change_113 (lv_at hl 1 rfl) ?_
          refine lv_if_eq (tgt := 126) hx hb dX2_change_115 (by decide) (fun _ => ?_) (fun k27 => absurd k27 (by decide))
          refine lv_aload_n hx hb dX2_change_126 rfl (lv_at hl 3 rfl) ?_
          refine lv_iload hx hb dX2_change_127 (lv_at hl 2 rfl) ?_
          refine lv_bipush (v := 10) hx hb dX2_change_129 (by decide) ?_
          refine lv_iadd hx hb dX2_change_131 ?_
          refine lv_iload_n hx hb dX2_change_132 rfl (lv_at hl 4 rfl) ?_
          refine lv_iload_n hx hb dX2_change_133 rfl (lv_at hl 5 rfl) ?_
          refine lv_iload_n hx hb dX2_change_134 rfl (lv_at hl 6 rfl) ?_
          obtain ⟨n28, hn29⟩ : ∃ m, n = m + 1 := ex_z (om_5ac3184894 zn q15 i30617 pj17)
          have q30 : (u18.1 0 304).toInt = (u10.1 0 304).toInt := congrArg Int32.toInt ((fr17.2.1 304 (by decide)).trans (show u10.1 0 304 = (u10.1 0 304) by rfl))
          have q31 : (u10.1 0 321).toInt = (v.1 0 321).toInt := congrArg Int32.toInt ((fr9.2.1 321 (by decide)).trans (show v.1 0 321 = (v.1 0 321) by rfl))
          have q32 : (u18.1 0 321).toInt = (u10.1 0 321).toInt := congrArg Int32.toInt ((fr17.2.1 321 (by decide)).trans (show u10.1 0 321 = (u10.1 0 321) by rfl))
          have q33 : (u10.1 0 326).toInt = (v.1 0 326).toInt := congrArg Int32.toInt ((fr9.2.1 326 (by decide)).trans (show v.1 0 326 = (v.1 0 326) by rfl))
          have q34 : (u18.1 0 326).toInt = (u10.1 0 326).toInt := congrArg Int32.toInt ((fr17.2.1 326 (by decide)).trans (show u10.1 0 326 = (u10.1 0 326) by rfl))
          have q35 : (u18.1 0 373).toInt = (u10.1 0 373).toInt := congrArg Int32.toInt ((fr17.2.1 373 (by decide)).trans (show u10.1 0 373 = (u10.1 0 373) by rfl))
          have q36 : (u10.1 0 381).toInt = (v.1 0 381).toInt := congrArg Int32.toInt ((fr9.2.1 381 (by decide)).trans (show v.1 0 381 = (v.1 0 381) by rfl))
          have q37 : (u18.1 0 381).toInt = (u10.1 0 381).toInt := congrArg Int32.toInt ((fr17.2.1 381 (by decide)).trans (show u10.1 0 381 = (u10.1 0 381) by rfl))
          refine W.sz (fun hz9 => ?_)
          refine czx_v (rx_Vk (n := 4) (As := [.int (r3 + (10 : Int32)), .int pa, .int pb, .int pc1]) (rest := []) hx hb hml hown ht hKK hFx hP hD hS hA (c_x_X2_changeBy l n28 (ihE n28 hn29) dC dI cI cB cZ cJ cR tb H.size ad pr N L1 L2 u18 (r3 + (10 : Int32)) pa pb pc1 ps (show 0 ≤ (u18.1 0 304).toInt ∧ (u18.1 0 304).toInt ≤ 1503 from (om_dd87ee851a z304 q14 q30)) (show 0 ≤ (u18.1 0 306).toInt ∧ (u18.1 0 306).toInt ≤ 40 from (om_7eaf33e007 i30617)) (show 0 ≤ (u18.1 0 312).toInt ∧ (u18.1 0 312).toInt ≤ 500 from (om_8a5975ec21 z312 q20 q21)) (show 0 ≤ (u18.1 0 321).toInt ∧ (u18.1 0 321).toInt ≤ 501 from (om_4dfa815534 z321 q31 q32)) (show 0 ≤ (u18.1 0 326).toInt ∧ (u18.1 0 326).toInt ≤ 420 from (om_9591dea625 z326 q33 q34)) (show 0 ≤ (u18.1 0 373).toInt ∧ (u18.1 0 373).toInt ≤ 4000 from (om_03cd8767ac z373 q16 q35)) (show 0 ≤ (u18.1 0 381).toInt ∧ (u18.1 0 381).toInt ≤ 3008 from (om_769192f2a4 z381 q36 q37)) (show L1.length = 40 from hL1) (show L2.length = 60 from hL2) (show RP u18 from ((show FC [305, 306, 307, 314, 315, 317, 321, 326, 381] [0, 316, 318, 319, 320, 324, 325, 378, 379, 380] v u18 from (FC.tr (FC.tr (FC.rf _) (FC.up fr9 (by decide) (by decide))) (FC.up fr17 (by decide) (by decide)))).1 rp)) (show pr ps = ad 908 from hps) (show (u18.1 0 300) = ps from (Eq.trans (fr17.2.1 300 (by decide)) (Eq.trans (fr9.2.1 300 (by decide)) es300))) (show (u18.1 0 310) = ps from (Eq.trans (fr17.2.1 310 (by decide)) (Eq.trans (fr9.2.1 310 (by decide)) es310))) (show l.stackTraces = false from hst) (show 40 ≤ (u18.1 0 306).toInt + (n28 : Int) from (om_d3bd070dcf zn q15 pj17 hn29))) tw_533 tw_534 (by decide +kernel) rfl rfl ⟨show (8 * n28 + 21) + 1 ≤ 8 * n + 14 from (om_a3a29a60ac hn29), show 8 + (6 + 11) + 28 * (8 * n28 + 21) ≤ 28 * (8 * n + 14) from (om_30bf71c26a hn29)⟩ (List.range (cW ad pr N cI cR L1 L2 u18).length) (rg_map _) (nd_range _) 2 rfl rfl rfl rfl hl.1 rfl (Nat.le_of_ble_eq_true rfl) dX2_change_135 ⟨Nat.le_of_ble_eq_true rfl, Nat.le_of_ble_eq_true rfl⟩) hP hD hS hA (fun u9 ce9 q9 H locs hx9 hP hD hS hc9 hv9 hf9 => ?_) (fun u39 H locs hw38 hP hD hS hz8 => ?_)
          · exact vx_out (fun x h9 => (hnt x h9).elim) hlocks hc9 hv9 hf9 (fun t9 ht9 hv8 => ⟨u9, ⟨FC.tr (FC.tr (FC.tr (FC.rf _) (FC.up fr9 (by decide) (by decide))) (FC.up fr17 (by decide) (by decide))) hx9.1, hx9.2⟩, ⟨rfl, by rw [ht9]; exact hP, hD⟩, hS.F ht9⟩) hS.2.2 (Nat.le_refl _) (Nat.le_refl _)
          refine W.shrink (hz8.trans hz9) ?_
          obtain ⟨fr38, i30638, i32138, i32638, i38138, po38⟩ := hw38
          have i30638 : 0 ≤ (u39.1 0 306).toInt ∧ (u39.1 0 306).toInt ≤ 40 := i30638
          have i32138 : 0 ≤ (u39.1 0 321).toInt ∧ (u39.1 0 321).toInt ≤ 501 := i32138
          have i32638 : 0 ≤ (u39.1 0 326).toInt ∧ (u39.1 0 326).toInt ≤ 420 := i32638
          have i38138 : 0 ≤ (u39.1 0 381).toInt ∧ (u39.1 0 381).toInt ≤ 3008 := i38138
          have po38 : (u39.1 0 306).toInt = (u18.1 0 306).toInt := po38
          refine lv_iload_n hx hb dX2_change_138 rfl (lv_at hl 6 rfl) ?_
          refine lv_if_eq (tgt := 170) hx hb dX2_change_139 (by decide) (fun h41 => ?_) (fun h41 => ?_)
          · have z42 : pc1.toInt = (0 : Int) := eq_z rfl (show (0 : Int32).toInt = (0 : Int) by decide) h41
            refine lv_iload_n hx hb dX2_change_170 rfl (lv_at hl 4 rfl) ?_
            refine lv_iconst (v := -1) hx hb dX2_change_171 (by decide) ?_
            refine lv_icmp_eq (tgt := 188) hx hb dX2_change_172 (by decide) (fun h43 => ?_) (fun h43 => ?_)
            · have z44 : pa.toInt = (-1 : Int) := eq_z rfl (show ((-1) : Int32).toInt = (-1 : Int) by decide) h43
              refine lv_aload_n hx hb dX2_change_188 rfl (lv_at hl 3 rfl) ?_
              refine va_get (D := (dC, dI)) (ci := 6) (fs := oF_X2 ad pr u39) (v := .ref (ad 901)) (C := RX2) (T := TX2) (N := 5) hx hb ht itX2 hown hK hP 2 rfl rfl 1 (by decide) (ht _ tw_498) (fun _ h9 => h9) rfl dX2_change_189 ?_
              refine lv_bipush (v := 6) hx hb dX2_change_192 (by decide) ?_
              refine lv_iload_n hx hb dX2_change_194 rfl (lv_at hl 5 rfl) ?_
              refine lv_iconst (v := 0) hx hb dX2_change_195 (by decide) ?_
              refine cu_v (rn_Vk (n := 3) (As := [.int 6, .int pb, .int 0]) (rest := []) hx hb hml hown ht hKK hFx hP hD hS hA (c_x_X1_add l dC dI cI cB cZ cJ cR tb H.size ad pr N L1 L2 u39 (6 : Int32) pb (0 : Int32) ps (show 0 ≤ (u39.1 0 381).toInt ∧ (u39.1 0 381).toInt ≤ 3008 from (om_e78eec72e1 i38138)) (show pr ps = ad 908 from hps) (show (u39.1 0 310) = ps from (Eq.trans (fr38.2.1 310 (by decide)) (Eq.trans (fr17.2.1 310 (by decide)) (Eq.trans (fr9.2.1 310 (by decide)) es310))))) tw_499 tw_500 (by decide +kernel) rfl rfl ⟨show 0 + 1 ≤ 8 * n + 14 from om_2d92e09058, show 8 + (5 + 11) + 0 ≤ 28 * (8 * n + 14) from om_f68798533e⟩ (List.range (cW ad pr N cI cR L1 L2 u39).length) (rg_map _) (nd_range _) 1 rfl rfl rfl rfl hl.1 rfl (Nat.le_of_ble_eq_true rfl) dX2_change_196 ⟨Nat.le_of_ble_eq_true rfl, Nat.le_of_ble_eq_true rfl⟩) hP hD hS hA (fun u46 H locs hw45 hP hD hS => ?_)
              obtain ⟨fr45, i38145⟩ := hw45
              have i38145 : 0 ≤ (u46.1 0 381).toInt ∧ (u46.1 0 381).toInt ≤ 3008 := i38145
              refine W.widen (k := 0) (n := 0) (Nat.le_refl _) (Nat.le_refl _) ?_
              refine lv_aload_n hx hb dX2_change_199 rfl (lv_at hl 3 rfl) ?_
              refine va_get (D := (dC, dI)) (ci := 6) (fs := oF_X2 ad pr u46) (v := .ref (ad 900)) (C := RX2) (T := TX2) (N := 5) hx hb ht itX2 hown hK hP 2 rfl rfl 0 (by decide) (ht _ tw_509) (fun _ h9 => h9) rfl dX2_change_200 ?_
              have q48 : (u46.1 0 306).toInt = (u39.1 0 306).toInt := congrArg Int32.toInt ((fr45.2.1 306 (by decide)).trans (show u39.1 0 306 = (u39.1 0 306) by rfl))
              refine cu_v (rn_Vk (n := 0) (As := []) (rest := []) hx hb hml hown ht hKK hFx hP hD hS hA (c_x_X9_close l dC dI cI cB cZ cJ cR tb H.size ad pr N L1 L2 u46  (show 0 ≤ (u46.1 0 306).toInt ∧ (u46.1 0 306).toInt ≤ 40 from (om_99e115f631 i30638 q48)) (show 1 ≤ (u46.1 0 306).toInt from (om_99c73a5d23 z306 q15 pj17 po38 q48))) tw_528 tw_529 (by decide +kernel) rfl rfl ⟨show 0 + 1 ≤ 8 * n + 14 from om_2d92e09058, show 8 + (1 + 11) + 0 ≤ 28 * (8 * n + 14) from om_289622e6d2⟩ (List.range (cW ad pr N cI cR L1 L2 u46).length) (rg_map _) (nd_range _) 0 rfl rfl rfl rfl hl.1 rfl (Nat.le_of_ble_eq_true rfl) dX2_change_203 ⟨Nat.le_of_ble_eq_true rfl, Nat.le_of_ble_eq_true rfl⟩) hP hD hS hA (fun u50 H locs hw49 hP hD hS => ?_)
              obtain ⟨fr49, i30649, pj49⟩ := hw49
              have i30649 : 0 ≤ (u50.1 0 306).toInt ∧ (u50.1 0 306).toInt ≤ 40 := i30649
              have pj49 : (u50.1 0 306).toInt = (u46.1 0 306).toInt - 1 := pj49
              refine W.widen (k := 0) (n := 0) (Nat.le_refl _) (Nat.le_refl _) ?_
              have q52 : (u46.1 0 321).toInt = (u39.1 0 321).toInt := congrArg Int32.toInt ((fr45.2.1 321 (by decide)).trans (show u39.1 0 321 = (u39.1 0 321) by rfl))
              have q53 : (u50.1 0 321).toInt = (u46.1 0 321).toInt := congrArg Int32.toInt ((fr49.2.1 321 (by decide)).trans (show u46.1 0 321 = (u46.1 0 321) by rfl))
              have q54 : (u46.1 0 326).toInt = (u39.1 0 326).toInt := congrArg Int32.toInt ((fr45.2.1 326 (by decide)).trans (show u39.1 0 326 = (u39.1 0 326) by rfl))
              have q55 : (u50.1 0 326).toInt = (u46.1 0 326).toInt := congrArg Int32.toInt ((fr49.2.1 326 (by decide)).trans (show u46.1 0 326 = (u46.1 0 326) by rfl))
              have q56 : (u50.1 0 381).toInt = (u46.1 0 381).toInt := congrArg Int32.toInt ((fr49.2.1 381 (by decide)).trans (show u46.1 0 381 = (u46.1 0 381) by rfl))
              refine W.sz (fun hz => ?_)
              refine vx_ret ?_
              refine W.widen (k := 1) (n := 6) (Nat.le_of_ble_eq_true rfl) (Nat.le_of_ble_eq_true rfl) ?_
              exact W.vret hx hb hr (fun t ht9 hW => ⟨⟨u50, rfl, ⟨(FC.tr (FC.tr (FC.tr (FC.tr (FC.tr (FC.rf _) (FC.up fr9 (by decide) (by decide))) (FC.up fr17 (by decide) (by decide))) (FC.up fr38 (by decide) (by decide))) (FC.up fr45 (by decide) (by decide))) (FC.up fr49 (by decide) (by decide))), (show 0 ≤ (u50.1 0 306).toInt ∧ (u50.1 0 306).toInt ≤ 40 from (om_7eaf33e007 i30649)), (show 0 ≤ (u50.1 0 321).toInt ∧ (u50.1 0 321).toInt ≤ 501 from (om_4dfa815534 i32138 q52 q53)), (show 0 ≤ (u50.1 0 326).toInt ∧ (u50.1 0 326).toInt ≤ 420 from (om_9591dea625 i32638 q54 q55)), (show 0 ≤ (u50.1 0 381).toInt ∧ (u50.1 0 381).toInt ≤ 3008 from (om_6e4eb11ad3 i38145 q56)), (show (u50.1 0 306).toInt = (v.1 0 306).toInt from (om_4c2747e16f q15 pj17 po38 q48 pj49))⟩, ⟨by rw [ht9]; exact hP, hD⟩, by rw [ht9]; exact hz⟩, hS.F ht9⟩) hS.2.2 dX2_change_206
            · have z57 : pa.toInt ≠ (-1 : Int) := ne_z rfl (show ((-1) : Int32).toInt = (-1 : Int) by decide) h43
              refine lv_aload_n hx hb dX2_change_175 rfl (lv_at hl 3 rfl) ?_
              refine va_get (D := (dC, dI)) (ci := 6) (fs := oF_X2 ad pr u39) (v := .ref (ad 901)) (C := RX2) (T := TX2) (N := 5) hx hb ht itX2 hown hK hP 2 rfl rfl 1 (by decide) (ht _ tw_498) (fun _ h9 => h9) rfl dX2_change_176 ?_
              refine lv_iconst (v := 4) hx hb dX2_change_179 (by decide) ?_
              refine lv_iload_n hx hb dX2_change_180 rfl (lv_at hl 4 rfl) ?_
              refine lv_iconst (v := 0) hx hb dX2_change_181 (by decide) ?_
              refine cu_v (rn_Vk (n := 3) (As := [.int 4, .int pa, .int 0]) (rest := []) hx hb hml hown ht hKK hFx hP hD hS hA (c_x_X1_add l dC dI cI cB cZ cJ cR tb H.size ad pr N L1 L2 u39 (4 : Int32) pa (0 : Int32) ps (show 0 ≤ (u39.1 0 381).toInt ∧ (u39.1 0 381).toInt ≤ 3008 from (om_e78eec72e1 i38138)) (show pr ps = ad 908 from hps) (show (u39.1 0 310) = ps from (Eq.trans (fr38.2.1 310 (by decide)) (Eq.trans (fr17.2.1 310 (by decide)) (Eq.trans (fr9.2.1 310 (by decide)) es310))))) tw_499 tw_500 (by decide +kernel) rfl rfl ⟨show 0 + 1 ≤ 8 * n + 14 from om_2d92e09058, show 8 + (5 + 11) + 0 ≤ 28 * (8 * n + 14) from om_f68798533e⟩ (List.range (cW ad pr N cI cR L1 L2 u39).length) (rg_map _) (nd_range _) 1 rfl rfl rfl rfl hl.1 rfl (Nat.le_of_ble_eq_true rfl) dX2_change_182 ⟨Nat.le_of_ble_eq_true rfl, Nat.le_of_ble_eq_true rfl⟩) hP hD hS hA (fun u59 H locs hw58 hP hD hS => ?_)
              obtain ⟨fr58, i38158⟩ := hw58
              have i38158 : 0 ≤ (u59.1 0 381).toInt ∧ (u59.1 0 381).toInt ≤ 3008 := i38158
              refine W.widen (k := 0) (n := 0) (Nat.le_refl _) (Nat.le_refl _) ?_
              refine lv_goto (tgt := 199) hx hb dX2_change_185 (by decide) ?_
              refine lv_aload_n hx hb dX2_change_199 rfl (lv_at hl 3 rfl) ?_
              refine va_get (D := (dC, dI)) (ci := 6) (fs := oF_X2 ad pr u59) (v := .ref (ad 900)) (C := RX2) (T := TX2) (N := 5) hx hb ht itX2 hown hK hP 2 rfl rfl 0 (by decide) (ht _ tw_509) (fun _ h9 => h9) rfl dX2_change_200 ?_
              have q61 : (u59.1 0 306).toInt = (u39.1 0 306).toInt := congrArg Int32.toInt ((fr58.2.1 306 (by decide)).trans (show u39.1 0 306 = (u39.1 0 306) by rfl))
              refine cu_v (rn_Vk (n := 0) (As := []) (rest := []) hx hb hml hown ht hKK hFx hP hD hS hA (c_x_X9_close l dC dI cI cB cZ cJ cR tb H.size ad pr N L1 L2 u59  (show 0 ≤ (u59.1 0 306).toInt ∧ (u59.1 0 306).toInt ≤ 40 from (om_99e115f631 i30638 q61)) (show 1 ≤ (u59.1 0 306).toInt from (om_99c73a5d23 z306 q15 pj17 po38 q61))) tw_528 tw_529 (by decide +kernel) rfl rfl ⟨show 0 + 1 ≤ 8 * n + 14 from om_2d92e09058, show 8 + (1 + 11) + 0 ≤ 28 * (8 * n + 14) from om_289622e6d2⟩ (List.range (cW ad pr N cI cR L1 L2 u59).length) (rg_map _) (nd_range _) 0 rfl rfl rfl rfl hl.1 rfl (Nat.le_of_ble_eq_true rfl) dX2_change_203 ⟨Nat.le_of_ble_eq_true rfl, Nat.le_of_ble_eq_true rfl⟩) hP hD hS hA (fun u63 H locs hw62 hP hD hS => ?_)
              obtain ⟨fr62, i30662, pj62⟩ := hw62
              have i30662 : 0 ≤ (u63.1 0 306).toInt ∧ (u63.1 0 306).toInt ≤ 40 := i30662
              have pj62 : (u63.1 0 306).toInt = (u59.1 0 306).toInt - 1 := pj62
              refine W.widen (k := 0) (n := 0) (Nat.le_refl _) (Nat.le_refl _) ?_
              have q65 : (u59.1 0 321).toInt = (u39.1 0 321).toInt := congrArg Int32.toInt ((fr58.2.1 321 (by decide)).trans (show u39.1 0 321 = (u39.1 0 321) by rfl))
              have q66 : (u63.1 0 321).toInt = (u59.1 0 321).toInt := congrArg Int32.toInt ((fr62.2.1 321 (by decide)).trans (show u59.1 0 321 = (u59.1 0 321) by rfl))
              have q67 : (u59.1 0 326).toInt = (u39.1 0 326).toInt := congrArg Int32.toInt ((fr58.2.1 326 (by decide)).trans (show u39.1 0 326 = (u39.1 0 326) by rfl))
              have q68 : (u63.1 0 326).toInt = (u59.1 0 326).toInt := congrArg Int32.toInt ((fr62.2.1 326 (by decide)).trans (show u59.1 0 326 = (u59.1 0 326) by rfl))
              have q69 : (u63.1 0 381).toInt = (u59.1 0 381).toInt := congrArg Int32.toInt ((fr62.2.1 381 (by decide)).trans (show u59.1 0 381 = (u59.1 0 381) by rfl))
              refine W.sz (fun hz => ?_)
              refine vx_ret ?_
              refine W.widen (k := 1) (n := 6) (Nat.le_of_ble_eq_true rfl) (Nat.le_of_ble_eq_true rfl) ?_
              exact W.vret hx hb hr (fun t ht9 hW => ⟨⟨u63, rfl, ⟨(FC.tr (FC.tr (FC.tr (FC.tr (FC.tr (FC.rf _) (FC.up fr9 (by decide) (by decide))) (FC.up fr17 (by decide) (by decide))) (FC.up fr38 (by decide) (by decide))) (FC.up fr58 (by decide) (by decide))) (FC.up fr62 (by decide) (by decide))), (show 0 ≤ (u63.1 0 306).toInt ∧ (u63.1 0 306).toInt ≤ 40 from (om_7eaf33e007 i30662)), (show 0 ≤ (u63.1 0 321).toInt ∧ (u63.1 0 321).toInt ≤ 501 from (om_4dfa815534 i32138 q65 q66)), (show 0 ≤ (u63.1 0 326).toInt ∧ (u63.1 0 326).toInt ≤ 420 from (om_9591dea625 i32638 q67 q68)), (show 0 ≤ (u63.1 0 381).toInt ∧ (u63.1 0 381).toInt ≤ 3008 from (om_6e4eb11ad3 i38158 q69)), (show (u63.1 0 306).toInt = (v.1 0 306).toInt from (om_4c2747e16f q15 pj17 po38 q61 pj62))⟩, ⟨by rw [ht9]; exact hP, hD⟩, by rw [ht9]; exact hz⟩, hS.F ht9⟩) hS.2.2 dX2_change_206
          · have z70 : pc1.toInt ≠ (0 : Int) := ne_z rfl (show (0 : Int32).toInt = (0 : Int) by decide) h41
            exact False.elim (om_e92e9f8ce0 z7 z70)
        · have z71 : pc1.toInt ≠ (0 : Int) := ne_z rfl (show (0 : Int32).toInt = (0 : Int) by decide) h25
          exact False.elim (om_e92e9f8ce0 z7 z71)
      · have z72 : r11.toInt = (0 : Int) := eq_z rfl (show (0 : Int32).toInt = (0 : Int) by decide) h12
        refine lv_aload_n hx hb dX2_change_53 rfl (lv_at hl 2 rfl) ?_
        refine va_get (D := (dC, dI)) (ci := 6) (fs := oF_X2 ad pr u10) (v := .ref (ad 900)) (C := RX2) (T := TX2) (N := 5) hx hb ht itX2 hown hK hP 2 rfl rfl 0 (by decide) (ht _ tw_509) (fun _ h9 => h9) rfl dX2_change_54 ?_
        refine lv_iconst (v := 5) hx hb dX2_change_57 (by decide) ?_
        refine lv_aload_n hx hb dX2_change_58 rfl (lv_at hl 2 rfl) ?_
        refine va_get (D := (dC, dI)) (ci := 6) (fs := oF_X2 ad pr u10) (v := .ref (ad 900)) (C := RX2) (T := TX2) (N := 5) hx hb ht itX2 hown hK hP 2 rfl rfl 0 (by decide) (ht _ tw_509) (fun _ h9 => h9) rfl dX2_change_59 ?_
        have q73 : (u10.1 0 304).toInt = (v.1 0 304).toInt := congrArg Int32.toInt ((fr9.2.1 304 (by decide)).trans (show v.1 0 304 = (v.1 0 304) by rfl))
        have q74 : (u10.1 0 373).toInt = (v.1 0 373).toInt := congrArg Int32.toInt ((fr9.2.1 373 (by decide)).trans (show v.1 0 373 = (v.1 0 373) by rfl))
        refine cu_i (rn_Vk (n := 0) (As := []) (rest := [.int 5, .ref (ad 900)]) hx hb hml hown ht hKK hFx hP hD hS hA (c_x_X9_place l dC dI cI cB cZ cJ cR tb H.size ad pr N L1 L2 u10 ps (show 0 ≤ (u10.1 0 304).toInt ∧ (u10.1 0 304).toInt ≤ 1503 from (om_73002589c1 z304 q73)) (show 0 ≤ (u10.1 0 373).toInt ∧ (u10.1 0 373).toInt ≤ 4000 from (om_9084c127ed z373 q74)) (show pr ps = ad 908 from hps) (show (u10.1 0 300) = ps from (Eq.trans (fr9.2.1 300 (by decide)) es300))) tw_457 tw_510 (by decide +kernel) rfl rfl ⟨show 0 + 1 ≤ 8 * n + 14 from om_2d92e09058, show 8 + (1 + 11) + 0 ≤ 28 * (8 * n + 14) from om_289622e6d2⟩ (List.range (cW ad pr N cI cR L1 L2 u10).length) (rg_map _) (nd_range _) 0 rfl rfl rfl rfl hl.1 rfl (Nat.le_of_ble_eq_true rfl) dX2_change_62 ⟨Nat.le_of_ble_eq_true rfl, Nat.le_of_ble_eq_true rfl⟩) hP hD hS hA (fun r77 u76 H locs hw75 hP hD hS => ?_)
        obtain rfl := hw75
        refine W.widen (k := 0) (n := 0) (Nat.le_refl _) (Nat.le_refl _) ?_
        refine W.sz (fun hz9 => ?_)
        refine czx_v (rx_Vk (n := 2) (As := [.int 5, .int r77]) (rest := []) hx hb hml hown ht hKK hFx hP hD hS hA (c_x_X9_refuse l dC dI cI cB cZ cJ cR tb H.size ad pr N L1 L2 u10 (5 : Int32) r77 (show l.stackTraces = false from hst) (show (5 : Int) ≠ 0 from om_5e02973d50)) tw_459 tw_511 (by decide +kernel) rfl rfl ⟨show 6 + 1 ≤ 8 * n + 14 from om_03d1dde555, show 8 + (3 + 11) + 82 ≤ 28 * (8 * n + 14) from om_0d25788d50⟩ (List.range (cW ad pr N cI cR L1 L2 u10).length) (rg_map _) (nd_range _) 0 rfl rfl rfl rfl hl.1 rfl (Nat.le_of_ble_eq_true rfl) dX2_change_65 ⟨Nat.le_of_ble_eq_true rfl, Nat.le_of_ble_eq_true rfl⟩) hP hD hS hA (fun u9 ce9 q9 H locs hx9 hP hD hS hc9 hv9 hf9 => ?_) (fun u79 H locs hw78 hP hD hS hz8 => ?_)
        · exact vx_out (fun x h9 => (hnt x h9).elim) hlocks hc9 hv9 hf9 (fun t9 ht9 hv8 => ⟨u9, ⟨FC.tr (FC.tr (FC.rf _) (FC.up fr9 (by decide) (by decide))) hx9.1, hx9.2⟩, ⟨rfl, by rw [ht9]; exact hP, hD⟩, hS.F ht9⟩) hS.2.2 (Nat.le_refl _) (Nat.le_refl _)
        refine W.shrink (hz8.trans hz9) ?_
        obtain ⟨fr78, no78⟩ := hw78
        have no78 : False := no78
        exact no78.elim
    · have z81 : pc1.toInt ≠ (0 : Int) := ne_z rfl (show (0 : Int32).toInt = (0 : Int) by decide) h6
      refine lv_iconst (v := 1) hx hb dX2_change_31 (by decide) ?_
      refine lv_goto (tgt := 36) hx hb dX2_change_32 (by decide) ?_
      refine lv_iload hx hb dX2_change_36 (lv_at hl 0 rfl) ?_
      refine lv_if_eq (tgt := 45) hx hb dX2_change_38 (by decide) (fun _ => ?_) (fun k82 => absurd k82 (by decide))
      refine lv_iconst (v := 1) hx hb dX2_change_45 (by decide) ?_
      refine lv_iadd hx hb dX2_change_46 ?_
      refine tp_i (y := 2) (by decide) ?_
      refine cu_i (rn_Vk (n := 1) (As := [.int 2]) (rest := []) hx hb hml hown ht hKK hFx hP hD hS hA (c_x_X1_wantSlots l dC dI cI cB cZ cJ cR tb H.size ad pr N L1 L2 v (2 : Int32) (show 0 ≤ (v.1 0 312).toInt ∧ (v.1 0 312).toInt ≤ 500 from (om_9861e69da5 z312))) tw_507 tw_508 (by decide +kernel) rfl rfl ⟨show 1 + 1 ≤ 8 * n + 14 from om_c88d106276, show 8 + (3 + 11) + 15 ≤ 28 * (8 * n + 14) from om_ebf30c1e5c⟩ (List.range (cW ad pr N cI cR L1 L2 v).length) (rg_map _) (nd_range _) 1 rfl rfl rfl rfl hl.1 rfl (Nat.le_of_ble_eq_true rfl) dX2_change_47 ⟨Nat.le_of_ble_eq_true rfl, Nat.le_of_ble_eq_true rfl⟩) hP hD hS hA (fun r85 u84 H locs hw83 hP hD hS => ?_)
      obtain ⟨fr83, bz83⟩ := hw83
      refine W.widen (k := 0) (n := 0) (Nat.le_refl _) (Nat.le_refl _) ?_
      refine lv_if_ne (tgt := 68) hx hb dX2_change_50 (by decide) (fun h86 => ?_) (fun h86 => ?_)
      · have z87 : r85.toInt ≠ (0 : Int) := ne_z rfl (show (0 : Int32).toInt = (0 : Int) by decide) h86
        refine lv_aload_n hx hb dX2_change_68 rfl (lv_at hl 2 rfl) ?_
        refine va_get (D := (dC, dI)) (ci := 6) (fs := oF_X2 ad pr u84) (v := .ref (ad 900)) (C := RX2) (T := TX2) (N := 5) hx hb ht itX2 hown hK hP 2 rfl rfl 0 (by decide) (ht _ tw_509) (fun _ h9 => h9) rfl dX2_change_69 ?_
        have q88 : (u84.1 0 304).toInt = (v.1 0 304).toInt := congrArg Int32.toInt ((fr83.2.1 304 (by decide)).trans (show v.1 0 304 = (v.1 0 304) by rfl))
        have q89 : (u84.1 0 306).toInt = (v.1 0 306).toInt := congrArg Int32.toInt ((fr83.2.1 306 (by decide)).trans (show v.1 0 306 = (v.1 0 306) by rfl))
        have q90 : (u84.1 0 373).toInt = (v.1 0 373).toInt := congrArg Int32.toInt ((fr83.2.1 373 (by decide)).trans (show v.1 0 373 = (v.1 0 373) by rfl))
        refine W.sz (fun hz9 => ?_)
        refine czx_v (rx_Vk (n := 0) (As := []) (rest := []) hx hb hml hown ht hKK hFx hP hD hS hA (c_x_X9_open l dC dI cI cB cZ cJ cR tb H.size ad pr N L1 L2 u84 ps (show 0 ≤ (u84.1 0 304).toInt ∧ (u84.1 0 304).toInt ≤ 1503 from (om_73002589c1 z304 q88)) (show 0 ≤ (u84.1 0 306).toInt ∧ (u84.1 0 306).toInt ≤ 40 from (om_99e115f631 z306 q89)) (show 0 ≤ (u84.1 0 373).toInt ∧ (u84.1 0 373).toInt ≤ 4000 from (om_9084c127ed z373 q90)) (show pr ps = ad 908 from hps) (show (u84.1 0 300) = ps from (Eq.trans (fr83.2.1 300 (by decide)) es300)) (show l.stackTraces = false from hst)) tw_524 tw_525 (by decide +kernel) rfl rfl ⟨show 7 + 1 ≤ 8 * n + 14 from om_46126d3ba0, show 8 + (1 + 11) + 104 ≤ 28 * (8 * n + 14) from om_6017b980b8⟩ (List.range (cW ad pr N cI cR L1 L2 u84).length) (rg_map _) (nd_range _) 0 rfl rfl rfl rfl hl.1 rfl (Nat.le_of_ble_eq_true rfl) dX2_change_72 ⟨Nat.le_of_ble_eq_true rfl, Nat.le_of_ble_eq_true rfl⟩) hP hD hS hA (fun u9 ce9 q9 H locs hx9 hP hD hS hc9 hv9 hf9 => ?_) (fun u92 H locs hw91 hP hD hS hz8 => ?_)
        · exact vx_out (fun x h9 => (hnt x h9).elim) hlocks hc9 hv9 hf9 (fun t9 ht9 hv8 => ⟨u9, ⟨FC.tr (FC.tr (FC.rf _) (FC.up fr83 (by decide) (by decide))) hx9.1, hx9.2⟩, ⟨rfl, by rw [ht9]; exact hP, hD⟩, hS.F ht9⟩) hS.2.2 (Nat.le_refl _) (Nat.le_refl _)
        refine W.shrink (hz8.trans hz9) ?_
        obtain ⟨fr91, i30691, pj91⟩ := hw91
        have i30691 : 0 ≤ (u92.1 0 306).toInt ∧ (u92.1 0 306).toInt ≤ 40 := i30691
        have pj91 : (u92.1 0 306).toInt = (u84.1 0 306).toInt + 1 := pj91
        refine lv_aload_n hx hb dX2_change_75 rfl (lv_at hl 2 rfl) ?_
        refine va_get (D := (dC, dI)) (ci := 6) (fs := oF_X2 ad pr u92) (v := .ref (ad 901)) (C := RX2) (T := TX2) (N := 5) hx hb ht itX2 hown hK hP 2 rfl rfl 1 (by decide) (ht _ tw_498) (fun _ h9 => h9) rfl dX2_change_76 ?_
        have q94 : (u84.1 0 312).toInt = (v.1 0 312).toInt := congrArg Int32.toInt ((fr83.2.1 312 (by decide)).trans (show v.1 0 312 = (v.1 0 312) by rfl))
        have q95 : (u92.1 0 312).toInt = (u84.1 0 312).toInt := congrArg Int32.toInt ((fr91.2.1 312 (by decide)).trans (show u84.1 0 312 = (u84.1 0 312) by rfl))
        refine cu_i (rn_Vk (n := 0) (As := []) (rest := []) hx hb hml hown ht hKK hFx hP hD hS hA (c_x_X1_nextSlot l dC dI cI cB cZ cJ cR tb H.size ad pr N L1 L2 u92  (show 0 ≤ (u92.1 0 312).toInt ∧ (u92.1 0 312).toInt ≤ 500 from (om_8a5975ec21 z312 q94 q95))) tw_505 tw_506 (by decide +kernel) rfl rfl ⟨show 0 + 1 ≤ 8 * n + 14 from om_2d92e09058, show 8 + (1 + 11) + 0 ≤ 28 * (8 * n + 14) from om_289622e6d2⟩ (List.range (cW ad pr N cI cR L1 L2 u92).length) (rg_map _) (nd_range _) 1 rfl rfl rfl rfl hl.1 rfl (Nat.le_of_ble_eq_true rfl) dX2_change_79 ⟨Nat.le_of_ble_eq_true rfl, Nat.le_of_ble_eq_true rfl⟩) hP hD hS hA (fun r98 u97 H locs hw96 hP hD hS => ?_)
        obtain rfl := hw96
        refine W.widen (k := 0) (n := 0) (Nat.le_refl _) (Nat.le_refl _) ?_
        refine lv_istore (lv' := [(6, .int r98), (5, .int 0), (4, .int r3), (0, .ref (ad 902)), (1, .int pa), (2, .int pb), (3, .int pc1)]) hx hb dX2_change_82 hl (by decide) rfl (fun ls hl => ?_)
        refine lv_iload_n hx hb dX2_change_84 rfl (lv_at hl 6 rfl) ?_
        refine lv_if_eq (tgt := 113) hx hb dX2_change_85 (by decide) (fun h99 => ?_) (fun h99 => ?_)
        · have z100 : pc1.toInt = (0 : Int) := eq_z rfl (show (0 : Int32).toInt = (0 : Int) by decide) h99
          exact False.elim (om_6db93cff1d z81 z100)
        · have z101 : pc1.toInt ≠ (0 : Int) := ne_z rfl (show (0 : Int32).toInt = (0 : Int) by decide) h99
          refine lv_aload_n hx hb dX2_change_88 rfl (lv_at hl 3 rfl) ?_
          refine va_get (D := (dC, dI)) (ci := 6) (fs := oF_X2 ad pr u92) (v := .ref (ad 901)) (C := RX2) (T := TX2) (N := 5) hx hb ht itX2 hown hK hP 2 rfl rfl 1 (by decide) (ht _ tw_498) (fun _ h9 => h9) rfl dX2_change_89 ?_
          refine lv_bipush (v := 9) hx hb dX2_change_92 (by decide) ?_
          refine lv_iload_n hx hb dX2_change_94 rfl (lv_at hl 5 rfl) ?_
          refine lv_iload hx hb dX2_change_95 (lv_at hl 0 rfl) ?_
          have q102 : (u84.1 0 381).toInt = (v.1 0 381).toInt := congrArg Int32.toInt ((fr83.2.1 381 (by decide)).trans (show v.1 0 381 = (v.1 0 381) by rfl))
          have q103 : (u92.1 0 381).toInt = (u84.1 0 381).toInt := congrArg Int32.toInt ((fr91.2.1 381 (by decide)).trans (show u84.1 0 381 = (u84.1 0 381) by rfl))
          refine cu_v (rn_Vk (n := 3) (As := [.int 9, .int pb, .int r98]) (rest := []) hx hb hml hown ht hKK hFx hP hD hS hA (c_x_X1_add l dC dI cI cB cZ cJ cR tb H.size ad pr N L1 L2 u92 (9 : Int32) pb r98 ps (show 0 ≤ (u92.1 0 381).toInt ∧ (u92.1 0 381).toInt ≤ 3008 from (om_769192f2a4 z381 q102 q103)) (show pr ps = ad 908 from hps) (show (u92.1 0 310) = ps from (Eq.trans (fr91.2.1 310 (by decide)) (Eq.trans (fr83.2.1 310 (by decide)) es310)))) tw_499 tw_500 (by decide +kernel) rfl rfl ⟨show 0 + 1 ≤ 8 * n + 14 from om_2d92e09058, show 8 + (5 + 11) + 0 ≤ 28 * (8 * n + 14) from om_f68798533e⟩ (List.range (cW ad pr N cI cR L1 L2 u92).length) (rg_map _) (nd_range _) 1 rfl rfl rfl rfl hl.1 rfl (Nat.le_of_ble_eq_true rfl) dX2_change_97 ⟨Nat.le_of_ble_eq_true rfl, Nat.le_of_ble_eq_true rfl⟩) hP hD hS hA (fun u105 H locs hw104 hP hD hS => ?_)
          obtain ⟨fr104, i381104⟩ := hw104
          have i381104 : 0 ≤ (u105.1 0 381).toInt ∧ (u105.1 0 381).toInt ≤ 3008 := i381104
          refine W.widen (k := 0) (n := 0) (Nat.le_refl _) (Nat.le_refl _) ?_
          refine lv_aload_n hx hb dX2_change_100 rfl (lv_at hl 3 rfl) ?_
          refine va_get (D := (dC, dI)) (ci := 6) (fs := oF_X2 ad pr u105) (v := .ref (ad 901)) (C := RX2) (T := TX2) (N := 5) hx hb ht itX2 hown hK hP 2 rfl rfl 1 (by decide) (ht _ tw_498) (fun _ h9 => h9) rfl dX2_change_101 ?_
          refine lv_dup hx hb dX2_change_104 rfl ?_
          refine va_getN (D := (dC, dI)) (ci := 5) (fs := oF_X1 ad pr u105) (v := .int (u105.1 0 314)) (C := RX1) (T := TX1) (N := 12) hx hb ht itX1 hown hK hP 1 rfl rfl 4 (by decide) (hKK.fl2 6 rfl) (fun _ h9 => h9) rfl dX2_change_105 ?_
          refine lv_iconst (v := 1) hx hb dX2_change_108 (by decide) ?_
          refine lv_iadd hx hb dX2_change_109 ?_
          refine va_putN (D := (dC, dI)) (ci := 5) (fs := oF_X1 ad pr u105) (v := .int ((u105.1 0 314) + (1 : Int32))) (ty := .int) (C := RX1) (T := TX1) (N := 12) hx hb ht itX1 tyX1 tyX1_ok nmX1 hown hK hP hD hS 1 rfl rfl 4 (by decide) (hKK.fl2 6 rfl) (fun _ h9 => h9) rfl (by decide +kernel) rfl rfl (Nat.le_of_ble_eq_true rfl) dX2_change_110 (fun H locs hP hD hS => ?_)
          have hP := cP_ (cw_314 ad pr N cI cR L1 L2 u105 ((u105.1 0 314) + (1 : Int32))) hP
          have hD := cD_ (cw_314 ad pr N cI cR L1 L2 u105 ((u105.1 0 314) + (1 : Int32))) hD
          refine lv_iload hx hb dX2_change_113 (lv_at hl 1 rfl) ?_
          refine lv_if_eq (tgt := 126) hx hb dX2_change_115 (by decide) (fun _ => ?_) (fun k107 => absurd k107 (by decide))
          refine lv_aload_n hx hb dX2_change_126 rfl (lv_at hl 3 rfl) ?_
          refine lv_iload hx hb dX2_change_127 (lv_at hl 2 rfl) ?_
          refine lv_bipush (v := 10) hx hb dX2_change_129 (by decide) ?_
          refine lv_iadd hx hb dX2_change_131 ?_
          refine lv_iload_n hx hb dX2_change_132 rfl (lv_at hl 4 rfl) ?_
          refine lv_iload_n hx hb dX2_change_133 rfl (lv_at hl 5 rfl) ?_
          refine lv_iload_n hx hb dX2_change_134 rfl (lv_at hl 6 rfl) ?_
          obtain ⟨n108, hn109⟩ : ∃ m, n = m + 1 := ex_z (om_5ac3184894 zn q89 i30691 pj91)
          have q110 : (u92.1 0 304).toInt = (u84.1 0 304).toInt := congrArg Int32.toInt ((fr91.2.1 304 (by decide)).trans (show u84.1 0 304 = (u84.1 0 304) by rfl))
          have q111 : (u105.1 0 304).toInt = (u92.1 0 304).toInt := congrArg Int32.toInt ((fr104.2.1 304 (by decide)).trans (show u92.1 0 304 = (u92.1 0 304) by rfl))
          have q112 : (u105.1 0 306).toInt = (u92.1 0 306).toInt := congrArg Int32.toInt ((fr104.2.1 306 (by decide)).trans (show u92.1 0 306 = (u92.1 0 306) by rfl))
          have q113 : (u105.1 0 312).toInt = (u92.1 0 312).toInt := congrArg Int32.toInt ((fr104.2.1 312 (by decide)).trans (show u92.1 0 312 = (u92.1 0 312) by rfl))
          have q114 : (u84.1 0 321).toInt = (v.1 0 321).toInt := congrArg Int32.toInt ((fr83.2.1 321 (by decide)).trans (show v.1 0 321 = (v.1 0 321) by rfl))
          have q115 : (u92.1 0 321).toInt = (u84.1 0 321).toInt := congrArg Int32.toInt ((fr91.2.1 321 (by decide)).trans (show u84.1 0 321 = (u84.1 0 321) by rfl))
          have q116 : (u105.1 0 321).toInt = (u92.1 0 321).toInt := congrArg Int32.toInt ((fr104.2.1 321 (by decide)).trans (show u92.1 0 321 = (u92.1 0 321) by rfl))
          have q117 : (u84.1 0 326).toInt = (v.1 0 326).toInt := congrArg Int32.toInt ((fr83.2.1 326 (by decide)).trans (show v.1 0 326 = (v.1 0 326) by rfl))
          have q118 : (u92.1 0 326).toInt = (u84.1 0 326).toInt := congrArg Int32.toInt ((fr91.2.1 326 (by decide)).trans (show u84.1 0 326 = (u84.1 0 326) by rfl))
          have q119 : (u105.1 0 326).toInt = (u92.1 0 326).toInt := congrArg Int32.toInt ((fr104.2.1 326 (by decide)).trans (show u92.1 0 326 = (u92.1 0 326) by rfl))
          have q120 : (u92.1 0 373).toInt = (u84.1 0 373).toInt := congrArg Int32.toInt ((fr91.2.1 373 (by decide)).trans (show u84.1 0 373 = (u84.1 0 373) by rfl))
          have q121 : (u105.1 0 373).toInt = (u92.1 0 373).toInt := congrArg Int32.toInt ((fr104.2.1 373 (by decide)).trans (show u92.1 0 373 = (u92.1 0 373) by rfl))
          refine W.sz (fun hz9 => ?_)
          refine czx_v (rx_Vk (n := 4) (As := [.int (r3 + (10 : Int32)), .int pa, .int pb, .int pc1]) (rest := []) hx hb hml hown ht hKK hFx hP hD hS hA (c_x_X2_changeBy l n108 (ihE n108 hn109) dC dI cI cB cZ cJ cR tb H.size ad pr N L1 L2 (wA u105 0 314 ((u105.1 0 314) + (1 : Int32))) (r3 + (10 : Int32)) pa pb pc1 ps (show 0 ≤ (u105.1 0 304).toInt ∧ (u105.1 0 304).toInt ≤ 1503 from (om_57e3d9ffbd z304 q88 q110 q111)) (show 0 ≤ (u105.1 0 306).toInt ∧ (u105.1 0 306).toInt ≤ 40 from (om_2a247253ed z306 q89 i30691 pj91 q112)) (show 0 ≤ (u105.1 0 312).toInt ∧ (u105.1 0 312).toInt ≤ 500 from (om_a369f3fea6 z312 q94 q95 q113)) (show 0 ≤ (u105.1 0 321).toInt ∧ (u105.1 0 321).toInt ≤ 501 from (om_ca65317fd6 z321 q114 q115 q116)) (show 0 ≤ (u105.1 0 326).toInt ∧ (u105.1 0 326).toInt ≤ 420 from (om_ba86cd30dc z326 q117 q118 q119)) (show 0 ≤ (u105.1 0 373).toInt ∧ (u105.1 0 373).toInt ≤ 4000 from (om_282c7f458f z373 q90 q120 q121)) (show 0 ≤ (u105.1 0 381).toInt ∧ (u105.1 0 381).toInt ≤ 3008 from (om_e78eec72e1 i381104)) (show L1.length = 40 from hL1) (show L2.length = 60 from hL2) (show RP (wA u105 0 314 ((u105.1 0 314) + (1 : Int32))) from ((show FC [305, 306, 307, 314, 315, 317, 321, 326, 381] [0, 316, 318, 319, 320, 324, 325, 378, 379, 380] v (wA u105 0 314 ((u105.1 0 314) + (1 : Int32))) from (FC.f (FC.tr (FC.tr (FC.tr (FC.rf _) (FC.up fr83 (by decide) (by decide))) (FC.up fr91 (by decide) (by decide))) (FC.up fr104 (by decide) (by decide))) ((u105.1 0 314) + (1 : Int32)) (by decide))).1 rp)) (show pr ps = ad 908 from hps) (show (u105.1 0 300) = ps from (Eq.trans (fr104.2.1 300 (by decide)) (Eq.trans (fr91.2.1 300 (by decide)) (Eq.trans (fr83.2.1 300 (by decide)) es300)))) (show (u105.1 0 310) = ps from (Eq.trans (fr104.2.1 310 (by decide)) (Eq.trans (fr91.2.1 310 (by decide)) (Eq.trans (fr83.2.1 310 (by decide)) es310)))) (show l.stackTraces = false from hst) (show 40 ≤ (u105.1 0 306).toInt + (n108 : Int) from (om_9fa395a918 zn q89 pj91 q112 hn109))) tw_533 tw_534 (by decide +kernel) rfl rfl ⟨show (8 * n108 + 21) + 1 ≤ 8 * n + 14 from (om_a3a29a60ac hn109), show 8 + (6 + 11) + 28 * (8 * n108 + 21) ≤ 28 * (8 * n + 14) from (om_30bf71c26a hn109)⟩ (List.range (cW ad pr N cI cR L1 L2 (wA u105 0 314 ((u105.1 0 314) + (1 : Int32)))).length) (rg_map _) (nd_range _) 2 rfl rfl rfl rfl hl.1 rfl (Nat.le_of_ble_eq_true rfl) dX2_change_135 ⟨Nat.le_of_ble_eq_true rfl, Nat.le_of_ble_eq_true rfl⟩) hP hD hS hA (fun u9 ce9 q9 H locs hx9 hP hD hS hc9 hv9 hf9 => ?_) (fun u123 H locs hw122 hP hD hS hz8 => ?_)
          · exact vx_out (fun x h9 => (hnt x h9).elim) hlocks hc9 hv9 hf9 (fun t9 ht9 hv8 => ⟨u9, ⟨FC.tr (FC.f (FC.tr (FC.tr (FC.tr (FC.rf _) (FC.up fr83 (by decide) (by decide))) (FC.up fr91 (by decide) (by decide))) (FC.up fr104 (by decide) (by decide))) ((u105.1 0 314) + (1 : Int32)) (by decide)) hx9.1, hx9.2⟩, ⟨rfl, by rw [ht9]; exact hP, hD⟩, hS.F ht9⟩) hS.2.2 (Nat.le_refl _) (Nat.le_refl _)
          refine W.shrink (hz8.trans hz9) ?_
          obtain ⟨fr122, i306122, i321122, i326122, i381122, po122⟩ := hw122
          have i306122 : 0 ≤ (u123.1 0 306).toInt ∧ (u123.1 0 306).toInt ≤ 40 := i306122
          have i321122 : 0 ≤ (u123.1 0 321).toInt ∧ (u123.1 0 321).toInt ≤ 501 := i321122
          have i326122 : 0 ≤ (u123.1 0 326).toInt ∧ (u123.1 0 326).toInt ≤ 420 := i326122
          have i381122 : 0 ≤ (u123.1 0 381).toInt ∧ (u123.1 0 381).toInt ≤ 3008 := i381122
          have po122 : (u123.1 0 306).toInt = (u105.1 0 306).toInt := po122
          refine lv_iload_n hx hb dX2_change_138 rfl (lv_at hl 6 rfl) ?_
          refine lv_if_eq (tgt := 170) hx hb dX2_change_139 (by decide) (fun h125 => ?_) (fun h125 => ?_)
          · have z126 : pc1.toInt = (0 : Int) := eq_z rfl (show (0 : Int32).toInt = (0 : Int) by decide) h125
            exact False.elim (om_6db93cff1d z81 z126)
          · have z127 : pc1.toInt ≠ (0 : Int) := ne_z rfl (show (0 : Int32).toInt = (0 : Int) by decide) h125
            refine lv_aload_n hx hb dX2_change_142 rfl (lv_at hl 3 rfl) ?_
            refine va_get (D := (dC, dI)) (ci := 6) (fs := oF_X2 ad pr u123) (v := .ref (ad 901)) (C := RX2) (T := TX2) (N := 5) hx hb ht itX2 hown hK hP 2 rfl rfl 1 (by decide) (ht _ tw_498) (fun _ h9 => h9) rfl dX2_change_143 ?_
            refine lv_dup hx hb dX2_change_146 rfl ?_
            refine va_getN (D := (dC, dI)) (ci := 5) (fs := oF_X1 ad pr u123) (v := .int (u123.1 0 314)) (C := RX1) (T := TX1) (N := 12) hx hb ht itX1 hown hK hP 1 rfl rfl 4 (by decide) (hKK.fl2 6 rfl) (fun _ h9 => h9) rfl dX2_change_147 ?_
            refine lv_iconst (v := 1) hx hb dX2_change_150 (by decide) ?_
            refine lv_isub hx hb dX2_change_151 ?_
            refine va_putN (D := (dC, dI)) (ci := 5) (fs := oF_X1 ad pr u123) (v := .int ((u123.1 0 314) - (1 : Int32))) (ty := .int) (C := RX1) (T := TX1) (N := 12) hx hb ht itX1 tyX1 tyX1_ok nmX1 hown hK hP hD hS 1 rfl rfl 4 (by decide) (hKK.fl2 6 rfl) (fun _ h9 => h9) rfl (by decide +kernel) rfl rfl (Nat.le_of_ble_eq_true rfl) dX2_change_152 (fun H locs hP hD hS => ?_)
            have hP := cP_ (cw_314 ad pr N cI cR L1 L2 u123 ((u123.1 0 314) - (1 : Int32))) hP
            have hD := cD_ (cw_314 ad pr N cI cR L1 L2 u123 ((u123.1 0 314) - (1 : Int32))) hD
            refine lv_aload_n hx hb dX2_change_155 rfl (lv_at hl 3 rfl) ?_
            refine va_get (D := (dC, dI)) (ci := 6) (fs := oF_X2 ad pr (wA u123 0 314 ((u123.1 0 314) - (1 : Int32)))) (v := .ref (ad 901)) (C := RX2) (T := TX2) (N := 5) hx hb ht itX2 hown hK hP 2 rfl rfl 1 (by decide) (ht _ tw_498) (fun _ h9 => h9) rfl dX2_change_156 ?_
            refine lv_bipush (v := 11) hx hb dX2_change_159 (by decide) ?_
            refine lv_iload hx hb dX2_change_161 (lv_at hl 0 rfl) ?_
            refine lv_iconst (v := 0) hx hb dX2_change_163 (by decide) ?_
            refine cu_v (rn_Vk (n := 3) (As := [.int 11, .int r98, .int 0]) (rest := []) hx hb hml hown ht hKK hFx hP hD hS hA (c_x_X1_add l dC dI cI cB cZ cJ cR tb H.size ad pr N L1 L2 (wA u123 0 314 ((u123.1 0 314) - (1 : Int32))) (11 : Int32) r98 (0 : Int32) ps (show 0 ≤ (u123.1 0 381).toInt ∧ (u123.1 0 381).toInt ≤ 3008 from (om_e78eec72e1 i381122)) (show pr ps = ad 908 from hps) (show (u123.1 0 310) = ps from (Eq.trans (fr122.2.1 310 (by decide)) (Eq.trans (fr104.2.1 310 (by decide)) (Eq.trans (fr91.2.1 310 (by decide)) (Eq.trans (fr83.2.1 310 (by decide)) es310)))))) tw_499 tw_500 (by decide +kernel) rfl rfl ⟨show 0 + 1 ≤ 8 * n + 14 from om_2d92e09058, show 8 + (5 + 11) + 0 ≤ 28 * (8 * n + 14) from om_f68798533e⟩ (List.range (cW ad pr N cI cR L1 L2 (wA u123 0 314 ((u123.1 0 314) - (1 : Int32)))).length) (rg_map _) (nd_range _) 1 rfl rfl rfl rfl hl.1 rfl (Nat.le_of_ble_eq_true rfl) dX2_change_164 ⟨Nat.le_of_ble_eq_true rfl, Nat.le_of_ble_eq_true rfl⟩) hP hD hS hA (fun u129 H locs hw128 hP hD hS => ?_)
            obtain ⟨fr128, i381128⟩ := hw128
            have i381128 : 0 ≤ (u129.1 0 381).toInt ∧ (u129.1 0 381).toInt ≤ 3008 := i381128
            refine W.widen (k := 0) (n := 0) (Nat.le_refl _) (Nat.le_refl _) ?_
            refine lv_goto (tgt := 199) hx hb dX2_change_167 (by decide) ?_
            refine lv_aload_n hx hb dX2_change_199 rfl (lv_at hl 3 rfl) ?_
            refine va_get (D := (dC, dI)) (ci := 6) (fs := oF_X2 ad pr u129) (v := .ref (ad 900)) (C := RX2) (T := TX2) (N := 5) hx hb ht itX2 hown hK hP 2 rfl rfl 0 (by decide) (ht _ tw_509) (fun _ h9 => h9) rfl dX2_change_200 ?_
            have q131 : (u129.1 0 306).toInt = (u123.1 0 306).toInt := congrArg Int32.toInt ((fr128.2.1 306 (by decide)).trans (show (wA u123 0 314 ((u123.1 0 314) - (1 : Int32))).1 0 306 = (u123.1 0 306) by rfl))
            refine cu_v (rn_Vk (n := 0) (As := []) (rest := []) hx hb hml hown ht hKK hFx hP hD hS hA (c_x_X9_close l dC dI cI cB cZ cJ cR tb H.size ad pr N L1 L2 u129  (show 0 ≤ (u129.1 0 306).toInt ∧ (u129.1 0 306).toInt ≤ 40 from (om_99e115f631 i306122 q131)) (show 1 ≤ (u129.1 0 306).toInt from (om_874629bc4e z306 q89 pj91 q112 po122 q131))) tw_528 tw_529 (by decide +kernel) rfl rfl ⟨show 0 + 1 ≤ 8 * n + 14 from om_2d92e09058, show 8 + (1 + 11) + 0 ≤ 28 * (8 * n + 14) from om_289622e6d2⟩ (List.range (cW ad pr N cI cR L1 L2 u129).length) (rg_map _) (nd_range _) 0 rfl rfl rfl rfl hl.1 rfl (Nat.le_of_ble_eq_true rfl) dX2_change_203 ⟨Nat.le_of_ble_eq_true rfl, Nat.le_of_ble_eq_true rfl⟩) hP hD hS hA (fun u133 H locs hw132 hP hD hS => ?_)
            obtain ⟨fr132, i306132, pj132⟩ := hw132
            have i306132 : 0 ≤ (u133.1 0 306).toInt ∧ (u133.1 0 306).toInt ≤ 40 := i306132
            have pj132 : (u133.1 0 306).toInt = (u129.1 0 306).toInt - 1 := pj132
            refine W.widen (k := 0) (n := 0) (Nat.le_refl _) (Nat.le_refl _) ?_
            have q135 : (u129.1 0 321).toInt = (u123.1 0 321).toInt := congrArg Int32.toInt ((fr128.2.1 321 (by decide)).trans (show (wA u123 0 314 ((u123.1 0 314) - (1 : Int32))).1 0 321 = (u123.1 0 321) by rfl))
            have q136 : (u133.1 0 321).toInt = (u129.1 0 321).toInt := congrArg Int32.toInt ((fr132.2.1 321 (by decide)).trans (show u129.1 0 321 = (u129.1 0 321) by rfl))
            have q137 : (u129.1 0 326).toInt = (u123.1 0 326).toInt := congrArg Int32.toInt ((fr128.2.1 326 (by decide)).trans (show (wA u123 0 314 ((u123.1 0 314) - (1 : Int32))).1 0 326 = (u123.1 0 326) by rfl))
            have q138 : (u133.1 0 326).toInt = (u129.1 0 326).toInt := congrArg Int32.toInt ((fr132.2.1 326 (by decide)).trans (show u129.1 0 326 = (u129.1 0 326) by rfl))
            have q139 : (u133.1 0 381).toInt = (u129.1 0 381).toInt := congrArg Int32.toInt ((fr132.2.1 381 (by decide)).trans (show u129.1 0 381 = (u129.1 0 381) by rfl))
            refine W.sz (fun hz => ?_)
            refine vx_ret ?_
            refine W.widen (k := 1) (n := 6) (Nat.le_of_ble_eq_true rfl) (Nat.le_of_ble_eq_true rfl) ?_
            exact W.vret hx hb hr (fun t ht9 hW => ⟨⟨u133, rfl, ⟨(FC.tr (FC.tr (FC.f (FC.tr (FC.f (FC.tr (FC.tr (FC.tr (FC.rf _) (FC.up fr83 (by decide) (by decide))) (FC.up fr91 (by decide) (by decide))) (FC.up fr104 (by decide) (by decide))) ((u105.1 0 314) + (1 : Int32)) (by decide)) (FC.up fr122 (by decide) (by decide))) ((u123.1 0 314) - (1 : Int32)) (by decide)) (FC.up fr128 (by decide) (by decide))) (FC.up fr132 (by decide) (by decide))), (show 0 ≤ (u133.1 0 306).toInt ∧ (u133.1 0 306).toInt ≤ 40 from (om_7eaf33e007 i306132)), (show 0 ≤ (u133.1 0 321).toInt ∧ (u133.1 0 321).toInt ≤ 501 from (om_4dfa815534 i321122 q135 q136)), (show 0 ≤ (u133.1 0 326).toInt ∧ (u133.1 0 326).toInt ≤ 420 from (om_9591dea625 i326122 q137 q138)), (show 0 ≤ (u133.1 0 381).toInt ∧ (u133.1 0 381).toInt ≤ 3008 from (om_6e4eb11ad3 i381128 q139)), (show (u133.1 0 306).toInt = (v.1 0 306).toInt from (om_ac685ab65a q89 pj91 q112 po122 q131 pj132))⟩, ⟨by rw [ht9]; exact hP, hD⟩, by rw [ht9]; exact hz⟩, hS.F ht9⟩) hS.2.2 dX2_change_206
      · have z140 : r85.toInt = (0 : Int) := eq_z rfl (show (0 : Int32).toInt = (0 : Int) by decide) h86
        refine lv_aload_n hx hb dX2_change_53 rfl (lv_at hl 2 rfl) ?_
        refine va_get (D := (dC, dI)) (ci := 6) (fs := oF_X2 ad pr u84) (v := .ref (ad 900)) (C := RX2) (T := TX2) (N := 5) hx hb ht itX2 hown hK hP 2 rfl rfl 0 (by decide) (ht _ tw_509) (fun _ h9 => h9) rfl dX2_change_54 ?_
        refine lv_iconst (v := 5) hx hb dX2_change_57 (by decide) ?_
        refine lv_aload_n hx hb dX2_change_58 rfl (lv_at hl 2 rfl) ?_
        refine va_get (D := (dC, dI)) (ci := 6) (fs := oF_X2 ad pr u84) (v := .ref (ad 900)) (C := RX2) (T := TX2) (N := 5) hx hb ht itX2 hown hK hP 2 rfl rfl 0 (by decide) (ht _ tw_509) (fun _ h9 => h9) rfl dX2_change_59 ?_
        have q141 : (u84.1 0 304).toInt = (v.1 0 304).toInt := congrArg Int32.toInt ((fr83.2.1 304 (by decide)).trans (show v.1 0 304 = (v.1 0 304) by rfl))
        have q142 : (u84.1 0 373).toInt = (v.1 0 373).toInt := congrArg Int32.toInt ((fr83.2.1 373 (by decide)).trans (show v.1 0 373 = (v.1 0 373) by rfl))
        refine cu_i (rn_Vk (n := 0) (As := []) (rest := [.int 5, .ref (ad 900)]) hx hb hml hown ht hKK hFx hP hD hS hA (c_x_X9_place l dC dI cI cB cZ cJ cR tb H.size ad pr N L1 L2 u84 ps (show 0 ≤ (u84.1 0 304).toInt ∧ (u84.1 0 304).toInt ≤ 1503 from (om_73002589c1 z304 q141)) (show 0 ≤ (u84.1 0 373).toInt ∧ (u84.1 0 373).toInt ≤ 4000 from (om_9084c127ed z373 q142)) (show pr ps = ad 908 from hps) (show (u84.1 0 300) = ps from (Eq.trans (fr83.2.1 300 (by decide)) es300))) tw_457 tw_510 (by decide +kernel) rfl rfl ⟨show 0 + 1 ≤ 8 * n + 14 from om_2d92e09058, show 8 + (1 + 11) + 0 ≤ 28 * (8 * n + 14) from om_289622e6d2⟩ (List.range (cW ad pr N cI cR L1 L2 u84).length) (rg_map _) (nd_range _) 0 rfl rfl rfl rfl hl.1 rfl (Nat.le_of_ble_eq_true rfl) dX2_change_62 ⟨Nat.le_of_ble_eq_true rfl, Nat.le_of_ble_eq_true rfl⟩) hP hD hS hA (fun r145 u144 H locs hw143 hP hD hS => ?_)
        obtain rfl := hw143
        refine W.widen (k := 0) (n := 0) (Nat.le_refl _) (Nat.le_refl _) ?_
        refine W.sz (fun hz9 => ?_)
        refine czx_v (rx_Vk (n := 2) (As := [.int 5, .int r145]) (rest := []) hx hb hml hown ht hKK hFx hP hD hS hA (c_x_X9_refuse l dC dI cI cB cZ cJ cR tb H.size ad pr N L1 L2 u84 (5 : Int32) r145 (show l.stackTraces = false from hst) (show (5 : Int) ≠ 0 from om_5e02973d50)) tw_459 tw_511 (by decide +kernel) rfl rfl ⟨show 6 + 1 ≤ 8 * n + 14 from om_03d1dde555, show 8 + (3 + 11) + 82 ≤ 28 * (8 * n + 14) from om_0d25788d50⟩ (List.range (cW ad pr N cI cR L1 L2 u84).length) (rg_map _) (nd_range _) 0 rfl rfl rfl rfl hl.1 rfl (Nat.le_of_ble_eq_true rfl) dX2_change_65 ⟨Nat.le_of_ble_eq_true rfl, Nat.le_of_ble_eq_true rfl⟩) hP hD hS hA (fun u9 ce9 q9 H locs hx9 hP hD hS hc9 hv9 hf9 => ?_) (fun u147 H locs hw146 hP hD hS hz8 => ?_)
        · exact vx_out (fun x h9 => (hnt x h9).elim) hlocks hc9 hv9 hf9 (fun t9 ht9 hv8 => ⟨u9, ⟨FC.tr (FC.tr (FC.rf _) (FC.up fr83 (by decide) (by decide))) hx9.1, hx9.2⟩, ⟨rfl, by rw [ht9]; exact hP, hD⟩, hS.F ht9⟩) hS.2.2 (Nat.le_refl _) (Nat.le_refl _)
        refine W.shrink (hz8.trans hz9) ?_
        obtain ⟨fr146, no146⟩ := hw146
        have no146 : False := no146
        exact no146.elim
  · have z149 : r3.toInt = (42 : Int) := eq_z rfl (show (42 : Int32).toInt = (42 : Int) by decide) h4
    refine lv_iconst (v := 1) hx hb dX2_change_16 (by decide) ?_
    refine lv_goto (tgt := 21) hx hb dX2_change_17 (by decide) ?_
    refine lv_istore (lv' := [(5, .int 1), (4, .int r3), (0, .ref (ad 902)), (1, .int pa), (2, .int pb), (3, .int pc1)]) hx hb dX2_change_21 hl (by decide) rfl (fun ls hl => ?_)
    refine lv_aload_n hx hb dX2_change_23 rfl (lv_at hl 2 rfl) ?_
    refine va_get (D := (dC, dI)) (ci := 6) (fs := oF_X2 ad pr v) (v := .ref (ad 901)) (C := RX2) (T := TX2) (N := 5) hx hb ht itX2 hown hK hP 2 rfl rfl 1 (by decide) (ht _ tw_498) (fun _ h9 => h9) rfl dX2_change_24 ?_
    refine lv_iload_n hx hb dX2_change_27 rfl (lv_at hl 5 rfl) ?_
    refine lv_if_eq (tgt := 35) hx hb dX2_change_28 (by decide) (fun h150 => ?_) (fun h150 => ?_)
    · have z151 : pc1.toInt = (0 : Int) := eq_z rfl (show (0 : Int32).toInt = (0 : Int) by decide) h150
      refine lv_iconst (v := 0) hx hb dX2_change_35 (by decide) ?_
      refine lv_iload hx hb dX2_change_36 (lv_at hl 0 rfl) ?_
      refine lv_if_eq (tgt := 45) hx hb dX2_change_38 (by decide) (fun k152 => absurd k152 (by decide)) (fun _ => ?_)
      refine lv_iconst (v := 0) hx hb dX2_change_41 (by decide) ?_
      refine lv_goto (tgt := 46) hx hb dX2_change_42 (by decide) ?_
      refine lv_iadd hx hb dX2_change_46 ?_
      refine tp_i (y := 0) (by decide) ?_
      refine cu_i (rn_Vk (n := 1) (As := [.int 0]) (rest := []) hx hb hml hown ht hKK hFx hP hD hS hA (c_x_X1_wantSlots l dC dI cI cB cZ cJ cR tb H.size ad pr N L1 L2 v (0 : Int32) (show 0 ≤ (v.1 0 312).toInt ∧ (v.1 0 312).toInt ≤ 500 from (om_9861e69da5 z312))) tw_507 tw_508 (by decide +kernel) rfl rfl ⟨show 1 + 1 ≤ 8 * n + 14 from om_c88d106276, show 8 + (3 + 11) + 15 ≤ 28 * (8 * n + 14) from om_ebf30c1e5c⟩ (List.range (cW ad pr N cI cR L1 L2 v).length) (rg_map _) (nd_range _) 1 rfl rfl rfl rfl hl.1 rfl (Nat.le_of_ble_eq_true rfl) dX2_change_47 ⟨Nat.le_of_ble_eq_true rfl, Nat.le_of_ble_eq_true rfl⟩) hP hD hS hA (fun r155 u154 H locs hw153 hP hD hS => ?_)
      obtain ⟨fr153, bz153⟩ := hw153
      refine W.widen (k := 0) (n := 0) (Nat.le_refl _) (Nat.le_refl _) ?_
      refine lv_if_ne (tgt := 68) hx hb dX2_change_50 (by decide) (fun h156 => ?_) (fun h156 => ?_)
      · have z157 : r155.toInt ≠ (0 : Int) := ne_z rfl (show (0 : Int32).toInt = (0 : Int) by decide) h156
        refine lv_aload_n hx hb dX2_change_68 rfl (lv_at hl 2 rfl) ?_
        refine va_get (D := (dC, dI)) (ci := 6) (fs := oF_X2 ad pr u154) (v := .ref (ad 900)) (C := RX2) (T := TX2) (N := 5) hx hb ht itX2 hown hK hP 2 rfl rfl 0 (by decide) (ht _ tw_509) (fun _ h9 => h9) rfl dX2_change_69 ?_
        have q158 : (u154.1 0 304).toInt = (v.1 0 304).toInt := congrArg Int32.toInt ((fr153.2.1 304 (by decide)).trans (show v.1 0 304 = (v.1 0 304) by rfl))
        have q159 : (u154.1 0 306).toInt = (v.1 0 306).toInt := congrArg Int32.toInt ((fr153.2.1 306 (by decide)).trans (show v.1 0 306 = (v.1 0 306) by rfl))
        have q160 : (u154.1 0 373).toInt = (v.1 0 373).toInt := congrArg Int32.toInt ((fr153.2.1 373 (by decide)).trans (show v.1 0 373 = (v.1 0 373) by rfl))
        refine W.sz (fun hz9 => ?_)
        refine czx_v (rx_Vk (n := 0) (As := []) (rest := []) hx hb hml hown ht hKK hFx hP hD hS hA (c_x_X9_open l dC dI cI cB cZ cJ cR tb H.size ad pr N L1 L2 u154 ps (show 0 ≤ (u154.1 0 304).toInt ∧ (u154.1 0 304).toInt ≤ 1503 from (om_73002589c1 z304 q158)) (show 0 ≤ (u154.1 0 306).toInt ∧ (u154.1 0 306).toInt ≤ 40 from (om_99e115f631 z306 q159)) (show 0 ≤ (u154.1 0 373).toInt ∧ (u154.1 0 373).toInt ≤ 4000 from (om_9084c127ed z373 q160)) (show pr ps = ad 908 from hps) (show (u154.1 0 300) = ps from (Eq.trans (fr153.2.1 300 (by decide)) es300)) (show l.stackTraces = false from hst)) tw_524 tw_525 (by decide +kernel) rfl rfl ⟨show 7 + 1 ≤ 8 * n + 14 from om_46126d3ba0, show 8 + (1 + 11) + 104 ≤ 28 * (8 * n + 14) from om_6017b980b8⟩ (List.range (cW ad pr N cI cR L1 L2 u154).length) (rg_map _) (nd_range _) 0 rfl rfl rfl rfl hl.1 rfl (Nat.le_of_ble_eq_true rfl) dX2_change_72 ⟨Nat.le_of_ble_eq_true rfl, Nat.le_of_ble_eq_true rfl⟩) hP hD hS hA (fun u9 ce9 q9 H locs hx9 hP hD hS hc9 hv9 hf9 => ?_) (fun u162 H locs hw161 hP hD hS hz8 => ?_)
        · exact vx_out (fun x h9 => (hnt x h9).elim) hlocks hc9 hv9 hf9 (fun t9 ht9 hv8 => ⟨u9, ⟨FC.tr (FC.tr (FC.rf _) (FC.up fr153 (by decide) (by decide))) hx9.1, hx9.2⟩, ⟨rfl, by rw [ht9]; exact hP, hD⟩, hS.F ht9⟩) hS.2.2 (Nat.le_refl _) (Nat.le_refl _)
        refine W.shrink (hz8.trans hz9) ?_
        obtain ⟨fr161, i306161, pj161⟩ := hw161
        have i306161 : 0 ≤ (u162.1 0 306).toInt ∧ (u162.1 0 306).toInt ≤ 40 := i306161
        have pj161 : (u162.1 0 306).toInt = (u154.1 0 306).toInt + 1 := pj161
        refine lv_aload_n hx hb dX2_change_75 rfl (lv_at hl 2 rfl) ?_
        refine va_get (D := (dC, dI)) (ci := 6) (fs := oF_X2 ad pr u162) (v := .ref (ad 901)) (C := RX2) (T := TX2) (N := 5) hx hb ht itX2 hown hK hP 2 rfl rfl 1 (by decide) (ht _ tw_498) (fun _ h9 => h9) rfl dX2_change_76 ?_
        have q164 : (u154.1 0 312).toInt = (v.1 0 312).toInt := congrArg Int32.toInt ((fr153.2.1 312 (by decide)).trans (show v.1 0 312 = (v.1 0 312) by rfl))
        have q165 : (u162.1 0 312).toInt = (u154.1 0 312).toInt := congrArg Int32.toInt ((fr161.2.1 312 (by decide)).trans (show u154.1 0 312 = (u154.1 0 312) by rfl))
        refine cu_i (rn_Vk (n := 0) (As := []) (rest := []) hx hb hml hown ht hKK hFx hP hD hS hA (c_x_X1_nextSlot l dC dI cI cB cZ cJ cR tb H.size ad pr N L1 L2 u162  (show 0 ≤ (u162.1 0 312).toInt ∧ (u162.1 0 312).toInt ≤ 500 from (om_8a5975ec21 z312 q164 q165))) tw_505 tw_506 (by decide +kernel) rfl rfl ⟨show 0 + 1 ≤ 8 * n + 14 from om_2d92e09058, show 8 + (1 + 11) + 0 ≤ 28 * (8 * n + 14) from om_289622e6d2⟩ (List.range (cW ad pr N cI cR L1 L2 u162).length) (rg_map _) (nd_range _) 1 rfl rfl rfl rfl hl.1 rfl (Nat.le_of_ble_eq_true rfl) dX2_change_79 ⟨Nat.le_of_ble_eq_true rfl, Nat.le_of_ble_eq_true rfl⟩) hP hD hS hA (fun r168 u167 H locs hw166 hP hD hS => ?_)
        obtain rfl := hw166
        refine W.widen (k := 0) (n := 0) (Nat.le_refl _) (Nat.le_refl _) ?_
        refine lv_istore (lv' := [(6, .int r168), (5, .int 1), (4, .int r3), (0, .ref (ad 902)), (1, .int pa), (2, .int pb), (3, .int pc1)]) hx hb dX2_change_82 hl (by decide) rfl (fun ls hl => ?_)
        refine lv_iload_n hx hb dX2_change_84 rfl (lv_at hl 6 rfl) ?_
        refine lv_if_eq (tgt := 113) hx hb dX2_change_85 (by decide) (fun h169 => ?_) (fun h169 => ?_)
        · have z170 : pc1.toInt = (0 : Int) := eq_z rfl (show (0 : Int32).toInt = (0 : Int) by decide) h169
          refine lv_iload hx hb dX2_change_113 (lv_at hl 1 rfl) ?_
          refine lv_if_eq (tgt := 126) hx hb dX2_change_115 (by decide) (fun k171 => absurd k171 (by decide)) (fun _ => ?_)
          refine lv_aload_n hx hb dX2_change_118 rfl (lv_at hl 3 rfl) ?_
          refine lv_iconst (v := 1) hx hb dX2_change_119 (by decide) ?_
          obtain ⟨n172, hn173⟩ : ∃ m, n = m + 1 := ex_z (om_5ac3184894 zn q159 i306161 pj161)
          have q174 : (u162.1 0 304).toInt = (u154.1 0 304).toInt := congrArg Int32.toInt ((fr161.2.1 304 (by decide)).trans (show u154.1 0 304 = (u154.1 0 304) by rfl))
          have q175 : (u154.1 0 321).toInt = (v.1 0 321).toInt := congrArg Int32.toInt ((fr153.2.1 321 (by decide)).trans (show v.1 0 321 = (v.1 0 321) by rfl))
          have q176 : (u162.1 0 321).toInt = (u154.1 0 321).toInt := congrArg Int32.toInt ((fr161.2.1 321 (by decide)).trans (show u154.1 0 321 = (u154.1 0 321) by rfl))
          have q177 : (u154.1 0 326).toInt = (v.1 0 326).toInt := congrArg Int32.toInt ((fr153.2.1 326 (by decide)).trans (show v.1 0 326 = (v.1 0 326) by rfl))
          have q178 : (u162.1 0 326).toInt = (u154.1 0 326).toInt := congrArg Int32.toInt ((fr161.2.1 326 (by decide)).trans (show u154.1 0 326 = (u154.1 0 326) by rfl))
          have q179 : (u162.1 0 373).toInt = (u154.1 0 373).toInt := congrArg Int32.toInt ((fr161.2.1 373 (by decide)).trans (show u154.1 0 373 = (u154.1 0 373) by rfl))
          have q180 : (u154.1 0 381).toInt = (v.1 0 381).toInt := congrArg Int32.toInt ((fr153.2.1 381 (by decide)).trans (show v.1 0 381 = (v.1 0 381) by rfl))
          have q181 : (u162.1 0 381).toInt = (u154.1 0 381).toInt := congrArg Int32.toInt ((fr161.2.1 381 (by decide)).trans (show u154.1 0 381 = (u154.1 0 381) by rfl))
          refine W.sz (fun hz9 => ?_)
          refine czx_v (rx_Vk (n := 1) (As := [.int 1]) (rest := []) hx hb hml hown ht hKK hFx hP hD hS hA (ihE n172 hn173 dC dI cI cB cZ cJ cR tb H.size ad pr N L1 L2 u162 (1 : Int32) ps (show 0 ≤ (u162.1 0 304).toInt ∧ (u162.1 0 304).toInt ≤ 1503 from (om_dd87ee851a z304 q158 q174)) (show 0 ≤ (u162.1 0 306).toInt ∧ (u162.1 0 306).toInt ≤ 40 from (om_7eaf33e007 i306161)) (show 0 ≤ (u162.1 0 312).toInt ∧ (u162.1 0 312).toInt ≤ 500 from (om_8a5975ec21 z312 q164 q165)) (show 0 ≤ (u162.1 0 321).toInt ∧ (u162.1 0 321).toInt ≤ 501 from (om_4dfa815534 z321 q175 q176)) (show 0 ≤ (u162.1 0 326).toInt ∧ (u162.1 0 326).toInt ≤ 420 from (om_9591dea625 z326 q177 q178)) (show 0 ≤ (u162.1 0 373).toInt ∧ (u162.1 0 373).toInt ≤ 4000 from (om_03cd8767ac z373 q160 q179)) (show 0 ≤ (u162.1 0 381).toInt ∧ (u162.1 0 381).toInt ≤ 3008 from (om_769192f2a4 z381 q180 q181)) (show L1.length = 40 from hL1) (show L2.length = 60 from hL2) (show RP u162 from ((show FC [305, 306, 307, 314, 315, 317, 321, 326, 381] [0, 316, 318, 319, 320, 324, 325, 378, 379, 380] v u162 from (FC.tr (FC.tr (FC.rf _) (FC.up fr153 (by decide) (by decide))) (FC.up fr161 (by decide) (by decide)))).1 rp)) (show pr ps = ad 908 from hps) (show (u162.1 0 300) = ps from (Eq.trans (fr161.2.1 300 (by decide)) (Eq.trans (fr153.2.1 300 (by decide)) es300))) (show (u162.1 0 310) = ps from (Eq.trans (fr161.2.1 310 (by decide)) (Eq.trans (fr153.2.1 310 (by decide)) es310))) (show l.stackTraces = false from hst) (show 40 ≤ (u162.1 0 306).toInt + (n172 : Int) from (om_d3bd070dcf zn q159 pj161 hn173))) tw_520 tw_521 (by decide +kernel) rfl rfl ⟨show (8 * n172 + 20) + 1 ≤ 8 * n + 14 from (om_74f46d92b7 hn173), show 8 + (5 + 11) + 28 * (8 * n172 + 20) ≤ 28 * (8 * n + 14) from (om_a843c7c5cc hn173)⟩ (List.range (cW ad pr N cI cR L1 L2 u162).length) (rg_map _) (nd_range _) 2 rfl rfl rfl rfl hl.1 rfl (Nat.le_of_ble_eq_true rfl) dX2_change_120 ⟨Nat.le_of_ble_eq_true rfl, Nat.le_of_ble_eq_true rfl⟩) hP hD hS hA (fun u9 ce9 q9 H locs hx9 hP hD hS hc9 hv9 hf9 => ?_) (fun u183 H locs hw182 hP hD hS hz8 => ?_)
          · exact vx_out (fun x h9 => (hnt x h9).elim) hlocks hc9 hv9 hf9 (fun t9 ht9 hv8 => ⟨u9, ⟨FC.tr (FC.tr (FC.tr (FC.rf _) (FC.up fr153 (by decide) (by decide))) (FC.up fr161 (by decide) (by decide))) hx9.1, hx9.2⟩, ⟨rfl, by rw [ht9]; exact hP, hD⟩, hS.F ht9⟩) hS.2.2 (Nat.le_refl _) (Nat.le_refl _)
          refine W.shrink (hz8.trans hz9) ?_
          obtain ⟨fr182, i306182, i321182, i326182, i381182, po182⟩ := hw182
          have i306182 : 0 ≤ (u183.1 0 306).toInt ∧ (u183.1 0 306).toInt ≤ 40 := i306182
          have i321182 : 0 ≤ (u183.1 0 321).toInt ∧ (u183.1 0 321).toInt ≤ 501 := i321182
          have i326182 : 0 ≤ (u183.1 0 326).toInt ∧ (u183.1 0 326).toInt ≤ 420 := i326182
          have i381182 : 0 ≤ (u183.1 0 381).toInt ∧ (u183.1 0 381).toInt ≤ 3008 := i381182
          have po182 : (u183.1 0 306).toInt = (u162.1 0 306).toInt := po182
          refine lv_goto (tgt := 138) hx hb dX2_change_123 (by decide) ?_
          refine lv_iload_n hx hb dX2_change_138 rfl (lv_at hl 6 rfl) ?_
          refine lv_if_eq (tgt := 170) hx hb dX2_change_139 (by decide) (fun h185 => ?_) (fun h185 => ?_)
          · have z186 : pc1.toInt = (0 : Int) := eq_z rfl (show (0 : Int32).toInt = (0 : Int) by decide) h185
            refine lv_iload_n hx hb dX2_change_170 rfl (lv_at hl 4 rfl) ?_
            refine lv_iconst (v := -1) hx hb dX2_change_171 (by decide) ?_
            refine lv_icmp_eq (tgt := 188) hx hb dX2_change_172 (by decide) (fun h187 => ?_) (fun h187 => ?_)
            · have z188 : pa.toInt = (-1 : Int) := eq_z rfl (show ((-1) : Int32).toInt = (-1 : Int) by decide) h187
              refine lv_aload_n hx hb dX2_change_188 rfl (lv_at hl 3 rfl) ?_
              refine va_get (D := (dC, dI)) (ci := 6) (fs := oF_X2 ad pr u183) (v := .ref (ad 901)) (C := RX2) (T := TX2) (N := 5) hx hb ht itX2 hown hK hP 2 rfl rfl 1 (by decide) (ht _ tw_498) (fun _ h9 => h9) rfl dX2_change_189 ?_
              refine lv_bipush (v := 6) hx hb dX2_change_192 (by decide) ?_
              refine lv_iload_n hx hb dX2_change_194 rfl (lv_at hl 5 rfl) ?_
              refine lv_iconst (v := 0) hx hb dX2_change_195 (by decide) ?_
              refine cu_v (rn_Vk (n := 3) (As := [.int 6, .int pb, .int 0]) (rest := []) hx hb hml hown ht hKK hFx hP hD hS hA (c_x_X1_add l dC dI cI cB cZ cJ cR tb H.size ad pr N L1 L2 u183 (6 : Int32) pb (0 : Int32) ps (show 0 ≤ (u183.1 0 381).toInt ∧ (u183.1 0 381).toInt ≤ 3008 from (om_e78eec72e1 i381182)) (show pr ps = ad 908 from hps) (show (u183.1 0 310) = ps from (Eq.trans (fr182.2.1 310 (by decide)) (Eq.trans (fr161.2.1 310 (by decide)) (Eq.trans (fr153.2.1 310 (by decide)) es310))))) tw_499 tw_500 (by decide +kernel) rfl rfl ⟨show 0 + 1 ≤ 8 * n + 14 from om_2d92e09058, show 8 + (5 + 11) + 0 ≤ 28 * (8 * n + 14) from om_f68798533e⟩ (List.range (cW ad pr N cI cR L1 L2 u183).length) (rg_map _) (nd_range _) 1 rfl rfl rfl rfl hl.1 rfl (Nat.le_of_ble_eq_true rfl) dX2_change_196 ⟨Nat.le_of_ble_eq_true rfl, Nat.le_of_ble_eq_true rfl⟩) hP hD hS hA (fun u190 H locs hw189 hP hD hS => ?_)
              obtain ⟨fr189, i381189⟩ := hw189
              have i381189 : 0 ≤ (u190.1 0 381).toInt ∧ (u190.1 0 381).toInt ≤ 3008 := i381189
              refine W.widen (k := 0) (n := 0) (Nat.le_refl _) (Nat.le_refl _) ?_
              refine lv_aload_n hx hb dX2_change_199 rfl (lv_at hl 3 rfl) ?_
              refine va_get (D := (dC, dI)) (ci := 6) (fs := oF_X2 ad pr u190) (v := .ref (ad 900)) (C := RX2) (T := TX2) (N := 5) hx hb ht itX2 hown hK hP 2 rfl rfl 0 (by decide) (ht _ tw_509) (fun _ h9 => h9) rfl dX2_change_200 ?_
              have q192 : (u190.1 0 306).toInt = (u183.1 0 306).toInt := congrArg Int32.toInt ((fr189.2.1 306 (by decide)).trans (show u183.1 0 306 = (u183.1 0 306) by rfl))
              refine cu_v (rn_Vk (n := 0) (As := []) (rest := []) hx hb hml hown ht hKK hFx hP hD hS hA (c_x_X9_close l dC dI cI cB cZ cJ cR tb H.size ad pr N L1 L2 u190  (show 0 ≤ (u190.1 0 306).toInt ∧ (u190.1 0 306).toInt ≤ 40 from (om_99e115f631 i306182 q192)) (show 1 ≤ (u190.1 0 306).toInt from (om_99c73a5d23 z306 q159 pj161 po182 q192))) tw_528 tw_529 (by decide +kernel) rfl rfl ⟨show 0 + 1 ≤ 8 * n + 14 from om_2d92e09058, show 8 + (1 + 11) + 0 ≤ 28 * (8 * n + 14) from om_289622e6d2⟩ (List.range (cW ad pr N cI cR L1 L2 u190).length) (rg_map _) (nd_range _) 0 rfl rfl rfl rfl hl.1 rfl (Nat.le_of_ble_eq_true rfl) dX2_change_203 ⟨Nat.le_of_ble_eq_true rfl, Nat.le_of_ble_eq_true rfl⟩) hP hD hS hA (fun u194 H locs hw193 hP hD hS => ?_)
              obtain ⟨fr193, i306193, pj193⟩ := hw193
              have i306193 : 0 ≤ (u194.1 0 306).toInt ∧ (u194.1 0 306).toInt ≤ 40 := i306193
              have pj193 : (u194.1 0 306).toInt = (u190.1 0 306).toInt - 1 := pj193
              refine W.widen (k := 0) (n := 0) (Nat.le_refl _) (Nat.le_refl _) ?_
              have q196 : (u190.1 0 321).toInt = (u183.1 0 321).toInt := congrArg Int32.toInt ((fr189.2.1 321 (by decide)).trans (show u183.1 0 321 = (u183.1 0 321) by rfl))
              have q197 : (u194.1 0 321).toInt = (u190.1 0 321).toInt := congrArg Int32.toInt ((fr193.2.1 321 (by decide)).trans (show u190.1 0 321 = (u190.1 0 321) by rfl))
              have q198 : (u190.1 0 326).toInt = (u183.1 0 326).toInt := congrArg Int32.toInt ((fr189.2.1 326 (by decide)).trans (show u183.1 0 326 = (u183.1 0 326) by rfl))
              have q199 : (u194.1 0 326).toInt = (u190.1 0 326).toInt := congrArg Int32.toInt ((fr193.2.1 326 (by decide)).trans (show u190.1 0 326 = (u190.1 0 326) by rfl))
              have q200 : (u194.1 0 381).toInt = (u190.1 0 381).toInt := congrArg Int32.toInt ((fr193.2.1 381 (by decide)).trans (show u190.1 0 381 = (u190.1 0 381) by rfl))
              refine W.sz (fun hz => ?_)
              refine vx_ret ?_
              refine W.widen (k := 1) (n := 6) (Nat.le_of_ble_eq_true rfl) (Nat.le_of_ble_eq_true rfl) ?_
              exact W.vret hx hb hr (fun t ht9 hW => ⟨⟨u194, rfl, ⟨(FC.tr (FC.tr (FC.tr (FC.tr (FC.tr (FC.rf _) (FC.up fr153 (by decide) (by decide))) (FC.up fr161 (by decide) (by decide))) (FC.up fr182 (by decide) (by decide))) (FC.up fr189 (by decide) (by decide))) (FC.up fr193 (by decide) (by decide))), (show 0 ≤ (u194.1 0 306).toInt ∧ (u194.1 0 306).toInt ≤ 40 from (om_7eaf33e007 i306193)), (show 0 ≤ (u194.1 0 321).toInt ∧ (u194.1 0 321).toInt ≤ 501 from (om_4dfa815534 i321182 q196 q197)), (show 0 ≤ (u194.1 0 326).toInt ∧ (u194.1 0 326).toInt ≤ 420 from (om_9591dea625 i326182 q198 q199)), (show 0 ≤ (u194.1 0 381).toInt ∧ (u194.1 0 381).toInt ≤ 3008 from (om_6e4eb11ad3 i381189 q200)), (show (u194.1 0 306).toInt = (v.1 0 306).toInt from (om_4c2747e16f q159 pj161 po182 q192 pj193))⟩, ⟨by rw [ht9]; exact hP, hD⟩, by rw [ht9]; exact hz⟩, hS.F ht9⟩) hS.2.2 dX2_change_206
            · have z201 : pa.toInt ≠ (-1 : Int) := ne_z rfl (show ((-1) : Int32).toInt = (-1 : Int) by decide) h187
              refine lv_aload_n hx hb dX2_change_175 rfl (lv_at hl 3 rfl) ?_
              refine va_get (D := (dC, dI)) (ci := 6) (fs := oF_X2 ad pr u183) (v := .ref (ad 901)) (C := RX2) (T := TX2) (N := 5) hx hb ht itX2 hown hK hP 2 rfl rfl 1 (by decide) (ht _ tw_498) (fun _ h9 => h9) rfl dX2_change_176 ?_
              refine lv_iconst (v := 4) hx hb dX2_change_179 (by decide) ?_
              refine lv_iload_n hx hb dX2_change_180 rfl (lv_at hl 4 rfl) ?_
              refine lv_iconst (v := 0) hx hb dX2_change_181 (by decide) ?_
              refine cu_v (rn_Vk (n := 3) (As := [.int 4, .int pa, .int 0]) (rest := []) hx hb hml hown ht hKK hFx hP hD hS hA (c_x_X1_add l dC dI cI cB cZ cJ cR tb H.size ad pr N L1 L2 u183 (4 : Int32) pa (0 : Int32) ps (show 0 ≤ (u183.1 0 381).toInt ∧ (u183.1 0 381).toInt ≤ 3008 from (om_e78eec72e1 i381182)) (show pr ps = ad 908 from hps) (show (u183.1 0 310) = ps from (Eq.trans (fr182.2.1 310 (by decide)) (Eq.trans (fr161.2.1 310 (by decide)) (Eq.trans (fr153.2.1 310 (by decide)) es310))))) tw_499 tw_500 (by decide +kernel) rfl rfl ⟨show 0 + 1 ≤ 8 * n + 14 from om_2d92e09058, show 8 + (5 + 11) + 0 ≤ 28 * (8 * n + 14) from om_f68798533e⟩ (List.range (cW ad pr N cI cR L1 L2 u183).length) (rg_map _) (nd_range _) 1 rfl rfl rfl rfl hl.1 rfl (Nat.le_of_ble_eq_true rfl) dX2_change_182 ⟨Nat.le_of_ble_eq_true rfl, Nat.le_of_ble_eq_true rfl⟩) hP hD hS hA (fun u203 H locs hw202 hP hD hS => ?_)
              obtain ⟨fr202, i381202⟩ := hw202
              have i381202 : 0 ≤ (u203.1 0 381).toInt ∧ (u203.1 0 381).toInt ≤ 3008 := i381202
              refine W.widen (k := 0) (n := 0) (Nat.le_refl _) (Nat.le_refl _) ?_
              refine lv_goto (tgt := 199) hx hb dX2_change_185 (by decide) ?_
              refine lv_aload_n hx hb dX2_change_199 rfl (lv_at hl 3 rfl) ?_
              refine va_get (D := (dC, dI)) (ci := 6) (fs := oF_X2 ad pr u203) (v := .ref (ad 900)) (C := RX2) (T := TX2) (N := 5) hx hb ht itX2 hown hK hP 2 rfl rfl 0 (by decide) (ht _ tw_509) (fun _ h9 => h9) rfl dX2_change_200 ?_
              have q205 : (u203.1 0 306).toInt = (u183.1 0 306).toInt := congrArg Int32.toInt ((fr202.2.1 306 (by decide)).trans (show u183.1 0 306 = (u183.1 0 306) by rfl))
              refine cu_v (rn_Vk (n := 0) (As := []) (rest := []) hx hb hml hown ht hKK hFx hP hD hS hA (c_x_X9_close l dC dI cI cB cZ cJ cR tb H.size ad pr N L1 L2 u203  (show 0 ≤ (u203.1 0 306).toInt ∧ (u203.1 0 306).toInt ≤ 40 from (om_99e115f631 i306182 q205)) (show 1 ≤ (u203.1 0 306).toInt from (om_99c73a5d23 z306 q159 pj161 po182 q205))) tw_528 tw_529 (by decide +kernel) rfl rfl ⟨show 0 + 1 ≤ 8 * n + 14 from om_2d92e09058, show 8 + (1 + 11) + 0 ≤ 28 * (8 * n + 14) from om_289622e6d2⟩ (List.range (cW ad pr N cI cR L1 L2 u203).length) (rg_map _) (nd_range _) 0 rfl rfl rfl rfl hl.1 rfl (Nat.le_of_ble_eq_true rfl) dX2_change_203 ⟨Nat.le_of_ble_eq_true rfl, Nat.le_of_ble_eq_true rfl⟩) hP hD hS hA (fun u207 H locs hw206 hP hD hS => ?_)
              obtain ⟨fr206, i306206, pj206⟩ := hw206
              have i306206 : 0 ≤ (u207.1 0 306).toInt ∧ (u207.1 0 306).toInt ≤ 40 := i306206
              have pj206 : (u207.1 0 306).toInt = (u203.1 0 306).toInt - 1 := pj206
              refine W.widen (k := 0) (n := 0) (Nat.le_refl _) (Nat.le_refl _) ?_
              have q209 : (u203.1 0 321).toInt = (u183.1 0 321).toInt := congrArg Int32.toInt ((fr202.2.1 321 (by decide)).trans (show u183.1 0 321 = (u183.1 0 321) by rfl))
              have q210 : (u207.1 0 321).toInt = (u203.1 0 321).toInt := congrArg Int32.toInt ((fr206.2.1 321 (by decide)).trans (show u203.1 0 321 = (u203.1 0 321) by rfl))
              have q211 : (u203.1 0 326).toInt = (u183.1 0 326).toInt := congrArg Int32.toInt ((fr202.2.1 326 (by decide)).trans (show u183.1 0 326 = (u183.1 0 326) by rfl))
              have q212 : (u207.1 0 326).toInt = (u203.1 0 326).toInt := congrArg Int32.toInt ((fr206.2.1 326 (by decide)).trans (show u203.1 0 326 = (u203.1 0 326) by rfl))
              have q213 : (u207.1 0 381).toInt = (u203.1 0 381).toInt := congrArg Int32.toInt ((fr206.2.1 381 (by decide)).trans (show u203.1 0 381 = (u203.1 0 381) by rfl))
              refine W.sz (fun hz => ?_)
              refine vx_ret ?_
              refine W.widen (k := 1) (n := 6) (Nat.le_of_ble_eq_true rfl) (Nat.le_of_ble_eq_true rfl) ?_
              exact W.vret hx hb hr (fun t ht9 hW => ⟨⟨u207, rfl, ⟨(FC.tr (FC.tr (FC.tr (FC.tr (FC.tr (FC.rf _) (FC.up fr153 (by decide) (by decide))) (FC.up fr161 (by decide) (by decide))) (FC.up fr182 (by decide) (by decide))) (FC.up fr202 (by decide) (by decide))) (FC.up fr206 (by decide) (by decide))), (show 0 ≤ (u207.1 0 306).toInt ∧ (u207.1 0 306).toInt ≤ 40 from (om_7eaf33e007 i306206)), (show 0 ≤ (u207.1 0 321).toInt ∧ (u207.1 0 321).toInt ≤ 501 from (om_4dfa815534 i321182 q209 q210)), (show 0 ≤ (u207.1 0 326).toInt ∧ (u207.1 0 326).toInt ≤ 420 from (om_9591dea625 i326182 q211 q212)), (show 0 ≤ (u207.1 0 381).toInt ∧ (u207.1 0 381).toInt ≤ 3008 from (om_6e4eb11ad3 i381202 q213)), (show (u207.1 0 306).toInt = (v.1 0 306).toInt from (om_4c2747e16f q159 pj161 po182 q205 pj206))⟩, ⟨by rw [ht9]; exact hP, hD⟩, by rw [ht9]; exact hz⟩, hS.F ht9⟩) hS.2.2 dX2_change_206
          · have z214 : pc1.toInt ≠ (0 : Int) := ne_z rfl (show (0 : Int32).toInt = (0 : Int) by decide) h185
            exact False.elim (om_e92e9f8ce0 z151 z214)
        · have z215 : pc1.toInt ≠ (0 : Int) := ne_z rfl (show (0 : Int32).toInt = (0 : Int) by decide) h169
          exact False.elim (om_e92e9f8ce0 z151 z215)
      · have z216 : r155.toInt = (0 : Int) := eq_z rfl (show (0 : Int32).toInt = (0 : Int) by decide) h156
        refine lv_aload_n hx hb dX2_change_53 rfl (lv_at hl 2 rfl) ?_
        refine va_get (D := (dC, dI)) (ci := 6) (fs := oF_X2 ad pr u154) (v := .ref (ad 900)) (C := RX2) (T := TX2) (N := 5) hx hb ht itX2 hown hK hP 2 rfl rfl 0 (by decide) (ht _ tw_509) (fun _ h9 => h9) rfl dX2_change_54 ?_
        refine lv_iconst (v := 5) hx hb dX2_change_57 (by decide) ?_
        refine lv_aload_n hx hb dX2_change_58 rfl (lv_at hl 2 rfl) ?_
        refine va_get (D := (dC, dI)) (ci := 6) (fs := oF_X2 ad pr u154) (v := .ref (ad 900)) (C := RX2) (T := TX2) (N := 5) hx hb ht itX2 hown hK hP 2 rfl rfl 0 (by decide) (ht _ tw_509) (fun _ h9 => h9) rfl dX2_change_59 ?_
        have q217 : (u154.1 0 304).toInt = (v.1 0 304).toInt := congrArg Int32.toInt ((fr153.2.1 304 (by decide)).trans (show v.1 0 304 = (v.1 0 304) by rfl))
        have q218 : (u154.1 0 373).toInt = (v.1 0 373).toInt := congrArg Int32.toInt ((fr153.2.1 373 (by decide)).trans (show v.1 0 373 = (v.1 0 373) by rfl))
        refine cu_i (rn_Vk (n := 0) (As := []) (rest := [.int 5, .ref (ad 900)]) hx hb hml hown ht hKK hFx hP hD hS hA (c_x_X9_place l dC dI cI cB cZ cJ cR tb H.size ad pr N L1 L2 u154 ps (show 0 ≤ (u154.1 0 304).toInt ∧ (u154.1 0 304).toInt ≤ 1503 from (om_73002589c1 z304 q217)) (show 0 ≤ (u154.1 0 373).toInt ∧ (u154.1 0 373).toInt ≤ 4000 from (om_9084c127ed z373 q218)) (show pr ps = ad 908 from hps) (show (u154.1 0 300) = ps from (Eq.trans (fr153.2.1 300 (by decide)) es300))) tw_457 tw_510 (by decide +kernel) rfl rfl ⟨show 0 + 1 ≤ 8 * n + 14 from om_2d92e09058, show 8 + (1 + 11) + 0 ≤ 28 * (8 * n + 14) from om_289622e6d2⟩ (List.range (cW ad pr N cI cR L1 L2 u154).length) (rg_map _) (nd_range _) 0 rfl rfl rfl rfl hl.1 rfl (Nat.le_of_ble_eq_true rfl) dX2_change_62 ⟨Nat.le_of_ble_eq_true rfl, Nat.le_of_ble_eq_true rfl⟩) hP hD hS hA (fun r221 u220 H locs hw219 hP hD hS => ?_)
        obtain rfl := hw219
        refine W.widen (k := 0) (n := 0) (Nat.le_refl _) (Nat.le_refl _) ?_
        refine W.sz (fun hz9 => ?_)
        refine czx_v (rx_Vk (n := 2) (As := [.int 5, .int r221]) (rest := []) hx hb hml hown ht hKK hFx hP hD hS hA (c_x_X9_refuse l dC dI cI cB cZ cJ cR tb H.size ad pr N L1 L2 u154 (5 : Int32) r221 (show l.stackTraces = false from hst) (show (5 : Int) ≠ 0 from om_5e02973d50)) tw_459 tw_511 (by decide +kernel) rfl rfl ⟨show 6 + 1 ≤ 8 * n + 14 from om_03d1dde555, show 8 + (3 + 11) + 82 ≤ 28 * (8 * n + 14) from om_0d25788d50⟩ (List.range (cW ad pr N cI cR L1 L2 u154).length) (rg_map _) (nd_range _) 0 rfl rfl rfl rfl hl.1 rfl (Nat.le_of_ble_eq_true rfl) dX2_change_65 ⟨Nat.le_of_ble_eq_true rfl, Nat.le_of_ble_eq_true rfl⟩) hP hD hS hA (fun u9 ce9 q9 H locs hx9 hP hD hS hc9 hv9 hf9 => ?_) (fun u223 H locs hw222 hP hD hS hz8 => ?_)
        · exact vx_out (fun x h9 => (hnt x h9).elim) hlocks hc9 hv9 hf9 (fun t9 ht9 hv8 => ⟨u9, ⟨FC.tr (FC.tr (FC.rf _) (FC.up fr153 (by decide) (by decide))) hx9.1, hx9.2⟩, ⟨rfl, by rw [ht9]; exact hP, hD⟩, hS.F ht9⟩) hS.2.2 (Nat.le_refl _) (Nat.le_refl _)
        refine W.shrink (hz8.trans hz9) ?_
        obtain ⟨fr222, no222⟩ := hw222
        have no222 : False := no222
        exact no222.elim
    · have z225 : pc1.toInt ≠ (0 : Int) := ne_z rfl (show (0 : Int32).toInt = (0 : Int) by decide) h150
      refine lv_iconst (v := 1) hx hb dX2_change_31 (by decide) ?_
      refine lv_goto (tgt := 36) hx hb dX2_change_32 (by decide) ?_
      refine lv_iload hx hb dX2_change_36 (lv_at hl 0 rfl) ?_
      refine lv_if_eq (tgt := 45) hx hb dX2_change_38 (by decide) (fun k226 => absurd k226 (by decide)) (fun _ => ?_)
      refine lv_iconst (v := 0) hx hb dX2_change_41 (by decide) ?_
      refine lv_goto (tgt := 46) hx hb dX2_change_42 (by decide) ?_
      refine lv_iadd hx hb dX2_change_46 ?_
      refine tp_i (y := 1) (by decide) ?_
      refine cu_i (rn_Vk (n := 1) (As := [.int 1]) (rest := []) hx hb hml hown ht hKK hFx hP hD hS hA (c_x_X1_wantSlots l dC dI cI cB cZ cJ cR tb H.size ad pr N L1 L2 v (1 : Int32) (show 0 ≤ (v.1 0 312).toInt ∧ (v.1 0 312).toInt ≤ 500 from (om_9861e69da5 z312))) tw_507 tw_508 (by decide +kernel) rfl rfl ⟨show 1 + 1 ≤ 8 * n + 14 from om_c88d106276, show 8 + (3 + 11) + 15 ≤ 28 * (8 * n + 14) from om_ebf30c1e5c⟩ (List.range (cW ad pr N cI cR L1 L2 v).length) (rg_map _) (nd_range _) 1 rfl rfl rfl rfl hl.1 rfl (Nat.le_of_ble_eq_true rfl) dX2_change_47 ⟨Nat.le_of_ble_eq_true rfl, Nat.le_of_ble_eq_true rfl⟩) hP hD hS hA (fun r229 u228 H locs hw227 hP hD hS => ?_)
      obtain ⟨fr227, bz227⟩ := hw227
      refine W.widen (k := 0) (n := 0) (Nat.le_refl _) (Nat.le_refl _) ?_
      refine lv_if_ne (tgt := 68) hx hb dX2_change_50 (by decide) (fun h230 => ?_) (fun h230 => ?_)
      · have z231 : r229.toInt ≠ (0 : Int) := ne_z rfl (show (0 : Int32).toInt = (0 : Int) by decide) h230
        refine lv_aload_n hx hb dX2_change_68 rfl (lv_at hl 2 rfl) ?_
        refine va_get (D := (dC, dI)) (ci := 6) (fs := oF_X2 ad pr u228) (v := .ref (ad 900)) (C := RX2) (T := TX2) (N := 5) hx hb ht itX2 hown hK hP 2 rfl rfl 0 (by decide) (ht _ tw_509) (fun _ h9 => h9) rfl dX2_change_69 ?_
        have q232 : (u228.1 0 304).toInt = (v.1 0 304).toInt := congrArg Int32.toInt ((fr227.2.1 304 (by decide)).trans (show v.1 0 304 = (v.1 0 304) by rfl))
        have q233 : (u228.1 0 306).toInt = (v.1 0 306).toInt := congrArg Int32.toInt ((fr227.2.1 306 (by decide)).trans (show v.1 0 306 = (v.1 0 306) by rfl))
        have q234 : (u228.1 0 373).toInt = (v.1 0 373).toInt := congrArg Int32.toInt ((fr227.2.1 373 (by decide)).trans (show v.1 0 373 = (v.1 0 373) by rfl))
        refine W.sz (fun hz9 => ?_)
        refine czx_v (rx_Vk (n := 0) (As := []) (rest := []) hx hb hml hown ht hKK hFx hP hD hS hA (c_x_X9_open l dC dI cI cB cZ cJ cR tb H.size ad pr N L1 L2 u228 ps (show 0 ≤ (u228.1 0 304).toInt ∧ (u228.1 0 304).toInt ≤ 1503 from (om_73002589c1 z304 q232)) (show 0 ≤ (u228.1 0 306).toInt ∧ (u228.1 0 306).toInt ≤ 40 from (om_99e115f631 z306 q233)) (show 0 ≤ (u228.1 0 373).toInt ∧ (u228.1 0 373).toInt ≤ 4000 from (om_9084c127ed z373 q234)) (show pr ps = ad 908 from hps) (show (u228.1 0 300) = ps from (Eq.trans (fr227.2.1 300 (by decide)) es300)) (show l.stackTraces = false from hst)) tw_524 tw_525 (by decide +kernel) rfl rfl ⟨show 7 + 1 ≤ 8 * n + 14 from om_46126d3ba0, show 8 + (1 + 11) + 104 ≤ 28 * (8 * n + 14) from om_6017b980b8⟩ (List.range (cW ad pr N cI cR L1 L2 u228).length) (rg_map _) (nd_range _) 0 rfl rfl rfl rfl hl.1 rfl (Nat.le_of_ble_eq_true rfl) dX2_change_72 ⟨Nat.le_of_ble_eq_true rfl, Nat.le_of_ble_eq_true rfl⟩) hP hD hS hA (fun u9 ce9 q9 H locs hx9 hP hD hS hc9 hv9 hf9 => ?_) (fun u236 H locs hw235 hP hD hS hz8 => ?_)
        · exact vx_out (fun x h9 => (hnt x h9).elim) hlocks hc9 hv9 hf9 (fun t9 ht9 hv8 => ⟨u9, ⟨FC.tr (FC.tr (FC.rf _) (FC.up fr227 (by decide) (by decide))) hx9.1, hx9.2⟩, ⟨rfl, by rw [ht9]; exact hP, hD⟩, hS.F ht9⟩) hS.2.2 (Nat.le_refl _) (Nat.le_refl _)
        refine W.shrink (hz8.trans hz9) ?_
        obtain ⟨fr235, i306235, pj235⟩ := hw235
        have i306235 : 0 ≤ (u236.1 0 306).toInt ∧ (u236.1 0 306).toInt ≤ 40 := i306235
        have pj235 : (u236.1 0 306).toInt = (u228.1 0 306).toInt + 1 := pj235
        refine lv_aload_n hx hb dX2_change_75 rfl (lv_at hl 2 rfl) ?_
        refine va_get (D := (dC, dI)) (ci := 6) (fs := oF_X2 ad pr u236) (v := .ref (ad 901)) (C := RX2) (T := TX2) (N := 5) hx hb ht itX2 hown hK hP 2 rfl rfl 1 (by decide) (ht _ tw_498) (fun _ h9 => h9) rfl dX2_change_76 ?_
        have q238 : (u228.1 0 312).toInt = (v.1 0 312).toInt := congrArg Int32.toInt ((fr227.2.1 312 (by decide)).trans (show v.1 0 312 = (v.1 0 312) by rfl))
        have q239 : (u236.1 0 312).toInt = (u228.1 0 312).toInt := congrArg Int32.toInt ((fr235.2.1 312 (by decide)).trans (show u228.1 0 312 = (u228.1 0 312) by rfl))
        refine cu_i (rn_Vk (n := 0) (As := []) (rest := []) hx hb hml hown ht hKK hFx hP hD hS hA (c_x_X1_nextSlot l dC dI cI cB cZ cJ cR tb H.size ad pr N L1 L2 u236  (show 0 ≤ (u236.1 0 312).toInt ∧ (u236.1 0 312).toInt ≤ 500 from (om_8a5975ec21 z312 q238 q239))) tw_505 tw_506 (by decide +kernel) rfl rfl ⟨show 0 + 1 ≤ 8 * n + 14 from om_2d92e09058, show 8 + (1 + 11) + 0 ≤ 28 * (8 * n + 14) from om_289622e6d2⟩ (List.range (cW ad pr N cI cR L1 L2 u236).length) (rg_map _) (nd_range _) 1 rfl rfl rfl rfl hl.1 rfl (Nat.le_of_ble_eq_true rfl) dX2_change_79 ⟨Nat.le_of_ble_eq_true rfl, Nat.le_of_ble_eq_true rfl⟩) hP hD hS hA (fun r242 u241 H locs hw240 hP hD hS => ?_)
        obtain rfl := hw240
        refine W.widen (k := 0) (n := 0) (Nat.le_refl _) (Nat.le_refl _) ?_
        refine lv_istore (lv' := [(6, .int r242), (5, .int 1), (4, .int r3), (0, .ref (ad 902)), (1, .int pa), (2, .int pb), (3, .int pc1)]) hx hb dX2_change_82 hl (by decide) rfl (fun ls hl => ?_)
        refine lv_iload_n hx hb dX2_change_84 rfl (lv_at hl 6 rfl) ?_
        refine lv_if_eq (tgt := 113) hx hb dX2_change_85 (by decide) (fun h243 => ?_) (fun h243 => ?_)
        · have z244 : pc1.toInt = (0 : Int) := eq_z rfl (show (0 : Int32).toInt = (0 : Int) by decide) h243
          exact False.elim (om_6db93cff1d z225 z244)
        · have z245 : pc1.toInt ≠ (0 : Int) := ne_z rfl (show (0 : Int32).toInt = (0 : Int) by decide) h243
          refine lv_aload_n hx hb dX2_change_88 rfl (lv_at hl 3 rfl) ?_
          refine va_get (D := (dC, dI)) (ci := 6) (fs := oF_X2 ad pr u236) (v := .ref (ad 901)) (C := RX2) (T := TX2) (N := 5) hx hb ht itX2 hown hK hP 2 rfl rfl 1 (by decide) (ht _ tw_498) (fun _ h9 => h9) rfl dX2_change_89 ?_
          refine lv_bipush (v := 9) hx hb dX2_change_92 (by decide) ?_
          refine lv_iload_n hx hb dX2_change_94 rfl (lv_at hl 5 rfl) ?_
          refine lv_iload hx hb dX2_change_95 (lv_at hl 0 rfl) ?_
          have q246 : (u228.1 0 381).toInt = (v.1 0 381).toInt := congrArg Int32.toInt ((fr227.2.1 381 (by decide)).trans (show v.1 0 381 = (v.1 0 381) by rfl))
          have q247 : (u236.1 0 381).toInt = (u228.1 0 381).toInt := congrArg Int32.toInt ((fr235.2.1 381 (by decide)).trans (show u228.1 0 381 = (u228.1 0 381) by rfl))
          refine cu_v (rn_Vk (n := 3) (As := [.int 9, .int pb, .int r242]) (rest := []) hx hb hml hown ht hKK hFx hP hD hS hA (c_x_X1_add l dC dI cI cB cZ cJ cR tb H.size ad pr N L1 L2 u236 (9 : Int32) pb r242 ps (show 0 ≤ (u236.1 0 381).toInt ∧ (u236.1 0 381).toInt ≤ 3008 from (om_769192f2a4 z381 q246 q247)) (show pr ps = ad 908 from hps) (show (u236.1 0 310) = ps from (Eq.trans (fr235.2.1 310 (by decide)) (Eq.trans (fr227.2.1 310 (by decide)) es310)))) tw_499 tw_500 (by decide +kernel) rfl rfl ⟨show 0 + 1 ≤ 8 * n + 14 from om_2d92e09058, show 8 + (5 + 11) + 0 ≤ 28 * (8 * n + 14) from om_f68798533e⟩ (List.range (cW ad pr N cI cR L1 L2 u236).length) (rg_map _) (nd_range _) 1 rfl rfl rfl rfl hl.1 rfl (Nat.le_of_ble_eq_true rfl) dX2_change_97 ⟨Nat.le_of_ble_eq_true rfl, Nat.le_of_ble_eq_true rfl⟩) hP hD hS hA (fun u249 H locs hw248 hP hD hS => ?_)
          obtain ⟨fr248, i381248⟩ := hw248
          have i381248 : 0 ≤ (u249.1 0 381).toInt ∧ (u249.1 0 381).toInt ≤ 3008 := i381248
          refine W.widen (k := 0) (n := 0) (Nat.le_refl _) (Nat.le_refl _) ?_
          refine lv_aload_n hx hb dX2_change_100 rfl (lv_at hl 3 rfl) ?_
          refine va_get (D := (dC, dI)) (ci := 6) (fs := oF_X2 ad pr u249) (v := .ref (ad 901)) (C := RX2) (T := TX2) (N := 5) hx hb ht itX2 hown hK hP 2 rfl rfl 1 (by decide) (ht _ tw_498) (fun _ h9 => h9) rfl dX2_change_101 ?_
          refine lv_dup hx hb dX2_change_104 rfl ?_
          refine va_getN (D := (dC, dI)) (ci := 5) (fs := oF_X1 ad pr u249) (v := .int (u249.1 0 314)) (C := RX1) (T := TX1) (N := 12) hx hb ht itX1 hown hK hP 1 rfl rfl 4 (by decide) (hKK.fl2 6 rfl) (fun _ h9 => h9) rfl dX2_change_105 ?_
          refine lv_iconst (v := 1) hx hb dX2_change_108 (by decide) ?_
          refine lv_iadd hx hb dX2_change_109 ?_
          refine va_putN (D := (dC, dI)) (ci := 5) (fs := oF_X1 ad pr u249) (v := .int ((u249.1 0 314) + (1 : Int32))) (ty := .int) (C := RX1) (T := TX1) (N := 12) hx hb ht itX1 tyX1 tyX1_ok nmX1 hown hK hP hD hS 1 rfl rfl 4 (by decide) (hKK.fl2 6 rfl) (fun _ h9 => h9) rfl (by decide +kernel) rfl rfl (Nat.le_of_ble_eq_true rfl) dX2_change_110 (fun H locs hP hD hS => ?_)
          have hP := cP_ (cw_314 ad pr N cI cR L1 L2 u249 ((u249.1 0 314) + (1 : Int32))) hP
          have hD := cD_ (cw_314 ad pr N cI cR L1 L2 u249 ((u249.1 0 314) + (1 : Int32))) hD
          refine lv_iload hx hb dX2_change_113 (lv_at hl 1 rfl) ?_
          refine lv_if_eq (tgt := 126) hx hb dX2_change_115 (by decide) (fun k251 => absurd k251 (by decide)) (fun _ => ?_)
          refine lv_aload_n hx hb dX2_change_118 rfl (lv_at hl 3 rfl) ?_
          refine lv_iconst (v := 1) hx hb dX2_change_119 (by decide) ?_
          obtain ⟨n252, hn253⟩ : ∃ m, n = m + 1 := ex_z (om_5ac3184894 zn q233 i306235 pj235)
          have q254 : (u236.1 0 304).toInt = (u228.1 0 304).toInt := congrArg Int32.toInt ((fr235.2.1 304 (by decide)).trans (show u228.1 0 304 = (u228.1 0 304) by rfl))
          have q255 : (u249.1 0 304).toInt = (u236.1 0 304).toInt := congrArg Int32.toInt ((fr248.2.1 304 (by decide)).trans (show u236.1 0 304 = (u236.1 0 304) by rfl))
          have q256 : (u249.1 0 306).toInt = (u236.1 0 306).toInt := congrArg Int32.toInt ((fr248.2.1 306 (by decide)).trans (show u236.1 0 306 = (u236.1 0 306) by rfl))
          have q257 : (u249.1 0 312).toInt = (u236.1 0 312).toInt := congrArg Int32.toInt ((fr248.2.1 312 (by decide)).trans (show u236.1 0 312 = (u236.1 0 312) by rfl))
          have q258 : (u228.1 0 321).toInt = (v.1 0 321).toInt := congrArg Int32.toInt ((fr227.2.1 321 (by decide)).trans (show v.1 0 321 = (v.1 0 321) by rfl))
          have q259 : (u236.1 0 321).toInt = (u228.1 0 321).toInt := congrArg Int32.toInt ((fr235.2.1 321 (by decide)).trans (show u228.1 0 321 = (u228.1 0 321) by rfl))
          have q260 : (u249.1 0 321).toInt = (u236.1 0 321).toInt := congrArg Int32.toInt ((fr248.2.1 321 (by decide)).trans (show u236.1 0 321 = (u236.1 0 321) by rfl))
          have q261 : (u228.1 0 326).toInt = (v.1 0 326).toInt := congrArg Int32.toInt ((fr227.2.1 326 (by decide)).trans (show v.1 0 326 = (v.1 0 326) by rfl))
          have q262 : (u236.1 0 326).toInt = (u228.1 0 326).toInt := congrArg Int32.toInt ((fr235.2.1 326 (by decide)).trans (show u228.1 0 326 = (u228.1 0 326) by rfl))
          have q263 : (u249.1 0 326).toInt = (u236.1 0 326).toInt := congrArg Int32.toInt ((fr248.2.1 326 (by decide)).trans (show u236.1 0 326 = (u236.1 0 326) by rfl))
          have q264 : (u236.1 0 373).toInt = (u228.1 0 373).toInt := congrArg Int32.toInt ((fr235.2.1 373 (by decide)).trans (show u228.1 0 373 = (u228.1 0 373) by rfl))
          have q265 : (u249.1 0 373).toInt = (u236.1 0 373).toInt := congrArg Int32.toInt ((fr248.2.1 373 (by decide)).trans (show u236.1 0 373 = (u236.1 0 373) by rfl))
          refine W.sz (fun hz9 => ?_)
          refine czx_v (rx_Vk (n := 1) (As := [.int 1]) (rest := []) hx hb hml hown ht hKK hFx hP hD hS hA (ihE n252 hn253 dC dI cI cB cZ cJ cR tb H.size ad pr N L1 L2 (wA u249 0 314 ((u249.1 0 314) + (1 : Int32))) (1 : Int32) ps (show 0 ≤ (u249.1 0 304).toInt ∧ (u249.1 0 304).toInt ≤ 1503 from (om_57e3d9ffbd z304 q232 q254 q255)) (show 0 ≤ (u249.1 0 306).toInt ∧ (u249.1 0 306).toInt ≤ 40 from (om_2a247253ed z306 q233 i306235 pj235 q256)) (show 0 ≤ (u249.1 0 312).toInt ∧ (u249.1 0 312).toInt ≤ 500 from (om_a369f3fea6 z312 q238 q239 q257)) (show 0 ≤ (u249.1 0 321).toInt ∧ (u249.1 0 321).toInt ≤ 501 from (om_ca65317fd6 z321 q258 q259 q260)) (show 0 ≤ (u249.1 0 326).toInt ∧ (u249.1 0 326).toInt ≤ 420 from (om_ba86cd30dc z326 q261 q262 q263)) (show 0 ≤ (u249.1 0 373).toInt ∧ (u249.1 0 373).toInt ≤ 4000 from (om_282c7f458f z373 q234 q264 q265)) (show 0 ≤ (u249.1 0 381).toInt ∧ (u249.1 0 381).toInt ≤ 3008 from (om_e78eec72e1 i381248)) (show L1.length = 40 from hL1) (show L2.length = 60 from hL2) (show RP (wA u249 0 314 ((u249.1 0 314) + (1 : Int32))) from ((show FC [305, 306, 307, 314, 315, 317, 321, 326, 381] [0, 316, 318, 319, 320, 324, 325, 378, 379, 380] v (wA u249 0 314 ((u249.1 0 314) + (1 : Int32))) from (FC.f (FC.tr (FC.tr (FC.tr (FC.rf _) (FC.up fr227 (by decide) (by decide))) (FC.up fr235 (by decide) (by decide))) (FC.up fr248 (by decide) (by decide))) ((u249.1 0 314) + (1 : Int32)) (by decide))).1 rp)) (show pr ps = ad 908 from hps) (show (u249.1 0 300) = ps from (Eq.trans (fr248.2.1 300 (by decide)) (Eq.trans (fr235.2.1 300 (by decide)) (Eq.trans (fr227.2.1 300 (by decide)) es300)))) (show (u249.1 0 310) = ps from (Eq.trans (fr248.2.1 310 (by decide)) (Eq.trans (fr235.2.1 310 (by decide)) (Eq.trans (fr227.2.1 310 (by decide)) es310)))) (show l.stackTraces = false from hst) (show 40 ≤ (u249.1 0 306).toInt + (n252 : Int) from (om_9fa395a918 zn q233 pj235 q256 hn253))) tw_520 tw_521 (by decide +kernel) rfl rfl ⟨show (8 * n252 + 20) + 1 ≤ 8 * n + 14 from (om_74f46d92b7 hn253), show 8 + (5 + 11) + 28 * (8 * n252 + 20) ≤ 28 * (8 * n + 14) from (om_a843c7c5cc hn253)⟩ (List.range (cW ad pr N cI cR L1 L2 (wA u249 0 314 ((u249.1 0 314) + (1 : Int32)))).length) (rg_map _) (nd_range _) 2 rfl rfl rfl rfl hl.1 rfl (Nat.le_of_ble_eq_true rfl) dX2_change_120 ⟨Nat.le_of_ble_eq_true rfl, Nat.le_of_ble_eq_true rfl⟩) hP hD hS hA (fun u9 ce9 q9 H locs hx9 hP hD hS hc9 hv9 hf9 => ?_) (fun u267 H locs hw266 hP hD hS hz8 => ?_)
          · exact vx_out (fun x h9 => (hnt x h9).elim) hlocks hc9 hv9 hf9 (fun t9 ht9 hv8 => ⟨u9, ⟨FC.tr (FC.f (FC.tr (FC.tr (FC.tr (FC.rf _) (FC.up fr227 (by decide) (by decide))) (FC.up fr235 (by decide) (by decide))) (FC.up fr248 (by decide) (by decide))) ((u249.1 0 314) + (1 : Int32)) (by decide)) hx9.1, hx9.2⟩, ⟨rfl, by rw [ht9]; exact hP, hD⟩, hS.F ht9⟩) hS.2.2 (Nat.le_refl _) (Nat.le_refl _)
          refine W.shrink (hz8.trans hz9) ?_
          obtain ⟨fr266, i306266, i321266, i326266, i381266, po266⟩ := hw266
          have i306266 : 0 ≤ (u267.1 0 306).toInt ∧ (u267.1 0 306).toInt ≤ 40 := i306266
          have i321266 : 0 ≤ (u267.1 0 321).toInt ∧ (u267.1 0 321).toInt ≤ 501 := i321266
          have i326266 : 0 ≤ (u267.1 0 326).toInt ∧ (u267.1 0 326).toInt ≤ 420 := i326266
          have i381266 : 0 ≤ (u267.1 0 381).toInt ∧ (u267.1 0 381).toInt ≤ 3008 := i381266
          have po266 : (u267.1 0 306).toInt = (u249.1 0 306).toInt := po266
          refine lv_goto (tgt := 138) hx hb dX2_change_123 (by decide) ?_
          refine lv_iload_n hx hb dX2_change_138 rfl (lv_at hl 6 rfl) ?_
          refine lv_if_eq (tgt := 170) hx hb dX2_change_139 (by decide) (fun h269 => ?_) (fun h269 => ?_)
          · have z270 : pc1.toInt = (0 : Int) := eq_z rfl (show (0 : Int32).toInt = (0 : Int) by decide) h269
            exact False.elim (om_6db93cff1d z225 z270)
          · have z271 : pc1.toInt ≠ (0 : Int) := ne_z rfl (show (0 : Int32).toInt = (0 : Int) by decide) h269
            refine lv_aload_n hx hb dX2_change_142 rfl (lv_at hl 3 rfl) ?_
            refine va_get (D := (dC, dI)) (ci := 6) (fs := oF_X2 ad pr u267) (v := .ref (ad 901)) (C := RX2) (T := TX2) (N := 5) hx hb ht itX2 hown hK hP 2 rfl rfl 1 (by decide) (ht _ tw_498) (fun _ h9 => h9) rfl dX2_change_143 ?_
            refine lv_dup hx hb dX2_change_146 rfl ?_
            refine va_getN (D := (dC, dI)) (ci := 5) (fs := oF_X1 ad pr u267) (v := .int (u267.1 0 314)) (C := RX1) (T := TX1) (N := 12) hx hb ht itX1 hown hK hP 1 rfl rfl 4 (by decide) (hKK.fl2 6 rfl) (fun _ h9 => h9) rfl dX2_change_147 ?_
            refine lv_iconst (v := 1) hx hb dX2_change_150 (by decide) ?_
            refine lv_isub hx hb dX2_change_151 ?_
            refine va_putN (D := (dC, dI)) (ci := 5) (fs := oF_X1 ad pr u267) (v := .int ((u267.1 0 314) - (1 : Int32))) (ty := .int) (C := RX1) (T := TX1) (N := 12) hx hb ht itX1 tyX1 tyX1_ok nmX1 hown hK hP hD hS 1 rfl rfl 4 (by decide) (hKK.fl2 6 rfl) (fun _ h9 => h9) rfl (by decide +kernel) rfl rfl (Nat.le_of_ble_eq_true rfl) dX2_change_152 (fun H locs hP hD hS => ?_)
            have hP := cP_ (cw_314 ad pr N cI cR L1 L2 u267 ((u267.1 0 314) - (1 : Int32))) hP
            have hD := cD_ (cw_314 ad pr N cI cR L1 L2 u267 ((u267.1 0 314) - (1 : Int32))) hD
            refine lv_aload_n hx hb dX2_change_155 rfl (lv_at hl 3 rfl) ?_
            refine va_get (D := (dC, dI)) (ci := 6) (fs := oF_X2 ad pr (wA u267 0 314 ((u267.1 0 314) - (1 : Int32)))) (v := .ref (ad 901)) (C := RX2) (T := TX2) (N := 5) hx hb ht itX2 hown hK hP 2 rfl rfl 1 (by decide) (ht _ tw_498) (fun _ h9 => h9) rfl dX2_change_156 ?_
            refine lv_bipush (v := 11) hx hb dX2_change_159 (by decide) ?_
            refine lv_iload hx hb dX2_change_161 (lv_at hl 0 rfl) ?_
            refine lv_iconst (v := 0) hx hb dX2_change_163 (by decide) ?_
            refine cu_v (rn_Vk (n := 3) (As := [.int 11, .int r242, .int 0]) (rest := []) hx hb hml hown ht hKK hFx hP hD hS hA (c_x_X1_add l dC dI cI cB cZ cJ cR tb H.size ad pr N L1 L2 (wA u267 0 314 ((u267.1 0 314) - (1 : Int32))) (11 : Int32) r242 (0 : Int32) ps (show 0 ≤ (u267.1 0 381).toInt ∧ (u267.1 0 381).toInt ≤ 3008 from (om_e78eec72e1 i381266)) (show pr ps = ad 908 from hps) (show (u267.1 0 310) = ps from (Eq.trans (fr266.2.1 310 (by decide)) (Eq.trans (fr248.2.1 310 (by decide)) (Eq.trans (fr235.2.1 310 (by decide)) (Eq.trans (fr227.2.1 310 (by decide)) es310)))))) tw_499 tw_500 (by decide +kernel) rfl rfl ⟨show 0 + 1 ≤ 8 * n + 14 from om_2d92e09058, show 8 + (5 + 11) + 0 ≤ 28 * (8 * n + 14) from om_f68798533e⟩ (List.range (cW ad pr N cI cR L1 L2 (wA u267 0 314 ((u267.1 0 314) - (1 : Int32)))).length) (rg_map _) (nd_range _) 1 rfl rfl rfl rfl hl.1 rfl (Nat.le_of_ble_eq_true rfl) dX2_change_164 ⟨Nat.le_of_ble_eq_true rfl, Nat.le_of_ble_eq_true rfl⟩) hP hD hS hA (fun u273 H locs hw272 hP hD hS => ?_)
            obtain ⟨fr272, i381272⟩ := hw272
            have i381272 : 0 ≤ (u273.1 0 381).toInt ∧ (u273.1 0 381).toInt ≤ 3008 := i381272
            refine W.widen (k := 0) (n := 0) (Nat.le_refl _) (Nat.le_refl _) ?_
            refine lv_goto (tgt := 199) hx hb dX2_change_167 (by decide) ?_
            refine lv_aload_n hx hb dX2_change_199 rfl (lv_at hl 3 rfl) ?_
            refine va_get (D := (dC, dI)) (ci := 6) (fs := oF_X2 ad pr u273) (v := .ref (ad 900)) (C := RX2) (T := TX2) (N := 5) hx hb ht itX2 hown hK hP 2 rfl rfl 0 (by decide) (ht _ tw_509) (fun _ h9 => h9) rfl dX2_change_200 ?_
            have q275 : (u273.1 0 306).toInt = (u267.1 0 306).toInt := congrArg Int32.toInt ((fr272.2.1 306 (by decide)).trans (show (wA u267 0 314 ((u267.1 0 314) - (1 : Int32))).1 0 306 = (u267.1 0 306) by rfl))
            refine cu_v (rn_Vk (n := 0) (As := []) (rest := []) hx hb hml hown ht hKK hFx hP hD hS hA (c_x_X9_close l dC dI cI cB cZ cJ cR tb H.size ad pr N L1 L2 u273  (show 0 ≤ (u273.1 0 306).toInt ∧ (u273.1 0 306).toInt ≤ 40 from (om_99e115f631 i306266 q275)) (show 1 ≤ (u273.1 0 306).toInt from (om_874629bc4e z306 q233 pj235 q256 po266 q275))) tw_528 tw_529 (by decide +kernel) rfl rfl ⟨show 0 + 1 ≤ 8 * n + 14 from om_2d92e09058, show 8 + (1 + 11) + 0 ≤ 28 * (8 * n + 14) from om_289622e6d2⟩ (List.range (cW ad pr N cI cR L1 L2 u273).length) (rg_map _) (nd_range _) 0 rfl rfl rfl rfl hl.1 rfl (Nat.le_of_ble_eq_true rfl) dX2_change_203 ⟨Nat.le_of_ble_eq_true rfl, Nat.le_of_ble_eq_true rfl⟩) hP hD hS hA (fun u277 H locs hw276 hP hD hS => ?_)
            obtain ⟨fr276, i306276, pj276⟩ := hw276
            have i306276 : 0 ≤ (u277.1 0 306).toInt ∧ (u277.1 0 306).toInt ≤ 40 := i306276
            have pj276 : (u277.1 0 306).toInt = (u273.1 0 306).toInt - 1 := pj276
            refine W.widen (k := 0) (n := 0) (Nat.le_refl _) (Nat.le_refl _) ?_
            have q279 : (u273.1 0 321).toInt = (u267.1 0 321).toInt := congrArg Int32.toInt ((fr272.2.1 321 (by decide)).trans (show (wA u267 0 314 ((u267.1 0 314) - (1 : Int32))).1 0 321 = (u267.1 0 321) by rfl))
            have q280 : (u277.1 0 321).toInt = (u273.1 0 321).toInt := congrArg Int32.toInt ((fr276.2.1 321 (by decide)).trans (show u273.1 0 321 = (u273.1 0 321) by rfl))
            have q281 : (u273.1 0 326).toInt = (u267.1 0 326).toInt := congrArg Int32.toInt ((fr272.2.1 326 (by decide)).trans (show (wA u267 0 314 ((u267.1 0 314) - (1 : Int32))).1 0 326 = (u267.1 0 326) by rfl))
            have q282 : (u277.1 0 326).toInt = (u273.1 0 326).toInt := congrArg Int32.toInt ((fr276.2.1 326 (by decide)).trans (show u273.1 0 326 = (u273.1 0 326) by rfl))
            have q283 : (u277.1 0 381).toInt = (u273.1 0 381).toInt := congrArg Int32.toInt ((fr276.2.1 381 (by decide)).trans (show u273.1 0 381 = (u273.1 0 381) by rfl))
            refine W.sz (fun hz => ?_)
            refine vx_ret ?_
            refine W.widen (k := 1) (n := 6) (Nat.le_of_ble_eq_true rfl) (Nat.le_of_ble_eq_true rfl) ?_
            exact W.vret hx hb hr (fun t ht9 hW => ⟨⟨u277, rfl, ⟨(FC.tr (FC.tr (FC.f (FC.tr (FC.f (FC.tr (FC.tr (FC.tr (FC.rf _) (FC.up fr227 (by decide) (by decide))) (FC.up fr235 (by decide) (by decide))) (FC.up fr248 (by decide) (by decide))) ((u249.1 0 314) + (1 : Int32)) (by decide)) (FC.up fr266 (by decide) (by decide))) ((u267.1 0 314) - (1 : Int32)) (by decide)) (FC.up fr272 (by decide) (by decide))) (FC.up fr276 (by decide) (by decide))), (show 0 ≤ (u277.1 0 306).toInt ∧ (u277.1 0 306).toInt ≤ 40 from (om_7eaf33e007 i306276)), (show 0 ≤ (u277.1 0 321).toInt ∧ (u277.1 0 321).toInt ≤ 501 from (om_4dfa815534 i321266 q279 q280)), (show 0 ≤ (u277.1 0 326).toInt ∧ (u277.1 0 326).toInt ≤ 420 from (om_9591dea625 i326266 q281 q282)), (show 0 ≤ (u277.1 0 381).toInt ∧ (u277.1 0 381).toInt ≤ 3008 from (om_6e4eb11ad3 i381272 q283)), (show (u277.1 0 306).toInt = (v.1 0 306).toInt from (om_ac685ab65a q233 pj235 q256 po266 q275 pj276))⟩, ⟨by rw [ht9]; exact hP, hD⟩, by rw [ht9]; exact hz⟩, hS.F ht9⟩) hS.2.2 dX2_change_206
      · have z284 : r229.toInt = (0 : Int) := eq_z rfl (show (0 : Int32).toInt = (0 : Int) by decide) h230
        refine lv_aload_n hx hb dX2_change_53 rfl (lv_at hl 2 rfl) ?_
        refine va_get (D := (dC, dI)) (ci := 6) (fs := oF_X2 ad pr u228) (v := .ref (ad 900)) (C := RX2) (T := TX2) (N := 5) hx hb ht itX2 hown hK hP 2 rfl rfl 0 (by decide) (ht _ tw_509) (fun _ h9 => h9) rfl dX2_change_54 ?_
        refine lv_iconst (v := 5) hx hb dX2_change_57 (by decide) ?_
        refine lv_aload_n hx hb dX2_change_58 rfl (lv_at hl 2 rfl) ?_
        refine va_get (D := (dC, dI)) (ci := 6) (fs := oF_X2 ad pr u228) (v := .ref (ad 900)) (C := RX2) (T := TX2) (N := 5) hx hb ht itX2 hown hK hP 2 rfl rfl 0 (by decide) (ht _ tw_509) (fun _ h9 => h9) rfl dX2_change_59 ?_
        have q285 : (u228.1 0 304).toInt = (v.1 0 304).toInt := congrArg Int32.toInt ((fr227.2.1 304 (by decide)).trans (show v.1 0 304 = (v.1 0 304) by rfl))
        have q286 : (u228.1 0 373).toInt = (v.1 0 373).toInt := congrArg Int32.toInt ((fr227.2.1 373 (by decide)).trans (show v.1 0 373 = (v.1 0 373) by rfl))
        refine cu_i (rn_Vk (n := 0) (As := []) (rest := [.int 5, .ref (ad 900)]) hx hb hml hown ht hKK hFx hP hD hS hA (c_x_X9_place l dC dI cI cB cZ cJ cR tb H.size ad pr N L1 L2 u228 ps (show 0 ≤ (u228.1 0 304).toInt ∧ (u228.1 0 304).toInt ≤ 1503 from (om_73002589c1 z304 q285)) (show 0 ≤ (u228.1 0 373).toInt ∧ (u228.1 0 373).toInt ≤ 4000 from (om_9084c127ed z373 q286)) (show pr ps = ad 908 from hps) (show (u228.1 0 300) = ps from (Eq.trans (fr227.2.1 300 (by decide)) es300))) tw_457 tw_510 (by decide +kernel) rfl rfl ⟨show 0 + 1 ≤ 8 * n + 14 from om_2d92e09058, show 8 + (1 + 11) + 0 ≤ 28 * (8 * n + 14) from om_289622e6d2⟩ (List.range (cW ad pr N cI cR L1 L2 u228).length) (rg_map _) (nd_range _) 0 rfl rfl rfl rfl hl.1 rfl (Nat.le_of_ble_eq_true rfl) dX2_change_62 ⟨Nat.le_of_ble_eq_true rfl, Nat.le_of_ble_eq_true rfl⟩) hP hD hS hA (fun r289 u288 H locs hw287 hP hD hS => ?_)
        obtain rfl := hw287
        refine W.widen (k := 0) (n := 0) (Nat.le_refl _) (Nat.le_refl _) ?_
        refine W.sz (fun hz9 => ?_)
        refine czx_v (rx_Vk (n := 2) (As := [.int 5, .int r289]) (rest := []) hx hb hml hown ht hKK hFx hP hD hS hA (c_x_X9_refuse l dC dI cI cB cZ cJ cR tb H.size ad pr N L1 L2 u228 (5 : Int32) r289 (show l.stackTraces = false from hst) (show (5 : Int) ≠ 0 from om_5e02973d50)) tw_459 tw_511 (by decide +kernel) rfl rfl ⟨show 6 + 1 ≤ 8 * n + 14 from om_03d1dde555, show 8 + (3 + 11) + 82 ≤ 28 * (8 * n + 14) from om_0d25788d50⟩ (List.range (cW ad pr N cI cR L1 L2 u228).length) (rg_map _) (nd_range _) 0 rfl rfl rfl rfl hl.1 rfl (Nat.le_of_ble_eq_true rfl) dX2_change_65 ⟨Nat.le_of_ble_eq_true rfl, Nat.le_of_ble_eq_true rfl⟩) hP hD hS hA (fun u9 ce9 q9 H locs hx9 hP hD hS hc9 hv9 hf9 => ?_) (fun u291 H locs hw290 hP hD hS hz8 => ?_)
        · exact vx_out (fun x h9 => (hnt x h9).elim) hlocks hc9 hv9 hf9 (fun t9 ht9 hv8 => ⟨u9, ⟨FC.tr (FC.tr (FC.rf _) (FC.up fr227 (by decide) (by decide))) hx9.1, hx9.2⟩, ⟨rfl, by rw [ht9]; exact hP, hD⟩, hS.F ht9⟩) hS.2.2 (Nat.le_refl _) (Nat.le_refl _)
        refine W.shrink (hz8.trans hz9) ?_
        obtain ⟨fr290, no290⟩ := hw290
        have no290 : False := no290
        exact no290.elim
theorem om_73264659df {n0 : Nat} : 8 + (3 + 11) + 0 ≤ 28 * (8 * n0 + 14) := by omega
theorem om_dd7a401061 {x0 x1 x2 x3 x4 : Int} (h0 : 0 ≤ x0 ∧ x0 ≤ 40) (h1 : x1 = x0) (h2 : x2 = x1) (h3 : x3 = x2 + 1) (h4 : x4 = x3) : 1 ≤ x4 := by omega
theorem om_712fbb48b1 {x0 x1 x2 x3 x4 x5 : Int} (h0 : 0 ≤ x0 ∧ x0 ≤ 3008) (h1 : x1 = x0) (h2 : x2 = x1) (h3 : x3 = x2) (h4 : x4 = x3) (h5 : x5 = x4) : 0 ≤ x5 ∧ x5 ≤ 3008 := by omega
theorem om_455369e3a5 {x0 x1 x2 x3 x4 x5 : Int} (h0 : 0 ≤ x0 ∧ x0 ≤ 501) (h1 : x1 = x0) (h2 : x2 = x1) (h3 : x3 = x2) (h4 : x4 = x3) (h5 : x5 = x4) : 0 ≤ x5 ∧ x5 ≤ 501 := by omega
theorem om_49eb06c282 {x0 x1 x2 x3 x4 x5 x6 : Int} (h0 : 0 ≤ x0 ∧ x0 ≤ 420) (h1 : x1 = x0) (h2 : x2 = x1) (h3 : x3 = x2) (h4 : x4 = x3) (h5 : x5 = x4) (h6 : x6 = x5) : 0 ≤ x6 ∧ x6 ≤ 420 := by omega
theorem om_901bcf77d5 {x0 x1 x2 x3 x4 x5 x6 : Int} (h0 : x0 = x1) (h1 : x2 = x0) (h2 : x3 = x2 + 1) (h3 : x4 = x3) (h4 : x5 = x4 - 1) (h5 : x6 = x5) : x6 = x1 := by omega
theorem om_2c845f05d0 {x0 x2 x3 x4 : Int} {n1 n5 : Nat} (h0 : 40 ≤ x0 + (n1 : Int)) (h1 : x2 = x0) (h2 : x3 = x2) (h3 : x4 = x3 + 1) (h4 : n1 = n5 + 1) : 40 ≤ x4 + (n5 : Int) := by omega
theorem om_def48f1266 {n0 n1 : Nat} (h0 : n0 = n1 + 1) : 8 + (3 + 11) + 28 * (8 * n1 + 21) ≤ 28 * (8 * n0 + 14) := by omega
theorem om_a29fe7849e : 1 ≤ (1 : Int) ∧ (1 : Int) ≤ 1500 := by omega
theorem om_f3b8f628f3 {x0 x1 x2 x3 x4 : Int} (h0 : x0 = x1) (h1 : x2 = x0) (h2 : x3 = x2 + 1) (h3 : x4 = x3) : x4 = x1 + 1 := by omega
theorem om_209fa13ef3 {x0 x1 x2 : Int} (h0 : 0 ≤ x0 ∧ x0 ≤ 40) (h1 : 0 ≤ x1 ∧ x1 ≤ 40) (h2 : x1 = x0 + 1) (h3 : x2 = x1) : 0 ≤ x2 ∧ x2 ≤ 40 := by omega
theorem om_fa93d1e14b {x0 x2 x3 : Int} {n1 n4 : Nat} (h0 : 40 ≤ x0 + (n1 : Int)) (h1 : x2 = x0 + 1) (h2 : x3 = x2) (h3 : n1 = n4 + 1) : 40 ≤ x3 + (n4 : Int) := by omega
theorem om_5e93c3af80 {x0 : Int} (h0 : 1 ≤ x0 ∧ x0 ≤ 1500) : -2147483648 ≤ x0 + (1 : Int) := by omega
theorem om_3a4b6fcf1c {x0 : Int} (h0 : 1 ≤ x0 ∧ x0 ≤ 1500) : x0 + (1 : Int) < 2147483648 := by omega
theorem om_15a3ad8535 {x0 x1 : Int} (h0 : 1 ≤ x0 ∧ x0 ≤ 1500) (h1 : x0 < (1500 : Int)) (h2 : x1 = x0 + (1 : Int)) : 1 ≤ x1 ∧ x1 ≤ 1500 := by omega
theorem om_c1f65cf568 {x0 x1 x2 x3 : Int} (h0 : x0 = x1 + 1) (h1 : x2 = x0) (h2 : x3 = x2) : x3 = x1 + 1 := by omega
theorem om_f107c3c51d {x0 x1 : Int} (h0 : x0 = x1 + (1 : Int)) : 1500 - x0 < 1500 - x1 := by omega
theorem om_1cb5cb4f43 {x0 : Int} (h0 : x0 < (1500 : Int)) : 0 < 1500 - x0 := by omega
set_option maxHeartbeats 16000000 in
set_option maxRecDepth 100000 in
theorem c_x_X2_callFunction (l : Launch) (n : Nat) (ihE : ∀ m, n = m + 1 → Cq_expression l m) (dC : Nat → ClassId) (dI : Nat → Nat → Nat) (cI cB cZ cJ cR : ClassId) (tb : Nat → Nat) (sz : Nat) (ad : Nat → Nat) (pr : Int32 → Nat) (N : Nat) (L1 L2 : List Nat) (v : MS) (ps : Int32) (z304 : 0 ≤ (v.1 0 304).toInt ∧ (v.1 0 304).toInt ≤ 1503) (z306 : 0 ≤ (v.1 0 306).toInt ∧ (v.1 0 306).toInt ≤ 40) (z312 : 0 ≤ (v.1 0 312).toInt ∧ (v.1 0 312).toInt ≤ 500) (z321 : 0 ≤ (v.1 0 321).toInt ∧ (v.1 0 321).toInt ≤ 501) (z326 : 0 ≤ (v.1 0 326).toInt ∧ (v.1 0 326).toInt ≤ 420) (z373 : 0 ≤ (v.1 0 373).toInt ∧ (v.1 0 373).toInt ≤ 4000) (z381 : 0 ≤ (v.1 0 381).toInt ∧ (v.1 0 381).toInt ≤ 3008) (hL1 : L1.length = 40) (hL2 : L2.length = 60) (rp : RP v) (hps : pr ps = ad 908) (es300 : (v.1 0 300) = ps) (es310 : (v.1 0 310) = ps) (hst : l.stackTraces = false) (zn : 40 ≤ (v.1 0 306).toInt + (n : Int)) : vx_Met l yX2_callFunction (Cond.code yX2_callFunction cX2_callFunction 5 none :: tw_W) ({ frames := 8 * n + 14, cells := 1, slots := 6, locals := 28 * (8 * n + 14) }) (pc_ (dC, dI) (tyS cI cB cZ cJ cR) tb (cW ad pr N cI cR L1 L2 v) sz [.ref (ad 902)]) (qvz_ (dC, dI) (cW ad pr N cI cR L1 L2 v) sz (fun (u : MS) => FC [305, 306, 307, 314, 315, 317, 321, 326, 381] [0, 316, 318, 319, 320, 324, 325, 378, 379, 380] v u ∧ (0 ≤ (u.1 0 306).toInt ∧ (u.1 0 306).toInt ≤ 40) ∧ (0 ≤ (u.1 0 321).toInt ∧ (u.1 0 321).toInt ≤ 501) ∧ (0 ≤ (u.1 0 326).toInt ∧ (u.1 0 326).toInt ≤ 420) ∧ (0 ≤ (u.1 0 381).toInt ∧ (u.1 0 381).toInt ≤ 3008) ∧ ((u.1 0 306).toInt = (v.1 0 306).toInt)) (fun (u : MS) => (cW ad pr N cI cR L1 L2 u))) (qxc (dC, dI) (cW ad pr N cI cR L1 L2 v) sz (fun (u : MS) => (cW ad pr N cI cR L1 L2 u)) (fun (u : MS) => FC xfl xal v u ∧ (u.1 0 308).toInt ≠ 0)) 1 6 (va_A (cW ad pr N cI cR L1 L2 v) sz) := by
  refine vx_ofW (cc := cX2_callFunction) (maxL := 5) (ret := none) (by decide) rfl ?_
  intro p e s m args below meth c s₁ B hml hnt hv
  obtain ⟨rfl, hsz, hP, hKK, hD0, hFx⟩ := hv
  have hK := hKK.1
  have hx := B.exec
  have hb := B.bytes
  have hr := B.returns
  have ht : ∀ w ∈ tw_W, w.before _ s = true := fun w h => atoms_spec (ws := Cond.code yX2_callFunction cX2_callFunction 5 none :: tw_W) B.pre w (List.mem_cons_of_mem _ h)
  have hown : s.vm.findClass RX2 = some m.cls := findClass_of_methodNamed B.named
  have hlocks := B.notSynchronized
  subst hsz
  unfold qvz_ qxc
  have hD := hD0.self (sz := s.heap.size)
  generalize hAe : va_A (cW ad pr N cI cR L1 L2 v) s.heap.size = A at hD hFx ⊢
  have hA : ∀ q : Nat, s.heap.size ≤ q → A q := fun q h => by rw [← hAe]; exact Or.inr h
  have hS : va_S A s.heap s.heap [] := va_S.rf
  have hl := lv_entry ([.ref (ad 902)]) (n := 5) (Nat.le_of_ble_eq_true rfl)
  rw [lg_entry_eq]
  generalize (lg_sl ([.ref (ad 902)]) ++ List.replicate (5 - (lg_sl ([.ref (ad 902)])).length) Slot.unset).toArray = ls at hl ⊢
  have hl : lv_has ls 5 [(0, .ref (ad 902))] := hl
  refine lv_aload_n hx hb dX2_callFunction_0 rfl (lv_at hl 0 rfl) ?_
  refine va_get (D := (dC, dI)) (ci := 6) (fs := oF_X2 ad pr v) (v := .ref (ad 901)) (C := RX2) (T := TX2) (N := 5) hx hb ht itX2 hown hK hP 2 rfl rfl 1 (by decide) (ht _ tw_498) (fun _ h9 => h9) rfl dX2_callFunction_1 ?_
  refine lv_aload_n hx hb dX2_callFunction_4 rfl (lv_at hl 0 rfl) ?_
  refine va_get (D := (dC, dI)) (ci := 6) (fs := oF_X2 ad pr v) (v := .ref (ad 900)) (C := RX2) (T := TX2) (N := 5) hx hb ht itX2 hown hK hP 2 rfl rfl 0 (by decide) (ht _ tw_509) (fun _ h9 => h9) rfl dX2_callFunction_5 ?_
  refine cu_i (rn_Vk (n := 0) (As := []) (rest := [.ref (ad 901)]) hx hb hml hown ht hKK hFx hP hD hS hA (c_x_X9_value l dC dI cI cB cZ cJ cR tb s.heap.size ad pr N L1 L2 v  (show 0 ≤ (v.1 0 304).toInt ∧ (v.1 0 304).toInt ≤ 1503 from (om_c99648273b z304))) tw_535 tw_536 (by decide +kernel) rfl rfl ⟨show 0 + 1 ≤ 8 * n + 14 from om_2d92e09058, show 8 + (1 + 11) + 0 ≤ 28 * (8 * n + 14) from om_289622e6d2⟩ (List.range (cW ad pr N cI cR L1 L2 v).length) (rg_map _) (nd_range _) 0 rfl rfl rfl rfl hl.1 rfl (Nat.le_of_ble_eq_true rfl) dX2_callFunction_8 ⟨Nat.le_of_ble_eq_true rfl, Nat.le_of_ble_eq_true rfl⟩) hP hD hS hA (fun r3 u2 H locs hw1 hP hD hS => ?_)
  obtain rfl := hw1
  refine W.widen (k := 0) (n := 0) (Nat.le_refl _) (Nat.le_refl _) ?_
  refine lv_aload_n hx hb dX2_callFunction_11 rfl (lv_at hl 0 rfl) ?_
  refine va_get (D := (dC, dI)) (ci := 6) (fs := oF_X2 ad pr v) (v := .ref (ad 900)) (C := RX2) (T := TX2) (N := 5) hx hb ht itX2 hown hK hP 2 rfl rfl 0 (by decide) (ht _ tw_509) (fun _ h9 => h9) rfl dX2_callFunction_12 ?_
  refine cu_i (rn_Vk (n := 0) (As := []) (rest := [.int r3, .ref (ad 901)]) hx hb hml hown ht hKK hFx hP hD hS hA (c_x_X9_place l dC dI cI cB cZ cJ cR tb H.size ad pr N L1 L2 v ps (show 0 ≤ (v.1 0 304).toInt ∧ (v.1 0 304).toInt ≤ 1503 from (om_c99648273b z304)) (show 0 ≤ (v.1 0 373).toInt ∧ (v.1 0 373).toInt ≤ 4000 from (om_c74a68af25 z373)) (show pr ps = ad 908 from hps) (show (v.1 0 300) = ps from es300)) tw_457 tw_510 (by decide +kernel) rfl rfl ⟨show 0 + 1 ≤ 8 * n + 14 from om_2d92e09058, show 8 + (1 + 11) + 0 ≤ 28 * (8 * n + 14) from om_289622e6d2⟩ (List.range (cW ad pr N cI cR L1 L2 v).length) (rg_map _) (nd_range _) 0 rfl rfl rfl rfl hl.1 rfl (Nat.le_of_ble_eq_true rfl) dX2_callFunction_15 ⟨Nat.le_of_ble_eq_true rfl, Nat.le_of_ble_eq_true rfl⟩) hP hD hS hA (fun r6 u5 H locs hw4 hP hD hS => ?_)
  obtain rfl := hw4
  refine W.widen (k := 0) (n := 0) (Nat.le_refl _) (Nat.le_refl _) ?_
  refine cu_i (rn_Vk (n := 2) (As := [.int r3, .int r6]) (rest := []) hx hb hml hown ht hKK hFx hP hD hS hA (c_x_X1_addCall l dC dI cI cB cZ cJ cR tb H.size ad pr N L1 L2 v r3 r6 (show 0 ≤ (v.1 0 321).toInt ∧ (v.1 0 321).toInt ≤ 501 from (om_e1d35f5faf z321))) tw_537 tw_538 (by decide +kernel) rfl rfl ⟨show 0 + 1 ≤ 8 * n + 14 from om_2d92e09058, show 8 + (3 + 11) + 0 ≤ 28 * (8 * n + 14) from om_73264659df⟩ (List.range (cW ad pr N cI cR L1 L2 v).length) (rg_map _) (nd_range _) 1 rfl rfl rfl rfl hl.1 rfl (Nat.le_of_ble_eq_true rfl) dX2_callFunction_18 ⟨Nat.le_of_ble_eq_true rfl, Nat.le_of_ble_eq_true rfl⟩) hP hD hS hA (fun r9 u8 H locs hw7 hP hD hS => ?_)
  obtain ⟨fr7, i3217⟩ := hw7
  refine W.widen (k := 0) (n := 0) (Nat.le_refl _) (Nat.le_refl _) ?_
  refine lv_istore_n (lv' := [(1, .int r9), (0, .ref (ad 902))]) hx hb dX2_callFunction_21 rfl hl (by decide) rfl (fun ls hl => ?_)
  refine lv_aload_n hx hb dX2_callFunction_22 rfl (lv_at hl 1 rfl) ?_
  refine va_get (D := (dC, dI)) (ci := 6) (fs := oF_X2 ad pr u8) (v := .ref (ad 901)) (C := RX2) (T := TX2) (N := 5) hx hb ht itX2 hown hK hP 2 rfl rfl 1 (by decide) (ht _ tw_498) (fun _ h9 => h9) rfl dX2_callFunction_23 ?_
  have q10 : (u8.1 0 312).toInt = (v.1 0 312).toInt := congrArg Int32.toInt ((fr7.2.1 312 (by decide)).trans (show v.1 0 312 = (v.1 0 312) by rfl))
  refine cu_i (rn_Vk (n := 0) (As := []) (rest := []) hx hb hml hown ht hKK hFx hP hD hS hA (c_x_X1_nextSlot l dC dI cI cB cZ cJ cR tb H.size ad pr N L1 L2 u8  (show 0 ≤ (u8.1 0 312).toInt ∧ (u8.1 0 312).toInt ≤ 500 from (om_f8376ff89c z312 q10))) tw_505 tw_506 (by decide +kernel) rfl rfl ⟨show 0 + 1 ≤ 8 * n + 14 from om_2d92e09058, show 8 + (1 + 11) + 0 ≤ 28 * (8 * n + 14) from om_289622e6d2⟩ (List.range (cW ad pr N cI cR L1 L2 u8).length) (rg_map _) (nd_range _) 1 rfl rfl rfl rfl hl.1 rfl (Nat.le_of_ble_eq_true rfl) dX2_callFunction_26 ⟨Nat.le_of_ble_eq_true rfl, Nat.le_of_ble_eq_true rfl⟩) hP hD hS hA (fun r13 u12 H locs hw11 hP hD hS => ?_)
  obtain rfl := hw11
  refine W.widen (k := 0) (n := 0) (Nat.le_refl _) (Nat.le_refl _) ?_
  refine lv_istore_n (lv' := [(2, .int r13), (1, .int r9), (0, .ref (ad 902))]) hx hb dX2_callFunction_29 rfl hl (by decide) rfl (fun ls hl => ?_)
  refine lv_aload_n hx hb dX2_callFunction_30 rfl (lv_at hl 2 rfl) ?_
  refine va_get (D := (dC, dI)) (ci := 6) (fs := oF_X2 ad pr u8) (v := .ref (ad 900)) (C := RX2) (T := TX2) (N := 5) hx hb ht itX2 hown hK hP 2 rfl rfl 0 (by decide) (ht _ tw_509) (fun _ h9 => h9) rfl dX2_callFunction_31 ?_
  have q14 : (u8.1 0 304).toInt = (v.1 0 304).toInt := congrArg Int32.toInt ((fr7.2.1 304 (by decide)).trans (show v.1 0 304 = (v.1 0 304) by rfl))
  have q15 : (u8.1 0 373).toInt = (v.1 0 373).toInt := congrArg Int32.toInt ((fr7.2.1 373 (by decide)).trans (show v.1 0 373 = (v.1 0 373) by rfl))
  refine W.sz (fun hz9 => ?_)
  refine czx_v (rx_Vk (n := 0) (As := []) (rest := []) hx hb hml hown ht hKK hFx hP hD hS hA (c_x_X9_take l dC dI cI cB cZ cJ cR tb H.size ad pr N L1 L2 u8 ps (show 0 ≤ (u8.1 0 304).toInt ∧ (u8.1 0 304).toInt ≤ 1503 from (om_73002589c1 z304 q14)) (show 0 ≤ (u8.1 0 373).toInt ∧ (u8.1 0 373).toInt ≤ 4000 from (om_9084c127ed z373 q15)) (show pr ps = ad 908 from hps) (show (u8.1 0 300) = ps from (Eq.trans (fr7.2.1 300 (by decide)) es300)) (show l.stackTraces = false from hst)) tw_539 tw_540 (by decide +kernel) rfl rfl ⟨show 7 + 1 ≤ 8 * n + 14 from om_46126d3ba0, show 8 + (1 + 11) + 104 ≤ 28 * (8 * n + 14) from om_6017b980b8⟩ (List.range (cW ad pr N cI cR L1 L2 u8).length) (rg_map _) (nd_range _) 0 rfl rfl rfl rfl hl.1 rfl (Nat.le_of_ble_eq_true rfl) dX2_callFunction_34 ⟨Nat.le_of_ble_eq_true rfl, Nat.le_of_ble_eq_true rfl⟩) hP hD hS hA (fun u9 ce9 q9 H locs hx9 hP hD hS hc9 hv9 hf9 => ?_) (fun u17 H locs hw16 hP hD hS hz8 => ?_)
  · exact vx_out (fun x h9 => (hnt x h9).elim) hlocks hc9 hv9 hf9 (fun t9 ht9 hv8 => ⟨u9, ⟨FC.tr (FC.tr (FC.rf _) (FC.up fr7 (by decide) (by decide))) hx9.1, hx9.2⟩, ⟨rfl, by rw [ht9]; exact hP, hD⟩, hS.F ht9⟩) hS.2.2 (Nat.le_refl _) (Nat.le_refl _)
  refine W.shrink (hz8.trans hz9) ?_
  have fr16 := hw16
  refine lv_aload_n hx hb dX2_callFunction_37 rfl (lv_at hl 2 rfl) ?_
  refine va_get (D := (dC, dI)) (ci := 6) (fs := oF_X2 ad pr u17) (v := .ref (ad 900)) (C := RX2) (T := TX2) (N := 5) hx hb ht itX2 hown hK hP 2 rfl rfl 0 (by decide) (ht _ tw_509) (fun _ h9 => h9) rfl dX2_callFunction_38 ?_
  have q19 : (u17.1 0 304).toInt = (u8.1 0 304).toInt := congrArg Int32.toInt ((fr16.2.1 304 (by decide)).trans (show u8.1 0 304 = (u8.1 0 304) by rfl))
  have q20 : (u8.1 0 306).toInt = (v.1 0 306).toInt := congrArg Int32.toInt ((fr7.2.1 306 (by decide)).trans (show v.1 0 306 = (v.1 0 306) by rfl))
  have q21 : (u17.1 0 306).toInt = (u8.1 0 306).toInt := congrArg Int32.toInt ((fr16.2.1 306 (by decide)).trans (show u8.1 0 306 = (u8.1 0 306) by rfl))
  have q22 : (u17.1 0 373).toInt = (u8.1 0 373).toInt := congrArg Int32.toInt ((fr16.2.1 373 (by decide)).trans (show u8.1 0 373 = (u8.1 0 373) by rfl))
  refine W.sz (fun hz9 => ?_)
  refine czx_v (rx_Vk (n := 0) (As := []) (rest := []) hx hb hml hown ht hKK hFx hP hD hS hA (c_x_X9_open l dC dI cI cB cZ cJ cR tb H.size ad pr N L1 L2 u17 ps (show 0 ≤ (u17.1 0 304).toInt ∧ (u17.1 0 304).toInt ≤ 1503 from (om_dd87ee851a z304 q14 q19)) (show 0 ≤ (u17.1 0 306).toInt ∧ (u17.1 0 306).toInt ≤ 40 from (om_68f540929a z306 q20 q21)) (show 0 ≤ (u17.1 0 373).toInt ∧ (u17.1 0 373).toInt ≤ 4000 from (om_03cd8767ac z373 q15 q22)) (show pr ps = ad 908 from hps) (show (u17.1 0 300) = ps from (Eq.trans (fr16.2.1 300 (by decide)) (Eq.trans (fr7.2.1 300 (by decide)) es300))) (show l.stackTraces = false from hst)) tw_524 tw_525 (by decide +kernel) rfl rfl ⟨show 7 + 1 ≤ 8 * n + 14 from om_46126d3ba0, show 8 + (1 + 11) + 104 ≤ 28 * (8 * n + 14) from om_6017b980b8⟩ (List.range (cW ad pr N cI cR L1 L2 u17).length) (rg_map _) (nd_range _) 0 rfl rfl rfl rfl hl.1 rfl (Nat.le_of_ble_eq_true rfl) dX2_callFunction_41 ⟨Nat.le_of_ble_eq_true rfl, Nat.le_of_ble_eq_true rfl⟩) hP hD hS hA (fun u9 ce9 q9 H locs hx9 hP hD hS hc9 hv9 hf9 => ?_) (fun u24 H locs hw23 hP hD hS hz8 => ?_)
  · exact vx_out (fun x h9 => (hnt x h9).elim) hlocks hc9 hv9 hf9 (fun t9 ht9 hv8 => ⟨u9, ⟨FC.tr (FC.tr (FC.tr (FC.rf _) (FC.up fr7 (by decide) (by decide))) (FC.up fr16 (by decide) (by decide))) hx9.1, hx9.2⟩, ⟨rfl, by rw [ht9]; exact hP, hD⟩, hS.F ht9⟩) hS.2.2 (Nat.le_refl _) (Nat.le_refl _)
  refine W.shrink (hz8.trans hz9) ?_
  obtain ⟨fr23, i30623, pj23⟩ := hw23
  have i30623 : 0 ≤ (u24.1 0 306).toInt ∧ (u24.1 0 306).toInt ≤ 40 := i30623
  have pj23 : (u24.1 0 306).toInt = (u17.1 0 306).toInt + 1 := pj23
  refine lv_iconst (v := 0) hx hb dX2_callFunction_44 (by decide) ?_
  refine lv_istore_n (lv' := [(3, .int 0), (2, .int r13), (1, .int r9), (0, .ref (ad 902))]) hx hb dX2_callFunction_45 rfl hl (by decide) rfl (fun ls hl => ?_)
  refine lv_aload_n hx hb dX2_callFunction_46 rfl (lv_at hl 3 rfl) ?_
  refine va_get (D := (dC, dI)) (ci := 6) (fs := oF_X2 ad pr u24) (v := .ref (ad 900)) (C := RX2) (T := TX2) (N := 5) hx hb ht itX2 hown hK hP 2 rfl rfl 0 (by decide) (ht _ tw_509) (fun _ h9 => h9) rfl dX2_callFunction_47 ?_
  have q26 : (u24.1 0 304).toInt = (u17.1 0 304).toInt := congrArg Int32.toInt ((fr23.2.1 304 (by decide)).trans (show u17.1 0 304 = (u17.1 0 304) by rfl))
  refine cu_i (rn_Vk (n := 0) (As := []) (rest := []) hx hb hml hown ht hKK hFx hP hD hS hA (c_x_X9_kind l dC dI cI cB cZ cJ cR tb H.size ad pr N L1 L2 u24  (show 0 ≤ (u24.1 0 304).toInt ∧ (u24.1 0 304).toInt ≤ 1503 from (om_57e3d9ffbd z304 q14 q19 q26))) tw_455 tw_532 (by decide +kernel) rfl rfl ⟨show 0 + 1 ≤ 8 * n + 14 from om_2d92e09058, show 8 + (1 + 11) + 0 ≤ 28 * (8 * n + 14) from om_289622e6d2⟩ (List.range (cW ad pr N cI cR L1 L2 u24).length) (rg_map _) (nd_range _) 0 rfl rfl rfl rfl hl.1 rfl (Nat.le_of_ble_eq_true rfl) dX2_callFunction_50 ⟨Nat.le_of_ble_eq_true rfl, Nat.le_of_ble_eq_true rfl⟩) hP hD hS hA (fun r29 u28 H locs hw27 hP hD hS => ?_)
  obtain rfl := hw27
  refine W.widen (k := 0) (n := 0) (Nat.le_refl _) (Nat.le_refl _) ?_
  refine lv_bipush (v := 31) hx hb dX2_callFunction_53 (by decide) ?_
  refine lv_icmp_eq (tgt := 113) hx hb dX2_callFunction_55 (by decide) (fun h30 => ?_) (fun h30 => ?_)
  · have z31 : r29.toInt = (31 : Int) := eq_z rfl (show (31 : Int32).toInt = (31 : Int) by decide) h30
    refine lv_aload_n hx hb dX2_callFunction_113 rfl (lv_at hl 3 rfl) ?_
    refine va_get (D := (dC, dI)) (ci := 6) (fs := oF_X2 ad pr u24) (v := .ref (ad 900)) (C := RX2) (T := TX2) (N := 5) hx hb ht itX2 hown hK hP 2 rfl rfl 0 (by decide) (ht _ tw_509) (fun _ h9 => h9) rfl dX2_callFunction_114 ?_
    refine lv_bipush (v := 31) hx hb dX2_callFunction_117 (by decide) ?_
    have q32 : (u24.1 0 373).toInt = (u17.1 0 373).toInt := congrArg Int32.toInt ((fr23.2.1 373 (by decide)).trans (show u17.1 0 373 = (u17.1 0 373) by rfl))
    refine W.sz (fun hz9 => ?_)
    refine czx_v (rx_Vk (n := 1) (As := [.int 31]) (rest := []) hx hb hml hown ht hKK hFx hP hD hS hA (c_x_X9_expect l dC dI cI cB cZ cJ cR tb H.size ad pr N L1 L2 u24 (31 : Int32) ps (show 0 ≤ (u24.1 0 304).toInt ∧ (u24.1 0 304).toInt ≤ 1503 from (om_57e3d9ffbd z304 q14 q19 q26)) (show 0 ≤ (u24.1 0 373).toInt ∧ (u24.1 0 373).toInt ≤ 4000 from (om_282c7f458f z373 q15 q22 q32)) (show pr ps = ad 908 from hps) (show (u24.1 0 300) = ps from (Eq.trans (fr23.2.1 300 (by decide)) (Eq.trans (fr16.2.1 300 (by decide)) (Eq.trans (fr7.2.1 300 (by decide)) es300)))) (show l.stackTraces = false from hst)) tw_526 tw_527 (by decide +kernel) rfl rfl ⟨show 7 + 1 ≤ 8 * n + 14 from om_46126d3ba0, show 8 + (2 + 11) + 104 ≤ 28 * (8 * n + 14) from om_2d7c913608⟩ (List.range (cW ad pr N cI cR L1 L2 u24).length) (rg_map _) (nd_range _) 0 rfl rfl rfl rfl hl.1 rfl (Nat.le_of_ble_eq_true rfl) dX2_callFunction_119 ⟨Nat.le_of_ble_eq_true rfl, Nat.le_of_ble_eq_true rfl⟩) hP hD hS hA (fun u9 ce9 q9 H locs hx9 hP hD hS hc9 hv9 hf9 => ?_) (fun u34 H locs hw33 hP hD hS hz8 => ?_)
    · exact vx_out (fun x h9 => (hnt x h9).elim) hlocks hc9 hv9 hf9 (fun t9 ht9 hv8 => ⟨u9, ⟨FC.tr (FC.tr (FC.tr (FC.tr (FC.rf _) (FC.up fr7 (by decide) (by decide))) (FC.up fr16 (by decide) (by decide))) (FC.up fr23 (by decide) (by decide))) hx9.1, hx9.2⟩, ⟨rfl, by rw [ht9]; exact hP, hD⟩, hS.F ht9⟩) hS.2.2 (Nat.le_refl _) (Nat.le_refl _)
    refine W.shrink (hz8.trans hz9) ?_
    have fr33 := hw33
    refine lv_aload_n hx hb dX2_callFunction_122 rfl (lv_at hl 3 rfl) ?_
    refine va_get (D := (dC, dI)) (ci := 6) (fs := oF_X2 ad pr u34) (v := .ref (ad 900)) (C := RX2) (T := TX2) (N := 5) hx hb ht itX2 hown hK hP 2 rfl rfl 0 (by decide) (ht _ tw_509) (fun _ h9 => h9) rfl dX2_callFunction_123 ?_
    have q36 : (u34.1 0 306).toInt = (u24.1 0 306).toInt := congrArg Int32.toInt ((fr33.2.1 306 (by decide)).trans (show u24.1 0 306 = (u24.1 0 306) by rfl))
    refine cu_v (rn_Vk (n := 0) (As := []) (rest := []) hx hb hml hown ht hKK hFx hP hD hS hA (c_x_X9_close l dC dI cI cB cZ cJ cR tb H.size ad pr N L1 L2 u34  (show 0 ≤ (u34.1 0 306).toInt ∧ (u34.1 0 306).toInt ≤ 40 from (om_99e115f631 i30623 q36)) (show 1 ≤ (u34.1 0 306).toInt from (om_dd7a401061 z306 q20 q21 pj23 q36))) tw_528 tw_529 (by decide +kernel) rfl rfl ⟨show 0 + 1 ≤ 8 * n + 14 from om_2d92e09058, show 8 + (1 + 11) + 0 ≤ 28 * (8 * n + 14) from om_289622e6d2⟩ (List.range (cW ad pr N cI cR L1 L2 u34).length) (rg_map _) (nd_range _) 0 rfl rfl rfl rfl hl.1 rfl (Nat.le_of_ble_eq_true rfl) dX2_callFunction_126 ⟨Nat.le_of_ble_eq_true rfl, Nat.le_of_ble_eq_true rfl⟩) hP hD hS hA (fun u38 H locs hw37 hP hD hS => ?_)
    obtain ⟨fr37, i30637, pj37⟩ := hw37
    have i30637 : 0 ≤ (u38.1 0 306).toInt ∧ (u38.1 0 306).toInt ≤ 40 := i30637
    have pj37 : (u38.1 0 306).toInt = (u34.1 0 306).toInt - 1 := pj37
    refine W.widen (k := 0) (n := 0) (Nat.le_refl _) (Nat.le_refl _) ?_
    refine lv_aload_n hx hb dX2_callFunction_129 rfl (lv_at hl 3 rfl) ?_
    refine va_get (D := (dC, dI)) (ci := 6) (fs := oF_X2 ad pr u38) (v := .ref (ad 901)) (C := RX2) (T := TX2) (N := 5) hx hb ht itX2 hown hK hP 2 rfl rfl 1 (by decide) (ht _ tw_498) (fun _ h9 => h9) rfl dX2_callFunction_130 ?_
    refine lv_dup hx hb dX2_callFunction_133 rfl ?_
    refine va_getN (D := (dC, dI)) (ci := 5) (fs := oF_X1 ad pr u38) (v := .int (u38.1 0 314)) (C := RX1) (T := TX1) (N := 12) hx hb ht itX1 hown hK hP 1 rfl rfl 4 (by decide) (hKK.fl2 6 rfl) (fun _ h9 => h9) rfl dX2_callFunction_134 ?_
    refine lv_iload_n hx hb dX2_callFunction_137 rfl (lv_at hl 0 rfl) ?_
    refine lv_isub hx hb dX2_callFunction_138 ?_
    refine va_putN (D := (dC, dI)) (ci := 5) (fs := oF_X1 ad pr u38) (v := .int ((u38.1 0 314) - (0 : Int32))) (ty := .int) (C := RX1) (T := TX1) (N := 12) hx hb ht itX1 tyX1 tyX1_ok nmX1 hown hK hP hD hS 1 rfl rfl 4 (by decide) (hKK.fl2 6 rfl) (fun _ h9 => h9) rfl (by decide +kernel) rfl rfl (Nat.le_of_ble_eq_true rfl) dX2_callFunction_139 (fun H locs hP hD hS => ?_)
    have hP := cP_ (cw_314 ad pr N cI cR L1 L2 u38 ((u38.1 0 314) - (0 : Int32))) hP
    have hD := cD_ (cw_314 ad pr N cI cR L1 L2 u38 ((u38.1 0 314) - (0 : Int32))) hD
    refine lv_aload_n hx hb dX2_callFunction_142 rfl (lv_at hl 3 rfl) ?_
    refine va_get (D := (dC, dI)) (ci := 6) (fs := oF_X2 ad pr (wA u38 0 314 ((u38.1 0 314) - (0 : Int32)))) (v := .ref (ad 901)) (C := RX2) (T := TX2) (N := 5) hx hb ht itX2 hown hK hP 2 rfl rfl 1 (by decide) (ht _ tw_498) (fun _ h9 => h9) rfl dX2_callFunction_143 ?_
    refine lv_bipush (v := 21) hx hb dX2_callFunction_146 (by decide) ?_
    refine lv_iload_n hx hb dX2_callFunction_148 rfl (lv_at hl 2 rfl) ?_
    refine lv_iload_n hx hb dX2_callFunction_149 rfl (lv_at hl 1 rfl) ?_
    have q40 : (u8.1 0 381).toInt = (v.1 0 381).toInt := congrArg Int32.toInt ((fr7.2.1 381 (by decide)).trans (show v.1 0 381 = (v.1 0 381) by rfl))
    have q41 : (u17.1 0 381).toInt = (u8.1 0 381).toInt := congrArg Int32.toInt ((fr16.2.1 381 (by decide)).trans (show u8.1 0 381 = (u8.1 0 381) by rfl))
    have q42 : (u24.1 0 381).toInt = (u17.1 0 381).toInt := congrArg Int32.toInt ((fr23.2.1 381 (by decide)).trans (show u17.1 0 381 = (u17.1 0 381) by rfl))
    have q43 : (u34.1 0 381).toInt = (u24.1 0 381).toInt := congrArg Int32.toInt ((fr33.2.1 381 (by decide)).trans (show u24.1 0 381 = (u24.1 0 381) by rfl))
    have q44 : (u38.1 0 381).toInt = (u34.1 0 381).toInt := congrArg Int32.toInt ((fr37.2.1 381 (by decide)).trans (show u34.1 0 381 = (u34.1 0 381) by rfl))
    refine cu_v (rn_Vk (n := 3) (As := [.int 21, .int r9, .int r13]) (rest := []) hx hb hml hown ht hKK hFx hP hD hS hA (c_x_X1_add l dC dI cI cB cZ cJ cR tb H.size ad pr N L1 L2 (wA u38 0 314 ((u38.1 0 314) - (0 : Int32))) (21 : Int32) r9 r13 ps (show 0 ≤ (u38.1 0 381).toInt ∧ (u38.1 0 381).toInt ≤ 3008 from (om_712fbb48b1 z381 q40 q41 q42 q43 q44)) (show pr ps = ad 908 from hps) (show (u38.1 0 310) = ps from (Eq.trans (fr37.2.1 310 (by decide)) (Eq.trans (fr33.2.1 310 (by decide)) (Eq.trans (fr23.2.1 310 (by decide)) (Eq.trans (fr16.2.1 310 (by decide)) (Eq.trans (fr7.2.1 310 (by decide)) es310))))))) tw_499 tw_500 (by decide +kernel) rfl rfl ⟨show 0 + 1 ≤ 8 * n + 14 from om_2d92e09058, show 8 + (5 + 11) + 0 ≤ 28 * (8 * n + 14) from om_f68798533e⟩ (List.range (cW ad pr N cI cR L1 L2 (wA u38 0 314 ((u38.1 0 314) - (0 : Int32)))).length) (rg_map _) (nd_range _) 1 rfl rfl rfl rfl hl.1 rfl (Nat.le_of_ble_eq_true rfl) dX2_callFunction_150 ⟨Nat.le_of_ble_eq_true rfl, Nat.le_of_ble_eq_true rfl⟩) hP hD hS hA (fun u46 H locs hw45 hP hD hS => ?_)
    obtain ⟨fr45, i38145⟩ := hw45
    have i38145 : 0 ≤ (u46.1 0 381).toInt ∧ (u46.1 0 381).toInt ≤ 3008 := i38145
    refine W.widen (k := 0) (n := 0) (Nat.le_refl _) (Nat.le_refl _) ?_
    have q48 : (u46.1 0 306).toInt = (u38.1 0 306).toInt := congrArg Int32.toInt ((fr45.2.1 306 (by decide)).trans (show (wA u38 0 314 ((u38.1 0 314) - (0 : Int32))).1 0 306 = (u38.1 0 306) by rfl))
    have q49 : (u17.1 0 321).toInt = (u8.1 0 321).toInt := congrArg Int32.toInt ((fr16.2.1 321 (by decide)).trans (show u8.1 0 321 = (u8.1 0 321) by rfl))
    have q50 : (u24.1 0 321).toInt = (u17.1 0 321).toInt := congrArg Int32.toInt ((fr23.2.1 321 (by decide)).trans (show u17.1 0 321 = (u17.1 0 321) by rfl))
    have q51 : (u34.1 0 321).toInt = (u24.1 0 321).toInt := congrArg Int32.toInt ((fr33.2.1 321 (by decide)).trans (show u24.1 0 321 = (u24.1 0 321) by rfl))
    have q52 : (u38.1 0 321).toInt = (u34.1 0 321).toInt := congrArg Int32.toInt ((fr37.2.1 321 (by decide)).trans (show u34.1 0 321 = (u34.1 0 321) by rfl))
    have q53 : (u46.1 0 321).toInt = (u38.1 0 321).toInt := congrArg Int32.toInt ((fr45.2.1 321 (by decide)).trans (show (wA u38 0 314 ((u38.1 0 314) - (0 : Int32))).1 0 321 = (u38.1 0 321) by rfl))
    have q54 : (u8.1 0 326).toInt = (v.1 0 326).toInt := congrArg Int32.toInt ((fr7.2.1 326 (by decide)).trans (show v.1 0 326 = (v.1 0 326) by rfl))
    have q55 : (u17.1 0 326).toInt = (u8.1 0 326).toInt := congrArg Int32.toInt ((fr16.2.1 326 (by decide)).trans (show u8.1 0 326 = (u8.1 0 326) by rfl))
    have q56 : (u24.1 0 326).toInt = (u17.1 0 326).toInt := congrArg Int32.toInt ((fr23.2.1 326 (by decide)).trans (show u17.1 0 326 = (u17.1 0 326) by rfl))
    have q57 : (u34.1 0 326).toInt = (u24.1 0 326).toInt := congrArg Int32.toInt ((fr33.2.1 326 (by decide)).trans (show u24.1 0 326 = (u24.1 0 326) by rfl))
    have q58 : (u38.1 0 326).toInt = (u34.1 0 326).toInt := congrArg Int32.toInt ((fr37.2.1 326 (by decide)).trans (show u34.1 0 326 = (u34.1 0 326) by rfl))
    have q59 : (u46.1 0 326).toInt = (u38.1 0 326).toInt := congrArg Int32.toInt ((fr45.2.1 326 (by decide)).trans (show (wA u38 0 314 ((u38.1 0 314) - (0 : Int32))).1 0 326 = (u38.1 0 326) by rfl))
    refine W.sz (fun hz => ?_)
    refine vx_ret ?_
    refine W.widen (k := 1) (n := 6) (Nat.le_of_ble_eq_true rfl) (Nat.le_of_ble_eq_true rfl) ?_
    exact W.vret hx hb hr (fun t ht9 hW => ⟨⟨u46, rfl, ⟨(FC.tr (FC.f (FC.tr (FC.tr (FC.tr (FC.tr (FC.tr (FC.rf _) (FC.up fr7 (by decide) (by decide))) (FC.up fr16 (by decide) (by decide))) (FC.up fr23 (by decide) (by decide))) (FC.up fr33 (by decide) (by decide))) (FC.up fr37 (by decide) (by decide))) ((u38.1 0 314) - (0 : Int32)) (by decide)) (FC.up fr45 (by decide) (by decide))), (show 0 ≤ (u46.1 0 306).toInt ∧ (u46.1 0 306).toInt ≤ 40 from (om_9c4f3a2e9c i30623 q36 i30637 pj37 q48)), (show 0 ≤ (u46.1 0 321).toInt ∧ (u46.1 0 321).toInt ≤ 501 from (om_455369e3a5 i3217 q49 q50 q51 q52 q53)), (show 0 ≤ (u46.1 0 326).toInt ∧ (u46.1 0 326).toInt ≤ 420 from (om_49eb06c282 z326 q54 q55 q56 q57 q58 q59)), (show 0 ≤ (u46.1 0 381).toInt ∧ (u46.1 0 381).toInt ≤ 3008 from (om_e78eec72e1 i38145)), (show (u46.1 0 306).toInt = (v.1 0 306).toInt from (om_901bcf77d5 q20 q21 pj23 q36 pj37 q48))⟩, ⟨by rw [ht9]; exact hP, hD⟩, by rw [ht9]; exact hz⟩, hS.F ht9⟩) hS.2.2 dX2_callFunction_153
  · have z60 : r29.toInt ≠ (31 : Int) := ne_z rfl (show (31 : Int32).toInt = (31 : Int) by decide) h30
    refine lv_aload_n hx hb dX2_callFunction_58 rfl (lv_at hl 3 rfl) ?_
    refine lv_iload_n hx hb dX2_callFunction_59 rfl (lv_at hl 2 rfl) ?_
    refine lv_iconst (v := 0) hx hb dX2_callFunction_60 (by decide) ?_
    obtain ⟨n61, hn62⟩ : ∃ m, n = m + 1 := ex_z (om_73f0efed2d zn q20 q21 i30623 pj23)
    have q63 : (u17.1 0 312).toInt = (u8.1 0 312).toInt := congrArg Int32.toInt ((fr16.2.1 312 (by decide)).trans (show u8.1 0 312 = (u8.1 0 312) by rfl))
    have q64 : (u24.1 0 312).toInt = (u17.1 0 312).toInt := congrArg Int32.toInt ((fr23.2.1 312 (by decide)).trans (show u17.1 0 312 = (u17.1 0 312) by rfl))
    have q65 : (u17.1 0 321).toInt = (u8.1 0 321).toInt := congrArg Int32.toInt ((fr16.2.1 321 (by decide)).trans (show u8.1 0 321 = (u8.1 0 321) by rfl))
    have q66 : (u24.1 0 321).toInt = (u17.1 0 321).toInt := congrArg Int32.toInt ((fr23.2.1 321 (by decide)).trans (show u17.1 0 321 = (u17.1 0 321) by rfl))
    have q67 : (u8.1 0 326).toInt = (v.1 0 326).toInt := congrArg Int32.toInt ((fr7.2.1 326 (by decide)).trans (show v.1 0 326 = (v.1 0 326) by rfl))
    have q68 : (u17.1 0 326).toInt = (u8.1 0 326).toInt := congrArg Int32.toInt ((fr16.2.1 326 (by decide)).trans (show u8.1 0 326 = (u8.1 0 326) by rfl))
    have q69 : (u24.1 0 326).toInt = (u17.1 0 326).toInt := congrArg Int32.toInt ((fr23.2.1 326 (by decide)).trans (show u17.1 0 326 = (u17.1 0 326) by rfl))
    have q70 : (u24.1 0 373).toInt = (u17.1 0 373).toInt := congrArg Int32.toInt ((fr23.2.1 373 (by decide)).trans (show u17.1 0 373 = (u17.1 0 373) by rfl))
    have q71 : (u8.1 0 381).toInt = (v.1 0 381).toInt := congrArg Int32.toInt ((fr7.2.1 381 (by decide)).trans (show v.1 0 381 = (v.1 0 381) by rfl))
    have q72 : (u17.1 0 381).toInt = (u8.1 0 381).toInt := congrArg Int32.toInt ((fr16.2.1 381 (by decide)).trans (show u8.1 0 381 = (u8.1 0 381) by rfl))
    have q73 : (u24.1 0 381).toInt = (u17.1 0 381).toInt := congrArg Int32.toInt ((fr23.2.1 381 (by decide)).trans (show u17.1 0 381 = (u17.1 0 381) by rfl))
    refine W.sz (fun hz9 => ?_)
    refine czx_v (rx_Vk (n := 2) (As := [.int r9, .int 0]) (rest := []) hx hb hml hown ht hKK hFx hP hD hS hA (c_x_X2_argument l n61 (ihE n61 hn62) dC dI cI cB cZ cJ cR tb H.size ad pr N L1 L2 u24 r9 (0 : Int32) ps (show 0 ≤ (u24.1 0 304).toInt ∧ (u24.1 0 304).toInt ≤ 1503 from (om_57e3d9ffbd z304 q14 q19 q26)) (show 0 ≤ (u24.1 0 306).toInt ∧ (u24.1 0 306).toInt ≤ 40 from (om_7eaf33e007 i30623)) (show 0 ≤ (u24.1 0 312).toInt ∧ (u24.1 0 312).toInt ≤ 500 from (om_a369f3fea6 z312 q10 q63 q64)) (show 0 ≤ (u24.1 0 321).toInt ∧ (u24.1 0 321).toInt ≤ 501 from (om_4dfa815534 i3217 q65 q66)) (show 0 ≤ (u24.1 0 326).toInt ∧ (u24.1 0 326).toInt ≤ 420 from (om_ba86cd30dc z326 q67 q68 q69)) (show 0 ≤ (u24.1 0 373).toInt ∧ (u24.1 0 373).toInt ≤ 4000 from (om_282c7f458f z373 q15 q22 q70)) (show 0 ≤ (u24.1 0 381).toInt ∧ (u24.1 0 381).toInt ≤ 3008 from (om_f27686c115 z381 q71 q72 q73)) (show L1.length = 40 from hL1) (show L2.length = 60 from hL2) (show RP u24 from ((show FC [305, 306, 307, 314, 315, 317, 321, 326, 381] [0, 316, 318, 319, 320, 324, 325, 378, 379, 380] v u24 from (FC.tr (FC.tr (FC.tr (FC.rf _) (FC.up fr7 (by decide) (by decide))) (FC.up fr16 (by decide) (by decide))) (FC.up fr23 (by decide) (by decide)))).1 rp)) (show pr ps = ad 908 from hps) (show (u24.1 0 300) = ps from (Eq.trans (fr23.2.1 300 (by decide)) (Eq.trans (fr16.2.1 300 (by decide)) (Eq.trans (fr7.2.1 300 (by decide)) es300)))) (show (u24.1 0 310) = ps from (Eq.trans (fr23.2.1 310 (by decide)) (Eq.trans (fr16.2.1 310 (by decide)) (Eq.trans (fr7.2.1 310 (by decide)) es310)))) (show l.stackTraces = false from hst) (show 40 ≤ (u24.1 0 306).toInt + (n61 : Int) from (om_2c845f05d0 zn q20 q21 pj23 hn62))) tw_541 tw_542 (by decide +kernel) rfl rfl ⟨show (8 * n61 + 21) + 1 ≤ 8 * n + 14 from (om_a3a29a60ac hn62), show 8 + (3 + 11) + 28 * (8 * n61 + 21) ≤ 28 * (8 * n + 14) from (om_def48f1266 hn62)⟩ (List.range (cW ad pr N cI cR L1 L2 u24).length) (rg_map _) (nd_range _) 2 rfl rfl rfl rfl hl.1 rfl (Nat.le_of_ble_eq_true rfl) dX2_callFunction_61 ⟨Nat.le_of_ble_eq_true rfl, Nat.le_of_ble_eq_true rfl⟩) hP hD hS hA (fun u9 ce9 q9 H locs hx9 hP hD hS hc9 hv9 hf9 => ?_) (fun u75 H locs hw74 hP hD hS hz8 => ?_)
    · exact vx_out (fun x h9 => (hnt x h9).elim) hlocks hc9 hv9 hf9 (fun t9 ht9 hv8 => ⟨u9, ⟨FC.tr (FC.tr (FC.tr (FC.tr (FC.rf _) (FC.up fr7 (by decide) (by decide))) (FC.up fr16 (by decide) (by decide))) (FC.up fr23 (by decide) (by decide))) hx9.1, hx9.2⟩, ⟨rfl, by rw [ht9]; exact hP, hD⟩, hS.F ht9⟩) hS.2.2 (Nat.le_refl _) (Nat.le_refl _)
    refine W.shrink (hz8.trans hz9) ?_
    obtain ⟨fr74, i30674, i32174, i32674, i38174, po74⟩ := hw74
    have i30674 : 0 ≤ (u75.1 0 306).toInt ∧ (u75.1 0 306).toInt ≤ 40 := i30674
    have i32174 : 0 ≤ (u75.1 0 321).toInt ∧ (u75.1 0 321).toInt ≤ 501 := i32174
    have i32674 : 0 ≤ (u75.1 0 326).toInt ∧ (u75.1 0 326).toInt ≤ 420 := i32674
    have i38174 : 0 ≤ (u75.1 0 381).toInt ∧ (u75.1 0 381).toInt ≤ 3008 := i38174
    have po74 : (u75.1 0 306).toInt = (u24.1 0 306).toInt := po74
    refine lv_iinc (v := 1) (lv' := [(3, .int 1), (2, .int r13), (1, .int r9), (0, .ref (ad 902))]) hx hb dX2_callFunction_64 hl (k := 0) rfl (by decide) (by decide) rfl (fun ls hl => ?_)
    refine lv_iconst (v := 1) hx hb dX2_callFunction_67 (by decide) ?_
    refine lv_istore (lv' := [(4, .int 1), (3, .int 1), (2, .int r13), (1, .int r9), (0, .ref (ad 902))]) hx hb dX2_callFunction_68 hl (by decide) rfl (fun ls hl => ?_)
    refine lpm_ (X := Int32 × Int32 × MS) (P := (fun (x9 : Int32 × Int32 × MS) (H : Heap) (locs : List Loc) (ls : Array Slot) => (FC [305, 306, 307, 314, 315, 317, 321, 326, 381] [0, 316, 318, 319, 320, 324, 325, 378, 379, 380] v x9.2.2) ∧ (0 ≤ (x9.2.2.1 0 306).toInt ∧ (x9.2.2.1 0 306).toInt ≤ 40) ∧ (0 ≤ (x9.2.2.1 0 321).toInt ∧ (x9.2.2.1 0 321).toInt ≤ 501) ∧ (0 ≤ (x9.2.2.1 0 326).toInt ∧ (x9.2.2.1 0 326).toInt ≤ 420) ∧ (0 ≤ (x9.2.2.1 0 381).toInt ∧ (x9.2.2.1 0 381).toInt ≤ 3008) ∧ (1 ≤ x9.2.1.toInt ∧ x9.2.1.toInt ≤ 1500) ∧ ((x9.2.2.1 0 306).toInt = (v.1 0 306).toInt + 1) ∧ va_P (dC, dI) vwCl (cW ad pr N cI cR L1 L2 x9.2.2) H ∧ va_D A (cW ad pr N cI cR L1 L2 x9.2.2) ∧ va_S A s.heap H locs ∧ lv_has ls 5 [(4, .int x9.2.1), (3, .int x9.1), (2, .int r13), (1, .int r9), (0, .ref (ad 902))])) (fun x9 => (1500 - x9.2.1.toInt).toNat) 70 (fun x9 H locs ls hh ih70 => ?_) (1, 1, u75) _ _ _ ⟨(show FC [305, 306, 307, 314, 315, 317, 321, 326, 381] [0, 316, 318, 319, 320, 324, 325, 378, 379, 380] v u75 from (FC.tr (FC.tr (FC.tr (FC.tr (FC.rf _) (FC.up fr7 (by decide) (by decide))) (FC.up fr16 (by decide) (by decide))) (FC.up fr23 (by decide) (by decide))) (FC.up fr74 (by decide) (by decide)))), (show 0 ≤ (u75.1 0 306).toInt ∧ (u75.1 0 306).toInt ≤ 40 from (om_7eaf33e007 i30674)), (show 0 ≤ (u75.1 0 321).toInt ∧ (u75.1 0 321).toInt ≤ 501 from (om_e1d35f5faf i32174)), (show 0 ≤ (u75.1 0 326).toInt ∧ (u75.1 0 326).toInt ≤ 420 from (om_839d7ed7dd i32674)), (show 0 ≤ (u75.1 0 381).toInt ∧ (u75.1 0 381).toInt ≤ 3008 from (om_e78eec72e1 i38174)), (show 1 ≤ (1 : Int) ∧ (1 : Int) ≤ 1500 from om_a29fe7849e), (show (u75.1 0 306).toInt = (v.1 0 306).toInt + 1 from (om_f3b8f628f3 q20 q21 pj23 po74)), hP, hD, hS, lv_sub hl [0, 1, 2, 3, 4] rfl⟩
    obtain ⟨ar9, ka, w70⟩ := x9
    obtain ⟨fwL70, i306L70, i321L70, i326L70, i381L70, f1L70, poL70, hP, hD, hS, hl⟩ := hh
    have fwL70 : FC [305, 306, 307, 314, 315, 317, 321, 326, 381] [0, 316, 318, 319, 320, 324, 325, 378, 379, 380] v w70 := fwL70
    have i306L70 : 0 ≤ (w70.1 0 306).toInt ∧ (w70.1 0 306).toInt ≤ 40 := i306L70
    have i321L70 : 0 ≤ (w70.1 0 321).toInt ∧ (w70.1 0 321).toInt ≤ 501 := i321L70
    have i326L70 : 0 ≤ (w70.1 0 326).toInt ∧ (w70.1 0 326).toInt ≤ 420 := i326L70
    have i381L70 : 0 ≤ (w70.1 0 381).toInt ∧ (w70.1 0 381).toInt ≤ 3008 := i381L70
    have f1L70 : 1 ≤ ka.toInt ∧ ka.toInt ≤ 1500 := f1L70
    have poL70 : (w70.1 0 306).toInt = (v.1 0 306).toInt + 1 := poL70
    have hP : va_P (dC, dI) vwCl (cW ad pr N cI cR L1 L2 w70) H := hP
    have hD : va_D A (cW ad pr N cI cR L1 L2 w70) := hD
    have hl : lv_has ls 5 [(4, .int ka), (3, .int ar9), (2, .int r13), (1, .int r9), (0, .ref (ad 902))] := hl
    refine lv_iload hx hb dX2_callFunction_70 (lv_at hl 0 rfl) ?_
    refine lv_sipush (v := 1500) hx hb dX2_callFunction_72 (by decide) ?_
    refine lv_icmp_ge (tgt := 113) hx hb dX2_callFunction_75 (by decide) (fun h77 => ?_) (fun h77 => ?_)
    · have z78 : (1500 : Int) ≤ ka.toInt := le_z (show (1500 : Int32).toInt = (1500 : Int) by decide) rfl h77
      refine lv_aload_n hx hb dX2_callFunction_113 rfl (lv_at hl 4 rfl) ?_
      refine va_get (D := (dC, dI)) (ci := 6) (fs := oF_X2 ad pr w70) (v := .ref (ad 900)) (C := RX2) (T := TX2) (N := 5) hx hb ht itX2 hown hK hP 2 rfl rfl 0 (by decide) (ht _ tw_509) (fun _ h9 => h9) rfl dX2_callFunction_114 ?_
      refine lv_bipush (v := 31) hx hb dX2_callFunction_117 (by decide) ?_
      have q79 : (w70.1 0 304).toInt = (v.1 0 304).toInt := congrArg Int32.toInt ((fwL70.2.1 304 (by decide)).trans (show v.1 0 304 = (v.1 0 304) by rfl))
      have q80 : (w70.1 0 373).toInt = (v.1 0 373).toInt := congrArg Int32.toInt ((fwL70.2.1 373 (by decide)).trans (show v.1 0 373 = (v.1 0 373) by rfl))
      refine W.sz (fun hz9 => ?_)
      refine czx_v (rx_Vk (n := 1) (As := [.int 31]) (rest := []) hx hb hml hown ht hKK hFx hP hD hS hA (c_x_X9_expect l dC dI cI cB cZ cJ cR tb H.size ad pr N L1 L2 w70 (31 : Int32) ps (show 0 ≤ (w70.1 0 304).toInt ∧ (w70.1 0 304).toInt ≤ 1503 from (om_73002589c1 z304 q79)) (show 0 ≤ (w70.1 0 373).toInt ∧ (w70.1 0 373).toInt ≤ 4000 from (om_9084c127ed z373 q80)) (show pr ps = ad 908 from hps) (show (w70.1 0 300) = ps from (Eq.trans (fwL70.2.1 300 (by decide)) es300)) (show l.stackTraces = false from hst)) tw_526 tw_527 (by decide +kernel) rfl rfl ⟨show 7 + 1 ≤ 8 * n + 14 from om_46126d3ba0, show 8 + (2 + 11) + 104 ≤ 28 * (8 * n + 14) from om_2d7c913608⟩ (List.range (cW ad pr N cI cR L1 L2 w70).length) (rg_map _) (nd_range _) 0 rfl rfl rfl rfl hl.1 rfl (Nat.le_of_ble_eq_true rfl) dX2_callFunction_119 ⟨Nat.le_of_ble_eq_true rfl, Nat.le_of_ble_eq_true rfl⟩) hP hD hS hA (fun u9 ce9 q9 H locs hx9 hP hD hS hc9 hv9 hf9 => ?_) (fun u82 H locs hw81 hP hD hS hz8 => ?_)
      · exact vx_out (fun x h9 => (hnt x h9).elim) hlocks hc9 hv9 hf9 (fun t9 ht9 hv8 => ⟨u9, ⟨FC.tr (FC.tr (FC.rf _) (FC.up fwL70 (by decide) (by decide))) hx9.1, hx9.2⟩, ⟨rfl, by rw [ht9]; exact hP, hD⟩, hS.F ht9⟩) hS.2.2 (Nat.le_refl _) (Nat.le_refl _)
      refine W.shrink (hz8.trans hz9) ?_
      have fr81 := hw81
      refine lv_aload_n hx hb dX2_callFunction_122 rfl (lv_at hl 4 rfl) ?_
      refine va_get (D := (dC, dI)) (ci := 6) (fs := oF_X2 ad pr u82) (v := .ref (ad 900)) (C := RX2) (T := TX2) (N := 5) hx hb ht itX2 hown hK hP 2 rfl rfl 0 (by decide) (ht _ tw_509) (fun _ h9 => h9) rfl dX2_callFunction_123 ?_
      have q84 : (u82.1 0 306).toInt = (w70.1 0 306).toInt := congrArg Int32.toInt ((fr81.2.1 306 (by decide)).trans (show w70.1 0 306 = (w70.1 0 306) by rfl))
      refine cu_v (rn_Vk (n := 0) (As := []) (rest := []) hx hb hml hown ht hKK hFx hP hD hS hA (c_x_X9_close l dC dI cI cB cZ cJ cR tb H.size ad pr N L1 L2 u82  (show 0 ≤ (u82.1 0 306).toInt ∧ (u82.1 0 306).toInt ≤ 40 from (om_209fa13ef3 z306 i306L70 poL70 q84)) (show 1 ≤ (u82.1 0 306).toInt from (om_bfd497b3b5 z306 poL70 q84))) tw_528 tw_529 (by decide +kernel) rfl rfl ⟨show 0 + 1 ≤ 8 * n + 14 from om_2d92e09058, show 8 + (1 + 11) + 0 ≤ 28 * (8 * n + 14) from om_289622e6d2⟩ (List.range (cW ad pr N cI cR L1 L2 u82).length) (rg_map _) (nd_range _) 0 rfl rfl rfl rfl hl.1 rfl (Nat.le_of_ble_eq_true rfl) dX2_callFunction_126 ⟨Nat.le_of_ble_eq_true rfl, Nat.le_of_ble_eq_true rfl⟩) hP hD hS hA (fun u86 H locs hw85 hP hD hS => ?_)
      obtain ⟨fr85, i30685, pj85⟩ := hw85
      have i30685 : 0 ≤ (u86.1 0 306).toInt ∧ (u86.1 0 306).toInt ≤ 40 := i30685
      have pj85 : (u86.1 0 306).toInt = (u82.1 0 306).toInt - 1 := pj85
      refine W.widen (k := 0) (n := 0) (Nat.le_refl _) (Nat.le_refl _) ?_
      refine lv_aload_n hx hb dX2_callFunction_129 rfl (lv_at hl 4 rfl) ?_
      refine va_get (D := (dC, dI)) (ci := 6) (fs := oF_X2 ad pr u86) (v := .ref (ad 901)) (C := RX2) (T := TX2) (N := 5) hx hb ht itX2 hown hK hP 2 rfl rfl 1 (by decide) (ht _ tw_498) (fun _ h9 => h9) rfl dX2_callFunction_130 ?_
      refine lv_dup hx hb dX2_callFunction_133 rfl ?_
      refine va_getN (D := (dC, dI)) (ci := 5) (fs := oF_X1 ad pr u86) (v := .int (u86.1 0 314)) (C := RX1) (T := TX1) (N := 12) hx hb ht itX1 hown hK hP 1 rfl rfl 4 (by decide) (hKK.fl2 6 rfl) (fun _ h9 => h9) rfl dX2_callFunction_134 ?_
      refine lv_iload_n hx hb dX2_callFunction_137 rfl (lv_at hl 1 rfl) ?_
      refine lv_isub hx hb dX2_callFunction_138 ?_
      refine va_putN (D := (dC, dI)) (ci := 5) (fs := oF_X1 ad pr u86) (v := .int ((u86.1 0 314) - ar9)) (ty := .int) (C := RX1) (T := TX1) (N := 12) hx hb ht itX1 tyX1 tyX1_ok nmX1 hown hK hP hD hS 1 rfl rfl 4 (by decide) (hKK.fl2 6 rfl) (fun _ h9 => h9) rfl (by decide +kernel) rfl rfl (Nat.le_of_ble_eq_true rfl) dX2_callFunction_139 (fun H locs hP hD hS => ?_)
      have hP := cP_ (cw_314 ad pr N cI cR L1 L2 u86 ((u86.1 0 314) - ar9)) hP
      have hD := cD_ (cw_314 ad pr N cI cR L1 L2 u86 ((u86.1 0 314) - ar9)) hD
      refine lv_aload_n hx hb dX2_callFunction_142 rfl (lv_at hl 4 rfl) ?_
      refine va_get (D := (dC, dI)) (ci := 6) (fs := oF_X2 ad pr (wA u86 0 314 ((u86.1 0 314) - ar9))) (v := .ref (ad 901)) (C := RX2) (T := TX2) (N := 5) hx hb ht itX2 hown hK hP 2 rfl rfl 1 (by decide) (ht _ tw_498) (fun _ h9 => h9) rfl dX2_callFunction_143 ?_
      refine lv_bipush (v := 21) hx hb dX2_callFunction_146 (by decide) ?_
      refine lv_iload_n hx hb dX2_callFunction_148 rfl (lv_at hl 3 rfl) ?_
      refine lv_iload_n hx hb dX2_callFunction_149 rfl (lv_at hl 2 rfl) ?_
      have q88 : (u82.1 0 381).toInt = (w70.1 0 381).toInt := congrArg Int32.toInt ((fr81.2.1 381 (by decide)).trans (show w70.1 0 381 = (w70.1 0 381) by rfl))
      have q89 : (u86.1 0 381).toInt = (u82.1 0 381).toInt := congrArg Int32.toInt ((fr85.2.1 381 (by decide)).trans (show u82.1 0 381 = (u82.1 0 381) by rfl))
      refine cu_v (rn_Vk (n := 3) (As := [.int 21, .int r9, .int r13]) (rest := []) hx hb hml hown ht hKK hFx hP hD hS hA (c_x_X1_add l dC dI cI cB cZ cJ cR tb H.size ad pr N L1 L2 (wA u86 0 314 ((u86.1 0 314) - ar9)) (21 : Int32) r9 r13 ps (show 0 ≤ (u86.1 0 381).toInt ∧ (u86.1 0 381).toInt ≤ 3008 from (om_769192f2a4 i381L70 q88 q89)) (show pr ps = ad 908 from hps) (show (u86.1 0 310) = ps from (Eq.trans (fr85.2.1 310 (by decide)) (Eq.trans (fr81.2.1 310 (by decide)) (Eq.trans (fwL70.2.1 310 (by decide)) es310))))) tw_499 tw_500 (by decide +kernel) rfl rfl ⟨show 0 + 1 ≤ 8 * n + 14 from om_2d92e09058, show 8 + (5 + 11) + 0 ≤ 28 * (8 * n + 14) from om_f68798533e⟩ (List.range (cW ad pr N cI cR L1 L2 (wA u86 0 314 ((u86.1 0 314) - ar9))).length) (rg_map _) (nd_range _) 1 rfl rfl rfl rfl hl.1 rfl (Nat.le_of_ble_eq_true rfl) dX2_callFunction_150 ⟨Nat.le_of_ble_eq_true rfl, Nat.le_of_ble_eq_true rfl⟩) hP hD hS hA (fun u91 H locs hw90 hP hD hS => ?_)
      obtain ⟨fr90, i38190⟩ := hw90
      have i38190 : 0 ≤ (u91.1 0 381).toInt ∧ (u91.1 0 381).toInt ≤ 3008 := i38190
      refine W.widen (k := 0) (n := 0) (Nat.le_refl _) (Nat.le_refl _) ?_
      have q93 : (u91.1 0 306).toInt = (u86.1 0 306).toInt := congrArg Int32.toInt ((fr90.2.1 306 (by decide)).trans (show (wA u86 0 314 ((u86.1 0 314) - ar9)).1 0 306 = (u86.1 0 306) by rfl))
      have q94 : (u82.1 0 321).toInt = (w70.1 0 321).toInt := congrArg Int32.toInt ((fr81.2.1 321 (by decide)).trans (show w70.1 0 321 = (w70.1 0 321) by rfl))
      have q95 : (u86.1 0 321).toInt = (u82.1 0 321).toInt := congrArg Int32.toInt ((fr85.2.1 321 (by decide)).trans (show u82.1 0 321 = (u82.1 0 321) by rfl))
      have q96 : (u91.1 0 321).toInt = (u86.1 0 321).toInt := congrArg Int32.toInt ((fr90.2.1 321 (by decide)).trans (show (wA u86 0 314 ((u86.1 0 314) - ar9)).1 0 321 = (u86.1 0 321) by rfl))
      have q97 : (u82.1 0 326).toInt = (w70.1 0 326).toInt := congrArg Int32.toInt ((fr81.2.1 326 (by decide)).trans (show w70.1 0 326 = (w70.1 0 326) by rfl))
      have q98 : (u86.1 0 326).toInt = (u82.1 0 326).toInt := congrArg Int32.toInt ((fr85.2.1 326 (by decide)).trans (show u82.1 0 326 = (u82.1 0 326) by rfl))
      have q99 : (u91.1 0 326).toInt = (u86.1 0 326).toInt := congrArg Int32.toInt ((fr90.2.1 326 (by decide)).trans (show (wA u86 0 314 ((u86.1 0 314) - ar9)).1 0 326 = (u86.1 0 326) by rfl))
      refine W.sz (fun hz => ?_)
      refine vx_ret ?_
      refine W.widen (k := 1) (n := 6) (Nat.le_of_ble_eq_true rfl) (Nat.le_of_ble_eq_true rfl) ?_
      exact W.vret hx hb hr (fun t ht9 hW => ⟨⟨u91, rfl, ⟨(FC.tr (FC.f (FC.tr (FC.tr (FC.tr (FC.rf _) (FC.up fwL70 (by decide) (by decide))) (FC.up fr81 (by decide) (by decide))) (FC.up fr85 (by decide) (by decide))) ((u86.1 0 314) - ar9) (by decide)) (FC.up fr90 (by decide) (by decide))), (show 0 ≤ (u91.1 0 306).toInt ∧ (u91.1 0 306).toInt ≤ 40 from (om_9c4f3a2e9c i306L70 q84 i30685 pj85 q93)), (show 0 ≤ (u91.1 0 321).toInt ∧ (u91.1 0 321).toInt ≤ 501 from (om_ca65317fd6 i321L70 q94 q95 q96)), (show 0 ≤ (u91.1 0 326).toInt ∧ (u91.1 0 326).toInt ≤ 420 from (om_ba86cd30dc i326L70 q97 q98 q99)), (show 0 ≤ (u91.1 0 381).toInt ∧ (u91.1 0 381).toInt ≤ 3008 from (om_e78eec72e1 i38190)), (show (u91.1 0 306).toInt = (v.1 0 306).toInt from (om_00cb03f044 poL70 q84 pj85 q93))⟩, ⟨by rw [ht9]; exact hP, hD⟩, by rw [ht9]; exact hz⟩, hS.F ht9⟩) hS.2.2 dX2_callFunction_153
    · have z100 : ka.toInt < (1500 : Int) := nle_z (show (1500 : Int32).toInt = (1500 : Int) by decide) rfl h77
      refine lv_aload_n hx hb dX2_callFunction_78 rfl (lv_at hl 4 rfl) ?_
      refine va_get (D := (dC, dI)) (ci := 6) (fs := oF_X2 ad pr w70) (v := .ref (ad 900)) (C := RX2) (T := TX2) (N := 5) hx hb ht itX2 hown hK hP 2 rfl rfl 0 (by decide) (ht _ tw_509) (fun _ h9 => h9) rfl dX2_callFunction_79 ?_
      have q101 : (w70.1 0 304).toInt = (v.1 0 304).toInt := congrArg Int32.toInt ((fwL70.2.1 304 (by decide)).trans (show v.1 0 304 = (v.1 0 304) by rfl))
      refine cu_i (rn_Vk (n := 0) (As := []) (rest := []) hx hb hml hown ht hKK hFx hP hD hS hA (c_x_X9_kind l dC dI cI cB cZ cJ cR tb H.size ad pr N L1 L2 w70  (show 0 ≤ (w70.1 0 304).toInt ∧ (w70.1 0 304).toInt ≤ 1503 from (om_73002589c1 z304 q101))) tw_455 tw_532 (by decide +kernel) rfl rfl ⟨show 0 + 1 ≤ 8 * n + 14 from om_2d92e09058, show 8 + (1 + 11) + 0 ≤ 28 * (8 * n + 14) from om_289622e6d2⟩ (List.range (cW ad pr N cI cR L1 L2 w70).length) (rg_map _) (nd_range _) 0 rfl rfl rfl rfl hl.1 rfl (Nat.le_of_ble_eq_true rfl) dX2_callFunction_82 ⟨Nat.le_of_ble_eq_true rfl, Nat.le_of_ble_eq_true rfl⟩) hP hD hS hA (fun r104 u103 H locs hw102 hP hD hS => ?_)
      obtain rfl := hw102
      refine W.widen (k := 0) (n := 0) (Nat.le_refl _) (Nat.le_refl _) ?_
      refine lv_bipush (v := 37) hx hb dX2_callFunction_85 (by decide) ?_
      refine lv_icmp_ne (tgt := 113) hx hb dX2_callFunction_87 (by decide) (fun h105 => ?_) (fun h105 => ?_)
      · have z106 : r104.toInt ≠ (37 : Int) := ne_z rfl (show (37 : Int32).toInt = (37 : Int) by decide) h105
        refine lv_aload_n hx hb dX2_callFunction_113 rfl (lv_at hl 4 rfl) ?_
        refine va_get (D := (dC, dI)) (ci := 6) (fs := oF_X2 ad pr w70) (v := .ref (ad 900)) (C := RX2) (T := TX2) (N := 5) hx hb ht itX2 hown hK hP 2 rfl rfl 0 (by decide) (ht _ tw_509) (fun _ h9 => h9) rfl dX2_callFunction_114 ?_
        refine lv_bipush (v := 31) hx hb dX2_callFunction_117 (by decide) ?_
        have q107 : (w70.1 0 373).toInt = (v.1 0 373).toInt := congrArg Int32.toInt ((fwL70.2.1 373 (by decide)).trans (show v.1 0 373 = (v.1 0 373) by rfl))
        refine W.sz (fun hz9 => ?_)
        refine czx_v (rx_Vk (n := 1) (As := [.int 31]) (rest := []) hx hb hml hown ht hKK hFx hP hD hS hA (c_x_X9_expect l dC dI cI cB cZ cJ cR tb H.size ad pr N L1 L2 w70 (31 : Int32) ps (show 0 ≤ (w70.1 0 304).toInt ∧ (w70.1 0 304).toInt ≤ 1503 from (om_73002589c1 z304 q101)) (show 0 ≤ (w70.1 0 373).toInt ∧ (w70.1 0 373).toInt ≤ 4000 from (om_9084c127ed z373 q107)) (show pr ps = ad 908 from hps) (show (w70.1 0 300) = ps from (Eq.trans (fwL70.2.1 300 (by decide)) es300)) (show l.stackTraces = false from hst)) tw_526 tw_527 (by decide +kernel) rfl rfl ⟨show 7 + 1 ≤ 8 * n + 14 from om_46126d3ba0, show 8 + (2 + 11) + 104 ≤ 28 * (8 * n + 14) from om_2d7c913608⟩ (List.range (cW ad pr N cI cR L1 L2 w70).length) (rg_map _) (nd_range _) 0 rfl rfl rfl rfl hl.1 rfl (Nat.le_of_ble_eq_true rfl) dX2_callFunction_119 ⟨Nat.le_of_ble_eq_true rfl, Nat.le_of_ble_eq_true rfl⟩) hP hD hS hA (fun u9 ce9 q9 H locs hx9 hP hD hS hc9 hv9 hf9 => ?_) (fun u109 H locs hw108 hP hD hS hz8 => ?_)
        · exact vx_out (fun x h9 => (hnt x h9).elim) hlocks hc9 hv9 hf9 (fun t9 ht9 hv8 => ⟨u9, ⟨FC.tr (FC.tr (FC.rf _) (FC.up fwL70 (by decide) (by decide))) hx9.1, hx9.2⟩, ⟨rfl, by rw [ht9]; exact hP, hD⟩, hS.F ht9⟩) hS.2.2 (Nat.le_refl _) (Nat.le_refl _)
        refine W.shrink (hz8.trans hz9) ?_
        have fr108 := hw108
        refine lv_aload_n hx hb dX2_callFunction_122 rfl (lv_at hl 4 rfl) ?_
        refine va_get (D := (dC, dI)) (ci := 6) (fs := oF_X2 ad pr u109) (v := .ref (ad 900)) (C := RX2) (T := TX2) (N := 5) hx hb ht itX2 hown hK hP 2 rfl rfl 0 (by decide) (ht _ tw_509) (fun _ h9 => h9) rfl dX2_callFunction_123 ?_
        have q111 : (u109.1 0 306).toInt = (w70.1 0 306).toInt := congrArg Int32.toInt ((fr108.2.1 306 (by decide)).trans (show w70.1 0 306 = (w70.1 0 306) by rfl))
        refine cu_v (rn_Vk (n := 0) (As := []) (rest := []) hx hb hml hown ht hKK hFx hP hD hS hA (c_x_X9_close l dC dI cI cB cZ cJ cR tb H.size ad pr N L1 L2 u109  (show 0 ≤ (u109.1 0 306).toInt ∧ (u109.1 0 306).toInt ≤ 40 from (om_209fa13ef3 z306 i306L70 poL70 q111)) (show 1 ≤ (u109.1 0 306).toInt from (om_bfd497b3b5 z306 poL70 q111))) tw_528 tw_529 (by decide +kernel) rfl rfl ⟨show 0 + 1 ≤ 8 * n + 14 from om_2d92e09058, show 8 + (1 + 11) + 0 ≤ 28 * (8 * n + 14) from om_289622e6d2⟩ (List.range (cW ad pr N cI cR L1 L2 u109).length) (rg_map _) (nd_range _) 0 rfl rfl rfl rfl hl.1 rfl (Nat.le_of_ble_eq_true rfl) dX2_callFunction_126 ⟨Nat.le_of_ble_eq_true rfl, Nat.le_of_ble_eq_true rfl⟩) hP hD hS hA (fun u113 H locs hw112 hP hD hS => ?_)
        obtain ⟨fr112, i306112, pj112⟩ := hw112
        have i306112 : 0 ≤ (u113.1 0 306).toInt ∧ (u113.1 0 306).toInt ≤ 40 := i306112
        have pj112 : (u113.1 0 306).toInt = (u109.1 0 306).toInt - 1 := pj112
        refine W.widen (k := 0) (n := 0) (Nat.le_refl _) (Nat.le_refl _) ?_
        refine lv_aload_n hx hb dX2_callFunction_129 rfl (lv_at hl 4 rfl) ?_
        refine va_get (D := (dC, dI)) (ci := 6) (fs := oF_X2 ad pr u113) (v := .ref (ad 901)) (C := RX2) (T := TX2) (N := 5) hx hb ht itX2 hown hK hP 2 rfl rfl 1 (by decide) (ht _ tw_498) (fun _ h9 => h9) rfl dX2_callFunction_130 ?_
        refine lv_dup hx hb dX2_callFunction_133 rfl ?_
        refine va_getN (D := (dC, dI)) (ci := 5) (fs := oF_X1 ad pr u113) (v := .int (u113.1 0 314)) (C := RX1) (T := TX1) (N := 12) hx hb ht itX1 hown hK hP 1 rfl rfl 4 (by decide) (hKK.fl2 6 rfl) (fun _ h9 => h9) rfl dX2_callFunction_134 ?_
        refine lv_iload_n hx hb dX2_callFunction_137 rfl (lv_at hl 1 rfl) ?_
        refine lv_isub hx hb dX2_callFunction_138 ?_
        refine va_putN (D := (dC, dI)) (ci := 5) (fs := oF_X1 ad pr u113) (v := .int ((u113.1 0 314) - ar9)) (ty := .int) (C := RX1) (T := TX1) (N := 12) hx hb ht itX1 tyX1 tyX1_ok nmX1 hown hK hP hD hS 1 rfl rfl 4 (by decide) (hKK.fl2 6 rfl) (fun _ h9 => h9) rfl (by decide +kernel) rfl rfl (Nat.le_of_ble_eq_true rfl) dX2_callFunction_139 (fun H locs hP hD hS => ?_)
        have hP := cP_ (cw_314 ad pr N cI cR L1 L2 u113 ((u113.1 0 314) - ar9)) hP
        have hD := cD_ (cw_314 ad pr N cI cR L1 L2 u113 ((u113.1 0 314) - ar9)) hD
        refine lv_aload_n hx hb dX2_callFunction_142 rfl (lv_at hl 4 rfl) ?_
        refine va_get (D := (dC, dI)) (ci := 6) (fs := oF_X2 ad pr (wA u113 0 314 ((u113.1 0 314) - ar9))) (v := .ref (ad 901)) (C := RX2) (T := TX2) (N := 5) hx hb ht itX2 hown hK hP 2 rfl rfl 1 (by decide) (ht _ tw_498) (fun _ h9 => h9) rfl dX2_callFunction_143 ?_
        refine lv_bipush (v := 21) hx hb dX2_callFunction_146 (by decide) ?_
        refine lv_iload_n hx hb dX2_callFunction_148 rfl (lv_at hl 3 rfl) ?_
        refine lv_iload_n hx hb dX2_callFunction_149 rfl (lv_at hl 2 rfl) ?_
        have q115 : (u109.1 0 381).toInt = (w70.1 0 381).toInt := congrArg Int32.toInt ((fr108.2.1 381 (by decide)).trans (show w70.1 0 381 = (w70.1 0 381) by rfl))
        have q116 : (u113.1 0 381).toInt = (u109.1 0 381).toInt := congrArg Int32.toInt ((fr112.2.1 381 (by decide)).trans (show u109.1 0 381 = (u109.1 0 381) by rfl))
        refine cu_v (rn_Vk (n := 3) (As := [.int 21, .int r9, .int r13]) (rest := []) hx hb hml hown ht hKK hFx hP hD hS hA (c_x_X1_add l dC dI cI cB cZ cJ cR tb H.size ad pr N L1 L2 (wA u113 0 314 ((u113.1 0 314) - ar9)) (21 : Int32) r9 r13 ps (show 0 ≤ (u113.1 0 381).toInt ∧ (u113.1 0 381).toInt ≤ 3008 from (om_769192f2a4 i381L70 q115 q116)) (show pr ps = ad 908 from hps) (show (u113.1 0 310) = ps from (Eq.trans (fr112.2.1 310 (by decide)) (Eq.trans (fr108.2.1 310 (by decide)) (Eq.trans (fwL70.2.1 310 (by decide)) es310))))) tw_499 tw_500 (by decide +kernel) rfl rfl ⟨show 0 + 1 ≤ 8 * n + 14 from om_2d92e09058, show 8 + (5 + 11) + 0 ≤ 28 * (8 * n + 14) from om_f68798533e⟩ (List.range (cW ad pr N cI cR L1 L2 (wA u113 0 314 ((u113.1 0 314) - ar9))).length) (rg_map _) (nd_range _) 1 rfl rfl rfl rfl hl.1 rfl (Nat.le_of_ble_eq_true rfl) dX2_callFunction_150 ⟨Nat.le_of_ble_eq_true rfl, Nat.le_of_ble_eq_true rfl⟩) hP hD hS hA (fun u118 H locs hw117 hP hD hS => ?_)
        obtain ⟨fr117, i381117⟩ := hw117
        have i381117 : 0 ≤ (u118.1 0 381).toInt ∧ (u118.1 0 381).toInt ≤ 3008 := i381117
        refine W.widen (k := 0) (n := 0) (Nat.le_refl _) (Nat.le_refl _) ?_
        have q120 : (u118.1 0 306).toInt = (u113.1 0 306).toInt := congrArg Int32.toInt ((fr117.2.1 306 (by decide)).trans (show (wA u113 0 314 ((u113.1 0 314) - ar9)).1 0 306 = (u113.1 0 306) by rfl))
        have q121 : (u109.1 0 321).toInt = (w70.1 0 321).toInt := congrArg Int32.toInt ((fr108.2.1 321 (by decide)).trans (show w70.1 0 321 = (w70.1 0 321) by rfl))
        have q122 : (u113.1 0 321).toInt = (u109.1 0 321).toInt := congrArg Int32.toInt ((fr112.2.1 321 (by decide)).trans (show u109.1 0 321 = (u109.1 0 321) by rfl))
        have q123 : (u118.1 0 321).toInt = (u113.1 0 321).toInt := congrArg Int32.toInt ((fr117.2.1 321 (by decide)).trans (show (wA u113 0 314 ((u113.1 0 314) - ar9)).1 0 321 = (u113.1 0 321) by rfl))
        have q124 : (u109.1 0 326).toInt = (w70.1 0 326).toInt := congrArg Int32.toInt ((fr108.2.1 326 (by decide)).trans (show w70.1 0 326 = (w70.1 0 326) by rfl))
        have q125 : (u113.1 0 326).toInt = (u109.1 0 326).toInt := congrArg Int32.toInt ((fr112.2.1 326 (by decide)).trans (show u109.1 0 326 = (u109.1 0 326) by rfl))
        have q126 : (u118.1 0 326).toInt = (u113.1 0 326).toInt := congrArg Int32.toInt ((fr117.2.1 326 (by decide)).trans (show (wA u113 0 314 ((u113.1 0 314) - ar9)).1 0 326 = (u113.1 0 326) by rfl))
        refine W.sz (fun hz => ?_)
        refine vx_ret ?_
        refine W.widen (k := 1) (n := 6) (Nat.le_of_ble_eq_true rfl) (Nat.le_of_ble_eq_true rfl) ?_
        exact W.vret hx hb hr (fun t ht9 hW => ⟨⟨u118, rfl, ⟨(FC.tr (FC.f (FC.tr (FC.tr (FC.tr (FC.rf _) (FC.up fwL70 (by decide) (by decide))) (FC.up fr108 (by decide) (by decide))) (FC.up fr112 (by decide) (by decide))) ((u113.1 0 314) - ar9) (by decide)) (FC.up fr117 (by decide) (by decide))), (show 0 ≤ (u118.1 0 306).toInt ∧ (u118.1 0 306).toInt ≤ 40 from (om_9c4f3a2e9c i306L70 q111 i306112 pj112 q120)), (show 0 ≤ (u118.1 0 321).toInt ∧ (u118.1 0 321).toInt ≤ 501 from (om_ca65317fd6 i321L70 q121 q122 q123)), (show 0 ≤ (u118.1 0 326).toInt ∧ (u118.1 0 326).toInt ≤ 420 from (om_ba86cd30dc i326L70 q124 q125 q126)), (show 0 ≤ (u118.1 0 381).toInt ∧ (u118.1 0 381).toInt ≤ 3008 from (om_e78eec72e1 i381117)), (show (u118.1 0 306).toInt = (v.1 0 306).toInt from (om_00cb03f044 poL70 q111 pj112 q120))⟩, ⟨by rw [ht9]; exact hP, hD⟩, by rw [ht9]; exact hz⟩, hS.F ht9⟩) hS.2.2 dX2_callFunction_153
      · have z127 : r104.toInt = (37 : Int) := eq_z rfl (show (37 : Int32).toInt = (37 : Int) by decide) h105
        refine lv_aload_n hx hb dX2_callFunction_90 rfl (lv_at hl 4 rfl) ?_
        refine va_get (D := (dC, dI)) (ci := 6) (fs := oF_X2 ad pr w70) (v := .ref (ad 900)) (C := RX2) (T := TX2) (N := 5) hx hb ht itX2 hown hK hP 2 rfl rfl 0 (by decide) (ht _ tw_509) (fun _ h9 => h9) rfl dX2_callFunction_91 ?_
        have q128 : (w70.1 0 373).toInt = (v.1 0 373).toInt := congrArg Int32.toInt ((fwL70.2.1 373 (by decide)).trans (show v.1 0 373 = (v.1 0 373) by rfl))
        refine W.sz (fun hz9 => ?_)
        refine czx_v (rx_Vk (n := 0) (As := []) (rest := []) hx hb hml hown ht hKK hFx hP hD hS hA (c_x_X9_take l dC dI cI cB cZ cJ cR tb H.size ad pr N L1 L2 w70 ps (show 0 ≤ (w70.1 0 304).toInt ∧ (w70.1 0 304).toInt ≤ 1503 from (om_73002589c1 z304 q101)) (show 0 ≤ (w70.1 0 373).toInt ∧ (w70.1 0 373).toInt ≤ 4000 from (om_9084c127ed z373 q128)) (show pr ps = ad 908 from hps) (show (w70.1 0 300) = ps from (Eq.trans (fwL70.2.1 300 (by decide)) es300)) (show l.stackTraces = false from hst)) tw_539 tw_540 (by decide +kernel) rfl rfl ⟨show 7 + 1 ≤ 8 * n + 14 from om_46126d3ba0, show 8 + (1 + 11) + 104 ≤ 28 * (8 * n + 14) from om_6017b980b8⟩ (List.range (cW ad pr N cI cR L1 L2 w70).length) (rg_map _) (nd_range _) 0 rfl rfl rfl rfl hl.1 rfl (Nat.le_of_ble_eq_true rfl) dX2_callFunction_94 ⟨Nat.le_of_ble_eq_true rfl, Nat.le_of_ble_eq_true rfl⟩) hP hD hS hA (fun u9 ce9 q9 H locs hx9 hP hD hS hc9 hv9 hf9 => ?_) (fun u130 H locs hw129 hP hD hS hz8 => ?_)
        · exact vx_out (fun x h9 => (hnt x h9).elim) hlocks hc9 hv9 hf9 (fun t9 ht9 hv8 => ⟨u9, ⟨FC.tr (FC.tr (FC.rf _) (FC.up fwL70 (by decide) (by decide))) hx9.1, hx9.2⟩, ⟨rfl, by rw [ht9]; exact hP, hD⟩, hS.F ht9⟩) hS.2.2 (Nat.le_refl _) (Nat.le_refl _)
        refine W.shrink (hz8.trans hz9) ?_
        have fr129 := hw129
        refine lv_aload_n hx hb dX2_callFunction_97 rfl (lv_at hl 4 rfl) ?_
        refine lv_iload_n hx hb dX2_callFunction_98 rfl (lv_at hl 3 rfl) ?_
        refine lv_iload hx hb dX2_callFunction_99 (lv_at hl 0 rfl) ?_
        obtain ⟨n132, hn133⟩ : ∃ m, n = m + 1 := ex_z (om_bce5f2fb63 hn62)
        have q134 : (u130.1 0 304).toInt = (w70.1 0 304).toInt := congrArg Int32.toInt ((fr129.2.1 304 (by decide)).trans (show w70.1 0 304 = (w70.1 0 304) by rfl))
        have q135 : (u130.1 0 306).toInt = (w70.1 0 306).toInt := congrArg Int32.toInt ((fr129.2.1 306 (by decide)).trans (show w70.1 0 306 = (w70.1 0 306) by rfl))
        have q136 : (w70.1 0 312).toInt = (v.1 0 312).toInt := congrArg Int32.toInt ((fwL70.2.1 312 (by decide)).trans (show v.1 0 312 = (v.1 0 312) by rfl))
        have q137 : (u130.1 0 312).toInt = (w70.1 0 312).toInt := congrArg Int32.toInt ((fr129.2.1 312 (by decide)).trans (show w70.1 0 312 = (w70.1 0 312) by rfl))
        have q138 : (u130.1 0 321).toInt = (w70.1 0 321).toInt := congrArg Int32.toInt ((fr129.2.1 321 (by decide)).trans (show w70.1 0 321 = (w70.1 0 321) by rfl))
        have q139 : (u130.1 0 326).toInt = (w70.1 0 326).toInt := congrArg Int32.toInt ((fr129.2.1 326 (by decide)).trans (show w70.1 0 326 = (w70.1 0 326) by rfl))
        have q140 : (u130.1 0 373).toInt = (w70.1 0 373).toInt := congrArg Int32.toInt ((fr129.2.1 373 (by decide)).trans (show w70.1 0 373 = (w70.1 0 373) by rfl))
        have q141 : (u130.1 0 381).toInt = (w70.1 0 381).toInt := congrArg Int32.toInt ((fr129.2.1 381 (by decide)).trans (show w70.1 0 381 = (w70.1 0 381) by rfl))
        refine W.sz (fun hz9 => ?_)
        refine czx_v (rx_Vk (n := 2) (As := [.int r9, .int ka]) (rest := []) hx hb hml hown ht hKK hFx hP hD hS hA (c_x_X2_argument l n132 (ihE n132 hn133) dC dI cI cB cZ cJ cR tb H.size ad pr N L1 L2 u130 r9 ka ps (show 0 ≤ (u130.1 0 304).toInt ∧ (u130.1 0 304).toInt ≤ 1503 from (om_dd87ee851a z304 q101 q134)) (show 0 ≤ (u130.1 0 306).toInt ∧ (u130.1 0 306).toInt ≤ 40 from (om_209fa13ef3 z306 i306L70 poL70 q135)) (show 0 ≤ (u130.1 0 312).toInt ∧ (u130.1 0 312).toInt ≤ 500 from (om_8a5975ec21 z312 q136 q137)) (show 0 ≤ (u130.1 0 321).toInt ∧ (u130.1 0 321).toInt ≤ 501 from (om_ff27494c0e i321L70 q138)) (show 0 ≤ (u130.1 0 326).toInt ∧ (u130.1 0 326).toInt ≤ 420 from (om_8ed0dedb19 i326L70 q139)) (show 0 ≤ (u130.1 0 373).toInt ∧ (u130.1 0 373).toInt ≤ 4000 from (om_03cd8767ac z373 q128 q140)) (show 0 ≤ (u130.1 0 381).toInt ∧ (u130.1 0 381).toInt ≤ 3008 from (om_6e4eb11ad3 i381L70 q141)) (show L1.length = 40 from hL1) (show L2.length = 60 from hL2) (show RP u130 from ((show FC [305, 306, 307, 314, 315, 317, 321, 326, 381] [0, 316, 318, 319, 320, 324, 325, 378, 379, 380] v u130 from (FC.tr (FC.tr (FC.rf _) (FC.up fwL70 (by decide) (by decide))) (FC.up fr129 (by decide) (by decide)))).1 rp)) (show pr ps = ad 908 from hps) (show (u130.1 0 300) = ps from (Eq.trans (fr129.2.1 300 (by decide)) (Eq.trans (fwL70.2.1 300 (by decide)) es300))) (show (u130.1 0 310) = ps from (Eq.trans (fr129.2.1 310 (by decide)) (Eq.trans (fwL70.2.1 310 (by decide)) es310))) (show l.stackTraces = false from hst) (show 40 ≤ (u130.1 0 306).toInt + (n132 : Int) from (om_fa93d1e14b zn poL70 q135 hn133))) tw_541 tw_542 (by decide +kernel) rfl rfl ⟨show (8 * n132 + 21) + 1 ≤ 8 * n + 14 from (om_a3a29a60ac hn133), show 8 + (3 + 11) + 28 * (8 * n132 + 21) ≤ 28 * (8 * n + 14) from (om_def48f1266 hn133)⟩ (List.range (cW ad pr N cI cR L1 L2 u130).length) (rg_map _) (nd_range _) 2 rfl rfl rfl rfl hl.1 rfl (Nat.le_of_ble_eq_true rfl) dX2_callFunction_101 ⟨Nat.le_of_ble_eq_true rfl, Nat.le_of_ble_eq_true rfl⟩) hP hD hS hA (fun u9 ce9 q9 H locs hx9 hP hD hS hc9 hv9 hf9 => ?_) (fun u143 H locs hw142 hP hD hS hz8 => ?_)
        · exact vx_out (fun x h9 => (hnt x h9).elim) hlocks hc9 hv9 hf9 (fun t9 ht9 hv8 => ⟨u9, ⟨FC.tr (FC.tr (FC.tr (FC.rf _) (FC.up fwL70 (by decide) (by decide))) (FC.up fr129 (by decide) (by decide))) hx9.1, hx9.2⟩, ⟨rfl, by rw [ht9]; exact hP, hD⟩, hS.F ht9⟩) hS.2.2 (Nat.le_refl _) (Nat.le_refl _)
        refine W.shrink (hz8.trans hz9) ?_
        obtain ⟨fr142, i306142, i321142, i326142, i381142, po142⟩ := hw142
        have i306142 : 0 ≤ (u143.1 0 306).toInt ∧ (u143.1 0 306).toInt ≤ 40 := i306142
        have i321142 : 0 ≤ (u143.1 0 321).toInt ∧ (u143.1 0 321).toInt ≤ 501 := i321142
        have i326142 : 0 ≤ (u143.1 0 326).toInt ∧ (u143.1 0 326).toInt ≤ 420 := i326142
        have i381142 : 0 ≤ (u143.1 0 381).toInt ∧ (u143.1 0 381).toInt ≤ 3008 := i381142
        have po142 : (u143.1 0 306).toInt = (u130.1 0 306).toInt := po142
        refine lv_iinc (v := (ar9 + (1 : Int32))) (lv' := [(3, .int (ar9 + (1 : Int32))), (4, .int ka), (2, .int r13), (1, .int r9), (0, .ref (ad 902))]) hx hb dX2_callFunction_104 hl (k := 1) rfl (rfl) (by decide) rfl (fun ls hl => ?_)
        refine lv_iinc (v := (ka + (1 : Int32))) (lv' := [(4, .int (ka + (1 : Int32))), (3, .int (ar9 + (1 : Int32))), (2, .int r13), (1, .int r9), (0, .ref (ad 902))]) hx hb dX2_callFunction_107 hl (k := 1) rfl (rfl) (by decide) rfl (fun ls hl => ?_)
        have z145 : (ka + (1 : Int32)).toInt = ka.toInt + (1 : Int) := add_z rfl (show (1 : Int32).toInt = (1 : Int) by decide) (om_5e93c3af80 f1L70) (om_3a4b6fcf1c f1L70)
        refine lv_goto (tgt := 70) hx hb dX2_callFunction_110 (by decide) ?_
        exact ih70 ((ar9 + (1 : Int32)), (ka + (1 : Int32)), u143) _ _ _ (show (1500 - (ka + (1 : Int32)).toInt).toNat < (1500 - ka.toInt).toNat from tn_z (om_f107c3c51d z145) (om_1cb5cb4f43 z100)) ⟨(show FC [305, 306, 307, 314, 315, 317, 321, 326, 381] [0, 316, 318, 319, 320, 324, 325, 378, 379, 380] v u143 from (FC.tr (FC.tr (FC.tr (FC.rf _) (FC.up fwL70 (by decide) (by decide))) (FC.up fr129 (by decide) (by decide))) (FC.up fr142 (by decide) (by decide)))), (show 0 ≤ (u143.1 0 306).toInt ∧ (u143.1 0 306).toInt ≤ 40 from (om_7eaf33e007 i306142)), (show 0 ≤ (u143.1 0 321).toInt ∧ (u143.1 0 321).toInt ≤ 501 from (om_e1d35f5faf i321142)), (show 0 ≤ (u143.1 0 326).toInt ∧ (u143.1 0 326).toInt ≤ 420 from (om_839d7ed7dd i326142)), (show 0 ≤ (u143.1 0 381).toInt ∧ (u143.1 0 381).toInt ≤ 3008 from (om_e78eec72e1 i381142)), (show 1 ≤ (ka + (1 : Int32)).toInt ∧ (ka + (1 : Int32)).toInt ≤ 1500 from (om_15a3ad8535 f1L70 z100 z145)), (show (u143.1 0 306).toInt = (v.1 0 306).toInt + 1 from (om_c1f65cf568 poL70 q135 po142)), hP, hD, hS, lv_sub hl [0, 1, 2, 3, 4] rfl⟩
