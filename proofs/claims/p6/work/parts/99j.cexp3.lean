theorem dX2_change_0 : decode cX2_change 0 = .ok (.aload_n 0, 1) := by decide +kernel
theorem dX2_change_1 : decode cX2_change 1 = .ok (.getfield 18, 3) := by decide +kernel
theorem dX2_change_4 : decode cX2_change 4 = .ok (.invokevirtual 34, 3) := by decide +kernel
theorem tw_532 : ∀ w ∈ ([.methodLink RX2 34 yX9_kind, .instanceMethod yX9_kind, .selects RX9 yX9_kind yX9_kind, .initialized RX9] : List Cond), w ∈ tw_W := al_c (tw_in (t8_4 (List.mem_of_getElem? (i := 87) rfl)) rfl) (al_c (tw_in (t8_3 (List.mem_of_getElem? (i := 104) rfl)) rfl) (al_c (tw_in (t8_3 (List.mem_of_getElem? (i := 105) rfl)) rfl) (al_c (tw_in (t8_1 (List.mem_of_getElem? (i := 10) rfl)) rfl) al_n)))
theorem dX2_change_7 : decode cX2_change 7 = .ok (.istore 4, 2) := by decide +kernel
theorem dX2_change_9 : decode cX2_change 9 = .ok (.iload 4, 2) := by decide +kernel
theorem dX2_change_11 : decode cX2_change 11 = .ok (.bipush 42, 2) := by decide +kernel
theorem dX2_change_13 : decode cX2_change 13 = .ok (.if_icmp .ne 7, 3) := by decide +kernel
theorem dX2_change_20 : decode cX2_change 20 = .ok (.iconst 0, 1) := by decide +kernel
theorem dX2_change_21 : decode cX2_change 21 = .ok (.istore 5, 2) := by decide +kernel
theorem dX2_change_23 : decode cX2_change 23 = .ok (.aload_n 0, 1) := by decide +kernel
theorem dX2_change_24 : decode cX2_change 24 = .ok (.getfield 22, 3) := by decide +kernel
theorem dX2_change_27 : decode cX2_change 27 = .ok (.iload_n 3, 1) := by decide +kernel
theorem dX2_change_28 : decode cX2_change 28 = .ok (.ifCond .eq 7, 3) := by decide +kernel
theorem dX2_change_35 : decode cX2_change 35 = .ok (.iconst 0, 1) := by decide +kernel
theorem dX2_change_36 : decode cX2_change 36 = .ok (.iload 5, 2) := by decide +kernel
theorem dX2_change_38 : decode cX2_change 38 = .ok (.ifCond .eq 7, 3) := by decide +kernel
theorem dX2_change_45 : decode cX2_change 45 = .ok (.iconst 1, 1) := by decide +kernel
theorem dX2_change_46 : decode cX2_change 46 = .ok (.iadd, 1) := by decide +kernel
theorem dX2_change_47 : decode cX2_change 47 = .ok (.invokevirtual 75, 3) := by decide +kernel
theorem dX2_change_50 : decode cX2_change 50 = .ok (.ifCond .ne 18, 3) := by decide +kernel
theorem dX2_change_68 : decode cX2_change 68 = .ok (.aload_n 0, 1) := by decide +kernel
theorem dX2_change_69 : decode cX2_change 69 = .ok (.getfield 18, 3) := by decide +kernel
theorem dX2_change_72 : decode cX2_change 72 = .ok (.invokevirtual 91, 3) := by decide +kernel
theorem dX2_change_75 : decode cX2_change 75 = .ok (.aload_n 0, 1) := by decide +kernel
theorem dX2_change_76 : decode cX2_change 76 = .ok (.getfield 22, 3) := by decide +kernel
theorem dX2_change_79 : decode cX2_change 79 = .ok (.invokevirtual 72, 3) := by decide +kernel
theorem dX2_change_82 : decode cX2_change 82 = .ok (.istore 6, 2) := by decide +kernel
theorem dX2_change_84 : decode cX2_change 84 = .ok (.iload_n 3, 1) := by decide +kernel
theorem dX2_change_85 : decode cX2_change 85 = .ok (.ifCond .eq 28, 3) := by decide +kernel
theorem dX2_change_113 : decode cX2_change 113 = .ok (.iload 5, 2) := by decide +kernel
theorem dX2_change_115 : decode cX2_change 115 = .ok (.ifCond .eq 11, 3) := by decide +kernel
theorem dX2_change_126 : decode cX2_change 126 = .ok (.aload_n 0, 1) := by decide +kernel
theorem dX2_change_127 : decode cX2_change 127 = .ok (.iload 4, 2) := by decide +kernel
theorem dX2_change_129 : decode cX2_change 129 = .ok (.bipush 10, 2) := by decide +kernel
theorem dX2_change_131 : decode cX2_change 131 = .ok (.iadd, 1) := by decide +kernel
theorem dX2_change_132 : decode cX2_change 132 = .ok (.iload_n 1, 1) := by decide +kernel
theorem dX2_change_133 : decode cX2_change 133 = .ok (.iload_n 2, 1) := by decide +kernel
theorem dX2_change_134 : decode cX2_change 134 = .ok (.iload_n 3, 1) := by decide +kernel
theorem dX2_change_135 : decode cX2_change 135 = .ok (.invokevirtual 152, 3) := by decide +kernel
theorem tw_533 : (.code yX2_changeBy cX2_changeBy 6 none : Cond) ∈ tw_W := tw_in (t8_4 (List.mem_of_getElem? (i := 146) rfl)) rfl
theorem tw_534 : ∀ w ∈ ([.methodLink RX2 152 yX2_changeBy, .instanceMethod yX2_changeBy, .selects RX2 yX2_changeBy yX2_changeBy, .initialized RX2] : List Cond), w ∈ tw_W := al_c (tw_in (t8_4 (List.mem_of_getElem? (i := 143) rfl)) rfl) (al_c (tw_in (t8_4 (List.mem_of_getElem? (i := 145) rfl)) rfl) (al_c (tw_in (t7_2 (q := (yX2_changeBy, 5)) (List.mem_of_getElem? (i := 13) rfl)) rfl) (al_c (tw_in (t8_1 (List.mem_of_getElem? (i := 12) rfl)) rfl) al_n)))
theorem dX2_change_138 : decode cX2_change 138 = .ok (.iload_n 3, 1) := by decide +kernel
theorem dX2_change_139 : decode cX2_change 139 = .ok (.ifCond .eq 31, 3) := by decide +kernel
theorem dX2_change_170 : decode cX2_change 170 = .ok (.iload_n 1, 1) := by decide +kernel
theorem dX2_change_171 : decode cX2_change 171 = .ok (.iconst (-1), 1) := by decide +kernel
theorem dX2_change_172 : decode cX2_change 172 = .ok (.if_icmp .eq 16, 3) := by decide +kernel
theorem dX2_change_188 : decode cX2_change 188 = .ok (.aload_n 0, 1) := by decide +kernel
theorem dX2_change_189 : decode cX2_change 189 = .ok (.getfield 22, 3) := by decide +kernel
theorem dX2_change_192 : decode cX2_change 192 = .ok (.bipush 6, 2) := by decide +kernel
theorem dX2_change_194 : decode cX2_change 194 = .ok (.iload_n 2, 1) := by decide +kernel
theorem dX2_change_195 : decode cX2_change 195 = .ok (.iconst 0, 1) := by decide +kernel
theorem dX2_change_196 : decode cX2_change 196 = .ok (.invokevirtual 65, 3) := by decide +kernel
theorem dX2_change_199 : decode cX2_change 199 = .ok (.aload_n 0, 1) := by decide +kernel
theorem dX2_change_200 : decode cX2_change 200 = .ok (.getfield 18, 3) := by decide +kernel
theorem dX2_change_203 : decode cX2_change 203 = .ok (.invokevirtual 101, 3) := by decide +kernel
theorem dX2_change_206 : decode cX2_change 206 = .ok (.return_, 1) := by decide +kernel
theorem dX2_change_175 : decode cX2_change 175 = .ok (.aload_n 0, 1) := by decide +kernel
theorem dX2_change_176 : decode cX2_change 176 = .ok (.getfield 22, 3) := by decide +kernel
theorem dX2_change_179 : decode cX2_change 179 = .ok (.iconst 4, 1) := by decide +kernel
theorem dX2_change_180 : decode cX2_change 180 = .ok (.iload_n 1, 1) := by decide +kernel
theorem dX2_change_181 : decode cX2_change 181 = .ok (.iconst 0, 1) := by decide +kernel
theorem dX2_change_182 : decode cX2_change 182 = .ok (.invokevirtual 65, 3) := by decide +kernel
theorem dX2_change_185 : decode cX2_change 185 = .ok (.goto 14, 3) := by decide +kernel
theorem dX2_change_53 : decode cX2_change 53 = .ok (.aload_n 0, 1) := by decide +kernel
theorem dX2_change_54 : decode cX2_change 54 = .ok (.getfield 18, 3) := by decide +kernel
theorem dX2_change_57 : decode cX2_change 57 = .ok (.iconst 5, 1) := by decide +kernel
theorem dX2_change_58 : decode cX2_change 58 = .ok (.aload_n 0, 1) := by decide +kernel
theorem dX2_change_59 : decode cX2_change 59 = .ok (.getfield 18, 3) := by decide +kernel
theorem dX2_change_62 : decode cX2_change 62 = .ok (.invokevirtual 79, 3) := by decide +kernel
theorem dX2_change_65 : decode cX2_change 65 = .ok (.invokevirtual 82, 3) := by decide +kernel
theorem dX2_change_31 : decode cX2_change 31 = .ok (.iconst 1, 1) := by decide +kernel
theorem dX2_change_32 : decode cX2_change 32 = .ok (.goto 4, 3) := by decide +kernel
theorem dX2_change_88 : decode cX2_change 88 = .ok (.aload_n 0, 1) := by decide +kernel
theorem dX2_change_89 : decode cX2_change 89 = .ok (.getfield 22, 3) := by decide +kernel
theorem dX2_change_92 : decode cX2_change 92 = .ok (.bipush 9, 2) := by decide +kernel
theorem dX2_change_94 : decode cX2_change 94 = .ok (.iload_n 2, 1) := by decide +kernel
theorem dX2_change_95 : decode cX2_change 95 = .ok (.iload 6, 2) := by decide +kernel
theorem dX2_change_97 : decode cX2_change 97 = .ok (.invokevirtual 65, 3) := by decide +kernel
theorem dX2_change_100 : decode cX2_change 100 = .ok (.aload_n 0, 1) := by decide +kernel
theorem dX2_change_101 : decode cX2_change 101 = .ok (.getfield 22, 3) := by decide +kernel
theorem dX2_change_104 : decode cX2_change 104 = .ok (.dup, 1) := by decide +kernel
theorem dX2_change_105 : decode cX2_change 105 = .ok (.getfield 85, 3) := by decide +kernel
theorem dX2_change_108 : decode cX2_change 108 = .ok (.iconst 1, 1) := by decide +kernel
theorem dX2_change_109 : decode cX2_change 109 = .ok (.iadd, 1) := by decide +kernel
theorem dX2_change_110 : decode cX2_change 110 = .ok (.putfield 85, 3) := by decide +kernel
theorem dX2_change_142 : decode cX2_change 142 = .ok (.aload_n 0, 1) := by decide +kernel
theorem dX2_change_143 : decode cX2_change 143 = .ok (.getfield 22, 3) := by decide +kernel
theorem dX2_change_146 : decode cX2_change 146 = .ok (.dup, 1) := by decide +kernel
theorem dX2_change_147 : decode cX2_change 147 = .ok (.getfield 85, 3) := by decide +kernel
theorem dX2_change_150 : decode cX2_change 150 = .ok (.iconst 1, 1) := by decide +kernel
theorem dX2_change_151 : decode cX2_change 151 = .ok (.isub, 1) := by decide +kernel
theorem dX2_change_152 : decode cX2_change 152 = .ok (.putfield 85, 3) := by decide +kernel
theorem dX2_change_155 : decode cX2_change 155 = .ok (.aload_n 0, 1) := by decide +kernel
theorem dX2_change_156 : decode cX2_change 156 = .ok (.getfield 22, 3) := by decide +kernel
theorem dX2_change_159 : decode cX2_change 159 = .ok (.bipush 11, 2) := by decide +kernel
theorem dX2_change_161 : decode cX2_change 161 = .ok (.iload 6, 2) := by decide +kernel
theorem dX2_change_163 : decode cX2_change 163 = .ok (.iconst 0, 1) := by decide +kernel
theorem dX2_change_164 : decode cX2_change 164 = .ok (.invokevirtual 65, 3) := by decide +kernel
theorem dX2_change_167 : decode cX2_change 167 = .ok (.goto 32, 3) := by decide +kernel
theorem dX2_change_16 : decode cX2_change 16 = .ok (.iconst 1, 1) := by decide +kernel
theorem dX2_change_17 : decode cX2_change 17 = .ok (.goto 4, 3) := by decide +kernel
theorem dX2_change_41 : decode cX2_change 41 = .ok (.iconst 0, 1) := by decide +kernel
theorem dX2_change_42 : decode cX2_change 42 = .ok (.goto 4, 3) := by decide +kernel
theorem dX2_change_118 : decode cX2_change 118 = .ok (.aload_n 0, 1) := by decide +kernel
theorem dX2_change_119 : decode cX2_change 119 = .ok (.iconst 1, 1) := by decide +kernel
theorem dX2_change_120 : decode cX2_change 120 = .ok (.invokevirtual 94, 3) := by decide +kernel
theorem dX2_change_123 : decode cX2_change 123 = .ok (.goto 15, 3) := by decide +kernel
theorem dX2_callFunction_0 : decode cX2_callFunction 0 = .ok (.aload_n 0, 1) := by decide +kernel
theorem dX2_callFunction_1 : decode cX2_callFunction 1 = .ok (.getfield 22, 3) := by decide +kernel
theorem dX2_callFunction_4 : decode cX2_callFunction 4 = .ok (.aload_n 0, 1) := by decide +kernel
theorem dX2_callFunction_5 : decode cX2_callFunction 5 = .ok (.getfield 18, 3) := by decide +kernel
theorem dX2_callFunction_8 : decode cX2_callFunction 8 = .ok (.invokevirtual 107, 3) := by decide +kernel
theorem tw_535 : (.code yX9_value cX9_value 1 (some .int) : Cond) ∈ tw_W := tw_in (t8_3 (List.mem_of_getElem? (i := 206) rfl)) rfl
theorem tw_536 : ∀ w ∈ ([.methodLink RX2 107 yX9_value, .instanceMethod yX9_value, .selects RX9 yX9_value yX9_value, .initialized RX9] : List Cond), w ∈ tw_W := al_c (tw_in (t8_4 (List.mem_of_getElem? (i := 95) rfl)) rfl) (al_c (tw_in (t8_3 (List.mem_of_getElem? (i := 204) rfl)) rfl) (al_c (tw_in (t8_3 (List.mem_of_getElem? (i := 205) rfl)) rfl) (al_c (tw_in (t8_1 (List.mem_of_getElem? (i := 10) rfl)) rfl) al_n)))
theorem dX2_callFunction_11 : decode cX2_callFunction 11 = .ok (.aload_n 0, 1) := by decide +kernel
theorem dX2_callFunction_12 : decode cX2_callFunction 12 = .ok (.getfield 18, 3) := by decide +kernel
theorem dX2_callFunction_15 : decode cX2_callFunction 15 = .ok (.invokevirtual 79, 3) := by decide +kernel
theorem dX2_callFunction_18 : decode cX2_callFunction 18 = .ok (.invokevirtual 156, 3) := by decide +kernel
theorem tw_537 : (.code yX1_addCall cX1_addCall 3 (some .int) : Cond) ∈ tw_W := tw_in (t8_4 (List.mem_of_getElem? (i := 116) rfl)) rfl
theorem tw_538 : ∀ w ∈ ([.methodLink RX2 156 yX1_addCall, .instanceMethod yX1_addCall, .selects RX1 yX1_addCall yX1_addCall, .initialized RX1] : List Cond), w ∈ tw_W := al_c (tw_in (t8_4 (List.mem_of_getElem? (i := 113) rfl)) rfl) (al_c (tw_in (t8_4 (List.mem_of_getElem? (i := 114) rfl)) rfl) (al_c (tw_in (t8_4 (List.mem_of_getElem? (i := 115) rfl)) rfl) (al_c (tw_in (t8_1 (List.mem_of_getElem? (i := 11) rfl)) rfl) al_n)))
theorem dX2_callFunction_21 : decode cX2_callFunction 21 = .ok (.istore_n 1, 1) := by decide +kernel
theorem dX2_callFunction_22 : decode cX2_callFunction 22 = .ok (.aload_n 0, 1) := by decide +kernel
theorem dX2_callFunction_23 : decode cX2_callFunction 23 = .ok (.getfield 22, 3) := by decide +kernel
theorem dX2_callFunction_26 : decode cX2_callFunction 26 = .ok (.invokevirtual 72, 3) := by decide +kernel
theorem dX2_callFunction_29 : decode cX2_callFunction 29 = .ok (.istore_n 2, 1) := by decide +kernel
theorem dX2_callFunction_30 : decode cX2_callFunction 30 = .ok (.aload_n 0, 1) := by decide +kernel
theorem dX2_callFunction_31 : decode cX2_callFunction 31 = .ok (.getfield 18, 3) := by decide +kernel
theorem dX2_callFunction_34 : decode cX2_callFunction 34 = .ok (.invokevirtual 52, 3) := by decide +kernel
theorem tw_539 : (.code yX9_take cX9_take 1 none : Cond) ∈ tw_W := tw_in (t8_4 (List.mem_of_getElem? (i := 4) rfl)) rfl
theorem tw_540 : ∀ w ∈ ([.methodLink RX2 52 yX9_take, .instanceMethod yX9_take, .selects RX9 yX9_take yX9_take, .initialized RX9] : List Cond), w ∈ tw_W := al_c (tw_in (t8_4 (List.mem_of_getElem? (i := 96) rfl)) rfl) (al_c (tw_in (t8_4 (List.mem_of_getElem? (i := 2) rfl)) rfl) (al_c (tw_in (t8_4 (List.mem_of_getElem? (i := 3) rfl)) rfl) (al_c (tw_in (t8_1 (List.mem_of_getElem? (i := 10) rfl)) rfl) al_n)))
theorem dX2_callFunction_37 : decode cX2_callFunction 37 = .ok (.aload_n 0, 1) := by decide +kernel
theorem dX2_callFunction_38 : decode cX2_callFunction 38 = .ok (.getfield 18, 3) := by decide +kernel
theorem dX2_callFunction_41 : decode cX2_callFunction 41 = .ok (.invokevirtual 91, 3) := by decide +kernel
theorem dX2_callFunction_44 : decode cX2_callFunction 44 = .ok (.iconst 0, 1) := by decide +kernel
theorem dX2_callFunction_45 : decode cX2_callFunction 45 = .ok (.istore_n 3, 1) := by decide +kernel
theorem dX2_callFunction_46 : decode cX2_callFunction 46 = .ok (.aload_n 0, 1) := by decide +kernel
theorem dX2_callFunction_47 : decode cX2_callFunction 47 = .ok (.getfield 18, 3) := by decide +kernel
theorem dX2_callFunction_50 : decode cX2_callFunction 50 = .ok (.invokevirtual 34, 3) := by decide +kernel
theorem dX2_callFunction_53 : decode cX2_callFunction 53 = .ok (.bipush 31, 2) := by decide +kernel
theorem dX2_callFunction_55 : decode cX2_callFunction 55 = .ok (.if_icmp .eq 58, 3) := by decide +kernel
theorem dX2_callFunction_113 : decode cX2_callFunction 113 = .ok (.aload_n 0, 1) := by decide +kernel
theorem dX2_callFunction_114 : decode cX2_callFunction 114 = .ok (.getfield 18, 3) := by decide +kernel
theorem dX2_callFunction_117 : decode cX2_callFunction 117 = .ok (.bipush 31, 2) := by decide +kernel
theorem dX2_callFunction_119 : decode cX2_callFunction 119 = .ok (.invokevirtual 98, 3) := by decide +kernel
theorem dX2_callFunction_122 : decode cX2_callFunction 122 = .ok (.aload_n 0, 1) := by decide +kernel
theorem dX2_callFunction_123 : decode cX2_callFunction 123 = .ok (.getfield 18, 3) := by decide +kernel
theorem dX2_callFunction_126 : decode cX2_callFunction 126 = .ok (.invokevirtual 101, 3) := by decide +kernel
theorem dX2_callFunction_129 : decode cX2_callFunction 129 = .ok (.aload_n 0, 1) := by decide +kernel
theorem dX2_callFunction_130 : decode cX2_callFunction 130 = .ok (.getfield 22, 3) := by decide +kernel
theorem dX2_callFunction_133 : decode cX2_callFunction 133 = .ok (.dup, 1) := by decide +kernel
theorem dX2_callFunction_134 : decode cX2_callFunction 134 = .ok (.getfield 85, 3) := by decide +kernel
theorem dX2_callFunction_137 : decode cX2_callFunction 137 = .ok (.iload_n 3, 1) := by decide +kernel
theorem dX2_callFunction_138 : decode cX2_callFunction 138 = .ok (.isub, 1) := by decide +kernel
theorem dX2_callFunction_139 : decode cX2_callFunction 139 = .ok (.putfield 85, 3) := by decide +kernel
theorem dX2_callFunction_142 : decode cX2_callFunction 142 = .ok (.aload_n 0, 1) := by decide +kernel
theorem dX2_callFunction_143 : decode cX2_callFunction 143 = .ok (.getfield 22, 3) := by decide +kernel
theorem dX2_callFunction_146 : decode cX2_callFunction 146 = .ok (.bipush 21, 2) := by decide +kernel
theorem dX2_callFunction_148 : decode cX2_callFunction 148 = .ok (.iload_n 1, 1) := by decide +kernel
theorem dX2_callFunction_149 : decode cX2_callFunction 149 = .ok (.iload_n 2, 1) := by decide +kernel
theorem dX2_callFunction_150 : decode cX2_callFunction 150 = .ok (.invokevirtual 65, 3) := by decide +kernel
theorem dX2_callFunction_153 : decode cX2_callFunction 153 = .ok (.return_, 1) := by decide +kernel
theorem dX2_callFunction_58 : decode cX2_callFunction 58 = .ok (.aload_n 0, 1) := by decide +kernel
theorem dX2_callFunction_59 : decode cX2_callFunction 59 = .ok (.iload_n 1, 1) := by decide +kernel
theorem dX2_callFunction_60 : decode cX2_callFunction 60 = .ok (.iconst 0, 1) := by decide +kernel
theorem dX2_callFunction_61 : decode cX2_callFunction 61 = .ok (.invokevirtual 159, 3) := by decide +kernel
theorem tw_541 : (.code yX2_argument cX2_argument 3 none : Cond) ∈ tw_W := tw_in (t8_4 (List.mem_of_getElem? (i := 121) rfl)) rfl
theorem tw_542 : ∀ w ∈ ([.methodLink RX2 159 yX2_argument, .instanceMethod yX2_argument, .selects RX2 yX2_argument yX2_argument, .initialized RX2] : List Cond), w ∈ tw_W := al_c (tw_in (t8_4 (List.mem_of_getElem? (i := 118) rfl)) rfl) (al_c (tw_in (t8_4 (List.mem_of_getElem? (i := 120) rfl)) rfl) (al_c (tw_in (t7_2 (q := (yX2_argument, 5)) (List.mem_of_getElem? (i := 10) rfl)) rfl) (al_c (tw_in (t8_1 (List.mem_of_getElem? (i := 12) rfl)) rfl) al_n)))
theorem dX2_callFunction_64 : decode cX2_callFunction 64 = .ok (.iinc 3 1, 3) := by decide +kernel
theorem dX2_callFunction_67 : decode cX2_callFunction 67 = .ok (.iconst 1, 1) := by decide +kernel
theorem dX2_callFunction_68 : decode cX2_callFunction 68 = .ok (.istore 4, 2) := by decide +kernel
theorem dX2_callFunction_70 : decode cX2_callFunction 70 = .ok (.iload 4, 2) := by decide +kernel
theorem dX2_callFunction_72 : decode cX2_callFunction 72 = .ok (.sipush 1500, 3) := by decide +kernel
theorem dX2_callFunction_75 : decode cX2_callFunction 75 = .ok (.if_icmp .ge 38, 3) := by decide +kernel
theorem dX2_callFunction_78 : decode cX2_callFunction 78 = .ok (.aload_n 0, 1) := by decide +kernel
theorem dX2_callFunction_79 : decode cX2_callFunction 79 = .ok (.getfield 18, 3) := by decide +kernel
theorem dX2_callFunction_82 : decode cX2_callFunction 82 = .ok (.invokevirtual 34, 3) := by decide +kernel
theorem dX2_callFunction_85 : decode cX2_callFunction 85 = .ok (.bipush 37, 2) := by decide +kernel
theorem dX2_callFunction_87 : decode cX2_callFunction 87 = .ok (.if_icmp .ne 26, 3) := by decide +kernel
theorem dX2_callFunction_90 : decode cX2_callFunction 90 = .ok (.aload_n 0, 1) := by decide +kernel
theorem dX2_callFunction_91 : decode cX2_callFunction 91 = .ok (.getfield 18, 3) := by decide +kernel
theorem dX2_callFunction_94 : decode cX2_callFunction 94 = .ok (.invokevirtual 52, 3) := by decide +kernel
theorem dX2_callFunction_97 : decode cX2_callFunction 97 = .ok (.aload_n 0, 1) := by decide +kernel
theorem dX2_callFunction_98 : decode cX2_callFunction 98 = .ok (.iload_n 1, 1) := by decide +kernel
theorem dX2_callFunction_99 : decode cX2_callFunction 99 = .ok (.iload 4, 2) := by decide +kernel
theorem dX2_callFunction_101 : decode cX2_callFunction 101 = .ok (.invokevirtual 159, 3) := by decide +kernel
theorem dX2_callFunction_104 : decode cX2_callFunction 104 = .ok (.iinc 3 1, 3) := by decide +kernel
theorem dX2_callFunction_107 : decode cX2_callFunction 107 = .ok (.iinc 4 1, 3) := by decide +kernel
theorem dX2_callFunction_110 : decode cX2_callFunction 110 = .ok (.goto (-40), 3) := by decide +kernel
theorem om_c88d106276 {n0 : Nat} : 1 + 1 ≤ 8 * n0 + 14 := by omega
theorem om_ebf30c1e5c {n0 : Nat} : 8 + (3 + 11) + 15 ≤ 28 * (8 * n0 + 14) := by omega
theorem om_02933c00b0 {x0 x1 x2 x3 : Int} (h0 : 0 ≤ x0 ∧ x0 ≤ 1500) (h1 : 0 ≤ x1 ∧ x1 ≤ 420) (h2 : 0 ≤ x2 ∧ x2 ≤ 3008) (h3 : x2 + x1 - 2 * x0 ≤ -2) (h4 : x3 = x0) : 0 ≤ x3 ∧ x3 ≤ 1500 := by omega
theorem om_5ac3184894 {x0 x2 x3 : Int} {n1 : Nat} (h0 : 40 ≤ x0 + (n1 : Int)) (h1 : x2 = x0) (h2 : 0 ≤ x3 ∧ x3 ≤ 40) (h3 : x3 = x2 + 1) : 1 ≤ (n1 : Int) := by omega
theorem om_262b63cd5c {x0 x1 x2 x3 x4 : Int} (h0 : 0 ≤ x0 ∧ x0 ≤ 1500) (h1 : 0 ≤ x1 ∧ x1 ≤ 420) (h2 : 0 ≤ x2 ∧ x2 ≤ 3008) (h3 : x2 + x1 - 2 * x0 ≤ -2) (h4 : x3 = x2) (h5 : x4 = x3) : 0 ≤ x4 ∧ x4 ≤ 3008 := by omega
theorem om_ff6fdd6e46 {x0 x1 x2 x3 x4 x5 x6 x7 x8 : Int} (h0 : x0 + x1 - 2 * x2 ≤ -2) (h1 : x3 = x2) (h2 : x4 = x1) (h3 : x5 = x0) (h4 : x6 = x4) (h5 : x7 = x5) (h6 : x8 = x3 + 1) : x7 + x6 - 2 * x8 ≤ -2 := by omega
theorem om_f6532a91b1 {x0 x1 x2 x3 x4 x5 : Int} (h0 : 0 ≤ x0 ∧ x0 - 4 * x1 ≤ 8) (h1 : x2 = x1) (h2 : x3 = x0) (h3 : x4 = x3) (h4 : x5 = x2 + 1) : 0 ≤ x4 ∧ x4 - 4 * x5 ≤ 8 := by omega
theorem om_d3bd070dcf {x0 x2 x3 : Int} {n1 n4 : Nat} (h0 : 40 ≤ x0 + (n1 : Int)) (h1 : x2 = x0) (h2 : x3 = x2 + 1) (h3 : n1 = n4 + 1) : 40 ≤ x3 + (n4 : Int) := by omega
theorem om_a3a29a60ac {n0 n1 : Nat} (h0 : n0 = n1 + 1) : (8 * n1 + 21) + 1 ≤ 8 * n0 + 14 := by omega
theorem om_30bf71c26a {n0 n1 : Nat} (h0 : n0 = n1 + 1) : 8 + (6 + 11) + 28 * (8 * n1 + 21) ≤ 28 * (8 * n0 + 14) := by omega
theorem om_5eb37434c4 {x0 x1 x2 x3 x4 x5 x6 x7 x8 x9 x10 x11 : Int} (h0 : x0 + x1 - 2 * x2 ≤ -2) (h1 : x3 = x2) (h2 : x4 = x1) (h3 : x5 = x0) (h4 : x6 = x4) (h5 : x7 = x5) (h6 : x8 = x3 + 1) (h7 : 0 ≤ x9 ∧ x9 ≤ 1500) (h8 : 0 ≤ x10 ∧ x10 ≤ 420) (h9 : x11 + x10 - 2 * x9 + (-2) ≤ x7 + x6 - 2 * x8) : x11 < 3008 := by omega
theorem om_99c73a5d23 {x0 x1 x2 x3 x4 : Int} (h0 : 0 ≤ x0 ∧ x0 ≤ 40) (h1 : x1 = x0) (h2 : x2 = x1 + 1) (h3 : x3 = x2) (h4 : x4 = x3) : 1 ≤ x4 := by omega
theorem om_8637b84507 {x0 x1 x2 x3 x4 x5 x6 x7 : Int} (h0 : 0 ≤ x0 ∧ x0 ≤ 420) (h1 : 0 ≤ x1 ∧ x1 ≤ 3008) (h2 : x1 + x0 - 2 * x2 ≤ -2) (h3 : x3 = x2) (h4 : x4 = x3 + 1) (h5 : 0 ≤ x5 ∧ x5 ≤ 1500) (h6 : x4 + 1 ≤ x5) (h7 : x6 = x5) (h8 : x7 = x6) : 0 ≤ x7 ∧ x7 ≤ 1500 := by omega
theorem om_35ce18c85b {x0 x1 x2 x3 x4 x5 x6 x7 x8 x9 x10 x11 x12 x13 : Int} (h0 : x0 + x1 - 2 * x2 ≤ -2) (h1 : x3 = x2) (h2 : x4 = x1) (h3 : x5 = x0) (h4 : x6 = x4) (h5 : x7 = x5) (h6 : x8 = x3 + 1) (h7 : 0 ≤ x9 ∧ x9 ≤ 1500) (h8 : 0 ≤ x10 ∧ x10 ≤ 420) (h9 : 0 ≤ x11 ∧ x11 ≤ 3008) (h10 : x11 + x10 - 2 * x9 + (-2) ≤ x7 + x6 - 2 * x8) (h11 : x12 = x11 + 1) (h12 : x13 = x12) : 0 ≤ x13 ∧ x13 ≤ 3008 := by omega
theorem om_1a9a528233 {x0 x1 x2 x3 x4 x5 x6 x7 x8 x9 x10 x11 x12 x13 x14 x15 x16 x17 x18 : Int} (h0 : 0 ≤ x0 ∧ x0 ≤ 1) (h1 : x1 = x2) (h2 : x3 = x4) (h3 : x5 = x6) (h4 : x7 = x3) (h5 : x8 = x5) (h6 : x9 = x1 + 1) (h7 : x10 + x11 - 2 * x12 + (-2) ≤ x8 + x7 - 2 * x9) (h8 : x13 = x12) (h9 : x14 = x11) (h10 : x15 = x10 + 1) (h11 : x16 = x13) (h12 : x17 = x14) (h13 : x18 = x15) : x18 + x17 - 2 * x16 + (-1 - x0) ≤ x6 + x4 - 2 * x2 := by omega
theorem om_ff587b6fdf {x0 x1 x2 x3 x4 x5 : Int} (h0 : x0 = x1) (h1 : x2 = x0 + 1) (h2 : x2 + 1 ≤ x3) (h3 : x4 = x3) (h4 : x5 = x4) : x1 + 2 ≤ x5 := by omega
theorem om_b43afd939b {x0 x1 x2 x3 x4 x5 x6 x7 x8 x9 x10 x11 : Int} (h0 : x0 = x1) (h1 : x2 = x3) (h2 : x4 = x2) (h3 : x5 = x0 + 1) (h4 : x4 ≤ x6 ∧ x6 - 4 * x7 ≤ x4 - 4 * x5 + 0) (h5 : x8 = x7) (h6 : x9 = x6) (h7 : x10 = x8) (h8 : x11 = x9) : x3 ≤ x11 ∧ x11 - 4 * x10 ≤ x3 - 4 * x1 + 0 := by omega
theorem om_4c2747e16f {x0 x1 x2 x3 x4 x5 : Int} (h0 : x0 = x1) (h1 : x2 = x0 + 1) (h2 : x3 = x2) (h3 : x4 = x3) (h4 : x5 = x4 - 1) : x5 = x1 := by omega
theorem om_03d1dde555 {n0 : Nat} : 6 + 1 ≤ 8 * n0 + 14 := by omega
theorem om_0d25788d50 {n0 : Nat} : 8 + (3 + 11) + 82 ≤ 28 * (8 * n0 + 14) := by omega
theorem om_836858dbd1 {x0 : Int} (h0 : 0 ≤ x0 ∧ x0 ≤ 1) (h1 : x0 ≠ (0 : Int)) (h2 : x0 = (0 : Int)) : False := by omega
theorem om_0e395a39f1 {x0 x1 x2 x3 x4 : Int} (h0 : 0 ≤ x0 ∧ x0 ≤ 1500) (h1 : 0 ≤ x1 ∧ x1 ≤ 420) (h2 : x2 + x1 - 2 * x0 ≤ -2) (h3 : x3 = x2) (h4 : x4 = x3) : x4 < 3008 := by omega
theorem om_705126c6e9 {x0 x1 x2 x3 x4 x5 : Int} (h0 : 0 ≤ x0 ∧ x0 ≤ 420) (h1 : 0 ≤ x1 ∧ x1 ≤ 3008) (h2 : x1 + x0 - 2 * x2 ≤ -2) (h3 : x3 = x2) (h4 : 0 ≤ x4 ∧ x4 ≤ 1500) (h5 : x4 = x3 + 1) (h6 : x5 = x4) : 0 ≤ x5 ∧ x5 ≤ 1500 := by omega
theorem om_2a247253ed {x0 x1 x2 x3 : Int} (h0 : 0 ≤ x0 ∧ x0 ≤ 40) (h1 : x1 = x0) (h2 : 0 ≤ x2 ∧ x2 ≤ 40) (h3 : x2 = x1 + 1) (h4 : x3 = x2) : 0 ≤ x3 ∧ x3 ≤ 40 := by omega
theorem om_585fd16d20 {x0 x1 x2 x3 x4 x5 : Int} (h0 : 0 ≤ x0 ∧ x0 ≤ 1500) (h1 : 0 ≤ x1 ∧ x1 ≤ 420) (h2 : x2 + x1 - 2 * x0 ≤ -2) (h3 : x3 = x2) (h4 : x4 = x3) (h5 : 0 ≤ x5 ∧ x5 ≤ 3008) (h6 : x5 = x4 + 1) : 0 ≤ x5 ∧ x5 ≤ 3008 := by omega
theorem om_5b9f3127bc {x0 x1 x2 x3 x4 x5 x6 x7 x8 x9 x10 x11 : Int} (h0 : x0 + x1 - 2 * x2 ≤ -2) (h1 : x3 = x2) (h2 : x4 = x1) (h3 : x5 = x0) (h4 : x6 = x4) (h5 : x7 = x5) (h6 : x8 = x3 + 1) (h7 : x9 = x8) (h8 : x10 = x6) (h9 : x11 = x7 + 1) : x11 + x10 - 2 * x9 ≤ -2 := by omega
theorem om_f56105df57 {x0 x1 x2 x3 x4 x5 x6 x7 : Int} (h0 : 0 ≤ x0 ∧ x0 - 4 * x1 ≤ 8) (h1 : x2 = x1) (h2 : x3 = x0) (h3 : x4 = x3) (h4 : x5 = x2 + 1) (h5 : x6 = x5) (h6 : x7 = x4) : 0 ≤ x7 ∧ x7 - 4 * x6 ≤ 8 := by omega
theorem om_9fa395a918 {x0 x2 x3 x4 : Int} {n1 n5 : Nat} (h0 : 40 ≤ x0 + (n1 : Int)) (h1 : x2 = x0) (h2 : x3 = x2 + 1) (h3 : x4 = x3) (h4 : n1 = n5 + 1) : 40 ≤ x4 + (n5 : Int) := by omega
theorem om_5584bd4cd0 {x0 x1 x2 x3 x4 x5 x6 x7 x8 x9 x10 x11 x12 x13 x14 : Int} (h0 : x0 + x1 - 2 * x2 ≤ -2) (h1 : x3 = x2) (h2 : x4 = x1) (h3 : x5 = x0) (h4 : x6 = x4) (h5 : x7 = x5) (h6 : x8 = x3 + 1) (h7 : x9 = x8) (h8 : x10 = x6) (h9 : x11 = x7 + 1) (h10 : 0 ≤ x12 ∧ x12 ≤ 1500) (h11 : 0 ≤ x13 ∧ x13 ≤ 420) (h12 : x14 + x13 - 2 * x12 + (-2) ≤ x11 + x10 - 2 * x9) : x14 < 3008 := by omega
theorem om_874629bc4e {x0 x1 x2 x3 x4 x5 : Int} (h0 : 0 ≤ x0 ∧ x0 ≤ 40) (h1 : x1 = x0) (h2 : x2 = x1 + 1) (h3 : x3 = x2) (h4 : x4 = x3) (h5 : x5 = x4) : 1 ≤ x5 := by omega
theorem om_36fdb1ec01 {x0 x1 x2 x3 x4 x5 x6 x7 x8 : Int} (h0 : 0 ≤ x0 ∧ x0 ≤ 420) (h1 : 0 ≤ x1 ∧ x1 ≤ 3008) (h2 : x1 + x0 - 2 * x2 ≤ -2) (h3 : x3 = x2) (h4 : x4 = x3 + 1) (h5 : x5 = x4) (h6 : 0 ≤ x6 ∧ x6 ≤ 1500) (h7 : x5 + 1 ≤ x6) (h8 : x7 = x6) (h9 : x8 = x7) : 0 ≤ x8 ∧ x8 ≤ 1500 := by omega
theorem om_a9f09165c0 {x0 x1 x2 x3 x4 x5 x6 x7 x8 x9 x10 x11 x12 x13 x14 x15 x16 x17 x18 x19 x20 x21 : Int} (h0 : 0 ≤ x0 ∧ x0 ≤ 1) (h1 : x0 ≠ (0 : Int)) (h2 : x1 = x2) (h3 : x3 = x4) (h4 : x5 = x6) (h5 : x7 = x3) (h6 : x8 = x5) (h7 : x9 = x1 + 1) (h8 : x10 = x9) (h9 : x11 = x7) (h10 : x12 = x8 + 1) (h11 : x13 + x14 - 2 * x15 + (-2) ≤ x12 + x11 - 2 * x10) (h12 : x16 = x15) (h13 : x17 = x14) (h14 : x18 = x13 + 1) (h15 : x19 = x16) (h16 : x20 = x17) (h17 : x21 = x18) : x21 + x20 - 2 * x19 + (-1 - x0) ≤ x6 + x4 - 2 * x2 := by omega
theorem om_4e3a931fa9 {x0 x1 x2 x3 x4 x5 x6 : Int} (h0 : x0 = x1) (h1 : x2 = x0 + 1) (h2 : x3 = x2) (h3 : x3 + 1 ≤ x4) (h4 : x5 = x4) (h5 : x6 = x5) : x1 + 2 ≤ x6 := by omega
theorem om_e1bb6c2d2d {x0 x1 x2 x3 x4 x5 x6 x7 x8 x9 x10 x11 x12 x13 : Int} (h0 : x0 = x1) (h1 : x2 = x3) (h2 : x4 = x2) (h3 : x5 = x0 + 1) (h4 : x6 = x5) (h5 : x7 = x4) (h6 : x7 ≤ x8 ∧ x8 - 4 * x9 ≤ x7 - 4 * x6 + 0) (h7 : x10 = x9) (h8 : x11 = x8) (h9 : x12 = x10) (h10 : x13 = x11) : x3 ≤ x13 ∧ x13 - 4 * x12 ≤ x3 - 4 * x1 + 0 := by omega
theorem om_ac685ab65a {x0 x1 x2 x3 x4 x5 x6 : Int} (h0 : x0 = x1) (h1 : x2 = x0 + 1) (h2 : x3 = x2) (h3 : x4 = x3) (h4 : x5 = x4) (h5 : x6 = x5 - 1) : x6 = x1 := by omega
theorem om_f1bb74cbd7 {x0 x1 x2 x3 x4 x5 x6 x7 x8 : Int} (h0 : x0 + x1 - 2 * x2 ≤ -2) (h1 : x3 = x2) (h2 : x4 = x1) (h3 : x5 = x0) (h4 : x6 = x4) (h5 : x7 = x5) (h6 : x8 = x3 + 1) : x7 + x6 - 2 * x8 ≤ 0 := by omega
theorem om_1e9e73a1b5 {x0 x1 x2 x3 x4 x5 x6 x7 x8 x9 x10 x11 : Int} (h0 : x0 + x1 - 2 * x2 ≤ -2) (h1 : x3 = x2) (h2 : x4 = x1) (h3 : x5 = x0) (h4 : x6 = x4) (h5 : x7 = x5) (h6 : x8 = x3 + 1) (h7 : 0 ≤ x9 ∧ x9 ≤ 1500) (h8 : 0 ≤ x10 ∧ x10 ≤ 420) (h9 : 0 ≤ x11 ∧ x11 ≤ 3008) (h10 : x11 + x10 - 2 * x9 + (1) ≤ x7 + x6 - 2 * x8) : 0 ≤ x11 ∧ x11 ≤ 3008 := by omega
theorem om_a98dcd8a8b {x0 x1 x2 x3 x4 x5 x6 x7 x8 x9 x10 x11 : Int} (h0 : x0 + x1 - 2 * x2 ≤ -2) (h1 : x3 = x2) (h2 : x4 = x1) (h3 : x5 = x0) (h4 : x6 = x4) (h5 : x7 = x5) (h6 : x8 = x3 + 1) (h7 : 0 ≤ x9 ∧ x9 ≤ 1500) (h8 : 0 ≤ x10 ∧ x10 ≤ 420) (h9 : x11 + x10 - 2 * x9 + (1) ≤ x7 + x6 - 2 * x8) : x11 < 3008 := by omega
theorem om_b924cc77a7 {x0 x1 x2 x3 x4 x5 x6 x7 x8 x9 x10 x11 x12 x13 : Int} (h0 : x0 + x1 - 2 * x2 ≤ -2) (h1 : x3 = x2) (h2 : x4 = x1) (h3 : x5 = x0) (h4 : x6 = x4) (h5 : x7 = x5) (h6 : x8 = x3 + 1) (h7 : 0 ≤ x9 ∧ x9 ≤ 1500) (h8 : 0 ≤ x10 ∧ x10 ≤ 420) (h9 : 0 ≤ x11 ∧ x11 ≤ 3008) (h10 : x11 + x10 - 2 * x9 + (1) ≤ x7 + x6 - 2 * x8) (h11 : x12 = x11 + 1) (h12 : x13 = x12) : 0 ≤ x13 ∧ x13 ≤ 3008 := by omega
theorem om_b40e433f70 {x0 x1 x2 x3 x4 x5 x6 x7 x8 x9 x10 x11 x12 x13 x14 x15 x16 x17 x18 : Int} (h0 : 0 ≤ x0 ∧ x0 ≤ 1) (h1 : x1 = x2) (h2 : x3 = x4) (h3 : x5 = x6) (h4 : x7 = x3) (h5 : x8 = x5) (h6 : x9 = x1 + 1) (h7 : x10 + x11 - 2 * x12 + (1) ≤ x8 + x7 - 2 * x9) (h8 : x13 = x12) (h9 : x14 = x11) (h10 : x15 = x10 + 1) (h11 : x16 = x13) (h12 : x17 = x14) (h13 : x18 = x15) : x18 + x17 - 2 * x16 + (-1 - x0) ≤ x6 + x4 - 2 * x2 := by omega
theorem om_a7060a5991 {x0 x1 x2 x3 x4 x5 x6 x7 x8 x9 x10 x11 : Int} (h0 : x0 + x1 - 2 * x2 ≤ -2) (h1 : x3 = x2) (h2 : x4 = x1) (h3 : x5 = x0) (h4 : x6 = x4) (h5 : x7 = x5) (h6 : x8 = x3 + 1) (h7 : x9 = x8) (h8 : x10 = x6) (h9 : x11 = x7 + 1) : x11 + x10 - 2 * x9 ≤ 0 := by omega
theorem om_78c7931305 {x0 x1 x2 x3 x4 x5 x6 x7 x8 x9 x10 x11 x12 x13 x14 : Int} (h0 : x0 + x1 - 2 * x2 ≤ -2) (h1 : x3 = x2) (h2 : x4 = x1) (h3 : x5 = x0) (h4 : x6 = x4) (h5 : x7 = x5) (h6 : x8 = x3 + 1) (h7 : x9 = x8) (h8 : x10 = x6) (h9 : x11 = x7 + 1) (h10 : 0 ≤ x12 ∧ x12 ≤ 1500) (h11 : 0 ≤ x13 ∧ x13 ≤ 420) (h12 : x14 + x13 - 2 * x12 + (1) ≤ x11 + x10 - 2 * x9) : x14 < 3008 := by omega
theorem om_0f0274ea8d {x0 x1 x2 x3 x4 x5 x6 x7 x8 x9 x10 x11 x12 x13 x14 x15 x16 : Int} (h0 : x0 + x1 - 2 * x2 ≤ -2) (h1 : x3 = x2) (h2 : x4 = x1) (h3 : x5 = x0) (h4 : x6 = x4) (h5 : x7 = x5) (h6 : x8 = x3 + 1) (h7 : x9 = x8) (h8 : x10 = x6) (h9 : x11 = x7 + 1) (h10 : 0 ≤ x12 ∧ x12 ≤ 1500) (h11 : 0 ≤ x13 ∧ x13 ≤ 420) (h12 : 0 ≤ x14 ∧ x14 ≤ 3008) (h13 : x14 + x13 - 2 * x12 + (1) ≤ x11 + x10 - 2 * x9) (h14 : x15 = x14 + 1) (h15 : x16 = x15) : 0 ≤ x16 ∧ x16 ≤ 3008 := by omega
theorem om_15bb4da889 {x0 x1 x2 x3 x4 x5 x6 x7 x8 x9 x10 x11 x12 x13 x14 x15 x16 x17 x18 x19 x20 x21 : Int} (h0 : 0 ≤ x0 ∧ x0 ≤ 1) (h1 : x1 = x2) (h2 : x3 = x4) (h3 : x5 = x6) (h4 : x7 = x3) (h5 : x8 = x5) (h6 : x9 = x1 + 1) (h7 : x10 = x9) (h8 : x11 = x7) (h9 : x12 = x8 + 1) (h10 : x13 + x14 - 2 * x15 + (1) ≤ x12 + x11 - 2 * x10) (h11 : x16 = x15) (h12 : x17 = x14) (h13 : x18 = x13 + 1) (h14 : x19 = x16) (h15 : x20 = x17) (h16 : x21 = x18) : x21 + x20 - 2 * x19 + (-1 - x0) ≤ x6 + x4 - 2 * x2 := by omega
set_option maxHeartbeats 16000000 in
set_option maxRecDepth 100000 in
theorem c_x_X2_change (l : Launch) (n : Nat) (ihE : ∀ m, n = m + 1 → Cq_expression l m) (dC : Nat → ClassId) (dI : Nat → Nat → Nat) (cI cB cZ cJ cR : ClassId) (tb : Nat → Nat) (sz : Nat) (ad : Nat → Nat) (pr : Int32 → Nat) (N : Nat) (L1 L2 : List Nat) (v : MS) (pa : Int32) (pb : Int32) (pc1 : Int32) (ps : Int32) (z304 : 0 ≤ (v.1 0 304).toInt ∧ (v.1 0 304).toInt ≤ 1503) (z305 : 0 ≤ (v.1 0 305).toInt ∧ (v.1 0 305).toInt ≤ 1500) (z306 : 0 ≤ (v.1 0 306).toInt ∧ (v.1 0 306).toInt ≤ 40) (z312 : 0 ≤ (v.1 0 312).toInt ∧ (v.1 0 312).toInt ≤ 500) (z321 : 0 ≤ (v.1 0 321).toInt ∧ (v.1 0 321).toInt ≤ 501) (z326 : 0 ≤ (v.1 0 326).toInt ∧ (v.1 0 326).toInt ≤ 420) (z373 : 0 ≤ (v.1 0 373).toInt ∧ (v.1 0 373).toInt ≤ 4000) (z381 : 0 ≤ (v.1 0 381).toInt ∧ (v.1 0 381).toInt ≤ 3008) (hL1 : L1.length = 40) (hL2 : L2.length = 60) (rp : RP v) (hps : pr ps = ad 908) (es300 : (v.1 0 300) = ps) (es310 : (v.1 0 310) = ps) (hst : l.stackTraces = false) (zd : (v.1 0 381).toInt + (v.1 0 326).toInt - 2 * (v.1 0 305).toInt ≤ -2) (zlb : 0 ≤ (v.1 0 317).toInt ∧ (v.1 0 317).toInt - 4 * (v.1 0 305).toInt ≤ 8) (zn : 40 ≤ (v.1 0 306).toInt + (n : Int)) (zr : 0 ≤ pc1.toInt ∧ pc1.toInt ≤ 1) : vx_Met l yX2_change (Cond.code yX2_change cX2_change 7 none :: tw_W) ({ frames := 8 * n + 14, cells := 1, slots := 6, locals := 28 * (8 * n + 14) }) (pc_ (dC, dI) (tyS cI cB cZ cJ cR) tb (cW ad pr N cI cR L1 L2 v) sz [.ref (ad 902), .int pa, .int pb, .int pc1]) (qvz_ (dC, dI) (cW ad pr N cI cR L1 L2 v) sz (fun (u : MS) => FC [305, 306, 307, 314, 315, 317, 321, 326, 381] [0, 316, 318, 319, 320, 324, 325, 378, 379, 380] v u ∧ (Q_x_X2_change L1 L2 (pE L1 L2 n) v pa pb pc1 false u) ∧ (0 ≤ (u.1 0 305).toInt ∧ (u.1 0 305).toInt ≤ 1500) ∧ (0 ≤ (u.1 0 306).toInt ∧ (u.1 0 306).toInt ≤ 40) ∧ (0 ≤ (u.1 0 321).toInt ∧ (u.1 0 321).toInt ≤ 501) ∧ (0 ≤ (u.1 0 326).toInt ∧ (u.1 0 326).toInt ≤ 420) ∧ (0 ≤ (u.1 0 381).toInt ∧ (u.1 0 381).toInt ≤ 3008) ∧ ((u.1 0 381).toInt + (u.1 0 326).toInt - 2 * (u.1 0 305).toInt + (-1 - pc1.toInt) ≤ (v.1 0 381).toInt + (v.1 0 326).toInt - 2 * (v.1 0 305).toInt) ∧ ((v.1 0 305).toInt + 2 ≤ (u.1 0 305).toInt) ∧ ((v.1 0 317).toInt ≤ (u.1 0 317).toInt ∧ (u.1 0 317).toInt - 4 * (u.1 0 305).toInt ≤ (v.1 0 317).toInt - 4 * (v.1 0 305).toInt + 0) ∧ ((u.1 0 306).toInt = (v.1 0 306).toInt) ∧ (RS v u)) (fun (u : MS) => (cW ad pr N cI cR L1 L2 u))) (qxc (dC, dI) (cW ad pr N cI cR L1 L2 v) sz (fun (u : MS) => (cW ad pr N cI cR L1 L2 u)) (fun (u : MS) => FC xfl xal v u ∧ (u.1 0 308).toInt ≠ 0 ∧ (Q_x_X2_change L1 L2 (pE L1 L2 n) v pa pb pc1 true u))) 1 6 (va_A (cW ad pr N cI cR L1 L2 v) sz) := by
  refine vx_ofW (cc := cX2_change) (maxL := 7) (ret := none) (by decide) rfl ?_
  intro p e s m args below meth c s₁ B hml hnt hv
  obtain ⟨rfl, hsz, hP, hKK, hD0, hFx⟩ := hv
  have hK := hKK.1
  have hx := B.exec
  have hb := B.bytes
  have hr := B.returns
  have ht : ∀ w ∈ tw_W, w.before _ s = true := fun w h => atoms_spec (ws := Cond.code yX2_change cX2_change 7 none :: tw_W) B.pre w (List.mem_cons_of_mem _ h)
  have hown : s.vm.findClass RX2 = some m.cls := findClass_of_methodNamed B.named
  have hlocks := B.notSynchronized
  subst hsz
  unfold qvz_ qxc
  have hD := hD0.self (sz := s.heap.size)
  generalize hAe : va_A (cW ad pr N cI cR L1 L2 v) s.heap.size = A at hD hFx ⊢
  have hA : ∀ q : Nat, s.heap.size ≤ q → A q := fun q h => by rw [← hAe]; exact Or.inr h
  have hS : va_S A s.heap s.heap [] := va_S.rf
  have hl := lv_entry ([.ref (ad 902), .int pa, .int pb, .int pc1]) (n := 7) (Nat.le_of_ble_eq_true rfl)
  rw [lg_entry_eq]
  generalize (lg_sl ([.ref (ad 902), .int pa, .int pb, .int pc1]) ++ List.replicate (7 - (lg_sl ([.ref (ad 902), .int pa, .int pb, .int pc1])).length) Slot.unset).toArray = ls at hl ⊢
  have hl : lv_has ls 7 [(0, .ref (ad 902)), (1, .int pa), (2, .int pb), (3, .int pc1)] := hl
  refine lv_aload_n hx hb dX2_change_0 rfl (lv_at hl 0 rfl) ?_
  refine va_get (D := (dC, dI)) (ci := 6) (fs := oF_X2 ad pr v) (v := .ref (ad 900)) (C := RX2) (T := TX2) (N := 5) hx hb ht itX2 hown hK hP 2 rfl rfl 0 (by decide) (ht _ tw_509) (fun _ h9 => h9) rfl dX2_change_1 ?_
  refine cu_i (rn_Vk (n := 0) (As := []) (rest := []) hx hb hml hown ht hKK hFx hP hD hS hA (c_x_X9_kind l dC dI cI cB cZ cJ cR tb s.heap.size ad pr N L1 L2 v  (show 0 ≤ (v.1 0 304).toInt ∧ (v.1 0 304).toInt ≤ 1503 from (om_c99648273b z304)) (show 0 ≤ (v.1 0 305).toInt ∧ (v.1 0 305).toInt ≤ 1500 from (om_bcad73cc2d z305 z326 z381 zd))) tw_455 tw_532 (by decide +kernel) rfl rfl ⟨show 0 + 1 ≤ 8 * n + 14 from om_2d92e09058, show 8 + (1 + 11) + 0 ≤ 28 * (8 * n + 14) from om_289622e6d2⟩ (List.range (cW ad pr N cI cR L1 L2 v).length) (rg_map _) (nd_range _) 0 rfl rfl rfl rfl hl.1 rfl (Nat.le_of_ble_eq_true rfl) dX2_change_4 ⟨Nat.le_of_ble_eq_true rfl, Nat.le_of_ble_eq_true rfl⟩) hP hD hS hA (fun r3 u2 H locs hw1 hP hD hS => ?_)
  obtain ⟨rfl, ex1⟩ := hw1
  refine W.widen (k := 0) (n := 0) (Nat.le_refl _) (Nat.le_refl _) ?_
  refine lv_istore (lv' := [(4, .int r3), (0, .ref (ad 902)), (1, .int pa), (2, .int pb), (3, .int pc1)]) hx hb dX2_change_7 hl (by decide) rfl (fun ls hl => ?_)
  refine lv_iload hx hb dX2_change_9 (lv_at hl 0 rfl) ?_
  refine lv_bipush (v := 42) hx hb dX2_change_11 (by decide) ?_
  refine lv_icmp_ne (tgt := 20) hx hb dX2_change_13 (by decide) (fun h4 => ?_) (fun h4 => ?_)
  · have z5 : r3.toInt ≠ (42 : Int) := ne_z rfl (show (42 : Int32).toInt = (42 : Int) by decide) h4
    refine lv_iconst (v := 0) hx hb dX2_change_20 (by decide) ?_
    refine lv_istore (lv' := [(5, .int 0), (4, .int r3), (0, .ref (ad 902)), (1, .int pa), (2, .int pb), (3, .int pc1)]) hx hb dX2_change_21 hl (by decide) rfl (fun ls hl => ?_)
    refine lv_aload_n hx hb dX2_change_23 rfl (lv_at hl 2 rfl) ?_
    refine va_get (D := (dC, dI)) (ci := 6) (fs := oF_X2 ad pr v) (v := .ref (ad 901)) (C := RX2) (T := TX2) (N := 5) hx hb ht itX2 hown hK hP 2 rfl rfl 1 (by decide) (ht _ tw_498) (fun _ h9 => h9) rfl dX2_change_24 ?_
    refine lv_iload_n hx hb dX2_change_27 rfl (lv_at hl 5 rfl) ?_
    refine lv_if_eq (tgt := 35) hx hb dX2_change_28 (by decide) (fun h6 => ?_) (fun h6 => ?_)
    · have z7 : pc1.toInt = (0 : Int) := eq_z rfl (show (0 : Int32).toInt = (0 : Int) by decide) h6
      refine lv_iconst (v := 0) hx hb dX2_change_35 (by decide) ?_
      refine lv_iload hx hb dX2_change_36 (lv_at hl 0 rfl) ?_
      refine lv_if_eq (tgt := 45) hx hb dX2_change_38 (by decide) (fun _ => ?_) (fun k8 => absurd k8 (by decide))
      refine lv_iconst (v := 1) hx hb dX2_change_45 (by decide) ?_
      refine lv_iadd hx hb dX2_change_46 ?_
      refine tp_i (y := 1) (by decide) ?_
      refine cu_i (rn_Vk (n := 1) (As := [.int 1]) (rest := []) hx hb hml hown ht hKK hFx hP hD hS hA (c_x_X1_wantSlots l dC dI cI cB cZ cJ cR tb H.size ad pr N L1 L2 v (1 : Int32) (show 0 ≤ (v.1 0 312).toInt ∧ (v.1 0 312).toInt ≤ 500 from (om_9861e69da5 z312))) tw_507 tw_508 (by decide +kernel) rfl rfl ⟨show 1 + 1 ≤ 8 * n + 14 from om_c88d106276, show 8 + (3 + 11) + 15 ≤ 28 * (8 * n + 14) from om_ebf30c1e5c⟩ (List.range (cW ad pr N cI cR L1 L2 v).length) (rg_map _) (nd_range _) 1 rfl rfl rfl rfl hl.1 rfl (Nat.le_of_ble_eq_true rfl) dX2_change_47 ⟨Nat.le_of_ble_eq_true rfl, Nat.le_of_ble_eq_true rfl⟩) hP hD hS hA (fun r11 u10 H locs hw9 hP hD hS => ?_)
      obtain ⟨fr9, ex9, rs9, bz9⟩ := hw9
      refine W.widen (k := 0) (n := 0) (Nat.le_refl _) (Nat.le_refl _) ?_
      refine lv_if_ne (tgt := 68) hx hb dX2_change_50 (by decide) (fun h12 => ?_) (fun h12 => ?_)
      · have z13 : r11.toInt ≠ (0 : Int) := ne_z rfl (show (0 : Int32).toInt = (0 : Int) by decide) h12
        refine lv_aload_n hx hb dX2_change_68 rfl (lv_at hl 2 rfl) ?_
        refine va_get (D := (dC, dI)) (ci := 6) (fs := oF_X2 ad pr u10) (v := .ref (ad 900)) (C := RX2) (T := TX2) (N := 5) hx hb ht itX2 hown hK hP 2 rfl rfl 0 (by decide) (ht _ tw_509) (fun _ h9 => h9) rfl dX2_change_69 ?_
        have q14 : (u10.1 0 304).toInt = (v.1 0 304).toInt := congrArg Int32.toInt ((fr9.2.1 304 (by decide)).trans (show v.1 0 304 = (v.1 0 304) by rfl))
        have q15 : (u10.1 0 305).toInt = (v.1 0 305).toInt := congrArg Int32.toInt ((fr9.2.1 305 (by decide)).trans (show v.1 0 305 = (v.1 0 305) by rfl))
        have q16 : (u10.1 0 306).toInt = (v.1 0 306).toInt := congrArg Int32.toInt ((fr9.2.1 306 (by decide)).trans (show v.1 0 306 = (v.1 0 306) by rfl))
        have q17 : (u10.1 0 373).toInt = (v.1 0 373).toInt := congrArg Int32.toInt ((fr9.2.1 373 (by decide)).trans (show v.1 0 373 = (v.1 0 373) by rfl))
        refine W.sz (fun hz9 => ?_)
        refine czx_v (rx_Vk (n := 0) (As := []) (rest := []) hx hb hml hown ht hKK hFx hP hD hS hA (c_x_X9_open l dC dI cI cB cZ cJ cR tb H.size ad pr N L1 L2 u10 ps (show 0 ≤ (u10.1 0 304).toInt ∧ (u10.1 0 304).toInt ≤ 1503 from (om_73002589c1 z304 q14)) (show 0 ≤ (u10.1 0 305).toInt ∧ (u10.1 0 305).toInt ≤ 1500 from (om_02933c00b0 z305 z326 z381 zd q15)) (show 0 ≤ (u10.1 0 306).toInt ∧ (u10.1 0 306).toInt ≤ 40 from (om_99e115f631 z306 q16)) (show 0 ≤ (u10.1 0 373).toInt ∧ (u10.1 0 373).toInt ≤ 4000 from (om_9084c127ed z373 q17)) (show pr ps = ad 908 from hps) (show (u10.1 0 300) = ps from (Eq.trans (fr9.2.1 300 (by decide)) es300)) (show l.stackTraces = false from hst)) tw_524 tw_525 (by decide +kernel) rfl rfl ⟨show 7 + 1 ≤ 8 * n + 14 from om_46126d3ba0, show 8 + (1 + 11) + 104 ≤ 28 * (8 * n + 14) from om_6017b980b8⟩ (List.range (cW ad pr N cI cR L1 L2 u10).length) (rg_map _) (nd_range _) 0 rfl rfl rfl rfl hl.1 rfl (Nat.le_of_ble_eq_true rfl) dX2_change_72 ⟨Nat.le_of_ble_eq_true rfl, Nat.le_of_ble_eq_true rfl⟩) hP hD hS hA (fun u9 ce9 q9 H locs hx9 hP hD hS hc9 hv9 hf9 => ?_) (fun u19 H locs hw18 hP hD hS hz8 => ?_)
        · exact vx_out (fun x h9 => (hnt x h9).elim) hlocks hc9 hv9 hf9 (fun t9 ht9 hv8 => ⟨u9, ⟨FC.tr (FC.tr (FC.rf _) (FC.up fr9 (by decide) (by decide))) hx9.1, hx9.2.1, ⟨z304, z305, z306, z312, z321, z326, z373, z381, zd, zlb, zr, r3, ex1, (Or.inl ⟨z5, (Or.inl ⟨z7, r11, u10, ex9, ⟨fr9, rs9⟩, (Or.inl ⟨z13, (Or.inl ⟨u9, hx9.2.2, rfl, rfl⟩)⟩)⟩)⟩)⟩⟩, ⟨rfl, by rw [ht9]; exact hP, hD⟩, hS.F ht9⟩) hS.2.2 (Nat.le_refl _) (Nat.le_refl _)
        refine W.shrink (hz8.trans hz9) ?_
        obtain ⟨fr18, ex18, i30518, i30618, pj18, pt18, rs18⟩ := hw18
        have i30518 : 0 ≤ (u19.1 0 305).toInt ∧ (u19.1 0 305).toInt ≤ 1500 := i30518
        have i30618 : 0 ≤ (u19.1 0 306).toInt ∧ (u19.1 0 306).toInt ≤ 40 := i30618
        have pj18 : (u19.1 0 306).toInt = (u10.1 0 306).toInt + 1 := pj18
        have pt18 : (u19.1 0 305).toInt = (u10.1 0 305).toInt + 1 := pt18
        have rs18 : RS u10 u19 := rs18
        refine lv_aload_n hx hb dX2_change_75 rfl (lv_at hl 2 rfl) ?_
        refine va_get (D := (dC, dI)) (ci := 6) (fs := oF_X2 ad pr u19) (v := .ref (ad 901)) (C := RX2) (T := TX2) (N := 5) hx hb ht itX2 hown hK hP 2 rfl rfl 1 (by decide) (ht _ tw_498) (fun _ h9 => h9) rfl dX2_change_76 ?_
        have q21 : (u10.1 0 312).toInt = (v.1 0 312).toInt := congrArg Int32.toInt ((fr9.2.1 312 (by decide)).trans (show v.1 0 312 = (v.1 0 312) by rfl))
        have q22 : (u19.1 0 312).toInt = (u10.1 0 312).toInt := congrArg Int32.toInt ((fr18.2.1 312 (by decide)).trans (show u10.1 0 312 = (u10.1 0 312) by rfl))
        refine cu_i (rn_Vk (n := 0) (As := []) (rest := []) hx hb hml hown ht hKK hFx hP hD hS hA (c_x_X1_nextSlot l dC dI cI cB cZ cJ cR tb H.size ad pr N L1 L2 u19  (show 0 ≤ (u19.1 0 312).toInt ∧ (u19.1 0 312).toInt ≤ 500 from (om_8a5975ec21 z312 q21 q22))) tw_505 tw_506 (by decide +kernel) rfl rfl ⟨show 0 + 1 ≤ 8 * n + 14 from om_2d92e09058, show 8 + (1 + 11) + 0 ≤ 28 * (8 * n + 14) from om_289622e6d2⟩ (List.range (cW ad pr N cI cR L1 L2 u19).length) (rg_map _) (nd_range _) 1 rfl rfl rfl rfl hl.1 rfl (Nat.le_of_ble_eq_true rfl) dX2_change_79 ⟨Nat.le_of_ble_eq_true rfl, Nat.le_of_ble_eq_true rfl⟩) hP hD hS hA (fun r25 u24 H locs hw23 hP hD hS => ?_)
        obtain ⟨rfl, ex23⟩ := hw23
        refine W.widen (k := 0) (n := 0) (Nat.le_refl _) (Nat.le_refl _) ?_
        refine lv_istore (lv' := [(6, .int r25), (5, .int 0), (4, .int r3), (0, .ref (ad 902)), (1, .int pa), (2, .int pb), (3, .int pc1)]) hx hb dX2_change_82 hl (by decide) rfl (fun ls hl => ?_)
        refine lv_iload_n hx hb dX2_change_84 rfl (lv_at hl 6 rfl) ?_
        refine lv_if_eq (tgt := 113) hx hb dX2_change_85 (by decide) (fun h26 => ?_) (fun h26 => ?_)
        · have z27 : pc1.toInt = (0 : Int) := eq_z rfl (show (0 : Int32).toInt = (0 : Int) by decide) h26
          refine lv_iload hx hb dX2_change_113 (lv_at hl 1 rfl) ?_
          refine lv_if_eq (tgt := 126) hx hb dX2_change_115 (by decide) (fun _ => ?_) (fun k28 => absurd k28 (by decide))
          refine lv_aload_n hx hb dX2_change_126 rfl (lv_at hl 3 rfl) ?_
          refine lv_iload hx hb dX2_change_127 (lv_at hl 2 rfl) ?_
          refine lv_bipush (v := 10) hx hb dX2_change_129 (by decide) ?_
          refine lv_iadd hx hb dX2_change_131 ?_
          refine lv_iload_n hx hb dX2_change_132 rfl (lv_at hl 4 rfl) ?_
          refine lv_iload_n hx hb dX2_change_133 rfl (lv_at hl 5 rfl) ?_
          refine lv_iload_n hx hb dX2_change_134 rfl (lv_at hl 6 rfl) ?_
          obtain ⟨n29, hn30⟩ : ∃ m, n = m + 1 := ex_z (om_5ac3184894 zn q16 i30618 pj18)
          have q31 : (u19.1 0 304).toInt = (u10.1 0 304).toInt := congrArg Int32.toInt ((fr18.2.1 304 (by decide)).trans (show u10.1 0 304 = (u10.1 0 304) by rfl))
          have q32 : (u10.1 0 321).toInt = (v.1 0 321).toInt := congrArg Int32.toInt ((fr9.2.1 321 (by decide)).trans (show v.1 0 321 = (v.1 0 321) by rfl))
          have q33 : (u19.1 0 321).toInt = (u10.1 0 321).toInt := congrArg Int32.toInt ((fr18.2.1 321 (by decide)).trans (show u10.1 0 321 = (u10.1 0 321) by rfl))
          have q34 : (u10.1 0 326).toInt = (v.1 0 326).toInt := congrArg Int32.toInt ((fr9.2.1 326 (by decide)).trans (show v.1 0 326 = (v.1 0 326) by rfl))
          have q35 : (u19.1 0 326).toInt = (u10.1 0 326).toInt := congrArg Int32.toInt ((fr18.2.1 326 (by decide)).trans (show u10.1 0 326 = (u10.1 0 326) by rfl))
          have q36 : (u19.1 0 373).toInt = (u10.1 0 373).toInt := congrArg Int32.toInt ((fr18.2.1 373 (by decide)).trans (show u10.1 0 373 = (u10.1 0 373) by rfl))
          have q37 : (u10.1 0 381).toInt = (v.1 0 381).toInt := congrArg Int32.toInt ((fr9.2.1 381 (by decide)).trans (show v.1 0 381 = (v.1 0 381) by rfl))
          have q38 : (u19.1 0 381).toInt = (u10.1 0 381).toInt := congrArg Int32.toInt ((fr18.2.1 381 (by decide)).trans (show u10.1 0 381 = (u10.1 0 381) by rfl))
          have q39 : (u10.1 0 317).toInt = (v.1 0 317).toInt := congrArg Int32.toInt ((fr9.2.1 317 (by decide)).trans (show v.1 0 317 = (v.1 0 317) by rfl))
          have q40 : (u19.1 0 317).toInt = (u10.1 0 317).toInt := congrArg Int32.toInt ((fr18.2.1 317 (by decide)).trans (show u10.1 0 317 = (u10.1 0 317) by rfl))
          refine W.sz (fun hz9 => ?_)
          refine czx_v (rx_Vk (n := 4) (As := [.int (r3 + (10 : Int32)), .int pa, .int pb, .int pc1]) (rest := []) hx hb hml hown ht hKK hFx hP hD hS hA (c_x_X2_changeBy l n29 (ihE n29 hn30) dC dI cI cB cZ cJ cR tb H.size ad pr N L1 L2 u19 (r3 + (10 : Int32)) pa pb pc1 ps (show 0 ≤ (u19.1 0 304).toInt ∧ (u19.1 0 304).toInt ≤ 1503 from (om_dd87ee851a z304 q14 q31)) (show 0 ≤ (u19.1 0 305).toInt ∧ (u19.1 0 305).toInt ≤ 1500 from (om_7897b4ccef i30518)) (show 0 ≤ (u19.1 0 306).toInt ∧ (u19.1 0 306).toInt ≤ 40 from (om_7eaf33e007 i30618)) (show 0 ≤ (u19.1 0 312).toInt ∧ (u19.1 0 312).toInt ≤ 500 from (om_8a5975ec21 z312 q21 q22)) (show 0 ≤ (u19.1 0 321).toInt ∧ (u19.1 0 321).toInt ≤ 501 from (om_4dfa815534 z321 q32 q33)) (show 0 ≤ (u19.1 0 326).toInt ∧ (u19.1 0 326).toInt ≤ 420 from (om_9591dea625 z326 q34 q35)) (show 0 ≤ (u19.1 0 373).toInt ∧ (u19.1 0 373).toInt ≤ 4000 from (om_03cd8767ac z373 q17 q36)) (show 0 ≤ (u19.1 0 381).toInt ∧ (u19.1 0 381).toInt ≤ 3008 from (om_262b63cd5c z305 z326 z381 zd q37 q38)) (show L1.length = 40 from hL1) (show L2.length = 60 from hL2) (show RP u19 from ((show FC [305, 306, 307, 314, 315, 317, 321, 326, 381] [0, 316, 318, 319, 320, 324, 325, 378, 379, 380] v u19 from (FC.tr (FC.tr (FC.rf _) (FC.up fr9 (by decide) (by decide))) (FC.up fr18 (by decide) (by decide)))).1 rp)) (show pr ps = ad 908 from hps) (show (u19.1 0 300) = ps from (Eq.trans (fr18.2.1 300 (by decide)) (Eq.trans (fr9.2.1 300 (by decide)) es300))) (show (u19.1 0 310) = ps from (Eq.trans (fr18.2.1 310 (by decide)) (Eq.trans (fr9.2.1 310 (by decide)) es310))) (show l.stackTraces = false from hst) (show (u19.1 0 381).toInt + (u19.1 0 326).toInt - 2 * (u19.1 0 305).toInt ≤ -2 from (om_ff6fdd6e46 zd q15 q34 q37 q35 q38 pt18)) (show 0 ≤ (u19.1 0 317).toInt ∧ (u19.1 0 317).toInt - 4 * (u19.1 0 305).toInt ≤ 8 from (om_f6532a91b1 zlb q15 q39 q40 pt18)) (show 40 ≤ (u19.1 0 306).toInt + (n29 : Int) from (om_d3bd070dcf zn q16 pj18 hn30))) tw_533 tw_534 (by decide +kernel) rfl rfl ⟨show (8 * n29 + 21) + 1 ≤ 8 * n + 14 from (om_a3a29a60ac hn30), show 8 + (6 + 11) + 28 * (8 * n29 + 21) ≤ 28 * (8 * n + 14) from (om_30bf71c26a hn30)⟩ (List.range (cW ad pr N cI cR L1 L2 u19).length) (rg_map _) (nd_range _) 2 rfl rfl rfl rfl hl.1 rfl (Nat.le_of_ble_eq_true rfl) dX2_change_135 ⟨Nat.le_of_ble_eq_true rfl, Nat.le_of_ble_eq_true rfl⟩) hP hD hS hA (fun u9 ce9 q9 H locs hx9 hP hD hS hc9 hv9 hf9 => ?_) (fun u42 H locs hw41 hP hD hS hz8 => ?_)
          · exact vx_out (fun x h9 => (hnt x h9).elim) hlocks hc9 hv9 hf9 (fun t9 ht9 hv8 => ⟨u9, ⟨FC.tr (FC.tr (FC.tr (FC.rf _) (FC.up fr9 (by decide) (by decide))) (FC.up fr18 (by decide) (by decide))) hx9.1, hx9.2.1, ⟨z304, z305, z306, z312, z321, z326, z373, z381, zd, zlb, zr, r3, ex1, (Or.inl ⟨z5, (Or.inl ⟨z7, r11, u10, ex9, ⟨fr9, rs9⟩, (Or.inl ⟨z13, (Or.inr (⟨u19, ex18, ⟨fr18, i30518, i30618, pj18, pt18, rs18⟩, r25, ex23, z27, (Or.inl ⟨u9, (by rw [hn30]; exact hx9.2.2), rfl, rfl⟩)⟩))⟩)⟩)⟩)⟩⟩, ⟨rfl, by rw [ht9]; exact hP, hD⟩, hS.F ht9⟩) hS.2.2 (Nat.le_refl _) (Nat.le_refl _)
          refine W.shrink (hz8.trans hz9) ?_
          obtain ⟨fr41, ex41, i30541, i30641, i32141, i32641, i38141, pd41, pt41, plb41, po41, rs41⟩ := hw41
          have i30541 : 0 ≤ (u42.1 0 305).toInt ∧ (u42.1 0 305).toInt ≤ 1500 := i30541
          have i30641 : 0 ≤ (u42.1 0 306).toInt ∧ (u42.1 0 306).toInt ≤ 40 := i30641
          have i32141 : 0 ≤ (u42.1 0 321).toInt ∧ (u42.1 0 321).toInt ≤ 501 := i32141
          have i32641 : 0 ≤ (u42.1 0 326).toInt ∧ (u42.1 0 326).toInt ≤ 420 := i32641
          have i38141 : 0 ≤ (u42.1 0 381).toInt ∧ (u42.1 0 381).toInt ≤ 3008 := i38141
          have pd41 : (u42.1 0 381).toInt + (u42.1 0 326).toInt - 2 * (u42.1 0 305).toInt + (-2) ≤ (u19.1 0 381).toInt + (u19.1 0 326).toInt - 2 * (u19.1 0 305).toInt := pd41
          have pt41 : (u19.1 0 305).toInt + 1 ≤ (u42.1 0 305).toInt := pt41
          have plb41 : (u19.1 0 317).toInt ≤ (u42.1 0 317).toInt ∧ (u42.1 0 317).toInt - 4 * (u42.1 0 305).toInt ≤ (u19.1 0 317).toInt - 4 * (u19.1 0 305).toInt + 0 := plb41
          have po41 : (u42.1 0 306).toInt = (u19.1 0 306).toInt := po41
          have rs41 : RS u19 u42 := rs41
          refine lv_iload_n hx hb dX2_change_138 rfl (lv_at hl 6 rfl) ?_
          refine lv_if_eq (tgt := 170) hx hb dX2_change_139 (by decide) (fun h44 => ?_) (fun h44 => ?_)
          · have z45 : pc1.toInt = (0 : Int) := eq_z rfl (show (0 : Int32).toInt = (0 : Int) by decide) h44
            refine lv_iload_n hx hb dX2_change_170 rfl (lv_at hl 4 rfl) ?_
            refine lv_iconst (v := -1) hx hb dX2_change_171 (by decide) ?_
            refine lv_icmp_eq (tgt := 188) hx hb dX2_change_172 (by decide) (fun h46 => ?_) (fun h46 => ?_)
            · have z47 : pa.toInt = (-1 : Int) := eq_z rfl (show ((-1) : Int32).toInt = (-1 : Int) by decide) h46
              refine lv_aload_n hx hb dX2_change_188 rfl (lv_at hl 3 rfl) ?_
              refine va_get (D := (dC, dI)) (ci := 6) (fs := oF_X2 ad pr u42) (v := .ref (ad 901)) (C := RX2) (T := TX2) (N := 5) hx hb ht itX2 hown hK hP 2 rfl rfl 1 (by decide) (ht _ tw_498) (fun _ h9 => h9) rfl dX2_change_189 ?_
              refine lv_bipush (v := 6) hx hb dX2_change_192 (by decide) ?_
              refine lv_iload_n hx hb dX2_change_194 rfl (lv_at hl 5 rfl) ?_
              refine lv_iconst (v := 0) hx hb dX2_change_195 (by decide) ?_
              refine cu_v (rn_Vk (n := 3) (As := [.int 6, .int pb, .int 0]) (rest := []) hx hb hml hown ht hKK hFx hP hD hS hA (c_x_X1_add l dC dI cI cB cZ cJ cR tb H.size ad pr N L1 L2 u42 (6 : Int32) pb (0 : Int32) ps (show 0 ≤ (u42.1 0 381).toInt ∧ (u42.1 0 381).toInt ≤ 3008 from (om_e78eec72e1 i38141)) (show pr ps = ad 908 from hps) (show (u42.1 0 310) = ps from (Eq.trans (fr41.2.1 310 (by decide)) (Eq.trans (fr18.2.1 310 (by decide)) (Eq.trans (fr9.2.1 310 (by decide)) es310)))) (show (u42.1 0 381).toInt < 3008 from (om_5eb37434c4 zd q15 q34 q37 q35 q38 pt18 i30541 i32641 pd41))) tw_499 tw_500 (by decide +kernel) rfl rfl ⟨show 0 + 1 ≤ 8 * n + 14 from om_2d92e09058, show 8 + (5 + 11) + 0 ≤ 28 * (8 * n + 14) from om_f68798533e⟩ (List.range (cW ad pr N cI cR L1 L2 u42).length) (rg_map _) (nd_range _) 1 rfl rfl rfl rfl hl.1 rfl (Nat.le_of_ble_eq_true rfl) dX2_change_196 ⟨Nat.le_of_ble_eq_true rfl, Nat.le_of_ble_eq_true rfl⟩) hP hD hS hA (fun u49 H locs hw48 hP hD hS => ?_)
              obtain ⟨fr48, ex48, i38148, pd48, rs48⟩ := hw48
              have i38148 : 0 ≤ (u49.1 0 381).toInt ∧ (u49.1 0 381).toInt ≤ 3008 := i38148
              have pd48 : (u49.1 0 381).toInt = (u42.1 0 381).toInt + 1 := pd48
              have rs48 : RS u42 u49 := rs48
              refine W.widen (k := 0) (n := 0) (Nat.le_refl _) (Nat.le_refl _) ?_
              refine lv_aload_n hx hb dX2_change_199 rfl (lv_at hl 3 rfl) ?_
              refine va_get (D := (dC, dI)) (ci := 6) (fs := oF_X2 ad pr u49) (v := .ref (ad 900)) (C := RX2) (T := TX2) (N := 5) hx hb ht itX2 hown hK hP 2 rfl rfl 0 (by decide) (ht _ tw_509) (fun _ h9 => h9) rfl dX2_change_200 ?_
              have q51 : (u49.1 0 306).toInt = (u42.1 0 306).toInt := congrArg Int32.toInt ((fr48.2.1 306 (by decide)).trans (show u42.1 0 306 = (u42.1 0 306) by rfl))
              refine cu_v (rn_Vk (n := 0) (As := []) (rest := []) hx hb hml hown ht hKK hFx hP hD hS hA (c_x_X9_close l dC dI cI cB cZ cJ cR tb H.size ad pr N L1 L2 u49  (show 0 ≤ (u49.1 0 306).toInt ∧ (u49.1 0 306).toInt ≤ 40 from (om_99e115f631 i30641 q51)) (show 1 ≤ (u49.1 0 306).toInt from (om_99c73a5d23 z306 q16 pj18 po41 q51))) tw_528 tw_529 (by decide +kernel) rfl rfl ⟨show 0 + 1 ≤ 8 * n + 14 from om_2d92e09058, show 8 + (1 + 11) + 0 ≤ 28 * (8 * n + 14) from om_289622e6d2⟩ (List.range (cW ad pr N cI cR L1 L2 u49).length) (rg_map _) (nd_range _) 0 rfl rfl rfl rfl hl.1 rfl (Nat.le_of_ble_eq_true rfl) dX2_change_203 ⟨Nat.le_of_ble_eq_true rfl, Nat.le_of_ble_eq_true rfl⟩) hP hD hS hA (fun u53 H locs hw52 hP hD hS => ?_)
              obtain ⟨fr52, ex52, i30652, pj52, rs52⟩ := hw52
              have i30652 : 0 ≤ (u53.1 0 306).toInt ∧ (u53.1 0 306).toInt ≤ 40 := i30652
              have pj52 : (u53.1 0 306).toInt = (u49.1 0 306).toInt - 1 := pj52
              have rs52 : RS u49 u53 := rs52
              refine W.widen (k := 0) (n := 0) (Nat.le_refl _) (Nat.le_refl _) ?_
              have q55 : (u49.1 0 305).toInt = (u42.1 0 305).toInt := congrArg Int32.toInt ((fr48.2.1 305 (by decide)).trans (show u42.1 0 305 = (u42.1 0 305) by rfl))
              have q56 : (u53.1 0 305).toInt = (u49.1 0 305).toInt := congrArg Int32.toInt ((fr52.2.1 305 (by decide)).trans (show u49.1 0 305 = (u49.1 0 305) by rfl))
              have q57 : (u49.1 0 321).toInt = (u42.1 0 321).toInt := congrArg Int32.toInt ((fr48.2.1 321 (by decide)).trans (show u42.1 0 321 = (u42.1 0 321) by rfl))
              have q58 : (u53.1 0 321).toInt = (u49.1 0 321).toInt := congrArg Int32.toInt ((fr52.2.1 321 (by decide)).trans (show u49.1 0 321 = (u49.1 0 321) by rfl))
              have q59 : (u49.1 0 326).toInt = (u42.1 0 326).toInt := congrArg Int32.toInt ((fr48.2.1 326 (by decide)).trans (show u42.1 0 326 = (u42.1 0 326) by rfl))
              have q60 : (u53.1 0 326).toInt = (u49.1 0 326).toInt := congrArg Int32.toInt ((fr52.2.1 326 (by decide)).trans (show u49.1 0 326 = (u49.1 0 326) by rfl))
              have q61 : (u53.1 0 381).toInt = (u49.1 0 381).toInt := congrArg Int32.toInt ((fr52.2.1 381 (by decide)).trans (show u49.1 0 381 = (u49.1 0 381) by rfl))
              have q62 : (u49.1 0 317).toInt = (u42.1 0 317).toInt := congrArg Int32.toInt ((fr48.2.1 317 (by decide)).trans (show u42.1 0 317 = (u42.1 0 317) by rfl))
              have q63 : (u53.1 0 317).toInt = (u49.1 0 317).toInt := congrArg Int32.toInt ((fr52.2.1 317 (by decide)).trans (show u49.1 0 317 = (u49.1 0 317) by rfl))
              refine W.sz (fun hz => ?_)
              refine vx_ret ?_
              refine W.widen (k := 1) (n := 6) (Nat.le_of_ble_eq_true rfl) (Nat.le_of_ble_eq_true rfl) ?_
              exact W.vret hx hb hr (fun t ht9 hW => ⟨⟨u53, rfl, ⟨(FC.tr (FC.tr (FC.tr (FC.tr (FC.tr (FC.rf _) (FC.up fr9 (by decide) (by decide))) (FC.up fr18 (by decide) (by decide))) (FC.up fr41 (by decide) (by decide))) (FC.up fr48 (by decide) (by decide))) (FC.up fr52 (by decide) (by decide))), ⟨z304, z305, z306, z312, z321, z326, z373, z381, zd, zlb, zr, r3, ex1, (Or.inl ⟨z5, (Or.inl ⟨z7, r11, u10, ex9, ⟨fr9, rs9⟩, (Or.inl ⟨z13, (Or.inr (⟨u19, ex18, ⟨fr18, i30518, i30618, pj18, pt18, rs18⟩, r25, ex23, z27, (Or.inr (⟨u42, (by rw [hn30]; exact ex41), ⟨fr41, i30541, i30641, i32141, i32641, i38141, pd41, pt41, plb41, po41, rs41⟩, z45, (Or.inl ⟨z47, u49, ex48, ⟨fr48, i38148, pd48, rs48⟩, u53, ex52, ⟨fr52, i30652, pj52, rs52⟩, rfl, rfl⟩)⟩))⟩))⟩)⟩)⟩)⟩, (show 0 ≤ (u53.1 0 305).toInt ∧ (u53.1 0 305).toInt ≤ 1500 from (om_8637b84507 z326 z381 zd q15 pt18 i30541 pt41 q55 q56)), (show 0 ≤ (u53.1 0 306).toInt ∧ (u53.1 0 306).toInt ≤ 40 from (om_7eaf33e007 i30652)), (show 0 ≤ (u53.1 0 321).toInt ∧ (u53.1 0 321).toInt ≤ 501 from (om_4dfa815534 i32141 q57 q58)), (show 0 ≤ (u53.1 0 326).toInt ∧ (u53.1 0 326).toInt ≤ 420 from (om_9591dea625 i32641 q59 q60)), (show 0 ≤ (u53.1 0 381).toInt ∧ (u53.1 0 381).toInt ≤ 3008 from (om_35ce18c85b zd q15 q34 q37 q35 q38 pt18 i30541 i32641 i38141 pd41 pd48 q61)), (show (u53.1 0 381).toInt + (u53.1 0 326).toInt - 2 * (u53.1 0 305).toInt + (-1 - pc1.toInt) ≤ (v.1 0 381).toInt + (v.1 0 326).toInt - 2 * (v.1 0 305).toInt from (om_1a9a528233 zr q15 q34 q37 q35 q38 pt18 pd41 q55 q59 pd48 q56 q60 q61)), (show (v.1 0 305).toInt + 2 ≤ (u53.1 0 305).toInt from (om_ff587b6fdf q15 pt18 pt41 q55 q56)), (show (v.1 0 317).toInt ≤ (u53.1 0 317).toInt ∧ (u53.1 0 317).toInt - 4 * (u53.1 0 305).toInt ≤ (v.1 0 317).toInt - 4 * (v.1 0 305).toInt + 0 from (om_b43afd939b q15 q39 q40 pt18 plb41 q55 q62 q56 q63)), (show (u53.1 0 306).toInt = (v.1 0 306).toInt from (om_4c2747e16f q16 pj18 po41 q51 pj52)), (RS.tr (RS.tr (RS.tr (RS.tr (RS.tr RS.rf rs9) rs18) rs41) rs48) rs52)⟩, ⟨by rw [ht9]; exact hP, hD⟩, by rw [ht9]; exact hz⟩, hS.F ht9⟩) hS.2.2 dX2_change_206
            · have z64 : pa.toInt ≠ (-1 : Int) := ne_z rfl (show ((-1) : Int32).toInt = (-1 : Int) by decide) h46
              refine lv_aload_n hx hb dX2_change_175 rfl (lv_at hl 3 rfl) ?_
              refine va_get (D := (dC, dI)) (ci := 6) (fs := oF_X2 ad pr u42) (v := .ref (ad 901)) (C := RX2) (T := TX2) (N := 5) hx hb ht itX2 hown hK hP 2 rfl rfl 1 (by decide) (ht _ tw_498) (fun _ h9 => h9) rfl dX2_change_176 ?_
              refine lv_iconst (v := 4) hx hb dX2_change_179 (by decide) ?_
              refine lv_iload_n hx hb dX2_change_180 rfl (lv_at hl 4 rfl) ?_
              refine lv_iconst (v := 0) hx hb dX2_change_181 (by decide) ?_
              refine cu_v (rn_Vk (n := 3) (As := [.int 4, .int pa, .int 0]) (rest := []) hx hb hml hown ht hKK hFx hP hD hS hA (c_x_X1_add l dC dI cI cB cZ cJ cR tb H.size ad pr N L1 L2 u42 (4 : Int32) pa (0 : Int32) ps (show 0 ≤ (u42.1 0 381).toInt ∧ (u42.1 0 381).toInt ≤ 3008 from (om_e78eec72e1 i38141)) (show pr ps = ad 908 from hps) (show (u42.1 0 310) = ps from (Eq.trans (fr41.2.1 310 (by decide)) (Eq.trans (fr18.2.1 310 (by decide)) (Eq.trans (fr9.2.1 310 (by decide)) es310)))) (show (u42.1 0 381).toInt < 3008 from (om_5eb37434c4 zd q15 q34 q37 q35 q38 pt18 i30541 i32641 pd41))) tw_499 tw_500 (by decide +kernel) rfl rfl ⟨show 0 + 1 ≤ 8 * n + 14 from om_2d92e09058, show 8 + (5 + 11) + 0 ≤ 28 * (8 * n + 14) from om_f68798533e⟩ (List.range (cW ad pr N cI cR L1 L2 u42).length) (rg_map _) (nd_range _) 1 rfl rfl rfl rfl hl.1 rfl (Nat.le_of_ble_eq_true rfl) dX2_change_182 ⟨Nat.le_of_ble_eq_true rfl, Nat.le_of_ble_eq_true rfl⟩) hP hD hS hA (fun u66 H locs hw65 hP hD hS => ?_)
              obtain ⟨fr65, ex65, i38165, pd65, rs65⟩ := hw65
              have i38165 : 0 ≤ (u66.1 0 381).toInt ∧ (u66.1 0 381).toInt ≤ 3008 := i38165
              have pd65 : (u66.1 0 381).toInt = (u42.1 0 381).toInt + 1 := pd65
              have rs65 : RS u42 u66 := rs65
              refine W.widen (k := 0) (n := 0) (Nat.le_refl _) (Nat.le_refl _) ?_
              refine lv_goto (tgt := 199) hx hb dX2_change_185 (by decide) ?_
              refine lv_aload_n hx hb dX2_change_199 rfl (lv_at hl 3 rfl) ?_
              refine va_get (D := (dC, dI)) (ci := 6) (fs := oF_X2 ad pr u66) (v := .ref (ad 900)) (C := RX2) (T := TX2) (N := 5) hx hb ht itX2 hown hK hP 2 rfl rfl 0 (by decide) (ht _ tw_509) (fun _ h9 => h9) rfl dX2_change_200 ?_
              have q68 : (u66.1 0 306).toInt = (u42.1 0 306).toInt := congrArg Int32.toInt ((fr65.2.1 306 (by decide)).trans (show u42.1 0 306 = (u42.1 0 306) by rfl))
              refine cu_v (rn_Vk (n := 0) (As := []) (rest := []) hx hb hml hown ht hKK hFx hP hD hS hA (c_x_X9_close l dC dI cI cB cZ cJ cR tb H.size ad pr N L1 L2 u66  (show 0 ≤ (u66.1 0 306).toInt ∧ (u66.1 0 306).toInt ≤ 40 from (om_99e115f631 i30641 q68)) (show 1 ≤ (u66.1 0 306).toInt from (om_99c73a5d23 z306 q16 pj18 po41 q68))) tw_528 tw_529 (by decide +kernel) rfl rfl ⟨show 0 + 1 ≤ 8 * n + 14 from om_2d92e09058, show 8 + (1 + 11) + 0 ≤ 28 * (8 * n + 14) from om_289622e6d2⟩ (List.range (cW ad pr N cI cR L1 L2 u66).length) (rg_map _) (nd_range _) 0 rfl rfl rfl rfl hl.1 rfl (Nat.le_of_ble_eq_true rfl) dX2_change_203 ⟨Nat.le_of_ble_eq_true rfl, Nat.le_of_ble_eq_true rfl⟩) hP hD hS hA (fun u70 H locs hw69 hP hD hS => ?_)
              obtain ⟨fr69, ex69, i30669, pj69, rs69⟩ := hw69
              have i30669 : 0 ≤ (u70.1 0 306).toInt ∧ (u70.1 0 306).toInt ≤ 40 := i30669
              have pj69 : (u70.1 0 306).toInt = (u66.1 0 306).toInt - 1 := pj69
              have rs69 : RS u66 u70 := rs69
              refine W.widen (k := 0) (n := 0) (Nat.le_refl _) (Nat.le_refl _) ?_
              have q72 : (u66.1 0 305).toInt = (u42.1 0 305).toInt := congrArg Int32.toInt ((fr65.2.1 305 (by decide)).trans (show u42.1 0 305 = (u42.1 0 305) by rfl))
              have q73 : (u70.1 0 305).toInt = (u66.1 0 305).toInt := congrArg Int32.toInt ((fr69.2.1 305 (by decide)).trans (show u66.1 0 305 = (u66.1 0 305) by rfl))
              have q74 : (u66.1 0 321).toInt = (u42.1 0 321).toInt := congrArg Int32.toInt ((fr65.2.1 321 (by decide)).trans (show u42.1 0 321 = (u42.1 0 321) by rfl))
              have q75 : (u70.1 0 321).toInt = (u66.1 0 321).toInt := congrArg Int32.toInt ((fr69.2.1 321 (by decide)).trans (show u66.1 0 321 = (u66.1 0 321) by rfl))
              have q76 : (u66.1 0 326).toInt = (u42.1 0 326).toInt := congrArg Int32.toInt ((fr65.2.1 326 (by decide)).trans (show u42.1 0 326 = (u42.1 0 326) by rfl))
              have q77 : (u70.1 0 326).toInt = (u66.1 0 326).toInt := congrArg Int32.toInt ((fr69.2.1 326 (by decide)).trans (show u66.1 0 326 = (u66.1 0 326) by rfl))
              have q78 : (u70.1 0 381).toInt = (u66.1 0 381).toInt := congrArg Int32.toInt ((fr69.2.1 381 (by decide)).trans (show u66.1 0 381 = (u66.1 0 381) by rfl))
              have q79 : (u66.1 0 317).toInt = (u42.1 0 317).toInt := congrArg Int32.toInt ((fr65.2.1 317 (by decide)).trans (show u42.1 0 317 = (u42.1 0 317) by rfl))
              have q80 : (u70.1 0 317).toInt = (u66.1 0 317).toInt := congrArg Int32.toInt ((fr69.2.1 317 (by decide)).trans (show u66.1 0 317 = (u66.1 0 317) by rfl))
              refine W.sz (fun hz => ?_)
              refine vx_ret ?_
              refine W.widen (k := 1) (n := 6) (Nat.le_of_ble_eq_true rfl) (Nat.le_of_ble_eq_true rfl) ?_
              exact W.vret hx hb hr (fun t ht9 hW => ⟨⟨u70, rfl, ⟨(FC.tr (FC.tr (FC.tr (FC.tr (FC.tr (FC.rf _) (FC.up fr9 (by decide) (by decide))) (FC.up fr18 (by decide) (by decide))) (FC.up fr41 (by decide) (by decide))) (FC.up fr65 (by decide) (by decide))) (FC.up fr69 (by decide) (by decide))), ⟨z304, z305, z306, z312, z321, z326, z373, z381, zd, zlb, zr, r3, ex1, (Or.inl ⟨z5, (Or.inl ⟨z7, r11, u10, ex9, ⟨fr9, rs9⟩, (Or.inl ⟨z13, (Or.inr (⟨u19, ex18, ⟨fr18, i30518, i30618, pj18, pt18, rs18⟩, r25, ex23, z27, (Or.inr (⟨u42, (by rw [hn30]; exact ex41), ⟨fr41, i30541, i30641, i32141, i32641, i38141, pd41, pt41, plb41, po41, rs41⟩, z45, (Or.inr (⟨z64, u66, ex65, ⟨fr65, i38165, pd65, rs65⟩, u70, ex69, ⟨fr69, i30669, pj69, rs69⟩, rfl, rfl⟩))⟩))⟩))⟩)⟩)⟩)⟩, (show 0 ≤ (u70.1 0 305).toInt ∧ (u70.1 0 305).toInt ≤ 1500 from (om_8637b84507 z326 z381 zd q15 pt18 i30541 pt41 q72 q73)), (show 0 ≤ (u70.1 0 306).toInt ∧ (u70.1 0 306).toInt ≤ 40 from (om_7eaf33e007 i30669)), (show 0 ≤ (u70.1 0 321).toInt ∧ (u70.1 0 321).toInt ≤ 501 from (om_4dfa815534 i32141 q74 q75)), (show 0 ≤ (u70.1 0 326).toInt ∧ (u70.1 0 326).toInt ≤ 420 from (om_9591dea625 i32641 q76 q77)), (show 0 ≤ (u70.1 0 381).toInt ∧ (u70.1 0 381).toInt ≤ 3008 from (om_35ce18c85b zd q15 q34 q37 q35 q38 pt18 i30541 i32641 i38141 pd41 pd65 q78)), (show (u70.1 0 381).toInt + (u70.1 0 326).toInt - 2 * (u70.1 0 305).toInt + (-1 - pc1.toInt) ≤ (v.1 0 381).toInt + (v.1 0 326).toInt - 2 * (v.1 0 305).toInt from (om_1a9a528233 zr q15 q34 q37 q35 q38 pt18 pd41 q72 q76 pd65 q73 q77 q78)), (show (v.1 0 305).toInt + 2 ≤ (u70.1 0 305).toInt from (om_ff587b6fdf q15 pt18 pt41 q72 q73)), (show (v.1 0 317).toInt ≤ (u70.1 0 317).toInt ∧ (u70.1 0 317).toInt - 4 * (u70.1 0 305).toInt ≤ (v.1 0 317).toInt - 4 * (v.1 0 305).toInt + 0 from (om_b43afd939b q15 q39 q40 pt18 plb41 q72 q79 q73 q80)), (show (u70.1 0 306).toInt = (v.1 0 306).toInt from (om_4c2747e16f q16 pj18 po41 q68 pj69)), (RS.tr (RS.tr (RS.tr (RS.tr (RS.tr RS.rf rs9) rs18) rs41) rs65) rs69)⟩, ⟨by rw [ht9]; exact hP, hD⟩, by rw [ht9]; exact hz⟩, hS.F ht9⟩) hS.2.2 dX2_change_206
          · have z81 : pc1.toInt ≠ (0 : Int) := ne_z rfl (show (0 : Int32).toInt = (0 : Int) by decide) h44
            exact False.elim (om_b66186cd65 zr z7 z81)
        · have z82 : pc1.toInt ≠ (0 : Int) := ne_z rfl (show (0 : Int32).toInt = (0 : Int) by decide) h26
          exact False.elim (om_b66186cd65 zr z7 z82)
      · have z83 : r11.toInt = (0 : Int) := eq_z rfl (show (0 : Int32).toInt = (0 : Int) by decide) h12
        refine lv_aload_n hx hb dX2_change_53 rfl (lv_at hl 2 rfl) ?_
        refine va_get (D := (dC, dI)) (ci := 6) (fs := oF_X2 ad pr u10) (v := .ref (ad 900)) (C := RX2) (T := TX2) (N := 5) hx hb ht itX2 hown hK hP 2 rfl rfl 0 (by decide) (ht _ tw_509) (fun _ h9 => h9) rfl dX2_change_54 ?_
        refine lv_iconst (v := 5) hx hb dX2_change_57 (by decide) ?_
        refine lv_aload_n hx hb dX2_change_58 rfl (lv_at hl 2 rfl) ?_
        refine va_get (D := (dC, dI)) (ci := 6) (fs := oF_X2 ad pr u10) (v := .ref (ad 900)) (C := RX2) (T := TX2) (N := 5) hx hb ht itX2 hown hK hP 2 rfl rfl 0 (by decide) (ht _ tw_509) (fun _ h9 => h9) rfl dX2_change_59 ?_
        have q84 : (u10.1 0 304).toInt = (v.1 0 304).toInt := congrArg Int32.toInt ((fr9.2.1 304 (by decide)).trans (show v.1 0 304 = (v.1 0 304) by rfl))
        have q85 : (u10.1 0 305).toInt = (v.1 0 305).toInt := congrArg Int32.toInt ((fr9.2.1 305 (by decide)).trans (show v.1 0 305 = (v.1 0 305) by rfl))
        have q86 : (u10.1 0 373).toInt = (v.1 0 373).toInt := congrArg Int32.toInt ((fr9.2.1 373 (by decide)).trans (show v.1 0 373 = (v.1 0 373) by rfl))
        refine cu_i (rn_Vk (n := 0) (As := []) (rest := [.int 5, .ref (ad 900)]) hx hb hml hown ht hKK hFx hP hD hS hA (c_x_X9_place l dC dI cI cB cZ cJ cR tb H.size ad pr N L1 L2 u10 ps (show 0 ≤ (u10.1 0 304).toInt ∧ (u10.1 0 304).toInt ≤ 1503 from (om_73002589c1 z304 q84)) (show 0 ≤ (u10.1 0 305).toInt ∧ (u10.1 0 305).toInt ≤ 1500 from (om_02933c00b0 z305 z326 z381 zd q85)) (show 0 ≤ (u10.1 0 373).toInt ∧ (u10.1 0 373).toInt ≤ 4000 from (om_9084c127ed z373 q86)) (show pr ps = ad 908 from hps) (show (u10.1 0 300) = ps from (Eq.trans (fr9.2.1 300 (by decide)) es300))) tw_457 tw_510 (by decide +kernel) rfl rfl ⟨show 0 + 1 ≤ 8 * n + 14 from om_2d92e09058, show 8 + (1 + 11) + 0 ≤ 28 * (8 * n + 14) from om_289622e6d2⟩ (List.range (cW ad pr N cI cR L1 L2 u10).length) (rg_map _) (nd_range _) 0 rfl rfl rfl rfl hl.1 rfl (Nat.le_of_ble_eq_true rfl) dX2_change_62 ⟨Nat.le_of_ble_eq_true rfl, Nat.le_of_ble_eq_true rfl⟩) hP hD hS hA (fun r89 u88 H locs hw87 hP hD hS => ?_)
        obtain ⟨rfl, ex87⟩ := hw87
        refine W.widen (k := 0) (n := 0) (Nat.le_refl _) (Nat.le_refl _) ?_
        refine W.sz (fun hz9 => ?_)
        refine czx_v (rx_Vk (n := 2) (As := [.int 5, .int r89]) (rest := []) hx hb hml hown ht hKK hFx hP hD hS hA (c_x_X9_refuse l dC dI cI cB cZ cJ cR tb H.size ad pr N L1 L2 u10 (5 : Int32) r89 (show l.stackTraces = false from hst) (show (5 : Int) ≠ 0 from om_5e02973d50)) tw_459 tw_511 (by decide +kernel) rfl rfl ⟨show 6 + 1 ≤ 8 * n + 14 from om_03d1dde555, show 8 + (3 + 11) + 82 ≤ 28 * (8 * n + 14) from om_0d25788d50⟩ (List.range (cW ad pr N cI cR L1 L2 u10).length) (rg_map _) (nd_range _) 0 rfl rfl rfl rfl hl.1 rfl (Nat.le_of_ble_eq_true rfl) dX2_change_65 ⟨Nat.le_of_ble_eq_true rfl, Nat.le_of_ble_eq_true rfl⟩) hP hD hS hA (fun u9 ce9 q9 H locs hx9 hP hD hS hc9 hv9 hf9 => ?_) (fun u91 H locs hw90 hP hD hS hz8 => ?_)
        · exact vx_out (fun x h9 => (hnt x h9).elim) hlocks hc9 hv9 hf9 (fun t9 ht9 hv8 => ⟨u9, ⟨FC.tr (FC.tr (FC.rf _) (FC.up fr9 (by decide) (by decide))) hx9.1, hx9.2.1, ⟨z304, z305, z306, z312, z321, z326, z373, z381, zd, zlb, zr, r3, ex1, (Or.inl ⟨z5, (Or.inl ⟨z7, r11, u10, ex9, ⟨fr9, rs9⟩, (Or.inr (⟨z83, r89, ex87, u9, hx9.2.2, rfl, rfl⟩))⟩)⟩)⟩⟩, ⟨rfl, by rw [ht9]; exact hP, hD⟩, hS.F ht9⟩) hS.2.2 (Nat.le_refl _) (Nat.le_refl _)
        refine W.shrink (hz8.trans hz9) ?_
        obtain ⟨fr90, ex90, no90, rs90⟩ := hw90
        have no90 : False := no90
        have rs90 : RS u10 u91 := rs90
        exact no90.elim
    · have z93 : pc1.toInt ≠ (0 : Int) := ne_z rfl (show (0 : Int32).toInt = (0 : Int) by decide) h6
      refine lv_iconst (v := 1) hx hb dX2_change_31 (by decide) ?_
      refine lv_goto (tgt := 36) hx hb dX2_change_32 (by decide) ?_
      refine lv_iload hx hb dX2_change_36 (lv_at hl 0 rfl) ?_
      refine lv_if_eq (tgt := 45) hx hb dX2_change_38 (by decide) (fun _ => ?_) (fun k94 => absurd k94 (by decide))
      refine lv_iconst (v := 1) hx hb dX2_change_45 (by decide) ?_
      refine lv_iadd hx hb dX2_change_46 ?_
      refine tp_i (y := 2) (by decide) ?_
      refine cu_i (rn_Vk (n := 1) (As := [.int 2]) (rest := []) hx hb hml hown ht hKK hFx hP hD hS hA (c_x_X1_wantSlots l dC dI cI cB cZ cJ cR tb H.size ad pr N L1 L2 v (2 : Int32) (show 0 ≤ (v.1 0 312).toInt ∧ (v.1 0 312).toInt ≤ 500 from (om_9861e69da5 z312))) tw_507 tw_508 (by decide +kernel) rfl rfl ⟨show 1 + 1 ≤ 8 * n + 14 from om_c88d106276, show 8 + (3 + 11) + 15 ≤ 28 * (8 * n + 14) from om_ebf30c1e5c⟩ (List.range (cW ad pr N cI cR L1 L2 v).length) (rg_map _) (nd_range _) 1 rfl rfl rfl rfl hl.1 rfl (Nat.le_of_ble_eq_true rfl) dX2_change_47 ⟨Nat.le_of_ble_eq_true rfl, Nat.le_of_ble_eq_true rfl⟩) hP hD hS hA (fun r97 u96 H locs hw95 hP hD hS => ?_)
      obtain ⟨fr95, ex95, rs95, bz95⟩ := hw95
      refine W.widen (k := 0) (n := 0) (Nat.le_refl _) (Nat.le_refl _) ?_
      refine lv_if_ne (tgt := 68) hx hb dX2_change_50 (by decide) (fun h98 => ?_) (fun h98 => ?_)
      · have z99 : r97.toInt ≠ (0 : Int) := ne_z rfl (show (0 : Int32).toInt = (0 : Int) by decide) h98
        refine lv_aload_n hx hb dX2_change_68 rfl (lv_at hl 2 rfl) ?_
        refine va_get (D := (dC, dI)) (ci := 6) (fs := oF_X2 ad pr u96) (v := .ref (ad 900)) (C := RX2) (T := TX2) (N := 5) hx hb ht itX2 hown hK hP 2 rfl rfl 0 (by decide) (ht _ tw_509) (fun _ h9 => h9) rfl dX2_change_69 ?_
        have q100 : (u96.1 0 304).toInt = (v.1 0 304).toInt := congrArg Int32.toInt ((fr95.2.1 304 (by decide)).trans (show v.1 0 304 = (v.1 0 304) by rfl))
        have q101 : (u96.1 0 305).toInt = (v.1 0 305).toInt := congrArg Int32.toInt ((fr95.2.1 305 (by decide)).trans (show v.1 0 305 = (v.1 0 305) by rfl))
        have q102 : (u96.1 0 306).toInt = (v.1 0 306).toInt := congrArg Int32.toInt ((fr95.2.1 306 (by decide)).trans (show v.1 0 306 = (v.1 0 306) by rfl))
        have q103 : (u96.1 0 373).toInt = (v.1 0 373).toInt := congrArg Int32.toInt ((fr95.2.1 373 (by decide)).trans (show v.1 0 373 = (v.1 0 373) by rfl))
        refine W.sz (fun hz9 => ?_)
        refine czx_v (rx_Vk (n := 0) (As := []) (rest := []) hx hb hml hown ht hKK hFx hP hD hS hA (c_x_X9_open l dC dI cI cB cZ cJ cR tb H.size ad pr N L1 L2 u96 ps (show 0 ≤ (u96.1 0 304).toInt ∧ (u96.1 0 304).toInt ≤ 1503 from (om_73002589c1 z304 q100)) (show 0 ≤ (u96.1 0 305).toInt ∧ (u96.1 0 305).toInt ≤ 1500 from (om_02933c00b0 z305 z326 z381 zd q101)) (show 0 ≤ (u96.1 0 306).toInt ∧ (u96.1 0 306).toInt ≤ 40 from (om_99e115f631 z306 q102)) (show 0 ≤ (u96.1 0 373).toInt ∧ (u96.1 0 373).toInt ≤ 4000 from (om_9084c127ed z373 q103)) (show pr ps = ad 908 from hps) (show (u96.1 0 300) = ps from (Eq.trans (fr95.2.1 300 (by decide)) es300)) (show l.stackTraces = false from hst)) tw_524 tw_525 (by decide +kernel) rfl rfl ⟨show 7 + 1 ≤ 8 * n + 14 from om_46126d3ba0, show 8 + (1 + 11) + 104 ≤ 28 * (8 * n + 14) from om_6017b980b8⟩ (List.range (cW ad pr N cI cR L1 L2 u96).length) (rg_map _) (nd_range _) 0 rfl rfl rfl rfl hl.1 rfl (Nat.le_of_ble_eq_true rfl) dX2_change_72 ⟨Nat.le_of_ble_eq_true rfl, Nat.le_of_ble_eq_true rfl⟩) hP hD hS hA (fun u9 ce9 q9 H locs hx9 hP hD hS hc9 hv9 hf9 => ?_) (fun u105 H locs hw104 hP hD hS hz8 => ?_)
        · exact vx_out (fun x h9 => (hnt x h9).elim) hlocks hc9 hv9 hf9 (fun t9 ht9 hv8 => ⟨u9, ⟨FC.tr (FC.tr (FC.rf _) (FC.up fr95 (by decide) (by decide))) hx9.1, hx9.2.1, ⟨z304, z305, z306, z312, z321, z326, z373, z381, zd, zlb, zr, r3, ex1, (Or.inl ⟨z5, (Or.inr (⟨z93, r97, u96, ex95, ⟨fr95, rs95⟩, (Or.inl ⟨z99, (Or.inl ⟨u9, hx9.2.2, rfl, rfl⟩)⟩)⟩))⟩)⟩⟩, ⟨rfl, by rw [ht9]; exact hP, hD⟩, hS.F ht9⟩) hS.2.2 (Nat.le_refl _) (Nat.le_refl _)
        refine W.shrink (hz8.trans hz9) ?_
        obtain ⟨fr104, ex104, i305104, i306104, pj104, pt104, rs104⟩ := hw104
        have i305104 : 0 ≤ (u105.1 0 305).toInt ∧ (u105.1 0 305).toInt ≤ 1500 := i305104
        have i306104 : 0 ≤ (u105.1 0 306).toInt ∧ (u105.1 0 306).toInt ≤ 40 := i306104
        have pj104 : (u105.1 0 306).toInt = (u96.1 0 306).toInt + 1 := pj104
        have pt104 : (u105.1 0 305).toInt = (u96.1 0 305).toInt + 1 := pt104
        have rs104 : RS u96 u105 := rs104
        refine lv_aload_n hx hb dX2_change_75 rfl (lv_at hl 2 rfl) ?_
        refine va_get (D := (dC, dI)) (ci := 6) (fs := oF_X2 ad pr u105) (v := .ref (ad 901)) (C := RX2) (T := TX2) (N := 5) hx hb ht itX2 hown hK hP 2 rfl rfl 1 (by decide) (ht _ tw_498) (fun _ h9 => h9) rfl dX2_change_76 ?_
        have q107 : (u96.1 0 312).toInt = (v.1 0 312).toInt := congrArg Int32.toInt ((fr95.2.1 312 (by decide)).trans (show v.1 0 312 = (v.1 0 312) by rfl))
        have q108 : (u105.1 0 312).toInt = (u96.1 0 312).toInt := congrArg Int32.toInt ((fr104.2.1 312 (by decide)).trans (show u96.1 0 312 = (u96.1 0 312) by rfl))
        refine cu_i (rn_Vk (n := 0) (As := []) (rest := []) hx hb hml hown ht hKK hFx hP hD hS hA (c_x_X1_nextSlot l dC dI cI cB cZ cJ cR tb H.size ad pr N L1 L2 u105  (show 0 ≤ (u105.1 0 312).toInt ∧ (u105.1 0 312).toInt ≤ 500 from (om_8a5975ec21 z312 q107 q108))) tw_505 tw_506 (by decide +kernel) rfl rfl ⟨show 0 + 1 ≤ 8 * n + 14 from om_2d92e09058, show 8 + (1 + 11) + 0 ≤ 28 * (8 * n + 14) from om_289622e6d2⟩ (List.range (cW ad pr N cI cR L1 L2 u105).length) (rg_map _) (nd_range _) 1 rfl rfl rfl rfl hl.1 rfl (Nat.le_of_ble_eq_true rfl) dX2_change_79 ⟨Nat.le_of_ble_eq_true rfl, Nat.le_of_ble_eq_true rfl⟩) hP hD hS hA (fun r111 u110 H locs hw109 hP hD hS => ?_)
        obtain ⟨rfl, ex109⟩ := hw109
        refine W.widen (k := 0) (n := 0) (Nat.le_refl _) (Nat.le_refl _) ?_
        refine lv_istore (lv' := [(6, .int r111), (5, .int 0), (4, .int r3), (0, .ref (ad 902)), (1, .int pa), (2, .int pb), (3, .int pc1)]) hx hb dX2_change_82 hl (by decide) rfl (fun ls hl => ?_)
        refine lv_iload_n hx hb dX2_change_84 rfl (lv_at hl 6 rfl) ?_
        refine lv_if_eq (tgt := 113) hx hb dX2_change_85 (by decide) (fun h112 => ?_) (fun h112 => ?_)
        · have z113 : pc1.toInt = (0 : Int) := eq_z rfl (show (0 : Int32).toInt = (0 : Int) by decide) h112
          exact False.elim (om_836858dbd1 zr z93 z113)
        · have z114 : pc1.toInt ≠ (0 : Int) := ne_z rfl (show (0 : Int32).toInt = (0 : Int) by decide) h112
          refine lv_aload_n hx hb dX2_change_88 rfl (lv_at hl 3 rfl) ?_
          refine va_get (D := (dC, dI)) (ci := 6) (fs := oF_X2 ad pr u105) (v := .ref (ad 901)) (C := RX2) (T := TX2) (N := 5) hx hb ht itX2 hown hK hP 2 rfl rfl 1 (by decide) (ht _ tw_498) (fun _ h9 => h9) rfl dX2_change_89 ?_
          refine lv_bipush (v := 9) hx hb dX2_change_92 (by decide) ?_
          refine lv_iload_n hx hb dX2_change_94 rfl (lv_at hl 5 rfl) ?_
          refine lv_iload hx hb dX2_change_95 (lv_at hl 0 rfl) ?_
          have q115 : (u96.1 0 381).toInt = (v.1 0 381).toInt := congrArg Int32.toInt ((fr95.2.1 381 (by decide)).trans (show v.1 0 381 = (v.1 0 381) by rfl))
          have q116 : (u105.1 0 381).toInt = (u96.1 0 381).toInt := congrArg Int32.toInt ((fr104.2.1 381 (by decide)).trans (show u96.1 0 381 = (u96.1 0 381) by rfl))
          refine cu_v (rn_Vk (n := 3) (As := [.int 9, .int pb, .int r111]) (rest := []) hx hb hml hown ht hKK hFx hP hD hS hA (c_x_X1_add l dC dI cI cB cZ cJ cR tb H.size ad pr N L1 L2 u105 (9 : Int32) pb r111 ps (show 0 ≤ (u105.1 0 381).toInt ∧ (u105.1 0 381).toInt ≤ 3008 from (om_262b63cd5c z305 z326 z381 zd q115 q116)) (show pr ps = ad 908 from hps) (show (u105.1 0 310) = ps from (Eq.trans (fr104.2.1 310 (by decide)) (Eq.trans (fr95.2.1 310 (by decide)) es310))) (show (u105.1 0 381).toInt < 3008 from (om_0e395a39f1 z305 z326 zd q115 q116))) tw_499 tw_500 (by decide +kernel) rfl rfl ⟨show 0 + 1 ≤ 8 * n + 14 from om_2d92e09058, show 8 + (5 + 11) + 0 ≤ 28 * (8 * n + 14) from om_f68798533e⟩ (List.range (cW ad pr N cI cR L1 L2 u105).length) (rg_map _) (nd_range _) 1 rfl rfl rfl rfl hl.1 rfl (Nat.le_of_ble_eq_true rfl) dX2_change_97 ⟨Nat.le_of_ble_eq_true rfl, Nat.le_of_ble_eq_true rfl⟩) hP hD hS hA (fun u118 H locs hw117 hP hD hS => ?_)
          obtain ⟨fr117, ex117, i381117, pd117, rs117⟩ := hw117
          have i381117 : 0 ≤ (u118.1 0 381).toInt ∧ (u118.1 0 381).toInt ≤ 3008 := i381117
          have pd117 : (u118.1 0 381).toInt = (u105.1 0 381).toInt + 1 := pd117
          have rs117 : RS u105 u118 := rs117
          refine W.widen (k := 0) (n := 0) (Nat.le_refl _) (Nat.le_refl _) ?_
          refine lv_aload_n hx hb dX2_change_100 rfl (lv_at hl 3 rfl) ?_
          refine va_get (D := (dC, dI)) (ci := 6) (fs := oF_X2 ad pr u118) (v := .ref (ad 901)) (C := RX2) (T := TX2) (N := 5) hx hb ht itX2 hown hK hP 2 rfl rfl 1 (by decide) (ht _ tw_498) (fun _ h9 => h9) rfl dX2_change_101 ?_
          refine lv_dup hx hb dX2_change_104 rfl ?_
          refine va_getN (D := (dC, dI)) (ci := 5) (fs := oF_X1 ad pr u118) (v := .int (u118.1 0 314)) (C := RX1) (T := TX1) (N := 12) hx hb ht itX1 hown hK hP 1 rfl rfl 4 (by decide) (hKK.fl2 6 rfl) (fun _ h9 => h9) rfl dX2_change_105 ?_
          refine lv_iconst (v := 1) hx hb dX2_change_108 (by decide) ?_
          refine lv_iadd hx hb dX2_change_109 ?_
          refine va_putN (D := (dC, dI)) (ci := 5) (fs := oF_X1 ad pr u118) (v := .int ((u118.1 0 314) + (1 : Int32))) (ty := .int) (C := RX1) (T := TX1) (N := 12) hx hb ht itX1 tyX1 tyX1_ok nmX1 hown hK hP hD hS 1 rfl rfl 4 (by decide) (hKK.fl2 6 rfl) (fun _ h9 => h9) rfl (by decide +kernel) rfl rfl (Nat.le_of_ble_eq_true rfl) dX2_change_110 (fun H locs hP hD hS => ?_)
          have hP := cP_ (cw_314 ad pr N cI cR L1 L2 u118 ((u118.1 0 314) + (1 : Int32))) hP
          have hD := cD_ (cw_314 ad pr N cI cR L1 L2 u118 ((u118.1 0 314) + (1 : Int32))) hD
          refine lv_iload hx hb dX2_change_113 (lv_at hl 1 rfl) ?_
          refine lv_if_eq (tgt := 126) hx hb dX2_change_115 (by decide) (fun _ => ?_) (fun k120 => absurd k120 (by decide))
          refine lv_aload_n hx hb dX2_change_126 rfl (lv_at hl 3 rfl) ?_
          refine lv_iload hx hb dX2_change_127 (lv_at hl 2 rfl) ?_
          refine lv_bipush (v := 10) hx hb dX2_change_129 (by decide) ?_
          refine lv_iadd hx hb dX2_change_131 ?_
          refine lv_iload_n hx hb dX2_change_132 rfl (lv_at hl 4 rfl) ?_
          refine lv_iload_n hx hb dX2_change_133 rfl (lv_at hl 5 rfl) ?_
          refine lv_iload_n hx hb dX2_change_134 rfl (lv_at hl 6 rfl) ?_
          obtain ⟨n121, hn122⟩ : ∃ m, n = m + 1 := ex_z (om_5ac3184894 zn q102 i306104 pj104)
          have q123 : (u105.1 0 304).toInt = (u96.1 0 304).toInt := congrArg Int32.toInt ((fr104.2.1 304 (by decide)).trans (show u96.1 0 304 = (u96.1 0 304) by rfl))
          have q124 : (u118.1 0 304).toInt = (u105.1 0 304).toInt := congrArg Int32.toInt ((fr117.2.1 304 (by decide)).trans (show u105.1 0 304 = (u105.1 0 304) by rfl))
          have q125 : (u118.1 0 305).toInt = (u105.1 0 305).toInt := congrArg Int32.toInt ((fr117.2.1 305 (by decide)).trans (show u105.1 0 305 = (u105.1 0 305) by rfl))
          have q126 : (u118.1 0 306).toInt = (u105.1 0 306).toInt := congrArg Int32.toInt ((fr117.2.1 306 (by decide)).trans (show u105.1 0 306 = (u105.1 0 306) by rfl))
          have q127 : (u118.1 0 312).toInt = (u105.1 0 312).toInt := congrArg Int32.toInt ((fr117.2.1 312 (by decide)).trans (show u105.1 0 312 = (u105.1 0 312) by rfl))
          have q128 : (u96.1 0 321).toInt = (v.1 0 321).toInt := congrArg Int32.toInt ((fr95.2.1 321 (by decide)).trans (show v.1 0 321 = (v.1 0 321) by rfl))
          have q129 : (u105.1 0 321).toInt = (u96.1 0 321).toInt := congrArg Int32.toInt ((fr104.2.1 321 (by decide)).trans (show u96.1 0 321 = (u96.1 0 321) by rfl))
          have q130 : (u118.1 0 321).toInt = (u105.1 0 321).toInt := congrArg Int32.toInt ((fr117.2.1 321 (by decide)).trans (show u105.1 0 321 = (u105.1 0 321) by rfl))
          have q131 : (u96.1 0 326).toInt = (v.1 0 326).toInt := congrArg Int32.toInt ((fr95.2.1 326 (by decide)).trans (show v.1 0 326 = (v.1 0 326) by rfl))
          have q132 : (u105.1 0 326).toInt = (u96.1 0 326).toInt := congrArg Int32.toInt ((fr104.2.1 326 (by decide)).trans (show u96.1 0 326 = (u96.1 0 326) by rfl))
          have q133 : (u118.1 0 326).toInt = (u105.1 0 326).toInt := congrArg Int32.toInt ((fr117.2.1 326 (by decide)).trans (show u105.1 0 326 = (u105.1 0 326) by rfl))
          have q134 : (u105.1 0 373).toInt = (u96.1 0 373).toInt := congrArg Int32.toInt ((fr104.2.1 373 (by decide)).trans (show u96.1 0 373 = (u96.1 0 373) by rfl))
          have q135 : (u118.1 0 373).toInt = (u105.1 0 373).toInt := congrArg Int32.toInt ((fr117.2.1 373 (by decide)).trans (show u105.1 0 373 = (u105.1 0 373) by rfl))
          have q136 : (u96.1 0 317).toInt = (v.1 0 317).toInt := congrArg Int32.toInt ((fr95.2.1 317 (by decide)).trans (show v.1 0 317 = (v.1 0 317) by rfl))
          have q137 : (u105.1 0 317).toInt = (u96.1 0 317).toInt := congrArg Int32.toInt ((fr104.2.1 317 (by decide)).trans (show u96.1 0 317 = (u96.1 0 317) by rfl))
          have q138 : (u118.1 0 317).toInt = (u105.1 0 317).toInt := congrArg Int32.toInt ((fr117.2.1 317 (by decide)).trans (show u105.1 0 317 = (u105.1 0 317) by rfl))
          refine W.sz (fun hz9 => ?_)
          refine czx_v (rx_Vk (n := 4) (As := [.int (r3 + (10 : Int32)), .int pa, .int pb, .int pc1]) (rest := []) hx hb hml hown ht hKK hFx hP hD hS hA (c_x_X2_changeBy l n121 (ihE n121 hn122) dC dI cI cB cZ cJ cR tb H.size ad pr N L1 L2 (wA u118 0 314 ((u118.1 0 314) + (1 : Int32))) (r3 + (10 : Int32)) pa pb pc1 ps (show 0 ≤ (u118.1 0 304).toInt ∧ (u118.1 0 304).toInt ≤ 1503 from (om_57e3d9ffbd z304 q100 q123 q124)) (show 0 ≤ (u118.1 0 305).toInt ∧ (u118.1 0 305).toInt ≤ 1500 from (om_705126c6e9 z326 z381 zd q101 i305104 pt104 q125)) (show 0 ≤ (u118.1 0 306).toInt ∧ (u118.1 0 306).toInt ≤ 40 from (om_2a247253ed z306 q102 i306104 pj104 q126)) (show 0 ≤ (u118.1 0 312).toInt ∧ (u118.1 0 312).toInt ≤ 500 from (om_a369f3fea6 z312 q107 q108 q127)) (show 0 ≤ (u118.1 0 321).toInt ∧ (u118.1 0 321).toInt ≤ 501 from (om_ca65317fd6 z321 q128 q129 q130)) (show 0 ≤ (u118.1 0 326).toInt ∧ (u118.1 0 326).toInt ≤ 420 from (om_ba86cd30dc z326 q131 q132 q133)) (show 0 ≤ (u118.1 0 373).toInt ∧ (u118.1 0 373).toInt ≤ 4000 from (om_282c7f458f z373 q103 q134 q135)) (show 0 ≤ (u118.1 0 381).toInt ∧ (u118.1 0 381).toInt ≤ 3008 from (om_585fd16d20 z305 z326 zd q115 q116 i381117 pd117)) (show L1.length = 40 from hL1) (show L2.length = 60 from hL2) (show RP (wA u118 0 314 ((u118.1 0 314) + (1 : Int32))) from ((show FC [305, 306, 307, 314, 315, 317, 321, 326, 381] [0, 316, 318, 319, 320, 324, 325, 378, 379, 380] v (wA u118 0 314 ((u118.1 0 314) + (1 : Int32))) from (FC.f (FC.tr (FC.tr (FC.tr (FC.rf _) (FC.up fr95 (by decide) (by decide))) (FC.up fr104 (by decide) (by decide))) (FC.up fr117 (by decide) (by decide))) ((u118.1 0 314) + (1 : Int32)) (by decide))).1 rp)) (show pr ps = ad 908 from hps) (show (u118.1 0 300) = ps from (Eq.trans (fr117.2.1 300 (by decide)) (Eq.trans (fr104.2.1 300 (by decide)) (Eq.trans (fr95.2.1 300 (by decide)) es300)))) (show (u118.1 0 310) = ps from (Eq.trans (fr117.2.1 310 (by decide)) (Eq.trans (fr104.2.1 310 (by decide)) (Eq.trans (fr95.2.1 310 (by decide)) es310)))) (show l.stackTraces = false from hst) (show (u118.1 0 381).toInt + (u118.1 0 326).toInt - 2 * (u118.1 0 305).toInt ≤ -2 from (om_5b9f3127bc zd q101 q131 q115 q132 q116 pt104 q125 q133 pd117)) (show 0 ≤ (u118.1 0 317).toInt ∧ (u118.1 0 317).toInt - 4 * (u118.1 0 305).toInt ≤ 8 from (om_f56105df57 zlb q101 q136 q137 pt104 q125 q138)) (show 40 ≤ (u118.1 0 306).toInt + (n121 : Int) from (om_9fa395a918 zn q102 pj104 q126 hn122))) tw_533 tw_534 (by decide +kernel) rfl rfl ⟨show (8 * n121 + 21) + 1 ≤ 8 * n + 14 from (om_a3a29a60ac hn122), show 8 + (6 + 11) + 28 * (8 * n121 + 21) ≤ 28 * (8 * n + 14) from (om_30bf71c26a hn122)⟩ (List.range (cW ad pr N cI cR L1 L2 (wA u118 0 314 ((u118.1 0 314) + (1 : Int32)))).length) (rg_map _) (nd_range _) 2 rfl rfl rfl rfl hl.1 rfl (Nat.le_of_ble_eq_true rfl) dX2_change_135 ⟨Nat.le_of_ble_eq_true rfl, Nat.le_of_ble_eq_true rfl⟩) hP hD hS hA (fun u9 ce9 q9 H locs hx9 hP hD hS hc9 hv9 hf9 => ?_) (fun u140 H locs hw139 hP hD hS hz8 => ?_)
          · exact vx_out (fun x h9 => (hnt x h9).elim) hlocks hc9 hv9 hf9 (fun t9 ht9 hv8 => ⟨u9, ⟨FC.tr (FC.f (FC.tr (FC.tr (FC.tr (FC.rf _) (FC.up fr95 (by decide) (by decide))) (FC.up fr104 (by decide) (by decide))) (FC.up fr117 (by decide) (by decide))) ((u118.1 0 314) + (1 : Int32)) (by decide)) hx9.1, hx9.2.1, ⟨z304, z305, z306, z312, z321, z326, z373, z381, zd, zlb, zr, r3, ex1, (Or.inl ⟨z5, (Or.inr (⟨z93, r97, u96, ex95, ⟨fr95, rs95⟩, (Or.inl ⟨z99, (Or.inr (⟨u105, ex104, ⟨fr104, i305104, i306104, pj104, pt104, rs104⟩, r111, ex109, z114, u118, ex117, ⟨fr117, i381117, pd117, rs117⟩, (Or.inl ⟨u9, (by rw [hn122]; exact hx9.2.2), rfl, rfl⟩)⟩))⟩)⟩))⟩)⟩⟩, ⟨rfl, by rw [ht9]; exact hP, hD⟩, hS.F ht9⟩) hS.2.2 (Nat.le_refl _) (Nat.le_refl _)
          refine W.shrink (hz8.trans hz9) ?_
          obtain ⟨fr139, ex139, i305139, i306139, i321139, i326139, i381139, pd139, pt139, plb139, po139, rs139⟩ := hw139
          have i305139 : 0 ≤ (u140.1 0 305).toInt ∧ (u140.1 0 305).toInt ≤ 1500 := i305139
          have i306139 : 0 ≤ (u140.1 0 306).toInt ∧ (u140.1 0 306).toInt ≤ 40 := i306139
          have i321139 : 0 ≤ (u140.1 0 321).toInt ∧ (u140.1 0 321).toInt ≤ 501 := i321139
          have i326139 : 0 ≤ (u140.1 0 326).toInt ∧ (u140.1 0 326).toInt ≤ 420 := i326139
          have i381139 : 0 ≤ (u140.1 0 381).toInt ∧ (u140.1 0 381).toInt ≤ 3008 := i381139
          have pd139 : (u140.1 0 381).toInt + (u140.1 0 326).toInt - 2 * (u140.1 0 305).toInt + (-2) ≤ (u118.1 0 381).toInt + (u118.1 0 326).toInt - 2 * (u118.1 0 305).toInt := pd139
          have pt139 : (u118.1 0 305).toInt + 1 ≤ (u140.1 0 305).toInt := pt139
          have plb139 : (u118.1 0 317).toInt ≤ (u140.1 0 317).toInt ∧ (u140.1 0 317).toInt - 4 * (u140.1 0 305).toInt ≤ (u118.1 0 317).toInt - 4 * (u118.1 0 305).toInt + 0 := plb139
          have po139 : (u140.1 0 306).toInt = (u118.1 0 306).toInt := po139
          have rs139 : RS (wA u118 0 314 ((u118.1 0 314) + (1 : Int32))) u140 := rs139
          refine lv_iload_n hx hb dX2_change_138 rfl (lv_at hl 6 rfl) ?_
          refine lv_if_eq (tgt := 170) hx hb dX2_change_139 (by decide) (fun h142 => ?_) (fun h142 => ?_)
          · have z143 : pc1.toInt = (0 : Int) := eq_z rfl (show (0 : Int32).toInt = (0 : Int) by decide) h142
            exact False.elim (om_836858dbd1 zr z93 z143)
          · have z144 : pc1.toInt ≠ (0 : Int) := ne_z rfl (show (0 : Int32).toInt = (0 : Int) by decide) h142
            refine lv_aload_n hx hb dX2_change_142 rfl (lv_at hl 3 rfl) ?_
            refine va_get (D := (dC, dI)) (ci := 6) (fs := oF_X2 ad pr u140) (v := .ref (ad 901)) (C := RX2) (T := TX2) (N := 5) hx hb ht itX2 hown hK hP 2 rfl rfl 1 (by decide) (ht _ tw_498) (fun _ h9 => h9) rfl dX2_change_143 ?_
            refine lv_dup hx hb dX2_change_146 rfl ?_
            refine va_getN (D := (dC, dI)) (ci := 5) (fs := oF_X1 ad pr u140) (v := .int (u140.1 0 314)) (C := RX1) (T := TX1) (N := 12) hx hb ht itX1 hown hK hP 1 rfl rfl 4 (by decide) (hKK.fl2 6 rfl) (fun _ h9 => h9) rfl dX2_change_147 ?_
            refine lv_iconst (v := 1) hx hb dX2_change_150 (by decide) ?_
            refine lv_isub hx hb dX2_change_151 ?_
            refine va_putN (D := (dC, dI)) (ci := 5) (fs := oF_X1 ad pr u140) (v := .int ((u140.1 0 314) - (1 : Int32))) (ty := .int) (C := RX1) (T := TX1) (N := 12) hx hb ht itX1 tyX1 tyX1_ok nmX1 hown hK hP hD hS 1 rfl rfl 4 (by decide) (hKK.fl2 6 rfl) (fun _ h9 => h9) rfl (by decide +kernel) rfl rfl (Nat.le_of_ble_eq_true rfl) dX2_change_152 (fun H locs hP hD hS => ?_)
            have hP := cP_ (cw_314 ad pr N cI cR L1 L2 u140 ((u140.1 0 314) - (1 : Int32))) hP
            have hD := cD_ (cw_314 ad pr N cI cR L1 L2 u140 ((u140.1 0 314) - (1 : Int32))) hD
            refine lv_aload_n hx hb dX2_change_155 rfl (lv_at hl 3 rfl) ?_
            refine va_get (D := (dC, dI)) (ci := 6) (fs := oF_X2 ad pr (wA u140 0 314 ((u140.1 0 314) - (1 : Int32)))) (v := .ref (ad 901)) (C := RX2) (T := TX2) (N := 5) hx hb ht itX2 hown hK hP 2 rfl rfl 1 (by decide) (ht _ tw_498) (fun _ h9 => h9) rfl dX2_change_156 ?_
            refine lv_bipush (v := 11) hx hb dX2_change_159 (by decide) ?_
            refine lv_iload hx hb dX2_change_161 (lv_at hl 0 rfl) ?_
            refine lv_iconst (v := 0) hx hb dX2_change_163 (by decide) ?_
            refine cu_v (rn_Vk (n := 3) (As := [.int 11, .int r111, .int 0]) (rest := []) hx hb hml hown ht hKK hFx hP hD hS hA (c_x_X1_add l dC dI cI cB cZ cJ cR tb H.size ad pr N L1 L2 (wA u140 0 314 ((u140.1 0 314) - (1 : Int32))) (11 : Int32) r111 (0 : Int32) ps (show 0 ≤ (u140.1 0 381).toInt ∧ (u140.1 0 381).toInt ≤ 3008 from (om_e78eec72e1 i381139)) (show pr ps = ad 908 from hps) (show (u140.1 0 310) = ps from (Eq.trans (fr139.2.1 310 (by decide)) (Eq.trans (fr117.2.1 310 (by decide)) (Eq.trans (fr104.2.1 310 (by decide)) (Eq.trans (fr95.2.1 310 (by decide)) es310))))) (show (u140.1 0 381).toInt < 3008 from (om_5584bd4cd0 zd q101 q131 q115 q132 q116 pt104 q125 q133 pd117 i305139 i326139 pd139))) tw_499 tw_500 (by decide +kernel) rfl rfl ⟨show 0 + 1 ≤ 8 * n + 14 from om_2d92e09058, show 8 + (5 + 11) + 0 ≤ 28 * (8 * n + 14) from om_f68798533e⟩ (List.range (cW ad pr N cI cR L1 L2 (wA u140 0 314 ((u140.1 0 314) - (1 : Int32)))).length) (rg_map _) (nd_range _) 1 rfl rfl rfl rfl hl.1 rfl (Nat.le_of_ble_eq_true rfl) dX2_change_164 ⟨Nat.le_of_ble_eq_true rfl, Nat.le_of_ble_eq_true rfl⟩) hP hD hS hA (fun u146 H locs hw145 hP hD hS => ?_)
            obtain ⟨fr145, ex145, i381145, pd145, rs145⟩ := hw145
            have i381145 : 0 ≤ (u146.1 0 381).toInt ∧ (u146.1 0 381).toInt ≤ 3008 := i381145
            have pd145 : (u146.1 0 381).toInt = (u140.1 0 381).toInt + 1 := pd145
            have rs145 : RS (wA u140 0 314 ((u140.1 0 314) - (1 : Int32))) u146 := rs145
            refine W.widen (k := 0) (n := 0) (Nat.le_refl _) (Nat.le_refl _) ?_
            refine lv_goto (tgt := 199) hx hb dX2_change_167 (by decide) ?_
            refine lv_aload_n hx hb dX2_change_199 rfl (lv_at hl 3 rfl) ?_
            refine va_get (D := (dC, dI)) (ci := 6) (fs := oF_X2 ad pr u146) (v := .ref (ad 900)) (C := RX2) (T := TX2) (N := 5) hx hb ht itX2 hown hK hP 2 rfl rfl 0 (by decide) (ht _ tw_509) (fun _ h9 => h9) rfl dX2_change_200 ?_
            have q148 : (u146.1 0 306).toInt = (u140.1 0 306).toInt := congrArg Int32.toInt ((fr145.2.1 306 (by decide)).trans (show (wA u140 0 314 ((u140.1 0 314) - (1 : Int32))).1 0 306 = (u140.1 0 306) by rfl))
            refine cu_v (rn_Vk (n := 0) (As := []) (rest := []) hx hb hml hown ht hKK hFx hP hD hS hA (c_x_X9_close l dC dI cI cB cZ cJ cR tb H.size ad pr N L1 L2 u146  (show 0 ≤ (u146.1 0 306).toInt ∧ (u146.1 0 306).toInt ≤ 40 from (om_99e115f631 i306139 q148)) (show 1 ≤ (u146.1 0 306).toInt from (om_874629bc4e z306 q102 pj104 q126 po139 q148))) tw_528 tw_529 (by decide +kernel) rfl rfl ⟨show 0 + 1 ≤ 8 * n + 14 from om_2d92e09058, show 8 + (1 + 11) + 0 ≤ 28 * (8 * n + 14) from om_289622e6d2⟩ (List.range (cW ad pr N cI cR L1 L2 u146).length) (rg_map _) (nd_range _) 0 rfl rfl rfl rfl hl.1 rfl (Nat.le_of_ble_eq_true rfl) dX2_change_203 ⟨Nat.le_of_ble_eq_true rfl, Nat.le_of_ble_eq_true rfl⟩) hP hD hS hA (fun u150 H locs hw149 hP hD hS => ?_)
            obtain ⟨fr149, ex149, i306149, pj149, rs149⟩ := hw149
            have i306149 : 0 ≤ (u150.1 0 306).toInt ∧ (u150.1 0 306).toInt ≤ 40 := i306149
            have pj149 : (u150.1 0 306).toInt = (u146.1 0 306).toInt - 1 := pj149
            have rs149 : RS u146 u150 := rs149
            refine W.widen (k := 0) (n := 0) (Nat.le_refl _) (Nat.le_refl _) ?_
            have q152 : (u146.1 0 305).toInt = (u140.1 0 305).toInt := congrArg Int32.toInt ((fr145.2.1 305 (by decide)).trans (show (wA u140 0 314 ((u140.1 0 314) - (1 : Int32))).1 0 305 = (u140.1 0 305) by rfl))
            have q153 : (u150.1 0 305).toInt = (u146.1 0 305).toInt := congrArg Int32.toInt ((fr149.2.1 305 (by decide)).trans (show u146.1 0 305 = (u146.1 0 305) by rfl))
            have q154 : (u146.1 0 321).toInt = (u140.1 0 321).toInt := congrArg Int32.toInt ((fr145.2.1 321 (by decide)).trans (show (wA u140 0 314 ((u140.1 0 314) - (1 : Int32))).1 0 321 = (u140.1 0 321) by rfl))
            have q155 : (u150.1 0 321).toInt = (u146.1 0 321).toInt := congrArg Int32.toInt ((fr149.2.1 321 (by decide)).trans (show u146.1 0 321 = (u146.1 0 321) by rfl))
            have q156 : (u146.1 0 326).toInt = (u140.1 0 326).toInt := congrArg Int32.toInt ((fr145.2.1 326 (by decide)).trans (show (wA u140 0 314 ((u140.1 0 314) - (1 : Int32))).1 0 326 = (u140.1 0 326) by rfl))
            have q157 : (u150.1 0 326).toInt = (u146.1 0 326).toInt := congrArg Int32.toInt ((fr149.2.1 326 (by decide)).trans (show u146.1 0 326 = (u146.1 0 326) by rfl))
            have q158 : (u150.1 0 381).toInt = (u146.1 0 381).toInt := congrArg Int32.toInt ((fr149.2.1 381 (by decide)).trans (show u146.1 0 381 = (u146.1 0 381) by rfl))
            have q159 : (u146.1 0 317).toInt = (u140.1 0 317).toInt := congrArg Int32.toInt ((fr145.2.1 317 (by decide)).trans (show (wA u140 0 314 ((u140.1 0 314) - (1 : Int32))).1 0 317 = (u140.1 0 317) by rfl))
            have q160 : (u150.1 0 317).toInt = (u146.1 0 317).toInt := congrArg Int32.toInt ((fr149.2.1 317 (by decide)).trans (show u146.1 0 317 = (u146.1 0 317) by rfl))
            refine W.sz (fun hz => ?_)
            refine vx_ret ?_
            refine W.widen (k := 1) (n := 6) (Nat.le_of_ble_eq_true rfl) (Nat.le_of_ble_eq_true rfl) ?_
            exact W.vret hx hb hr (fun t ht9 hW => ⟨⟨u150, rfl, ⟨(FC.tr (FC.tr (FC.f (FC.tr (FC.f (FC.tr (FC.tr (FC.tr (FC.rf _) (FC.up fr95 (by decide) (by decide))) (FC.up fr104 (by decide) (by decide))) (FC.up fr117 (by decide) (by decide))) ((u118.1 0 314) + (1 : Int32)) (by decide)) (FC.up fr139 (by decide) (by decide))) ((u140.1 0 314) - (1 : Int32)) (by decide)) (FC.up fr145 (by decide) (by decide))) (FC.up fr149 (by decide) (by decide))), ⟨z304, z305, z306, z312, z321, z326, z373, z381, zd, zlb, zr, r3, ex1, (Or.inl ⟨z5, (Or.inr (⟨z93, r97, u96, ex95, ⟨fr95, rs95⟩, (Or.inl ⟨z99, (Or.inr (⟨u105, ex104, ⟨fr104, i305104, i306104, pj104, pt104, rs104⟩, r111, ex109, z114, u118, ex117, ⟨fr117, i381117, pd117, rs117⟩, (Or.inr (⟨u140, (by rw [hn122]; exact ex139), ⟨fr139, i305139, i306139, i321139, i326139, i381139, pd139, pt139, plb139, po139, rs139⟩, z144, u146, ex145, ⟨fr145, i381145, pd145, rs145⟩, u150, ex149, ⟨fr149, i306149, pj149, rs149⟩, rfl, rfl⟩))⟩))⟩)⟩))⟩)⟩, (show 0 ≤ (u150.1 0 305).toInt ∧ (u150.1 0 305).toInt ≤ 1500 from (om_36fdb1ec01 z326 z381 zd q101 pt104 q125 i305139 pt139 q152 q153)), (show 0 ≤ (u150.1 0 306).toInt ∧ (u150.1 0 306).toInt ≤ 40 from (om_7eaf33e007 i306149)), (show 0 ≤ (u150.1 0 321).toInt ∧ (u150.1 0 321).toInt ≤ 501 from (om_4dfa815534 i321139 q154 q155)), (show 0 ≤ (u150.1 0 326).toInt ∧ (u150.1 0 326).toInt ≤ 420 from (om_9591dea625 i326139 q156 q157)), (show 0 ≤ (u150.1 0 381).toInt ∧ (u150.1 0 381).toInt ≤ 3008 from (om_52b6c7fdec i381139 i381145 pd145 q158)), (show (u150.1 0 381).toInt + (u150.1 0 326).toInt - 2 * (u150.1 0 305).toInt + (-1 - pc1.toInt) ≤ (v.1 0 381).toInt + (v.1 0 326).toInt - 2 * (v.1 0 305).toInt from (om_a9f09165c0 zr z93 q101 q131 q115 q132 q116 pt104 q125 q133 pd117 pd139 q152 q156 pd145 q153 q157 q158)), (show (v.1 0 305).toInt + 2 ≤ (u150.1 0 305).toInt from (om_4e3a931fa9 q101 pt104 q125 pt139 q152 q153)), (show (v.1 0 317).toInt ≤ (u150.1 0 317).toInt ∧ (u150.1 0 317).toInt - 4 * (u150.1 0 305).toInt ≤ (v.1 0 317).toInt - 4 * (v.1 0 305).toInt + 0 from (om_e1bb6c2d2d q101 q136 q137 pt104 q125 q138 plb139 q152 q159 q153 q160)), (show (u150.1 0 306).toInt = (v.1 0 306).toInt from (om_ac685ab65a q102 pj104 q126 po139 q148 pj149)), (RS.tr (RS.tr (RS.w0 (RS.tr (RS.w0 (RS.tr (RS.tr (RS.tr RS.rf rs95) rs104) rs117) (by decide)) rs139) (by decide)) rs145) rs149)⟩, ⟨by rw [ht9]; exact hP, hD⟩, by rw [ht9]; exact hz⟩, hS.F ht9⟩) hS.2.2 dX2_change_206
      · have z161 : r97.toInt = (0 : Int) := eq_z rfl (show (0 : Int32).toInt = (0 : Int) by decide) h98
        refine lv_aload_n hx hb dX2_change_53 rfl (lv_at hl 2 rfl) ?_
        refine va_get (D := (dC, dI)) (ci := 6) (fs := oF_X2 ad pr u96) (v := .ref (ad 900)) (C := RX2) (T := TX2) (N := 5) hx hb ht itX2 hown hK hP 2 rfl rfl 0 (by decide) (ht _ tw_509) (fun _ h9 => h9) rfl dX2_change_54 ?_
        refine lv_iconst (v := 5) hx hb dX2_change_57 (by decide) ?_
        refine lv_aload_n hx hb dX2_change_58 rfl (lv_at hl 2 rfl) ?_
        refine va_get (D := (dC, dI)) (ci := 6) (fs := oF_X2 ad pr u96) (v := .ref (ad 900)) (C := RX2) (T := TX2) (N := 5) hx hb ht itX2 hown hK hP 2 rfl rfl 0 (by decide) (ht _ tw_509) (fun _ h9 => h9) rfl dX2_change_59 ?_
        have q162 : (u96.1 0 304).toInt = (v.1 0 304).toInt := congrArg Int32.toInt ((fr95.2.1 304 (by decide)).trans (show v.1 0 304 = (v.1 0 304) by rfl))
        have q163 : (u96.1 0 305).toInt = (v.1 0 305).toInt := congrArg Int32.toInt ((fr95.2.1 305 (by decide)).trans (show v.1 0 305 = (v.1 0 305) by rfl))
        have q164 : (u96.1 0 373).toInt = (v.1 0 373).toInt := congrArg Int32.toInt ((fr95.2.1 373 (by decide)).trans (show v.1 0 373 = (v.1 0 373) by rfl))
        refine cu_i (rn_Vk (n := 0) (As := []) (rest := [.int 5, .ref (ad 900)]) hx hb hml hown ht hKK hFx hP hD hS hA (c_x_X9_place l dC dI cI cB cZ cJ cR tb H.size ad pr N L1 L2 u96 ps (show 0 ≤ (u96.1 0 304).toInt ∧ (u96.1 0 304).toInt ≤ 1503 from (om_73002589c1 z304 q162)) (show 0 ≤ (u96.1 0 305).toInt ∧ (u96.1 0 305).toInt ≤ 1500 from (om_02933c00b0 z305 z326 z381 zd q163)) (show 0 ≤ (u96.1 0 373).toInt ∧ (u96.1 0 373).toInt ≤ 4000 from (om_9084c127ed z373 q164)) (show pr ps = ad 908 from hps) (show (u96.1 0 300) = ps from (Eq.trans (fr95.2.1 300 (by decide)) es300))) tw_457 tw_510 (by decide +kernel) rfl rfl ⟨show 0 + 1 ≤ 8 * n + 14 from om_2d92e09058, show 8 + (1 + 11) + 0 ≤ 28 * (8 * n + 14) from om_289622e6d2⟩ (List.range (cW ad pr N cI cR L1 L2 u96).length) (rg_map _) (nd_range _) 0 rfl rfl rfl rfl hl.1 rfl (Nat.le_of_ble_eq_true rfl) dX2_change_62 ⟨Nat.le_of_ble_eq_true rfl, Nat.le_of_ble_eq_true rfl⟩) hP hD hS hA (fun r167 u166 H locs hw165 hP hD hS => ?_)
        obtain ⟨rfl, ex165⟩ := hw165
        refine W.widen (k := 0) (n := 0) (Nat.le_refl _) (Nat.le_refl _) ?_
        refine W.sz (fun hz9 => ?_)
        refine czx_v (rx_Vk (n := 2) (As := [.int 5, .int r167]) (rest := []) hx hb hml hown ht hKK hFx hP hD hS hA (c_x_X9_refuse l dC dI cI cB cZ cJ cR tb H.size ad pr N L1 L2 u96 (5 : Int32) r167 (show l.stackTraces = false from hst) (show (5 : Int) ≠ 0 from om_5e02973d50)) tw_459 tw_511 (by decide +kernel) rfl rfl ⟨show 6 + 1 ≤ 8 * n + 14 from om_03d1dde555, show 8 + (3 + 11) + 82 ≤ 28 * (8 * n + 14) from om_0d25788d50⟩ (List.range (cW ad pr N cI cR L1 L2 u96).length) (rg_map _) (nd_range _) 0 rfl rfl rfl rfl hl.1 rfl (Nat.le_of_ble_eq_true rfl) dX2_change_65 ⟨Nat.le_of_ble_eq_true rfl, Nat.le_of_ble_eq_true rfl⟩) hP hD hS hA (fun u9 ce9 q9 H locs hx9 hP hD hS hc9 hv9 hf9 => ?_) (fun u169 H locs hw168 hP hD hS hz8 => ?_)
        · exact vx_out (fun x h9 => (hnt x h9).elim) hlocks hc9 hv9 hf9 (fun t9 ht9 hv8 => ⟨u9, ⟨FC.tr (FC.tr (FC.rf _) (FC.up fr95 (by decide) (by decide))) hx9.1, hx9.2.1, ⟨z304, z305, z306, z312, z321, z326, z373, z381, zd, zlb, zr, r3, ex1, (Or.inl ⟨z5, (Or.inr (⟨z93, r97, u96, ex95, ⟨fr95, rs95⟩, (Or.inr (⟨z161, r167, ex165, u9, hx9.2.2, rfl, rfl⟩))⟩))⟩)⟩⟩, ⟨rfl, by rw [ht9]; exact hP, hD⟩, hS.F ht9⟩) hS.2.2 (Nat.le_refl _) (Nat.le_refl _)
        refine W.shrink (hz8.trans hz9) ?_
        obtain ⟨fr168, ex168, no168, rs168⟩ := hw168
        have no168 : False := no168
        have rs168 : RS u96 u169 := rs168
        exact no168.elim
  · have z171 : r3.toInt = (42 : Int) := eq_z rfl (show (42 : Int32).toInt = (42 : Int) by decide) h4
    refine lv_iconst (v := 1) hx hb dX2_change_16 (by decide) ?_
    refine lv_goto (tgt := 21) hx hb dX2_change_17 (by decide) ?_
    refine lv_istore (lv' := [(5, .int 1), (4, .int r3), (0, .ref (ad 902)), (1, .int pa), (2, .int pb), (3, .int pc1)]) hx hb dX2_change_21 hl (by decide) rfl (fun ls hl => ?_)
    refine lv_aload_n hx hb dX2_change_23 rfl (lv_at hl 2 rfl) ?_
    refine va_get (D := (dC, dI)) (ci := 6) (fs := oF_X2 ad pr v) (v := .ref (ad 901)) (C := RX2) (T := TX2) (N := 5) hx hb ht itX2 hown hK hP 2 rfl rfl 1 (by decide) (ht _ tw_498) (fun _ h9 => h9) rfl dX2_change_24 ?_
    refine lv_iload_n hx hb dX2_change_27 rfl (lv_at hl 5 rfl) ?_
    refine lv_if_eq (tgt := 35) hx hb dX2_change_28 (by decide) (fun h172 => ?_) (fun h172 => ?_)
    · have z173 : pc1.toInt = (0 : Int) := eq_z rfl (show (0 : Int32).toInt = (0 : Int) by decide) h172
      refine lv_iconst (v := 0) hx hb dX2_change_35 (by decide) ?_
      refine lv_iload hx hb dX2_change_36 (lv_at hl 0 rfl) ?_
      refine lv_if_eq (tgt := 45) hx hb dX2_change_38 (by decide) (fun k174 => absurd k174 (by decide)) (fun _ => ?_)
      refine lv_iconst (v := 0) hx hb dX2_change_41 (by decide) ?_
      refine lv_goto (tgt := 46) hx hb dX2_change_42 (by decide) ?_
      refine lv_iadd hx hb dX2_change_46 ?_
      refine tp_i (y := 0) (by decide) ?_
      refine cu_i (rn_Vk (n := 1) (As := [.int 0]) (rest := []) hx hb hml hown ht hKK hFx hP hD hS hA (c_x_X1_wantSlots l dC dI cI cB cZ cJ cR tb H.size ad pr N L1 L2 v (0 : Int32) (show 0 ≤ (v.1 0 312).toInt ∧ (v.1 0 312).toInt ≤ 500 from (om_9861e69da5 z312))) tw_507 tw_508 (by decide +kernel) rfl rfl ⟨show 1 + 1 ≤ 8 * n + 14 from om_c88d106276, show 8 + (3 + 11) + 15 ≤ 28 * (8 * n + 14) from om_ebf30c1e5c⟩ (List.range (cW ad pr N cI cR L1 L2 v).length) (rg_map _) (nd_range _) 1 rfl rfl rfl rfl hl.1 rfl (Nat.le_of_ble_eq_true rfl) dX2_change_47 ⟨Nat.le_of_ble_eq_true rfl, Nat.le_of_ble_eq_true rfl⟩) hP hD hS hA (fun r177 u176 H locs hw175 hP hD hS => ?_)
      obtain ⟨fr175, ex175, rs175, bz175⟩ := hw175
      refine W.widen (k := 0) (n := 0) (Nat.le_refl _) (Nat.le_refl _) ?_
      refine lv_if_ne (tgt := 68) hx hb dX2_change_50 (by decide) (fun h178 => ?_) (fun h178 => ?_)
      · have z179 : r177.toInt ≠ (0 : Int) := ne_z rfl (show (0 : Int32).toInt = (0 : Int) by decide) h178
        refine lv_aload_n hx hb dX2_change_68 rfl (lv_at hl 2 rfl) ?_
        refine va_get (D := (dC, dI)) (ci := 6) (fs := oF_X2 ad pr u176) (v := .ref (ad 900)) (C := RX2) (T := TX2) (N := 5) hx hb ht itX2 hown hK hP 2 rfl rfl 0 (by decide) (ht _ tw_509) (fun _ h9 => h9) rfl dX2_change_69 ?_
        have q180 : (u176.1 0 304).toInt = (v.1 0 304).toInt := congrArg Int32.toInt ((fr175.2.1 304 (by decide)).trans (show v.1 0 304 = (v.1 0 304) by rfl))
        have q181 : (u176.1 0 305).toInt = (v.1 0 305).toInt := congrArg Int32.toInt ((fr175.2.1 305 (by decide)).trans (show v.1 0 305 = (v.1 0 305) by rfl))
        have q182 : (u176.1 0 306).toInt = (v.1 0 306).toInt := congrArg Int32.toInt ((fr175.2.1 306 (by decide)).trans (show v.1 0 306 = (v.1 0 306) by rfl))
        have q183 : (u176.1 0 373).toInt = (v.1 0 373).toInt := congrArg Int32.toInt ((fr175.2.1 373 (by decide)).trans (show v.1 0 373 = (v.1 0 373) by rfl))
        refine W.sz (fun hz9 => ?_)
        refine czx_v (rx_Vk (n := 0) (As := []) (rest := []) hx hb hml hown ht hKK hFx hP hD hS hA (c_x_X9_open l dC dI cI cB cZ cJ cR tb H.size ad pr N L1 L2 u176 ps (show 0 ≤ (u176.1 0 304).toInt ∧ (u176.1 0 304).toInt ≤ 1503 from (om_73002589c1 z304 q180)) (show 0 ≤ (u176.1 0 305).toInt ∧ (u176.1 0 305).toInt ≤ 1500 from (om_02933c00b0 z305 z326 z381 zd q181)) (show 0 ≤ (u176.1 0 306).toInt ∧ (u176.1 0 306).toInt ≤ 40 from (om_99e115f631 z306 q182)) (show 0 ≤ (u176.1 0 373).toInt ∧ (u176.1 0 373).toInt ≤ 4000 from (om_9084c127ed z373 q183)) (show pr ps = ad 908 from hps) (show (u176.1 0 300) = ps from (Eq.trans (fr175.2.1 300 (by decide)) es300)) (show l.stackTraces = false from hst)) tw_524 tw_525 (by decide +kernel) rfl rfl ⟨show 7 + 1 ≤ 8 * n + 14 from om_46126d3ba0, show 8 + (1 + 11) + 104 ≤ 28 * (8 * n + 14) from om_6017b980b8⟩ (List.range (cW ad pr N cI cR L1 L2 u176).length) (rg_map _) (nd_range _) 0 rfl rfl rfl rfl hl.1 rfl (Nat.le_of_ble_eq_true rfl) dX2_change_72 ⟨Nat.le_of_ble_eq_true rfl, Nat.le_of_ble_eq_true rfl⟩) hP hD hS hA (fun u9 ce9 q9 H locs hx9 hP hD hS hc9 hv9 hf9 => ?_) (fun u185 H locs hw184 hP hD hS hz8 => ?_)
        · exact vx_out (fun x h9 => (hnt x h9).elim) hlocks hc9 hv9 hf9 (fun t9 ht9 hv8 => ⟨u9, ⟨FC.tr (FC.tr (FC.rf _) (FC.up fr175 (by decide) (by decide))) hx9.1, hx9.2.1, ⟨z304, z305, z306, z312, z321, z326, z373, z381, zd, zlb, zr, r3, ex1, (Or.inr (⟨z171, (Or.inl ⟨z173, r177, u176, ex175, ⟨fr175, rs175⟩, (Or.inl ⟨z179, (Or.inl ⟨u9, hx9.2.2, rfl, rfl⟩)⟩)⟩)⟩))⟩⟩, ⟨rfl, by rw [ht9]; exact hP, hD⟩, hS.F ht9⟩) hS.2.2 (Nat.le_refl _) (Nat.le_refl _)
        refine W.shrink (hz8.trans hz9) ?_
        obtain ⟨fr184, ex184, i305184, i306184, pj184, pt184, rs184⟩ := hw184
        have i305184 : 0 ≤ (u185.1 0 305).toInt ∧ (u185.1 0 305).toInt ≤ 1500 := i305184
        have i306184 : 0 ≤ (u185.1 0 306).toInt ∧ (u185.1 0 306).toInt ≤ 40 := i306184
        have pj184 : (u185.1 0 306).toInt = (u176.1 0 306).toInt + 1 := pj184
        have pt184 : (u185.1 0 305).toInt = (u176.1 0 305).toInt + 1 := pt184
        have rs184 : RS u176 u185 := rs184
        refine lv_aload_n hx hb dX2_change_75 rfl (lv_at hl 2 rfl) ?_
        refine va_get (D := (dC, dI)) (ci := 6) (fs := oF_X2 ad pr u185) (v := .ref (ad 901)) (C := RX2) (T := TX2) (N := 5) hx hb ht itX2 hown hK hP 2 rfl rfl 1 (by decide) (ht _ tw_498) (fun _ h9 => h9) rfl dX2_change_76 ?_
        have q187 : (u176.1 0 312).toInt = (v.1 0 312).toInt := congrArg Int32.toInt ((fr175.2.1 312 (by decide)).trans (show v.1 0 312 = (v.1 0 312) by rfl))
        have q188 : (u185.1 0 312).toInt = (u176.1 0 312).toInt := congrArg Int32.toInt ((fr184.2.1 312 (by decide)).trans (show u176.1 0 312 = (u176.1 0 312) by rfl))
        refine cu_i (rn_Vk (n := 0) (As := []) (rest := []) hx hb hml hown ht hKK hFx hP hD hS hA (c_x_X1_nextSlot l dC dI cI cB cZ cJ cR tb H.size ad pr N L1 L2 u185  (show 0 ≤ (u185.1 0 312).toInt ∧ (u185.1 0 312).toInt ≤ 500 from (om_8a5975ec21 z312 q187 q188))) tw_505 tw_506 (by decide +kernel) rfl rfl ⟨show 0 + 1 ≤ 8 * n + 14 from om_2d92e09058, show 8 + (1 + 11) + 0 ≤ 28 * (8 * n + 14) from om_289622e6d2⟩ (List.range (cW ad pr N cI cR L1 L2 u185).length) (rg_map _) (nd_range _) 1 rfl rfl rfl rfl hl.1 rfl (Nat.le_of_ble_eq_true rfl) dX2_change_79 ⟨Nat.le_of_ble_eq_true rfl, Nat.le_of_ble_eq_true rfl⟩) hP hD hS hA (fun r191 u190 H locs hw189 hP hD hS => ?_)
        obtain ⟨rfl, ex189⟩ := hw189
        refine W.widen (k := 0) (n := 0) (Nat.le_refl _) (Nat.le_refl _) ?_
        refine lv_istore (lv' := [(6, .int r191), (5, .int 1), (4, .int r3), (0, .ref (ad 902)), (1, .int pa), (2, .int pb), (3, .int pc1)]) hx hb dX2_change_82 hl (by decide) rfl (fun ls hl => ?_)
        refine lv_iload_n hx hb dX2_change_84 rfl (lv_at hl 6 rfl) ?_
        refine lv_if_eq (tgt := 113) hx hb dX2_change_85 (by decide) (fun h192 => ?_) (fun h192 => ?_)
        · have z193 : pc1.toInt = (0 : Int) := eq_z rfl (show (0 : Int32).toInt = (0 : Int) by decide) h192
          refine lv_iload hx hb dX2_change_113 (lv_at hl 1 rfl) ?_
          refine lv_if_eq (tgt := 126) hx hb dX2_change_115 (by decide) (fun k194 => absurd k194 (by decide)) (fun _ => ?_)
          refine lv_aload_n hx hb dX2_change_118 rfl (lv_at hl 3 rfl) ?_
          refine lv_iconst (v := 1) hx hb dX2_change_119 (by decide) ?_
          obtain ⟨n195, hn196⟩ : ∃ m, n = m + 1 := ex_z (om_5ac3184894 zn q182 i306184 pj184)
          have q197 : (u185.1 0 304).toInt = (u176.1 0 304).toInt := congrArg Int32.toInt ((fr184.2.1 304 (by decide)).trans (show u176.1 0 304 = (u176.1 0 304) by rfl))
          have q198 : (u176.1 0 321).toInt = (v.1 0 321).toInt := congrArg Int32.toInt ((fr175.2.1 321 (by decide)).trans (show v.1 0 321 = (v.1 0 321) by rfl))
          have q199 : (u185.1 0 321).toInt = (u176.1 0 321).toInt := congrArg Int32.toInt ((fr184.2.1 321 (by decide)).trans (show u176.1 0 321 = (u176.1 0 321) by rfl))
          have q200 : (u176.1 0 326).toInt = (v.1 0 326).toInt := congrArg Int32.toInt ((fr175.2.1 326 (by decide)).trans (show v.1 0 326 = (v.1 0 326) by rfl))
          have q201 : (u185.1 0 326).toInt = (u176.1 0 326).toInt := congrArg Int32.toInt ((fr184.2.1 326 (by decide)).trans (show u176.1 0 326 = (u176.1 0 326) by rfl))
          have q202 : (u185.1 0 373).toInt = (u176.1 0 373).toInt := congrArg Int32.toInt ((fr184.2.1 373 (by decide)).trans (show u176.1 0 373 = (u176.1 0 373) by rfl))
          have q203 : (u176.1 0 381).toInt = (v.1 0 381).toInt := congrArg Int32.toInt ((fr175.2.1 381 (by decide)).trans (show v.1 0 381 = (v.1 0 381) by rfl))
          have q204 : (u185.1 0 381).toInt = (u176.1 0 381).toInt := congrArg Int32.toInt ((fr184.2.1 381 (by decide)).trans (show u176.1 0 381 = (u176.1 0 381) by rfl))
          have q205 : (u176.1 0 317).toInt = (v.1 0 317).toInt := congrArg Int32.toInt ((fr175.2.1 317 (by decide)).trans (show v.1 0 317 = (v.1 0 317) by rfl))
          have q206 : (u185.1 0 317).toInt = (u176.1 0 317).toInt := congrArg Int32.toInt ((fr184.2.1 317 (by decide)).trans (show u176.1 0 317 = (u176.1 0 317) by rfl))
          refine W.sz (fun hz9 => ?_)
          refine czx_v (rx_Vk (n := 1) (As := [.int 1]) (rest := []) hx hb hml hown ht hKK hFx hP hD hS hA (ihE n195 hn196 dC dI cI cB cZ cJ cR tb H.size ad pr N L1 L2 u185 (1 : Int32) ps (show 0 ≤ (u185.1 0 304).toInt ∧ (u185.1 0 304).toInt ≤ 1503 from (om_dd87ee851a z304 q180 q197)) (show 0 ≤ (u185.1 0 305).toInt ∧ (u185.1 0 305).toInt ≤ 1500 from (om_7897b4ccef i305184)) (show 0 ≤ (u185.1 0 306).toInt ∧ (u185.1 0 306).toInt ≤ 40 from (om_7eaf33e007 i306184)) (show 0 ≤ (u185.1 0 312).toInt ∧ (u185.1 0 312).toInt ≤ 500 from (om_8a5975ec21 z312 q187 q188)) (show 0 ≤ (u185.1 0 321).toInt ∧ (u185.1 0 321).toInt ≤ 501 from (om_4dfa815534 z321 q198 q199)) (show 0 ≤ (u185.1 0 326).toInt ∧ (u185.1 0 326).toInt ≤ 420 from (om_9591dea625 z326 q200 q201)) (show 0 ≤ (u185.1 0 373).toInt ∧ (u185.1 0 373).toInt ≤ 4000 from (om_03cd8767ac z373 q183 q202)) (show 0 ≤ (u185.1 0 381).toInt ∧ (u185.1 0 381).toInt ≤ 3008 from (om_262b63cd5c z305 z326 z381 zd q203 q204)) (show L1.length = 40 from hL1) (show L2.length = 60 from hL2) (show RP u185 from ((show FC [305, 306, 307, 314, 315, 317, 321, 326, 381] [0, 316, 318, 319, 320, 324, 325, 378, 379, 380] v u185 from (FC.tr (FC.tr (FC.rf _) (FC.up fr175 (by decide) (by decide))) (FC.up fr184 (by decide) (by decide)))).1 rp)) (show pr ps = ad 908 from hps) (show (u185.1 0 300) = ps from (Eq.trans (fr184.2.1 300 (by decide)) (Eq.trans (fr175.2.1 300 (by decide)) es300))) (show (u185.1 0 310) = ps from (Eq.trans (fr184.2.1 310 (by decide)) (Eq.trans (fr175.2.1 310 (by decide)) es310))) (show l.stackTraces = false from hst) (show (u185.1 0 381).toInt + (u185.1 0 326).toInt - 2 * (u185.1 0 305).toInt ≤ 0 from (om_f1bb74cbd7 zd q181 q200 q203 q201 q204 pt184)) (show 0 ≤ (u185.1 0 317).toInt ∧ (u185.1 0 317).toInt - 4 * (u185.1 0 305).toInt ≤ 8 from (om_f6532a91b1 zlb q181 q205 q206 pt184)) (show 40 ≤ (u185.1 0 306).toInt + (n195 : Int) from (om_d3bd070dcf zn q182 pj184 hn196))) tw_520 tw_521 (by decide +kernel) rfl rfl ⟨show (8 * n195 + 20) + 1 ≤ 8 * n + 14 from (om_74f46d92b7 hn196), show 8 + (5 + 11) + 28 * (8 * n195 + 20) ≤ 28 * (8 * n + 14) from (om_a843c7c5cc hn196)⟩ (List.range (cW ad pr N cI cR L1 L2 u185).length) (rg_map _) (nd_range _) 2 rfl rfl rfl rfl hl.1 rfl (Nat.le_of_ble_eq_true rfl) dX2_change_120 ⟨Nat.le_of_ble_eq_true rfl, Nat.le_of_ble_eq_true rfl⟩) hP hD hS hA (fun u9 ce9 q9 H locs hx9 hP hD hS hc9 hv9 hf9 => ?_) (fun u208 H locs hw207 hP hD hS hz8 => ?_)
          · exact vx_out (fun x h9 => (hnt x h9).elim) hlocks hc9 hv9 hf9 (fun t9 ht9 hv8 => ⟨u9, ⟨FC.tr (FC.tr (FC.tr (FC.rf _) (FC.up fr175 (by decide) (by decide))) (FC.up fr184 (by decide) (by decide))) hx9.1, hx9.2.1, ⟨z304, z305, z306, z312, z321, z326, z373, z381, zd, zlb, zr, r3, ex1, (Or.inr (⟨z171, (Or.inl ⟨z173, r177, u176, ex175, ⟨fr175, rs175⟩, (Or.inl ⟨z179, (Or.inr (⟨u185, ex184, ⟨fr184, i305184, i306184, pj184, pt184, rs184⟩, r191, ex189, z193, (Or.inl ⟨u9, (by rw [hn196]; exact hx9.2.2), rfl, rfl⟩)⟩))⟩)⟩)⟩))⟩⟩, ⟨rfl, by rw [ht9]; exact hP, hD⟩, hS.F ht9⟩) hS.2.2 (Nat.le_refl _) (Nat.le_refl _)
          refine W.shrink (hz8.trans hz9) ?_
          obtain ⟨fr207, ex207, i305207, i306207, i321207, i326207, i381207, pd207, pt207, plb207, po207, rs207⟩ := hw207
          have i305207 : 0 ≤ (u208.1 0 305).toInt ∧ (u208.1 0 305).toInt ≤ 1500 := i305207
          have i306207 : 0 ≤ (u208.1 0 306).toInt ∧ (u208.1 0 306).toInt ≤ 40 := i306207
          have i321207 : 0 ≤ (u208.1 0 321).toInt ∧ (u208.1 0 321).toInt ≤ 501 := i321207
          have i326207 : 0 ≤ (u208.1 0 326).toInt ∧ (u208.1 0 326).toInt ≤ 420 := i326207
          have i381207 : 0 ≤ (u208.1 0 381).toInt ∧ (u208.1 0 381).toInt ≤ 3008 := i381207
          have pd207 : (u208.1 0 381).toInt + (u208.1 0 326).toInt - 2 * (u208.1 0 305).toInt + (1) ≤ (u185.1 0 381).toInt + (u185.1 0 326).toInt - 2 * (u185.1 0 305).toInt := pd207
          have pt207 : (u185.1 0 305).toInt + 1 ≤ (u208.1 0 305).toInt := pt207
          have plb207 : (u185.1 0 317).toInt ≤ (u208.1 0 317).toInt ∧ (u208.1 0 317).toInt - 4 * (u208.1 0 305).toInt ≤ (u185.1 0 317).toInt - 4 * (u185.1 0 305).toInt + 0 := plb207
          have po207 : (u208.1 0 306).toInt = (u185.1 0 306).toInt := po207
          have rs207 : RS u185 u208 := rs207
          refine lv_goto (tgt := 138) hx hb dX2_change_123 (by decide) ?_
          refine lv_iload_n hx hb dX2_change_138 rfl (lv_at hl 6 rfl) ?_
          refine lv_if_eq (tgt := 170) hx hb dX2_change_139 (by decide) (fun h210 => ?_) (fun h210 => ?_)
          · have z211 : pc1.toInt = (0 : Int) := eq_z rfl (show (0 : Int32).toInt = (0 : Int) by decide) h210
            refine lv_iload_n hx hb dX2_change_170 rfl (lv_at hl 4 rfl) ?_
            refine lv_iconst (v := -1) hx hb dX2_change_171 (by decide) ?_
            refine lv_icmp_eq (tgt := 188) hx hb dX2_change_172 (by decide) (fun h212 => ?_) (fun h212 => ?_)
            · have z213 : pa.toInt = (-1 : Int) := eq_z rfl (show ((-1) : Int32).toInt = (-1 : Int) by decide) h212
              refine lv_aload_n hx hb dX2_change_188 rfl (lv_at hl 3 rfl) ?_
              refine va_get (D := (dC, dI)) (ci := 6) (fs := oF_X2 ad pr u208) (v := .ref (ad 901)) (C := RX2) (T := TX2) (N := 5) hx hb ht itX2 hown hK hP 2 rfl rfl 1 (by decide) (ht _ tw_498) (fun _ h9 => h9) rfl dX2_change_189 ?_
              refine lv_bipush (v := 6) hx hb dX2_change_192 (by decide) ?_
              refine lv_iload_n hx hb dX2_change_194 rfl (lv_at hl 5 rfl) ?_
              refine lv_iconst (v := 0) hx hb dX2_change_195 (by decide) ?_
              refine cu_v (rn_Vk (n := 3) (As := [.int 6, .int pb, .int 0]) (rest := []) hx hb hml hown ht hKK hFx hP hD hS hA (c_x_X1_add l dC dI cI cB cZ cJ cR tb H.size ad pr N L1 L2 u208 (6 : Int32) pb (0 : Int32) ps (show 0 ≤ (u208.1 0 381).toInt ∧ (u208.1 0 381).toInt ≤ 3008 from (om_1e9e73a1b5 zd q181 q200 q203 q201 q204 pt184 i305207 i326207 i381207 pd207)) (show pr ps = ad 908 from hps) (show (u208.1 0 310) = ps from (Eq.trans (fr207.2.1 310 (by decide)) (Eq.trans (fr184.2.1 310 (by decide)) (Eq.trans (fr175.2.1 310 (by decide)) es310)))) (show (u208.1 0 381).toInt < 3008 from (om_a98dcd8a8b zd q181 q200 q203 q201 q204 pt184 i305207 i326207 pd207))) tw_499 tw_500 (by decide +kernel) rfl rfl ⟨show 0 + 1 ≤ 8 * n + 14 from om_2d92e09058, show 8 + (5 + 11) + 0 ≤ 28 * (8 * n + 14) from om_f68798533e⟩ (List.range (cW ad pr N cI cR L1 L2 u208).length) (rg_map _) (nd_range _) 1 rfl rfl rfl rfl hl.1 rfl (Nat.le_of_ble_eq_true rfl) dX2_change_196 ⟨Nat.le_of_ble_eq_true rfl, Nat.le_of_ble_eq_true rfl⟩) hP hD hS hA (fun u215 H locs hw214 hP hD hS => ?_)
              obtain ⟨fr214, ex214, i381214, pd214, rs214⟩ := hw214
              have i381214 : 0 ≤ (u215.1 0 381).toInt ∧ (u215.1 0 381).toInt ≤ 3008 := i381214
              have pd214 : (u215.1 0 381).toInt = (u208.1 0 381).toInt + 1 := pd214
              have rs214 : RS u208 u215 := rs214
              refine W.widen (k := 0) (n := 0) (Nat.le_refl _) (Nat.le_refl _) ?_
              refine lv_aload_n hx hb dX2_change_199 rfl (lv_at hl 3 rfl) ?_
              refine va_get (D := (dC, dI)) (ci := 6) (fs := oF_X2 ad pr u215) (v := .ref (ad 900)) (C := RX2) (T := TX2) (N := 5) hx hb ht itX2 hown hK hP 2 rfl rfl 0 (by decide) (ht _ tw_509) (fun _ h9 => h9) rfl dX2_change_200 ?_
              have q217 : (u215.1 0 306).toInt = (u208.1 0 306).toInt := congrArg Int32.toInt ((fr214.2.1 306 (by decide)).trans (show u208.1 0 306 = (u208.1 0 306) by rfl))
              refine cu_v (rn_Vk (n := 0) (As := []) (rest := []) hx hb hml hown ht hKK hFx hP hD hS hA (c_x_X9_close l dC dI cI cB cZ cJ cR tb H.size ad pr N L1 L2 u215  (show 0 ≤ (u215.1 0 306).toInt ∧ (u215.1 0 306).toInt ≤ 40 from (om_99e115f631 i306207 q217)) (show 1 ≤ (u215.1 0 306).toInt from (om_99c73a5d23 z306 q182 pj184 po207 q217))) tw_528 tw_529 (by decide +kernel) rfl rfl ⟨show 0 + 1 ≤ 8 * n + 14 from om_2d92e09058, show 8 + (1 + 11) + 0 ≤ 28 * (8 * n + 14) from om_289622e6d2⟩ (List.range (cW ad pr N cI cR L1 L2 u215).length) (rg_map _) (nd_range _) 0 rfl rfl rfl rfl hl.1 rfl (Nat.le_of_ble_eq_true rfl) dX2_change_203 ⟨Nat.le_of_ble_eq_true rfl, Nat.le_of_ble_eq_true rfl⟩) hP hD hS hA (fun u219 H locs hw218 hP hD hS => ?_)
              obtain ⟨fr218, ex218, i306218, pj218, rs218⟩ := hw218
              have i306218 : 0 ≤ (u219.1 0 306).toInt ∧ (u219.1 0 306).toInt ≤ 40 := i306218
              have pj218 : (u219.1 0 306).toInt = (u215.1 0 306).toInt - 1 := pj218
              have rs218 : RS u215 u219 := rs218
              refine W.widen (k := 0) (n := 0) (Nat.le_refl _) (Nat.le_refl _) ?_
              have q221 : (u215.1 0 305).toInt = (u208.1 0 305).toInt := congrArg Int32.toInt ((fr214.2.1 305 (by decide)).trans (show u208.1 0 305 = (u208.1 0 305) by rfl))
              have q222 : (u219.1 0 305).toInt = (u215.1 0 305).toInt := congrArg Int32.toInt ((fr218.2.1 305 (by decide)).trans (show u215.1 0 305 = (u215.1 0 305) by rfl))
              have q223 : (u215.1 0 321).toInt = (u208.1 0 321).toInt := congrArg Int32.toInt ((fr214.2.1 321 (by decide)).trans (show u208.1 0 321 = (u208.1 0 321) by rfl))
              have q224 : (u219.1 0 321).toInt = (u215.1 0 321).toInt := congrArg Int32.toInt ((fr218.2.1 321 (by decide)).trans (show u215.1 0 321 = (u215.1 0 321) by rfl))
              have q225 : (u215.1 0 326).toInt = (u208.1 0 326).toInt := congrArg Int32.toInt ((fr214.2.1 326 (by decide)).trans (show u208.1 0 326 = (u208.1 0 326) by rfl))
              have q226 : (u219.1 0 326).toInt = (u215.1 0 326).toInt := congrArg Int32.toInt ((fr218.2.1 326 (by decide)).trans (show u215.1 0 326 = (u215.1 0 326) by rfl))
              have q227 : (u219.1 0 381).toInt = (u215.1 0 381).toInt := congrArg Int32.toInt ((fr218.2.1 381 (by decide)).trans (show u215.1 0 381 = (u215.1 0 381) by rfl))
              have q228 : (u215.1 0 317).toInt = (u208.1 0 317).toInt := congrArg Int32.toInt ((fr214.2.1 317 (by decide)).trans (show u208.1 0 317 = (u208.1 0 317) by rfl))
              have q229 : (u219.1 0 317).toInt = (u215.1 0 317).toInt := congrArg Int32.toInt ((fr218.2.1 317 (by decide)).trans (show u215.1 0 317 = (u215.1 0 317) by rfl))
              refine W.sz (fun hz => ?_)
              refine vx_ret ?_
              refine W.widen (k := 1) (n := 6) (Nat.le_of_ble_eq_true rfl) (Nat.le_of_ble_eq_true rfl) ?_
              exact W.vret hx hb hr (fun t ht9 hW => ⟨⟨u219, rfl, ⟨(FC.tr (FC.tr (FC.tr (FC.tr (FC.tr (FC.rf _) (FC.up fr175 (by decide) (by decide))) (FC.up fr184 (by decide) (by decide))) (FC.up fr207 (by decide) (by decide))) (FC.up fr214 (by decide) (by decide))) (FC.up fr218 (by decide) (by decide))), ⟨z304, z305, z306, z312, z321, z326, z373, z381, zd, zlb, zr, r3, ex1, (Or.inr (⟨z171, (Or.inl ⟨z173, r177, u176, ex175, ⟨fr175, rs175⟩, (Or.inl ⟨z179, (Or.inr (⟨u185, ex184, ⟨fr184, i305184, i306184, pj184, pt184, rs184⟩, r191, ex189, z193, (Or.inr (⟨u208, (by rw [hn196]; exact ex207), ⟨fr207, i305207, i306207, i321207, i326207, i381207, pd207, pt207, plb207, po207, rs207⟩, z211, (Or.inl ⟨z213, u215, ex214, ⟨fr214, i381214, pd214, rs214⟩, u219, ex218, ⟨fr218, i306218, pj218, rs218⟩, rfl, rfl⟩)⟩))⟩))⟩)⟩)⟩))⟩, (show 0 ≤ (u219.1 0 305).toInt ∧ (u219.1 0 305).toInt ≤ 1500 from (om_8637b84507 z326 z381 zd q181 pt184 i305207 pt207 q221 q222)), (show 0 ≤ (u219.1 0 306).toInt ∧ (u219.1 0 306).toInt ≤ 40 from (om_7eaf33e007 i306218)), (show 0 ≤ (u219.1 0 321).toInt ∧ (u219.1 0 321).toInt ≤ 501 from (om_4dfa815534 i321207 q223 q224)), (show 0 ≤ (u219.1 0 326).toInt ∧ (u219.1 0 326).toInt ≤ 420 from (om_9591dea625 i326207 q225 q226)), (show 0 ≤ (u219.1 0 381).toInt ∧ (u219.1 0 381).toInt ≤ 3008 from (om_b924cc77a7 zd q181 q200 q203 q201 q204 pt184 i305207 i326207 i381207 pd207 pd214 q227)), (show (u219.1 0 381).toInt + (u219.1 0 326).toInt - 2 * (u219.1 0 305).toInt + (-1 - pc1.toInt) ≤ (v.1 0 381).toInt + (v.1 0 326).toInt - 2 * (v.1 0 305).toInt from (om_b40e433f70 zr q181 q200 q203 q201 q204 pt184 pd207 q221 q225 pd214 q222 q226 q227)), (show (v.1 0 305).toInt + 2 ≤ (u219.1 0 305).toInt from (om_ff587b6fdf q181 pt184 pt207 q221 q222)), (show (v.1 0 317).toInt ≤ (u219.1 0 317).toInt ∧ (u219.1 0 317).toInt - 4 * (u219.1 0 305).toInt ≤ (v.1 0 317).toInt - 4 * (v.1 0 305).toInt + 0 from (om_b43afd939b q181 q205 q206 pt184 plb207 q221 q228 q222 q229)), (show (u219.1 0 306).toInt = (v.1 0 306).toInt from (om_4c2747e16f q182 pj184 po207 q217 pj218)), (RS.tr (RS.tr (RS.tr (RS.tr (RS.tr RS.rf rs175) rs184) rs207) rs214) rs218)⟩, ⟨by rw [ht9]; exact hP, hD⟩, by rw [ht9]; exact hz⟩, hS.F ht9⟩) hS.2.2 dX2_change_206
            · have z230 : pa.toInt ≠ (-1 : Int) := ne_z rfl (show ((-1) : Int32).toInt = (-1 : Int) by decide) h212
              refine lv_aload_n hx hb dX2_change_175 rfl (lv_at hl 3 rfl) ?_
              refine va_get (D := (dC, dI)) (ci := 6) (fs := oF_X2 ad pr u208) (v := .ref (ad 901)) (C := RX2) (T := TX2) (N := 5) hx hb ht itX2 hown hK hP 2 rfl rfl 1 (by decide) (ht _ tw_498) (fun _ h9 => h9) rfl dX2_change_176 ?_
              refine lv_iconst (v := 4) hx hb dX2_change_179 (by decide) ?_
              refine lv_iload_n hx hb dX2_change_180 rfl (lv_at hl 4 rfl) ?_
              refine lv_iconst (v := 0) hx hb dX2_change_181 (by decide) ?_
              refine cu_v (rn_Vk (n := 3) (As := [.int 4, .int pa, .int 0]) (rest := []) hx hb hml hown ht hKK hFx hP hD hS hA (c_x_X1_add l dC dI cI cB cZ cJ cR tb H.size ad pr N L1 L2 u208 (4 : Int32) pa (0 : Int32) ps (show 0 ≤ (u208.1 0 381).toInt ∧ (u208.1 0 381).toInt ≤ 3008 from (om_1e9e73a1b5 zd q181 q200 q203 q201 q204 pt184 i305207 i326207 i381207 pd207)) (show pr ps = ad 908 from hps) (show (u208.1 0 310) = ps from (Eq.trans (fr207.2.1 310 (by decide)) (Eq.trans (fr184.2.1 310 (by decide)) (Eq.trans (fr175.2.1 310 (by decide)) es310)))) (show (u208.1 0 381).toInt < 3008 from (om_a98dcd8a8b zd q181 q200 q203 q201 q204 pt184 i305207 i326207 pd207))) tw_499 tw_500 (by decide +kernel) rfl rfl ⟨show 0 + 1 ≤ 8 * n + 14 from om_2d92e09058, show 8 + (5 + 11) + 0 ≤ 28 * (8 * n + 14) from om_f68798533e⟩ (List.range (cW ad pr N cI cR L1 L2 u208).length) (rg_map _) (nd_range _) 1 rfl rfl rfl rfl hl.1 rfl (Nat.le_of_ble_eq_true rfl) dX2_change_182 ⟨Nat.le_of_ble_eq_true rfl, Nat.le_of_ble_eq_true rfl⟩) hP hD hS hA (fun u232 H locs hw231 hP hD hS => ?_)
              obtain ⟨fr231, ex231, i381231, pd231, rs231⟩ := hw231
              have i381231 : 0 ≤ (u232.1 0 381).toInt ∧ (u232.1 0 381).toInt ≤ 3008 := i381231
              have pd231 : (u232.1 0 381).toInt = (u208.1 0 381).toInt + 1 := pd231
              have rs231 : RS u208 u232 := rs231
              refine W.widen (k := 0) (n := 0) (Nat.le_refl _) (Nat.le_refl _) ?_
              refine lv_goto (tgt := 199) hx hb dX2_change_185 (by decide) ?_
              refine lv_aload_n hx hb dX2_change_199 rfl (lv_at hl 3 rfl) ?_
              refine va_get (D := (dC, dI)) (ci := 6) (fs := oF_X2 ad pr u232) (v := .ref (ad 900)) (C := RX2) (T := TX2) (N := 5) hx hb ht itX2 hown hK hP 2 rfl rfl 0 (by decide) (ht _ tw_509) (fun _ h9 => h9) rfl dX2_change_200 ?_
              have q234 : (u232.1 0 306).toInt = (u208.1 0 306).toInt := congrArg Int32.toInt ((fr231.2.1 306 (by decide)).trans (show u208.1 0 306 = (u208.1 0 306) by rfl))
              refine cu_v (rn_Vk (n := 0) (As := []) (rest := []) hx hb hml hown ht hKK hFx hP hD hS hA (c_x_X9_close l dC dI cI cB cZ cJ cR tb H.size ad pr N L1 L2 u232  (show 0 ≤ (u232.1 0 306).toInt ∧ (u232.1 0 306).toInt ≤ 40 from (om_99e115f631 i306207 q234)) (show 1 ≤ (u232.1 0 306).toInt from (om_99c73a5d23 z306 q182 pj184 po207 q234))) tw_528 tw_529 (by decide +kernel) rfl rfl ⟨show 0 + 1 ≤ 8 * n + 14 from om_2d92e09058, show 8 + (1 + 11) + 0 ≤ 28 * (8 * n + 14) from om_289622e6d2⟩ (List.range (cW ad pr N cI cR L1 L2 u232).length) (rg_map _) (nd_range _) 0 rfl rfl rfl rfl hl.1 rfl (Nat.le_of_ble_eq_true rfl) dX2_change_203 ⟨Nat.le_of_ble_eq_true rfl, Nat.le_of_ble_eq_true rfl⟩) hP hD hS hA (fun u236 H locs hw235 hP hD hS => ?_)
              obtain ⟨fr235, ex235, i306235, pj235, rs235⟩ := hw235
              have i306235 : 0 ≤ (u236.1 0 306).toInt ∧ (u236.1 0 306).toInt ≤ 40 := i306235
              have pj235 : (u236.1 0 306).toInt = (u232.1 0 306).toInt - 1 := pj235
              have rs235 : RS u232 u236 := rs235
              refine W.widen (k := 0) (n := 0) (Nat.le_refl _) (Nat.le_refl _) ?_
              have q238 : (u232.1 0 305).toInt = (u208.1 0 305).toInt := congrArg Int32.toInt ((fr231.2.1 305 (by decide)).trans (show u208.1 0 305 = (u208.1 0 305) by rfl))
              have q239 : (u236.1 0 305).toInt = (u232.1 0 305).toInt := congrArg Int32.toInt ((fr235.2.1 305 (by decide)).trans (show u232.1 0 305 = (u232.1 0 305) by rfl))
              have q240 : (u232.1 0 321).toInt = (u208.1 0 321).toInt := congrArg Int32.toInt ((fr231.2.1 321 (by decide)).trans (show u208.1 0 321 = (u208.1 0 321) by rfl))
              have q241 : (u236.1 0 321).toInt = (u232.1 0 321).toInt := congrArg Int32.toInt ((fr235.2.1 321 (by decide)).trans (show u232.1 0 321 = (u232.1 0 321) by rfl))
              have q242 : (u232.1 0 326).toInt = (u208.1 0 326).toInt := congrArg Int32.toInt ((fr231.2.1 326 (by decide)).trans (show u208.1 0 326 = (u208.1 0 326) by rfl))
              have q243 : (u236.1 0 326).toInt = (u232.1 0 326).toInt := congrArg Int32.toInt ((fr235.2.1 326 (by decide)).trans (show u232.1 0 326 = (u232.1 0 326) by rfl))
              have q244 : (u236.1 0 381).toInt = (u232.1 0 381).toInt := congrArg Int32.toInt ((fr235.2.1 381 (by decide)).trans (show u232.1 0 381 = (u232.1 0 381) by rfl))
              have q245 : (u232.1 0 317).toInt = (u208.1 0 317).toInt := congrArg Int32.toInt ((fr231.2.1 317 (by decide)).trans (show u208.1 0 317 = (u208.1 0 317) by rfl))
              have q246 : (u236.1 0 317).toInt = (u232.1 0 317).toInt := congrArg Int32.toInt ((fr235.2.1 317 (by decide)).trans (show u232.1 0 317 = (u232.1 0 317) by rfl))
              refine W.sz (fun hz => ?_)
              refine vx_ret ?_
              refine W.widen (k := 1) (n := 6) (Nat.le_of_ble_eq_true rfl) (Nat.le_of_ble_eq_true rfl) ?_
              exact W.vret hx hb hr (fun t ht9 hW => ⟨⟨u236, rfl, ⟨(FC.tr (FC.tr (FC.tr (FC.tr (FC.tr (FC.rf _) (FC.up fr175 (by decide) (by decide))) (FC.up fr184 (by decide) (by decide))) (FC.up fr207 (by decide) (by decide))) (FC.up fr231 (by decide) (by decide))) (FC.up fr235 (by decide) (by decide))), ⟨z304, z305, z306, z312, z321, z326, z373, z381, zd, zlb, zr, r3, ex1, (Or.inr (⟨z171, (Or.inl ⟨z173, r177, u176, ex175, ⟨fr175, rs175⟩, (Or.inl ⟨z179, (Or.inr (⟨u185, ex184, ⟨fr184, i305184, i306184, pj184, pt184, rs184⟩, r191, ex189, z193, (Or.inr (⟨u208, (by rw [hn196]; exact ex207), ⟨fr207, i305207, i306207, i321207, i326207, i381207, pd207, pt207, plb207, po207, rs207⟩, z211, (Or.inr (⟨z230, u232, ex231, ⟨fr231, i381231, pd231, rs231⟩, u236, ex235, ⟨fr235, i306235, pj235, rs235⟩, rfl, rfl⟩))⟩))⟩))⟩)⟩)⟩))⟩, (show 0 ≤ (u236.1 0 305).toInt ∧ (u236.1 0 305).toInt ≤ 1500 from (om_8637b84507 z326 z381 zd q181 pt184 i305207 pt207 q238 q239)), (show 0 ≤ (u236.1 0 306).toInt ∧ (u236.1 0 306).toInt ≤ 40 from (om_7eaf33e007 i306235)), (show 0 ≤ (u236.1 0 321).toInt ∧ (u236.1 0 321).toInt ≤ 501 from (om_4dfa815534 i321207 q240 q241)), (show 0 ≤ (u236.1 0 326).toInt ∧ (u236.1 0 326).toInt ≤ 420 from (om_9591dea625 i326207 q242 q243)), (show 0 ≤ (u236.1 0 381).toInt ∧ (u236.1 0 381).toInt ≤ 3008 from (om_b924cc77a7 zd q181 q200 q203 q201 q204 pt184 i305207 i326207 i381207 pd207 pd231 q244)), (show (u236.1 0 381).toInt + (u236.1 0 326).toInt - 2 * (u236.1 0 305).toInt + (-1 - pc1.toInt) ≤ (v.1 0 381).toInt + (v.1 0 326).toInt - 2 * (v.1 0 305).toInt from (om_b40e433f70 zr q181 q200 q203 q201 q204 pt184 pd207 q238 q242 pd231 q239 q243 q244)), (show (v.1 0 305).toInt + 2 ≤ (u236.1 0 305).toInt from (om_ff587b6fdf q181 pt184 pt207 q238 q239)), (show (v.1 0 317).toInt ≤ (u236.1 0 317).toInt ∧ (u236.1 0 317).toInt - 4 * (u236.1 0 305).toInt ≤ (v.1 0 317).toInt - 4 * (v.1 0 305).toInt + 0 from (om_b43afd939b q181 q205 q206 pt184 plb207 q238 q245 q239 q246)), (show (u236.1 0 306).toInt = (v.1 0 306).toInt from (om_4c2747e16f q182 pj184 po207 q234 pj235)), (RS.tr (RS.tr (RS.tr (RS.tr (RS.tr RS.rf rs175) rs184) rs207) rs231) rs235)⟩, ⟨by rw [ht9]; exact hP, hD⟩, by rw [ht9]; exact hz⟩, hS.F ht9⟩) hS.2.2 dX2_change_206
          · have z247 : pc1.toInt ≠ (0 : Int) := ne_z rfl (show (0 : Int32).toInt = (0 : Int) by decide) h210
            exact False.elim (om_b66186cd65 zr z173 z247)
        · have z248 : pc1.toInt ≠ (0 : Int) := ne_z rfl (show (0 : Int32).toInt = (0 : Int) by decide) h192
          exact False.elim (om_b66186cd65 zr z173 z248)
      · have z249 : r177.toInt = (0 : Int) := eq_z rfl (show (0 : Int32).toInt = (0 : Int) by decide) h178
        refine lv_aload_n hx hb dX2_change_53 rfl (lv_at hl 2 rfl) ?_
        refine va_get (D := (dC, dI)) (ci := 6) (fs := oF_X2 ad pr u176) (v := .ref (ad 900)) (C := RX2) (T := TX2) (N := 5) hx hb ht itX2 hown hK hP 2 rfl rfl 0 (by decide) (ht _ tw_509) (fun _ h9 => h9) rfl dX2_change_54 ?_
        refine lv_iconst (v := 5) hx hb dX2_change_57 (by decide) ?_
        refine lv_aload_n hx hb dX2_change_58 rfl (lv_at hl 2 rfl) ?_
        refine va_get (D := (dC, dI)) (ci := 6) (fs := oF_X2 ad pr u176) (v := .ref (ad 900)) (C := RX2) (T := TX2) (N := 5) hx hb ht itX2 hown hK hP 2 rfl rfl 0 (by decide) (ht _ tw_509) (fun _ h9 => h9) rfl dX2_change_59 ?_
        have q250 : (u176.1 0 304).toInt = (v.1 0 304).toInt := congrArg Int32.toInt ((fr175.2.1 304 (by decide)).trans (show v.1 0 304 = (v.1 0 304) by rfl))
        have q251 : (u176.1 0 305).toInt = (v.1 0 305).toInt := congrArg Int32.toInt ((fr175.2.1 305 (by decide)).trans (show v.1 0 305 = (v.1 0 305) by rfl))
        have q252 : (u176.1 0 373).toInt = (v.1 0 373).toInt := congrArg Int32.toInt ((fr175.2.1 373 (by decide)).trans (show v.1 0 373 = (v.1 0 373) by rfl))
        refine cu_i (rn_Vk (n := 0) (As := []) (rest := [.int 5, .ref (ad 900)]) hx hb hml hown ht hKK hFx hP hD hS hA (c_x_X9_place l dC dI cI cB cZ cJ cR tb H.size ad pr N L1 L2 u176 ps (show 0 ≤ (u176.1 0 304).toInt ∧ (u176.1 0 304).toInt ≤ 1503 from (om_73002589c1 z304 q250)) (show 0 ≤ (u176.1 0 305).toInt ∧ (u176.1 0 305).toInt ≤ 1500 from (om_02933c00b0 z305 z326 z381 zd q251)) (show 0 ≤ (u176.1 0 373).toInt ∧ (u176.1 0 373).toInt ≤ 4000 from (om_9084c127ed z373 q252)) (show pr ps = ad 908 from hps) (show (u176.1 0 300) = ps from (Eq.trans (fr175.2.1 300 (by decide)) es300))) tw_457 tw_510 (by decide +kernel) rfl rfl ⟨show 0 + 1 ≤ 8 * n + 14 from om_2d92e09058, show 8 + (1 + 11) + 0 ≤ 28 * (8 * n + 14) from om_289622e6d2⟩ (List.range (cW ad pr N cI cR L1 L2 u176).length) (rg_map _) (nd_range _) 0 rfl rfl rfl rfl hl.1 rfl (Nat.le_of_ble_eq_true rfl) dX2_change_62 ⟨Nat.le_of_ble_eq_true rfl, Nat.le_of_ble_eq_true rfl⟩) hP hD hS hA (fun r255 u254 H locs hw253 hP hD hS => ?_)
        obtain ⟨rfl, ex253⟩ := hw253
        refine W.widen (k := 0) (n := 0) (Nat.le_refl _) (Nat.le_refl _) ?_
        refine W.sz (fun hz9 => ?_)
        refine czx_v (rx_Vk (n := 2) (As := [.int 5, .int r255]) (rest := []) hx hb hml hown ht hKK hFx hP hD hS hA (c_x_X9_refuse l dC dI cI cB cZ cJ cR tb H.size ad pr N L1 L2 u176 (5 : Int32) r255 (show l.stackTraces = false from hst) (show (5 : Int) ≠ 0 from om_5e02973d50)) tw_459 tw_511 (by decide +kernel) rfl rfl ⟨show 6 + 1 ≤ 8 * n + 14 from om_03d1dde555, show 8 + (3 + 11) + 82 ≤ 28 * (8 * n + 14) from om_0d25788d50⟩ (List.range (cW ad pr N cI cR L1 L2 u176).length) (rg_map _) (nd_range _) 0 rfl rfl rfl rfl hl.1 rfl (Nat.le_of_ble_eq_true rfl) dX2_change_65 ⟨Nat.le_of_ble_eq_true rfl, Nat.le_of_ble_eq_true rfl⟩) hP hD hS hA (fun u9 ce9 q9 H locs hx9 hP hD hS hc9 hv9 hf9 => ?_) (fun u257 H locs hw256 hP hD hS hz8 => ?_)
        · exact vx_out (fun x h9 => (hnt x h9).elim) hlocks hc9 hv9 hf9 (fun t9 ht9 hv8 => ⟨u9, ⟨FC.tr (FC.tr (FC.rf _) (FC.up fr175 (by decide) (by decide))) hx9.1, hx9.2.1, ⟨z304, z305, z306, z312, z321, z326, z373, z381, zd, zlb, zr, r3, ex1, (Or.inr (⟨z171, (Or.inl ⟨z173, r177, u176, ex175, ⟨fr175, rs175⟩, (Or.inr (⟨z249, r255, ex253, u9, hx9.2.2, rfl, rfl⟩))⟩)⟩))⟩⟩, ⟨rfl, by rw [ht9]; exact hP, hD⟩, hS.F ht9⟩) hS.2.2 (Nat.le_refl _) (Nat.le_refl _)
        refine W.shrink (hz8.trans hz9) ?_
        obtain ⟨fr256, ex256, no256, rs256⟩ := hw256
        have no256 : False := no256
        have rs256 : RS u176 u257 := rs256
        exact no256.elim
    · have z259 : pc1.toInt ≠ (0 : Int) := ne_z rfl (show (0 : Int32).toInt = (0 : Int) by decide) h172
      refine lv_iconst (v := 1) hx hb dX2_change_31 (by decide) ?_
      refine lv_goto (tgt := 36) hx hb dX2_change_32 (by decide) ?_
      refine lv_iload hx hb dX2_change_36 (lv_at hl 0 rfl) ?_
      refine lv_if_eq (tgt := 45) hx hb dX2_change_38 (by decide) (fun k260 => absurd k260 (by decide)) (fun _ => ?_)
      refine lv_iconst (v := 0) hx hb dX2_change_41 (by decide) ?_
      refine lv_goto (tgt := 46) hx hb dX2_change_42 (by decide) ?_
      refine lv_iadd hx hb dX2_change_46 ?_
      refine tp_i (y := 1) (by decide) ?_
      refine cu_i (rn_Vk (n := 1) (As := [.int 1]) (rest := []) hx hb hml hown ht hKK hFx hP hD hS hA (c_x_X1_wantSlots l dC dI cI cB cZ cJ cR tb H.size ad pr N L1 L2 v (1 : Int32) (show 0 ≤ (v.1 0 312).toInt ∧ (v.1 0 312).toInt ≤ 500 from (om_9861e69da5 z312))) tw_507 tw_508 (by decide +kernel) rfl rfl ⟨show 1 + 1 ≤ 8 * n + 14 from om_c88d106276, show 8 + (3 + 11) + 15 ≤ 28 * (8 * n + 14) from om_ebf30c1e5c⟩ (List.range (cW ad pr N cI cR L1 L2 v).length) (rg_map _) (nd_range _) 1 rfl rfl rfl rfl hl.1 rfl (Nat.le_of_ble_eq_true rfl) dX2_change_47 ⟨Nat.le_of_ble_eq_true rfl, Nat.le_of_ble_eq_true rfl⟩) hP hD hS hA (fun r263 u262 H locs hw261 hP hD hS => ?_)
      obtain ⟨fr261, ex261, rs261, bz261⟩ := hw261
      refine W.widen (k := 0) (n := 0) (Nat.le_refl _) (Nat.le_refl _) ?_
      refine lv_if_ne (tgt := 68) hx hb dX2_change_50 (by decide) (fun h264 => ?_) (fun h264 => ?_)
      · have z265 : r263.toInt ≠ (0 : Int) := ne_z rfl (show (0 : Int32).toInt = (0 : Int) by decide) h264
        refine lv_aload_n hx hb dX2_change_68 rfl (lv_at hl 2 rfl) ?_
        refine va_get (D := (dC, dI)) (ci := 6) (fs := oF_X2 ad pr u262) (v := .ref (ad 900)) (C := RX2) (T := TX2) (N := 5) hx hb ht itX2 hown hK hP 2 rfl rfl 0 (by decide) (ht _ tw_509) (fun _ h9 => h9) rfl dX2_change_69 ?_
        have q266 : (u262.1 0 304).toInt = (v.1 0 304).toInt := congrArg Int32.toInt ((fr261.2.1 304 (by decide)).trans (show v.1 0 304 = (v.1 0 304) by rfl))
        have q267 : (u262.1 0 305).toInt = (v.1 0 305).toInt := congrArg Int32.toInt ((fr261.2.1 305 (by decide)).trans (show v.1 0 305 = (v.1 0 305) by rfl))
        have q268 : (u262.1 0 306).toInt = (v.1 0 306).toInt := congrArg Int32.toInt ((fr261.2.1 306 (by decide)).trans (show v.1 0 306 = (v.1 0 306) by rfl))
        have q269 : (u262.1 0 373).toInt = (v.1 0 373).toInt := congrArg Int32.toInt ((fr261.2.1 373 (by decide)).trans (show v.1 0 373 = (v.1 0 373) by rfl))
        refine W.sz (fun hz9 => ?_)
        refine czx_v (rx_Vk (n := 0) (As := []) (rest := []) hx hb hml hown ht hKK hFx hP hD hS hA (c_x_X9_open l dC dI cI cB cZ cJ cR tb H.size ad pr N L1 L2 u262 ps (show 0 ≤ (u262.1 0 304).toInt ∧ (u262.1 0 304).toInt ≤ 1503 from (om_73002589c1 z304 q266)) (show 0 ≤ (u262.1 0 305).toInt ∧ (u262.1 0 305).toInt ≤ 1500 from (om_02933c00b0 z305 z326 z381 zd q267)) (show 0 ≤ (u262.1 0 306).toInt ∧ (u262.1 0 306).toInt ≤ 40 from (om_99e115f631 z306 q268)) (show 0 ≤ (u262.1 0 373).toInt ∧ (u262.1 0 373).toInt ≤ 4000 from (om_9084c127ed z373 q269)) (show pr ps = ad 908 from hps) (show (u262.1 0 300) = ps from (Eq.trans (fr261.2.1 300 (by decide)) es300)) (show l.stackTraces = false from hst)) tw_524 tw_525 (by decide +kernel) rfl rfl ⟨show 7 + 1 ≤ 8 * n + 14 from om_46126d3ba0, show 8 + (1 + 11) + 104 ≤ 28 * (8 * n + 14) from om_6017b980b8⟩ (List.range (cW ad pr N cI cR L1 L2 u262).length) (rg_map _) (nd_range _) 0 rfl rfl rfl rfl hl.1 rfl (Nat.le_of_ble_eq_true rfl) dX2_change_72 ⟨Nat.le_of_ble_eq_true rfl, Nat.le_of_ble_eq_true rfl⟩) hP hD hS hA (fun u9 ce9 q9 H locs hx9 hP hD hS hc9 hv9 hf9 => ?_) (fun u271 H locs hw270 hP hD hS hz8 => ?_)
        · exact vx_out (fun x h9 => (hnt x h9).elim) hlocks hc9 hv9 hf9 (fun t9 ht9 hv8 => ⟨u9, ⟨FC.tr (FC.tr (FC.rf _) (FC.up fr261 (by decide) (by decide))) hx9.1, hx9.2.1, ⟨z304, z305, z306, z312, z321, z326, z373, z381, zd, zlb, zr, r3, ex1, (Or.inr (⟨z171, (Or.inr (⟨z259, r263, u262, ex261, ⟨fr261, rs261⟩, (Or.inl ⟨z265, (Or.inl ⟨u9, hx9.2.2, rfl, rfl⟩)⟩)⟩))⟩))⟩⟩, ⟨rfl, by rw [ht9]; exact hP, hD⟩, hS.F ht9⟩) hS.2.2 (Nat.le_refl _) (Nat.le_refl _)
        refine W.shrink (hz8.trans hz9) ?_
        obtain ⟨fr270, ex270, i305270, i306270, pj270, pt270, rs270⟩ := hw270
        have i305270 : 0 ≤ (u271.1 0 305).toInt ∧ (u271.1 0 305).toInt ≤ 1500 := i305270
        have i306270 : 0 ≤ (u271.1 0 306).toInt ∧ (u271.1 0 306).toInt ≤ 40 := i306270
        have pj270 : (u271.1 0 306).toInt = (u262.1 0 306).toInt + 1 := pj270
        have pt270 : (u271.1 0 305).toInt = (u262.1 0 305).toInt + 1 := pt270
        have rs270 : RS u262 u271 := rs270
        refine lv_aload_n hx hb dX2_change_75 rfl (lv_at hl 2 rfl) ?_
        refine va_get (D := (dC, dI)) (ci := 6) (fs := oF_X2 ad pr u271) (v := .ref (ad 901)) (C := RX2) (T := TX2) (N := 5) hx hb ht itX2 hown hK hP 2 rfl rfl 1 (by decide) (ht _ tw_498) (fun _ h9 => h9) rfl dX2_change_76 ?_
        have q273 : (u262.1 0 312).toInt = (v.1 0 312).toInt := congrArg Int32.toInt ((fr261.2.1 312 (by decide)).trans (show v.1 0 312 = (v.1 0 312) by rfl))
        have q274 : (u271.1 0 312).toInt = (u262.1 0 312).toInt := congrArg Int32.toInt ((fr270.2.1 312 (by decide)).trans (show u262.1 0 312 = (u262.1 0 312) by rfl))
        refine cu_i (rn_Vk (n := 0) (As := []) (rest := []) hx hb hml hown ht hKK hFx hP hD hS hA (c_x_X1_nextSlot l dC dI cI cB cZ cJ cR tb H.size ad pr N L1 L2 u271  (show 0 ≤ (u271.1 0 312).toInt ∧ (u271.1 0 312).toInt ≤ 500 from (om_8a5975ec21 z312 q273 q274))) tw_505 tw_506 (by decide +kernel) rfl rfl ⟨show 0 + 1 ≤ 8 * n + 14 from om_2d92e09058, show 8 + (1 + 11) + 0 ≤ 28 * (8 * n + 14) from om_289622e6d2⟩ (List.range (cW ad pr N cI cR L1 L2 u271).length) (rg_map _) (nd_range _) 1 rfl rfl rfl rfl hl.1 rfl (Nat.le_of_ble_eq_true rfl) dX2_change_79 ⟨Nat.le_of_ble_eq_true rfl, Nat.le_of_ble_eq_true rfl⟩) hP hD hS hA (fun r277 u276 H locs hw275 hP hD hS => ?_)
        obtain ⟨rfl, ex275⟩ := hw275
        refine W.widen (k := 0) (n := 0) (Nat.le_refl _) (Nat.le_refl _) ?_
        refine lv_istore (lv' := [(6, .int r277), (5, .int 1), (4, .int r3), (0, .ref (ad 902)), (1, .int pa), (2, .int pb), (3, .int pc1)]) hx hb dX2_change_82 hl (by decide) rfl (fun ls hl => ?_)
        refine lv_iload_n hx hb dX2_change_84 rfl (lv_at hl 6 rfl) ?_
        refine lv_if_eq (tgt := 113) hx hb dX2_change_85 (by decide) (fun h278 => ?_) (fun h278 => ?_)
        · have z279 : pc1.toInt = (0 : Int) := eq_z rfl (show (0 : Int32).toInt = (0 : Int) by decide) h278
          exact False.elim (om_836858dbd1 zr z259 z279)
        · have z280 : pc1.toInt ≠ (0 : Int) := ne_z rfl (show (0 : Int32).toInt = (0 : Int) by decide) h278
          refine lv_aload_n hx hb dX2_change_88 rfl (lv_at hl 3 rfl) ?_
          refine va_get (D := (dC, dI)) (ci := 6) (fs := oF_X2 ad pr u271) (v := .ref (ad 901)) (C := RX2) (T := TX2) (N := 5) hx hb ht itX2 hown hK hP 2 rfl rfl 1 (by decide) (ht _ tw_498) (fun _ h9 => h9) rfl dX2_change_89 ?_
          refine lv_bipush (v := 9) hx hb dX2_change_92 (by decide) ?_
          refine lv_iload_n hx hb dX2_change_94 rfl (lv_at hl 5 rfl) ?_
          refine lv_iload hx hb dX2_change_95 (lv_at hl 0 rfl) ?_
          have q281 : (u262.1 0 381).toInt = (v.1 0 381).toInt := congrArg Int32.toInt ((fr261.2.1 381 (by decide)).trans (show v.1 0 381 = (v.1 0 381) by rfl))
          have q282 : (u271.1 0 381).toInt = (u262.1 0 381).toInt := congrArg Int32.toInt ((fr270.2.1 381 (by decide)).trans (show u262.1 0 381 = (u262.1 0 381) by rfl))
          refine cu_v (rn_Vk (n := 3) (As := [.int 9, .int pb, .int r277]) (rest := []) hx hb hml hown ht hKK hFx hP hD hS hA (c_x_X1_add l dC dI cI cB cZ cJ cR tb H.size ad pr N L1 L2 u271 (9 : Int32) pb r277 ps (show 0 ≤ (u271.1 0 381).toInt ∧ (u271.1 0 381).toInt ≤ 3008 from (om_262b63cd5c z305 z326 z381 zd q281 q282)) (show pr ps = ad 908 from hps) (show (u271.1 0 310) = ps from (Eq.trans (fr270.2.1 310 (by decide)) (Eq.trans (fr261.2.1 310 (by decide)) es310))) (show (u271.1 0 381).toInt < 3008 from (om_0e395a39f1 z305 z326 zd q281 q282))) tw_499 tw_500 (by decide +kernel) rfl rfl ⟨show 0 + 1 ≤ 8 * n + 14 from om_2d92e09058, show 8 + (5 + 11) + 0 ≤ 28 * (8 * n + 14) from om_f68798533e⟩ (List.range (cW ad pr N cI cR L1 L2 u271).length) (rg_map _) (nd_range _) 1 rfl rfl rfl rfl hl.1 rfl (Nat.le_of_ble_eq_true rfl) dX2_change_97 ⟨Nat.le_of_ble_eq_true rfl, Nat.le_of_ble_eq_true rfl⟩) hP hD hS hA (fun u284 H locs hw283 hP hD hS => ?_)
          obtain ⟨fr283, ex283, i381283, pd283, rs283⟩ := hw283
          have i381283 : 0 ≤ (u284.1 0 381).toInt ∧ (u284.1 0 381).toInt ≤ 3008 := i381283
          have pd283 : (u284.1 0 381).toInt = (u271.1 0 381).toInt + 1 := pd283
          have rs283 : RS u271 u284 := rs283
          refine W.widen (k := 0) (n := 0) (Nat.le_refl _) (Nat.le_refl _) ?_
          refine lv_aload_n hx hb dX2_change_100 rfl (lv_at hl 3 rfl) ?_
          refine va_get (D := (dC, dI)) (ci := 6) (fs := oF_X2 ad pr u284) (v := .ref (ad 901)) (C := RX2) (T := TX2) (N := 5) hx hb ht itX2 hown hK hP 2 rfl rfl 1 (by decide) (ht _ tw_498) (fun _ h9 => h9) rfl dX2_change_101 ?_
          refine lv_dup hx hb dX2_change_104 rfl ?_
          refine va_getN (D := (dC, dI)) (ci := 5) (fs := oF_X1 ad pr u284) (v := .int (u284.1 0 314)) (C := RX1) (T := TX1) (N := 12) hx hb ht itX1 hown hK hP 1 rfl rfl 4 (by decide) (hKK.fl2 6 rfl) (fun _ h9 => h9) rfl dX2_change_105 ?_
          refine lv_iconst (v := 1) hx hb dX2_change_108 (by decide) ?_
          refine lv_iadd hx hb dX2_change_109 ?_
          refine va_putN (D := (dC, dI)) (ci := 5) (fs := oF_X1 ad pr u284) (v := .int ((u284.1 0 314) + (1 : Int32))) (ty := .int) (C := RX1) (T := TX1) (N := 12) hx hb ht itX1 tyX1 tyX1_ok nmX1 hown hK hP hD hS 1 rfl rfl 4 (by decide) (hKK.fl2 6 rfl) (fun _ h9 => h9) rfl (by decide +kernel) rfl rfl (Nat.le_of_ble_eq_true rfl) dX2_change_110 (fun H locs hP hD hS => ?_)
          have hP := cP_ (cw_314 ad pr N cI cR L1 L2 u284 ((u284.1 0 314) + (1 : Int32))) hP
          have hD := cD_ (cw_314 ad pr N cI cR L1 L2 u284 ((u284.1 0 314) + (1 : Int32))) hD
          refine lv_iload hx hb dX2_change_113 (lv_at hl 1 rfl) ?_
          refine lv_if_eq (tgt := 126) hx hb dX2_change_115 (by decide) (fun k286 => absurd k286 (by decide)) (fun _ => ?_)
          refine lv_aload_n hx hb dX2_change_118 rfl (lv_at hl 3 rfl) ?_
          refine lv_iconst (v := 1) hx hb dX2_change_119 (by decide) ?_
          obtain ⟨n287, hn288⟩ : ∃ m, n = m + 1 := ex_z (om_5ac3184894 zn q268 i306270 pj270)
          have q289 : (u271.1 0 304).toInt = (u262.1 0 304).toInt := congrArg Int32.toInt ((fr270.2.1 304 (by decide)).trans (show u262.1 0 304 = (u262.1 0 304) by rfl))
          have q290 : (u284.1 0 304).toInt = (u271.1 0 304).toInt := congrArg Int32.toInt ((fr283.2.1 304 (by decide)).trans (show u271.1 0 304 = (u271.1 0 304) by rfl))
          have q291 : (u284.1 0 305).toInt = (u271.1 0 305).toInt := congrArg Int32.toInt ((fr283.2.1 305 (by decide)).trans (show u271.1 0 305 = (u271.1 0 305) by rfl))
          have q292 : (u284.1 0 306).toInt = (u271.1 0 306).toInt := congrArg Int32.toInt ((fr283.2.1 306 (by decide)).trans (show u271.1 0 306 = (u271.1 0 306) by rfl))
          have q293 : (u284.1 0 312).toInt = (u271.1 0 312).toInt := congrArg Int32.toInt ((fr283.2.1 312 (by decide)).trans (show u271.1 0 312 = (u271.1 0 312) by rfl))
          have q294 : (u262.1 0 321).toInt = (v.1 0 321).toInt := congrArg Int32.toInt ((fr261.2.1 321 (by decide)).trans (show v.1 0 321 = (v.1 0 321) by rfl))
          have q295 : (u271.1 0 321).toInt = (u262.1 0 321).toInt := congrArg Int32.toInt ((fr270.2.1 321 (by decide)).trans (show u262.1 0 321 = (u262.1 0 321) by rfl))
          have q296 : (u284.1 0 321).toInt = (u271.1 0 321).toInt := congrArg Int32.toInt ((fr283.2.1 321 (by decide)).trans (show u271.1 0 321 = (u271.1 0 321) by rfl))
          have q297 : (u262.1 0 326).toInt = (v.1 0 326).toInt := congrArg Int32.toInt ((fr261.2.1 326 (by decide)).trans (show v.1 0 326 = (v.1 0 326) by rfl))
          have q298 : (u271.1 0 326).toInt = (u262.1 0 326).toInt := congrArg Int32.toInt ((fr270.2.1 326 (by decide)).trans (show u262.1 0 326 = (u262.1 0 326) by rfl))
          have q299 : (u284.1 0 326).toInt = (u271.1 0 326).toInt := congrArg Int32.toInt ((fr283.2.1 326 (by decide)).trans (show u271.1 0 326 = (u271.1 0 326) by rfl))
          have q300 : (u271.1 0 373).toInt = (u262.1 0 373).toInt := congrArg Int32.toInt ((fr270.2.1 373 (by decide)).trans (show u262.1 0 373 = (u262.1 0 373) by rfl))
          have q301 : (u284.1 0 373).toInt = (u271.1 0 373).toInt := congrArg Int32.toInt ((fr283.2.1 373 (by decide)).trans (show u271.1 0 373 = (u271.1 0 373) by rfl))
          have q302 : (u262.1 0 317).toInt = (v.1 0 317).toInt := congrArg Int32.toInt ((fr261.2.1 317 (by decide)).trans (show v.1 0 317 = (v.1 0 317) by rfl))
          have q303 : (u271.1 0 317).toInt = (u262.1 0 317).toInt := congrArg Int32.toInt ((fr270.2.1 317 (by decide)).trans (show u262.1 0 317 = (u262.1 0 317) by rfl))
          have q304 : (u284.1 0 317).toInt = (u271.1 0 317).toInt := congrArg Int32.toInt ((fr283.2.1 317 (by decide)).trans (show u271.1 0 317 = (u271.1 0 317) by rfl))
          refine W.sz (fun hz9 => ?_)
          refine czx_v (rx_Vk (n := 1) (As := [.int 1]) (rest := []) hx hb hml hown ht hKK hFx hP hD hS hA (ihE n287 hn288 dC dI cI cB cZ cJ cR tb H.size ad pr N L1 L2 (wA u284 0 314 ((u284.1 0 314) + (1 : Int32))) (1 : Int32) ps (show 0 ≤ (u284.1 0 304).toInt ∧ (u284.1 0 304).toInt ≤ 1503 from (om_57e3d9ffbd z304 q266 q289 q290)) (show 0 ≤ (u284.1 0 305).toInt ∧ (u284.1 0 305).toInt ≤ 1500 from (om_705126c6e9 z326 z381 zd q267 i305270 pt270 q291)) (show 0 ≤ (u284.1 0 306).toInt ∧ (u284.1 0 306).toInt ≤ 40 from (om_2a247253ed z306 q268 i306270 pj270 q292)) (show 0 ≤ (u284.1 0 312).toInt ∧ (u284.1 0 312).toInt ≤ 500 from (om_a369f3fea6 z312 q273 q274 q293)) (show 0 ≤ (u284.1 0 321).toInt ∧ (u284.1 0 321).toInt ≤ 501 from (om_ca65317fd6 z321 q294 q295 q296)) (show 0 ≤ (u284.1 0 326).toInt ∧ (u284.1 0 326).toInt ≤ 420 from (om_ba86cd30dc z326 q297 q298 q299)) (show 0 ≤ (u284.1 0 373).toInt ∧ (u284.1 0 373).toInt ≤ 4000 from (om_282c7f458f z373 q269 q300 q301)) (show 0 ≤ (u284.1 0 381).toInt ∧ (u284.1 0 381).toInt ≤ 3008 from (om_585fd16d20 z305 z326 zd q281 q282 i381283 pd283)) (show L1.length = 40 from hL1) (show L2.length = 60 from hL2) (show RP (wA u284 0 314 ((u284.1 0 314) + (1 : Int32))) from ((show FC [305, 306, 307, 314, 315, 317, 321, 326, 381] [0, 316, 318, 319, 320, 324, 325, 378, 379, 380] v (wA u284 0 314 ((u284.1 0 314) + (1 : Int32))) from (FC.f (FC.tr (FC.tr (FC.tr (FC.rf _) (FC.up fr261 (by decide) (by decide))) (FC.up fr270 (by decide) (by decide))) (FC.up fr283 (by decide) (by decide))) ((u284.1 0 314) + (1 : Int32)) (by decide))).1 rp)) (show pr ps = ad 908 from hps) (show (u284.1 0 300) = ps from (Eq.trans (fr283.2.1 300 (by decide)) (Eq.trans (fr270.2.1 300 (by decide)) (Eq.trans (fr261.2.1 300 (by decide)) es300)))) (show (u284.1 0 310) = ps from (Eq.trans (fr283.2.1 310 (by decide)) (Eq.trans (fr270.2.1 310 (by decide)) (Eq.trans (fr261.2.1 310 (by decide)) es310)))) (show l.stackTraces = false from hst) (show (u284.1 0 381).toInt + (u284.1 0 326).toInt - 2 * (u284.1 0 305).toInt ≤ 0 from (om_a7060a5991 zd q267 q297 q281 q298 q282 pt270 q291 q299 pd283)) (show 0 ≤ (u284.1 0 317).toInt ∧ (u284.1 0 317).toInt - 4 * (u284.1 0 305).toInt ≤ 8 from (om_f56105df57 zlb q267 q302 q303 pt270 q291 q304)) (show 40 ≤ (u284.1 0 306).toInt + (n287 : Int) from (om_9fa395a918 zn q268 pj270 q292 hn288))) tw_520 tw_521 (by decide +kernel) rfl rfl ⟨show (8 * n287 + 20) + 1 ≤ 8 * n + 14 from (om_74f46d92b7 hn288), show 8 + (5 + 11) + 28 * (8 * n287 + 20) ≤ 28 * (8 * n + 14) from (om_a843c7c5cc hn288)⟩ (List.range (cW ad pr N cI cR L1 L2 (wA u284 0 314 ((u284.1 0 314) + (1 : Int32)))).length) (rg_map _) (nd_range _) 2 rfl rfl rfl rfl hl.1 rfl (Nat.le_of_ble_eq_true rfl) dX2_change_120 ⟨Nat.le_of_ble_eq_true rfl, Nat.le_of_ble_eq_true rfl⟩) hP hD hS hA (fun u9 ce9 q9 H locs hx9 hP hD hS hc9 hv9 hf9 => ?_) (fun u306 H locs hw305 hP hD hS hz8 => ?_)
          · exact vx_out (fun x h9 => (hnt x h9).elim) hlocks hc9 hv9 hf9 (fun t9 ht9 hv8 => ⟨u9, ⟨FC.tr (FC.f (FC.tr (FC.tr (FC.tr (FC.rf _) (FC.up fr261 (by decide) (by decide))) (FC.up fr270 (by decide) (by decide))) (FC.up fr283 (by decide) (by decide))) ((u284.1 0 314) + (1 : Int32)) (by decide)) hx9.1, hx9.2.1, ⟨z304, z305, z306, z312, z321, z326, z373, z381, zd, zlb, zr, r3, ex1, (Or.inr (⟨z171, (Or.inr (⟨z259, r263, u262, ex261, ⟨fr261, rs261⟩, (Or.inl ⟨z265, (Or.inr (⟨u271, ex270, ⟨fr270, i305270, i306270, pj270, pt270, rs270⟩, r277, ex275, z280, u284, ex283, ⟨fr283, i381283, pd283, rs283⟩, (Or.inl ⟨u9, (by rw [hn288]; exact hx9.2.2), rfl, rfl⟩)⟩))⟩)⟩))⟩))⟩⟩, ⟨rfl, by rw [ht9]; exact hP, hD⟩, hS.F ht9⟩) hS.2.2 (Nat.le_refl _) (Nat.le_refl _)
          refine W.shrink (hz8.trans hz9) ?_
          obtain ⟨fr305, ex305, i305305, i306305, i321305, i326305, i381305, pd305, pt305, plb305, po305, rs305⟩ := hw305
          have i305305 : 0 ≤ (u306.1 0 305).toInt ∧ (u306.1 0 305).toInt ≤ 1500 := i305305
          have i306305 : 0 ≤ (u306.1 0 306).toInt ∧ (u306.1 0 306).toInt ≤ 40 := i306305
          have i321305 : 0 ≤ (u306.1 0 321).toInt ∧ (u306.1 0 321).toInt ≤ 501 := i321305
          have i326305 : 0 ≤ (u306.1 0 326).toInt ∧ (u306.1 0 326).toInt ≤ 420 := i326305
          have i381305 : 0 ≤ (u306.1 0 381).toInt ∧ (u306.1 0 381).toInt ≤ 3008 := i381305
          have pd305 : (u306.1 0 381).toInt + (u306.1 0 326).toInt - 2 * (u306.1 0 305).toInt + (1) ≤ (u284.1 0 381).toInt + (u284.1 0 326).toInt - 2 * (u284.1 0 305).toInt := pd305
          have pt305 : (u284.1 0 305).toInt + 1 ≤ (u306.1 0 305).toInt := pt305
          have plb305 : (u284.1 0 317).toInt ≤ (u306.1 0 317).toInt ∧ (u306.1 0 317).toInt - 4 * (u306.1 0 305).toInt ≤ (u284.1 0 317).toInt - 4 * (u284.1 0 305).toInt + 0 := plb305
          have po305 : (u306.1 0 306).toInt = (u284.1 0 306).toInt := po305
          have rs305 : RS (wA u284 0 314 ((u284.1 0 314) + (1 : Int32))) u306 := rs305
          refine lv_goto (tgt := 138) hx hb dX2_change_123 (by decide) ?_
          refine lv_iload_n hx hb dX2_change_138 rfl (lv_at hl 6 rfl) ?_
          refine lv_if_eq (tgt := 170) hx hb dX2_change_139 (by decide) (fun h308 => ?_) (fun h308 => ?_)
          · have z309 : pc1.toInt = (0 : Int) := eq_z rfl (show (0 : Int32).toInt = (0 : Int) by decide) h308
            exact False.elim (om_836858dbd1 zr z259 z309)
          · have z310 : pc1.toInt ≠ (0 : Int) := ne_z rfl (show (0 : Int32).toInt = (0 : Int) by decide) h308
            refine lv_aload_n hx hb dX2_change_142 rfl (lv_at hl 3 rfl) ?_
            refine va_get (D := (dC, dI)) (ci := 6) (fs := oF_X2 ad pr u306) (v := .ref (ad 901)) (C := RX2) (T := TX2) (N := 5) hx hb ht itX2 hown hK hP 2 rfl rfl 1 (by decide) (ht _ tw_498) (fun _ h9 => h9) rfl dX2_change_143 ?_
            refine lv_dup hx hb dX2_change_146 rfl ?_
            refine va_getN (D := (dC, dI)) (ci := 5) (fs := oF_X1 ad pr u306) (v := .int (u306.1 0 314)) (C := RX1) (T := TX1) (N := 12) hx hb ht itX1 hown hK hP 1 rfl rfl 4 (by decide) (hKK.fl2 6 rfl) (fun _ h9 => h9) rfl dX2_change_147 ?_
            refine lv_iconst (v := 1) hx hb dX2_change_150 (by decide) ?_
            refine lv_isub hx hb dX2_change_151 ?_
            refine va_putN (D := (dC, dI)) (ci := 5) (fs := oF_X1 ad pr u306) (v := .int ((u306.1 0 314) - (1 : Int32))) (ty := .int) (C := RX1) (T := TX1) (N := 12) hx hb ht itX1 tyX1 tyX1_ok nmX1 hown hK hP hD hS 1 rfl rfl 4 (by decide) (hKK.fl2 6 rfl) (fun _ h9 => h9) rfl (by decide +kernel) rfl rfl (Nat.le_of_ble_eq_true rfl) dX2_change_152 (fun H locs hP hD hS => ?_)
            have hP := cP_ (cw_314 ad pr N cI cR L1 L2 u306 ((u306.1 0 314) - (1 : Int32))) hP
            have hD := cD_ (cw_314 ad pr N cI cR L1 L2 u306 ((u306.1 0 314) - (1 : Int32))) hD
            refine lv_aload_n hx hb dX2_change_155 rfl (lv_at hl 3 rfl) ?_
            refine va_get (D := (dC, dI)) (ci := 6) (fs := oF_X2 ad pr (wA u306 0 314 ((u306.1 0 314) - (1 : Int32)))) (v := .ref (ad 901)) (C := RX2) (T := TX2) (N := 5) hx hb ht itX2 hown hK hP 2 rfl rfl 1 (by decide) (ht _ tw_498) (fun _ h9 => h9) rfl dX2_change_156 ?_
            refine lv_bipush (v := 11) hx hb dX2_change_159 (by decide) ?_
            refine lv_iload hx hb dX2_change_161 (lv_at hl 0 rfl) ?_
            refine lv_iconst (v := 0) hx hb dX2_change_163 (by decide) ?_
            refine cu_v (rn_Vk (n := 3) (As := [.int 11, .int r277, .int 0]) (rest := []) hx hb hml hown ht hKK hFx hP hD hS hA (c_x_X1_add l dC dI cI cB cZ cJ cR tb H.size ad pr N L1 L2 (wA u306 0 314 ((u306.1 0 314) - (1 : Int32))) (11 : Int32) r277 (0 : Int32) ps (show 0 ≤ (u306.1 0 381).toInt ∧ (u306.1 0 381).toInt ≤ 3008 from (om_e78eec72e1 i381305)) (show pr ps = ad 908 from hps) (show (u306.1 0 310) = ps from (Eq.trans (fr305.2.1 310 (by decide)) (Eq.trans (fr283.2.1 310 (by decide)) (Eq.trans (fr270.2.1 310 (by decide)) (Eq.trans (fr261.2.1 310 (by decide)) es310))))) (show (u306.1 0 381).toInt < 3008 from (om_78c7931305 zd q267 q297 q281 q298 q282 pt270 q291 q299 pd283 i305305 i326305 pd305))) tw_499 tw_500 (by decide +kernel) rfl rfl ⟨show 0 + 1 ≤ 8 * n + 14 from om_2d92e09058, show 8 + (5 + 11) + 0 ≤ 28 * (8 * n + 14) from om_f68798533e⟩ (List.range (cW ad pr N cI cR L1 L2 (wA u306 0 314 ((u306.1 0 314) - (1 : Int32)))).length) (rg_map _) (nd_range _) 1 rfl rfl rfl rfl hl.1 rfl (Nat.le_of_ble_eq_true rfl) dX2_change_164 ⟨Nat.le_of_ble_eq_true rfl, Nat.le_of_ble_eq_true rfl⟩) hP hD hS hA (fun u312 H locs hw311 hP hD hS => ?_)
            obtain ⟨fr311, ex311, i381311, pd311, rs311⟩ := hw311
            have i381311 : 0 ≤ (u312.1 0 381).toInt ∧ (u312.1 0 381).toInt ≤ 3008 := i381311
            have pd311 : (u312.1 0 381).toInt = (u306.1 0 381).toInt + 1 := pd311
            have rs311 : RS (wA u306 0 314 ((u306.1 0 314) - (1 : Int32))) u312 := rs311
            refine W.widen (k := 0) (n := 0) (Nat.le_refl _) (Nat.le_refl _) ?_
            refine lv_goto (tgt := 199) hx hb dX2_change_167 (by decide) ?_
            refine lv_aload_n hx hb dX2_change_199 rfl (lv_at hl 3 rfl) ?_
            refine va_get (D := (dC, dI)) (ci := 6) (fs := oF_X2 ad pr u312) (v := .ref (ad 900)) (C := RX2) (T := TX2) (N := 5) hx hb ht itX2 hown hK hP 2 rfl rfl 0 (by decide) (ht _ tw_509) (fun _ h9 => h9) rfl dX2_change_200 ?_
            have q314 : (u312.1 0 306).toInt = (u306.1 0 306).toInt := congrArg Int32.toInt ((fr311.2.1 306 (by decide)).trans (show (wA u306 0 314 ((u306.1 0 314) - (1 : Int32))).1 0 306 = (u306.1 0 306) by rfl))
            refine cu_v (rn_Vk (n := 0) (As := []) (rest := []) hx hb hml hown ht hKK hFx hP hD hS hA (c_x_X9_close l dC dI cI cB cZ cJ cR tb H.size ad pr N L1 L2 u312  (show 0 ≤ (u312.1 0 306).toInt ∧ (u312.1 0 306).toInt ≤ 40 from (om_99e115f631 i306305 q314)) (show 1 ≤ (u312.1 0 306).toInt from (om_874629bc4e z306 q268 pj270 q292 po305 q314))) tw_528 tw_529 (by decide +kernel) rfl rfl ⟨show 0 + 1 ≤ 8 * n + 14 from om_2d92e09058, show 8 + (1 + 11) + 0 ≤ 28 * (8 * n + 14) from om_289622e6d2⟩ (List.range (cW ad pr N cI cR L1 L2 u312).length) (rg_map _) (nd_range _) 0 rfl rfl rfl rfl hl.1 rfl (Nat.le_of_ble_eq_true rfl) dX2_change_203 ⟨Nat.le_of_ble_eq_true rfl, Nat.le_of_ble_eq_true rfl⟩) hP hD hS hA (fun u316 H locs hw315 hP hD hS => ?_)
            obtain ⟨fr315, ex315, i306315, pj315, rs315⟩ := hw315
            have i306315 : 0 ≤ (u316.1 0 306).toInt ∧ (u316.1 0 306).toInt ≤ 40 := i306315
            have pj315 : (u316.1 0 306).toInt = (u312.1 0 306).toInt - 1 := pj315
            have rs315 : RS u312 u316 := rs315
            refine W.widen (k := 0) (n := 0) (Nat.le_refl _) (Nat.le_refl _) ?_
            have q318 : (u312.1 0 305).toInt = (u306.1 0 305).toInt := congrArg Int32.toInt ((fr311.2.1 305 (by decide)).trans (show (wA u306 0 314 ((u306.1 0 314) - (1 : Int32))).1 0 305 = (u306.1 0 305) by rfl))
            have q319 : (u316.1 0 305).toInt = (u312.1 0 305).toInt := congrArg Int32.toInt ((fr315.2.1 305 (by decide)).trans (show u312.1 0 305 = (u312.1 0 305) by rfl))
            have q320 : (u312.1 0 321).toInt = (u306.1 0 321).toInt := congrArg Int32.toInt ((fr311.2.1 321 (by decide)).trans (show (wA u306 0 314 ((u306.1 0 314) - (1 : Int32))).1 0 321 = (u306.1 0 321) by rfl))
            have q321 : (u316.1 0 321).toInt = (u312.1 0 321).toInt := congrArg Int32.toInt ((fr315.2.1 321 (by decide)).trans (show u312.1 0 321 = (u312.1 0 321) by rfl))
            have q322 : (u312.1 0 326).toInt = (u306.1 0 326).toInt := congrArg Int32.toInt ((fr311.2.1 326 (by decide)).trans (show (wA u306 0 314 ((u306.1 0 314) - (1 : Int32))).1 0 326 = (u306.1 0 326) by rfl))
            have q323 : (u316.1 0 326).toInt = (u312.1 0 326).toInt := congrArg Int32.toInt ((fr315.2.1 326 (by decide)).trans (show u312.1 0 326 = (u312.1 0 326) by rfl))
            have q324 : (u316.1 0 381).toInt = (u312.1 0 381).toInt := congrArg Int32.toInt ((fr315.2.1 381 (by decide)).trans (show u312.1 0 381 = (u312.1 0 381) by rfl))
            have q325 : (u312.1 0 317).toInt = (u306.1 0 317).toInt := congrArg Int32.toInt ((fr311.2.1 317 (by decide)).trans (show (wA u306 0 314 ((u306.1 0 314) - (1 : Int32))).1 0 317 = (u306.1 0 317) by rfl))
            have q326 : (u316.1 0 317).toInt = (u312.1 0 317).toInt := congrArg Int32.toInt ((fr315.2.1 317 (by decide)).trans (show u312.1 0 317 = (u312.1 0 317) by rfl))
            refine W.sz (fun hz => ?_)
            refine vx_ret ?_
            refine W.widen (k := 1) (n := 6) (Nat.le_of_ble_eq_true rfl) (Nat.le_of_ble_eq_true rfl) ?_
            exact W.vret hx hb hr (fun t ht9 hW => ⟨⟨u316, rfl, ⟨(FC.tr (FC.tr (FC.f (FC.tr (FC.f (FC.tr (FC.tr (FC.tr (FC.rf _) (FC.up fr261 (by decide) (by decide))) (FC.up fr270 (by decide) (by decide))) (FC.up fr283 (by decide) (by decide))) ((u284.1 0 314) + (1 : Int32)) (by decide)) (FC.up fr305 (by decide) (by decide))) ((u306.1 0 314) - (1 : Int32)) (by decide)) (FC.up fr311 (by decide) (by decide))) (FC.up fr315 (by decide) (by decide))), ⟨z304, z305, z306, z312, z321, z326, z373, z381, zd, zlb, zr, r3, ex1, (Or.inr (⟨z171, (Or.inr (⟨z259, r263, u262, ex261, ⟨fr261, rs261⟩, (Or.inl ⟨z265, (Or.inr (⟨u271, ex270, ⟨fr270, i305270, i306270, pj270, pt270, rs270⟩, r277, ex275, z280, u284, ex283, ⟨fr283, i381283, pd283, rs283⟩, (Or.inr (⟨u306, (by rw [hn288]; exact ex305), ⟨fr305, i305305, i306305, i321305, i326305, i381305, pd305, pt305, plb305, po305, rs305⟩, z310, u312, ex311, ⟨fr311, i381311, pd311, rs311⟩, u316, ex315, ⟨fr315, i306315, pj315, rs315⟩, rfl, rfl⟩))⟩))⟩)⟩))⟩))⟩, (show 0 ≤ (u316.1 0 305).toInt ∧ (u316.1 0 305).toInt ≤ 1500 from (om_36fdb1ec01 z326 z381 zd q267 pt270 q291 i305305 pt305 q318 q319)), (show 0 ≤ (u316.1 0 306).toInt ∧ (u316.1 0 306).toInt ≤ 40 from (om_7eaf33e007 i306315)), (show 0 ≤ (u316.1 0 321).toInt ∧ (u316.1 0 321).toInt ≤ 501 from (om_4dfa815534 i321305 q320 q321)), (show 0 ≤ (u316.1 0 326).toInt ∧ (u316.1 0 326).toInt ≤ 420 from (om_9591dea625 i326305 q322 q323)), (show 0 ≤ (u316.1 0 381).toInt ∧ (u316.1 0 381).toInt ≤ 3008 from (om_0f0274ea8d zd q267 q297 q281 q298 q282 pt270 q291 q299 pd283 i305305 i326305 i381305 pd305 pd311 q324)), (show (u316.1 0 381).toInt + (u316.1 0 326).toInt - 2 * (u316.1 0 305).toInt + (-1 - pc1.toInt) ≤ (v.1 0 381).toInt + (v.1 0 326).toInt - 2 * (v.1 0 305).toInt from (om_15bb4da889 zr q267 q297 q281 q298 q282 pt270 q291 q299 pd283 pd305 q318 q322 pd311 q319 q323 q324)), (show (v.1 0 305).toInt + 2 ≤ (u316.1 0 305).toInt from (om_4e3a931fa9 q267 pt270 q291 pt305 q318 q319)), (show (v.1 0 317).toInt ≤ (u316.1 0 317).toInt ∧ (u316.1 0 317).toInt - 4 * (u316.1 0 305).toInt ≤ (v.1 0 317).toInt - 4 * (v.1 0 305).toInt + 0 from (om_e1bb6c2d2d q267 q302 q303 pt270 q291 q304 plb305 q318 q325 q319 q326)), (show (u316.1 0 306).toInt = (v.1 0 306).toInt from (om_ac685ab65a q268 pj270 q292 po305 q314 pj315)), (RS.tr (RS.tr (RS.w0 (RS.tr (RS.w0 (RS.tr (RS.tr (RS.tr RS.rf rs261) rs270) rs283) (by decide)) rs305) (by decide)) rs311) rs315)⟩, ⟨by rw [ht9]; exact hP, hD⟩, by rw [ht9]; exact hz⟩, hS.F ht9⟩) hS.2.2 dX2_change_206
      · have z327 : r263.toInt = (0 : Int) := eq_z rfl (show (0 : Int32).toInt = (0 : Int) by decide) h264
        refine lv_aload_n hx hb dX2_change_53 rfl (lv_at hl 2 rfl) ?_
        refine va_get (D := (dC, dI)) (ci := 6) (fs := oF_X2 ad pr u262) (v := .ref (ad 900)) (C := RX2) (T := TX2) (N := 5) hx hb ht itX2 hown hK hP 2 rfl rfl 0 (by decide) (ht _ tw_509) (fun _ h9 => h9) rfl dX2_change_54 ?_
        refine lv_iconst (v := 5) hx hb dX2_change_57 (by decide) ?_
        refine lv_aload_n hx hb dX2_change_58 rfl (lv_at hl 2 rfl) ?_
        refine va_get (D := (dC, dI)) (ci := 6) (fs := oF_X2 ad pr u262) (v := .ref (ad 900)) (C := RX2) (T := TX2) (N := 5) hx hb ht itX2 hown hK hP 2 rfl rfl 0 (by decide) (ht _ tw_509) (fun _ h9 => h9) rfl dX2_change_59 ?_
        have q328 : (u262.1 0 304).toInt = (v.1 0 304).toInt := congrArg Int32.toInt ((fr261.2.1 304 (by decide)).trans (show v.1 0 304 = (v.1 0 304) by rfl))
        have q329 : (u262.1 0 305).toInt = (v.1 0 305).toInt := congrArg Int32.toInt ((fr261.2.1 305 (by decide)).trans (show v.1 0 305 = (v.1 0 305) by rfl))
        have q330 : (u262.1 0 373).toInt = (v.1 0 373).toInt := congrArg Int32.toInt ((fr261.2.1 373 (by decide)).trans (show v.1 0 373 = (v.1 0 373) by rfl))
        refine cu_i (rn_Vk (n := 0) (As := []) (rest := [.int 5, .ref (ad 900)]) hx hb hml hown ht hKK hFx hP hD hS hA (c_x_X9_place l dC dI cI cB cZ cJ cR tb H.size ad pr N L1 L2 u262 ps (show 0 ≤ (u262.1 0 304).toInt ∧ (u262.1 0 304).toInt ≤ 1503 from (om_73002589c1 z304 q328)) (show 0 ≤ (u262.1 0 305).toInt ∧ (u262.1 0 305).toInt ≤ 1500 from (om_02933c00b0 z305 z326 z381 zd q329)) (show 0 ≤ (u262.1 0 373).toInt ∧ (u262.1 0 373).toInt ≤ 4000 from (om_9084c127ed z373 q330)) (show pr ps = ad 908 from hps) (show (u262.1 0 300) = ps from (Eq.trans (fr261.2.1 300 (by decide)) es300))) tw_457 tw_510 (by decide +kernel) rfl rfl ⟨show 0 + 1 ≤ 8 * n + 14 from om_2d92e09058, show 8 + (1 + 11) + 0 ≤ 28 * (8 * n + 14) from om_289622e6d2⟩ (List.range (cW ad pr N cI cR L1 L2 u262).length) (rg_map _) (nd_range _) 0 rfl rfl rfl rfl hl.1 rfl (Nat.le_of_ble_eq_true rfl) dX2_change_62 ⟨Nat.le_of_ble_eq_true rfl, Nat.le_of_ble_eq_true rfl⟩) hP hD hS hA (fun r333 u332 H locs hw331 hP hD hS => ?_)
        obtain ⟨rfl, ex331⟩ := hw331
        refine W.widen (k := 0) (n := 0) (Nat.le_refl _) (Nat.le_refl _) ?_
        refine W.sz (fun hz9 => ?_)
        refine czx_v (rx_Vk (n := 2) (As := [.int 5, .int r333]) (rest := []) hx hb hml hown ht hKK hFx hP hD hS hA (c_x_X9_refuse l dC dI cI cB cZ cJ cR tb H.size ad pr N L1 L2 u262 (5 : Int32) r333 (show l.stackTraces = false from hst) (show (5 : Int) ≠ 0 from om_5e02973d50)) tw_459 tw_511 (by decide +kernel) rfl rfl ⟨show 6 + 1 ≤ 8 * n + 14 from om_03d1dde555, show 8 + (3 + 11) + 82 ≤ 28 * (8 * n + 14) from om_0d25788d50⟩ (List.range (cW ad pr N cI cR L1 L2 u262).length) (rg_map _) (nd_range _) 0 rfl rfl rfl rfl hl.1 rfl (Nat.le_of_ble_eq_true rfl) dX2_change_65 ⟨Nat.le_of_ble_eq_true rfl, Nat.le_of_ble_eq_true rfl⟩) hP hD hS hA (fun u9 ce9 q9 H locs hx9 hP hD hS hc9 hv9 hf9 => ?_) (fun u335 H locs hw334 hP hD hS hz8 => ?_)
        · exact vx_out (fun x h9 => (hnt x h9).elim) hlocks hc9 hv9 hf9 (fun t9 ht9 hv8 => ⟨u9, ⟨FC.tr (FC.tr (FC.rf _) (FC.up fr261 (by decide) (by decide))) hx9.1, hx9.2.1, ⟨z304, z305, z306, z312, z321, z326, z373, z381, zd, zlb, zr, r3, ex1, (Or.inr (⟨z171, (Or.inr (⟨z259, r263, u262, ex261, ⟨fr261, rs261⟩, (Or.inr (⟨z327, r333, ex331, u9, hx9.2.2, rfl, rfl⟩))⟩))⟩))⟩⟩, ⟨rfl, by rw [ht9]; exact hP, hD⟩, hS.F ht9⟩) hS.2.2 (Nat.le_refl _) (Nat.le_refl _)
        refine W.shrink (hz8.trans hz9) ?_
        obtain ⟨fr334, ex334, no334, rs334⟩ := hw334
        have no334 : False := no334
        have rs334 : RS u262 u335 := rs334
        exact no334.elim
theorem om_73264659df {n0 : Nat} : 8 + (3 + 11) + 0 ≤ 28 * (8 * n0 + 14) := by omega
theorem om_dd7a401061 {x0 x1 x2 x3 x4 : Int} (h0 : 0 ≤ x0 ∧ x0 ≤ 40) (h1 : x1 = x0) (h2 : x2 = x1) (h3 : x3 = x2 + 1) (h4 : x4 = x3) : 1 ≤ x4 := by omega
theorem om_7c786e6b66 {x0 x1 x2 x3 x4 x5 x6 x7 : Int} (h0 : 0 ≤ x0 ∧ x0 ≤ 1500) (h1 : 0 ≤ x1 ∧ x1 ≤ 420) (h2 : 0 ≤ x2 ∧ x2 ≤ 3008) (h3 : x2 + x1 - 2 * x0 ≤ 0) (h4 : x3 = x2) (h5 : x4 = x3) (h6 : x5 = x4) (h7 : x6 = x5) (h8 : x7 = x6) : 0 ≤ x7 ∧ x7 ≤ 3008 := by omega
theorem om_3fc8eb6228 {x0 x1 x2 x3 x4 x5 x6 x7 : Int} (h0 : 0 ≤ x0 ∧ x0 ≤ 1500) (h1 : 0 ≤ x1 ∧ x1 ≤ 420) (h2 : x2 + x1 - 2 * x0 ≤ 0) (h3 : x3 = x2) (h4 : x4 = x3) (h5 : x5 = x4) (h6 : x6 = x5) (h7 : x7 = x6) : x7 < 3008 := by omega
theorem om_9f0434c1b4 {x0 x1 x2 x3 x4 : Int} (h0 : 0 ≤ x0 ∧ x0 ≤ 1500) (h1 : x1 = x0 + 1) (h2 : 0 ≤ x2 ∧ x2 ≤ 1500) (h3 : x2 = x1 + 1) (h4 : x3 = x2) (h5 : x4 = x3) : 0 ≤ x4 ∧ x4 ≤ 1500 := by omega
theorem om_455369e3a5 {x0 x1 x2 x3 x4 x5 : Int} (h0 : 0 ≤ x0 ∧ x0 ≤ 501) (h1 : x1 = x0) (h2 : x2 = x1) (h3 : x3 = x2) (h4 : x4 = x3) (h5 : x5 = x4) : 0 ≤ x5 ∧ x5 ≤ 501 := by omega
theorem om_49eb06c282 {x0 x1 x2 x3 x4 x5 x6 : Int} (h0 : 0 ≤ x0 ∧ x0 ≤ 420) (h1 : x1 = x0) (h2 : x2 = x1) (h3 : x3 = x2) (h4 : x4 = x3) (h5 : x5 = x4) (h6 : x6 = x5) : 0 ≤ x6 ∧ x6 ≤ 420 := by omega
theorem om_de8729a927 {x0 x1 x2 x3 x4 x5 x6 x7 x8 x9 x10 x11 x12 x13 x14 x15 x16 x17 x18 x19 x20 : Int} (h0 : x0 = x1) (h1 : x2 = x3) (h2 : x4 = x5) (h3 : x6 = x2) (h4 : x7 = x4) (h5 : x8 = x0 + 1) (h6 : x9 = x6) (h7 : x10 = x7) (h8 : x11 = x8 + 1) (h9 : x12 = x9) (h10 : x13 = x10) (h11 : x14 = x11 + 1) (h12 : x15 = x14) (h13 : x16 = x12) (h14 : x17 = x13) (h15 : x18 = x15) (h16 : x19 = x16) (h17 : x20 = x17 + 1) : x20 + x19 - 2 * x18 + (5) ≤ x5 + x3 - 2 * x1 := by omega
theorem om_2a837ff073 {x0 x1 x2 x3 x4 x5 x6 : Int} (h0 : x0 = x1) (h1 : x2 = x0 + 1) (h2 : x3 = x2 + 1) (h3 : x4 = x3 + 1) (h4 : x5 = x4) (h5 : x6 = x5) : x1 + 3 ≤ x6 := by omega
theorem om_9564a242f5 {x0 x1 x2 x3 x4 x5 x6 x7 x8 x9 x10 x11 x12 x13 : Int} (h0 : x0 = x1) (h1 : x2 = x3) (h2 : x4 = x2) (h3 : x5 = x0 + 1) (h4 : x6 = x4) (h5 : x7 = x5 + 1) (h6 : x8 = x6) (h7 : x9 = x7 + 1) (h8 : x10 = x9) (h9 : x11 = x8) (h10 : x12 = x10) (h11 : x13 = x11) : x3 ≤ x13 ∧ x13 - 4 * x12 ≤ x3 - 4 * x1 + 0 := by omega
theorem om_901bcf77d5 {x0 x1 x2 x3 x4 x5 x6 : Int} (h0 : x0 = x1) (h1 : x2 = x0) (h2 : x3 = x2 + 1) (h3 : x4 = x3) (h4 : x5 = x4 - 1) (h5 : x6 = x5) : x6 = x1 := by omega
theorem om_6fd7372220 {x0 x1 x2 x3 x4 x5 x6 x7 x8 x9 x10 x11 : Int} (h0 : x0 + x1 - 2 * x2 ≤ 0) (h1 : x3 = x2) (h2 : x4 = x1) (h3 : x5 = x0) (h4 : x6 = x4) (h5 : x7 = x5) (h6 : x8 = x3 + 1) (h7 : x9 = x6) (h8 : x10 = x7) (h9 : x11 = x8 + 1) : x10 + x9 - 2 * x11 ≤ 0 := by omega
theorem om_a8292db1a6 {x0 x1 x2 x3 x4 x5 x6 x7 : Int} (h0 : 0 ≤ x0 ∧ x0 - 4 * x1 ≤ 8) (h1 : x2 = x1) (h2 : x3 = x0) (h3 : x4 = x3) (h4 : x5 = x2 + 1) (h5 : x6 = x4) (h6 : x7 = x5 + 1) : 0 ≤ x6 ∧ x6 - 4 * x7 ≤ 8 := by omega
theorem om_2c845f05d0 {x0 x2 x3 x4 : Int} {n1 n5 : Nat} (h0 : 40 ≤ x0 + (n1 : Int)) (h1 : x2 = x0) (h2 : x3 = x2) (h3 : x4 = x3 + 1) (h4 : n1 = n5 + 1) : 40 ≤ x4 + (n5 : Int) := by omega
theorem om_def48f1266 {n0 n1 : Nat} (h0 : n0 = n1 + 1) : 8 + (3 + 11) + 28 * (8 * n1 + 21) ≤ 28 * (8 * n0 + 14) := by omega
theorem om_a29fe7849e : 1 ≤ (1 : Int) ∧ (1 : Int) ≤ 1500 := by omega
theorem om_ce1b4e9c81 {x0 x1 x2 x3 x4 : Int} (h0 : x0 = x1) (h1 : x2 = x0 + 1) (h2 : x3 = x2 + 1) (h3 : x3 + 1 ≤ x4) : x1 + 2 ≤ x4 := by omega
theorem om_482d510bd8 {x0 x1 x2 x3 x4 x5 x6 x7 x8 x9 : Int} (h0 : x0 = x1) (h1 : x2 = x3) (h2 : x4 = x2) (h3 : x5 = x0 + 1) (h4 : x6 = x4) (h5 : x7 = x5 + 1) (h6 : x6 ≤ x8 ∧ x8 - 4 * x9 ≤ x6 - 4 * x7 + 0) : x3 ≤ x8 ∧ x8 - 4 * x9 ≤ x3 - 4 * x1 := by omega
theorem om_983734c6a0 {x0 x1 x2 x3 x4 x5 x6 x7 x8 x9 x10 x11 x12 x13 x14 : Int} (h0 : x0 = x1) (h1 : x2 = x3) (h2 : x4 = x5) (h3 : x6 = x2) (h4 : x7 = x4) (h5 : x8 = x0 + 1) (h6 : x9 = x6) (h7 : x10 = x7) (h8 : x11 = x8 + 1) (h9 : x12 + x13 - 2 * x14 + (0) ≤ x10 + x9 - 2 * x11) : x12 + x13 - 2 * x14 + (4) ≤ x5 + x3 - 2 * x1 := by omega
theorem om_f3b8f628f3 {x0 x1 x2 x3 x4 : Int} (h0 : x0 = x1) (h1 : x2 = x0) (h2 : x3 = x2 + 1) (h3 : x4 = x3) : x4 = x1 + 1 := by omega
theorem om_26d9e457ca {x0 x1 : Int} (h0 : 0 ≤ x0 ∧ x0 ≤ 1500) (h1 : 0 ≤ x1 ∧ x1 ≤ 1500) (h2 : x0 + 2 ≤ x1) : 0 ≤ x1 ∧ x1 ≤ 1500 := by omega
theorem om_209fa13ef3 {x0 x1 x2 : Int} (h0 : 0 ≤ x0 ∧ x0 ≤ 40) (h1 : 0 ≤ x1 ∧ x1 ≤ 40) (h2 : x1 = x0 + 1) (h3 : x2 = x1) : 0 ≤ x2 ∧ x2 ≤ 40 := by omega
theorem om_a1edc0e52b {x0 x1 x2 x3 x4 x5 x6 x7 : Int} (h0 : x0 + x1 - 2 * x2 ≤ 0) (h1 : 0 ≤ x3 ∧ x3 ≤ 1500) (h2 : 0 ≤ x4 ∧ x4 ≤ 420) (h3 : 0 ≤ x5 ∧ x5 ≤ 3008) (h4 : x5 + x4 - 2 * x3 + (4) ≤ x0 + x1 - 2 * x2) (h5 : x6 = x5) (h6 : x7 = x6) : 0 ≤ x7 ∧ x7 ≤ 3008 := by omega
theorem om_0b9513ec40 {x0 x1 x2 x3 x4 x5 x6 x7 : Int} (h0 : x0 + x1 - 2 * x2 ≤ 0) (h1 : 0 ≤ x3 ∧ x3 ≤ 1500) (h2 : 0 ≤ x4 ∧ x4 ≤ 420) (h3 : x5 + x4 - 2 * x3 + (4) ≤ x0 + x1 - 2 * x2) (h4 : x6 = x5) (h5 : x7 = x6) : x7 < 3008 := by omega
theorem om_f932d0ad33 {x0 x1 x2 x3 x4 x5 x6 x7 x8 : Int} (h0 : x0 + x1 - 2 * x2 ≤ 0) (h1 : 0 ≤ x3 ∧ x3 ≤ 420) (h2 : 0 ≤ x4 ∧ x4 ≤ 3008) (h3 : x4 + x3 - 2 * x5 + (4) ≤ x0 + x1 - 2 * x2) (h4 : 0 ≤ x6 ∧ x6 ≤ 1500) (h5 : x6 = x5 + 1) (h6 : x7 = x6) (h7 : x8 = x7) : 0 ≤ x8 ∧ x8 ≤ 1500 := by omega
theorem om_27f7c01d37 {x0 x1 x2 x3 x4 x5 x6 x7 x8 : Int} (h0 : x0 + x1 - 2 * x2 ≤ 0) (h1 : 0 ≤ x3 ∧ x3 ≤ 1500) (h2 : 0 ≤ x4 ∧ x4 ≤ 420) (h3 : x5 + x4 - 2 * x3 + (4) ≤ x0 + x1 - 2 * x2) (h4 : x6 = x5) (h5 : x7 = x6) (h6 : 0 ≤ x8 ∧ x8 ≤ 3008) (h7 : x8 = x7 + 1) : 0 ≤ x8 ∧ x8 ≤ 3008 := by omega
theorem om_ac674dbf3d {x0 x1 x2 x3 x4 x5 x6 x7 x8 x9 x10 x11 x12 x13 x14 : Int} (h0 : x0 + x1 - 2 * x2 + (4) ≤ x3 + x4 - 2 * x5) (h1 : x6 = x1) (h2 : x7 = x0) (h3 : x8 = x2 + 1) (h4 : x9 = x8) (h5 : x10 = x6) (h6 : x11 = x7) (h7 : x12 = x9) (h8 : x13 = x10) (h9 : x14 = x11 + 1) : x14 + x13 - 2 * x12 + (5) ≤ x3 + x4 - 2 * x5 := by omega
theorem om_d77598a3b6 {x0 x1 x2 x3 x4 : Int} (h0 : x0 + 2 ≤ x1) (h1 : x2 = x1 + 1) (h2 : x3 = x2) (h3 : x4 = x3) : x0 + 3 ≤ x4 := by omega
theorem om_a30ee88fae {x0 x1 x2 x3 x4 x5 x6 x7 x8 x9 : Int} (h0 : x0 ≤ x1 ∧ x1 - 4 * x2 ≤ x0 - 4 * x3) (h1 : x4 = x1) (h2 : x5 = x2 + 1) (h3 : x6 = x5) (h4 : x7 = x4) (h5 : x8 = x6) (h6 : x9 = x7) : x0 ≤ x9 ∧ x9 - 4 * x8 ≤ x0 - 4 * x3 + 0 := by omega
theorem om_511c56fe86 {x0 x1 x2 : Int} (h0 : 0 ≤ x0 ∧ x0 ≤ 1500) (h1 : x0 + 2 ≤ x1) (h2 : 0 ≤ x2 ∧ x2 ≤ 1500) (h3 : x2 = x1 + 1) : 0 ≤ x2 ∧ x2 ≤ 1500 := by omega
theorem om_fa27ecb246 {x0 x1 x2 x3 x4 x5 x6 : Int} (h0 : x0 + x1 - 2 * x2 ≤ 0) (h1 : 0 ≤ x3 ∧ x3 ≤ 1500) (h2 : 0 ≤ x4 ∧ x4 ≤ 420) (h3 : 0 ≤ x5 ∧ x5 ≤ 3008) (h4 : x5 + x4 - 2 * x3 + (4) ≤ x0 + x1 - 2 * x2) (h5 : x6 = x5) : 0 ≤ x6 ∧ x6 ≤ 3008 := by omega
theorem om_1c28eec033 {x0 x1 x2 x3 x4 x5 x6 x7 x8 : Int} (h0 : x0 + x1 - 2 * x2 ≤ 0) (h1 : x3 + x4 - 2 * x5 + (4) ≤ x0 + x1 - 2 * x2) (h2 : x6 = x4) (h3 : x7 = x3) (h4 : x8 = x5 + 1) : x7 + x6 - 2 * x8 ≤ 0 := by omega
theorem om_1f1519244e {x0 x1 x2 x3 x4 x5 : Int} (h0 : 0 ≤ x0 ∧ x0 - 4 * x1 ≤ 8) (h1 : x0 ≤ x2 ∧ x2 - 4 * x3 ≤ x0 - 4 * x1) (h2 : x4 = x2) (h3 : x5 = x3 + 1) : 0 ≤ x4 ∧ x4 - 4 * x5 ≤ 8 := by omega
theorem om_fa93d1e14b {x0 x2 x3 : Int} {n1 n4 : Nat} (h0 : 40 ≤ x0 + (n1 : Int)) (h1 : x2 = x0 + 1) (h2 : x3 = x2) (h3 : n1 = n4 + 1) : 40 ≤ x3 + (n4 : Int) := by omega
theorem om_5e93c3af80 {x0 : Int} (h0 : 1 ≤ x0 ∧ x0 ≤ 1500) : -2147483648 ≤ x0 + (1 : Int) := by omega
theorem om_3a4b6fcf1c {x0 : Int} (h0 : 1 ≤ x0 ∧ x0 ≤ 1500) : x0 + (1 : Int) < 2147483648 := by omega
theorem om_ad993c9161 {x0 x1 x2 x3 : Int} (h0 : 0 ≤ x0 ∧ x0 ≤ 1500) (h1 : x0 + 2 ≤ x1) (h2 : x2 = x1 + 1) (h3 : 0 ≤ x3 ∧ x3 ≤ 1500) (h4 : x2 + 1 ≤ x3) : 0 ≤ x3 ∧ x3 ≤ 1500 := by omega
theorem om_b07f6c5ef3 {x0 x1 x2 x3 x4 x5 x6 x7 x8 x9 x10 x11 : Int} (h0 : x0 + x1 - 2 * x2 ≤ 0) (h1 : x3 + x4 - 2 * x5 + (4) ≤ x0 + x1 - 2 * x2) (h2 : x6 = x4) (h3 : x7 = x3) (h4 : x8 = x5 + 1) (h5 : 0 ≤ x9 ∧ x9 ≤ 1500) (h6 : 0 ≤ x10 ∧ x10 ≤ 420) (h7 : 0 ≤ x11 ∧ x11 ≤ 3008) (h8 : x11 + x10 - 2 * x9 + (0) ≤ x7 + x6 - 2 * x8) : 0 ≤ x11 ∧ x11 ≤ 3008 := by omega
theorem om_15a3ad8535 {x0 x1 : Int} (h0 : 1 ≤ x0 ∧ x0 ≤ 1500) (h1 : x0 < (1500 : Int)) (h2 : x1 = x0 + (1 : Int)) : 1 ≤ x1 ∧ x1 ≤ 1500 := by omega
theorem om_2785624402 {x0 x1 x2 x3 : Int} (h0 : x0 + 2 ≤ x1) (h1 : x2 = x1 + 1) (h2 : x2 + 1 ≤ x3) : x0 + 2 ≤ x3 := by omega
theorem om_569b73c5b9 {x0 x1 x2 x3 x4 x5 x6 x7 : Int} (h0 : x0 ≤ x1 ∧ x1 - 4 * x2 ≤ x0 - 4 * x3) (h1 : x4 = x1) (h2 : x5 = x2 + 1) (h3 : x4 ≤ x6 ∧ x6 - 4 * x7 ≤ x4 - 4 * x5 + 0) : x0 ≤ x6 ∧ x6 - 4 * x7 ≤ x0 - 4 * x3 := by omega
theorem om_1c7ef7f515 {x0 x1 x2 x3 x4 x5 x6 x7 x8 x9 x10 x11 : Int} (h0 : x0 + x1 - 2 * x2 + (4) ≤ x3 + x4 - 2 * x5) (h1 : x6 = x1) (h2 : x7 = x0) (h3 : x8 = x2 + 1) (h4 : x9 + x10 - 2 * x11 + (0) ≤ x7 + x6 - 2 * x8) : x9 + x10 - 2 * x11 + (4) ≤ x3 + x4 - 2 * x5 := by omega
theorem om_c1f65cf568 {x0 x1 x2 x3 : Int} (h0 : x0 = x1 + 1) (h1 : x2 = x0) (h2 : x3 = x2) : x3 = x1 + 1 := by omega
theorem om_f107c3c51d {x0 x1 : Int} (h0 : x0 = x1 + (1 : Int)) : 1500 - x0 < 1500 - x1 := by omega
theorem om_1cb5cb4f43 {x0 : Int} (h0 : x0 < (1500 : Int)) : 0 < 1500 - x0 := by omega
set_option maxHeartbeats 16000000 in
set_option maxRecDepth 100000 in
theorem c_x_X2_callFunction (l : Launch) (n : Nat) (ihE : ∀ m, n = m + 1 → Cq_expression l m) (dC : Nat → ClassId) (dI : Nat → Nat → Nat) (cI cB cZ cJ cR : ClassId) (tb : Nat → Nat) (sz : Nat) (ad : Nat → Nat) (pr : Int32 → Nat) (N : Nat) (L1 L2 : List Nat) (v : MS) (ps : Int32) (z304 : 0 ≤ (v.1 0 304).toInt ∧ (v.1 0 304).toInt ≤ 1503) (z305 : 0 ≤ (v.1 0 305).toInt ∧ (v.1 0 305).toInt ≤ 1500) (z306 : 0 ≤ (v.1 0 306).toInt ∧ (v.1 0 306).toInt ≤ 40) (z312 : 0 ≤ (v.1 0 312).toInt ∧ (v.1 0 312).toInt ≤ 500) (z321 : 0 ≤ (v.1 0 321).toInt ∧ (v.1 0 321).toInt ≤ 501) (z326 : 0 ≤ (v.1 0 326).toInt ∧ (v.1 0 326).toInt ≤ 420) (z373 : 0 ≤ (v.1 0 373).toInt ∧ (v.1 0 373).toInt ≤ 4000) (z381 : 0 ≤ (v.1 0 381).toInt ∧ (v.1 0 381).toInt ≤ 3008) (hL1 : L1.length = 40) (hL2 : L2.length = 60) (rp : RP v) (hps : pr ps = ad 908) (es300 : (v.1 0 300) = ps) (es310 : (v.1 0 310) = ps) (hst : l.stackTraces = false) (zd : (v.1 0 381).toInt + (v.1 0 326).toInt - 2 * (v.1 0 305).toInt ≤ 0) (zlb : 0 ≤ (v.1 0 317).toInt ∧ (v.1 0 317).toInt - 4 * (v.1 0 305).toInt ≤ 8) (zn : 40 ≤ (v.1 0 306).toInt + (n : Int)) : vx_Met l yX2_callFunction (Cond.code yX2_callFunction cX2_callFunction 5 none :: tw_W) ({ frames := 8 * n + 14, cells := 1, slots := 6, locals := 28 * (8 * n + 14) }) (pc_ (dC, dI) (tyS cI cB cZ cJ cR) tb (cW ad pr N cI cR L1 L2 v) sz [.ref (ad 902)]) (qvz_ (dC, dI) (cW ad pr N cI cR L1 L2 v) sz (fun (u : MS) => FC [305, 306, 307, 314, 315, 317, 321, 326, 381] [0, 316, 318, 319, 320, 324, 325, 378, 379, 380] v u ∧ (Q_x_X2_callFunction L1 L2 (pE L1 L2 n) v false u) ∧ (0 ≤ (u.1 0 305).toInt ∧ (u.1 0 305).toInt ≤ 1500) ∧ (0 ≤ (u.1 0 306).toInt ∧ (u.1 0 306).toInt ≤ 40) ∧ (0 ≤ (u.1 0 321).toInt ∧ (u.1 0 321).toInt ≤ 501) ∧ (0 ≤ (u.1 0 326).toInt ∧ (u.1 0 326).toInt ≤ 420) ∧ (0 ≤ (u.1 0 381).toInt ∧ (u.1 0 381).toInt ≤ 3008) ∧ ((u.1 0 381).toInt + (u.1 0 326).toInt - 2 * (u.1 0 305).toInt + (5) ≤ (v.1 0 381).toInt + (v.1 0 326).toInt - 2 * (v.1 0 305).toInt) ∧ ((v.1 0 305).toInt + 3 ≤ (u.1 0 305).toInt) ∧ ((v.1 0 317).toInt ≤ (u.1 0 317).toInt ∧ (u.1 0 317).toInt - 4 * (u.1 0 305).toInt ≤ (v.1 0 317).toInt - 4 * (v.1 0 305).toInt + 0) ∧ ((u.1 0 306).toInt = (v.1 0 306).toInt) ∧ (RS v u)) (fun (u : MS) => (cW ad pr N cI cR L1 L2 u))) (qxc (dC, dI) (cW ad pr N cI cR L1 L2 v) sz (fun (u : MS) => (cW ad pr N cI cR L1 L2 u)) (fun (u : MS) => FC xfl xal v u ∧ (u.1 0 308).toInt ≠ 0 ∧ (Q_x_X2_callFunction L1 L2 (pE L1 L2 n) v true u))) 1 6 (va_A (cW ad pr N cI cR L1 L2 v) sz) := by
  refine vx_ofW (cc := cX2_callFunction) (maxL := 5) (ret := none) (by decide) rfl ?_
  intro p e s m args below meth c s₁ B hml hnt hv
  obtain ⟨rfl, hsz, hP, hKK, hD0, hFx⟩ := hv
  have hK := hKK.1
  have hx := B.exec
  have hb := B.bytes
  have hr := B.returns
  have ht : ∀ w ∈ tw_W, w.before _ s = true := fun w h => atoms_spec (ws := Cond.code yX2_callFunction cX2_callFunction 5 none :: tw_W) B.pre w (List.mem_cons_of_mem _ h)
  have hown : s.vm.findClass RX2 = some m.cls := findClass_of_methodNamed B.named
  have hlocks := B.notSynchronized
  subst hsz
  unfold qvz_ qxc
  have hD := hD0.self (sz := s.heap.size)
  generalize hAe : va_A (cW ad pr N cI cR L1 L2 v) s.heap.size = A at hD hFx ⊢
  have hA : ∀ q : Nat, s.heap.size ≤ q → A q := fun q h => by rw [← hAe]; exact Or.inr h
  have hS : va_S A s.heap s.heap [] := va_S.rf
  have hl := lv_entry ([.ref (ad 902)]) (n := 5) (Nat.le_of_ble_eq_true rfl)
  rw [lg_entry_eq]
  generalize (lg_sl ([.ref (ad 902)]) ++ List.replicate (5 - (lg_sl ([.ref (ad 902)])).length) Slot.unset).toArray = ls at hl ⊢
  have hl : lv_has ls 5 [(0, .ref (ad 902))] := hl
  refine lv_aload_n hx hb dX2_callFunction_0 rfl (lv_at hl 0 rfl) ?_
  refine va_get (D := (dC, dI)) (ci := 6) (fs := oF_X2 ad pr v) (v := .ref (ad 901)) (C := RX2) (T := TX2) (N := 5) hx hb ht itX2 hown hK hP 2 rfl rfl 1 (by decide) (ht _ tw_498) (fun _ h9 => h9) rfl dX2_callFunction_1 ?_
  refine lv_aload_n hx hb dX2_callFunction_4 rfl (lv_at hl 0 rfl) ?_
  refine va_get (D := (dC, dI)) (ci := 6) (fs := oF_X2 ad pr v) (v := .ref (ad 900)) (C := RX2) (T := TX2) (N := 5) hx hb ht itX2 hown hK hP 2 rfl rfl 0 (by decide) (ht _ tw_509) (fun _ h9 => h9) rfl dX2_callFunction_5 ?_
  refine cu_i (rn_Vk (n := 0) (As := []) (rest := [.ref (ad 901)]) hx hb hml hown ht hKK hFx hP hD hS hA (c_x_X9_value l dC dI cI cB cZ cJ cR tb s.heap.size ad pr N L1 L2 v  (show 0 ≤ (v.1 0 304).toInt ∧ (v.1 0 304).toInt ≤ 1503 from (om_c99648273b z304)) (show 0 ≤ (v.1 0 305).toInt ∧ (v.1 0 305).toInt ≤ 1500 from (om_7897b4ccef z305))) tw_535 tw_536 (by decide +kernel) rfl rfl ⟨show 0 + 1 ≤ 8 * n + 14 from om_2d92e09058, show 8 + (1 + 11) + 0 ≤ 28 * (8 * n + 14) from om_289622e6d2⟩ (List.range (cW ad pr N cI cR L1 L2 v).length) (rg_map _) (nd_range _) 0 rfl rfl rfl rfl hl.1 rfl (Nat.le_of_ble_eq_true rfl) dX2_callFunction_8 ⟨Nat.le_of_ble_eq_true rfl, Nat.le_of_ble_eq_true rfl⟩) hP hD hS hA (fun r3 u2 H locs hw1 hP hD hS => ?_)
  obtain ⟨rfl, ex1⟩ := hw1
  refine W.widen (k := 0) (n := 0) (Nat.le_refl _) (Nat.le_refl _) ?_
  refine lv_aload_n hx hb dX2_callFunction_11 rfl (lv_at hl 0 rfl) ?_
  refine va_get (D := (dC, dI)) (ci := 6) (fs := oF_X2 ad pr v) (v := .ref (ad 900)) (C := RX2) (T := TX2) (N := 5) hx hb ht itX2 hown hK hP 2 rfl rfl 0 (by decide) (ht _ tw_509) (fun _ h9 => h9) rfl dX2_callFunction_12 ?_
  refine cu_i (rn_Vk (n := 0) (As := []) (rest := [.int r3, .ref (ad 901)]) hx hb hml hown ht hKK hFx hP hD hS hA (c_x_X9_place l dC dI cI cB cZ cJ cR tb H.size ad pr N L1 L2 v ps (show 0 ≤ (v.1 0 304).toInt ∧ (v.1 0 304).toInt ≤ 1503 from (om_c99648273b z304)) (show 0 ≤ (v.1 0 305).toInt ∧ (v.1 0 305).toInt ≤ 1500 from (om_7897b4ccef z305)) (show 0 ≤ (v.1 0 373).toInt ∧ (v.1 0 373).toInt ≤ 4000 from (om_c74a68af25 z373)) (show pr ps = ad 908 from hps) (show (v.1 0 300) = ps from es300)) tw_457 tw_510 (by decide +kernel) rfl rfl ⟨show 0 + 1 ≤ 8 * n + 14 from om_2d92e09058, show 8 + (1 + 11) + 0 ≤ 28 * (8 * n + 14) from om_289622e6d2⟩ (List.range (cW ad pr N cI cR L1 L2 v).length) (rg_map _) (nd_range _) 0 rfl rfl rfl rfl hl.1 rfl (Nat.le_of_ble_eq_true rfl) dX2_callFunction_15 ⟨Nat.le_of_ble_eq_true rfl, Nat.le_of_ble_eq_true rfl⟩) hP hD hS hA (fun r6 u5 H locs hw4 hP hD hS => ?_)
  obtain ⟨rfl, ex4⟩ := hw4
  refine W.widen (k := 0) (n := 0) (Nat.le_refl _) (Nat.le_refl _) ?_
  refine cu_i (rn_Vk (n := 2) (As := [.int r3, .int r6]) (rest := []) hx hb hml hown ht hKK hFx hP hD hS hA (c_x_X1_addCall l dC dI cI cB cZ cJ cR tb H.size ad pr N L1 L2 v r3 r6 (show 0 ≤ (v.1 0 321).toInt ∧ (v.1 0 321).toInt ≤ 501 from (om_e1d35f5faf z321))) tw_537 tw_538 (by decide +kernel) rfl rfl ⟨show 0 + 1 ≤ 8 * n + 14 from om_2d92e09058, show 8 + (3 + 11) + 0 ≤ 28 * (8 * n + 14) from om_73264659df⟩ (List.range (cW ad pr N cI cR L1 L2 v).length) (rg_map _) (nd_range _) 1 rfl rfl rfl rfl hl.1 rfl (Nat.le_of_ble_eq_true rfl) dX2_callFunction_18 ⟨Nat.le_of_ble_eq_true rfl, Nat.le_of_ble_eq_true rfl⟩) hP hD hS hA (fun r9 u8 H locs hw7 hP hD hS => ?_)
  obtain ⟨fr7, ex7, i3217, rs7⟩ := hw7
  refine W.widen (k := 0) (n := 0) (Nat.le_refl _) (Nat.le_refl _) ?_
  refine lv_istore_n (lv' := [(1, .int r9), (0, .ref (ad 902))]) hx hb dX2_callFunction_21 rfl hl (by decide) rfl (fun ls hl => ?_)
  refine lv_aload_n hx hb dX2_callFunction_22 rfl (lv_at hl 1 rfl) ?_
  refine va_get (D := (dC, dI)) (ci := 6) (fs := oF_X2 ad pr u8) (v := .ref (ad 901)) (C := RX2) (T := TX2) (N := 5) hx hb ht itX2 hown hK hP 2 rfl rfl 1 (by decide) (ht _ tw_498) (fun _ h9 => h9) rfl dX2_callFunction_23 ?_
  have q10 : (u8.1 0 312).toInt = (v.1 0 312).toInt := congrArg Int32.toInt ((fr7.2.1 312 (by decide)).trans (show v.1 0 312 = (v.1 0 312) by rfl))
  refine cu_i (rn_Vk (n := 0) (As := []) (rest := []) hx hb hml hown ht hKK hFx hP hD hS hA (c_x_X1_nextSlot l dC dI cI cB cZ cJ cR tb H.size ad pr N L1 L2 u8  (show 0 ≤ (u8.1 0 312).toInt ∧ (u8.1 0 312).toInt ≤ 500 from (om_f8376ff89c z312 q10))) tw_505 tw_506 (by decide +kernel) rfl rfl ⟨show 0 + 1 ≤ 8 * n + 14 from om_2d92e09058, show 8 + (1 + 11) + 0 ≤ 28 * (8 * n + 14) from om_289622e6d2⟩ (List.range (cW ad pr N cI cR L1 L2 u8).length) (rg_map _) (nd_range _) 1 rfl rfl rfl rfl hl.1 rfl (Nat.le_of_ble_eq_true rfl) dX2_callFunction_26 ⟨Nat.le_of_ble_eq_true rfl, Nat.le_of_ble_eq_true rfl⟩) hP hD hS hA (fun r13 u12 H locs hw11 hP hD hS => ?_)
  obtain ⟨rfl, ex11⟩ := hw11
  refine W.widen (k := 0) (n := 0) (Nat.le_refl _) (Nat.le_refl _) ?_
  refine lv_istore_n (lv' := [(2, .int r13), (1, .int r9), (0, .ref (ad 902))]) hx hb dX2_callFunction_29 rfl hl (by decide) rfl (fun ls hl => ?_)
  refine lv_aload_n hx hb dX2_callFunction_30 rfl (lv_at hl 2 rfl) ?_
  refine va_get (D := (dC, dI)) (ci := 6) (fs := oF_X2 ad pr u8) (v := .ref (ad 900)) (C := RX2) (T := TX2) (N := 5) hx hb ht itX2 hown hK hP 2 rfl rfl 0 (by decide) (ht _ tw_509) (fun _ h9 => h9) rfl dX2_callFunction_31 ?_
  have q14 : (u8.1 0 304).toInt = (v.1 0 304).toInt := congrArg Int32.toInt ((fr7.2.1 304 (by decide)).trans (show v.1 0 304 = (v.1 0 304) by rfl))
  have q15 : (u8.1 0 305).toInt = (v.1 0 305).toInt := congrArg Int32.toInt ((fr7.2.1 305 (by decide)).trans (show v.1 0 305 = (v.1 0 305) by rfl))
  have q16 : (u8.1 0 373).toInt = (v.1 0 373).toInt := congrArg Int32.toInt ((fr7.2.1 373 (by decide)).trans (show v.1 0 373 = (v.1 0 373) by rfl))
  refine W.sz (fun hz9 => ?_)
  refine czx_v (rx_Vk (n := 0) (As := []) (rest := []) hx hb hml hown ht hKK hFx hP hD hS hA (c_x_X9_take l dC dI cI cB cZ cJ cR tb H.size ad pr N L1 L2 u8 ps (show 0 ≤ (u8.1 0 304).toInt ∧ (u8.1 0 304).toInt ≤ 1503 from (om_73002589c1 z304 q14)) (show 0 ≤ (u8.1 0 305).toInt ∧ (u8.1 0 305).toInt ≤ 1500 from (om_c93ca3468d z305 q15)) (show 0 ≤ (u8.1 0 373).toInt ∧ (u8.1 0 373).toInt ≤ 4000 from (om_9084c127ed z373 q16)) (show pr ps = ad 908 from hps) (show (u8.1 0 300) = ps from (Eq.trans (fr7.2.1 300 (by decide)) es300)) (show l.stackTraces = false from hst)) tw_539 tw_540 (by decide +kernel) rfl rfl ⟨show 7 + 1 ≤ 8 * n + 14 from om_46126d3ba0, show 8 + (1 + 11) + 104 ≤ 28 * (8 * n + 14) from om_6017b980b8⟩ (List.range (cW ad pr N cI cR L1 L2 u8).length) (rg_map _) (nd_range _) 0 rfl rfl rfl rfl hl.1 rfl (Nat.le_of_ble_eq_true rfl) dX2_callFunction_34 ⟨Nat.le_of_ble_eq_true rfl, Nat.le_of_ble_eq_true rfl⟩) hP hD hS hA (fun u9 ce9 q9 H locs hx9 hP hD hS hc9 hv9 hf9 => ?_) (fun u18 H locs hw17 hP hD hS hz8 => ?_)
  · exact vx_out (fun x h9 => (hnt x h9).elim) hlocks hc9 hv9 hf9 (fun t9 ht9 hv8 => ⟨u9, ⟨FC.tr (FC.tr (FC.rf _) (FC.up fr7 (by decide) (by decide))) hx9.1, hx9.2.1, ⟨z304, z305, z306, z312, z321, z326, z373, z381, zd, zlb, r3, ex1, r6, ex4, r9, u8, ex7, ⟨fr7, i3217, rs7⟩, r13, ex11, (Or.inl ⟨u9, hx9.2.2, rfl, rfl⟩)⟩⟩, ⟨rfl, by rw [ht9]; exact hP, hD⟩, hS.F ht9⟩) hS.2.2 (Nat.le_refl _) (Nat.le_refl _)
  refine W.shrink (hz8.trans hz9) ?_
  obtain ⟨fr17, ex17, i30517, pt17, rs17⟩ := hw17
  have i30517 : 0 ≤ (u18.1 0 305).toInt ∧ (u18.1 0 305).toInt ≤ 1500 := i30517
  have pt17 : (u18.1 0 305).toInt = (u8.1 0 305).toInt + 1 := pt17
  have rs17 : RS u8 u18 := rs17
  refine lv_aload_n hx hb dX2_callFunction_37 rfl (lv_at hl 2 rfl) ?_
  refine va_get (D := (dC, dI)) (ci := 6) (fs := oF_X2 ad pr u18) (v := .ref (ad 900)) (C := RX2) (T := TX2) (N := 5) hx hb ht itX2 hown hK hP 2 rfl rfl 0 (by decide) (ht _ tw_509) (fun _ h9 => h9) rfl dX2_callFunction_38 ?_
  have q20 : (u18.1 0 304).toInt = (u8.1 0 304).toInt := congrArg Int32.toInt ((fr17.2.1 304 (by decide)).trans (show u8.1 0 304 = (u8.1 0 304) by rfl))
  have q21 : (u8.1 0 306).toInt = (v.1 0 306).toInt := congrArg Int32.toInt ((fr7.2.1 306 (by decide)).trans (show v.1 0 306 = (v.1 0 306) by rfl))
  have q22 : (u18.1 0 306).toInt = (u8.1 0 306).toInt := congrArg Int32.toInt ((fr17.2.1 306 (by decide)).trans (show u8.1 0 306 = (u8.1 0 306) by rfl))
  have q23 : (u18.1 0 373).toInt = (u8.1 0 373).toInt := congrArg Int32.toInt ((fr17.2.1 373 (by decide)).trans (show u8.1 0 373 = (u8.1 0 373) by rfl))
  refine W.sz (fun hz9 => ?_)
  refine czx_v (rx_Vk (n := 0) (As := []) (rest := []) hx hb hml hown ht hKK hFx hP hD hS hA (c_x_X9_open l dC dI cI cB cZ cJ cR tb H.size ad pr N L1 L2 u18 ps (show 0 ≤ (u18.1 0 304).toInt ∧ (u18.1 0 304).toInt ≤ 1503 from (om_dd87ee851a z304 q14 q20)) (show 0 ≤ (u18.1 0 305).toInt ∧ (u18.1 0 305).toInt ≤ 1500 from (om_7897b4ccef i30517)) (show 0 ≤ (u18.1 0 306).toInt ∧ (u18.1 0 306).toInt ≤ 40 from (om_68f540929a z306 q21 q22)) (show 0 ≤ (u18.1 0 373).toInt ∧ (u18.1 0 373).toInt ≤ 4000 from (om_03cd8767ac z373 q16 q23)) (show pr ps = ad 908 from hps) (show (u18.1 0 300) = ps from (Eq.trans (fr17.2.1 300 (by decide)) (Eq.trans (fr7.2.1 300 (by decide)) es300))) (show l.stackTraces = false from hst)) tw_524 tw_525 (by decide +kernel) rfl rfl ⟨show 7 + 1 ≤ 8 * n + 14 from om_46126d3ba0, show 8 + (1 + 11) + 104 ≤ 28 * (8 * n + 14) from om_6017b980b8⟩ (List.range (cW ad pr N cI cR L1 L2 u18).length) (rg_map _) (nd_range _) 0 rfl rfl rfl rfl hl.1 rfl (Nat.le_of_ble_eq_true rfl) dX2_callFunction_41 ⟨Nat.le_of_ble_eq_true rfl, Nat.le_of_ble_eq_true rfl⟩) hP hD hS hA (fun u9 ce9 q9 H locs hx9 hP hD hS hc9 hv9 hf9 => ?_) (fun u25 H locs hw24 hP hD hS hz8 => ?_)
  · exact vx_out (fun x h9 => (hnt x h9).elim) hlocks hc9 hv9 hf9 (fun t9 ht9 hv8 => ⟨u9, ⟨FC.tr (FC.tr (FC.tr (FC.rf _) (FC.up fr7 (by decide) (by decide))) (FC.up fr17 (by decide) (by decide))) hx9.1, hx9.2.1, ⟨z304, z305, z306, z312, z321, z326, z373, z381, zd, zlb, r3, ex1, r6, ex4, r9, u8, ex7, ⟨fr7, i3217, rs7⟩, r13, ex11, (Or.inr (⟨u18, ex17, ⟨fr17, i30517, pt17, rs17⟩, (Or.inl ⟨u9, hx9.2.2, rfl, rfl⟩)⟩))⟩⟩, ⟨rfl, by rw [ht9]; exact hP, hD⟩, hS.F ht9⟩) hS.2.2 (Nat.le_refl _) (Nat.le_refl _)
  refine W.shrink (hz8.trans hz9) ?_
  obtain ⟨fr24, ex24, i30524, i30624, pj24, pt24, rs24⟩ := hw24
  have i30524 : 0 ≤ (u25.1 0 305).toInt ∧ (u25.1 0 305).toInt ≤ 1500 := i30524
  have i30624 : 0 ≤ (u25.1 0 306).toInt ∧ (u25.1 0 306).toInt ≤ 40 := i30624
  have pj24 : (u25.1 0 306).toInt = (u18.1 0 306).toInt + 1 := pj24
  have pt24 : (u25.1 0 305).toInt = (u18.1 0 305).toInt + 1 := pt24
  have rs24 : RS u18 u25 := rs24
  refine lv_iconst (v := 0) hx hb dX2_callFunction_44 (by decide) ?_
  refine lv_istore_n (lv' := [(3, .int 0), (2, .int r13), (1, .int r9), (0, .ref (ad 902))]) hx hb dX2_callFunction_45 rfl hl (by decide) rfl (fun ls hl => ?_)
  refine lv_aload_n hx hb dX2_callFunction_46 rfl (lv_at hl 3 rfl) ?_
  refine va_get (D := (dC, dI)) (ci := 6) (fs := oF_X2 ad pr u25) (v := .ref (ad 900)) (C := RX2) (T := TX2) (N := 5) hx hb ht itX2 hown hK hP 2 rfl rfl 0 (by decide) (ht _ tw_509) (fun _ h9 => h9) rfl dX2_callFunction_47 ?_
  have q27 : (u25.1 0 304).toInt = (u18.1 0 304).toInt := congrArg Int32.toInt ((fr24.2.1 304 (by decide)).trans (show u18.1 0 304 = (u18.1 0 304) by rfl))
  refine cu_i (rn_Vk (n := 0) (As := []) (rest := []) hx hb hml hown ht hKK hFx hP hD hS hA (c_x_X9_kind l dC dI cI cB cZ cJ cR tb H.size ad pr N L1 L2 u25  (show 0 ≤ (u25.1 0 304).toInt ∧ (u25.1 0 304).toInt ≤ 1503 from (om_57e3d9ffbd z304 q14 q20 q27)) (show 0 ≤ (u25.1 0 305).toInt ∧ (u25.1 0 305).toInt ≤ 1500 from (om_89213937cb i30517 i30524 pt24))) tw_455 tw_532 (by decide +kernel) rfl rfl ⟨show 0 + 1 ≤ 8 * n + 14 from om_2d92e09058, show 8 + (1 + 11) + 0 ≤ 28 * (8 * n + 14) from om_289622e6d2⟩ (List.range (cW ad pr N cI cR L1 L2 u25).length) (rg_map _) (nd_range _) 0 rfl rfl rfl rfl hl.1 rfl (Nat.le_of_ble_eq_true rfl) dX2_callFunction_50 ⟨Nat.le_of_ble_eq_true rfl, Nat.le_of_ble_eq_true rfl⟩) hP hD hS hA (fun r30 u29 H locs hw28 hP hD hS => ?_)
  obtain ⟨rfl, ex28⟩ := hw28
  refine W.widen (k := 0) (n := 0) (Nat.le_refl _) (Nat.le_refl _) ?_
  refine lv_bipush (v := 31) hx hb dX2_callFunction_53 (by decide) ?_
  refine lv_icmp_eq (tgt := 113) hx hb dX2_callFunction_55 (by decide) (fun h31 => ?_) (fun h31 => ?_)
  · have z32 : r30.toInt = (31 : Int) := eq_z rfl (show (31 : Int32).toInt = (31 : Int) by decide) h31
    refine lv_aload_n hx hb dX2_callFunction_113 rfl (lv_at hl 3 rfl) ?_
    refine va_get (D := (dC, dI)) (ci := 6) (fs := oF_X2 ad pr u25) (v := .ref (ad 900)) (C := RX2) (T := TX2) (N := 5) hx hb ht itX2 hown hK hP 2 rfl rfl 0 (by decide) (ht _ tw_509) (fun _ h9 => h9) rfl dX2_callFunction_114 ?_
    refine lv_bipush (v := 31) hx hb dX2_callFunction_117 (by decide) ?_
    have q33 : (u25.1 0 373).toInt = (u18.1 0 373).toInt := congrArg Int32.toInt ((fr24.2.1 373 (by decide)).trans (show u18.1 0 373 = (u18.1 0 373) by rfl))
    refine W.sz (fun hz9 => ?_)
    refine czx_v (rx_Vk (n := 1) (As := [.int 31]) (rest := []) hx hb hml hown ht hKK hFx hP hD hS hA (c_x_X9_expect l dC dI cI cB cZ cJ cR tb H.size ad pr N L1 L2 u25 (31 : Int32) ps (show 0 ≤ (u25.1 0 304).toInt ∧ (u25.1 0 304).toInt ≤ 1503 from (om_57e3d9ffbd z304 q14 q20 q27)) (show 0 ≤ (u25.1 0 305).toInt ∧ (u25.1 0 305).toInt ≤ 1500 from (om_89213937cb i30517 i30524 pt24)) (show 0 ≤ (u25.1 0 373).toInt ∧ (u25.1 0 373).toInt ≤ 4000 from (om_282c7f458f z373 q16 q23 q33)) (show pr ps = ad 908 from hps) (show (u25.1 0 300) = ps from (Eq.trans (fr24.2.1 300 (by decide)) (Eq.trans (fr17.2.1 300 (by decide)) (Eq.trans (fr7.2.1 300 (by decide)) es300)))) (show l.stackTraces = false from hst)) tw_526 tw_527 (by decide +kernel) rfl rfl ⟨show 7 + 1 ≤ 8 * n + 14 from om_46126d3ba0, show 8 + (2 + 11) + 104 ≤ 28 * (8 * n + 14) from om_2d7c913608⟩ (List.range (cW ad pr N cI cR L1 L2 u25).length) (rg_map _) (nd_range _) 0 rfl rfl rfl rfl hl.1 rfl (Nat.le_of_ble_eq_true rfl) dX2_callFunction_119 ⟨Nat.le_of_ble_eq_true rfl, Nat.le_of_ble_eq_true rfl⟩) hP hD hS hA (fun u9 ce9 q9 H locs hx9 hP hD hS hc9 hv9 hf9 => ?_) (fun u35 H locs hw34 hP hD hS hz8 => ?_)
    · exact vx_out (fun x h9 => (hnt x h9).elim) hlocks hc9 hv9 hf9 (fun t9 ht9 hv8 => ⟨u9, ⟨FC.tr (FC.tr (FC.tr (FC.tr (FC.rf _) (FC.up fr7 (by decide) (by decide))) (FC.up fr17 (by decide) (by decide))) (FC.up fr24 (by decide) (by decide))) hx9.1, hx9.2.1, ⟨z304, z305, z306, z312, z321, z326, z373, z381, zd, zlb, r3, ex1, r6, ex4, r9, u8, ex7, ⟨fr7, i3217, rs7⟩, r13, ex11, (Or.inr (⟨u18, ex17, ⟨fr17, i30517, pt17, rs17⟩, (Or.inr (⟨u25, ex24, ⟨fr24, i30524, i30624, pj24, pt24, rs24⟩, r30, ex28, (Or.inl ⟨z32, (Or.inl ⟨u9, hx9.2.2, rfl, rfl⟩)⟩)⟩))⟩))⟩⟩, ⟨rfl, by rw [ht9]; exact hP, hD⟩, hS.F ht9⟩) hS.2.2 (Nat.le_refl _) (Nat.le_refl _)
    refine W.shrink (hz8.trans hz9) ?_
    obtain ⟨fr34, ex34, i30534, pt34, rs34⟩ := hw34
    have i30534 : 0 ≤ (u35.1 0 305).toInt ∧ (u35.1 0 305).toInt ≤ 1500 := i30534
    have pt34 : (u35.1 0 305).toInt = (u25.1 0 305).toInt + 1 := pt34
    have rs34 : RS u25 u35 := rs34
    refine lv_aload_n hx hb dX2_callFunction_122 rfl (lv_at hl 3 rfl) ?_
    refine va_get (D := (dC, dI)) (ci := 6) (fs := oF_X2 ad pr u35) (v := .ref (ad 900)) (C := RX2) (T := TX2) (N := 5) hx hb ht itX2 hown hK hP 2 rfl rfl 0 (by decide) (ht _ tw_509) (fun _ h9 => h9) rfl dX2_callFunction_123 ?_
    have q37 : (u35.1 0 306).toInt = (u25.1 0 306).toInt := congrArg Int32.toInt ((fr34.2.1 306 (by decide)).trans (show u25.1 0 306 = (u25.1 0 306) by rfl))
    refine cu_v (rn_Vk (n := 0) (As := []) (rest := []) hx hb hml hown ht hKK hFx hP hD hS hA (c_x_X9_close l dC dI cI cB cZ cJ cR tb H.size ad pr N L1 L2 u35  (show 0 ≤ (u35.1 0 306).toInt ∧ (u35.1 0 306).toInt ≤ 40 from (om_99e115f631 i30624 q37)) (show 1 ≤ (u35.1 0 306).toInt from (om_dd7a401061 z306 q21 q22 pj24 q37))) tw_528 tw_529 (by decide +kernel) rfl rfl ⟨show 0 + 1 ≤ 8 * n + 14 from om_2d92e09058, show 8 + (1 + 11) + 0 ≤ 28 * (8 * n + 14) from om_289622e6d2⟩ (List.range (cW ad pr N cI cR L1 L2 u35).length) (rg_map _) (nd_range _) 0 rfl rfl rfl rfl hl.1 rfl (Nat.le_of_ble_eq_true rfl) dX2_callFunction_126 ⟨Nat.le_of_ble_eq_true rfl, Nat.le_of_ble_eq_true rfl⟩) hP hD hS hA (fun u39 H locs hw38 hP hD hS => ?_)
    obtain ⟨fr38, ex38, i30638, pj38, rs38⟩ := hw38
    have i30638 : 0 ≤ (u39.1 0 306).toInt ∧ (u39.1 0 306).toInt ≤ 40 := i30638
    have pj38 : (u39.1 0 306).toInt = (u35.1 0 306).toInt - 1 := pj38
    have rs38 : RS u35 u39 := rs38
    refine W.widen (k := 0) (n := 0) (Nat.le_refl _) (Nat.le_refl _) ?_
    refine lv_aload_n hx hb dX2_callFunction_129 rfl (lv_at hl 3 rfl) ?_
    refine va_get (D := (dC, dI)) (ci := 6) (fs := oF_X2 ad pr u39) (v := .ref (ad 901)) (C := RX2) (T := TX2) (N := 5) hx hb ht itX2 hown hK hP 2 rfl rfl 1 (by decide) (ht _ tw_498) (fun _ h9 => h9) rfl dX2_callFunction_130 ?_
    refine lv_dup hx hb dX2_callFunction_133 rfl ?_
    refine va_getN (D := (dC, dI)) (ci := 5) (fs := oF_X1 ad pr u39) (v := .int (u39.1 0 314)) (C := RX1) (T := TX1) (N := 12) hx hb ht itX1 hown hK hP 1 rfl rfl 4 (by decide) (hKK.fl2 6 rfl) (fun _ h9 => h9) rfl dX2_callFunction_134 ?_
    refine lv_iload_n hx hb dX2_callFunction_137 rfl (lv_at hl 0 rfl) ?_
    refine lv_isub hx hb dX2_callFunction_138 ?_
    refine va_putN (D := (dC, dI)) (ci := 5) (fs := oF_X1 ad pr u39) (v := .int ((u39.1 0 314) - (0 : Int32))) (ty := .int) (C := RX1) (T := TX1) (N := 12) hx hb ht itX1 tyX1 tyX1_ok nmX1 hown hK hP hD hS 1 rfl rfl 4 (by decide) (hKK.fl2 6 rfl) (fun _ h9 => h9) rfl (by decide +kernel) rfl rfl (Nat.le_of_ble_eq_true rfl) dX2_callFunction_139 (fun H locs hP hD hS => ?_)
    have hP := cP_ (cw_314 ad pr N cI cR L1 L2 u39 ((u39.1 0 314) - (0 : Int32))) hP
    have hD := cD_ (cw_314 ad pr N cI cR L1 L2 u39 ((u39.1 0 314) - (0 : Int32))) hD
    refine lv_aload_n hx hb dX2_callFunction_142 rfl (lv_at hl 3 rfl) ?_
    refine va_get (D := (dC, dI)) (ci := 6) (fs := oF_X2 ad pr (wA u39 0 314 ((u39.1 0 314) - (0 : Int32)))) (v := .ref (ad 901)) (C := RX2) (T := TX2) (N := 5) hx hb ht itX2 hown hK hP 2 rfl rfl 1 (by decide) (ht _ tw_498) (fun _ h9 => h9) rfl dX2_callFunction_143 ?_
    refine lv_bipush (v := 21) hx hb dX2_callFunction_146 (by decide) ?_
    refine lv_iload_n hx hb dX2_callFunction_148 rfl (lv_at hl 2 rfl) ?_
    refine lv_iload_n hx hb dX2_callFunction_149 rfl (lv_at hl 1 rfl) ?_
    have q41 : (u8.1 0 381).toInt = (v.1 0 381).toInt := congrArg Int32.toInt ((fr7.2.1 381 (by decide)).trans (show v.1 0 381 = (v.1 0 381) by rfl))
    have q42 : (u18.1 0 381).toInt = (u8.1 0 381).toInt := congrArg Int32.toInt ((fr17.2.1 381 (by decide)).trans (show u8.1 0 381 = (u8.1 0 381) by rfl))
    have q43 : (u25.1 0 381).toInt = (u18.1 0 381).toInt := congrArg Int32.toInt ((fr24.2.1 381 (by decide)).trans (show u18.1 0 381 = (u18.1 0 381) by rfl))
    have q44 : (u35.1 0 381).toInt = (u25.1 0 381).toInt := congrArg Int32.toInt ((fr34.2.1 381 (by decide)).trans (show u25.1 0 381 = (u25.1 0 381) by rfl))
    have q45 : (u39.1 0 381).toInt = (u35.1 0 381).toInt := congrArg Int32.toInt ((fr38.2.1 381 (by decide)).trans (show u35.1 0 381 = (u35.1 0 381) by rfl))
    refine cu_v (rn_Vk (n := 3) (As := [.int 21, .int r9, .int r13]) (rest := []) hx hb hml hown ht hKK hFx hP hD hS hA (c_x_X1_add l dC dI cI cB cZ cJ cR tb H.size ad pr N L1 L2 (wA u39 0 314 ((u39.1 0 314) - (0 : Int32))) (21 : Int32) r9 r13 ps (show 0 ≤ (u39.1 0 381).toInt ∧ (u39.1 0 381).toInt ≤ 3008 from (om_7c786e6b66 z305 z326 z381 zd q41 q42 q43 q44 q45)) (show pr ps = ad 908 from hps) (show (u39.1 0 310) = ps from (Eq.trans (fr38.2.1 310 (by decide)) (Eq.trans (fr34.2.1 310 (by decide)) (Eq.trans (fr24.2.1 310 (by decide)) (Eq.trans (fr17.2.1 310 (by decide)) (Eq.trans (fr7.2.1 310 (by decide)) es310)))))) (show (u39.1 0 381).toInt < 3008 from (om_3fc8eb6228 z305 z326 zd q41 q42 q43 q44 q45))) tw_499 tw_500 (by decide +kernel) rfl rfl ⟨show 0 + 1 ≤ 8 * n + 14 from om_2d92e09058, show 8 + (5 + 11) + 0 ≤ 28 * (8 * n + 14) from om_f68798533e⟩ (List.range (cW ad pr N cI cR L1 L2 (wA u39 0 314 ((u39.1 0 314) - (0 : Int32)))).length) (rg_map _) (nd_range _) 1 rfl rfl rfl rfl hl.1 rfl (Nat.le_of_ble_eq_true rfl) dX2_callFunction_150 ⟨Nat.le_of_ble_eq_true rfl, Nat.le_of_ble_eq_true rfl⟩) hP hD hS hA (fun u47 H locs hw46 hP hD hS => ?_)
    obtain ⟨fr46, ex46, i38146, pd46, rs46⟩ := hw46
    have i38146 : 0 ≤ (u47.1 0 381).toInt ∧ (u47.1 0 381).toInt ≤ 3008 := i38146
    have pd46 : (u47.1 0 381).toInt = (u39.1 0 381).toInt + 1 := pd46
    have rs46 : RS (wA u39 0 314 ((u39.1 0 314) - (0 : Int32))) u47 := rs46
    refine W.widen (k := 0) (n := 0) (Nat.le_refl _) (Nat.le_refl _) ?_
    have q49 : (u39.1 0 305).toInt = (u35.1 0 305).toInt := congrArg Int32.toInt ((fr38.2.1 305 (by decide)).trans (show u35.1 0 305 = (u35.1 0 305) by rfl))
    have q50 : (u47.1 0 305).toInt = (u39.1 0 305).toInt := congrArg Int32.toInt ((fr46.2.1 305 (by decide)).trans (show (wA u39 0 314 ((u39.1 0 314) - (0 : Int32))).1 0 305 = (u39.1 0 305) by rfl))
    have q51 : (u47.1 0 306).toInt = (u39.1 0 306).toInt := congrArg Int32.toInt ((fr46.2.1 306 (by decide)).trans (show (wA u39 0 314 ((u39.1 0 314) - (0 : Int32))).1 0 306 = (u39.1 0 306) by rfl))
    have q52 : (u18.1 0 321).toInt = (u8.1 0 321).toInt := congrArg Int32.toInt ((fr17.2.1 321 (by decide)).trans (show u8.1 0 321 = (u8.1 0 321) by rfl))
    have q53 : (u25.1 0 321).toInt = (u18.1 0 321).toInt := congrArg Int32.toInt ((fr24.2.1 321 (by decide)).trans (show u18.1 0 321 = (u18.1 0 321) by rfl))
    have q54 : (u35.1 0 321).toInt = (u25.1 0 321).toInt := congrArg Int32.toInt ((fr34.2.1 321 (by decide)).trans (show u25.1 0 321 = (u25.1 0 321) by rfl))
    have q55 : (u39.1 0 321).toInt = (u35.1 0 321).toInt := congrArg Int32.toInt ((fr38.2.1 321 (by decide)).trans (show u35.1 0 321 = (u35.1 0 321) by rfl))
    have q56 : (u47.1 0 321).toInt = (u39.1 0 321).toInt := congrArg Int32.toInt ((fr46.2.1 321 (by decide)).trans (show (wA u39 0 314 ((u39.1 0 314) - (0 : Int32))).1 0 321 = (u39.1 0 321) by rfl))
    have q57 : (u8.1 0 326).toInt = (v.1 0 326).toInt := congrArg Int32.toInt ((fr7.2.1 326 (by decide)).trans (show v.1 0 326 = (v.1 0 326) by rfl))
    have q58 : (u18.1 0 326).toInt = (u8.1 0 326).toInt := congrArg Int32.toInt ((fr17.2.1 326 (by decide)).trans (show u8.1 0 326 = (u8.1 0 326) by rfl))
    have q59 : (u25.1 0 326).toInt = (u18.1 0 326).toInt := congrArg Int32.toInt ((fr24.2.1 326 (by decide)).trans (show u18.1 0 326 = (u18.1 0 326) by rfl))
    have q60 : (u35.1 0 326).toInt = (u25.1 0 326).toInt := congrArg Int32.toInt ((fr34.2.1 326 (by decide)).trans (show u25.1 0 326 = (u25.1 0 326) by rfl))
    have q61 : (u39.1 0 326).toInt = (u35.1 0 326).toInt := congrArg Int32.toInt ((fr38.2.1 326 (by decide)).trans (show u35.1 0 326 = (u35.1 0 326) by rfl))
    have q62 : (u47.1 0 326).toInt = (u39.1 0 326).toInt := congrArg Int32.toInt ((fr46.2.1 326 (by decide)).trans (show (wA u39 0 314 ((u39.1 0 314) - (0 : Int32))).1 0 326 = (u39.1 0 326) by rfl))
    have q63 : (u8.1 0 317).toInt = (v.1 0 317).toInt := congrArg Int32.toInt ((fr7.2.1 317 (by decide)).trans (show v.1 0 317 = (v.1 0 317) by rfl))
    have q64 : (u18.1 0 317).toInt = (u8.1 0 317).toInt := congrArg Int32.toInt ((fr17.2.1 317 (by decide)).trans (show u8.1 0 317 = (u8.1 0 317) by rfl))
    have q65 : (u25.1 0 317).toInt = (u18.1 0 317).toInt := congrArg Int32.toInt ((fr24.2.1 317 (by decide)).trans (show u18.1 0 317 = (u18.1 0 317) by rfl))
    have q66 : (u35.1 0 317).toInt = (u25.1 0 317).toInt := congrArg Int32.toInt ((fr34.2.1 317 (by decide)).trans (show u25.1 0 317 = (u25.1 0 317) by rfl))
    have q67 : (u39.1 0 317).toInt = (u35.1 0 317).toInt := congrArg Int32.toInt ((fr38.2.1 317 (by decide)).trans (show u35.1 0 317 = (u35.1 0 317) by rfl))
    have q68 : (u47.1 0 317).toInt = (u39.1 0 317).toInt := congrArg Int32.toInt ((fr46.2.1 317 (by decide)).trans (show (wA u39 0 314 ((u39.1 0 314) - (0 : Int32))).1 0 317 = (u39.1 0 317) by rfl))
    refine W.sz (fun hz => ?_)
    refine vx_ret ?_
    refine W.widen (k := 1) (n := 6) (Nat.le_of_ble_eq_true rfl) (Nat.le_of_ble_eq_true rfl) ?_
    exact W.vret hx hb hr (fun t ht9 hW => ⟨⟨u47, rfl, ⟨(FC.tr (FC.f (FC.tr (FC.tr (FC.tr (FC.tr (FC.tr (FC.rf _) (FC.up fr7 (by decide) (by decide))) (FC.up fr17 (by decide) (by decide))) (FC.up fr24 (by decide) (by decide))) (FC.up fr34 (by decide) (by decide))) (FC.up fr38 (by decide) (by decide))) ((u39.1 0 314) - (0 : Int32)) (by decide)) (FC.up fr46 (by decide) (by decide))), ⟨z304, z305, z306, z312, z321, z326, z373, z381, zd, zlb, r3, ex1, r6, ex4, r9, u8, ex7, ⟨fr7, i3217, rs7⟩, r13, ex11, (Or.inr (⟨u18, ex17, ⟨fr17, i30517, pt17, rs17⟩, (Or.inr (⟨u25, ex24, ⟨fr24, i30524, i30624, pj24, pt24, rs24⟩, r30, ex28, (Or.inl ⟨z32, (Or.inr (⟨u35, ex34, ⟨fr34, i30534, pt34, rs34⟩, u39, ex38, ⟨fr38, i30638, pj38, rs38⟩, u47, ex46, ⟨fr46, i38146, pd46, rs46⟩, rfl, rfl⟩))⟩)⟩))⟩))⟩, (show 0 ≤ (u47.1 0 305).toInt ∧ (u47.1 0 305).toInt ≤ 1500 from (om_9f0434c1b4 i30517 pt24 i30534 pt34 q49 q50)), (show 0 ≤ (u47.1 0 306).toInt ∧ (u47.1 0 306).toInt ≤ 40 from (om_9c4f3a2e9c i30624 q37 i30638 pj38 q51)), (show 0 ≤ (u47.1 0 321).toInt ∧ (u47.1 0 321).toInt ≤ 501 from (om_455369e3a5 i3217 q52 q53 q54 q55 q56)), (show 0 ≤ (u47.1 0 326).toInt ∧ (u47.1 0 326).toInt ≤ 420 from (om_49eb06c282 z326 q57 q58 q59 q60 q61 q62)), (show 0 ≤ (u47.1 0 381).toInt ∧ (u47.1 0 381).toInt ≤ 3008 from (om_e78eec72e1 i38146)), (show (u47.1 0 381).toInt + (u47.1 0 326).toInt - 2 * (u47.1 0 305).toInt + (5) ≤ (v.1 0 381).toInt + (v.1 0 326).toInt - 2 * (v.1 0 305).toInt from (om_de8729a927 q15 q57 q41 q58 q42 pt17 q59 q43 pt24 q60 q44 pt34 q49 q61 q45 q50 q62 pd46)), (show (v.1 0 305).toInt + 3 ≤ (u47.1 0 305).toInt from (om_2a837ff073 q15 pt17 pt24 pt34 q49 q50)), (show (v.1 0 317).toInt ≤ (u47.1 0 317).toInt ∧ (u47.1 0 317).toInt - 4 * (u47.1 0 305).toInt ≤ (v.1 0 317).toInt - 4 * (v.1 0 305).toInt + 0 from (om_9564a242f5 q15 q63 q64 pt17 q65 pt24 q66 pt34 q49 q67 q50 q68)), (show (u47.1 0 306).toInt = (v.1 0 306).toInt from (om_901bcf77d5 q21 q22 pj24 q37 pj38 q51)), (RS.tr (RS.w0 (RS.tr (RS.tr (RS.tr (RS.tr (RS.tr RS.rf rs7) rs17) rs24) rs34) rs38) (by decide)) rs46)⟩, ⟨by rw [ht9]; exact hP, hD⟩, by rw [ht9]; exact hz⟩, hS.F ht9⟩) hS.2.2 dX2_callFunction_153
  · have z69 : r30.toInt ≠ (31 : Int) := ne_z rfl (show (31 : Int32).toInt = (31 : Int) by decide) h31
    refine lv_aload_n hx hb dX2_callFunction_58 rfl (lv_at hl 3 rfl) ?_
    refine lv_iload_n hx hb dX2_callFunction_59 rfl (lv_at hl 2 rfl) ?_
    refine lv_iconst (v := 0) hx hb dX2_callFunction_60 (by decide) ?_
    obtain ⟨n70, hn71⟩ : ∃ m, n = m + 1 := ex_z (om_73f0efed2d zn q21 q22 i30624 pj24)
    have q72 : (u18.1 0 312).toInt = (u8.1 0 312).toInt := congrArg Int32.toInt ((fr17.2.1 312 (by decide)).trans (show u8.1 0 312 = (u8.1 0 312) by rfl))
    have q73 : (u25.1 0 312).toInt = (u18.1 0 312).toInt := congrArg Int32.toInt ((fr24.2.1 312 (by decide)).trans (show u18.1 0 312 = (u18.1 0 312) by rfl))
    have q74 : (u18.1 0 321).toInt = (u8.1 0 321).toInt := congrArg Int32.toInt ((fr17.2.1 321 (by decide)).trans (show u8.1 0 321 = (u8.1 0 321) by rfl))
    have q75 : (u25.1 0 321).toInt = (u18.1 0 321).toInt := congrArg Int32.toInt ((fr24.2.1 321 (by decide)).trans (show u18.1 0 321 = (u18.1 0 321) by rfl))
    have q76 : (u8.1 0 326).toInt = (v.1 0 326).toInt := congrArg Int32.toInt ((fr7.2.1 326 (by decide)).trans (show v.1 0 326 = (v.1 0 326) by rfl))
    have q77 : (u18.1 0 326).toInt = (u8.1 0 326).toInt := congrArg Int32.toInt ((fr17.2.1 326 (by decide)).trans (show u8.1 0 326 = (u8.1 0 326) by rfl))
    have q78 : (u25.1 0 326).toInt = (u18.1 0 326).toInt := congrArg Int32.toInt ((fr24.2.1 326 (by decide)).trans (show u18.1 0 326 = (u18.1 0 326) by rfl))
    have q79 : (u25.1 0 373).toInt = (u18.1 0 373).toInt := congrArg Int32.toInt ((fr24.2.1 373 (by decide)).trans (show u18.1 0 373 = (u18.1 0 373) by rfl))
    have q80 : (u8.1 0 381).toInt = (v.1 0 381).toInt := congrArg Int32.toInt ((fr7.2.1 381 (by decide)).trans (show v.1 0 381 = (v.1 0 381) by rfl))
    have q81 : (u18.1 0 381).toInt = (u8.1 0 381).toInt := congrArg Int32.toInt ((fr17.2.1 381 (by decide)).trans (show u8.1 0 381 = (u8.1 0 381) by rfl))
    have q82 : (u25.1 0 381).toInt = (u18.1 0 381).toInt := congrArg Int32.toInt ((fr24.2.1 381 (by decide)).trans (show u18.1 0 381 = (u18.1 0 381) by rfl))
    have q83 : (u8.1 0 317).toInt = (v.1 0 317).toInt := congrArg Int32.toInt ((fr7.2.1 317 (by decide)).trans (show v.1 0 317 = (v.1 0 317) by rfl))
    have q84 : (u18.1 0 317).toInt = (u8.1 0 317).toInt := congrArg Int32.toInt ((fr17.2.1 317 (by decide)).trans (show u8.1 0 317 = (u8.1 0 317) by rfl))
    have q85 : (u25.1 0 317).toInt = (u18.1 0 317).toInt := congrArg Int32.toInt ((fr24.2.1 317 (by decide)).trans (show u18.1 0 317 = (u18.1 0 317) by rfl))
    refine W.sz (fun hz9 => ?_)
    refine czx_v (rx_Vk (n := 2) (As := [.int r9, .int 0]) (rest := []) hx hb hml hown ht hKK hFx hP hD hS hA (c_x_X2_argument l n70 (ihE n70 hn71) dC dI cI cB cZ cJ cR tb H.size ad pr N L1 L2 u25 r9 (0 : Int32) ps (show 0 ≤ (u25.1 0 304).toInt ∧ (u25.1 0 304).toInt ≤ 1503 from (om_57e3d9ffbd z304 q14 q20 q27)) (show 0 ≤ (u25.1 0 305).toInt ∧ (u25.1 0 305).toInt ≤ 1500 from (om_89213937cb i30517 i30524 pt24)) (show 0 ≤ (u25.1 0 306).toInt ∧ (u25.1 0 306).toInt ≤ 40 from (om_7eaf33e007 i30624)) (show 0 ≤ (u25.1 0 312).toInt ∧ (u25.1 0 312).toInt ≤ 500 from (om_a369f3fea6 z312 q10 q72 q73)) (show 0 ≤ (u25.1 0 321).toInt ∧ (u25.1 0 321).toInt ≤ 501 from (om_4dfa815534 i3217 q74 q75)) (show 0 ≤ (u25.1 0 326).toInt ∧ (u25.1 0 326).toInt ≤ 420 from (om_ba86cd30dc z326 q76 q77 q78)) (show 0 ≤ (u25.1 0 373).toInt ∧ (u25.1 0 373).toInt ≤ 4000 from (om_282c7f458f z373 q16 q23 q79)) (show 0 ≤ (u25.1 0 381).toInt ∧ (u25.1 0 381).toInt ≤ 3008 from (om_2a08b4c68c z305 z326 z381 zd q80 q81 q82)) (show L1.length = 40 from hL1) (show L2.length = 60 from hL2) (show RP u25 from ((show FC [305, 306, 307, 314, 315, 317, 321, 326, 381] [0, 316, 318, 319, 320, 324, 325, 378, 379, 380] v u25 from (FC.tr (FC.tr (FC.tr (FC.rf _) (FC.up fr7 (by decide) (by decide))) (FC.up fr17 (by decide) (by decide))) (FC.up fr24 (by decide) (by decide)))).1 rp)) (show pr ps = ad 908 from hps) (show (u25.1 0 300) = ps from (Eq.trans (fr24.2.1 300 (by decide)) (Eq.trans (fr17.2.1 300 (by decide)) (Eq.trans (fr7.2.1 300 (by decide)) es300)))) (show (u25.1 0 310) = ps from (Eq.trans (fr24.2.1 310 (by decide)) (Eq.trans (fr17.2.1 310 (by decide)) (Eq.trans (fr7.2.1 310 (by decide)) es310)))) (show l.stackTraces = false from hst) (show (u25.1 0 381).toInt + (u25.1 0 326).toInt - 2 * (u25.1 0 305).toInt ≤ 0 from (om_6fd7372220 zd q15 q76 q80 q77 q81 pt17 q78 q82 pt24)) (show 0 ≤ (u25.1 0 317).toInt ∧ (u25.1 0 317).toInt - 4 * (u25.1 0 305).toInt ≤ 8 from (om_a8292db1a6 zlb q15 q83 q84 pt17 q85 pt24)) (show 40 ≤ (u25.1 0 306).toInt + (n70 : Int) from (om_2c845f05d0 zn q21 q22 pj24 hn71))) tw_541 tw_542 (by decide +kernel) rfl rfl ⟨show (8 * n70 + 21) + 1 ≤ 8 * n + 14 from (om_a3a29a60ac hn71), show 8 + (3 + 11) + 28 * (8 * n70 + 21) ≤ 28 * (8 * n + 14) from (om_def48f1266 hn71)⟩ (List.range (cW ad pr N cI cR L1 L2 u25).length) (rg_map _) (nd_range _) 2 rfl rfl rfl rfl hl.1 rfl (Nat.le_of_ble_eq_true rfl) dX2_callFunction_61 ⟨Nat.le_of_ble_eq_true rfl, Nat.le_of_ble_eq_true rfl⟩) hP hD hS hA (fun u9 ce9 q9 H locs hx9 hP hD hS hc9 hv9 hf9 => ?_) (fun u87 H locs hw86 hP hD hS hz8 => ?_)
    · exact vx_out (fun x h9 => (hnt x h9).elim) hlocks hc9 hv9 hf9 (fun t9 ht9 hv8 => ⟨u9, ⟨FC.tr (FC.tr (FC.tr (FC.tr (FC.rf _) (FC.up fr7 (by decide) (by decide))) (FC.up fr17 (by decide) (by decide))) (FC.up fr24 (by decide) (by decide))) hx9.1, hx9.2.1, ⟨z304, z305, z306, z312, z321, z326, z373, z381, zd, zlb, r3, ex1, r6, ex4, r9, u8, ex7, ⟨fr7, i3217, rs7⟩, r13, ex11, (Or.inr (⟨u18, ex17, ⟨fr17, i30517, pt17, rs17⟩, (Or.inr (⟨u25, ex24, ⟨fr24, i30524, i30624, pj24, pt24, rs24⟩, r30, ex28, (Or.inr (⟨z69, (Or.inl ⟨u9, (by rw [hn71]; exact hx9.2.2), rfl, rfl⟩)⟩))⟩))⟩))⟩⟩, ⟨rfl, by rw [ht9]; exact hP, hD⟩, hS.F ht9⟩) hS.2.2 (Nat.le_refl _) (Nat.le_refl _)
    refine W.shrink (hz8.trans hz9) ?_
    obtain ⟨fr86, ex86, i30586, i30686, i32186, i32686, i38186, pd86, pt86, plb86, po86, rs86⟩ := hw86
    have i30586 : 0 ≤ (u87.1 0 305).toInt ∧ (u87.1 0 305).toInt ≤ 1500 := i30586
    have i30686 : 0 ≤ (u87.1 0 306).toInt ∧ (u87.1 0 306).toInt ≤ 40 := i30686
    have i32186 : 0 ≤ (u87.1 0 321).toInt ∧ (u87.1 0 321).toInt ≤ 501 := i32186
    have i32686 : 0 ≤ (u87.1 0 326).toInt ∧ (u87.1 0 326).toInt ≤ 420 := i32686
    have i38186 : 0 ≤ (u87.1 0 381).toInt ∧ (u87.1 0 381).toInt ≤ 3008 := i38186
    have pd86 : (u87.1 0 381).toInt + (u87.1 0 326).toInt - 2 * (u87.1 0 305).toInt + (0) ≤ (u25.1 0 381).toInt + (u25.1 0 326).toInt - 2 * (u25.1 0 305).toInt := pd86
    have pt86 : (u25.1 0 305).toInt + 1 ≤ (u87.1 0 305).toInt := pt86
    have plb86 : (u25.1 0 317).toInt ≤ (u87.1 0 317).toInt ∧ (u87.1 0 317).toInt - 4 * (u87.1 0 305).toInt ≤ (u25.1 0 317).toInt - 4 * (u25.1 0 305).toInt + 0 := plb86
    have po86 : (u87.1 0 306).toInt = (u25.1 0 306).toInt := po86
    have rs86 : RS u25 u87 := rs86
    refine lv_iinc (v := 1) (lv' := [(3, .int 1), (2, .int r13), (1, .int r9), (0, .ref (ad 902))]) hx hb dX2_callFunction_64 hl (k := 0) rfl (by decide) (by decide) rfl (fun ls hl => ?_)
    refine lv_iconst (v := 1) hx hb dX2_callFunction_67 (by decide) ?_
    refine lv_istore (lv' := [(4, .int 1), (3, .int 1), (2, .int r13), (1, .int r9), (0, .ref (ad 902))]) hx hb dX2_callFunction_68 hl (by decide) rfl (fun ls hl => ?_)
    refine lpm_ (X := Int32 × Int32 × MS) (P := (fun (x9 : Int32 × Int32 × MS) (H : Heap) (locs : List Loc) (ls : Array Slot) => (FC [305, 306, 307, 314, 315, 317, 321, 326, 381] [0, 316, 318, 319, 320, 324, 325, 378, 379, 380] v x9.2.2) ∧ (0 ≤ (x9.2.2.1 0 305).toInt ∧ (x9.2.2.1 0 305).toInt ≤ 1500) ∧ (0 ≤ (x9.2.2.1 0 306).toInt ∧ (x9.2.2.1 0 306).toInt ≤ 40) ∧ (0 ≤ (x9.2.2.1 0 321).toInt ∧ (x9.2.2.1 0 321).toInt ≤ 501) ∧ (0 ≤ (x9.2.2.1 0 326).toInt ∧ (x9.2.2.1 0 326).toInt ≤ 420) ∧ (0 ≤ (x9.2.2.1 0 381).toInt ∧ (x9.2.2.1 0 381).toInt ≤ 3008) ∧ (1 ≤ x9.2.1.toInt ∧ x9.2.1.toInt ≤ 1500) ∧ (RS v x9.2.2) ∧ ((v.1 0 305).toInt + 2 ≤ (x9.2.2.1 0 305).toInt) ∧ ((v.1 0 317).toInt ≤ (x9.2.2.1 0 317).toInt ∧ (x9.2.2.1 0 317).toInt - 4 * (x9.2.2.1 0 305).toInt ≤ (v.1 0 317).toInt - 4 * (v.1 0 305).toInt) ∧ ((x9.2.2.1 0 381).toInt + (x9.2.2.1 0 326).toInt - 2 * (x9.2.2.1 0 305).toInt + (4) ≤ (v.1 0 381).toInt + (v.1 0 326).toInt - 2 * (v.1 0 305).toInt) ∧ ((x9.2.2.1 0 306).toInt = (v.1 0 306).toInt + 1) ∧ (RT (Q_x_X2_callFunction_L0 L1 L2 (pE L1 L2 n) v r9) (1, 1, u87) (x9.1, x9.2.1, x9.2.2)) ∧ va_P (dC, dI) vwCl (cW ad pr N cI cR L1 L2 x9.2.2) H ∧ va_D A (cW ad pr N cI cR L1 L2 x9.2.2) ∧ va_S A s.heap H locs ∧ lv_has ls 5 [(4, .int x9.2.1), (3, .int x9.1), (2, .int r13), (1, .int r9), (0, .ref (ad 902))])) (fun x9 => (1500 - x9.2.1.toInt).toNat) 70 (fun x9 H locs ls hh ih70 => ?_) (1, 1, u87) _ _ _ ⟨(show FC [305, 306, 307, 314, 315, 317, 321, 326, 381] [0, 316, 318, 319, 320, 324, 325, 378, 379, 380] v u87 from (FC.tr (FC.tr (FC.tr (FC.tr (FC.rf _) (FC.up fr7 (by decide) (by decide))) (FC.up fr17 (by decide) (by decide))) (FC.up fr24 (by decide) (by decide))) (FC.up fr86 (by decide) (by decide)))), (show 0 ≤ (u87.1 0 305).toInt ∧ (u87.1 0 305).toInt ≤ 1500 from (om_5f02f7d50e i30517 pt24 i30586 pt86)), (show 0 ≤ (u87.1 0 306).toInt ∧ (u87.1 0 306).toInt ≤ 40 from (om_7eaf33e007 i30686)), (show 0 ≤ (u87.1 0 321).toInt ∧ (u87.1 0 321).toInt ≤ 501 from (om_e1d35f5faf i32186)), (show 0 ≤ (u87.1 0 326).toInt ∧ (u87.1 0 326).toInt ≤ 420 from (om_839d7ed7dd i32686)), (show 0 ≤ (u87.1 0 381).toInt ∧ (u87.1 0 381).toInt ≤ 3008 from (om_e78eec72e1 i38186)), (show 1 ≤ (1 : Int) ∧ (1 : Int) ≤ 1500 from om_a29fe7849e), (show RS v u87 from (RS.tr (RS.tr (RS.tr (RS.tr RS.rf rs7) rs17) rs24) rs86)), (show (v.1 0 305).toInt + 2 ≤ (u87.1 0 305).toInt from (om_ce1b4e9c81 q15 pt17 pt24 pt86)), (show (v.1 0 317).toInt ≤ (u87.1 0 317).toInt ∧ (u87.1 0 317).toInt - 4 * (u87.1 0 305).toInt ≤ (v.1 0 317).toInt - 4 * (v.1 0 305).toInt from (om_482d510bd8 q15 q83 q84 pt17 q85 pt24 plb86)), (show (u87.1 0 381).toInt + (u87.1 0 326).toInt - 2 * (u87.1 0 305).toInt + (4) ≤ (v.1 0 381).toInt + (v.1 0 326).toInt - 2 * (v.1 0 305).toInt from (om_983734c6a0 q15 q76 q80 q77 q81 pt17 q78 q82 pt24 pd86)), (show (u87.1 0 306).toInt = (v.1 0 306).toInt + 1 from (om_f3b8f628f3 q21 q22 pj24 po86)), RT.rf, hP, hD, hS, lv_sub hl [0, 1, 2, 3, 4] rfl⟩
    obtain ⟨ar9, ka, w70⟩ := x9
    obtain ⟨fwL70, i305L70, i306L70, i321L70, i326L70, i381L70, f1L70, rsL70, ptL70, plbL70, pdL70, poL70, exL70, hP, hD, hS, hl⟩ := hh
    have fwL70 : FC [305, 306, 307, 314, 315, 317, 321, 326, 381] [0, 316, 318, 319, 320, 324, 325, 378, 379, 380] v w70 := fwL70
    have i305L70 : 0 ≤ (w70.1 0 305).toInt ∧ (w70.1 0 305).toInt ≤ 1500 := i305L70
    have i306L70 : 0 ≤ (w70.1 0 306).toInt ∧ (w70.1 0 306).toInt ≤ 40 := i306L70
    have i321L70 : 0 ≤ (w70.1 0 321).toInt ∧ (w70.1 0 321).toInt ≤ 501 := i321L70
    have i326L70 : 0 ≤ (w70.1 0 326).toInt ∧ (w70.1 0 326).toInt ≤ 420 := i326L70
    have i381L70 : 0 ≤ (w70.1 0 381).toInt ∧ (w70.1 0 381).toInt ≤ 3008 := i381L70
    have f1L70 : 1 ≤ ka.toInt ∧ ka.toInt ≤ 1500 := f1L70
    have rsL70 : RS v w70 := rsL70
    have ptL70 : (v.1 0 305).toInt + 2 ≤ (w70.1 0 305).toInt := ptL70
    have plbL70 : (v.1 0 317).toInt ≤ (w70.1 0 317).toInt ∧ (w70.1 0 317).toInt - 4 * (w70.1 0 305).toInt ≤ (v.1 0 317).toInt - 4 * (v.1 0 305).toInt := plbL70
    have pdL70 : (w70.1 0 381).toInt + (w70.1 0 326).toInt - 2 * (w70.1 0 305).toInt + (4) ≤ (v.1 0 381).toInt + (v.1 0 326).toInt - 2 * (v.1 0 305).toInt := pdL70
    have poL70 : (w70.1 0 306).toInt = (v.1 0 306).toInt + 1 := poL70
    have hP : va_P (dC, dI) vwCl (cW ad pr N cI cR L1 L2 w70) H := hP
    have hD : va_D A (cW ad pr N cI cR L1 L2 w70) := hD
    have hl : lv_has ls 5 [(4, .int ka), (3, .int ar9), (2, .int r13), (1, .int r9), (0, .ref (ad 902))] := hl
    refine lv_iload hx hb dX2_callFunction_70 (lv_at hl 0 rfl) ?_
    refine lv_sipush (v := 1500) hx hb dX2_callFunction_72 (by decide) ?_
    refine lv_icmp_ge (tgt := 113) hx hb dX2_callFunction_75 (by decide) (fun h89 => ?_) (fun h89 => ?_)
    · have z90 : (1500 : Int) ≤ ka.toInt := le_z (show (1500 : Int32).toInt = (1500 : Int) by decide) rfl h89
      refine lv_aload_n hx hb dX2_callFunction_113 rfl (lv_at hl 4 rfl) ?_
      refine va_get (D := (dC, dI)) (ci := 6) (fs := oF_X2 ad pr w70) (v := .ref (ad 900)) (C := RX2) (T := TX2) (N := 5) hx hb ht itX2 hown hK hP 2 rfl rfl 0 (by decide) (ht _ tw_509) (fun _ h9 => h9) rfl dX2_callFunction_114 ?_
      refine lv_bipush (v := 31) hx hb dX2_callFunction_117 (by decide) ?_
      have q91 : (w70.1 0 304).toInt = (v.1 0 304).toInt := congrArg Int32.toInt ((fwL70.2.1 304 (by decide)).trans (show v.1 0 304 = (v.1 0 304) by rfl))
      have q92 : (w70.1 0 373).toInt = (v.1 0 373).toInt := congrArg Int32.toInt ((fwL70.2.1 373 (by decide)).trans (show v.1 0 373 = (v.1 0 373) by rfl))
      refine W.sz (fun hz9 => ?_)
      refine czx_v (rx_Vk (n := 1) (As := [.int 31]) (rest := []) hx hb hml hown ht hKK hFx hP hD hS hA (c_x_X9_expect l dC dI cI cB cZ cJ cR tb H.size ad pr N L1 L2 w70 (31 : Int32) ps (show 0 ≤ (w70.1 0 304).toInt ∧ (w70.1 0 304).toInt ≤ 1503 from (om_73002589c1 z304 q91)) (show 0 ≤ (w70.1 0 305).toInt ∧ (w70.1 0 305).toInt ≤ 1500 from (om_26d9e457ca z305 i305L70 ptL70)) (show 0 ≤ (w70.1 0 373).toInt ∧ (w70.1 0 373).toInt ≤ 4000 from (om_9084c127ed z373 q92)) (show pr ps = ad 908 from hps) (show (w70.1 0 300) = ps from (Eq.trans (fwL70.2.1 300 (by decide)) es300)) (show l.stackTraces = false from hst)) tw_526 tw_527 (by decide +kernel) rfl rfl ⟨show 7 + 1 ≤ 8 * n + 14 from om_46126d3ba0, show 8 + (2 + 11) + 104 ≤ 28 * (8 * n + 14) from om_2d7c913608⟩ (List.range (cW ad pr N cI cR L1 L2 w70).length) (rg_map _) (nd_range _) 0 rfl rfl rfl rfl hl.1 rfl (Nat.le_of_ble_eq_true rfl) dX2_callFunction_119 ⟨Nat.le_of_ble_eq_true rfl, Nat.le_of_ble_eq_true rfl⟩) hP hD hS hA (fun u9 ce9 q9 H locs hx9 hP hD hS hc9 hv9 hf9 => ?_) (fun u94 H locs hw93 hP hD hS hz8 => ?_)
      · exact vx_out (fun x h9 => (hnt x h9).elim) hlocks hc9 hv9 hf9 (fun t9 ht9 hv8 => ⟨u9, ⟨FC.tr (FC.tr (FC.rf _) (FC.up fwL70 (by decide) (by decide))) hx9.1, hx9.2.1, ⟨z304, z305, z306, z312, z321, z326, z373, z381, zd, zlb, r3, ex1, r6, ex4, r9, u8, ex7, ⟨fr7, i3217, rs7⟩, r13, ex11, (Or.inr (⟨u18, ex17, ⟨fr17, i30517, pt17, rs17⟩, (Or.inr (⟨u25, ex24, ⟨fr24, i30524, i30624, pj24, pt24, rs24⟩, r30, ex28, (Or.inr (⟨z69, (Or.inr (⟨u87, (by rw [hn71]; exact ex86), ⟨fr86, i30586, i30686, i32186, i32686, i38186, pd86, pt86, plb86, po86, rs86⟩, ar9, ka, w70, exL70, fwL70, i305L70, i306L70, i321L70, i326L70, i381L70, f1L70, rsL70, ptL70, plbL70, pdL70, poL70, (Or.inl ⟨z90, (Or.inl ⟨u9, hx9.2.2, rfl, rfl⟩)⟩)⟩))⟩))⟩))⟩))⟩⟩, ⟨rfl, by rw [ht9]; exact hP, hD⟩, hS.F ht9⟩) hS.2.2 (Nat.le_refl _) (Nat.le_refl _)
      refine W.shrink (hz8.trans hz9) ?_
      obtain ⟨fr93, ex93, i30593, pt93, rs93⟩ := hw93
      have i30593 : 0 ≤ (u94.1 0 305).toInt ∧ (u94.1 0 305).toInt ≤ 1500 := i30593
      have pt93 : (u94.1 0 305).toInt = (w70.1 0 305).toInt + 1 := pt93
      have rs93 : RS w70 u94 := rs93
      refine lv_aload_n hx hb dX2_callFunction_122 rfl (lv_at hl 4 rfl) ?_
      refine va_get (D := (dC, dI)) (ci := 6) (fs := oF_X2 ad pr u94) (v := .ref (ad 900)) (C := RX2) (T := TX2) (N := 5) hx hb ht itX2 hown hK hP 2 rfl rfl 0 (by decide) (ht _ tw_509) (fun _ h9 => h9) rfl dX2_callFunction_123 ?_
      have q96 : (u94.1 0 306).toInt = (w70.1 0 306).toInt := congrArg Int32.toInt ((fr93.2.1 306 (by decide)).trans (show w70.1 0 306 = (w70.1 0 306) by rfl))
      refine cu_v (rn_Vk (n := 0) (As := []) (rest := []) hx hb hml hown ht hKK hFx hP hD hS hA (c_x_X9_close l dC dI cI cB cZ cJ cR tb H.size ad pr N L1 L2 u94  (show 0 ≤ (u94.1 0 306).toInt ∧ (u94.1 0 306).toInt ≤ 40 from (om_209fa13ef3 z306 i306L70 poL70 q96)) (show 1 ≤ (u94.1 0 306).toInt from (om_bfd497b3b5 z306 poL70 q96))) tw_528 tw_529 (by decide +kernel) rfl rfl ⟨show 0 + 1 ≤ 8 * n + 14 from om_2d92e09058, show 8 + (1 + 11) + 0 ≤ 28 * (8 * n + 14) from om_289622e6d2⟩ (List.range (cW ad pr N cI cR L1 L2 u94).length) (rg_map _) (nd_range _) 0 rfl rfl rfl rfl hl.1 rfl (Nat.le_of_ble_eq_true rfl) dX2_callFunction_126 ⟨Nat.le_of_ble_eq_true rfl, Nat.le_of_ble_eq_true rfl⟩) hP hD hS hA (fun u98 H locs hw97 hP hD hS => ?_)
      obtain ⟨fr97, ex97, i30697, pj97, rs97⟩ := hw97
      have i30697 : 0 ≤ (u98.1 0 306).toInt ∧ (u98.1 0 306).toInt ≤ 40 := i30697
      have pj97 : (u98.1 0 306).toInt = (u94.1 0 306).toInt - 1 := pj97
      have rs97 : RS u94 u98 := rs97
      refine W.widen (k := 0) (n := 0) (Nat.le_refl _) (Nat.le_refl _) ?_
      refine lv_aload_n hx hb dX2_callFunction_129 rfl (lv_at hl 4 rfl) ?_
      refine va_get (D := (dC, dI)) (ci := 6) (fs := oF_X2 ad pr u98) (v := .ref (ad 901)) (C := RX2) (T := TX2) (N := 5) hx hb ht itX2 hown hK hP 2 rfl rfl 1 (by decide) (ht _ tw_498) (fun _ h9 => h9) rfl dX2_callFunction_130 ?_
      refine lv_dup hx hb dX2_callFunction_133 rfl ?_
      refine va_getN (D := (dC, dI)) (ci := 5) (fs := oF_X1 ad pr u98) (v := .int (u98.1 0 314)) (C := RX1) (T := TX1) (N := 12) hx hb ht itX1 hown hK hP 1 rfl rfl 4 (by decide) (hKK.fl2 6 rfl) (fun _ h9 => h9) rfl dX2_callFunction_134 ?_
      refine lv_iload_n hx hb dX2_callFunction_137 rfl (lv_at hl 1 rfl) ?_
      refine lv_isub hx hb dX2_callFunction_138 ?_
      refine va_putN (D := (dC, dI)) (ci := 5) (fs := oF_X1 ad pr u98) (v := .int ((u98.1 0 314) - ar9)) (ty := .int) (C := RX1) (T := TX1) (N := 12) hx hb ht itX1 tyX1 tyX1_ok nmX1 hown hK hP hD hS 1 rfl rfl 4 (by decide) (hKK.fl2 6 rfl) (fun _ h9 => h9) rfl (by decide +kernel) rfl rfl (Nat.le_of_ble_eq_true rfl) dX2_callFunction_139 (fun H locs hP hD hS => ?_)
      have hP := cP_ (cw_314 ad pr N cI cR L1 L2 u98 ((u98.1 0 314) - ar9)) hP
      have hD := cD_ (cw_314 ad pr N cI cR L1 L2 u98 ((u98.1 0 314) - ar9)) hD
      refine lv_aload_n hx hb dX2_callFunction_142 rfl (lv_at hl 4 rfl) ?_
      refine va_get (D := (dC, dI)) (ci := 6) (fs := oF_X2 ad pr (wA u98 0 314 ((u98.1 0 314) - ar9))) (v := .ref (ad 901)) (C := RX2) (T := TX2) (N := 5) hx hb ht itX2 hown hK hP 2 rfl rfl 1 (by decide) (ht _ tw_498) (fun _ h9 => h9) rfl dX2_callFunction_143 ?_
      refine lv_bipush (v := 21) hx hb dX2_callFunction_146 (by decide) ?_
      refine lv_iload_n hx hb dX2_callFunction_148 rfl (lv_at hl 3 rfl) ?_
      refine lv_iload_n hx hb dX2_callFunction_149 rfl (lv_at hl 2 rfl) ?_
      have q100 : (u94.1 0 381).toInt = (w70.1 0 381).toInt := congrArg Int32.toInt ((fr93.2.1 381 (by decide)).trans (show w70.1 0 381 = (w70.1 0 381) by rfl))
      have q101 : (u98.1 0 381).toInt = (u94.1 0 381).toInt := congrArg Int32.toInt ((fr97.2.1 381 (by decide)).trans (show u94.1 0 381 = (u94.1 0 381) by rfl))
      refine cu_v (rn_Vk (n := 3) (As := [.int 21, .int r9, .int r13]) (rest := []) hx hb hml hown ht hKK hFx hP hD hS hA (c_x_X1_add l dC dI cI cB cZ cJ cR tb H.size ad pr N L1 L2 (wA u98 0 314 ((u98.1 0 314) - ar9)) (21 : Int32) r9 r13 ps (show 0 ≤ (u98.1 0 381).toInt ∧ (u98.1 0 381).toInt ≤ 3008 from (om_a1edc0e52b zd i305L70 i326L70 i381L70 pdL70 q100 q101)) (show pr ps = ad 908 from hps) (show (u98.1 0 310) = ps from (Eq.trans (fr97.2.1 310 (by decide)) (Eq.trans (fr93.2.1 310 (by decide)) (Eq.trans (fwL70.2.1 310 (by decide)) es310)))) (show (u98.1 0 381).toInt < 3008 from (om_0b9513ec40 zd i305L70 i326L70 pdL70 q100 q101))) tw_499 tw_500 (by decide +kernel) rfl rfl ⟨show 0 + 1 ≤ 8 * n + 14 from om_2d92e09058, show 8 + (5 + 11) + 0 ≤ 28 * (8 * n + 14) from om_f68798533e⟩ (List.range (cW ad pr N cI cR L1 L2 (wA u98 0 314 ((u98.1 0 314) - ar9))).length) (rg_map _) (nd_range _) 1 rfl rfl rfl rfl hl.1 rfl (Nat.le_of_ble_eq_true rfl) dX2_callFunction_150 ⟨Nat.le_of_ble_eq_true rfl, Nat.le_of_ble_eq_true rfl⟩) hP hD hS hA (fun u103 H locs hw102 hP hD hS => ?_)
      obtain ⟨fr102, ex102, i381102, pd102, rs102⟩ := hw102
      have i381102 : 0 ≤ (u103.1 0 381).toInt ∧ (u103.1 0 381).toInt ≤ 3008 := i381102
      have pd102 : (u103.1 0 381).toInt = (u98.1 0 381).toInt + 1 := pd102
      have rs102 : RS (wA u98 0 314 ((u98.1 0 314) - ar9)) u103 := rs102
      refine W.widen (k := 0) (n := 0) (Nat.le_refl _) (Nat.le_refl _) ?_
      have q105 : (u98.1 0 305).toInt = (u94.1 0 305).toInt := congrArg Int32.toInt ((fr97.2.1 305 (by decide)).trans (show u94.1 0 305 = (u94.1 0 305) by rfl))
      have q106 : (u103.1 0 305).toInt = (u98.1 0 305).toInt := congrArg Int32.toInt ((fr102.2.1 305 (by decide)).trans (show (wA u98 0 314 ((u98.1 0 314) - ar9)).1 0 305 = (u98.1 0 305) by rfl))
      have q107 : (u103.1 0 306).toInt = (u98.1 0 306).toInt := congrArg Int32.toInt ((fr102.2.1 306 (by decide)).trans (show (wA u98 0 314 ((u98.1 0 314) - ar9)).1 0 306 = (u98.1 0 306) by rfl))
      have q108 : (u94.1 0 321).toInt = (w70.1 0 321).toInt := congrArg Int32.toInt ((fr93.2.1 321 (by decide)).trans (show w70.1 0 321 = (w70.1 0 321) by rfl))
      have q109 : (u98.1 0 321).toInt = (u94.1 0 321).toInt := congrArg Int32.toInt ((fr97.2.1 321 (by decide)).trans (show u94.1 0 321 = (u94.1 0 321) by rfl))
      have q110 : (u103.1 0 321).toInt = (u98.1 0 321).toInt := congrArg Int32.toInt ((fr102.2.1 321 (by decide)).trans (show (wA u98 0 314 ((u98.1 0 314) - ar9)).1 0 321 = (u98.1 0 321) by rfl))
      have q111 : (u94.1 0 326).toInt = (w70.1 0 326).toInt := congrArg Int32.toInt ((fr93.2.1 326 (by decide)).trans (show w70.1 0 326 = (w70.1 0 326) by rfl))
      have q112 : (u98.1 0 326).toInt = (u94.1 0 326).toInt := congrArg Int32.toInt ((fr97.2.1 326 (by decide)).trans (show u94.1 0 326 = (u94.1 0 326) by rfl))
      have q113 : (u103.1 0 326).toInt = (u98.1 0 326).toInt := congrArg Int32.toInt ((fr102.2.1 326 (by decide)).trans (show (wA u98 0 314 ((u98.1 0 314) - ar9)).1 0 326 = (u98.1 0 326) by rfl))
      have q114 : (u94.1 0 317).toInt = (w70.1 0 317).toInt := congrArg Int32.toInt ((fr93.2.1 317 (by decide)).trans (show w70.1 0 317 = (w70.1 0 317) by rfl))
      have q115 : (u98.1 0 317).toInt = (u94.1 0 317).toInt := congrArg Int32.toInt ((fr97.2.1 317 (by decide)).trans (show u94.1 0 317 = (u94.1 0 317) by rfl))
      have q116 : (u103.1 0 317).toInt = (u98.1 0 317).toInt := congrArg Int32.toInt ((fr102.2.1 317 (by decide)).trans (show (wA u98 0 314 ((u98.1 0 314) - ar9)).1 0 317 = (u98.1 0 317) by rfl))
      refine W.sz (fun hz => ?_)
      refine vx_ret ?_
      refine W.widen (k := 1) (n := 6) (Nat.le_of_ble_eq_true rfl) (Nat.le_of_ble_eq_true rfl) ?_
      exact W.vret hx hb hr (fun t ht9 hW => ⟨⟨u103, rfl, ⟨(FC.tr (FC.f (FC.tr (FC.tr (FC.tr (FC.rf _) (FC.up fwL70 (by decide) (by decide))) (FC.up fr93 (by decide) (by decide))) (FC.up fr97 (by decide) (by decide))) ((u98.1 0 314) - ar9) (by decide)) (FC.up fr102 (by decide) (by decide))), ⟨z304, z305, z306, z312, z321, z326, z373, z381, zd, zlb, r3, ex1, r6, ex4, r9, u8, ex7, ⟨fr7, i3217, rs7⟩, r13, ex11, (Or.inr (⟨u18, ex17, ⟨fr17, i30517, pt17, rs17⟩, (Or.inr (⟨u25, ex24, ⟨fr24, i30524, i30624, pj24, pt24, rs24⟩, r30, ex28, (Or.inr (⟨z69, (Or.inr (⟨u87, (by rw [hn71]; exact ex86), ⟨fr86, i30586, i30686, i32186, i32686, i38186, pd86, pt86, plb86, po86, rs86⟩, ar9, ka, w70, exL70, fwL70, i305L70, i306L70, i321L70, i326L70, i381L70, f1L70, rsL70, ptL70, plbL70, pdL70, poL70, (Or.inl ⟨z90, (Or.inr (⟨u94, ex93, ⟨fr93, i30593, pt93, rs93⟩, u98, ex97, ⟨fr97, i30697, pj97, rs97⟩, u103, ex102, ⟨fr102, i381102, pd102, rs102⟩, rfl, rfl⟩))⟩)⟩))⟩))⟩))⟩))⟩, (show 0 ≤ (u103.1 0 305).toInt ∧ (u103.1 0 305).toInt ≤ 1500 from (om_f932d0ad33 zd i326L70 i381L70 pdL70 i30593 pt93 q105 q106)), (show 0 ≤ (u103.1 0 306).toInt ∧ (u103.1 0 306).toInt ≤ 40 from (om_9c4f3a2e9c i306L70 q96 i30697 pj97 q107)), (show 0 ≤ (u103.1 0 321).toInt ∧ (u103.1 0 321).toInt ≤ 501 from (om_ca65317fd6 i321L70 q108 q109 q110)), (show 0 ≤ (u103.1 0 326).toInt ∧ (u103.1 0 326).toInt ≤ 420 from (om_ba86cd30dc i326L70 q111 q112 q113)), (show 0 ≤ (u103.1 0 381).toInt ∧ (u103.1 0 381).toInt ≤ 3008 from (om_27f7c01d37 zd i305L70 i326L70 pdL70 q100 q101 i381102 pd102)), (show (u103.1 0 381).toInt + (u103.1 0 326).toInt - 2 * (u103.1 0 305).toInt + (5) ≤ (v.1 0 381).toInt + (v.1 0 326).toInt - 2 * (v.1 0 305).toInt from (om_ac674dbf3d pdL70 q111 q100 pt93 q105 q112 q101 q106 q113 pd102)), (show (v.1 0 305).toInt + 3 ≤ (u103.1 0 305).toInt from (om_d77598a3b6 ptL70 pt93 q105 q106)), (show (v.1 0 317).toInt ≤ (u103.1 0 317).toInt ∧ (u103.1 0 317).toInt - 4 * (u103.1 0 305).toInt ≤ (v.1 0 317).toInt - 4 * (v.1 0 305).toInt + 0 from (om_a30ee88fae plbL70 q114 pt93 q105 q115 q106 q116)), (show (u103.1 0 306).toInt = (v.1 0 306).toInt from (om_00cb03f044 poL70 q96 pj97 q107)), (RS.tr (RS.w0 (RS.tr (RS.tr (RS.tr RS.rf rsL70) rs93) rs97) (by decide)) rs102)⟩, ⟨by rw [ht9]; exact hP, hD⟩, by rw [ht9]; exact hz⟩, hS.F ht9⟩) hS.2.2 dX2_callFunction_153
    · have z117 : ka.toInt < (1500 : Int) := nle_z (show (1500 : Int32).toInt = (1500 : Int) by decide) rfl h89
      refine lv_aload_n hx hb dX2_callFunction_78 rfl (lv_at hl 4 rfl) ?_
      refine va_get (D := (dC, dI)) (ci := 6) (fs := oF_X2 ad pr w70) (v := .ref (ad 900)) (C := RX2) (T := TX2) (N := 5) hx hb ht itX2 hown hK hP 2 rfl rfl 0 (by decide) (ht _ tw_509) (fun _ h9 => h9) rfl dX2_callFunction_79 ?_
      have q118 : (w70.1 0 304).toInt = (v.1 0 304).toInt := congrArg Int32.toInt ((fwL70.2.1 304 (by decide)).trans (show v.1 0 304 = (v.1 0 304) by rfl))
      refine cu_i (rn_Vk (n := 0) (As := []) (rest := []) hx hb hml hown ht hKK hFx hP hD hS hA (c_x_X9_kind l dC dI cI cB cZ cJ cR tb H.size ad pr N L1 L2 w70  (show 0 ≤ (w70.1 0 304).toInt ∧ (w70.1 0 304).toInt ≤ 1503 from (om_73002589c1 z304 q118)) (show 0 ≤ (w70.1 0 305).toInt ∧ (w70.1 0 305).toInt ≤ 1500 from (om_26d9e457ca z305 i305L70 ptL70))) tw_455 tw_532 (by decide +kernel) rfl rfl ⟨show 0 + 1 ≤ 8 * n + 14 from om_2d92e09058, show 8 + (1 + 11) + 0 ≤ 28 * (8 * n + 14) from om_289622e6d2⟩ (List.range (cW ad pr N cI cR L1 L2 w70).length) (rg_map _) (nd_range _) 0 rfl rfl rfl rfl hl.1 rfl (Nat.le_of_ble_eq_true rfl) dX2_callFunction_82 ⟨Nat.le_of_ble_eq_true rfl, Nat.le_of_ble_eq_true rfl⟩) hP hD hS hA (fun r121 u120 H locs hw119 hP hD hS => ?_)
      obtain ⟨rfl, ex119⟩ := hw119
      refine W.widen (k := 0) (n := 0) (Nat.le_refl _) (Nat.le_refl _) ?_
      refine lv_bipush (v := 37) hx hb dX2_callFunction_85 (by decide) ?_
      refine lv_icmp_ne (tgt := 113) hx hb dX2_callFunction_87 (by decide) (fun h122 => ?_) (fun h122 => ?_)
      · have z123 : r121.toInt ≠ (37 : Int) := ne_z rfl (show (37 : Int32).toInt = (37 : Int) by decide) h122
        refine lv_aload_n hx hb dX2_callFunction_113 rfl (lv_at hl 4 rfl) ?_
        refine va_get (D := (dC, dI)) (ci := 6) (fs := oF_X2 ad pr w70) (v := .ref (ad 900)) (C := RX2) (T := TX2) (N := 5) hx hb ht itX2 hown hK hP 2 rfl rfl 0 (by decide) (ht _ tw_509) (fun _ h9 => h9) rfl dX2_callFunction_114 ?_
        refine lv_bipush (v := 31) hx hb dX2_callFunction_117 (by decide) ?_
        have q124 : (w70.1 0 373).toInt = (v.1 0 373).toInt := congrArg Int32.toInt ((fwL70.2.1 373 (by decide)).trans (show v.1 0 373 = (v.1 0 373) by rfl))
        refine W.sz (fun hz9 => ?_)
        refine czx_v (rx_Vk (n := 1) (As := [.int 31]) (rest := []) hx hb hml hown ht hKK hFx hP hD hS hA (c_x_X9_expect l dC dI cI cB cZ cJ cR tb H.size ad pr N L1 L2 w70 (31 : Int32) ps (show 0 ≤ (w70.1 0 304).toInt ∧ (w70.1 0 304).toInt ≤ 1503 from (om_73002589c1 z304 q118)) (show 0 ≤ (w70.1 0 305).toInt ∧ (w70.1 0 305).toInt ≤ 1500 from (om_26d9e457ca z305 i305L70 ptL70)) (show 0 ≤ (w70.1 0 373).toInt ∧ (w70.1 0 373).toInt ≤ 4000 from (om_9084c127ed z373 q124)) (show pr ps = ad 908 from hps) (show (w70.1 0 300) = ps from (Eq.trans (fwL70.2.1 300 (by decide)) es300)) (show l.stackTraces = false from hst)) tw_526 tw_527 (by decide +kernel) rfl rfl ⟨show 7 + 1 ≤ 8 * n + 14 from om_46126d3ba0, show 8 + (2 + 11) + 104 ≤ 28 * (8 * n + 14) from om_2d7c913608⟩ (List.range (cW ad pr N cI cR L1 L2 w70).length) (rg_map _) (nd_range _) 0 rfl rfl rfl rfl hl.1 rfl (Nat.le_of_ble_eq_true rfl) dX2_callFunction_119 ⟨Nat.le_of_ble_eq_true rfl, Nat.le_of_ble_eq_true rfl⟩) hP hD hS hA (fun u9 ce9 q9 H locs hx9 hP hD hS hc9 hv9 hf9 => ?_) (fun u126 H locs hw125 hP hD hS hz8 => ?_)
        · exact vx_out (fun x h9 => (hnt x h9).elim) hlocks hc9 hv9 hf9 (fun t9 ht9 hv8 => ⟨u9, ⟨FC.tr (FC.tr (FC.rf _) (FC.up fwL70 (by decide) (by decide))) hx9.1, hx9.2.1, ⟨z304, z305, z306, z312, z321, z326, z373, z381, zd, zlb, r3, ex1, r6, ex4, r9, u8, ex7, ⟨fr7, i3217, rs7⟩, r13, ex11, (Or.inr (⟨u18, ex17, ⟨fr17, i30517, pt17, rs17⟩, (Or.inr (⟨u25, ex24, ⟨fr24, i30524, i30624, pj24, pt24, rs24⟩, r30, ex28, (Or.inr (⟨z69, (Or.inr (⟨u87, (by rw [hn71]; exact ex86), ⟨fr86, i30586, i30686, i32186, i32686, i38186, pd86, pt86, plb86, po86, rs86⟩, ar9, ka, w70, exL70, fwL70, i305L70, i306L70, i321L70, i326L70, i381L70, f1L70, rsL70, ptL70, plbL70, pdL70, poL70, (Or.inr (⟨z117, r121, ex119, (Or.inl ⟨z123, (Or.inl ⟨u9, hx9.2.2, rfl, rfl⟩)⟩)⟩))⟩))⟩))⟩))⟩))⟩⟩, ⟨rfl, by rw [ht9]; exact hP, hD⟩, hS.F ht9⟩) hS.2.2 (Nat.le_refl _) (Nat.le_refl _)
        refine W.shrink (hz8.trans hz9) ?_
        obtain ⟨fr125, ex125, i305125, pt125, rs125⟩ := hw125
        have i305125 : 0 ≤ (u126.1 0 305).toInt ∧ (u126.1 0 305).toInt ≤ 1500 := i305125
        have pt125 : (u126.1 0 305).toInt = (w70.1 0 305).toInt + 1 := pt125
        have rs125 : RS w70 u126 := rs125
        refine lv_aload_n hx hb dX2_callFunction_122 rfl (lv_at hl 4 rfl) ?_
        refine va_get (D := (dC, dI)) (ci := 6) (fs := oF_X2 ad pr u126) (v := .ref (ad 900)) (C := RX2) (T := TX2) (N := 5) hx hb ht itX2 hown hK hP 2 rfl rfl 0 (by decide) (ht _ tw_509) (fun _ h9 => h9) rfl dX2_callFunction_123 ?_
        have q128 : (u126.1 0 306).toInt = (w70.1 0 306).toInt := congrArg Int32.toInt ((fr125.2.1 306 (by decide)).trans (show w70.1 0 306 = (w70.1 0 306) by rfl))
        refine cu_v (rn_Vk (n := 0) (As := []) (rest := []) hx hb hml hown ht hKK hFx hP hD hS hA (c_x_X9_close l dC dI cI cB cZ cJ cR tb H.size ad pr N L1 L2 u126  (show 0 ≤ (u126.1 0 306).toInt ∧ (u126.1 0 306).toInt ≤ 40 from (om_209fa13ef3 z306 i306L70 poL70 q128)) (show 1 ≤ (u126.1 0 306).toInt from (om_bfd497b3b5 z306 poL70 q128))) tw_528 tw_529 (by decide +kernel) rfl rfl ⟨show 0 + 1 ≤ 8 * n + 14 from om_2d92e09058, show 8 + (1 + 11) + 0 ≤ 28 * (8 * n + 14) from om_289622e6d2⟩ (List.range (cW ad pr N cI cR L1 L2 u126).length) (rg_map _) (nd_range _) 0 rfl rfl rfl rfl hl.1 rfl (Nat.le_of_ble_eq_true rfl) dX2_callFunction_126 ⟨Nat.le_of_ble_eq_true rfl, Nat.le_of_ble_eq_true rfl⟩) hP hD hS hA (fun u130 H locs hw129 hP hD hS => ?_)
        obtain ⟨fr129, ex129, i306129, pj129, rs129⟩ := hw129
        have i306129 : 0 ≤ (u130.1 0 306).toInt ∧ (u130.1 0 306).toInt ≤ 40 := i306129
        have pj129 : (u130.1 0 306).toInt = (u126.1 0 306).toInt - 1 := pj129
        have rs129 : RS u126 u130 := rs129
        refine W.widen (k := 0) (n := 0) (Nat.le_refl _) (Nat.le_refl _) ?_
        refine lv_aload_n hx hb dX2_callFunction_129 rfl (lv_at hl 4 rfl) ?_
        refine va_get (D := (dC, dI)) (ci := 6) (fs := oF_X2 ad pr u130) (v := .ref (ad 901)) (C := RX2) (T := TX2) (N := 5) hx hb ht itX2 hown hK hP 2 rfl rfl 1 (by decide) (ht _ tw_498) (fun _ h9 => h9) rfl dX2_callFunction_130 ?_
        refine lv_dup hx hb dX2_callFunction_133 rfl ?_
        refine va_getN (D := (dC, dI)) (ci := 5) (fs := oF_X1 ad pr u130) (v := .int (u130.1 0 314)) (C := RX1) (T := TX1) (N := 12) hx hb ht itX1 hown hK hP 1 rfl rfl 4 (by decide) (hKK.fl2 6 rfl) (fun _ h9 => h9) rfl dX2_callFunction_134 ?_
        refine lv_iload_n hx hb dX2_callFunction_137 rfl (lv_at hl 1 rfl) ?_
        refine lv_isub hx hb dX2_callFunction_138 ?_
        refine va_putN (D := (dC, dI)) (ci := 5) (fs := oF_X1 ad pr u130) (v := .int ((u130.1 0 314) - ar9)) (ty := .int) (C := RX1) (T := TX1) (N := 12) hx hb ht itX1 tyX1 tyX1_ok nmX1 hown hK hP hD hS 1 rfl rfl 4 (by decide) (hKK.fl2 6 rfl) (fun _ h9 => h9) rfl (by decide +kernel) rfl rfl (Nat.le_of_ble_eq_true rfl) dX2_callFunction_139 (fun H locs hP hD hS => ?_)
        have hP := cP_ (cw_314 ad pr N cI cR L1 L2 u130 ((u130.1 0 314) - ar9)) hP
        have hD := cD_ (cw_314 ad pr N cI cR L1 L2 u130 ((u130.1 0 314) - ar9)) hD
        refine lv_aload_n hx hb dX2_callFunction_142 rfl (lv_at hl 4 rfl) ?_
        refine va_get (D := (dC, dI)) (ci := 6) (fs := oF_X2 ad pr (wA u130 0 314 ((u130.1 0 314) - ar9))) (v := .ref (ad 901)) (C := RX2) (T := TX2) (N := 5) hx hb ht itX2 hown hK hP 2 rfl rfl 1 (by decide) (ht _ tw_498) (fun _ h9 => h9) rfl dX2_callFunction_143 ?_
        refine lv_bipush (v := 21) hx hb dX2_callFunction_146 (by decide) ?_
        refine lv_iload_n hx hb dX2_callFunction_148 rfl (lv_at hl 3 rfl) ?_
        refine lv_iload_n hx hb dX2_callFunction_149 rfl (lv_at hl 2 rfl) ?_
        have q132 : (u126.1 0 381).toInt = (w70.1 0 381).toInt := congrArg Int32.toInt ((fr125.2.1 381 (by decide)).trans (show w70.1 0 381 = (w70.1 0 381) by rfl))
        have q133 : (u130.1 0 381).toInt = (u126.1 0 381).toInt := congrArg Int32.toInt ((fr129.2.1 381 (by decide)).trans (show u126.1 0 381 = (u126.1 0 381) by rfl))
        refine cu_v (rn_Vk (n := 3) (As := [.int 21, .int r9, .int r13]) (rest := []) hx hb hml hown ht hKK hFx hP hD hS hA (c_x_X1_add l dC dI cI cB cZ cJ cR tb H.size ad pr N L1 L2 (wA u130 0 314 ((u130.1 0 314) - ar9)) (21 : Int32) r9 r13 ps (show 0 ≤ (u130.1 0 381).toInt ∧ (u130.1 0 381).toInt ≤ 3008 from (om_a1edc0e52b zd i305L70 i326L70 i381L70 pdL70 q132 q133)) (show pr ps = ad 908 from hps) (show (u130.1 0 310) = ps from (Eq.trans (fr129.2.1 310 (by decide)) (Eq.trans (fr125.2.1 310 (by decide)) (Eq.trans (fwL70.2.1 310 (by decide)) es310)))) (show (u130.1 0 381).toInt < 3008 from (om_0b9513ec40 zd i305L70 i326L70 pdL70 q132 q133))) tw_499 tw_500 (by decide +kernel) rfl rfl ⟨show 0 + 1 ≤ 8 * n + 14 from om_2d92e09058, show 8 + (5 + 11) + 0 ≤ 28 * (8 * n + 14) from om_f68798533e⟩ (List.range (cW ad pr N cI cR L1 L2 (wA u130 0 314 ((u130.1 0 314) - ar9))).length) (rg_map _) (nd_range _) 1 rfl rfl rfl rfl hl.1 rfl (Nat.le_of_ble_eq_true rfl) dX2_callFunction_150 ⟨Nat.le_of_ble_eq_true rfl, Nat.le_of_ble_eq_true rfl⟩) hP hD hS hA (fun u135 H locs hw134 hP hD hS => ?_)
        obtain ⟨fr134, ex134, i381134, pd134, rs134⟩ := hw134
        have i381134 : 0 ≤ (u135.1 0 381).toInt ∧ (u135.1 0 381).toInt ≤ 3008 := i381134
        have pd134 : (u135.1 0 381).toInt = (u130.1 0 381).toInt + 1 := pd134
        have rs134 : RS (wA u130 0 314 ((u130.1 0 314) - ar9)) u135 := rs134
        refine W.widen (k := 0) (n := 0) (Nat.le_refl _) (Nat.le_refl _) ?_
        have q137 : (u130.1 0 305).toInt = (u126.1 0 305).toInt := congrArg Int32.toInt ((fr129.2.1 305 (by decide)).trans (show u126.1 0 305 = (u126.1 0 305) by rfl))
        have q138 : (u135.1 0 305).toInt = (u130.1 0 305).toInt := congrArg Int32.toInt ((fr134.2.1 305 (by decide)).trans (show (wA u130 0 314 ((u130.1 0 314) - ar9)).1 0 305 = (u130.1 0 305) by rfl))
        have q139 : (u135.1 0 306).toInt = (u130.1 0 306).toInt := congrArg Int32.toInt ((fr134.2.1 306 (by decide)).trans (show (wA u130 0 314 ((u130.1 0 314) - ar9)).1 0 306 = (u130.1 0 306) by rfl))
        have q140 : (u126.1 0 321).toInt = (w70.1 0 321).toInt := congrArg Int32.toInt ((fr125.2.1 321 (by decide)).trans (show w70.1 0 321 = (w70.1 0 321) by rfl))
        have q141 : (u130.1 0 321).toInt = (u126.1 0 321).toInt := congrArg Int32.toInt ((fr129.2.1 321 (by decide)).trans (show u126.1 0 321 = (u126.1 0 321) by rfl))
        have q142 : (u135.1 0 321).toInt = (u130.1 0 321).toInt := congrArg Int32.toInt ((fr134.2.1 321 (by decide)).trans (show (wA u130 0 314 ((u130.1 0 314) - ar9)).1 0 321 = (u130.1 0 321) by rfl))
        have q143 : (u126.1 0 326).toInt = (w70.1 0 326).toInt := congrArg Int32.toInt ((fr125.2.1 326 (by decide)).trans (show w70.1 0 326 = (w70.1 0 326) by rfl))
        have q144 : (u130.1 0 326).toInt = (u126.1 0 326).toInt := congrArg Int32.toInt ((fr129.2.1 326 (by decide)).trans (show u126.1 0 326 = (u126.1 0 326) by rfl))
        have q145 : (u135.1 0 326).toInt = (u130.1 0 326).toInt := congrArg Int32.toInt ((fr134.2.1 326 (by decide)).trans (show (wA u130 0 314 ((u130.1 0 314) - ar9)).1 0 326 = (u130.1 0 326) by rfl))
        have q146 : (u126.1 0 317).toInt = (w70.1 0 317).toInt := congrArg Int32.toInt ((fr125.2.1 317 (by decide)).trans (show w70.1 0 317 = (w70.1 0 317) by rfl))
        have q147 : (u130.1 0 317).toInt = (u126.1 0 317).toInt := congrArg Int32.toInt ((fr129.2.1 317 (by decide)).trans (show u126.1 0 317 = (u126.1 0 317) by rfl))
        have q148 : (u135.1 0 317).toInt = (u130.1 0 317).toInt := congrArg Int32.toInt ((fr134.2.1 317 (by decide)).trans (show (wA u130 0 314 ((u130.1 0 314) - ar9)).1 0 317 = (u130.1 0 317) by rfl))
        refine W.sz (fun hz => ?_)
        refine vx_ret ?_
        refine W.widen (k := 1) (n := 6) (Nat.le_of_ble_eq_true rfl) (Nat.le_of_ble_eq_true rfl) ?_
        exact W.vret hx hb hr (fun t ht9 hW => ⟨⟨u135, rfl, ⟨(FC.tr (FC.f (FC.tr (FC.tr (FC.tr (FC.rf _) (FC.up fwL70 (by decide) (by decide))) (FC.up fr125 (by decide) (by decide))) (FC.up fr129 (by decide) (by decide))) ((u130.1 0 314) - ar9) (by decide)) (FC.up fr134 (by decide) (by decide))), ⟨z304, z305, z306, z312, z321, z326, z373, z381, zd, zlb, r3, ex1, r6, ex4, r9, u8, ex7, ⟨fr7, i3217, rs7⟩, r13, ex11, (Or.inr (⟨u18, ex17, ⟨fr17, i30517, pt17, rs17⟩, (Or.inr (⟨u25, ex24, ⟨fr24, i30524, i30624, pj24, pt24, rs24⟩, r30, ex28, (Or.inr (⟨z69, (Or.inr (⟨u87, (by rw [hn71]; exact ex86), ⟨fr86, i30586, i30686, i32186, i32686, i38186, pd86, pt86, plb86, po86, rs86⟩, ar9, ka, w70, exL70, fwL70, i305L70, i306L70, i321L70, i326L70, i381L70, f1L70, rsL70, ptL70, plbL70, pdL70, poL70, (Or.inr (⟨z117, r121, ex119, (Or.inl ⟨z123, (Or.inr (⟨u126, ex125, ⟨fr125, i305125, pt125, rs125⟩, u130, ex129, ⟨fr129, i306129, pj129, rs129⟩, u135, ex134, ⟨fr134, i381134, pd134, rs134⟩, rfl, rfl⟩))⟩)⟩))⟩))⟩))⟩))⟩))⟩, (show 0 ≤ (u135.1 0 305).toInt ∧ (u135.1 0 305).toInt ≤ 1500 from (om_f932d0ad33 zd i326L70 i381L70 pdL70 i305125 pt125 q137 q138)), (show 0 ≤ (u135.1 0 306).toInt ∧ (u135.1 0 306).toInt ≤ 40 from (om_9c4f3a2e9c i306L70 q128 i306129 pj129 q139)), (show 0 ≤ (u135.1 0 321).toInt ∧ (u135.1 0 321).toInt ≤ 501 from (om_ca65317fd6 i321L70 q140 q141 q142)), (show 0 ≤ (u135.1 0 326).toInt ∧ (u135.1 0 326).toInt ≤ 420 from (om_ba86cd30dc i326L70 q143 q144 q145)), (show 0 ≤ (u135.1 0 381).toInt ∧ (u135.1 0 381).toInt ≤ 3008 from (om_27f7c01d37 zd i305L70 i326L70 pdL70 q132 q133 i381134 pd134)), (show (u135.1 0 381).toInt + (u135.1 0 326).toInt - 2 * (u135.1 0 305).toInt + (5) ≤ (v.1 0 381).toInt + (v.1 0 326).toInt - 2 * (v.1 0 305).toInt from (om_ac674dbf3d pdL70 q143 q132 pt125 q137 q144 q133 q138 q145 pd134)), (show (v.1 0 305).toInt + 3 ≤ (u135.1 0 305).toInt from (om_d77598a3b6 ptL70 pt125 q137 q138)), (show (v.1 0 317).toInt ≤ (u135.1 0 317).toInt ∧ (u135.1 0 317).toInt - 4 * (u135.1 0 305).toInt ≤ (v.1 0 317).toInt - 4 * (v.1 0 305).toInt + 0 from (om_a30ee88fae plbL70 q146 pt125 q137 q147 q138 q148)), (show (u135.1 0 306).toInt = (v.1 0 306).toInt from (om_00cb03f044 poL70 q128 pj129 q139)), (RS.tr (RS.w0 (RS.tr (RS.tr (RS.tr RS.rf rsL70) rs125) rs129) (by decide)) rs134)⟩, ⟨by rw [ht9]; exact hP, hD⟩, by rw [ht9]; exact hz⟩, hS.F ht9⟩) hS.2.2 dX2_callFunction_153
      · have z149 : r121.toInt = (37 : Int) := eq_z rfl (show (37 : Int32).toInt = (37 : Int) by decide) h122
        refine lv_aload_n hx hb dX2_callFunction_90 rfl (lv_at hl 4 rfl) ?_
        refine va_get (D := (dC, dI)) (ci := 6) (fs := oF_X2 ad pr w70) (v := .ref (ad 900)) (C := RX2) (T := TX2) (N := 5) hx hb ht itX2 hown hK hP 2 rfl rfl 0 (by decide) (ht _ tw_509) (fun _ h9 => h9) rfl dX2_callFunction_91 ?_
        have q150 : (w70.1 0 373).toInt = (v.1 0 373).toInt := congrArg Int32.toInt ((fwL70.2.1 373 (by decide)).trans (show v.1 0 373 = (v.1 0 373) by rfl))
        refine W.sz (fun hz9 => ?_)
        refine czx_v (rx_Vk (n := 0) (As := []) (rest := []) hx hb hml hown ht hKK hFx hP hD hS hA (c_x_X9_take l dC dI cI cB cZ cJ cR tb H.size ad pr N L1 L2 w70 ps (show 0 ≤ (w70.1 0 304).toInt ∧ (w70.1 0 304).toInt ≤ 1503 from (om_73002589c1 z304 q118)) (show 0 ≤ (w70.1 0 305).toInt ∧ (w70.1 0 305).toInt ≤ 1500 from (om_26d9e457ca z305 i305L70 ptL70)) (show 0 ≤ (w70.1 0 373).toInt ∧ (w70.1 0 373).toInt ≤ 4000 from (om_9084c127ed z373 q150)) (show pr ps = ad 908 from hps) (show (w70.1 0 300) = ps from (Eq.trans (fwL70.2.1 300 (by decide)) es300)) (show l.stackTraces = false from hst)) tw_539 tw_540 (by decide +kernel) rfl rfl ⟨show 7 + 1 ≤ 8 * n + 14 from om_46126d3ba0, show 8 + (1 + 11) + 104 ≤ 28 * (8 * n + 14) from om_6017b980b8⟩ (List.range (cW ad pr N cI cR L1 L2 w70).length) (rg_map _) (nd_range _) 0 rfl rfl rfl rfl hl.1 rfl (Nat.le_of_ble_eq_true rfl) dX2_callFunction_94 ⟨Nat.le_of_ble_eq_true rfl, Nat.le_of_ble_eq_true rfl⟩) hP hD hS hA (fun u9 ce9 q9 H locs hx9 hP hD hS hc9 hv9 hf9 => ?_) (fun u152 H locs hw151 hP hD hS hz8 => ?_)
        · exact vx_out (fun x h9 => (hnt x h9).elim) hlocks hc9 hv9 hf9 (fun t9 ht9 hv8 => ⟨u9, ⟨FC.tr (FC.tr (FC.rf _) (FC.up fwL70 (by decide) (by decide))) hx9.1, hx9.2.1, ⟨z304, z305, z306, z312, z321, z326, z373, z381, zd, zlb, r3, ex1, r6, ex4, r9, u8, ex7, ⟨fr7, i3217, rs7⟩, r13, ex11, (Or.inr (⟨u18, ex17, ⟨fr17, i30517, pt17, rs17⟩, (Or.inr (⟨u25, ex24, ⟨fr24, i30524, i30624, pj24, pt24, rs24⟩, r30, ex28, (Or.inr (⟨z69, (Or.inr (⟨u87, (by rw [hn71]; exact ex86), ⟨fr86, i30586, i30686, i32186, i32686, i38186, pd86, pt86, plb86, po86, rs86⟩, ar9, ka, w70, exL70, fwL70, i305L70, i306L70, i321L70, i326L70, i381L70, f1L70, rsL70, ptL70, plbL70, pdL70, poL70, (Or.inr (⟨z117, r121, ex119, (Or.inr (⟨z149, (Or.inl ⟨u9, hx9.2.2, rfl, rfl⟩)⟩))⟩))⟩))⟩))⟩))⟩))⟩⟩, ⟨rfl, by rw [ht9]; exact hP, hD⟩, hS.F ht9⟩) hS.2.2 (Nat.le_refl _) (Nat.le_refl _)
        refine W.shrink (hz8.trans hz9) ?_
        obtain ⟨fr151, ex151, i305151, pt151, rs151⟩ := hw151
        have i305151 : 0 ≤ (u152.1 0 305).toInt ∧ (u152.1 0 305).toInt ≤ 1500 := i305151
        have pt151 : (u152.1 0 305).toInt = (w70.1 0 305).toInt + 1 := pt151
        have rs151 : RS w70 u152 := rs151
        refine lv_aload_n hx hb dX2_callFunction_97 rfl (lv_at hl 4 rfl) ?_
        refine lv_iload_n hx hb dX2_callFunction_98 rfl (lv_at hl 3 rfl) ?_
        refine lv_iload hx hb dX2_callFunction_99 (lv_at hl 0 rfl) ?_
        obtain ⟨n154, hn155⟩ : ∃ m, n = m + 1 := ex_z (om_bce5f2fb63 hn71)
        have q156 : (u152.1 0 304).toInt = (w70.1 0 304).toInt := congrArg Int32.toInt ((fr151.2.1 304 (by decide)).trans (show w70.1 0 304 = (w70.1 0 304) by rfl))
        have q157 : (u152.1 0 306).toInt = (w70.1 0 306).toInt := congrArg Int32.toInt ((fr151.2.1 306 (by decide)).trans (show w70.1 0 306 = (w70.1 0 306) by rfl))
        have q158 : (w70.1 0 312).toInt = (v.1 0 312).toInt := congrArg Int32.toInt ((fwL70.2.1 312 (by decide)).trans (show v.1 0 312 = (v.1 0 312) by rfl))
        have q159 : (u152.1 0 312).toInt = (w70.1 0 312).toInt := congrArg Int32.toInt ((fr151.2.1 312 (by decide)).trans (show w70.1 0 312 = (w70.1 0 312) by rfl))
        have q160 : (u152.1 0 321).toInt = (w70.1 0 321).toInt := congrArg Int32.toInt ((fr151.2.1 321 (by decide)).trans (show w70.1 0 321 = (w70.1 0 321) by rfl))
        have q161 : (u152.1 0 326).toInt = (w70.1 0 326).toInt := congrArg Int32.toInt ((fr151.2.1 326 (by decide)).trans (show w70.1 0 326 = (w70.1 0 326) by rfl))
        have q162 : (u152.1 0 373).toInt = (w70.1 0 373).toInt := congrArg Int32.toInt ((fr151.2.1 373 (by decide)).trans (show w70.1 0 373 = (w70.1 0 373) by rfl))
        have q163 : (u152.1 0 381).toInt = (w70.1 0 381).toInt := congrArg Int32.toInt ((fr151.2.1 381 (by decide)).trans (show w70.1 0 381 = (w70.1 0 381) by rfl))
        have q164 : (u152.1 0 317).toInt = (w70.1 0 317).toInt := congrArg Int32.toInt ((fr151.2.1 317 (by decide)).trans (show w70.1 0 317 = (w70.1 0 317) by rfl))
        refine W.sz (fun hz9 => ?_)
        refine czx_v (rx_Vk (n := 2) (As := [.int r9, .int ka]) (rest := []) hx hb hml hown ht hKK hFx hP hD hS hA (c_x_X2_argument l n154 (ihE n154 hn155) dC dI cI cB cZ cJ cR tb H.size ad pr N L1 L2 u152 r9 ka ps (show 0 ≤ (u152.1 0 304).toInt ∧ (u152.1 0 304).toInt ≤ 1503 from (om_dd87ee851a z304 q118 q156)) (show 0 ≤ (u152.1 0 305).toInt ∧ (u152.1 0 305).toInt ≤ 1500 from (om_511c56fe86 z305 ptL70 i305151 pt151)) (show 0 ≤ (u152.1 0 306).toInt ∧ (u152.1 0 306).toInt ≤ 40 from (om_209fa13ef3 z306 i306L70 poL70 q157)) (show 0 ≤ (u152.1 0 312).toInt ∧ (u152.1 0 312).toInt ≤ 500 from (om_8a5975ec21 z312 q158 q159)) (show 0 ≤ (u152.1 0 321).toInt ∧ (u152.1 0 321).toInt ≤ 501 from (om_ff27494c0e i321L70 q160)) (show 0 ≤ (u152.1 0 326).toInt ∧ (u152.1 0 326).toInt ≤ 420 from (om_8ed0dedb19 i326L70 q161)) (show 0 ≤ (u152.1 0 373).toInt ∧ (u152.1 0 373).toInt ≤ 4000 from (om_03cd8767ac z373 q150 q162)) (show 0 ≤ (u152.1 0 381).toInt ∧ (u152.1 0 381).toInt ≤ 3008 from (om_fa27ecb246 zd i305L70 i326L70 i381L70 pdL70 q163)) (show L1.length = 40 from hL1) (show L2.length = 60 from hL2) (show RP u152 from ((show FC [305, 306, 307, 314, 315, 317, 321, 326, 381] [0, 316, 318, 319, 320, 324, 325, 378, 379, 380] v u152 from (FC.tr (FC.tr (FC.rf _) (FC.up fwL70 (by decide) (by decide))) (FC.up fr151 (by decide) (by decide)))).1 rp)) (show pr ps = ad 908 from hps) (show (u152.1 0 300) = ps from (Eq.trans (fr151.2.1 300 (by decide)) (Eq.trans (fwL70.2.1 300 (by decide)) es300))) (show (u152.1 0 310) = ps from (Eq.trans (fr151.2.1 310 (by decide)) (Eq.trans (fwL70.2.1 310 (by decide)) es310))) (show l.stackTraces = false from hst) (show (u152.1 0 381).toInt + (u152.1 0 326).toInt - 2 * (u152.1 0 305).toInt ≤ 0 from (om_1c28eec033 zd pdL70 q161 q163 pt151)) (show 0 ≤ (u152.1 0 317).toInt ∧ (u152.1 0 317).toInt - 4 * (u152.1 0 305).toInt ≤ 8 from (om_1f1519244e zlb plbL70 q164 pt151)) (show 40 ≤ (u152.1 0 306).toInt + (n154 : Int) from (om_fa93d1e14b zn poL70 q157 hn155))) tw_541 tw_542 (by decide +kernel) rfl rfl ⟨show (8 * n154 + 21) + 1 ≤ 8 * n + 14 from (om_a3a29a60ac hn155), show 8 + (3 + 11) + 28 * (8 * n154 + 21) ≤ 28 * (8 * n + 14) from (om_def48f1266 hn155)⟩ (List.range (cW ad pr N cI cR L1 L2 u152).length) (rg_map _) (nd_range _) 2 rfl rfl rfl rfl hl.1 rfl (Nat.le_of_ble_eq_true rfl) dX2_callFunction_101 ⟨Nat.le_of_ble_eq_true rfl, Nat.le_of_ble_eq_true rfl⟩) hP hD hS hA (fun u9 ce9 q9 H locs hx9 hP hD hS hc9 hv9 hf9 => ?_) (fun u166 H locs hw165 hP hD hS hz8 => ?_)
        · exact vx_out (fun x h9 => (hnt x h9).elim) hlocks hc9 hv9 hf9 (fun t9 ht9 hv8 => ⟨u9, ⟨FC.tr (FC.tr (FC.tr (FC.rf _) (FC.up fwL70 (by decide) (by decide))) (FC.up fr151 (by decide) (by decide))) hx9.1, hx9.2.1, ⟨z304, z305, z306, z312, z321, z326, z373, z381, zd, zlb, r3, ex1, r6, ex4, r9, u8, ex7, ⟨fr7, i3217, rs7⟩, r13, ex11, (Or.inr (⟨u18, ex17, ⟨fr17, i30517, pt17, rs17⟩, (Or.inr (⟨u25, ex24, ⟨fr24, i30524, i30624, pj24, pt24, rs24⟩, r30, ex28, (Or.inr (⟨z69, (Or.inr (⟨u87, (by rw [hn71]; exact ex86), ⟨fr86, i30586, i30686, i32186, i32686, i38186, pd86, pt86, plb86, po86, rs86⟩, ar9, ka, w70, exL70, fwL70, i305L70, i306L70, i321L70, i326L70, i381L70, f1L70, rsL70, ptL70, plbL70, pdL70, poL70, (Or.inr (⟨z117, r121, ex119, (Or.inr (⟨z149, (Or.inr (⟨u152, ex151, ⟨fr151, i305151, pt151, rs151⟩, u9, (by rw [hn155]; exact hx9.2.2), rfl, rfl⟩))⟩))⟩))⟩))⟩))⟩))⟩))⟩⟩, ⟨rfl, by rw [ht9]; exact hP, hD⟩, hS.F ht9⟩) hS.2.2 (Nat.le_refl _) (Nat.le_refl _)
        refine W.shrink (hz8.trans hz9) ?_
        obtain ⟨fr165, ex165, i305165, i306165, i321165, i326165, i381165, pd165, pt165, plb165, po165, rs165⟩ := hw165
        have i305165 : 0 ≤ (u166.1 0 305).toInt ∧ (u166.1 0 305).toInt ≤ 1500 := i305165
        have i306165 : 0 ≤ (u166.1 0 306).toInt ∧ (u166.1 0 306).toInt ≤ 40 := i306165
        have i321165 : 0 ≤ (u166.1 0 321).toInt ∧ (u166.1 0 321).toInt ≤ 501 := i321165
        have i326165 : 0 ≤ (u166.1 0 326).toInt ∧ (u166.1 0 326).toInt ≤ 420 := i326165
        have i381165 : 0 ≤ (u166.1 0 381).toInt ∧ (u166.1 0 381).toInt ≤ 3008 := i381165
        have pd165 : (u166.1 0 381).toInt + (u166.1 0 326).toInt - 2 * (u166.1 0 305).toInt + (0) ≤ (u152.1 0 381).toInt + (u152.1 0 326).toInt - 2 * (u152.1 0 305).toInt := pd165
        have pt165 : (u152.1 0 305).toInt + 1 ≤ (u166.1 0 305).toInt := pt165
        have plb165 : (u152.1 0 317).toInt ≤ (u166.1 0 317).toInt ∧ (u166.1 0 317).toInt - 4 * (u166.1 0 305).toInt ≤ (u152.1 0 317).toInt - 4 * (u152.1 0 305).toInt + 0 := plb165
        have po165 : (u166.1 0 306).toInt = (u152.1 0 306).toInt := po165
        have rs165 : RS u152 u166 := rs165
        refine lv_iinc (v := (ar9 + (1 : Int32))) (lv' := [(3, .int (ar9 + (1 : Int32))), (4, .int ka), (2, .int r13), (1, .int r9), (0, .ref (ad 902))]) hx hb dX2_callFunction_104 hl (k := 1) rfl (rfl) (by decide) rfl (fun ls hl => ?_)
        refine lv_iinc (v := (ka + (1 : Int32))) (lv' := [(4, .int (ka + (1 : Int32))), (3, .int (ar9 + (1 : Int32))), (2, .int r13), (1, .int r9), (0, .ref (ad 902))]) hx hb dX2_callFunction_107 hl (k := 1) rfl (rfl) (by decide) rfl (fun ls hl => ?_)
        have z168 : (ka + (1 : Int32)).toInt = ka.toInt + (1 : Int) := add_z rfl (show (1 : Int32).toInt = (1 : Int) by decide) (om_5e93c3af80 f1L70) (om_3a4b6fcf1c f1L70)
        refine lv_goto (tgt := 70) hx hb dX2_callFunction_110 (by decide) ?_
        exact ih70 ((ar9 + (1 : Int32)), (ka + (1 : Int32)), u166) _ _ _ (show (1500 - (ka + (1 : Int32)).toInt).toNat < (1500 - ka.toInt).toNat from tn_z (om_f107c3c51d z168) (om_1cb5cb4f43 z117)) ⟨(show FC [305, 306, 307, 314, 315, 317, 321, 326, 381] [0, 316, 318, 319, 320, 324, 325, 378, 379, 380] v u166 from (FC.tr (FC.tr (FC.tr (FC.rf _) (FC.up fwL70 (by decide) (by decide))) (FC.up fr151 (by decide) (by decide))) (FC.up fr165 (by decide) (by decide)))), (show 0 ≤ (u166.1 0 305).toInt ∧ (u166.1 0 305).toInt ≤ 1500 from (om_ad993c9161 z305 ptL70 pt151 i305165 pt165)), (show 0 ≤ (u166.1 0 306).toInt ∧ (u166.1 0 306).toInt ≤ 40 from (om_7eaf33e007 i306165)), (show 0 ≤ (u166.1 0 321).toInt ∧ (u166.1 0 321).toInt ≤ 501 from (om_e1d35f5faf i321165)), (show 0 ≤ (u166.1 0 326).toInt ∧ (u166.1 0 326).toInt ≤ 420 from (om_839d7ed7dd i326165)), (show 0 ≤ (u166.1 0 381).toInt ∧ (u166.1 0 381).toInt ≤ 3008 from (om_b07f6c5ef3 zd pdL70 q161 q163 pt151 i305165 i326165 i381165 pd165)), (show 1 ≤ (ka + (1 : Int32)).toInt ∧ (ka + (1 : Int32)).toInt ≤ 1500 from (om_15a3ad8535 f1L70 z117 z168)), (show RS v u166 from (RS.tr (RS.tr (RS.tr RS.rf rsL70) rs151) rs165)), (show (v.1 0 305).toInt + 2 ≤ (u166.1 0 305).toInt from (om_2785624402 ptL70 pt151 pt165)), (show (v.1 0 317).toInt ≤ (u166.1 0 317).toInt ∧ (u166.1 0 317).toInt - 4 * (u166.1 0 305).toInt ≤ (v.1 0 317).toInt - 4 * (v.1 0 305).toInt from (om_569b73c5b9 plbL70 q164 pt151 plb165)), (show (u166.1 0 381).toInt + (u166.1 0 326).toInt - 2 * (u166.1 0 305).toInt + (4) ≤ (v.1 0 381).toInt + (v.1 0 326).toInt - 2 * (v.1 0 305).toInt from (om_1c7ef7f515 pdL70 q161 q163 pt151 pd165)), (show (u166.1 0 306).toInt = (v.1 0 306).toInt + 1 from (om_c1f65cf568 poL70 q157 po165)), (RT.st exL70 ⟨fwL70, i305L70, i306L70, i321L70, i326L70, i381L70, f1L70, rsL70, ptL70, plbL70, pdL70, poL70, z117, r121, ex119, z149, u152, ex151, ⟨fr151, i305151, pt151, rs151⟩, u166, (by rw [hn155]; exact ex165), ⟨fr165, i305165, i306165, i321165, i326165, i381165, pd165, pt165, plb165, po165, rs165⟩, rfl⟩), hP, hD, hS, lv_sub hl [0, 1, 2, 3, 4] rfl⟩
