theorem dX13_find_0 : decode cX13_find 0 = .ok (.aload_n 0, 1) := by decide +kernel
theorem dX13_find_1 : decode cX13_find 1 = .ok (.iload_n 1, 1) := by decide +kernel
theorem dX13_find_2 : decode cX13_find 2 = .ok (.ifCond .eq 8, 3) := by decide +kernel
theorem dX13_find_10 : decode cX13_find 10 = .ok (.iconst 0, 1) := by decide +kernel
theorem dX13_find_11 : decode cX13_find 11 = .ok (.goto 4, 3) := by decide +kernel
theorem dX13_find_15 : decode cX13_find 15 = .ok (.putfield 3, 3) := by decide +kernel
theorem dX13_find_18 : decode cX13_find 18 = .ok (.aload_n 0, 1) := by decide +kernel
theorem dX13_find_19 : decode cX13_find 19 = .ok (.getfield 3, 3) := by decide +kernel
theorem dX13_find_22 : decode cX13_find 22 = .ok (.ifCond .le 5, 3) := by decide +kernel
theorem dX13_find_27 : decode cX13_find 27 = .ok (.iconst 0, 1) := by decide +kernel
theorem dX13_find_28 : decode cX13_find 28 = .ok (.istore_n 2, 1) := by decide +kernel
theorem dX13_find_29 : decode cX13_find 29 = .ok (.iload_n 2, 1) := by decide +kernel
theorem dX13_find_30 : decode cX13_find 30 = .ok (.aload_n 0, 1) := by decide +kernel
theorem dX13_find_31 : decode cX13_find 31 = .ok (.getfield 609, 3) := by decide +kernel
theorem dX13_find_34 : decode cX13_find 34 = .ok (.if_icmp .ge 34, 3) := by decide +kernel
theorem dX13_find_68 : decode cX13_find 68 = .ok (.iconst 0, 1) := by decide +kernel
theorem dX13_find_69 : decode cX13_find 69 = .ok (.istore_n 2, 1) := by decide +kernel
theorem dX13_find_70 : decode cX13_find 70 = .ok (.iload_n 2, 1) := by decide +kernel
theorem dX13_find_71 : decode cX13_find 71 = .ok (.aload_n 0, 1) := by decide +kernel
theorem dX13_find_72 : decode cX13_find 72 = .ok (.getfield 612, 3) := by decide +kernel
theorem dX13_find_75 : decode cX13_find 75 = .ok (.if_icmp .ge 35, 3) := by decide +kernel
theorem dX13_find_110 : decode cX13_find 110 = .ok (.iconst (-1), 1) := by decide +kernel
theorem dX13_find_111 : decode cX13_find 111 = .ok (.ireturn, 1) := by decide +kernel
theorem dX13_find_78 : decode cX13_find 78 = .ok (.iload_n 1, 1) := by decide +kernel
theorem dX13_find_79 : decode cX13_find 79 = .ok (.iconst 1, 1) := by decide +kernel
theorem dX13_find_80 : decode cX13_find 80 = .ok (.if_icmp .ne 30, 3) := by decide +kernel
theorem dX13_find_37 : decode cX13_find 37 = .ok (.iload_n 1, 1) := by decide +kernel
theorem dX13_find_38 : decode cX13_find 38 = .ok (.ifCond .ne 30, 3) := by decide +kernel
theorem dX13_find_41 : decode cX13_find 41 = .ok (.aload_n 0, 1) := by decide +kernel
theorem dX13_find_42 : decode cX13_find 42 = .ok (.aload_n 0, 1) := by decide +kernel
theorem dX13_find_43 : decode cX13_find 43 = .ok (.getfield 540, 3) := by decide +kernel
theorem dX13_find_46 : decode cX13_find 46 = .ok (.iload_n 2, 1) := by decide +kernel
theorem dX13_find_47 : decode cX13_find 47 = .ok (.iaload, 1) := by decide +kernel
theorem dX13_find_48 : decode cX13_find 48 = .ok (.aload_n 0, 1) := by decide +kernel
theorem dX13_find_49 : decode cX13_find 49 = .ok (.getfield 543, 3) := by decide +kernel
theorem dX13_find_52 : decode cX13_find 52 = .ok (.iload_n 2, 1) := by decide +kernel
theorem dX13_find_53 : decode cX13_find 53 = .ok (.iaload, 1) := by decide +kernel
theorem dX13_find_54 : decode cX13_find 54 = .ok (.invokevirtual 627, 3) := by decide +kernel
theorem tw_303 : (.code yX13_isTape cX13_isTape 5 (some .boolean) : Cond) ∈ tw_W := tw_in (t8_12 (List.mem_of_getElem? (i := 77) rfl)) rfl
theorem tw_304 : ∀ w ∈ ([.methodLink RX13 627 yX13_isTape, .instanceMethod yX13_isTape, .selects RX13 yX13_isTape yX13_isTape, .initialized RX13] : List Cond), w ∈ tw_W := al_c (tw_in (t8_12 (List.mem_of_getElem? (i := 74) rfl)) rfl) (al_c (tw_in (t8_12 (List.mem_of_getElem? (i := 76) rfl)) rfl) (al_c (tw_in (t7_12 (q := (yX13_isTape, 124)) (List.mem_of_getElem? (i := 0) rfl)) rfl) (al_c (tw_in (t8_1 (List.mem_of_getElem? (i := 23) rfl)) rfl) al_n)))
theorem dX13_find_57 : decode cX13_find 57 = .ok (.ifCond .eq 5, 3) := by decide +kernel
theorem dX13_find_62 : decode cX13_find 62 = .ok (.iinc 2 1, 3) := by decide +kernel
theorem dX13_find_65 : decode cX13_find 65 = .ok (.goto (-36), 3) := by decide +kernel
theorem dX13_find_60 : decode cX13_find 60 = .ok (.iload_n 2, 1) := by decide +kernel
theorem dX13_find_61 : decode cX13_find 61 = .ok (.ireturn, 1) := by decide +kernel
theorem dX13_find_5 : decode cX13_find 5 = .ok (.iload_n 1, 1) := by decide +kernel
theorem dX13_find_6 : decode cX13_find 6 = .ok (.iconst 1, 1) := by decide +kernel
theorem dX13_find_7 : decode cX13_find 7 = .ok (.if_icmp .ne 7, 3) := by decide +kernel
theorem dX13_find_14 : decode cX13_find 14 = .ok (.iconst 1, 1) := by decide +kernel
theorem dX13_find_25 : decode cX13_find 25 = .ok (.iconst 0, 1) := by decide +kernel
theorem dX13_find_26 : decode cX13_find 26 = .ok (.ireturn, 1) := by decide +kernel
theorem dX13_find_83 : decode cX13_find 83 = .ok (.aload_n 0, 1) := by decide +kernel
theorem dX13_find_84 : decode cX13_find 84 = .ok (.aload_n 0, 1) := by decide +kernel
theorem dX13_find_85 : decode cX13_find 85 = .ok (.getfield 552, 3) := by decide +kernel
theorem dX13_find_88 : decode cX13_find 88 = .ok (.iload_n 2, 1) := by decide +kernel
theorem dX13_find_89 : decode cX13_find 89 = .ok (.iaload, 1) := by decide +kernel
theorem dX13_find_90 : decode cX13_find 90 = .ok (.aload_n 0, 1) := by decide +kernel
theorem dX13_find_91 : decode cX13_find 91 = .ok (.getfield 555, 3) := by decide +kernel
theorem dX13_find_94 : decode cX13_find 94 = .ok (.iload_n 2, 1) := by decide +kernel
theorem dX13_find_95 : decode cX13_find 95 = .ok (.iaload, 1) := by decide +kernel
theorem dX13_find_96 : decode cX13_find 96 = .ok (.invokevirtual 627, 3) := by decide +kernel
theorem dX13_find_99 : decode cX13_find 99 = .ok (.ifCond .eq 5, 3) := by decide +kernel
theorem dX13_find_104 : decode cX13_find 104 = .ok (.iinc 2 1, 3) := by decide +kernel
theorem dX13_find_107 : decode cX13_find 107 = .ok (.goto (-37), 3) := by decide +kernel
theorem dX13_find_102 : decode cX13_find 102 = .ok (.iload_n 2, 1) := by decide +kernel
theorem dX13_find_103 : decode cX13_find 103 = .ok (.ireturn, 1) := by decide +kernel
theorem dX13_start_0 : decode cX13_start 0 = .ok (.aload_n 0, 1) := by decide +kernel
theorem dX13_start_1 : decode cX13_start 1 = .ok (.iconst 0, 1) := by decide +kernel
theorem dX13_start_2 : decode cX13_start 2 = .ok (.putfield 3, 3) := by decide +kernel
theorem dX13_start_5 : decode cX13_start 5 = .ok (.iload_n 1, 1) := by decide +kernel
theorem dX13_start_6 : decode cX13_start 6 = .ok (.ifCond .lt 21, 3) := by decide +kernel
theorem dX13_start_27 : decode cX13_start 27 = .ok (.iconst 0, 1) := by decide +kernel
theorem dX13_start_28 : decode cX13_start 28 = .ok (.ireturn, 1) := by decide +kernel
theorem dX13_start_9 : decode cX13_start 9 = .ok (.iload_n 1, 1) := by decide +kernel
theorem dX13_start_10 : decode cX13_start 10 = .ok (.aload_n 0, 1) := by decide +kernel
theorem dX13_start_11 : decode cX13_start 11 = .ok (.getfield 609, 3) := by decide +kernel
theorem dX13_start_14 : decode cX13_start 14 = .ok (.if_icmp .ge 13, 3) := by decide +kernel
theorem dX13_start_17 : decode cX13_start 17 = .ok (.aload_n 0, 1) := by decide +kernel
theorem dX13_start_18 : decode cX13_start 18 = .ok (.getfield 525, 3) := by decide +kernel
theorem dX13_start_21 : decode cX13_start 21 = .ok (.iload_n 1, 1) := by decide +kernel
theorem dX13_start_22 : decode cX13_start 22 = .ok (.iaload, 1) := by decide +kernel
theorem dX13_start_23 : decode cX13_start 23 = .ok (.iconst 2, 1) := by decide +kernel
theorem dX13_start_24 : decode cX13_start 24 = .ok (.if_icmp .le 5, 3) := by decide +kernel
theorem dX13_start_29 : decode cX13_start 29 = .ok (.aload_n 0, 1) := by decide +kernel
theorem dX13_start_30 : decode cX13_start 30 = .ok (.getfield 502, 3) := by decide +kernel
theorem dX13_start_33 : decode cX13_start 33 = .ok (.arraylength, 1) := by decide +kernel
theorem dX13_start_34 : decode cX13_start 34 = .ok (.istore 4, 2) := by decide +kernel
theorem dX13_start_36 : decode cX13_start 36 = .ok (.iconst 0, 1) := by decide +kernel
theorem dX13_start_37 : decode cX13_start 37 = .ok (.istore 5, 2) := by decide +kernel
theorem dX13_start_39 : decode cX13_start 39 = .ok (.iload 5, 2) := by decide +kernel
theorem dX13_start_41 : decode cX13_start 41 = .ok (.iload 4, 2) := by decide +kernel
theorem dX13_start_43 : decode cX13_start 43 = .ok (.if_icmp .ge 36, 3) := by decide +kernel
theorem dX13_start_79 : decode cX13_start 79 = .ok (.aload_n 0, 1) := by decide +kernel
theorem dX13_start_80 : decode cX13_start 80 = .ok (.getfield 502, 3) := by decide +kernel
theorem dX13_start_83 : decode cX13_start 83 = .ok (.iload 4, 2) := by decide +kernel
theorem dX13_start_85 : decode cX13_start 85 = .ok (.iconst 1, 1) := by decide +kernel
theorem dX13_start_86 : decode cX13_start 86 = .ok (.isub, 1) := by decide +kernel
theorem dX13_start_87 : decode cX13_start 87 = .ok (.iload_n 2, 1) := by decide +kernel
theorem dX13_start_88 : decode cX13_start 88 = .ok (.iastore, 1) := by decide +kernel
theorem dX13_start_89 : decode cX13_start 89 = .ok (.aload_n 0, 1) := by decide +kernel
theorem dX13_start_90 : decode cX13_start 90 = .ok (.getfield 502, 3) := by decide +kernel
theorem dX13_start_93 : decode cX13_start 93 = .ok (.iload 4, 2) := by decide +kernel
theorem dX13_start_95 : decode cX13_start 95 = .ok (.iconst 2, 1) := by decide +kernel
theorem dX13_start_96 : decode cX13_start 96 = .ok (.isub, 1) := by decide +kernel
theorem dX13_start_97 : decode cX13_start 97 = .ok (.iload_n 3, 1) := by decide +kernel
theorem dX13_start_98 : decode cX13_start 98 = .ok (.iastore, 1) := by decide +kernel
theorem dX13_start_99 : decode cX13_start 99 = .ok (.iconst 0, 1) := by decide +kernel
theorem dX13_start_100 : decode cX13_start 100 = .ok (.istore 5, 2) := by decide +kernel
theorem dX13_start_102 : decode cX13_start 102 = .ok (.iload 5, 2) := by decide +kernel
theorem dX13_start_104 : decode cX13_start 104 = .ok (.bipush 32, 2) := by decide +kernel
theorem dX13_start_106 : decode cX13_start 106 = .ok (.if_icmp .ge 17, 3) := by decide +kernel
theorem dX13_start_123 : decode cX13_start 123 = .ok (.aload_n 0, 1) := by decide +kernel
theorem dX13_start_124 : decode cX13_start 124 = .ok (.getfield 570, 3) := by decide +kernel
theorem dX13_start_127 : decode cX13_start 127 = .ok (.iconst 5, 1) := by decide +kernel
theorem dX13_start_128 : decode cX13_start 128 = .ok (.iconst 4, 1) := by decide +kernel
theorem dX13_start_129 : decode cX13_start 129 = .ok (.iload 4, 2) := by decide +kernel
theorem dX13_start_131 : decode cX13_start 131 = .ok (.imul, 1) := by decide +kernel
theorem dX13_start_132 : decode cX13_start 132 = .ok (.iconst 4, 1) := by decide +kernel
theorem dX13_start_133 : decode cX13_start 133 = .ok (.isub, 1) := by decide +kernel
theorem dX13_start_134 : decode cX13_start 134 = .ok (.iastore, 1) := by decide +kernel
theorem dX13_start_135 : decode cX13_start 135 = .ok (.aload_n 0, 1) := by decide +kernel
theorem dX13_start_136 : decode cX13_start 136 = .ok (.getfield 570, 3) := by decide +kernel
theorem dX13_start_139 : decode cX13_start 139 = .ok (.iconst 2, 1) := by decide +kernel
theorem dX13_start_140 : decode cX13_start 140 = .ok (.iconst 4, 1) := by decide +kernel
theorem dX13_start_141 : decode cX13_start 141 = .ok (.iload 4, 2) := by decide +kernel
theorem dX13_start_143 : decode cX13_start 143 = .ok (.imul, 1) := by decide +kernel
theorem dX13_start_144 : decode cX13_start 144 = .ok (.bipush 8, 2) := by decide +kernel
theorem dX13_start_146 : decode cX13_start 146 = .ok (.isub, 1) := by decide +kernel
theorem dX13_start_147 : decode cX13_start 147 = .ok (.iastore, 1) := by decide +kernel
theorem dX13_start_148 : decode cX13_start 148 = .ok (.aload_n 0, 1) := by decide +kernel
theorem dX13_start_149 : decode cX13_start 149 = .ok (.aload_n 0, 1) := by decide +kernel
theorem dX13_start_150 : decode cX13_start 150 = .ok (.getfield 531, 3) := by decide +kernel
theorem dX13_start_153 : decode cX13_start 153 = .ok (.iload_n 1, 1) := by decide +kernel
theorem dX13_start_154 : decode cX13_start 154 = .ok (.iaload, 1) := by decide +kernel
theorem dX13_start_155 : decode cX13_start 155 = .ok (.putfield 633, 3) := by decide +kernel
theorem dX13_start_158 : decode cX13_start 158 = .ok (.aload_n 0, 1) := by decide +kernel
theorem dX13_start_159 : decode cX13_start 159 = .ok (.iconst 0, 1) := by decide +kernel
theorem dX13_start_160 : decode cX13_start 160 = .ok (.putfield 636, 3) := by decide +kernel
theorem dX13_start_163 : decode cX13_start 163 = .ok (.aload_n 0, 1) := by decide +kernel
theorem dX13_start_164 : decode cX13_start 164 = .ok (.iconst 0, 1) := by decide +kernel
theorem dX13_start_165 : decode cX13_start 165 = .ok (.putfield 639, 3) := by decide +kernel
theorem dX13_start_168 : decode cX13_start 168 = .ok (.aload_n 0, 1) := by decide +kernel
theorem dX13_start_169 : decode cX13_start 169 = .ok (.iconst 0, 1) := by decide +kernel
theorem dX13_start_170 : decode cX13_start 170 = .ok (.putfield 642, 3) := by decide +kernel
theorem dX13_start_173 : decode cX13_start 173 = .ok (.aload_n 0, 1) := by decide +kernel
theorem dX13_start_174 : decode cX13_start 174 = .ok (.iconst 0, 1) := by decide +kernel
theorem dX13_start_175 : decode cX13_start 175 = .ok (.putfield 645, 3) := by decide +kernel
theorem dX13_start_178 : decode cX13_start 178 = .ok (.iconst 1, 1) := by decide +kernel
theorem dX13_start_179 : decode cX13_start 179 = .ok (.ireturn, 1) := by decide +kernel
theorem dX13_start_109 : decode cX13_start 109 = .ok (.aload_n 0, 1) := by decide +kernel
theorem dX13_start_110 : decode cX13_start 110 = .ok (.getfield 570, 3) := by decide +kernel
theorem dX13_start_113 : decode cX13_start 113 = .ok (.iload 5, 2) := by decide +kernel
theorem dX13_start_115 : decode cX13_start 115 = .ok (.iconst 0, 1) := by decide +kernel
theorem dX13_start_116 : decode cX13_start 116 = .ok (.iastore, 1) := by decide +kernel
theorem dX13_start_117 : decode cX13_start 117 = .ok (.iinc 5 1, 3) := by decide +kernel
theorem dX13_start_120 : decode cX13_start 120 = .ok (.goto (-18), 3) := by decide +kernel
theorem dX13_start_46 : decode cX13_start 46 = .ok (.aload_n 0, 1) := by decide +kernel
theorem dX13_start_47 : decode cX13_start 47 = .ok (.getfield 502, 3) := by decide +kernel
theorem dX13_start_50 : decode cX13_start 50 = .ok (.iload 5, 2) := by decide +kernel
theorem dX13_start_52 : decode cX13_start 52 = .ok (.iload 5, 2) := by decide +kernel
theorem dX13_start_54 : decode cX13_start 54 = .ok (.aload_n 0, 1) := by decide +kernel
theorem dX13_start_55 : decode cX13_start 55 = .ok (.getfield 606, 3) := by decide +kernel
theorem dX13_start_58 : decode cX13_start 58 = .ok (.if_icmp .ge 13, 3) := by decide +kernel
theorem dX13_start_71 : decode cX13_start 71 = .ok (.iconst 0, 1) := by decide +kernel
theorem dX13_start_72 : decode cX13_start 72 = .ok (.iastore, 1) := by decide +kernel
theorem dX13_start_73 : decode cX13_start 73 = .ok (.iinc 5 1, 3) := by decide +kernel
theorem dX13_start_76 : decode cX13_start 76 = .ok (.goto (-37), 3) := by decide +kernel
theorem dX13_start_61 : decode cX13_start 61 = .ok (.aload_n 0, 1) := by decide +kernel
theorem dX13_start_62 : decode cX13_start 62 = .ok (.getfield 516, 3) := by decide +kernel
theorem dX13_start_65 : decode cX13_start 65 = .ok (.iload 5, 2) := by decide +kernel
theorem dX13_start_67 : decode cX13_start 67 = .ok (.iaload, 1) := by decide +kernel
theorem dX13_start_68 : decode cX13_start 68 = .ok (.goto 4, 3) := by decide +kernel
theorem dX13_count_0 : decode cX13_count 0 = .ok (.aload_n 0, 1) := by decide +kernel
theorem dX13_count_1 : decode cX13_count 1 = .ok (.iconst 0, 1) := by decide +kernel
theorem dX13_count_2 : decode cX13_count 2 = .ok (.putfield 3, 3) := by decide +kernel
theorem dX13_count_5 : decode cX13_count 5 = .ok (.iload_n 1, 1) := by decide +kernel
theorem dX13_count_6 : decode cX13_count 6 = .ok (.tableswitch 129 0 10 #[58, 63, 68, 73, 78, 83, 88, 93, 98, 103, 109], 58) := by decide +kernel
theorem dX13_count_64 : decode cX13_count 64 = .ok (.aload_n 0, 1) := by decide +kernel
theorem dX13_count_65 : decode cX13_count 65 = .ok (.getfield 7, 3) := by decide +kernel
theorem dX13_count_68 : decode cX13_count 68 = .ok (.ireturn, 1) := by decide +kernel
theorem dX13_count_69 : decode cX13_count 69 = .ok (.aload_n 0, 1) := by decide +kernel
theorem dX13_count_70 : decode cX13_count 70 = .ok (.getfield 606, 3) := by decide +kernel
theorem dX13_count_73 : decode cX13_count 73 = .ok (.ireturn, 1) := by decide +kernel
theorem dX13_count_74 : decode cX13_count 74 = .ok (.aload_n 0, 1) := by decide +kernel
theorem dX13_count_75 : decode cX13_count 75 = .ok (.getfield 609, 3) := by decide +kernel
theorem dX13_count_78 : decode cX13_count 78 = .ok (.ireturn, 1) := by decide +kernel
theorem dX13_count_79 : decode cX13_count 79 = .ok (.aload_n 0, 1) := by decide +kernel
theorem dX13_count_80 : decode cX13_count 80 = .ok (.getfield 612, 3) := by decide +kernel
theorem dX13_count_83 : decode cX13_count 83 = .ok (.ireturn, 1) := by decide +kernel
theorem dX13_count_84 : decode cX13_count 84 = .ok (.aload_n 0, 1) := by decide +kernel
theorem dX13_count_85 : decode cX13_count 85 = .ok (.getfield 618, 3) := by decide +kernel
theorem dX13_count_88 : decode cX13_count 88 = .ok (.ireturn, 1) := by decide +kernel
theorem dX13_count_89 : decode cX13_count 89 = .ok (.aload_n 0, 1) := by decide +kernel
theorem dX13_count_90 : decode cX13_count 90 = .ok (.getfield 636, 3) := by decide +kernel
theorem dX13_count_93 : decode cX13_count 93 = .ok (.ireturn, 1) := by decide +kernel
theorem dX13_count_94 : decode cX13_count 94 = .ok (.aload_n 0, 1) := by decide +kernel
theorem dX13_count_95 : decode cX13_count 95 = .ok (.getfield 639, 3) := by decide +kernel
theorem dX13_count_98 : decode cX13_count 98 = .ok (.ireturn, 1) := by decide +kernel
theorem dX13_count_99 : decode cX13_count 99 = .ok (.aload_n 0, 1) := by decide +kernel
theorem dX13_count_100 : decode cX13_count 100 = .ok (.getfield 642, 3) := by decide +kernel
theorem dX13_count_103 : decode cX13_count 103 = .ok (.ireturn, 1) := by decide +kernel
theorem dX13_count_104 : decode cX13_count 104 = .ok (.aload_n 0, 1) := by decide +kernel
theorem dX13_count_105 : decode cX13_count 105 = .ok (.getfield 630, 3) := by decide +kernel
theorem dX13_count_108 : decode cX13_count 108 = .ok (.ireturn, 1) := by decide +kernel
theorem dX13_count_109 : decode cX13_count 109 = .ok (.aload_n 0, 1) := by decide +kernel
theorem dX13_count_110 : decode cX13_count 110 = .ok (.getfield 502, 3) := by decide +kernel
theorem dX13_count_113 : decode cX13_count 113 = .ok (.arraylength, 1) := by decide +kernel
theorem dX13_count_114 : decode cX13_count 114 = .ok (.ireturn, 1) := by decide +kernel
theorem dX13_count_115 : decode cX13_count 115 = .ok (.aload_n 0, 1) := by decide +kernel
theorem dX13_count_116 : decode cX13_count 116 = .ok (.getfield 636, 3) := by decide +kernel
theorem dX13_count_119 : decode cX13_count 119 = .ok (.iconst 1, 1) := by decide +kernel
theorem dX13_count_120 : decode cX13_count 120 = .ok (.if_icmp .ne 13, 3) := by decide +kernel
theorem dX13_count_133 : decode cX13_count 133 = .ok (.iconst 0, 1) := by decide +kernel
theorem dX13_count_134 : decode cX13_count 134 = .ok (.ireturn, 1) := by decide +kernel
theorem dX13_count_123 : decode cX13_count 123 = .ok (.aload_n 0, 1) := by decide +kernel
theorem dX13_count_124 : decode cX13_count 124 = .ok (.getfield 570, 3) := by decide +kernel
theorem dX13_count_127 : decode cX13_count 127 = .ok (.bipush 17, 2) := by decide +kernel
theorem dX13_count_129 : decode cX13_count 129 = .ok (.iaload, 1) := by decide +kernel
theorem dX13_count_130 : decode cX13_count 130 = .ok (.goto 4, 3) := by decide +kernel
theorem dX13_count_135 : decode cX13_count 135 = .ok (.iconst (-1), 1) := by decide +kernel
theorem dX13_count_136 : decode cX13_count 136 = .ok (.ireturn, 1) := by decide +kernel
theorem dX13_told_0 : decode cX13_told 0 = .ok (.aload_n 0, 1) := by decide +kernel
theorem dX13_told_1 : decode cX13_told 1 = .ok (.iconst 0, 1) := by decide +kernel
theorem dX13_told_2 : decode cX13_told 2 = .ok (.putfield 3, 3) := by decide +kernel
theorem dX13_told_5 : decode cX13_told 5 = .ok (.aload_n 0, 1) := by decide +kernel
theorem dX13_told_6 : decode cX13_told 6 = .ok (.getfield 621, 3) := by decide +kernel
theorem dX13_told_9 : decode cX13_told 9 = .ok (.ifCond .ne 5, 3) := by decide +kernel
theorem dX13_told_14 : decode cX13_told 14 = .ok (.iload_n 1, 1) := by decide +kernel
theorem dX13_told_15 : decode cX13_told 15 = .ok (.tableswitch 67 0 5 #[37, 42, 47, 52, 57, 62], 37) := by decide +kernel
theorem dX13_told_52 : decode cX13_told 52 = .ok (.aload_n 0, 1) := by decide +kernel
theorem dX13_told_53 : decode cX13_told 53 = .ok (.getfield 862, 3) := by decide +kernel
theorem tw_305 : (.fieldLink RX13 862 "PocketCompilerModel" "answer" "I" : Cond) ∈ tw_W := tw_in (t8_11 (List.mem_of_getElem? (i := 38) rfl)) rfl
theorem dX13_told_56 : decode cX13_told 56 = .ok (.ireturn, 1) := by decide +kernel
theorem dX13_told_57 : decode cX13_told 57 = .ok (.aload_n 0, 1) := by decide +kernel
theorem dX13_told_58 : decode cX13_told 58 = .ok (.getfield 868, 3) := by decide +kernel
theorem tw_306 : (.fieldLink RX13 868 "PocketCompilerModel" "answerValue" "I" : Cond) ∈ tw_W := tw_in (t8_11 (List.mem_of_getElem? (i := 39) rfl)) rfl
theorem dX13_told_61 : decode cX13_told 61 = .ok (.ireturn, 1) := by decide +kernel
theorem dX13_told_62 : decode cX13_told 62 = .ok (.aload_n 0, 1) := by decide +kernel
theorem dX13_told_63 : decode cX13_told 63 = .ok (.getfield 812, 3) := by decide +kernel
theorem tw_307 : (.fieldLink RX13 812 "PocketCompilerModel" "turns" "I" : Cond) ∈ tw_W := tw_in (t8_11 (List.mem_of_getElem? (i := 30) rfl)) rfl
theorem dX13_told_66 : decode cX13_told 66 = .ok (.ireturn, 1) := by decide +kernel
theorem dX13_told_67 : decode cX13_told 67 = .ok (.aload_n 0, 1) := by decide +kernel
theorem dX13_told_68 : decode cX13_told 68 = .ok (.getfield 824, 3) := by decide +kernel
theorem tw_308 : (.fieldLink RX13 824 "PocketCompilerModel" "mostBytes" "I" : Cond) ∈ tw_W := tw_in (t8_11 (List.mem_of_getElem? (i := 33) rfl)) rfl
theorem dX13_told_71 : decode cX13_told 71 = .ok (.ireturn, 1) := by decide +kernel
theorem dX13_told_72 : decode cX13_told 72 = .ok (.aload_n 0, 1) := by decide +kernel
theorem dX13_told_73 : decode cX13_told 73 = .ok (.getfield 856, 3) := by decide +kernel
theorem tw_309 : (.fieldLink RX13 856 "PocketCompilerModel" "workedMany" "I" : Cond) ∈ tw_W := tw_in (t8_11 (List.mem_of_getElem? (i := 36) rfl)) rfl
theorem dX13_told_76 : decode cX13_told 76 = .ok (.ireturn, 1) := by decide +kernel
theorem dX13_told_77 : decode cX13_told 77 = .ok (.aload_n 0, 1) := by decide +kernel
theorem dX13_told_78 : decode cX13_told 78 = .ok (.getfield 859, 3) := by decide +kernel
theorem tw_310 : (.fieldLink RX13 859 "PocketCompilerModel" "gotMany" "I" : Cond) ∈ tw_W := tw_in (t8_11 (List.mem_of_getElem? (i := 37) rfl)) rfl
theorem dX13_told_81 : decode cX13_told 81 = .ok (.ireturn, 1) := by decide +kernel
theorem dX13_told_82 : decode cX13_told 82 = .ok (.iconst (-1), 1) := by decide +kernel
theorem dX13_told_83 : decode cX13_told 83 = .ok (.ireturn, 1) := by decide +kernel
theorem dX13_told_12 : decode cX13_told 12 = .ok (.iconst (-1), 1) := by decide +kernel
theorem dX13_told_13 : decode cX13_told 13 = .ok (.ireturn, 1) := by decide +kernel
theorem dX13_octet_0 : decode cX13_octet 0 = .ok (.aload_n 0, 1) := by decide +kernel
theorem dX13_octet_1 : decode cX13_octet 1 = .ok (.iconst 0, 1) := by decide +kernel
theorem dX13_octet_2 : decode cX13_octet 2 = .ok (.putfield 3, 3) := by decide +kernel
theorem dX13_octet_5 : decode cX13_octet 5 = .ok (.iload_n 1, 1) := by decide +kernel
theorem dX13_octet_6 : decode cX13_octet 6 = .ok (.ifCond .lt 11, 3) := by decide +kernel
theorem dX13_octet_17 : decode cX13_octet 17 = .ok (.iconst (-1), 1) := by decide +kernel
theorem dX13_octet_18 : decode cX13_octet 18 = .ok (.goto 9, 3) := by decide +kernel
theorem dX13_octet_27 : decode cX13_octet 27 = .ok (.ireturn, 1) := by decide +kernel
theorem dX13_octet_9 : decode cX13_octet 9 = .ok (.iload_n 1, 1) := by decide +kernel
theorem dX13_octet_10 : decode cX13_octet 10 = .ok (.aload_n 0, 1) := by decide +kernel
theorem dX13_octet_11 : decode cX13_octet 11 = .ok (.getfield 703, 3) := by decide +kernel
theorem tw_311 : (.fieldLink RX13 703 "PocketCompilerModel" "shownMany" "I" : Cond) ∈ tw_W := tw_in (t8_11 (List.mem_of_getElem? (i := 21) rfl)) rfl
theorem dX13_octet_14 : decode cX13_octet 14 = .ok (.if_icmp .lt 7, 3) := by decide +kernel
theorem dX13_octet_21 : decode cX13_octet 21 = .ok (.aload_n 0, 1) := by decide +kernel
theorem dX13_octet_22 : decode cX13_octet 22 = .ok (.getfield 576, 3) := by decide +kernel
theorem tw_312 : (.fieldLink RX13 576 "PocketCompilerModel" "shown" "[I" : Cond) ∈ tw_W := tw_in (t8_11 (List.mem_of_getElem? (i := 20) rfl)) rfl
theorem dX13_octet_25 : decode cX13_octet 25 = .ok (.iload_n 1, 1) := by decide +kernel
theorem dX13_octet_26 : decode cX13_octet 26 = .ok (.iaload, 1) := by decide +kernel
theorem dX13_worked__0 : decode cX13_worked_ 0 = .ok (.aload_n 0, 1) := by decide +kernel
theorem dX13_worked__1 : decode cX13_worked_ 1 = .ok (.aload_n 0, 1) := by decide +kernel
theorem dX13_worked__2 : decode cX13_worked_ 2 = .ok (.getfield 621, 3) := by decide +kernel
theorem dX13_worked__5 : decode cX13_worked_ 5 = .ok (.ifCond .eq 22, 3) := by decide +kernel
theorem dX13_worked__27 : decode cX13_worked_ 27 = .ok (.iconst 1, 1) := by decide +kernel
theorem dX13_worked__28 : decode cX13_worked_ 28 = .ok (.goto 4, 3) := by decide +kernel
theorem dX13_worked__32 : decode cX13_worked_ 32 = .ok (.putfield 3, 3) := by decide +kernel
theorem dX13_worked__35 : decode cX13_worked_ 35 = .ok (.aload_n 0, 1) := by decide +kernel
theorem dX13_worked__36 : decode cX13_worked_ 36 = .ok (.getfield 3, 3) := by decide +kernel
theorem dX13_worked__39 : decode cX13_worked_ 39 = .ok (.ifCond .le 7, 3) := by decide +kernel
theorem dX13_worked__42 : decode cX13_worked_ 42 = .ok (.iconst 0, 1) := by decide +kernel
theorem dX13_worked__43 : decode cX13_worked_ 43 = .ok (.goto 9, 3) := by decide +kernel
theorem dX13_worked__52 : decode cX13_worked_ 52 = .ok (.ireturn, 1) := by decide +kernel
theorem dX13_worked__8 : decode cX13_worked_ 8 = .ok (.iload_n 1, 1) := by decide +kernel
theorem dX13_worked__9 : decode cX13_worked_ 9 = .ok (.ifCond .lt 18, 3) := by decide +kernel
theorem dX13_worked__12 : decode cX13_worked_ 12 = .ok (.iload_n 1, 1) := by decide +kernel
theorem dX13_worked__13 : decode cX13_worked_ 13 = .ok (.aload_n 0, 1) := by decide +kernel
theorem dX13_worked__14 : decode cX13_worked_ 14 = .ok (.getfield 856, 3) := by decide +kernel
theorem dX13_worked__17 : decode cX13_worked_ 17 = .ok (.if_icmp .ge 10, 3) := by decide +kernel
theorem dX13_worked__20 : decode cX13_worked_ 20 = .ok (.iload_n 1, 1) := by decide +kernel
theorem dX13_worked__21 : decode cX13_worked_ 21 = .ok (.sipush 200, 3) := by decide +kernel
theorem dX13_worked__24 : decode cX13_worked_ 24 = .ok (.if_icmp .lt 7, 3) := by decide +kernel
theorem dX13_worked__31 : decode cX13_worked_ 31 = .ok (.iconst 0, 1) := by decide +kernel
theorem dX13_worked__46 : decode cX13_worked_ 46 = .ok (.aload_n 0, 1) := by decide +kernel
theorem dX13_worked__47 : decode cX13_worked_ 47 = .ok (.getfield 594, 3) := by decide +kernel
theorem tw_313 : (.fieldLink RX13 594 "PocketCompilerModel" "worked" "[I" : Cond) ∈ tw_W := tw_in (t8_11 (List.mem_of_getElem? (i := 35) rfl)) rfl
theorem dX13_worked__50 : decode cX13_worked_ 50 = .ok (.iload_n 1, 1) := by decide +kernel
theorem dX13_worked__51 : decode cX13_worked_ 51 = .ok (.iaload, 1) := by decide +kernel
theorem om_9c575e5a61 {x0 : Int} (h0 : 0 ≤ x0 ∧ x0 ≤ 40) : 0 ≤ (0 : Int) ∧ (0 : Int) ≤ x0 := by omega
theorem om_42fe1d6c70 {x0 : Int} (h0 : 0 ≤ x0 ∧ x0 ≤ 60) : 0 ≤ (0 : Int) ∧ (0 : Int) ≤ x0 := by omega
theorem om_53cfb75ee2 {x0 : Int} (h0 : x0 = (0 : Int)) (h1 : x0 = (1 : Int)) : False := by omega
theorem om_49a1b69e0c {x0 x1 : Int} (h0 : 0 ≤ x0 ∧ x0 ≤ 4000) (h1 : 0 ≤ x1 ∧ x1 ≤ 4000) : 0 ≤ x0 ∧ x0 ≤ 4000 ∧ 0 ≤ x1 ∧ x1 ≤ 4000 := by omega
theorem om_9c2a6a497b {x0 x1 : Int} (h0 : 0 ≤ x0 ∧ x0 ≤ 40) (h1 : 0 ≤ x1 ∧ x1 ≤ x0) : x1 + (1 : Int) < 2147483648 := by omega
theorem om_fe525f7549 {x0 x1 : Int} (h0 : x0 < x1) : 0 < x1 - x0 := by omega
theorem om_27c22d8187 {x0 : Int} (h0 : x0 = (1 : Int)) (h1 : x0 ≠ (1 : Int)) : False := by omega
theorem om_b6be8c1b1f {x0 x1 : Int} (h0 : 0 ≤ x0 ∧ x0 ≤ 60) (h1 : 0 ≤ x1 ∧ x1 ≤ x0) : x1 + (1 : Int) < 2147483648 := by omega
set_option maxHeartbeats 4000000 in
set_option maxRecDepth 100000 in
theorem c_m_find (l : Launch) (dC : Nat → ClassId) (dI : Nat → Nat → Nat) (cI cB cZ cJ cR : ClassId) (tb : Nat → Nat) (sz : Nat) (ad : Nat → Nat) (N : Nat) (v : MS) (pa : Int32) (zta : 0 ≤ (v.1 0 2).toInt ∧ (v.1 0 2).toInt ≤ 4000) (zbf : 0 ≤ (v.1 0 74).toInt ∧ (v.1 0 74).toInt ≤ 40) (zbg : 0 ≤ (v.1 0 75).toInt ∧ (v.1 0 75).toInt ≤ 60) (a83 : AR 83 0 4000 v) (a84 : AR 84 0 4000 v) (a87 : AR 87 0 4000 v) (a88 : AR 88 0 4000 v) : Met l yX13_find (Cond.code yX13_find cX13_find 3 (some .int) :: tw_W) ({ frames := 1, cells := 0, slots := 0, locals := 24 }) (pc_ (dC, dI) (tyS cI cB cZ cJ cR) tb (mW ad N cI cZ cJ v) sz [.ref (ad 0), .int pa]) (qi_ (dC, dI) (mW ad N cI cZ cJ v) sz (fun (r : Int32) (u : MS) => FG [0] [0] v u ∧ (Q_m_find v pa r u)) (fun (u : MS) => (mW ad N cI cZ cJ u))) 0 0 (va_A (mW ad N cI cZ cJ v) sz) := by
  refine Met.ofW (cc := cX13_find) (maxL := 3) (ret := (some .int)) (by decide) rfl ?_
  intro p e s m args below meth c s₁ B hml hv
  obtain ⟨rfl, hsz, hP, hKK, hD0, hFx⟩ := hv
  have hK := hKK.1
  have hx := B.exec
  have hb := B.bytes
  have hr := B.returns
  have ht : ∀ w ∈ tw_W, w.before _ s = true := fun w h => atoms_spec (ws := Cond.code yX13_find cX13_find 3 (some .int) :: tw_W) B.pre w (List.mem_cons_of_mem _ h)
  have hown : s.vm.findClass RX13 = some m.cls := findClass_of_methodNamed B.named
  have hlocks := B.notSynchronized
  subst hsz
  unfold qi_
  have hD := hD0.self (sz := s.heap.size)
  generalize hAe : va_A (mW ad N cI cZ cJ v) s.heap.size = A at hD hFx ⊢
  have hA : ∀ q : Nat, s.heap.size ≤ q → A q := fun q h => by rw [← hAe]; exact Or.inr h
  have hS : va_S A s.heap s.heap [] := va_S.rf
  have hl := lv_entry ([.ref (ad 0), .int pa]) (n := 3) (Nat.le_of_ble_eq_true rfl)
  rw [lg_entry_eq]
  generalize (lg_sl ([.ref (ad 0), .int pa]) ++ List.replicate (3 - (lg_sl ([.ref (ad 0), .int pa])).length) Slot.unset).toArray = ls at hl ⊢
  have hl : lv_has ls 3 [(0, .ref (ad 0)), (1, .int pa)] := hl
  refine lv_aload_n hx hb dX13_find_0 rfl (lv_at hl 0 rfl) ?_
  refine lv_iload_n hx hb dX13_find_1 rfl (lv_at hl 1 rfl) ?_
  refine lv_if_eq (tgt := 10) hx hb dX13_find_2 (by decide) (fun h1 => ?_) (fun h1 => ?_)
  · have z2 : pa.toInt = (0 : Int) := eq_z rfl (show (0 : Int32).toInt = (0 : Int) by decide) h1
    refine lv_iconst (v := 0) hx hb dX13_find_10 (by decide) ?_
    refine lv_goto (tgt := 15) hx hb dX13_find_11 (by decide) ?_
    refine va_put (D := (dC, dI)) (ci := 16) (fs := mF ad v) (v := .int 0) (ty := .int) (C := RX13) (T := TX13) (N := 124) hx hb ht itX13 tyX13 tyX13_ok nmX13 hown hK hP hD hS 0 rfl rfl 0 (by decide) (ht _ tw_246) (fun _ h9 => h9) rfl (by decide +kernel) rfl rfl (Nat.le_of_ble_eq_true rfl) dX13_find_15 (fun H locs hP hD hS => ?_)
    have hP := cP_ (mw_0 ad N cI cZ cJ v 0) hP
    have hD := cD_ (mw_0 ad N cI cZ cJ v 0) hD
    refine lv_aload_n hx hb dX13_find_18 rfl (lv_at hl 0 rfl) ?_
    refine va_get (D := (dC, dI)) (ci := 16) (fs := mF ad (wA v 0 0 0)) (v := .int 0) (C := RX13) (T := TX13) (N := 124) hx hb ht itX13 hown hK hP 0 rfl rfl 0 (by decide) (ht _ tw_246) (fun _ h9 => h9) rfl dX13_find_19 ?_
    refine lv_if_le (tgt := 27) hx hb dX13_find_22 (by decide) (fun _ => ?_) (fun k3 => absurd k3 (by decide))
    refine lv_iconst (v := 0) hx hb dX13_find_27 (by decide) ?_
    refine lv_istore_n (lv' := [(2, .int 0), (0, .ref (ad 0)), (1, .int pa)]) hx hb dX13_find_28 rfl hl (by decide) rfl (fun ls hl => ?_)
    refine lpm_ (X := Int32) (P := (fun (x9 : Int32) (H : Heap) (locs : List Loc) (ls : Array Slot) => (0 ≤ x9.toInt ∧ x9.toInt ≤ (v.1 0 74).toInt) ∧ (RT (Q_m_find_L0 v pa) 0 x9) ∧ va_P (dC, dI) vwCl (mW ad N cI cZ cJ (wA v 0 0 0)) H ∧ va_D A (mW ad N cI cZ cJ (wA v 0 0 0)) ∧ va_S A s.heap H locs ∧ lv_has ls 3 [(2, .int x9), (0, .ref (ad 0)), (1, .int pa)])) (fun x9 => ((v.1 0 74).toInt - x9.toInt).toNat) 29 (fun ka H locs ls hh ih29 => ?_) 0 _ _ _ ⟨(show 0 ≤ (0 : Int) ∧ (0 : Int) ≤ (v.1 0 74).toInt from (om_9c575e5a61 zbf)), RT.rf, hP, hD, hS, lv_sub hl [0, 1, 2] rfl⟩
    obtain ⟨f1L29, exL29, hP, hD, hS, hl⟩ := hh
    have f1L29 : 0 ≤ ka.toInt ∧ ka.toInt ≤ (v.1 0 74).toInt := f1L29
    have hl : lv_has ls 3 [(2, .int ka), (0, .ref (ad 0)), (1, .int pa)] := hl
    refine lv_iload_n hx hb dX13_find_29 rfl (lv_at hl 0 rfl) ?_
    refine lv_aload_n hx hb dX13_find_30 rfl (lv_at hl 1 rfl) ?_
    refine va_get (D := (dC, dI)) (ci := 16) (fs := mF ad (wA v 0 0 0)) (v := .int (v.1 0 74)) (C := RX13) (T := TX13) (N := 124) hx hb ht itX13 hown hK hP 0 rfl rfl 74 (by decide) (ht _ tw_258) (fun _ h9 => h9) rfl dX13_find_31 ?_
    refine lv_icmp_ge (tgt := 68) hx hb dX13_find_34 (by decide) (fun h4 => ?_) (fun h4 => ?_)
    · have z5 : (v.1 0 74).toInt ≤ ka.toInt := le_z rfl rfl h4
      refine lv_iconst (v := 0) hx hb dX13_find_68 (by decide) ?_
      refine lv_istore_n (lv' := [(2, .int 0), (0, .ref (ad 0)), (1, .int pa)]) hx hb dX13_find_69 rfl hl (by decide) rfl (fun ls hl => ?_)
      refine lpm_ (X := Int32) (P := (fun (x9 : Int32) (H : Heap) (locs : List Loc) (ls : Array Slot) => (0 ≤ x9.toInt ∧ x9.toInt ≤ (v.1 0 75).toInt) ∧ (RT (Q_m_find_L1) 0 x9) ∧ va_P (dC, dI) vwCl (mW ad N cI cZ cJ (wA v 0 0 0)) H ∧ va_D A (mW ad N cI cZ cJ (wA v 0 0 0)) ∧ va_S A s.heap H locs ∧ lv_has ls 3 [(2, .int x9), (0, .ref (ad 0)), (1, .int pa)])) (fun x9 => ((v.1 0 75).toInt - x9.toInt).toNat) 70 (fun kb H locs ls hh ih70 => ?_) 0 _ _ _ ⟨(show 0 ≤ (0 : Int) ∧ (0 : Int) ≤ (v.1 0 75).toInt from (om_42fe1d6c70 zbg)), RT.rf, hP, hD, hS, lv_sub hl [0, 1, 2] rfl⟩
      obtain ⟨f1L70, exL70, hP, hD, hS, hl⟩ := hh
      have f1L70 : 0 ≤ kb.toInt ∧ kb.toInt ≤ (v.1 0 75).toInt := f1L70
      have hl : lv_has ls 3 [(2, .int kb), (0, .ref (ad 0)), (1, .int pa)] := hl
      refine lv_iload_n hx hb dX13_find_70 rfl (lv_at hl 0 rfl) ?_
      refine lv_aload_n hx hb dX13_find_71 rfl (lv_at hl 1 rfl) ?_
      refine va_get (D := (dC, dI)) (ci := 16) (fs := mF ad (wA v 0 0 0)) (v := .int (v.1 0 75)) (C := RX13) (T := TX13) (N := 124) hx hb ht itX13 hown hK hP 0 rfl rfl 75 (by decide) (ht _ tw_263) (fun _ h9 => h9) rfl dX13_find_72 ?_
      refine lv_icmp_ge (tgt := 110) hx hb dX13_find_75 (by decide) (fun h6 => ?_) (fun h6 => ?_)
      · have z7 : (v.1 0 75).toInt ≤ kb.toInt := le_z rfl rfl h6
        refine lv_iconst (v := -1) hx hb dX13_find_110 (by decide) ?_
        exact W.iret (v := (-1)) hx hb hr (fun t ht9 hW => ⟨⟨(-1), (wA v 0 0 0), rfl, ⟨(FG.f (FG.rf _) 0 (by decide)), ⟨zta, zbf, zbg, (Or.inl ⟨z2, ka, exL29, f1L29, (Or.inl ⟨z5, kb, exL70, f1L70, (Or.inl ⟨z7, rfl, rfl⟩)⟩)⟩)⟩⟩, by rw [ht9]; exact hP, hD⟩, hS.F ht9⟩) hS.2.2 dX13_find_111
      · have z8 : kb.toInt < (v.1 0 75).toInt := nle_z rfl rfl h6
        refine lv_iload_n hx hb dX13_find_78 rfl (lv_at hl 2 rfl) ?_
        refine lv_iconst (v := 1) hx hb dX13_find_79 (by decide) ?_
        refine lv_icmp_ne (tgt := 110) hx hb dX13_find_80 (by decide) (fun h9 => ?_) (fun h9 => ?_)
        · have z10 : pa.toInt ≠ (1 : Int) := ne_z rfl (show (1 : Int32).toInt = (1 : Int) by decide) h9
          refine lv_iconst (v := -1) hx hb dX13_find_110 (by decide) ?_
          exact W.iret (v := (-1)) hx hb hr (fun t ht9 hW => ⟨⟨(-1), (wA v 0 0 0), rfl, ⟨(FG.f (FG.rf _) 0 (by decide)), ⟨zta, zbf, zbg, (Or.inl ⟨z2, ka, exL29, f1L29, (Or.inl ⟨z5, kb, exL70, f1L70, (Or.inr (⟨z8, z10, rfl, rfl⟩))⟩)⟩)⟩⟩, by rw [ht9]; exact hP, hD⟩, hS.F ht9⟩) hS.2.2 dX13_find_111
        · have z11 : pa.toInt = (1 : Int) := eq_z rfl (show (1 : Int32).toInt = (1 : Int) by decide) h9
          exact False.elim (om_53cfb75ee2 z2 z11)
    · have z12 : ka.toInt < (v.1 0 74).toInt := nle_z rfl rfl h4
      refine lv_iload_n hx hb dX13_find_37 rfl (lv_at hl 2 rfl) ?_
      refine lv_if_ne (tgt := 68) hx hb dX13_find_38 (by decide) (fun h13 => ?_) (fun h13 => ?_)
      · have z14 : pa.toInt ≠ (0 : Int) := ne_z rfl (show (0 : Int32).toInt = (0 : Int) by decide) h13
        exact False.elim (om_e92e9f8ce0 z2 z14)
      · have z15 : pa.toInt = (0 : Int) := eq_z rfl (show (0 : Int32).toInt = (0 : Int) by decide) h13
        refine lv_aload_n hx hb dX13_find_41 rfl (lv_at hl 1 rfl) ?_
        refine lv_aload_n hx hb dX13_find_42 rfl (lv_at hl 1 rfl) ?_
        refine va_get (D := (dC, dI)) (ci := 16) (fs := mF ad (wA v 0 0 0)) (v := .ref (ad 83)) (C := RX13) (T := TX13) (N := 124) hx hb ht itX13 hown hK hP 0 rfl rfl 83 (by decide) (ht _ tw_259) (fun _ h9 => h9) rfl dX13_find_43 ?_
        refine lv_iload_n hx hb dX13_find_46 rfl (lv_at hl 0 rfl) ?_
        refine va_iald (D := (dC, dI)) (f := (v.1 83)) hx hb hK hP 43 0 rfl rfl (in_y (a := ka.toInt) (b := 40) rfl (om_ac00129bfc f1L29) (om_f1d398b2a9 zbf z12) rfl) dX13_find_47 ?_
        refine lv_aload_n hx hb dX13_find_48 rfl (lv_at hl 1 rfl) ?_
        refine va_get (D := (dC, dI)) (ci := 16) (fs := mF ad (wA v 0 0 0)) (v := .ref (ad 84)) (C := RX13) (T := TX13) (N := 124) hx hb ht itX13 hown hK hP 0 rfl rfl 84 (by decide) (ht _ tw_276) (fun _ h9 => h9) rfl dX13_find_49 ?_
        refine lv_iload_n hx hb dX13_find_52 rfl (lv_at hl 0 rfl) ?_
        refine va_iald (D := (dC, dI)) (f := (v.1 84)) hx hb hK hP 44 0 rfl rfl (in_y (a := ka.toInt) (b := 40) rfl (om_ac00129bfc f1L29) (om_f1d398b2a9 zbf z12) rfl) dX13_find_53 ?_
        have q16 : 0 ≤ ((v.1 83) ka.toNatClampNeg).toInt ∧ ((v.1 83) ka.toNatClampNeg).toInt ≤ 4000 := (show AR 83 0 4000 (wA v 0 0 0) from (AR.o a83 (by decide))) ka.toNatClampNeg
        have q17 : 0 ≤ ((v.1 84) ka.toNatClampNeg).toInt ∧ ((v.1 84) ka.toNatClampNeg).toInt ≤ 4000 := (show AR 84 0 4000 (wA v 0 0 0) from (AR.o a84 (by decide))) ka.toNatClampNeg
        refine cu_i (rn_V (n := 2) (As := [.int ((v.1 83) ka.toNatClampNeg), .int ((v.1 84) ka.toNatClampNeg)]) (rest := []) hx hb hml hown ht hKK hFx hP hD hS hA (c_m_isTape l dC dI cI cB cZ cJ cR tb H.size ad N (wA v 0 0 0) ((v.1 83) ka.toNatClampNeg) ((v.1 84) ka.toNatClampNeg) (show 0 ≤ (v.1 0 2).toInt ∧ (v.1 0 2).toInt ≤ 4000 from (om_c74a68af25 zta)) (show 0 ≤ ((v.1 83) ka.toNatClampNeg).toInt ∧ ((v.1 83) ka.toNatClampNeg).toInt ≤ 4000 ∧ 0 ≤ ((v.1 84) ka.toNatClampNeg).toInt ∧ ((v.1 84) ka.toNatClampNeg).toInt ≤ 4000 from (om_49a1b69e0c q16 q17))) tw_303 tw_304 (by decide +kernel) rfl rfl ⟨Nat.le_of_ble_eq_true rfl, Nat.le_of_ble_eq_true rfl⟩ (List.range (mW ad N cI cZ cJ (wA v 0 0 0)).length) (rg_map _) (mW_nd _ _ _ _ _ _) rfl rfl rfl rfl hl.1 rfl (Nat.le_of_ble_eq_true rfl) dX13_find_54 ⟨Nat.le_of_ble_eq_true rfl, Nat.le_of_ble_eq_true rfl⟩) hP hD hS hA (fun r20 u19 H locs hw18 hP hD hS => ?_)
        obtain ⟨rfl, ex18, b18, e18⟩ := hw18
        have b18 : (r20 = 0 ∨ r20 = 1) := b18
        have e18 : 0 ≤ r20.toInt ∧ r20.toInt ≤ 1 := e18
        refine W.widen (k := 0) (n := 0) (Nat.le_refl _) (Nat.le_refl _) ?_
        refine lv_if_eq (tgt := 62) hx hb dX13_find_57 (by decide) (fun h21 => ?_) (fun h21 => ?_)
        · have z22 : r20.toInt = (0 : Int) := eq_z rfl (show (0 : Int32).toInt = (0 : Int) by decide) h21
          refine lv_iinc (v := (ka + (1 : Int32))) (lv' := [(2, .int (ka + (1 : Int32))), (0, .ref (ad 0)), (1, .int pa)]) hx hb dX13_find_62 hl (k := 0) rfl (rfl) (by decide) rfl (fun ls hl => ?_)
          have z23 : (ka + (1 : Int32)).toInt = ka.toInt + (1 : Int) := add_z rfl (show (1 : Int32).toInt = (1 : Int) by decide) (om_a8944c555e f1L29) (om_9c2a6a497b zbf f1L29)
          refine lv_goto (tgt := 29) hx hb dX13_find_65 (by decide) ?_
          exact ih29 (ka + (1 : Int32)) _ _ _ (show ((v.1 0 74).toInt - (ka + (1 : Int32)).toInt).toNat < ((v.1 0 74).toInt - ka.toInt).toNat from tn_z (om_6a7d95371f z23) (om_fe525f7549 z12)) ⟨(show 0 ≤ (ka + (1 : Int32)).toInt ∧ (ka + (1 : Int32)).toInt ≤ (v.1 0 74).toInt from (om_ca7f7afb18 f1L29 z12 z23)), (RT.st exL29 ⟨f1L29, z12, z15, r20, ex18, ⟨b18, e18⟩, z22, rfl⟩), hP, hD, hS, lv_sub hl [0, 1, 2] rfl⟩
        · have z24 : r20.toInt ≠ (0 : Int) := ne_z rfl (show (0 : Int32).toInt = (0 : Int) by decide) h21
          refine lv_iload_n hx hb dX13_find_60 rfl (lv_at hl 0 rfl) ?_
          exact W.iret (v := ka) hx hb hr (fun t ht9 hW => ⟨⟨ka, (wA v 0 0 0), rfl, ⟨(FG.f (FG.rf _) 0 (by decide)), ⟨zta, zbf, zbg, (Or.inl ⟨z2, ka, exL29, f1L29, (Or.inr (⟨z12, z15, r20, ex18, ⟨b18, e18⟩, z24, rfl, rfl⟩))⟩)⟩⟩, by rw [ht9]; exact hP, hD⟩, hS.F ht9⟩) hS.2.2 dX13_find_61
  · have z25 : pa.toInt ≠ (0 : Int) := ne_z rfl (show (0 : Int32).toInt = (0 : Int) by decide) h1
    refine lv_iload_n hx hb dX13_find_5 rfl (lv_at hl 1 rfl) ?_
    refine lv_iconst (v := 1) hx hb dX13_find_6 (by decide) ?_
    refine lv_icmp_ne (tgt := 14) hx hb dX13_find_7 (by decide) (fun h26 => ?_) (fun h26 => ?_)
    · have z27 : pa.toInt ≠ (1 : Int) := ne_z rfl (show (1 : Int32).toInt = (1 : Int) by decide) h26
      refine lv_iconst (v := 1) hx hb dX13_find_14 (by decide) ?_
      refine va_put (D := (dC, dI)) (ci := 16) (fs := mF ad v) (v := .int 1) (ty := .int) (C := RX13) (T := TX13) (N := 124) hx hb ht itX13 tyX13 tyX13_ok nmX13 hown hK hP hD hS 0 rfl rfl 0 (by decide) (ht _ tw_246) (fun _ h9 => h9) rfl (by decide +kernel) rfl rfl (Nat.le_of_ble_eq_true rfl) dX13_find_15 (fun H locs hP hD hS => ?_)
      have hP := cP_ (mw_0 ad N cI cZ cJ v 1) hP
      have hD := cD_ (mw_0 ad N cI cZ cJ v 1) hD
      refine lv_aload_n hx hb dX13_find_18 rfl (lv_at hl 0 rfl) ?_
      refine va_get (D := (dC, dI)) (ci := 16) (fs := mF ad (wA v 0 0 1)) (v := .int 1) (C := RX13) (T := TX13) (N := 124) hx hb ht itX13 hown hK hP 0 rfl rfl 0 (by decide) (ht _ tw_246) (fun _ h9 => h9) rfl dX13_find_19 ?_
      refine lv_if_le (tgt := 27) hx hb dX13_find_22 (by decide) (fun k28 => absurd k28 (by decide)) (fun _ => ?_)
      refine lv_iconst (v := 0) hx hb dX13_find_25 (by decide) ?_
      exact W.iret (v := 0) hx hb hr (fun t ht9 hW => ⟨⟨0, (wA v 0 0 1), rfl, ⟨(FG.f (FG.rf _) 1 (by decide)), ⟨zta, zbf, zbg, (Or.inr (⟨z25, (Or.inl ⟨z27, rfl, rfl⟩)⟩))⟩⟩, by rw [ht9]; exact hP, hD⟩, hS.F ht9⟩) hS.2.2 dX13_find_26
    · have z29 : pa.toInt = (1 : Int) := eq_z rfl (show (1 : Int32).toInt = (1 : Int) by decide) h26
      refine lv_iconst (v := 0) hx hb dX13_find_10 (by decide) ?_
      refine lv_goto (tgt := 15) hx hb dX13_find_11 (by decide) ?_
      refine va_put (D := (dC, dI)) (ci := 16) (fs := mF ad v) (v := .int 0) (ty := .int) (C := RX13) (T := TX13) (N := 124) hx hb ht itX13 tyX13 tyX13_ok nmX13 hown hK hP hD hS 0 rfl rfl 0 (by decide) (ht _ tw_246) (fun _ h9 => h9) rfl (by decide +kernel) rfl rfl (Nat.le_of_ble_eq_true rfl) dX13_find_15 (fun H locs hP hD hS => ?_)
      have hP := cP_ (mw_0 ad N cI cZ cJ v 0) hP
      have hD := cD_ (mw_0 ad N cI cZ cJ v 0) hD
      refine lv_aload_n hx hb dX13_find_18 rfl (lv_at hl 0 rfl) ?_
      refine va_get (D := (dC, dI)) (ci := 16) (fs := mF ad (wA v 0 0 0)) (v := .int 0) (C := RX13) (T := TX13) (N := 124) hx hb ht itX13 hown hK hP 0 rfl rfl 0 (by decide) (ht _ tw_246) (fun _ h9 => h9) rfl dX13_find_19 ?_
      refine lv_if_le (tgt := 27) hx hb dX13_find_22 (by decide) (fun _ => ?_) (fun k30 => absurd k30 (by decide))
      refine lv_iconst (v := 0) hx hb dX13_find_27 (by decide) ?_
      refine lv_istore_n (lv' := [(2, .int 0), (0, .ref (ad 0)), (1, .int pa)]) hx hb dX13_find_28 rfl hl (by decide) rfl (fun ls hl => ?_)
      refine lpm_ (X := Int32) (P := (fun (x9 : Int32) (H : Heap) (locs : List Loc) (ls : Array Slot) => (0 ≤ x9.toInt ∧ x9.toInt ≤ (v.1 0 74).toInt) ∧ (RT (Q_m_find_L2) 0 x9) ∧ va_P (dC, dI) vwCl (mW ad N cI cZ cJ (wA v 0 0 0)) H ∧ va_D A (mW ad N cI cZ cJ (wA v 0 0 0)) ∧ va_S A s.heap H locs ∧ lv_has ls 3 [(2, .int x9), (0, .ref (ad 0)), (1, .int pa)])) (fun x9 => ((v.1 0 74).toInt - x9.toInt).toNat) 29 (fun ka H locs ls hh ih29 => ?_) 0 _ _ _ ⟨(show 0 ≤ (0 : Int) ∧ (0 : Int) ≤ (v.1 0 74).toInt from (om_9c575e5a61 zbf)), RT.rf, hP, hD, hS, lv_sub hl [0, 1, 2] rfl⟩
      obtain ⟨f1L29, exL29, hP, hD, hS, hl⟩ := hh
      have f1L29 : 0 ≤ ka.toInt ∧ ka.toInt ≤ (v.1 0 74).toInt := f1L29
      have hl : lv_has ls 3 [(2, .int ka), (0, .ref (ad 0)), (1, .int pa)] := hl
      refine lv_iload_n hx hb dX13_find_29 rfl (lv_at hl 0 rfl) ?_
      refine lv_aload_n hx hb dX13_find_30 rfl (lv_at hl 1 rfl) ?_
      refine va_get (D := (dC, dI)) (ci := 16) (fs := mF ad (wA v 0 0 0)) (v := .int (v.1 0 74)) (C := RX13) (T := TX13) (N := 124) hx hb ht itX13 hown hK hP 0 rfl rfl 74 (by decide) (ht _ tw_258) (fun _ h9 => h9) rfl dX13_find_31 ?_
      refine lv_icmp_ge (tgt := 68) hx hb dX13_find_34 (by decide) (fun h31 => ?_) (fun h31 => ?_)
      · have z32 : (v.1 0 74).toInt ≤ ka.toInt := le_z rfl rfl h31
        refine lv_iconst (v := 0) hx hb dX13_find_68 (by decide) ?_
        refine lv_istore_n (lv' := [(2, .int 0), (0, .ref (ad 0)), (1, .int pa)]) hx hb dX13_find_69 rfl hl (by decide) rfl (fun ls hl => ?_)
        refine lpm_ (X := Int32) (P := (fun (x9 : Int32) (H : Heap) (locs : List Loc) (ls : Array Slot) => (0 ≤ x9.toInt ∧ x9.toInt ≤ (v.1 0 75).toInt) ∧ (RT (Q_m_find_L3 v pa) 0 x9) ∧ va_P (dC, dI) vwCl (mW ad N cI cZ cJ (wA v 0 0 0)) H ∧ va_D A (mW ad N cI cZ cJ (wA v 0 0 0)) ∧ va_S A s.heap H locs ∧ lv_has ls 3 [(2, .int x9), (0, .ref (ad 0)), (1, .int pa)])) (fun x9 => ((v.1 0 75).toInt - x9.toInt).toNat) 70 (fun kb H locs ls hh ih70 => ?_) 0 _ _ _ ⟨(show 0 ≤ (0 : Int) ∧ (0 : Int) ≤ (v.1 0 75).toInt from (om_42fe1d6c70 zbg)), RT.rf, hP, hD, hS, lv_sub hl [0, 1, 2] rfl⟩
        obtain ⟨f1L70, exL70, hP, hD, hS, hl⟩ := hh
        have f1L70 : 0 ≤ kb.toInt ∧ kb.toInt ≤ (v.1 0 75).toInt := f1L70
        have hl : lv_has ls 3 [(2, .int kb), (0, .ref (ad 0)), (1, .int pa)] := hl
        refine lv_iload_n hx hb dX13_find_70 rfl (lv_at hl 0 rfl) ?_
        refine lv_aload_n hx hb dX13_find_71 rfl (lv_at hl 1 rfl) ?_
        refine va_get (D := (dC, dI)) (ci := 16) (fs := mF ad (wA v 0 0 0)) (v := .int (v.1 0 75)) (C := RX13) (T := TX13) (N := 124) hx hb ht itX13 hown hK hP 0 rfl rfl 75 (by decide) (ht _ tw_263) (fun _ h9 => h9) rfl dX13_find_72 ?_
        refine lv_icmp_ge (tgt := 110) hx hb dX13_find_75 (by decide) (fun h33 => ?_) (fun h33 => ?_)
        · have z34 : (v.1 0 75).toInt ≤ kb.toInt := le_z rfl rfl h33
          refine lv_iconst (v := -1) hx hb dX13_find_110 (by decide) ?_
          exact W.iret (v := (-1)) hx hb hr (fun t ht9 hW => ⟨⟨(-1), (wA v 0 0 0), rfl, ⟨(FG.f (FG.rf _) 0 (by decide)), ⟨zta, zbf, zbg, (Or.inr (⟨z25, (Or.inr (⟨z29, ka, exL29, f1L29, (Or.inl ⟨z32, kb, exL70, f1L70, (Or.inl ⟨z34, rfl, rfl⟩)⟩)⟩))⟩))⟩⟩, by rw [ht9]; exact hP, hD⟩, hS.F ht9⟩) hS.2.2 dX13_find_111
        · have z35 : kb.toInt < (v.1 0 75).toInt := nle_z rfl rfl h33
          refine lv_iload_n hx hb dX13_find_78 rfl (lv_at hl 2 rfl) ?_
          refine lv_iconst (v := 1) hx hb dX13_find_79 (by decide) ?_
          refine lv_icmp_ne (tgt := 110) hx hb dX13_find_80 (by decide) (fun h36 => ?_) (fun h36 => ?_)
          · have z37 : pa.toInt ≠ (1 : Int) := ne_z rfl (show (1 : Int32).toInt = (1 : Int) by decide) h36
            exact False.elim (om_27c22d8187 z29 z37)
          · have z38 : pa.toInt = (1 : Int) := eq_z rfl (show (1 : Int32).toInt = (1 : Int) by decide) h36
            refine lv_aload_n hx hb dX13_find_83 rfl (lv_at hl 1 rfl) ?_
            refine lv_aload_n hx hb dX13_find_84 rfl (lv_at hl 1 rfl) ?_
            refine va_get (D := (dC, dI)) (ci := 16) (fs := mF ad (wA v 0 0 0)) (v := .ref (ad 87)) (C := RX13) (T := TX13) (N := 124) hx hb ht itX13 hown hK hP 0 rfl rfl 87 (by decide) (ht _ tw_264) (fun _ h9 => h9) rfl dX13_find_85 ?_
            refine lv_iload_n hx hb dX13_find_88 rfl (lv_at hl 0 rfl) ?_
            refine va_iald (D := (dC, dI)) (f := (v.1 87)) hx hb hK hP 47 0 rfl rfl (in_y (a := kb.toInt) (b := 60) rfl (om_ac00129bfc f1L70) (om_f30fc6227d zbg z35) rfl) dX13_find_89 ?_
            refine lv_aload_n hx hb dX13_find_90 rfl (lv_at hl 1 rfl) ?_
            refine va_get (D := (dC, dI)) (ci := 16) (fs := mF ad (wA v 0 0 0)) (v := .ref (ad 88)) (C := RX13) (T := TX13) (N := 124) hx hb ht itX13 hown hK hP 0 rfl rfl 88 (by decide) (ht _ tw_273) (fun _ h9 => h9) rfl dX13_find_91 ?_
            refine lv_iload_n hx hb dX13_find_94 rfl (lv_at hl 0 rfl) ?_
            refine va_iald (D := (dC, dI)) (f := (v.1 88)) hx hb hK hP 48 0 rfl rfl (in_y (a := kb.toInt) (b := 60) rfl (om_ac00129bfc f1L70) (om_f30fc6227d zbg z35) rfl) dX13_find_95 ?_
            have q39 : 0 ≤ ((v.1 87) kb.toNatClampNeg).toInt ∧ ((v.1 87) kb.toNatClampNeg).toInt ≤ 4000 := (show AR 87 0 4000 (wA v 0 0 0) from (AR.o a87 (by decide))) kb.toNatClampNeg
            have q40 : 0 ≤ ((v.1 88) kb.toNatClampNeg).toInt ∧ ((v.1 88) kb.toNatClampNeg).toInt ≤ 4000 := (show AR 88 0 4000 (wA v 0 0 0) from (AR.o a88 (by decide))) kb.toNatClampNeg
            refine cu_i (rn_V (n := 2) (As := [.int ((v.1 87) kb.toNatClampNeg), .int ((v.1 88) kb.toNatClampNeg)]) (rest := []) hx hb hml hown ht hKK hFx hP hD hS hA (c_m_isTape l dC dI cI cB cZ cJ cR tb H.size ad N (wA v 0 0 0) ((v.1 87) kb.toNatClampNeg) ((v.1 88) kb.toNatClampNeg) (show 0 ≤ (v.1 0 2).toInt ∧ (v.1 0 2).toInt ≤ 4000 from (om_c74a68af25 zta)) (show 0 ≤ ((v.1 87) kb.toNatClampNeg).toInt ∧ ((v.1 87) kb.toNatClampNeg).toInt ≤ 4000 ∧ 0 ≤ ((v.1 88) kb.toNatClampNeg).toInt ∧ ((v.1 88) kb.toNatClampNeg).toInt ≤ 4000 from (om_49a1b69e0c q39 q40))) tw_303 tw_304 (by decide +kernel) rfl rfl ⟨Nat.le_of_ble_eq_true rfl, Nat.le_of_ble_eq_true rfl⟩ (List.range (mW ad N cI cZ cJ (wA v 0 0 0)).length) (rg_map _) (mW_nd _ _ _ _ _ _) rfl rfl rfl rfl hl.1 rfl (Nat.le_of_ble_eq_true rfl) dX13_find_96 ⟨Nat.le_of_ble_eq_true rfl, Nat.le_of_ble_eq_true rfl⟩) hP hD hS hA (fun r43 u42 H locs hw41 hP hD hS => ?_)
            obtain ⟨rfl, ex41, b41, e41⟩ := hw41
            have b41 : (r43 = 0 ∨ r43 = 1) := b41
            have e41 : 0 ≤ r43.toInt ∧ r43.toInt ≤ 1 := e41
            refine W.widen (k := 0) (n := 0) (Nat.le_refl _) (Nat.le_refl _) ?_
            refine lv_if_eq (tgt := 104) hx hb dX13_find_99 (by decide) (fun h44 => ?_) (fun h44 => ?_)
            · have z45 : r43.toInt = (0 : Int) := eq_z rfl (show (0 : Int32).toInt = (0 : Int) by decide) h44
              refine lv_iinc (v := (kb + (1 : Int32))) (lv' := [(2, .int (kb + (1 : Int32))), (0, .ref (ad 0)), (1, .int pa)]) hx hb dX13_find_104 hl (k := 0) rfl (rfl) (by decide) rfl (fun ls hl => ?_)
              have z46 : (kb + (1 : Int32)).toInt = kb.toInt + (1 : Int) := add_z rfl (show (1 : Int32).toInt = (1 : Int) by decide) (om_a8944c555e f1L70) (om_b6be8c1b1f zbg f1L70)
              refine lv_goto (tgt := 70) hx hb dX13_find_107 (by decide) ?_
              exact ih70 (kb + (1 : Int32)) _ _ _ (show ((v.1 0 75).toInt - (kb + (1 : Int32)).toInt).toNat < ((v.1 0 75).toInt - kb.toInt).toNat from tn_z (om_6a7d95371f z46) (om_fe525f7549 z35)) ⟨(show 0 ≤ (kb + (1 : Int32)).toInt ∧ (kb + (1 : Int32)).toInt ≤ (v.1 0 75).toInt from (om_ca7f7afb18 f1L70 z35 z46)), (RT.st exL70 ⟨f1L70, z35, z38, r43, ex41, ⟨b41, e41⟩, z45, rfl⟩), hP, hD, hS, lv_sub hl [0, 1, 2] rfl⟩
            · have z47 : r43.toInt ≠ (0 : Int) := ne_z rfl (show (0 : Int32).toInt = (0 : Int) by decide) h44
              refine lv_iload_n hx hb dX13_find_102 rfl (lv_at hl 0 rfl) ?_
              exact W.iret (v := kb) hx hb hr (fun t ht9 hW => ⟨⟨kb, (wA v 0 0 0), rfl, ⟨(FG.f (FG.rf _) 0 (by decide)), ⟨zta, zbf, zbg, (Or.inr (⟨z25, (Or.inr (⟨z29, ka, exL29, f1L29, (Or.inl ⟨z32, kb, exL70, f1L70, (Or.inr (⟨z35, z38, r43, ex41, ⟨b41, e41⟩, z47, rfl, rfl⟩))⟩)⟩))⟩))⟩⟩, by rw [ht9]; exact hP, hD⟩, hS.F ht9⟩) hS.2.2 dX13_find_103
      · have z48 : ka.toInt < (v.1 0 74).toInt := nle_z rfl rfl h31
        refine lv_iload_n hx hb dX13_find_37 rfl (lv_at hl 2 rfl) ?_
        refine lv_if_ne (tgt := 68) hx hb dX13_find_38 (by decide) (fun h49 => ?_) (fun h49 => ?_)
        · have z50 : pa.toInt ≠ (0 : Int) := ne_z rfl (show (0 : Int32).toInt = (0 : Int) by decide) h49
          refine lv_iconst (v := 0) hx hb dX13_find_68 (by decide) ?_
          refine lv_istore_n (lv' := [(2, .int 0), (0, .ref (ad 0)), (1, .int pa)]) hx hb dX13_find_69 rfl hl (by decide) rfl (fun ls hl => ?_)
          refine lpm_ (X := Int32) (P := (fun (x9 : Int32) (H : Heap) (locs : List Loc) (ls : Array Slot) => (0 ≤ x9.toInt ∧ x9.toInt ≤ (v.1 0 75).toInt) ∧ (RT (Q_m_find_L4 v pa) 0 x9) ∧ va_P (dC, dI) vwCl (mW ad N cI cZ cJ (wA v 0 0 0)) H ∧ va_D A (mW ad N cI cZ cJ (wA v 0 0 0)) ∧ va_S A s.heap H locs ∧ lv_has ls 3 [(2, .int x9), (0, .ref (ad 0)), (1, .int pa)])) (fun x9 => ((v.1 0 75).toInt - x9.toInt).toNat) 70 (fun kb H locs ls hh ih70 => ?_) 0 _ _ _ ⟨(show 0 ≤ (0 : Int) ∧ (0 : Int) ≤ (v.1 0 75).toInt from (om_42fe1d6c70 zbg)), RT.rf, hP, hD, hS, lv_sub hl [0, 1, 2] rfl⟩
          obtain ⟨f1L70, exL70, hP, hD, hS, hl⟩ := hh
          have f1L70 : 0 ≤ kb.toInt ∧ kb.toInt ≤ (v.1 0 75).toInt := f1L70
          have hl : lv_has ls 3 [(2, .int kb), (0, .ref (ad 0)), (1, .int pa)] := hl
          refine lv_iload_n hx hb dX13_find_70 rfl (lv_at hl 0 rfl) ?_
          refine lv_aload_n hx hb dX13_find_71 rfl (lv_at hl 1 rfl) ?_
          refine va_get (D := (dC, dI)) (ci := 16) (fs := mF ad (wA v 0 0 0)) (v := .int (v.1 0 75)) (C := RX13) (T := TX13) (N := 124) hx hb ht itX13 hown hK hP 0 rfl rfl 75 (by decide) (ht _ tw_263) (fun _ h9 => h9) rfl dX13_find_72 ?_
          refine lv_icmp_ge (tgt := 110) hx hb dX13_find_75 (by decide) (fun h51 => ?_) (fun h51 => ?_)
          · have z52 : (v.1 0 75).toInt ≤ kb.toInt := le_z rfl rfl h51
            refine lv_iconst (v := -1) hx hb dX13_find_110 (by decide) ?_
            exact W.iret (v := (-1)) hx hb hr (fun t ht9 hW => ⟨⟨(-1), (wA v 0 0 0), rfl, ⟨(FG.f (FG.rf _) 0 (by decide)), ⟨zta, zbf, zbg, (Or.inr (⟨z25, (Or.inr (⟨z29, ka, exL29, f1L29, (Or.inr (⟨z48, z50, kb, exL70, f1L70, (Or.inl ⟨z52, rfl, rfl⟩)⟩))⟩))⟩))⟩⟩, by rw [ht9]; exact hP, hD⟩, hS.F ht9⟩) hS.2.2 dX13_find_111
          · have z53 : kb.toInt < (v.1 0 75).toInt := nle_z rfl rfl h51
            refine lv_iload_n hx hb dX13_find_78 rfl (lv_at hl 2 rfl) ?_
            refine lv_iconst (v := 1) hx hb dX13_find_79 (by decide) ?_
            refine lv_icmp_ne (tgt := 110) hx hb dX13_find_80 (by decide) (fun h54 => ?_) (fun h54 => ?_)
            · have z55 : pa.toInt ≠ (1 : Int) := ne_z rfl (show (1 : Int32).toInt = (1 : Int) by decide) h54
              exact False.elim (om_27c22d8187 z29 z55)
            · have z56 : pa.toInt = (1 : Int) := eq_z rfl (show (1 : Int32).toInt = (1 : Int) by decide) h54
              refine lv_aload_n hx hb dX13_find_83 rfl (lv_at hl 1 rfl) ?_
              refine lv_aload_n hx hb dX13_find_84 rfl (lv_at hl 1 rfl) ?_
              refine va_get (D := (dC, dI)) (ci := 16) (fs := mF ad (wA v 0 0 0)) (v := .ref (ad 87)) (C := RX13) (T := TX13) (N := 124) hx hb ht itX13 hown hK hP 0 rfl rfl 87 (by decide) (ht _ tw_264) (fun _ h9 => h9) rfl dX13_find_85 ?_
              refine lv_iload_n hx hb dX13_find_88 rfl (lv_at hl 0 rfl) ?_
              refine va_iald (D := (dC, dI)) (f := (v.1 87)) hx hb hK hP 47 0 rfl rfl (in_y (a := kb.toInt) (b := 60) rfl (om_ac00129bfc f1L70) (om_f30fc6227d zbg z53) rfl) dX13_find_89 ?_
              refine lv_aload_n hx hb dX13_find_90 rfl (lv_at hl 1 rfl) ?_
              refine va_get (D := (dC, dI)) (ci := 16) (fs := mF ad (wA v 0 0 0)) (v := .ref (ad 88)) (C := RX13) (T := TX13) (N := 124) hx hb ht itX13 hown hK hP 0 rfl rfl 88 (by decide) (ht _ tw_273) (fun _ h9 => h9) rfl dX13_find_91 ?_
              refine lv_iload_n hx hb dX13_find_94 rfl (lv_at hl 0 rfl) ?_
              refine va_iald (D := (dC, dI)) (f := (v.1 88)) hx hb hK hP 48 0 rfl rfl (in_y (a := kb.toInt) (b := 60) rfl (om_ac00129bfc f1L70) (om_f30fc6227d zbg z53) rfl) dX13_find_95 ?_
              have q57 : 0 ≤ ((v.1 87) kb.toNatClampNeg).toInt ∧ ((v.1 87) kb.toNatClampNeg).toInt ≤ 4000 := (show AR 87 0 4000 (wA v 0 0 0) from (AR.o a87 (by decide))) kb.toNatClampNeg
              have q58 : 0 ≤ ((v.1 88) kb.toNatClampNeg).toInt ∧ ((v.1 88) kb.toNatClampNeg).toInt ≤ 4000 := (show AR 88 0 4000 (wA v 0 0 0) from (AR.o a88 (by decide))) kb.toNatClampNeg
              refine cu_i (rn_V (n := 2) (As := [.int ((v.1 87) kb.toNatClampNeg), .int ((v.1 88) kb.toNatClampNeg)]) (rest := []) hx hb hml hown ht hKK hFx hP hD hS hA (c_m_isTape l dC dI cI cB cZ cJ cR tb H.size ad N (wA v 0 0 0) ((v.1 87) kb.toNatClampNeg) ((v.1 88) kb.toNatClampNeg) (show 0 ≤ (v.1 0 2).toInt ∧ (v.1 0 2).toInt ≤ 4000 from (om_c74a68af25 zta)) (show 0 ≤ ((v.1 87) kb.toNatClampNeg).toInt ∧ ((v.1 87) kb.toNatClampNeg).toInt ≤ 4000 ∧ 0 ≤ ((v.1 88) kb.toNatClampNeg).toInt ∧ ((v.1 88) kb.toNatClampNeg).toInt ≤ 4000 from (om_49a1b69e0c q57 q58))) tw_303 tw_304 (by decide +kernel) rfl rfl ⟨Nat.le_of_ble_eq_true rfl, Nat.le_of_ble_eq_true rfl⟩ (List.range (mW ad N cI cZ cJ (wA v 0 0 0)).length) (rg_map _) (mW_nd _ _ _ _ _ _) rfl rfl rfl rfl hl.1 rfl (Nat.le_of_ble_eq_true rfl) dX13_find_96 ⟨Nat.le_of_ble_eq_true rfl, Nat.le_of_ble_eq_true rfl⟩) hP hD hS hA (fun r61 u60 H locs hw59 hP hD hS => ?_)
              obtain ⟨rfl, ex59, b59, e59⟩ := hw59
              have b59 : (r61 = 0 ∨ r61 = 1) := b59
              have e59 : 0 ≤ r61.toInt ∧ r61.toInt ≤ 1 := e59
              refine W.widen (k := 0) (n := 0) (Nat.le_refl _) (Nat.le_refl _) ?_
              refine lv_if_eq (tgt := 104) hx hb dX13_find_99 (by decide) (fun h62 => ?_) (fun h62 => ?_)
              · have z63 : r61.toInt = (0 : Int) := eq_z rfl (show (0 : Int32).toInt = (0 : Int) by decide) h62
                refine lv_iinc (v := (kb + (1 : Int32))) (lv' := [(2, .int (kb + (1 : Int32))), (0, .ref (ad 0)), (1, .int pa)]) hx hb dX13_find_104 hl (k := 0) rfl (rfl) (by decide) rfl (fun ls hl => ?_)
                have z64 : (kb + (1 : Int32)).toInt = kb.toInt + (1 : Int) := add_z rfl (show (1 : Int32).toInt = (1 : Int) by decide) (om_a8944c555e f1L70) (om_b6be8c1b1f zbg f1L70)
                refine lv_goto (tgt := 70) hx hb dX13_find_107 (by decide) ?_
                exact ih70 (kb + (1 : Int32)) _ _ _ (show ((v.1 0 75).toInt - (kb + (1 : Int32)).toInt).toNat < ((v.1 0 75).toInt - kb.toInt).toNat from tn_z (om_6a7d95371f z64) (om_fe525f7549 z53)) ⟨(show 0 ≤ (kb + (1 : Int32)).toInt ∧ (kb + (1 : Int32)).toInt ≤ (v.1 0 75).toInt from (om_ca7f7afb18 f1L70 z53 z64)), (RT.st exL70 ⟨f1L70, z53, z56, r61, ex59, ⟨b59, e59⟩, z63, rfl⟩), hP, hD, hS, lv_sub hl [0, 1, 2] rfl⟩
              · have z65 : r61.toInt ≠ (0 : Int) := ne_z rfl (show (0 : Int32).toInt = (0 : Int) by decide) h62
                refine lv_iload_n hx hb dX13_find_102 rfl (lv_at hl 0 rfl) ?_
                exact W.iret (v := kb) hx hb hr (fun t ht9 hW => ⟨⟨kb, (wA v 0 0 0), rfl, ⟨(FG.f (FG.rf _) 0 (by decide)), ⟨zta, zbf, zbg, (Or.inr (⟨z25, (Or.inr (⟨z29, ka, exL29, f1L29, (Or.inr (⟨z48, z50, kb, exL70, f1L70, (Or.inr (⟨z53, z56, r61, ex59, ⟨b59, e59⟩, z65, rfl, rfl⟩))⟩))⟩))⟩))⟩⟩, by rw [ht9]; exact hP, hD⟩, hS.F ht9⟩) hS.2.2 dX13_find_103
        · have z66 : pa.toInt = (0 : Int) := eq_z rfl (show (0 : Int32).toInt = (0 : Int) by decide) h49
          exact False.elim (om_9d476c3a78 z29 z66)
theorem om_cd3b6a8dc0 {x0 : Int} : x0 = 0 ∨ x0 = x0 := by omega
theorem om_e69903e152 {n0 : Nat} (h0 : (256 : Int) ≤ (n0 : Int) ∧ (n0 : Int) ≤ 4096) : 0 ≤ (0 : Int) ∧ (0 : Int) ≤ (n0 : Int) := by omega
theorem om_554dad9f33 {x0 : Int} {n1 : Nat} (h0 : x0 = (n1 : Int)) : -2147483648 ≤ (x0) - (1 : Int) := by omega
theorem om_914e406e64 {x1 : Int} {n0 : Nat} (h0 : (256 : Int) ≤ (n0 : Int) ∧ (n0 : Int) ≤ 4096) (h1 : x1 = (n0 : Int)) : (x1) - (1 : Int) < 2147483648 := by omega
theorem om_6ead1febc6 {x1 : Int} {n0 : Nat} (h0 : (256 : Int) ≤ (n0 : Int) ∧ (n0 : Int) ≤ 4096) (h1 : x1 = (n0 : Int)) : 0 ≤ ((x1) - (1 : Int)) := by omega
theorem om_f92067bb65 {x0 : Int} {n1 : Nat} (h0 : x0 = (n1 : Int)) : ((x0) - (1 : Int)) < (n1 : Int) := by omega
theorem om_003516b98a {x0 : Int} {n1 : Nat} (h0 : x0 = (n1 : Int)) : -2147483648 ≤ (x0) - (2 : Int) := by omega
theorem om_67525a38fb {x1 : Int} {n0 : Nat} (h0 : (256 : Int) ≤ (n0 : Int) ∧ (n0 : Int) ≤ 4096) (h1 : x1 = (n0 : Int)) : (x1) - (2 : Int) < 2147483648 := by omega
theorem om_25c0440f41 {x1 : Int} {n0 : Nat} (h0 : (256 : Int) ≤ (n0 : Int) ∧ (n0 : Int) ≤ 4096) (h1 : x1 = (n0 : Int)) : 0 ≤ ((x1) - (2 : Int)) := by omega
theorem om_c74ad33f96 {x0 : Int} {n1 : Nat} (h0 : x0 = (n1 : Int)) : ((x0) - (2 : Int)) < (n1 : Int) := by omega
theorem om_29af832497 : 0 ≤ (0 : Int) ∧ (0 : Int) ≤ 32 := by omega
theorem om_41196de75d {x0 : Int} {n1 : Nat} (h0 : x0 = (n1 : Int)) : -2147483648 ≤ (4 : Int) * (x0) := by omega
theorem om_160da4e2a4 {x1 : Int} {n0 : Nat} (h0 : (256 : Int) ≤ (n0 : Int) ∧ (n0 : Int) ≤ 4096) (h1 : x1 = (n0 : Int)) : (4 : Int) * (x1) < 2147483648 := by omega
theorem om_3a637aebea {x0 : Int} {n1 : Nat} (h0 : x0 = (n1 : Int)) : -2147483648 ≤ ((4 : Int) * (x0)) - (4 : Int) := by omega
theorem om_a37c15edd2 {x1 : Int} {n0 : Nat} (h0 : (256 : Int) ≤ (n0 : Int) ∧ (n0 : Int) ≤ 4096) (h1 : x1 = (n0 : Int)) : ((4 : Int) * (x1)) - (4 : Int) < 2147483648 := by omega
theorem om_68393a50dc : 0 ≤ (5 : Int) := by omega
theorem om_4b39b5c6d2 : (5 : Int) < 32 := by omega
theorem om_0bfbe575b7 {x0 : Int} {n1 : Nat} (h0 : x0 = (n1 : Int)) : -2147483648 ≤ ((4 : Int) * (x0)) - (8 : Int) := by omega
theorem om_0921aa0a9f {x1 : Int} {n0 : Nat} (h0 : (256 : Int) ≤ (n0 : Int) ∧ (n0 : Int) ≤ 4096) (h1 : x1 = (n0 : Int)) : ((4 : Int) * (x1)) - (8 : Int) < 2147483648 := by omega
theorem om_2bd1a2e1b3 : 0 ≤ (2 : Int) := by omega
theorem om_47b9053043 : (2 : Int) < 32 := by omega
theorem om_ba3af93d7d {x0 : Int} : (0 : Int) = 0 ∨ (0 : Int) = x0 := by omega
theorem om_9a3e9ac9d4 {x0 : Int} (h0 : 0 ≤ x0 ∧ x0 ≤ 32) : 0 ≤ x0 := by omega
theorem om_93bf70215e {x0 : Int} (h0 : x0 < (32 : Int)) : x0 < 32 := by omega
theorem om_34003ee528 {x0 : Int} (h0 : 0 ≤ x0 ∧ x0 ≤ 32) : -2147483648 ≤ x0 + (1 : Int) := by omega
theorem om_e3462c9acc {x0 : Int} (h0 : x0 < (32 : Int)) : x0 + (1 : Int) < 2147483648 := by omega
theorem om_e8a91f5c82 {x0 x1 : Int} (h0 : 0 ≤ x0 ∧ x0 ≤ 32) (h1 : x0 < (32 : Int)) (h2 : x1 = x0 + (1 : Int)) : 0 ≤ x1 ∧ x1 ≤ 32 := by omega
theorem om_136be6f9b9 {x0 x1 : Int} (h0 : x0 = x1 + (1 : Int)) : 32 - x0 < 32 - x1 := by omega
theorem om_e988eed439 {x0 : Int} (h0 : x0 < (32 : Int)) : 0 < 32 - x0 := by omega
theorem om_888b7462be {x0 : Int} {n1 : Nat} (h0 : 0 ≤ x0 ∧ x0 ≤ (n1 : Int)) : 0 ≤ x0 := by omega
theorem om_267f7d2370 {x0 x2 : Int} {n1 : Nat} (h0 : x0 = (n1 : Int)) (h1 : x2 < x0) : x2 < (n1 : Int) := by omega
theorem om_b884f6214f {x0 : Int} {n1 : Nat} (h0 : 0 ≤ x0 ∧ x0 ≤ (n1 : Int)) : -2147483648 ≤ x0 + (1 : Int) := by omega
theorem om_0b009b12b6 {x1 : Int} {n0 : Nat} (h0 : (256 : Int) ≤ (n0 : Int) ∧ (n0 : Int) ≤ 4096) (h1 : 0 ≤ x1 ∧ x1 ≤ (n0 : Int)) : x1 + (1 : Int) < 2147483648 := by omega
theorem om_9f53abd9c9 {x0 x2 x3 : Int} {n1 : Nat} (h0 : x0 = (n1 : Int)) (h1 : 0 ≤ x2 ∧ x2 ≤ (n1 : Int)) (h2 : x2 < x0) (h3 : x3 = x2 + (1 : Int)) : 0 ≤ x3 ∧ x3 ≤ (n1 : Int) := by omega
theorem om_68fd1d42e2 {x0 x1 : Int} {n2 : Nat} (h0 : x0 = x1 + (1 : Int)) : (n2 : Int) - x0 < (n2 : Int) - x1 := by omega
theorem om_b6d126698a {x0 x2 : Int} {n1 : Nat} (h0 : x0 = (n1 : Int)) (h1 : x2 < x0) : 0 < (n1 : Int) - x2 := by omega
theorem om_15dcafbe6a {x1 : Int} {n0 : Nat} (h0 : (256 : Int) ≤ (n0 : Int) ∧ (n0 : Int) ≤ 4096) (h1 : 0 ≤ x1 ∧ x1 ≤ (n0 : Int)) : x1 < 24000 := by omega
set_option maxHeartbeats 4000000 in
set_option maxRecDepth 100000 in
theorem c_m_start (l : Launch) (dC : Nat → ClassId) (dI : Nat → Nat → Nat) (cI cB cZ cJ cR : ClassId) (tb : Nat → Nat) (sz : Nat) (ad : Nat → Nat) (N : Nat) (v : MS) (pa : Int32) (pb : Int32) (pc1 : Int32) (zN : (256 : Int) ≤ (N : Int) ∧ (N : Int) ≤ 4096) (zbf : 0 ≤ (v.1 0 74).toInt ∧ (v.1 0 74).toInt ≤ 40) (zbw : 0 ≤ (v.1 0 73).toInt ∧ (v.1 0 73).toInt ≤ 24000) : Met l yX13_start (Cond.code yX13_start cX13_start 6 (some .boolean) :: tw_W) ({ frames := 0, cells := 0, slots := 0, locals := 0 }) (pc_ (dC, dI) (tyS cI cB cZ cJ cR) tb (mW ad N cI cZ cJ v) sz [.ref (ad 0), .int pa, .int pb, .int pc1]) (qi_ (dC, dI) (mW ad N cI cZ cJ v) sz (fun (r : Int32) (u : MS) => FG [0, 95, 98, 99, 100, 102] [0, 96, 97] v u ∧ (Q_m_start v pa pb pc1 N r u) ∧ ((u.1 0 95).toInt = 0 ∨ (u.1 0 95).toInt = (v.1 0 95).toInt) ∧ ((u.1 0 102).toInt = 0 ∨ (u.1 0 102).toInt = (v.1 0 102).toInt)) (fun (u : MS) => (mW ad N cI cZ cJ u))) 0 0 (va_A (mW ad N cI cZ cJ v) sz) := by
  refine Met.ofW (cc := cX13_start) (maxL := 6) (ret := (some .boolean)) (by decide) rfl ?_
  intro p e s m args below meth c s₁ B hml hv
  obtain ⟨rfl, hsz, hP, hKK, hD0, hFx⟩ := hv
  have hK := hKK.1
  have hx := B.exec
  have hb := B.bytes
  have hr := B.returns
  have ht : ∀ w ∈ tw_W, w.before _ s = true := fun w h => atoms_spec (ws := Cond.code yX13_start cX13_start 6 (some .boolean) :: tw_W) B.pre w (List.mem_cons_of_mem _ h)
  have hown : s.vm.findClass RX13 = some m.cls := findClass_of_methodNamed B.named
  have hlocks := B.notSynchronized
  subst hsz
  unfold qi_
  have hD := hD0.self (sz := s.heap.size)
  generalize hAe : va_A (mW ad N cI cZ cJ v) s.heap.size = A at hD hFx ⊢
  have hA : ∀ q : Nat, s.heap.size ≤ q → A q := fun q h => by rw [← hAe]; exact Or.inr h
  have hS : va_S A s.heap s.heap [] := va_S.rf
  have hl := lv_entry ([.ref (ad 0), .int pa, .int pb, .int pc1]) (n := 6) (Nat.le_of_ble_eq_true rfl)
  rw [lg_entry_eq]
  generalize (lg_sl ([.ref (ad 0), .int pa, .int pb, .int pc1]) ++ List.replicate (6 - (lg_sl ([.ref (ad 0), .int pa, .int pb, .int pc1])).length) Slot.unset).toArray = ls at hl ⊢
  have hl : lv_has ls 6 [(0, .ref (ad 0)), (1, .int pa), (2, .int pb), (3, .int pc1)] := hl
  refine lv_aload_n hx hb dX13_start_0 rfl (lv_at hl 0 rfl) ?_
  refine lv_iconst (v := 0) hx hb dX13_start_1 (by decide) ?_
  refine va_put (D := (dC, dI)) (ci := 16) (fs := mF ad v) (v := .int 0) (ty := .int) (C := RX13) (T := TX13) (N := 124) hx hb ht itX13 tyX13 tyX13_ok nmX13 hown hK hP hD hS 0 rfl rfl 0 (by decide) (ht _ tw_246) (fun _ h9 => h9) rfl (by decide +kernel) rfl rfl (Nat.le_of_ble_eq_true rfl) dX13_start_2 (fun H locs hP hD hS => ?_)
  have hP := cP_ (mw_0 ad N cI cZ cJ v 0) hP
  have hD := cD_ (mw_0 ad N cI cZ cJ v 0) hD
  refine lv_iload_n hx hb dX13_start_5 rfl (lv_at hl 1 rfl) ?_
  refine lv_if_lt (tgt := 27) hx hb dX13_start_6 (by decide) (fun h1 => ?_) (fun h1 => ?_)
  · have z2 : pa.toInt < (0 : Int) := lt_z rfl (show (0 : Int32).toInt = (0 : Int) by decide) h1
    refine lv_iconst (v := 0) hx hb dX13_start_27 (by decide) ?_
    exact W.zret (v := 0) hx hb hr rfl (fun t ht9 hW => ⟨⟨0, (wA v 0 0 0), rfl, ⟨(FG.f (FG.rf _) 0 (by decide)), ⟨zbf, zbw, (Or.inl ⟨z2, rfl, rfl⟩)⟩, (show (v.1 0 95).toInt = 0 ∨ (v.1 0 95).toInt = (v.1 0 95).toInt from om_cd3b6a8dc0), (show (v.1 0 102).toInt = 0 ∨ (v.1 0 102).toInt = (v.1 0 102).toInt from om_cd3b6a8dc0)⟩, by rw [ht9]; exact hP, hD⟩, hS.F ht9⟩) hS.2.2 dX13_start_28
  · have z3 : (0 : Int) ≤ pa.toInt := nlt_z rfl (show (0 : Int32).toInt = (0 : Int) by decide) h1
    refine lv_iload_n hx hb dX13_start_9 rfl (lv_at hl 1 rfl) ?_
    refine lv_aload_n hx hb dX13_start_10 rfl (lv_at hl 0 rfl) ?_
    refine va_get (D := (dC, dI)) (ci := 16) (fs := mF ad (wA v 0 0 0)) (v := .int (v.1 0 74)) (C := RX13) (T := TX13) (N := 124) hx hb ht itX13 hown hK hP 0 rfl rfl 74 (by decide) (ht _ tw_258) (fun _ h9 => h9) rfl dX13_start_11 ?_
    refine lv_icmp_ge (tgt := 27) hx hb dX13_start_14 (by decide) (fun h4 => ?_) (fun h4 => ?_)
    · have z5 : (v.1 0 74).toInt ≤ pa.toInt := le_z rfl rfl h4
      refine lv_iconst (v := 0) hx hb dX13_start_27 (by decide) ?_
      exact W.zret (v := 0) hx hb hr rfl (fun t ht9 hW => ⟨⟨0, (wA v 0 0 0), rfl, ⟨(FG.f (FG.rf _) 0 (by decide)), ⟨zbf, zbw, (Or.inr (⟨z3, (Or.inl ⟨z5, rfl, rfl⟩)⟩))⟩, (show (v.1 0 95).toInt = 0 ∨ (v.1 0 95).toInt = (v.1 0 95).toInt from om_cd3b6a8dc0), (show (v.1 0 102).toInt = 0 ∨ (v.1 0 102).toInt = (v.1 0 102).toInt from om_cd3b6a8dc0)⟩, by rw [ht9]; exact hP, hD⟩, hS.F ht9⟩) hS.2.2 dX13_start_28
    · have z6 : pa.toInt < (v.1 0 74).toInt := nle_z rfl rfl h4
      refine lv_aload_n hx hb dX13_start_17 rfl (lv_at hl 0 rfl) ?_
      refine va_get (D := (dC, dI)) (ci := 16) (fs := mF ad (wA v 0 0 0)) (v := .ref (ad 78)) (C := RX13) (T := TX13) (N := 124) hx hb ht itX13 hown hK hP 0 rfl rfl 78 (by decide) (ht _ tw_262) (fun _ h9 => h9) rfl dX13_start_18 ?_
      refine lv_iload_n hx hb dX13_start_21 rfl (lv_at hl 1 rfl) ?_
      refine va_iald (D := (dC, dI)) (f := (v.1 78)) hx hb hK hP 38 0 rfl rfl (in_y (a := pa.toInt) (b := 40) rfl (om_51058f7f87 z3) (om_f1d398b2a9 zbf z6) rfl) dX13_start_22 ?_
      refine lv_iconst (v := 2) hx hb dX13_start_23 (by decide) ?_
      refine lv_icmp_le (tgt := 29) hx hb dX13_start_24 (by decide) (fun h7 => ?_) (fun h7 => ?_)
      · have z8 : ((v.1 78) pa.toNatClampNeg).toInt ≤ (2 : Int) := le_z rfl (show (2 : Int32).toInt = (2 : Int) by decide) h7
        refine lv_aload_n hx hb dX13_start_29 rfl (lv_at hl 0 rfl) ?_
        refine va_get (D := (dC, dI)) (ci := 16) (fs := mF ad (wA v 0 0 0)) (v := .ref (ad 96)) (C := RX13) (T := TX13) (N := 124) hx hb ht itX13 hown hK hP 0 rfl rfl 96 (by decide) (ht _ tw_207) (fun _ h9 => h9) rfl dX13_start_30 ?_
        refine va_alen (D := (dC, dI)) (v := (nI N)) hx hb hK hP 52 0 rfl rfl rfl dX13_start_33 ?_
        have zN9 : (nI N).toInt = (N : Int) := nI_N (by have := (om_a85b825e17 zN); omega)
        refine lv_istore (lv' := [(4, .int (nI N)), (0, .ref (ad 0)), (1, .int pa), (2, .int pb), (3, .int pc1)]) hx hb dX13_start_34 hl (by decide) rfl (fun ls hl => ?_)
        refine lv_iconst (v := 0) hx hb dX13_start_36 (by decide) ?_
        refine lv_istore (lv' := [(5, .int 0), (4, .int (nI N)), (0, .ref (ad 0)), (1, .int pa), (2, .int pb), (3, .int pc1)]) hx hb dX13_start_37 hl (by decide) rfl (fun ls hl => ?_)
        refine lpm_ (X := Int32 × MS) (P := (fun (x9 : Int32 × MS) (H : Heap) (locs : List Loc) (ls : Array Slot) => (FG [] [96] (wA v 0 0 0) x9.2) ∧ (0 ≤ x9.1.toInt ∧ x9.1.toInt ≤ (N : Int)) ∧ (RT (Q_m_start_L0 N v) (0, (wA v 0 0 0)) (x9.1, x9.2)) ∧ va_P (dC, dI) vwCl (mW ad N cI cZ cJ x9.2) H ∧ va_D A (mW ad N cI cZ cJ x9.2) ∧ va_S A s.heap H locs ∧ lv_has ls 6 [(5, .int x9.1), (4, .int (nI N)), (0, .ref (ad 0)), (1, .int pa), (2, .int pb), (3, .int pc1)])) (fun x9 => ((N : Int) - x9.1.toInt).toNat) 39 (fun x9 H locs ls hh ih39 => ?_) (0, (wA v 0 0 0)) _ _ _ ⟨(show FG [] [96] (wA v 0 0 0) (wA v 0 0 0) from (FG.rf _)), (show 0 ≤ (0 : Int) ∧ (0 : Int) ≤ (N : Int) from (om_e69903e152 zN)), RT.rf, hP, hD, hS, lv_sub hl [0, 1, 2, 3, 4, 5] rfl⟩
        obtain ⟨ka, w39⟩ := x9
        obtain ⟨fwL39, e1L39, exL39, hP, hD, hS, hl⟩ := hh
        have fwL39 : FG [] [96] (wA v 0 0 0) w39 := fwL39
        have e1L39 : 0 ≤ ka.toInt ∧ ka.toInt ≤ (N : Int) := e1L39
        have hP : va_P (dC, dI) vwCl (mW ad N cI cZ cJ w39) H := hP
        have hD : va_D A (mW ad N cI cZ cJ w39) := hD
        have hl : lv_has ls 6 [(5, .int ka), (4, .int (nI N)), (0, .ref (ad 0)), (1, .int pa), (2, .int pb), (3, .int pc1)] := hl
        refine lv_iload hx hb dX13_start_39 (lv_at hl 0 rfl) ?_
        refine lv_iload hx hb dX13_start_41 (lv_at hl 1 rfl) ?_
        refine lv_icmp_ge (tgt := 79) hx hb dX13_start_43 (by decide) (fun h10 => ?_) (fun h10 => ?_)
        · have z11 : (nI N).toInt ≤ ka.toInt := le_z rfl rfl h10
          refine lv_aload_n hx hb dX13_start_79 rfl (lv_at hl 2 rfl) ?_
          refine va_get (D := (dC, dI)) (ci := 16) (fs := mF ad w39) (v := .ref (ad 96)) (C := RX13) (T := TX13) (N := 124) hx hb ht itX13 hown hK hP 0 rfl rfl 96 (by decide) (ht _ tw_207) (fun _ h9 => h9) rfl dX13_start_80 ?_
          refine lv_iload hx hb dX13_start_83 (lv_at hl 1 rfl) ?_
          refine lv_iconst (v := 1) hx hb dX13_start_85 (by decide) ?_
          refine lv_isub hx hb dX13_start_86 ?_
          have z12 : ((nI N) - (1 : Int32)).toInt = ((nI N).toInt) - (1 : Int) := sub_z rfl (show (1 : Int32).toInt = (1 : Int) by decide) (om_554dad9f33 zN9) (om_914e406e64 zN zN9)
          refine lv_iload_n hx hb dX13_start_87 rfl (lv_at hl 4 rfl) ?_
          refine va_iast (D := (dC, dI)) (f := (w39.1 96)) hx hb hK hP hD hS 52 0 rfl rfl (in_y (a := (((nI N).toInt) - (1 : Int))) (b := (N : Int)) z12 (om_6ead1febc6 zN zN9) (om_f92067bb65 zN9) rfl) dX13_start_88 (fun H locs hP hD hS => ?_)
          have hP := cP_ (ma_96 ad N cI cZ cJ w39 (((nI N) - (1 : Int32)).toNatClampNeg) pb) hP
          have hD := cD_ (ma_96 ad N cI cZ cJ w39 (((nI N) - (1 : Int32)).toNatClampNeg) pb) hD
          refine lv_aload_n hx hb dX13_start_89 rfl (lv_at hl 2 rfl) ?_
          refine va_get (D := (dC, dI)) (ci := 16) (fs := mF ad (wA w39 96 (((nI N) - (1 : Int32)).toNatClampNeg) pb)) (v := .ref (ad 96)) (C := RX13) (T := TX13) (N := 124) hx hb ht itX13 hown hK hP 0 rfl rfl 96 (by decide) (ht _ tw_207) (fun _ h9 => h9) rfl dX13_start_90 ?_
          refine lv_iload hx hb dX13_start_93 (lv_at hl 1 rfl) ?_
          refine lv_iconst (v := 2) hx hb dX13_start_95 (by decide) ?_
          refine lv_isub hx hb dX13_start_96 ?_
          have z13 : ((nI N) - (2 : Int32)).toInt = ((nI N).toInt) - (2 : Int) := sub_z rfl (show (2 : Int32).toInt = (2 : Int) by decide) (om_003516b98a zN9) (om_67525a38fb zN zN9)
          refine lv_iload_n hx hb dX13_start_97 rfl (lv_at hl 5 rfl) ?_
          refine va_iast (D := (dC, dI)) (f := (upd (w39.1 96) (((nI N) - (1 : Int32)).toNatClampNeg) pb)) hx hb hK hP hD hS 52 0 rfl rfl (in_y (a := (((nI N).toInt) - (2 : Int))) (b := (N : Int)) z13 (om_25c0440f41 zN zN9) (om_c74ad33f96 zN9) rfl) dX13_start_98 (fun H locs hP hD hS => ?_)
          have hP := cP_ (ma_96 ad N cI cZ cJ (wA w39 96 (((nI N) - (1 : Int32)).toNatClampNeg) pb) (((nI N) - (2 : Int32)).toNatClampNeg) pc1) hP
          have hD := cD_ (ma_96 ad N cI cZ cJ (wA w39 96 (((nI N) - (1 : Int32)).toNatClampNeg) pb) (((nI N) - (2 : Int32)).toNatClampNeg) pc1) hD
          refine lv_iconst (v := 0) hx hb dX13_start_99 (by decide) ?_
          refine lv_istore (lv' := [(5, .int 0), (4, .int (nI N)), (0, .ref (ad 0)), (1, .int pa), (2, .int pb), (3, .int pc1)]) hx hb dX13_start_100 hl (by decide) rfl (fun ls hl => ?_)
          refine lpm_ (X := Int32 × MS) (P := (fun (x9 : Int32 × MS) (H : Heap) (locs : List Loc) (ls : Array Slot) => (FG [] [97] (wA (wA w39 96 (((nI N) - (1 : Int32)).toNatClampNeg) pb) 96 (((nI N) - (2 : Int32)).toNatClampNeg) pc1) x9.2) ∧ (0 ≤ x9.1.toInt ∧ x9.1.toInt ≤ 32) ∧ (RT (Q_m_start_L1) (0, (wA (wA w39 96 (((nI N) - (1 : Int32)).toNatClampNeg) pb) 96 (((nI N) - (2 : Int32)).toNatClampNeg) pc1)) (x9.1, x9.2)) ∧ va_P (dC, dI) vwCl (mW ad N cI cZ cJ x9.2) H ∧ va_D A (mW ad N cI cZ cJ x9.2) ∧ va_S A s.heap H locs ∧ lv_has ls 6 [(5, .int x9.1), (4, .int (nI N)), (0, .ref (ad 0)), (1, .int pa), (2, .int pb), (3, .int pc1)])) (fun x9 => (32 - x9.1.toInt).toNat) 102 (fun x9 H locs ls hh ih102 => ?_) (0, (wA (wA w39 96 (((nI N) - (1 : Int32)).toNatClampNeg) pb) 96 (((nI N) - (2 : Int32)).toNatClampNeg) pc1)) _ _ _ ⟨(show FG [] [97] (wA (wA w39 96 (((nI N) - (1 : Int32)).toNatClampNeg) pb) 96 (((nI N) - (2 : Int32)).toNatClampNeg) pc1) (wA (wA w39 96 (((nI N) - (1 : Int32)).toNatClampNeg) pb) 96 (((nI N) - (2 : Int32)).toNatClampNeg) pc1) from (FG.rf _)), (show 0 ≤ (0 : Int) ∧ (0 : Int) ≤ 32 from om_29af832497), RT.rf, hP, hD, hS, lv_sub hl [0, 1, 2, 3, 4, 5] rfl⟩
          obtain ⟨kb, w102⟩ := x9
          obtain ⟨fwL102, e1L102, exL102, hP, hD, hS, hl⟩ := hh
          have fwL102 : FG [] [97] (wA (wA w39 96 (((nI N) - (1 : Int32)).toNatClampNeg) pb) 96 (((nI N) - (2 : Int32)).toNatClampNeg) pc1) w102 := fwL102
          have e1L102 : 0 ≤ kb.toInt ∧ kb.toInt ≤ 32 := e1L102
          have hP : va_P (dC, dI) vwCl (mW ad N cI cZ cJ w102) H := hP
          have hD : va_D A (mW ad N cI cZ cJ w102) := hD
          have hl : lv_has ls 6 [(5, .int kb), (4, .int (nI N)), (0, .ref (ad 0)), (1, .int pa), (2, .int pb), (3, .int pc1)] := hl
          refine lv_iload hx hb dX13_start_102 (lv_at hl 0 rfl) ?_
          refine lv_bipush (v := 32) hx hb dX13_start_104 (by decide) ?_
          refine lv_icmp_ge (tgt := 123) hx hb dX13_start_106 (by decide) (fun h14 => ?_) (fun h14 => ?_)
          · have z15 : (32 : Int) ≤ kb.toInt := le_z (show (32 : Int32).toInt = (32 : Int) by decide) rfl h14
            refine lv_aload_n hx hb dX13_start_123 rfl (lv_at hl 2 rfl) ?_
            refine va_get (D := (dC, dI)) (ci := 16) (fs := mF ad w102) (v := .ref (ad 97)) (C := RX13) (T := TX13) (N := 124) hx hb ht itX13 hown hK hP 0 rfl rfl 97 (by decide) (ht _ tw_209) (fun _ h9 => h9) rfl dX13_start_124 ?_
            refine lv_iconst (v := 5) hx hb dX13_start_127 (by decide) ?_
            refine lv_iconst (v := 4) hx hb dX13_start_128 (by decide) ?_
            refine lv_iload hx hb dX13_start_129 (lv_at hl 1 rfl) ?_
            refine lv_imul hx hb dX13_start_131 ?_
            have z16 : ((4 : Int32) * (nI N)).toInt = (4 : Int) * ((nI N).toInt) := mul_z (show (4 : Int32).toInt = (4 : Int) by decide) rfl (om_41196de75d zN9) (om_160da4e2a4 zN zN9)
            refine lv_iconst (v := 4) hx hb dX13_start_132 (by decide) ?_
            refine lv_isub hx hb dX13_start_133 ?_
            have z17 : (((4 : Int32) * (nI N)) - (4 : Int32)).toInt = ((4 : Int) * ((nI N).toInt)) - (4 : Int) := sub_z z16 (show (4 : Int32).toInt = (4 : Int) by decide) (om_3a637aebea zN9) (om_a37c15edd2 zN zN9)
            refine va_iast (D := (dC, dI)) (f := (w102.1 97)) hx hb hK hP hD hS 53 0 rfl rfl (in_y (a := (5 : Int)) (b := 32) (show (5 : Int32).toInt = (5 : Int) by decide) om_68393a50dc om_4b39b5c6d2 rfl) dX13_start_134 (fun H locs hP hD hS => ?_)
            have hP := cP_ (ma_97 ad N cI cZ cJ w102 5 (((4 : Int32) * (nI N)) - (4 : Int32))) hP
            have hD := cD_ (ma_97 ad N cI cZ cJ w102 5 (((4 : Int32) * (nI N)) - (4 : Int32))) hD
            refine lv_aload_n hx hb dX13_start_135 rfl (lv_at hl 2 rfl) ?_
            refine va_get (D := (dC, dI)) (ci := 16) (fs := mF ad (wA w102 97 5 (((4 : Int32) * (nI N)) - (4 : Int32)))) (v := .ref (ad 97)) (C := RX13) (T := TX13) (N := 124) hx hb ht itX13 hown hK hP 0 rfl rfl 97 (by decide) (ht _ tw_209) (fun _ h9 => h9) rfl dX13_start_136 ?_
            refine lv_iconst (v := 2) hx hb dX13_start_139 (by decide) ?_
            refine lv_iconst (v := 4) hx hb dX13_start_140 (by decide) ?_
            refine lv_iload hx hb dX13_start_141 (lv_at hl 1 rfl) ?_
            refine lv_imul hx hb dX13_start_143 ?_
            have z18 : ((4 : Int32) * (nI N)).toInt = (4 : Int) * ((nI N).toInt) := mul_z (show (4 : Int32).toInt = (4 : Int) by decide) rfl (om_41196de75d zN9) (om_160da4e2a4 zN zN9)
            refine lv_bipush (v := 8) hx hb dX13_start_144 (by decide) ?_
            refine lv_isub hx hb dX13_start_146 ?_
            have z19 : (((4 : Int32) * (nI N)) - (8 : Int32)).toInt = ((4 : Int) * ((nI N).toInt)) - (8 : Int) := sub_z z18 (show (8 : Int32).toInt = (8 : Int) by decide) (om_0bfbe575b7 zN9) (om_0921aa0a9f zN zN9)
            refine va_iast (D := (dC, dI)) (f := (upd (w102.1 97) 5 (((4 : Int32) * (nI N)) - (4 : Int32)))) hx hb hK hP hD hS 53 0 rfl rfl (in_y (a := (2 : Int)) (b := 32) (show (2 : Int32).toInt = (2 : Int) by decide) om_2bd1a2e1b3 om_47b9053043 rfl) dX13_start_147 (fun H locs hP hD hS => ?_)
            have hP := cP_ (ma_97 ad N cI cZ cJ (wA w102 97 5 (((4 : Int32) * (nI N)) - (4 : Int32))) 2 (((4 : Int32) * (nI N)) - (8 : Int32))) hP
            have hD := cD_ (ma_97 ad N cI cZ cJ (wA w102 97 5 (((4 : Int32) * (nI N)) - (4 : Int32))) 2 (((4 : Int32) * (nI N)) - (8 : Int32))) hD
            refine lv_aload_n hx hb dX13_start_148 rfl (lv_at hl 2 rfl) ?_
            refine lv_aload_n hx hb dX13_start_149 rfl (lv_at hl 2 rfl) ?_
            refine va_get (D := (dC, dI)) (ci := 16) (fs := mF ad (wA (wA w102 97 5 (((4 : Int32) * (nI N)) - (4 : Int32))) 97 2 (((4 : Int32) * (nI N)) - (8 : Int32)))) (v := .ref (ad 80)) (C := RX13) (T := TX13) (N := 124) hx hb ht itX13 hown hK hP 0 rfl rfl 80 (by decide) (ht _ tw_261) (fun _ h9 => h9) rfl dX13_start_150 ?_
            refine lv_iload_n hx hb dX13_start_153 rfl (lv_at hl 3 rfl) ?_
            refine va_iald (D := (dC, dI)) (f := (w102.1 80)) hx hb hK hP 40 0 rfl rfl (in_y (a := pa.toInt) (b := 40) rfl (om_51058f7f87 z3) (om_f1d398b2a9 zbf z6) rfl) dX13_start_154 ?_
            refine va_put (D := (dC, dI)) (ci := 16) (fs := mF ad (wA (wA w102 97 5 (((4 : Int32) * (nI N)) - (4 : Int32))) 97 2 (((4 : Int32) * (nI N)) - (8 : Int32)))) (v := .int ((w102.1 80) pa.toNatClampNeg)) (ty := .int) (C := RX13) (T := TX13) (N := 124) hx hb ht itX13 tyX13 tyX13_ok nmX13 hown hK hP hD hS 0 rfl rfl 98 (by decide) (ht _ tw_208) (fun _ h9 => h9) rfl (by decide +kernel) rfl rfl (Nat.le_of_ble_eq_true rfl) dX13_start_155 (fun H locs hP hD hS => ?_)
            have hP := cP_ (mw_98 ad N cI cZ cJ (wA (wA w102 97 5 (((4 : Int32) * (nI N)) - (4 : Int32))) 97 2 (((4 : Int32) * (nI N)) - (8 : Int32))) ((w102.1 80) pa.toNatClampNeg)) hP
            have hD := cD_ (mw_98 ad N cI cZ cJ (wA (wA w102 97 5 (((4 : Int32) * (nI N)) - (4 : Int32))) 97 2 (((4 : Int32) * (nI N)) - (8 : Int32))) ((w102.1 80) pa.toNatClampNeg)) hD
            refine lv_aload_n hx hb dX13_start_158 rfl (lv_at hl 2 rfl) ?_
            refine lv_iconst (v := 0) hx hb dX13_start_159 (by decide) ?_
            refine va_put (D := (dC, dI)) (ci := 16) (fs := mF ad (wA (wA (wA w102 97 5 (((4 : Int32) * (nI N)) - (4 : Int32))) 97 2 (((4 : Int32) * (nI N)) - (8 : Int32))) 0 98 ((w102.1 80) pa.toNatClampNeg))) (v := .int 0) (ty := .int) (C := RX13) (T := TX13) (N := 124) hx hb ht itX13 tyX13 tyX13_ok nmX13 hown hK hP hD hS 0 rfl rfl 99 (by decide) (ht _ tw_210) (fun _ h9 => h9) rfl (by decide +kernel) rfl rfl (Nat.le_of_ble_eq_true rfl) dX13_start_160 (fun H locs hP hD hS => ?_)
            have hP := cP_ (mw_99 ad N cI cZ cJ (wA (wA (wA w102 97 5 (((4 : Int32) * (nI N)) - (4 : Int32))) 97 2 (((4 : Int32) * (nI N)) - (8 : Int32))) 0 98 ((w102.1 80) pa.toNatClampNeg)) 0) hP
            have hD := cD_ (mw_99 ad N cI cZ cJ (wA (wA (wA w102 97 5 (((4 : Int32) * (nI N)) - (4 : Int32))) 97 2 (((4 : Int32) * (nI N)) - (8 : Int32))) 0 98 ((w102.1 80) pa.toNatClampNeg)) 0) hD
            refine lv_aload_n hx hb dX13_start_163 rfl (lv_at hl 2 rfl) ?_
            refine lv_iconst (v := 0) hx hb dX13_start_164 (by decide) ?_
            refine va_put (D := (dC, dI)) (ci := 16) (fs := mF ad (wA (wA (wA (wA w102 97 5 (((4 : Int32) * (nI N)) - (4 : Int32))) 97 2 (((4 : Int32) * (nI N)) - (8 : Int32))) 0 98 ((w102.1 80) pa.toNatClampNeg)) 0 99 0)) (v := .int 0) (ty := .int) (C := RX13) (T := TX13) (N := 124) hx hb ht itX13 tyX13 tyX13_ok nmX13 hown hK hP hD hS 0 rfl rfl 100 (by decide) (ht _ tw_229) (fun _ h9 => h9) rfl (by decide +kernel) rfl rfl (Nat.le_of_ble_eq_true rfl) dX13_start_165 (fun H locs hP hD hS => ?_)
            have hP := cP_ (mw_100 ad N cI cZ cJ (wA (wA (wA (wA w102 97 5 (((4 : Int32) * (nI N)) - (4 : Int32))) 97 2 (((4 : Int32) * (nI N)) - (8 : Int32))) 0 98 ((w102.1 80) pa.toNatClampNeg)) 0 99 0) 0) hP
            have hD := cD_ (mw_100 ad N cI cZ cJ (wA (wA (wA (wA w102 97 5 (((4 : Int32) * (nI N)) - (4 : Int32))) 97 2 (((4 : Int32) * (nI N)) - (8 : Int32))) 0 98 ((w102.1 80) pa.toNatClampNeg)) 0 99 0) 0) hD
            refine lv_aload_n hx hb dX13_start_168 rfl (lv_at hl 2 rfl) ?_
            refine lv_iconst (v := 0) hx hb dX13_start_169 (by decide) ?_
            refine va_put (D := (dC, dI)) (ci := 16) (fs := mF ad (wA (wA (wA (wA (wA w102 97 5 (((4 : Int32) * (nI N)) - (4 : Int32))) 97 2 (((4 : Int32) * (nI N)) - (8 : Int32))) 0 98 ((w102.1 80) pa.toNatClampNeg)) 0 99 0) 0 100 0)) (v := .int 0) (ty := .int) (C := RX13) (T := TX13) (N := 124) hx hb ht itX13 tyX13 tyX13_ok nmX13 hown hK hP hD hS 0 rfl rfl 102 (by decide) (ht _ tw_227) (fun _ h9 => h9) rfl (by decide +kernel) rfl rfl (Nat.le_of_ble_eq_true rfl) dX13_start_170 (fun H locs hP hD hS => ?_)
            have hP := cP_ (mw_102 ad N cI cZ cJ (wA (wA (wA (wA (wA w102 97 5 (((4 : Int32) * (nI N)) - (4 : Int32))) 97 2 (((4 : Int32) * (nI N)) - (8 : Int32))) 0 98 ((w102.1 80) pa.toNatClampNeg)) 0 99 0) 0 100 0) 0) hP
            have hD := cD_ (mw_102 ad N cI cZ cJ (wA (wA (wA (wA (wA w102 97 5 (((4 : Int32) * (nI N)) - (4 : Int32))) 97 2 (((4 : Int32) * (nI N)) - (8 : Int32))) 0 98 ((w102.1 80) pa.toNatClampNeg)) 0 99 0) 0 100 0) 0) hD
            refine lv_aload_n hx hb dX13_start_173 rfl (lv_at hl 2 rfl) ?_
            refine lv_iconst (v := 0) hx hb dX13_start_174 (by decide) ?_
            refine va_put (D := (dC, dI)) (ci := 16) (fs := mF ad (wA (wA (wA (wA (wA (wA w102 97 5 (((4 : Int32) * (nI N)) - (4 : Int32))) 97 2 (((4 : Int32) * (nI N)) - (8 : Int32))) 0 98 ((w102.1 80) pa.toNatClampNeg)) 0 99 0) 0 100 0) 0 102 0)) (v := .int 0) (ty := .int) (C := RX13) (T := TX13) (N := 124) hx hb ht itX13 tyX13 tyX13_ok nmX13 hown hK hP hD hS 0 rfl rfl 95 (by decide) (ht _ tw_224) (fun _ h9 => h9) rfl (by decide +kernel) rfl rfl (Nat.le_of_ble_eq_true rfl) dX13_start_175 (fun H locs hP hD hS => ?_)
            have hP := cP_ (mw_95 ad N cI cZ cJ (wA (wA (wA (wA (wA (wA w102 97 5 (((4 : Int32) * (nI N)) - (4 : Int32))) 97 2 (((4 : Int32) * (nI N)) - (8 : Int32))) 0 98 ((w102.1 80) pa.toNatClampNeg)) 0 99 0) 0 100 0) 0 102 0) 0) hP
            have hD := cD_ (mw_95 ad N cI cZ cJ (wA (wA (wA (wA (wA (wA w102 97 5 (((4 : Int32) * (nI N)) - (4 : Int32))) 97 2 (((4 : Int32) * (nI N)) - (8 : Int32))) 0 98 ((w102.1 80) pa.toNatClampNeg)) 0 99 0) 0 100 0) 0 102 0) 0) hD
            refine lv_iconst (v := 1) hx hb dX13_start_178 (by decide) ?_
            exact W.zret (v := 1) hx hb hr rfl (fun t ht9 hW => ⟨⟨1, (wA (wA (wA (wA (wA (wA (wA w102 97 5 (((4 : Int32) * (nI N)) - (4 : Int32))) 97 2 (((4 : Int32) * (nI N)) - (8 : Int32))) 0 98 ((w102.1 80) pa.toNatClampNeg)) 0 99 0) 0 100 0) 0 102 0) 0 95 0), rfl, ⟨(FG.f (FG.f (FG.f (FG.f (FG.f (FG.a (FG.a (FG.tr (FG.a (FG.a (FG.tr (FG.f (FG.rf _) 0 (by decide)) (FG.up fwL39 (by decide) (by decide))) (((nI N) - (1 : Int32)).toNatClampNeg) pb (by decide) (by decide)) (((nI N) - (2 : Int32)).toNatClampNeg) pc1 (by decide) (by decide)) (FG.up fwL102 (by decide) (by decide))) 5 (((4 : Int32) * (nI N)) - (4 : Int32)) (by decide) (by decide)) 2 (((4 : Int32) * (nI N)) - (8 : Int32)) (by decide) (by decide)) ((w102.1 80) pa.toNatClampNeg) (by decide)) 0 (by decide)) 0 (by decide)) 0 (by decide)) 0 (by decide)), ⟨zbf, zbw, (Or.inr (⟨z3, (Or.inr (⟨z6, (Or.inl ⟨z8, ka, w39, exL39, fwL39, z11, kb, w102, exL102, e1L102, z15, rfl, rfl⟩)⟩))⟩))⟩, (show (0 : Int) = 0 ∨ (0 : Int) = (v.1 0 95).toInt from om_ba3af93d7d), (show (0 : Int) = 0 ∨ (0 : Int) = (v.1 0 102).toInt from om_ba3af93d7d)⟩, by rw [ht9]; exact hP, hD⟩, hS.F ht9⟩) hS.2.2 dX13_start_179
          · have z20 : kb.toInt < (32 : Int) := nle_z (show (32 : Int32).toInt = (32 : Int) by decide) rfl h14
            refine lv_aload_n hx hb dX13_start_109 rfl (lv_at hl 2 rfl) ?_
            refine va_get (D := (dC, dI)) (ci := 16) (fs := mF ad w102) (v := .ref (ad 97)) (C := RX13) (T := TX13) (N := 124) hx hb ht itX13 hown hK hP 0 rfl rfl 97 (by decide) (ht _ tw_209) (fun _ h9 => h9) rfl dX13_start_110 ?_
            refine lv_iload hx hb dX13_start_113 (lv_at hl 0 rfl) ?_
            refine lv_iconst (v := 0) hx hb dX13_start_115 (by decide) ?_
            refine va_iast (D := (dC, dI)) (f := (w102.1 97)) hx hb hK hP hD hS 53 0 rfl rfl (in_y (a := kb.toInt) (b := 32) rfl (om_9a3e9ac9d4 e1L102) (om_93bf70215e z20) rfl) dX13_start_116 (fun H locs hP hD hS => ?_)
            have hP := cP_ (ma_97 ad N cI cZ cJ w102 kb.toNatClampNeg 0) hP
            have hD := cD_ (ma_97 ad N cI cZ cJ w102 kb.toNatClampNeg 0) hD
            refine lv_iinc (v := (kb + (1 : Int32))) (lv' := [(5, .int (kb + (1 : Int32))), (4, .int (nI N)), (0, .ref (ad 0)), (1, .int pa), (2, .int pb), (3, .int pc1)]) hx hb dX13_start_117 hl (k := 0) rfl (rfl) (by decide) rfl (fun ls hl => ?_)
            have z21 : (kb + (1 : Int32)).toInt = kb.toInt + (1 : Int) := add_z rfl (show (1 : Int32).toInt = (1 : Int) by decide) (om_34003ee528 e1L102) (om_e3462c9acc z20)
            refine lv_goto (tgt := 102) hx hb dX13_start_120 (by decide) ?_
            exact ih102 ((kb + (1 : Int32)), (wA w102 97 kb.toNatClampNeg 0)) _ _ _ (show (32 - (kb + (1 : Int32)).toInt).toNat < (32 - kb.toInt).toNat from tn_z (om_136be6f9b9 z21) (om_e988eed439 z20)) ⟨(show FG [] [97] (wA (wA w39 96 (((nI N) - (1 : Int32)).toNatClampNeg) pb) 96 (((nI N) - (2 : Int32)).toNatClampNeg) pc1) (wA w102 97 kb.toNatClampNeg 0) from (FG.a (FG.tr (FG.rf _) (FG.up fwL102 (by decide) (by decide))) kb.toNatClampNeg 0 (by decide) (by decide))), (show 0 ≤ (kb + (1 : Int32)).toInt ∧ (kb + (1 : Int32)).toInt ≤ 32 from (om_e8a91f5c82 e1L102 z20 z21)), (RT.st exL102 ⟨e1L102, z20, rfl⟩), hP, hD, hS, lv_sub hl [0, 1, 2, 3, 4, 5] rfl⟩
        · have z22 : ka.toInt < (nI N).toInt := nle_z rfl rfl h10
          refine lv_aload_n hx hb dX13_start_46 rfl (lv_at hl 2 rfl) ?_
          refine va_get (D := (dC, dI)) (ci := 16) (fs := mF ad w39) (v := .ref (ad 96)) (C := RX13) (T := TX13) (N := 124) hx hb ht itX13 hown hK hP 0 rfl rfl 96 (by decide) (ht _ tw_207) (fun _ h9 => h9) rfl dX13_start_47 ?_
          refine lv_iload hx hb dX13_start_50 (lv_at hl 0 rfl) ?_
          refine lv_iload hx hb dX13_start_52 (lv_at hl 0 rfl) ?_
          refine lv_aload_n hx hb dX13_start_54 rfl (lv_at hl 2 rfl) ?_
          refine va_get (D := (dC, dI)) (ci := 16) (fs := mF ad w39) (v := .int (w39.1 0 73)) (C := RX13) (T := TX13) (N := 124) hx hb ht itX13 hown hK hP 0 rfl rfl 73 (by decide) (ht _ tw_256) (fun _ h9 => h9) rfl dX13_start_55 ?_
          refine lv_icmp_ge (tgt := 71) hx hb dX13_start_58 (by decide) (fun h23 => ?_) (fun h23 => ?_)
          · have z24 : (w39.1 0 73).toInt ≤ ka.toInt := le_z rfl rfl h23
            refine lv_iconst (v := 0) hx hb dX13_start_71 (by decide) ?_
            refine va_iast (D := (dC, dI)) (f := (w39.1 96)) hx hb hK hP hD hS 52 0 rfl rfl (in_y (a := ka.toInt) (b := (N : Int)) rfl (om_888b7462be e1L39) (om_267f7d2370 zN9 z22) rfl) dX13_start_72 (fun H locs hP hD hS => ?_)
            have hP := cP_ (ma_96 ad N cI cZ cJ w39 ka.toNatClampNeg 0) hP
            have hD := cD_ (ma_96 ad N cI cZ cJ w39 ka.toNatClampNeg 0) hD
            refine lv_iinc (v := (ka + (1 : Int32))) (lv' := [(5, .int (ka + (1 : Int32))), (4, .int (nI N)), (0, .ref (ad 0)), (1, .int pa), (2, .int pb), (3, .int pc1)]) hx hb dX13_start_73 hl (k := 0) rfl (rfl) (by decide) rfl (fun ls hl => ?_)
            have z25 : (ka + (1 : Int32)).toInt = ka.toInt + (1 : Int) := add_z rfl (show (1 : Int32).toInt = (1 : Int) by decide) (om_b884f6214f e1L39) (om_0b009b12b6 zN e1L39)
            refine lv_goto (tgt := 39) hx hb dX13_start_76 (by decide) ?_
            exact ih39 ((ka + (1 : Int32)), (wA w39 96 ka.toNatClampNeg 0)) _ _ _ (show ((N : Int) - (ka + (1 : Int32)).toInt).toNat < ((N : Int) - ka.toInt).toNat from tn_z (om_68fd1d42e2 z25) (om_b6d126698a zN9 z22)) ⟨(show FG [] [96] (wA v 0 0 0) (wA w39 96 ka.toNatClampNeg 0) from (FG.a (FG.tr (FG.rf _) (FG.up fwL39 (by decide) (by decide))) ka.toNatClampNeg 0 (by decide) (by decide))), (show 0 ≤ (ka + (1 : Int32)).toInt ∧ (ka + (1 : Int32)).toInt ≤ (N : Int) from (om_9f53abd9c9 zN9 e1L39 z22 z25)), (RT.st exL39 ⟨fwL39, z22, (Or.inl ⟨z24, rfl⟩)⟩), hP, hD, hS, lv_sub hl [0, 1, 2, 3, 4, 5] rfl⟩
          · have z26 : ka.toInt < (w39.1 0 73).toInt := nle_z rfl rfl h23
            refine lv_aload_n hx hb dX13_start_61 rfl (lv_at hl 2 rfl) ?_
            refine va_get (D := (dC, dI)) (ci := 16) (fs := mF ad w39) (v := .ref (ad 70)) (C := RX13) (T := TX13) (N := 124) hx hb ht itX13 hown hK hP 0 rfl rfl 70 (by decide) (ht _ tw_257) (fun _ h9 => h9) rfl dX13_start_62 ?_
            refine lv_iload hx hb dX13_start_65 (lv_at hl 0 rfl) ?_
            refine va_iald (D := (dC, dI)) (f := (w39.1 70)) hx hb hK hP 35 0 rfl rfl (in_y (a := ka.toInt) (b := 24000) rfl (om_888b7462be e1L39) (om_15dcafbe6a zN e1L39) rfl) dX13_start_67 ?_
            refine lv_goto (tgt := 72) hx hb dX13_start_68 (by decide) ?_
            refine va_iast (D := (dC, dI)) (f := (w39.1 96)) hx hb hK hP hD hS 52 0 rfl rfl (in_y (a := ka.toInt) (b := (N : Int)) rfl (om_888b7462be e1L39) (om_267f7d2370 zN9 z22) rfl) dX13_start_72 (fun H locs hP hD hS => ?_)
            have hP := cP_ (ma_96 ad N cI cZ cJ w39 ka.toNatClampNeg ((w39.1 70) ka.toNatClampNeg)) hP
            have hD := cD_ (ma_96 ad N cI cZ cJ w39 ka.toNatClampNeg ((w39.1 70) ka.toNatClampNeg)) hD
            refine lv_iinc (v := (ka + (1 : Int32))) (lv' := [(5, .int (ka + (1 : Int32))), (4, .int (nI N)), (0, .ref (ad 0)), (1, .int pa), (2, .int pb), (3, .int pc1)]) hx hb dX13_start_73 hl (k := 0) rfl (rfl) (by decide) rfl (fun ls hl => ?_)
            have z27 : (ka + (1 : Int32)).toInt = ka.toInt + (1 : Int) := add_z rfl (show (1 : Int32).toInt = (1 : Int) by decide) (om_b884f6214f e1L39) (om_0b009b12b6 zN e1L39)
            refine lv_goto (tgt := 39) hx hb dX13_start_76 (by decide) ?_
            exact ih39 ((ka + (1 : Int32)), (wA w39 96 ka.toNatClampNeg ((w39.1 70) ka.toNatClampNeg))) _ _ _ (show ((N : Int) - (ka + (1 : Int32)).toInt).toNat < ((N : Int) - ka.toInt).toNat from tn_z (om_68fd1d42e2 z27) (om_b6d126698a zN9 z22)) ⟨(show FG [] [96] (wA v 0 0 0) (wA w39 96 ka.toNatClampNeg ((w39.1 70) ka.toNatClampNeg)) from (FG.a (FG.tr (FG.rf _) (FG.up fwL39 (by decide) (by decide))) ka.toNatClampNeg ((w39.1 70) ka.toNatClampNeg) (by decide) (by decide))), (show 0 ≤ (ka + (1 : Int32)).toInt ∧ (ka + (1 : Int32)).toInt ≤ (N : Int) from (om_9f53abd9c9 zN9 e1L39 z22 z27)), (RT.st exL39 ⟨fwL39, z22, (Or.inr (⟨z26, rfl⟩))⟩), hP, hD, hS, lv_sub hl [0, 1, 2, 3, 4, 5] rfl⟩
      · have z28 : (2 : Int) < ((v.1 78) pa.toNatClampNeg).toInt := nle_z rfl (show (2 : Int32).toInt = (2 : Int) by decide) h7
        refine lv_iconst (v := 0) hx hb dX13_start_27 (by decide) ?_
        exact W.zret (v := 0) hx hb hr rfl (fun t ht9 hW => ⟨⟨0, (wA v 0 0 0), rfl, ⟨(FG.f (FG.rf _) 0 (by decide)), ⟨zbf, zbw, (Or.inr (⟨z3, (Or.inr (⟨z6, (Or.inr (⟨z28, rfl, rfl⟩))⟩))⟩))⟩, (show (v.1 0 95).toInt = 0 ∨ (v.1 0 95).toInt = (v.1 0 95).toInt from om_cd3b6a8dc0), (show (v.1 0 102).toInt = 0 ∨ (v.1 0 102).toInt = (v.1 0 102).toInt from om_cd3b6a8dc0)⟩, by rw [ht9]; exact hP, hD⟩, hS.F ht9⟩) hS.2.2 dX13_start_28
set_option maxHeartbeats 4000000 in
set_option maxRecDepth 100000 in
theorem c_m_count (l : Launch) (dC : Nat → ClassId) (dI : Nat → Nat → Nat) (cI cB cZ cJ cR : ClassId) (tb : Nat → Nat) (sz : Nat) (ad : Nat → Nat) (N : Nat) (v : MS) (pa : Int32) (zN : (256 : Int) ≤ (N : Int) ∧ (N : Int) ≤ 4096) : Met l yX13_count (Cond.code yX13_count cX13_count 2 (some .int) :: tw_W) ({ frames := 0, cells := 0, slots := 0, locals := 0 }) (pc_ (dC, dI) (tyS cI cB cZ cJ cR) tb (mW ad N cI cZ cJ v) sz [.ref (ad 0), .int pa]) (qi_ (dC, dI) (mW ad N cI cZ cJ v) sz (fun (r : Int32) (u : MS) => FG [0] [0] v u) (fun (u : MS) => (mW ad N cI cZ cJ u))) 0 0 (va_A (mW ad N cI cZ cJ v) sz) := by
  refine Met.ofW (cc := cX13_count) (maxL := 2) (ret := (some .int)) (by decide) rfl ?_
  intro p e s m args below meth c s₁ B hml hv
  obtain ⟨rfl, hsz, hP, hKK, hD0, hFx⟩ := hv
  have hK := hKK.1
  have hx := B.exec
  have hb := B.bytes
  have hr := B.returns
  have ht : ∀ w ∈ tw_W, w.before _ s = true := fun w h => atoms_spec (ws := Cond.code yX13_count cX13_count 2 (some .int) :: tw_W) B.pre w (List.mem_cons_of_mem _ h)
  have hown : s.vm.findClass RX13 = some m.cls := findClass_of_methodNamed B.named
  have hlocks := B.notSynchronized
  subst hsz
  unfold qi_
  have hD := hD0.self (sz := s.heap.size)
  generalize hAe : va_A (mW ad N cI cZ cJ v) s.heap.size = A at hD hFx ⊢
  have hA : ∀ q : Nat, s.heap.size ≤ q → A q := fun q h => by rw [← hAe]; exact Or.inr h
  have hS : va_S A s.heap s.heap [] := va_S.rf
  have hl := lv_entry ([.ref (ad 0), .int pa]) (n := 2) (Nat.le_of_ble_eq_true rfl)
  rw [lg_entry_eq]
  generalize (lg_sl ([.ref (ad 0), .int pa]) ++ List.replicate (2 - (lg_sl ([.ref (ad 0), .int pa])).length) Slot.unset).toArray = ls at hl ⊢
  have hl : lv_has ls 2 [(0, .ref (ad 0)), (1, .int pa)] := hl
  refine lv_aload_n hx hb dX13_count_0 rfl (lv_at hl 0 rfl) ?_
  refine lv_iconst (v := 0) hx hb dX13_count_1 (by decide) ?_
  refine va_put (D := (dC, dI)) (ci := 16) (fs := mF ad v) (v := .int 0) (ty := .int) (C := RX13) (T := TX13) (N := 124) hx hb ht itX13 tyX13 tyX13_ok nmX13 hown hK hP hD hS 0 rfl rfl 0 (by decide) (ht _ tw_246) (fun _ h9 => h9) rfl (by decide +kernel) rfl rfl (Nat.le_of_ble_eq_true rfl) dX13_count_2 (fun H locs hP hD hS => ?_)
  have hP := cP_ (mw_0 ad N cI cZ cJ v 0) hP
  have hD := cD_ (mw_0 ad N cI cZ cJ v 0) hD
  refine lv_iload_n hx hb dX13_count_5 rfl (lv_at hl 1 rfl) ?_
  by_cases h1 : pa = 0
  · refine lv_tableIn (off := 58) (tgt := 64) hx hb dX13_count_6 (by rw [h1]; decide) (by rw [h1]; decide) (by rw [h1]; decide) (by decide) ?_
    refine lv_aload_n hx hb dX13_count_64 rfl (lv_at hl 0 rfl) ?_
    refine va_get (D := (dC, dI)) (ci := 16) (fs := mF ad (wA v 0 0 0)) (v := .int (v.1 0 2)) (C := RX13) (T := TX13) (N := 124) hx hb ht itX13 hown hK hP 0 rfl rfl 2 (by decide) (ht _ tw_251) (fun _ h9 => h9) rfl dX13_count_65 ?_
    exact W.iret (v := (v.1 0 2)) hx hb hr (fun t ht9 hW => ⟨⟨(v.1 0 2), (wA v 0 0 0), rfl, (FG.f (FG.rf _) 0 (by decide)), by rw [ht9]; exact hP, hD⟩, hS.F ht9⟩) hS.2.2 dX13_count_68
  ·
    by_cases h2 : pa = 1
    · refine lv_tableIn (off := 63) (tgt := 69) hx hb dX13_count_6 (by rw [h2]; decide) (by rw [h2]; decide) (by rw [h2]; decide) (by decide) ?_
      refine lv_aload_n hx hb dX13_count_69 rfl (lv_at hl 0 rfl) ?_
      refine va_get (D := (dC, dI)) (ci := 16) (fs := mF ad (wA v 0 0 0)) (v := .int (v.1 0 73)) (C := RX13) (T := TX13) (N := 124) hx hb ht itX13 hown hK hP 0 rfl rfl 73 (by decide) (ht _ tw_256) (fun _ h9 => h9) rfl dX13_count_70 ?_
      exact W.iret (v := (v.1 0 73)) hx hb hr (fun t ht9 hW => ⟨⟨(v.1 0 73), (wA v 0 0 0), rfl, (FG.f (FG.rf _) 0 (by decide)), by rw [ht9]; exact hP, hD⟩, hS.F ht9⟩) hS.2.2 dX13_count_73
    ·
      by_cases h3 : pa = 2
      · refine lv_tableIn (off := 68) (tgt := 74) hx hb dX13_count_6 (by rw [h3]; decide) (by rw [h3]; decide) (by rw [h3]; decide) (by decide) ?_
        refine lv_aload_n hx hb dX13_count_74 rfl (lv_at hl 0 rfl) ?_
        refine va_get (D := (dC, dI)) (ci := 16) (fs := mF ad (wA v 0 0 0)) (v := .int (v.1 0 74)) (C := RX13) (T := TX13) (N := 124) hx hb ht itX13 hown hK hP 0 rfl rfl 74 (by decide) (ht _ tw_258) (fun _ h9 => h9) rfl dX13_count_75 ?_
        exact W.iret (v := (v.1 0 74)) hx hb hr (fun t ht9 hW => ⟨⟨(v.1 0 74), (wA v 0 0 0), rfl, (FG.f (FG.rf _) 0 (by decide)), by rw [ht9]; exact hP, hD⟩, hS.F ht9⟩) hS.2.2 dX13_count_78
      ·
        by_cases h4 : pa = 3
        · refine lv_tableIn (off := 73) (tgt := 79) hx hb dX13_count_6 (by rw [h4]; decide) (by rw [h4]; decide) (by rw [h4]; decide) (by decide) ?_
          refine lv_aload_n hx hb dX13_count_79 rfl (lv_at hl 0 rfl) ?_
          refine va_get (D := (dC, dI)) (ci := 16) (fs := mF ad (wA v 0 0 0)) (v := .int (v.1 0 75)) (C := RX13) (T := TX13) (N := 124) hx hb ht itX13 hown hK hP 0 rfl rfl 75 (by decide) (ht _ tw_263) (fun _ h9 => h9) rfl dX13_count_80 ?_
          exact W.iret (v := (v.1 0 75)) hx hb hr (fun t ht9 hW => ⟨⟨(v.1 0 75), (wA v 0 0 0), rfl, (FG.f (FG.rf _) 0 (by decide)), by rw [ht9]; exact hP, hD⟩, hS.F ht9⟩) hS.2.2 dX13_count_83
        ·
          by_cases h5 : pa = 4
          · refine lv_tableIn (off := 78) (tgt := 84) hx hb dX13_count_6 (by rw [h5]; decide) (by rw [h5]; decide) (by rw [h5]; decide) (by decide) ?_
            refine lv_aload_n hx hb dX13_count_84 rfl (lv_at hl 0 rfl) ?_
            refine va_get (D := (dC, dI)) (ci := 16) (fs := mF ad (wA v 0 0 0)) (v := .int (v.1 0 77)) (C := RX13) (T := TX13) (N := 124) hx hb ht itX13 hown hK hP 0 rfl rfl 77 (by decide) (ht _ tw_270) (fun _ h9 => h9) rfl dX13_count_85 ?_
            exact W.iret (v := (v.1 0 77)) hx hb hr (fun t ht9 hW => ⟨⟨(v.1 0 77), (wA v 0 0 0), rfl, (FG.f (FG.rf _) 0 (by decide)), by rw [ht9]; exact hP, hD⟩, hS.F ht9⟩) hS.2.2 dX13_count_88
          ·
            by_cases h6 : pa = 5
            · refine lv_tableIn (off := 83) (tgt := 89) hx hb dX13_count_6 (by rw [h6]; decide) (by rw [h6]; decide) (by rw [h6]; decide) (by decide) ?_
              refine lv_aload_n hx hb dX13_count_89 rfl (lv_at hl 0 rfl) ?_
              refine va_get (D := (dC, dI)) (ci := 16) (fs := mF ad (wA v 0 0 0)) (v := .int (v.1 0 99)) (C := RX13) (T := TX13) (N := 124) hx hb ht itX13 hown hK hP 0 rfl rfl 99 (by decide) (ht _ tw_210) (fun _ h9 => h9) rfl dX13_count_90 ?_
              exact W.iret (v := (v.1 0 99)) hx hb hr (fun t ht9 hW => ⟨⟨(v.1 0 99), (wA v 0 0 0), rfl, (FG.f (FG.rf _) 0 (by decide)), by rw [ht9]; exact hP, hD⟩, hS.F ht9⟩) hS.2.2 dX13_count_93
            ·
              by_cases h7 : pa = 6
              · refine lv_tableIn (off := 88) (tgt := 94) hx hb dX13_count_6 (by rw [h7]; decide) (by rw [h7]; decide) (by rw [h7]; decide) (by decide) ?_
                refine lv_aload_n hx hb dX13_count_94 rfl (lv_at hl 0 rfl) ?_
                refine va_get (D := (dC, dI)) (ci := 16) (fs := mF ad (wA v 0 0 0)) (v := .int (v.1 0 100)) (C := RX13) (T := TX13) (N := 124) hx hb ht itX13 hown hK hP 0 rfl rfl 100 (by decide) (ht _ tw_229) (fun _ h9 => h9) rfl dX13_count_95 ?_
                exact W.iret (v := (v.1 0 100)) hx hb hr (fun t ht9 hW => ⟨⟨(v.1 0 100), (wA v 0 0 0), rfl, (FG.f (FG.rf _) 0 (by decide)), by rw [ht9]; exact hP, hD⟩, hS.F ht9⟩) hS.2.2 dX13_count_98
              ·
                by_cases h8 : pa = 7
                · refine lv_tableIn (off := 93) (tgt := 99) hx hb dX13_count_6 (by rw [h8]; decide) (by rw [h8]; decide) (by rw [h8]; decide) (by decide) ?_
                  refine lv_aload_n hx hb dX13_count_99 rfl (lv_at hl 0 rfl) ?_
                  refine va_get (D := (dC, dI)) (ci := 16) (fs := mF ad (wA v 0 0 0)) (v := .int (v.1 0 102)) (C := RX13) (T := TX13) (N := 124) hx hb ht itX13 hown hK hP 0 rfl rfl 102 (by decide) (ht _ tw_227) (fun _ h9 => h9) rfl dX13_count_100 ?_
                  exact W.iret (v := (v.1 0 102)) hx hb hr (fun t ht9 hW => ⟨⟨(v.1 0 102), (wA v 0 0 0), rfl, (FG.f (FG.rf _) 0 (by decide)), by rw [ht9]; exact hP, hD⟩, hS.F ht9⟩) hS.2.2 dX13_count_103
                ·
                  by_cases h9 : pa = 8
                  · refine lv_tableIn (off := 98) (tgt := 104) hx hb dX13_count_6 (by rw [h9]; decide) (by rw [h9]; decide) (by rw [h9]; decide) (by decide) ?_
                    refine lv_aload_n hx hb dX13_count_104 rfl (lv_at hl 0 rfl) ?_
                    refine va_get (D := (dC, dI)) (ci := 16) (fs := mF ad (wA v 0 0 0)) (v := .int (v.1 0 94)) (C := RX13) (T := TX13) (N := 124) hx hb ht itX13 hown hK hP 0 rfl rfl 94 (by decide) (ht _ tw_225) (fun _ h9 => h9) rfl dX13_count_105 ?_
                    exact W.iret (v := (v.1 0 94)) hx hb hr (fun t ht9 hW => ⟨⟨(v.1 0 94), (wA v 0 0 0), rfl, (FG.f (FG.rf _) 0 (by decide)), by rw [ht9]; exact hP, hD⟩, hS.F ht9⟩) hS.2.2 dX13_count_108
                  ·
                    by_cases h10 : pa = 9
                    · refine lv_tableIn (off := 103) (tgt := 109) hx hb dX13_count_6 (by rw [h10]; decide) (by rw [h10]; decide) (by rw [h10]; decide) (by decide) ?_
                      refine lv_aload_n hx hb dX13_count_109 rfl (lv_at hl 0 rfl) ?_
                      refine va_get (D := (dC, dI)) (ci := 16) (fs := mF ad (wA v 0 0 0)) (v := .ref (ad 96)) (C := RX13) (T := TX13) (N := 124) hx hb ht itX13 hown hK hP 0 rfl rfl 96 (by decide) (ht _ tw_207) (fun _ h9 => h9) rfl dX13_count_110 ?_
                      refine va_alen (D := (dC, dI)) (v := (nI N)) hx hb hK hP 52 0 rfl rfl rfl dX13_count_113 ?_
                      have zN11 : (nI N).toInt = (N : Int) := nI_N (by have := (om_a85b825e17 zN); omega)
                      exact W.iret (v := (nI N)) hx hb hr (fun t ht9 hW => ⟨⟨(nI N), (wA v 0 0 0), rfl, (FG.f (FG.rf _) 0 (by decide)), by rw [ht9]; exact hP, hD⟩, hS.F ht9⟩) hS.2.2 dX13_count_114
                    ·
                      by_cases h12 : pa = 10
                      · refine lv_tableIn (off := 109) (tgt := 115) hx hb dX13_count_6 (by rw [h12]; decide) (by rw [h12]; decide) (by rw [h12]; decide) (by decide) ?_
                        refine lv_aload_n hx hb dX13_count_115 rfl (lv_at hl 0 rfl) ?_
                        refine va_get (D := (dC, dI)) (ci := 16) (fs := mF ad (wA v 0 0 0)) (v := .int (v.1 0 99)) (C := RX13) (T := TX13) (N := 124) hx hb ht itX13 hown hK hP 0 rfl rfl 99 (by decide) (ht _ tw_210) (fun _ h9 => h9) rfl dX13_count_116 ?_
                        refine lv_iconst (v := 1) hx hb dX13_count_119 (by decide) ?_
                        refine lv_icmp_ne (tgt := 133) hx hb dX13_count_120 (by decide) (fun h13 => ?_) (fun h13 => ?_)
                        · have z14 : (v.1 0 99).toInt ≠ (1 : Int) := ne_z rfl (show (1 : Int32).toInt = (1 : Int) by decide) h13
                          refine lv_iconst (v := 0) hx hb dX13_count_133 (by decide) ?_
                          exact W.iret (v := 0) hx hb hr (fun t ht9 hW => ⟨⟨0, (wA v 0 0 0), rfl, (FG.f (FG.rf _) 0 (by decide)), by rw [ht9]; exact hP, hD⟩, hS.F ht9⟩) hS.2.2 dX13_count_134
                        · have z15 : (v.1 0 99).toInt = (1 : Int) := eq_z rfl (show (1 : Int32).toInt = (1 : Int) by decide) h13
                          refine lv_aload_n hx hb dX13_count_123 rfl (lv_at hl 0 rfl) ?_
                          refine va_get (D := (dC, dI)) (ci := 16) (fs := mF ad (wA v 0 0 0)) (v := .ref (ad 97)) (C := RX13) (T := TX13) (N := 124) hx hb ht itX13 hown hK hP 0 rfl rfl 97 (by decide) (ht _ tw_209) (fun _ h9 => h9) rfl dX13_count_124 ?_
                          refine lv_bipush (v := 17) hx hb dX13_count_127 (by decide) ?_
                          refine va_iald (D := (dC, dI)) (f := (v.1 97)) hx hb hK hP 53 0 rfl rfl (in_y (a := (17 : Int)) (b := 32) (show (17 : Int32).toInt = (17 : Int) by decide) om_c068ca3171 om_d44582c2ea rfl) dX13_count_129 ?_
                          refine lv_goto (tgt := 134) hx hb dX13_count_130 (by decide) ?_
                          exact W.iret (v := ((v.1 97) 17)) hx hb hr (fun t ht9 hW => ⟨⟨((v.1 97) 17), (wA v 0 0 0), rfl, (FG.f (FG.rf _) 0 (by decide)), by rw [ht9]; exact hP, hD⟩, hS.F ht9⟩) hS.2.2 dX13_count_134
                      ·
                        refine lv_tableOut (tgt := 135) hx hb dX13_count_6 (by have := lv_neT h1 (a := 0) (by decide); have := lv_neT h2 (a := 1) (by decide); have := lv_neT h3 (a := 2) (by decide); have := lv_neT h4 (a := 3) (by decide); have := lv_neT h5 (a := 4) (by decide); have := lv_neT h6 (a := 5) (by decide); have := lv_neT h7 (a := 6) (by decide); have := lv_neT h8 (a := 7) (by decide); have := lv_neT h9 (a := 8) (by decide); have := lv_neT h10 (a := 9) (by decide); have := lv_neT h12 (a := 10) (by decide); omega) (by decide) ?_
                        refine lv_iconst (v := -1) hx hb dX13_count_135 (by decide) ?_
                        exact W.iret (v := (-1)) hx hb hr (fun t ht9 hW => ⟨⟨(-1), (wA v 0 0 0), rfl, (FG.f (FG.rf _) 0 (by decide)), by rw [ht9]; exact hP, hD⟩, hS.F ht9⟩) hS.2.2 dX13_count_136
set_option maxHeartbeats 4000000 in
set_option maxRecDepth 100000 in
theorem c_m_told (l : Launch) (dC : Nat → ClassId) (dI : Nat → Nat → Nat) (cI cB cZ cJ cR : ClassId) (tb : Nat → Nat) (sz : Nat) (ad : Nat → Nat) (N : Nat) (v : MS) (pa : Int32)  : Met l yX13_told (Cond.code yX13_told cX13_told 2 (some .int) :: tw_W) ({ frames := 0, cells := 0, slots := 0, locals := 0 }) (pc_ (dC, dI) (tyS cI cB cZ cJ cR) tb (mW ad N cI cZ cJ v) sz [.ref (ad 0), .int pa]) (qi_ (dC, dI) (mW ad N cI cZ cJ v) sz (fun (r : Int32) (u : MS) => FG [0] [0] v u ∧ (Q_m_told v pa r u)) (fun (u : MS) => (mW ad N cI cZ cJ u))) 0 0 (va_A (mW ad N cI cZ cJ v) sz) := by
  refine Met.ofW (cc := cX13_told) (maxL := 2) (ret := (some .int)) (by decide) rfl ?_
  intro p e s m args below meth c s₁ B hml hv
  obtain ⟨rfl, hsz, hP, hKK, hD0, hFx⟩ := hv
  have hK := hKK.1
  have hx := B.exec
  have hb := B.bytes
  have hr := B.returns
  have ht : ∀ w ∈ tw_W, w.before _ s = true := fun w h => atoms_spec (ws := Cond.code yX13_told cX13_told 2 (some .int) :: tw_W) B.pre w (List.mem_cons_of_mem _ h)
  have hown : s.vm.findClass RX13 = some m.cls := findClass_of_methodNamed B.named
  have hlocks := B.notSynchronized
  subst hsz
  unfold qi_
  have hD := hD0.self (sz := s.heap.size)
  generalize hAe : va_A (mW ad N cI cZ cJ v) s.heap.size = A at hD hFx ⊢
  have hA : ∀ q : Nat, s.heap.size ≤ q → A q := fun q h => by rw [← hAe]; exact Or.inr h
  have hS : va_S A s.heap s.heap [] := va_S.rf
  have hl := lv_entry ([.ref (ad 0), .int pa]) (n := 2) (Nat.le_of_ble_eq_true rfl)
  rw [lg_entry_eq]
  generalize (lg_sl ([.ref (ad 0), .int pa]) ++ List.replicate (2 - (lg_sl ([.ref (ad 0), .int pa])).length) Slot.unset).toArray = ls at hl ⊢
  have hl : lv_has ls 2 [(0, .ref (ad 0)), (1, .int pa)] := hl
  refine lv_aload_n hx hb dX13_told_0 rfl (lv_at hl 0 rfl) ?_
  refine lv_iconst (v := 0) hx hb dX13_told_1 (by decide) ?_
  refine va_put (D := (dC, dI)) (ci := 16) (fs := mF ad v) (v := .int 0) (ty := .int) (C := RX13) (T := TX13) (N := 124) hx hb ht itX13 tyX13 tyX13_ok nmX13 hown hK hP hD hS 0 rfl rfl 0 (by decide) (ht _ tw_246) (fun _ h9 => h9) rfl (by decide +kernel) rfl rfl (Nat.le_of_ble_eq_true rfl) dX13_told_2 (fun H locs hP hD hS => ?_)
  have hP := cP_ (mw_0 ad N cI cZ cJ v 0) hP
  have hD := cD_ (mw_0 ad N cI cZ cJ v 0) hD
  refine lv_aload_n hx hb dX13_told_5 rfl (lv_at hl 0 rfl) ?_
  refine va_get (D := (dC, dI)) (ci := 16) (fs := mF ad (wA v 0 0 0)) (v := .int (v.1 0 123)) (C := RX13) (T := TX13) (N := 124) hx hb ht itX13 hown hK hP 0 rfl rfl 123 (by decide) (ht _ tw_272) (fun _ h9 => h9) rfl dX13_told_6 ?_
  refine lv_if_ne (tgt := 14) hx hb dX13_told_9 (by decide) (fun h1 => ?_) (fun h1 => ?_)
  · have z2 : (v.1 0 123).toInt ≠ (0 : Int) := ne_z rfl (show (0 : Int32).toInt = (0 : Int) by decide) h1
    refine lv_iload_n hx hb dX13_told_14 rfl (lv_at hl 1 rfl) ?_
    by_cases h3 : pa = 0
    · refine lv_tableIn (off := 37) (tgt := 52) hx hb dX13_told_15 (by rw [h3]; decide) (by rw [h3]; decide) (by rw [h3]; decide) (by decide) ?_
      refine lv_aload_n hx hb dX13_told_52 rfl (lv_at hl 0 rfl) ?_
      refine va_get (D := (dC, dI)) (ci := 16) (fs := mF ad (wA v 0 0 0)) (v := .int (v.1 0 121)) (C := RX13) (T := TX13) (N := 124) hx hb ht itX13 hown hK hP 0 rfl rfl 121 (by decide) (ht _ tw_305) (fun _ h9 => h9) rfl dX13_told_53 ?_
      exact W.iret (v := (v.1 0 121)) hx hb hr (fun t ht9 hW => ⟨⟨(v.1 0 121), (wA v 0 0 0), rfl, ⟨(FG.f (FG.rf _) 0 (by decide)), (Or.inl ⟨z2, (Or.inl ⟨h3, rfl, rfl⟩)⟩)⟩, by rw [ht9]; exact hP, hD⟩, hS.F ht9⟩) hS.2.2 dX13_told_56
    ·
      by_cases h4 : pa = 1
      · refine lv_tableIn (off := 42) (tgt := 57) hx hb dX13_told_15 (by rw [h4]; decide) (by rw [h4]; decide) (by rw [h4]; decide) (by decide) ?_
        refine lv_aload_n hx hb dX13_told_57 rfl (lv_at hl 0 rfl) ?_
        refine va_get (D := (dC, dI)) (ci := 16) (fs := mF ad (wA v 0 0 0)) (v := .int (v.1 0 122)) (C := RX13) (T := TX13) (N := 124) hx hb ht itX13 hown hK hP 0 rfl rfl 122 (by decide) (ht _ tw_306) (fun _ h9 => h9) rfl dX13_told_58 ?_
        exact W.iret (v := (v.1 0 122)) hx hb hr (fun t ht9 hW => ⟨⟨(v.1 0 122), (wA v 0 0 0), rfl, ⟨(FG.f (FG.rf _) 0 (by decide)), (Or.inl ⟨z2, (Or.inr (⟨h3, (Or.inl ⟨h4, rfl, rfl⟩)⟩))⟩)⟩, by rw [ht9]; exact hP, hD⟩, hS.F ht9⟩) hS.2.2 dX13_told_61
      ·
        by_cases h5 : pa = 2
        · refine lv_tableIn (off := 47) (tgt := 62) hx hb dX13_told_15 (by rw [h5]; decide) (by rw [h5]; decide) (by rw [h5]; decide) (by decide) ?_
          refine lv_aload_n hx hb dX13_told_62 rfl (lv_at hl 0 rfl) ?_
          refine va_get (D := (dC, dI)) (ci := 16) (fs := mF ad (wA v 0 0 0)) (v := .int (v.1 0 113)) (C := RX13) (T := TX13) (N := 124) hx hb ht itX13 hown hK hP 0 rfl rfl 113 (by decide) (ht _ tw_307) (fun _ h9 => h9) rfl dX13_told_63 ?_
          exact W.iret (v := (v.1 0 113)) hx hb hr (fun t ht9 hW => ⟨⟨(v.1 0 113), (wA v 0 0 0), rfl, ⟨(FG.f (FG.rf _) 0 (by decide)), (Or.inl ⟨z2, (Or.inr (⟨h3, (Or.inr (⟨h4, (Or.inl ⟨h5, rfl, rfl⟩)⟩))⟩))⟩)⟩, by rw [ht9]; exact hP, hD⟩, hS.F ht9⟩) hS.2.2 dX13_told_66
        ·
          by_cases h6 : pa = 3
          · refine lv_tableIn (off := 52) (tgt := 67) hx hb dX13_told_15 (by rw [h6]; decide) (by rw [h6]; decide) (by rw [h6]; decide) (by decide) ?_
            refine lv_aload_n hx hb dX13_told_67 rfl (lv_at hl 0 rfl) ?_
            refine va_get (D := (dC, dI)) (ci := 16) (fs := mF ad (wA v 0 0 0)) (v := .int (v.1 0 116)) (C := RX13) (T := TX13) (N := 124) hx hb ht itX13 hown hK hP 0 rfl rfl 116 (by decide) (ht _ tw_308) (fun _ h9 => h9) rfl dX13_told_68 ?_
            exact W.iret (v := (v.1 0 116)) hx hb hr (fun t ht9 hW => ⟨⟨(v.1 0 116), (wA v 0 0 0), rfl, ⟨(FG.f (FG.rf _) 0 (by decide)), (Or.inl ⟨z2, (Or.inr (⟨h3, (Or.inr (⟨h4, (Or.inr (⟨h5, (Or.inl ⟨h6, rfl, rfl⟩)⟩))⟩))⟩))⟩)⟩, by rw [ht9]; exact hP, hD⟩, hS.F ht9⟩) hS.2.2 dX13_told_71
          ·
            by_cases h7 : pa = 4
            · refine lv_tableIn (off := 57) (tgt := 72) hx hb dX13_told_15 (by rw [h7]; decide) (by rw [h7]; decide) (by rw [h7]; decide) (by decide) ?_
              refine lv_aload_n hx hb dX13_told_72 rfl (lv_at hl 0 rfl) ?_
              refine va_get (D := (dC, dI)) (ci := 16) (fs := mF ad (wA v 0 0 0)) (v := .int (v.1 0 119)) (C := RX13) (T := TX13) (N := 124) hx hb ht itX13 hown hK hP 0 rfl rfl 119 (by decide) (ht _ tw_309) (fun _ h9 => h9) rfl dX13_told_73 ?_
              exact W.iret (v := (v.1 0 119)) hx hb hr (fun t ht9 hW => ⟨⟨(v.1 0 119), (wA v 0 0 0), rfl, ⟨(FG.f (FG.rf _) 0 (by decide)), (Or.inl ⟨z2, (Or.inr (⟨h3, (Or.inr (⟨h4, (Or.inr (⟨h5, (Or.inr (⟨h6, (Or.inl ⟨h7, rfl, rfl⟩)⟩))⟩))⟩))⟩))⟩)⟩, by rw [ht9]; exact hP, hD⟩, hS.F ht9⟩) hS.2.2 dX13_told_76
            ·
              by_cases h8 : pa = 5
              · refine lv_tableIn (off := 62) (tgt := 77) hx hb dX13_told_15 (by rw [h8]; decide) (by rw [h8]; decide) (by rw [h8]; decide) (by decide) ?_
                refine lv_aload_n hx hb dX13_told_77 rfl (lv_at hl 0 rfl) ?_
                refine va_get (D := (dC, dI)) (ci := 16) (fs := mF ad (wA v 0 0 0)) (v := .int (v.1 0 120)) (C := RX13) (T := TX13) (N := 124) hx hb ht itX13 hown hK hP 0 rfl rfl 120 (by decide) (ht _ tw_310) (fun _ h9 => h9) rfl dX13_told_78 ?_
                exact W.iret (v := (v.1 0 120)) hx hb hr (fun t ht9 hW => ⟨⟨(v.1 0 120), (wA v 0 0 0), rfl, ⟨(FG.f (FG.rf _) 0 (by decide)), (Or.inl ⟨z2, (Or.inr (⟨h3, (Or.inr (⟨h4, (Or.inr (⟨h5, (Or.inr (⟨h6, (Or.inr (⟨h7, (Or.inl ⟨h8, rfl, rfl⟩)⟩))⟩))⟩))⟩))⟩))⟩)⟩, by rw [ht9]; exact hP, hD⟩, hS.F ht9⟩) hS.2.2 dX13_told_81
              ·
                refine lv_tableOut (tgt := 82) hx hb dX13_told_15 (by have := lv_neT h3 (a := 0) (by decide); have := lv_neT h4 (a := 1) (by decide); have := lv_neT h5 (a := 2) (by decide); have := lv_neT h6 (a := 3) (by decide); have := lv_neT h7 (a := 4) (by decide); have := lv_neT h8 (a := 5) (by decide); omega) (by decide) ?_
                refine lv_iconst (v := -1) hx hb dX13_told_82 (by decide) ?_
                exact W.iret (v := (-1)) hx hb hr (fun t ht9 hW => ⟨⟨(-1), (wA v 0 0 0), rfl, ⟨(FG.f (FG.rf _) 0 (by decide)), (Or.inl ⟨z2, (Or.inr (⟨h3, (Or.inr (⟨h4, (Or.inr (⟨h5, (Or.inr (⟨h6, (Or.inr (⟨h7, (Or.inr (⟨h8, rfl, rfl⟩))⟩))⟩))⟩))⟩))⟩))⟩)⟩, by rw [ht9]; exact hP, hD⟩, hS.F ht9⟩) hS.2.2 dX13_told_83
  · have z9 : (v.1 0 123).toInt = (0 : Int) := eq_z rfl (show (0 : Int32).toInt = (0 : Int) by decide) h1
    refine lv_iconst (v := -1) hx hb dX13_told_12 (by decide) ?_
    exact W.iret (v := (-1)) hx hb hr (fun t ht9 hW => ⟨⟨(-1), (wA v 0 0 0), rfl, ⟨(FG.f (FG.rf _) 0 (by decide)), (Or.inr (⟨z9, rfl, rfl⟩))⟩, by rw [ht9]; exact hP, hD⟩, hS.F ht9⟩) hS.2.2 dX13_told_13
theorem om_11b6ac982e {x0 x1 x2 : Int} (h0 : x0 < (0 : Int)) : (0 ≤ x0 ∧ x0 < x1 ∧ (-1 : Int) = x2) ∨ ((x0 < 0 ∨ x1 ≤ x0) ∧ (-1 : Int) = -1) := by omega
theorem om_1fe1c277d2 {x0 x1 x2 : Int} (h0 : (0 : Int) ≤ x0) (h1 : x0 < x1) : (0 ≤ x0 ∧ x0 < x1 ∧ x2 = x2) ∨ ((x0 < 0 ∨ x1 ≤ x0) ∧ x2 = -1) := by omega
theorem om_6dac29df23 {x0 x1 x2 : Int} (h0 : x0 ≤ x1) : (0 ≤ x1 ∧ x1 < x0 ∧ (-1 : Int) = x2) ∨ ((x1 < 0 ∨ x0 ≤ x1) ∧ (-1 : Int) = -1) := by omega
set_option maxHeartbeats 4000000 in
set_option maxRecDepth 100000 in
theorem c_m_octet (l : Launch) (dC : Nat → ClassId) (dI : Nat → Nat → Nat) (cI cB cZ cJ cR : ClassId) (tb : Nat → Nat) (sz : Nat) (ad : Nat → Nat) (N : Nat) (v : MS) (pa : Int32) (zsm : 0 ≤ (v.1 0 104).toInt ∧ (v.1 0 104).toInt ≤ 60) : Met l yX13_octet (Cond.code yX13_octet cX13_octet 2 (some .int) :: tw_W) ({ frames := 0, cells := 0, slots := 0, locals := 0 }) (pc_ (dC, dI) (tyS cI cB cZ cJ cR) tb (mW ad N cI cZ cJ v) sz [.ref (ad 0), .int pa]) (qi_ (dC, dI) (mW ad N cI cZ cJ v) sz (fun (r : Int32) (u : MS) => FG [0] [0] v u ∧ ((0 ≤ pa.toInt ∧ pa.toInt < (v.1 0 104).toInt ∧ r.toInt = ((v.1 103) pa.toNatClampNeg).toInt) ∨ ((pa.toInt < 0 ∨ (v.1 0 104).toInt ≤ pa.toInt) ∧ r.toInt = -1))) (fun (u : MS) => (mW ad N cI cZ cJ u))) 0 0 (va_A (mW ad N cI cZ cJ v) sz) := by
  refine Met.ofW (cc := cX13_octet) (maxL := 2) (ret := (some .int)) (by decide) rfl ?_
  intro p e s m args below meth c s₁ B hml hv
  obtain ⟨rfl, hsz, hP, hKK, hD0, hFx⟩ := hv
  have hK := hKK.1
  have hx := B.exec
  have hb := B.bytes
  have hr := B.returns
  have ht : ∀ w ∈ tw_W, w.before _ s = true := fun w h => atoms_spec (ws := Cond.code yX13_octet cX13_octet 2 (some .int) :: tw_W) B.pre w (List.mem_cons_of_mem _ h)
  have hown : s.vm.findClass RX13 = some m.cls := findClass_of_methodNamed B.named
  have hlocks := B.notSynchronized
  subst hsz
  unfold qi_
  have hD := hD0.self (sz := s.heap.size)
  generalize hAe : va_A (mW ad N cI cZ cJ v) s.heap.size = A at hD hFx ⊢
  have hA : ∀ q : Nat, s.heap.size ≤ q → A q := fun q h => by rw [← hAe]; exact Or.inr h
  have hS : va_S A s.heap s.heap [] := va_S.rf
  have hl := lv_entry ([.ref (ad 0), .int pa]) (n := 2) (Nat.le_of_ble_eq_true rfl)
  rw [lg_entry_eq]
  generalize (lg_sl ([.ref (ad 0), .int pa]) ++ List.replicate (2 - (lg_sl ([.ref (ad 0), .int pa])).length) Slot.unset).toArray = ls at hl ⊢
  have hl : lv_has ls 2 [(0, .ref (ad 0)), (1, .int pa)] := hl
  refine lv_aload_n hx hb dX13_octet_0 rfl (lv_at hl 0 rfl) ?_
  refine lv_iconst (v := 0) hx hb dX13_octet_1 (by decide) ?_
  refine va_put (D := (dC, dI)) (ci := 16) (fs := mF ad v) (v := .int 0) (ty := .int) (C := RX13) (T := TX13) (N := 124) hx hb ht itX13 tyX13 tyX13_ok nmX13 hown hK hP hD hS 0 rfl rfl 0 (by decide) (ht _ tw_246) (fun _ h9 => h9) rfl (by decide +kernel) rfl rfl (Nat.le_of_ble_eq_true rfl) dX13_octet_2 (fun H locs hP hD hS => ?_)
  have hP := cP_ (mw_0 ad N cI cZ cJ v 0) hP
  have hD := cD_ (mw_0 ad N cI cZ cJ v 0) hD
  refine lv_iload_n hx hb dX13_octet_5 rfl (lv_at hl 1 rfl) ?_
  refine lv_if_lt (tgt := 17) hx hb dX13_octet_6 (by decide) (fun h1 => ?_) (fun h1 => ?_)
  · have z2 : pa.toInt < (0 : Int) := lt_z rfl (show (0 : Int32).toInt = (0 : Int) by decide) h1
    refine lv_iconst (v := -1) hx hb dX13_octet_17 (by decide) ?_
    refine lv_goto (tgt := 27) hx hb dX13_octet_18 (by decide) ?_
    exact W.iret (v := (-1)) hx hb hr (fun t ht9 hW => ⟨⟨(-1), (wA v 0 0 0), rfl, ⟨(FG.f (FG.rf _) 0 (by decide)), (show (0 ≤ pa.toInt ∧ pa.toInt < (v.1 0 104).toInt ∧ (-1 : Int) = ((v.1 103) pa.toNatClampNeg).toInt) ∨ ((pa.toInt < 0 ∨ (v.1 0 104).toInt ≤ pa.toInt) ∧ (-1 : Int) = -1) from (om_11b6ac982e z2))⟩, by rw [ht9]; exact hP, hD⟩, hS.F ht9⟩) hS.2.2 dX13_octet_27
  · have z3 : (0 : Int) ≤ pa.toInt := nlt_z rfl (show (0 : Int32).toInt = (0 : Int) by decide) h1
    refine lv_iload_n hx hb dX13_octet_9 rfl (lv_at hl 1 rfl) ?_
    refine lv_aload_n hx hb dX13_octet_10 rfl (lv_at hl 0 rfl) ?_
    refine va_get (D := (dC, dI)) (ci := 16) (fs := mF ad (wA v 0 0 0)) (v := .int (v.1 0 104)) (C := RX13) (T := TX13) (N := 124) hx hb ht itX13 hown hK hP 0 rfl rfl 104 (by decide) (ht _ tw_311) (fun _ h9 => h9) rfl dX13_octet_11 ?_
    refine lv_icmp_lt (tgt := 21) hx hb dX13_octet_14 (by decide) (fun h4 => ?_) (fun h4 => ?_)
    · have z5 : pa.toInt < (v.1 0 104).toInt := lt_z rfl rfl h4
      refine lv_aload_n hx hb dX13_octet_21 rfl (lv_at hl 0 rfl) ?_
      refine va_get (D := (dC, dI)) (ci := 16) (fs := mF ad (wA v 0 0 0)) (v := .ref (ad 103)) (C := RX13) (T := TX13) (N := 124) hx hb ht itX13 hown hK hP 0 rfl rfl 103 (by decide) (ht _ tw_312) (fun _ h9 => h9) rfl dX13_octet_22 ?_
      refine lv_iload_n hx hb dX13_octet_25 rfl (lv_at hl 1 rfl) ?_
      refine va_iald (D := (dC, dI)) (f := (v.1 103)) hx hb hK hP 55 0 rfl rfl (in_y (a := pa.toInt) (b := 60) rfl (om_51058f7f87 z3) (om_f30fc6227d zsm z5) rfl) dX13_octet_26 ?_
      exact W.iret (v := ((v.1 103) pa.toNatClampNeg)) hx hb hr (fun t ht9 hW => ⟨⟨((v.1 103) pa.toNatClampNeg), (wA v 0 0 0), rfl, ⟨(FG.f (FG.rf _) 0 (by decide)), (show (0 ≤ pa.toInt ∧ pa.toInt < (v.1 0 104).toInt ∧ ((v.1 103) pa.toNatClampNeg).toInt = ((v.1 103) pa.toNatClampNeg).toInt) ∨ ((pa.toInt < 0 ∨ (v.1 0 104).toInt ≤ pa.toInt) ∧ ((v.1 103) pa.toNatClampNeg).toInt = -1) from (om_1fe1c277d2 z3 z5))⟩, by rw [ht9]; exact hP, hD⟩, hS.F ht9⟩) hS.2.2 dX13_octet_27
    · have z6 : (v.1 0 104).toInt ≤ pa.toInt := nlt_z rfl rfl h4
      refine lv_iconst (v := -1) hx hb dX13_octet_17 (by decide) ?_
      refine lv_goto (tgt := 27) hx hb dX13_octet_18 (by decide) ?_
      exact W.iret (v := (-1)) hx hb hr (fun t ht9 hW => ⟨⟨(-1), (wA v 0 0 0), rfl, ⟨(FG.f (FG.rf _) 0 (by decide)), (show (0 ≤ pa.toInt ∧ pa.toInt < (v.1 0 104).toInt ∧ (-1 : Int) = ((v.1 103) pa.toNatClampNeg).toInt) ∨ ((pa.toInt < 0 ∨ (v.1 0 104).toInt ≤ pa.toInt) ∧ (-1 : Int) = -1) from (om_6dac29df23 z6))⟩, by rw [ht9]; exact hP, hD⟩, hS.F ht9⟩) hS.2.2 dX13_octet_27
set_option maxHeartbeats 4000000 in
set_option maxRecDepth 100000 in
theorem c_m_worked_p (l : Launch) (dC : Nat → ClassId) (dI : Nat → Nat → Nat) (cI cB cZ cJ cR : ClassId) (tb : Nat → Nat) (sz : Nat) (ad : Nat → Nat) (N : Nat) (v : MS) (pa : Int32)  : Met l yX13_worked_ (Cond.code yX13_worked_ cX13_worked_ 2 (some .int) :: tw_W) ({ frames := 0, cells := 0, slots := 0, locals := 0 }) (pc_ (dC, dI) (tyS cI cB cZ cJ cR) tb (mW ad N cI cZ cJ v) sz [.ref (ad 0), .int pa]) (qi_ (dC, dI) (mW ad N cI cZ cJ v) sz (fun (r : Int32) (u : MS) => FG [0] [0] v u ∧ (Q_m_worked_p v pa r u)) (fun (u : MS) => (mW ad N cI cZ cJ u))) 0 0 (va_A (mW ad N cI cZ cJ v) sz) := by
  refine Met.ofW (cc := cX13_worked_) (maxL := 2) (ret := (some .int)) (by decide) rfl ?_
  intro p e s m args below meth c s₁ B hml hv
  obtain ⟨rfl, hsz, hP, hKK, hD0, hFx⟩ := hv
  have hK := hKK.1
  have hx := B.exec
  have hb := B.bytes
  have hr := B.returns
  have ht : ∀ w ∈ tw_W, w.before _ s = true := fun w h => atoms_spec (ws := Cond.code yX13_worked_ cX13_worked_ 2 (some .int) :: tw_W) B.pre w (List.mem_cons_of_mem _ h)
  have hown : s.vm.findClass RX13 = some m.cls := findClass_of_methodNamed B.named
  have hlocks := B.notSynchronized
  subst hsz
  unfold qi_
  have hD := hD0.self (sz := s.heap.size)
  generalize hAe : va_A (mW ad N cI cZ cJ v) s.heap.size = A at hD hFx ⊢
  have hA : ∀ q : Nat, s.heap.size ≤ q → A q := fun q h => by rw [← hAe]; exact Or.inr h
  have hS : va_S A s.heap s.heap [] := va_S.rf
  have hl := lv_entry ([.ref (ad 0), .int pa]) (n := 2) (Nat.le_of_ble_eq_true rfl)
  rw [lg_entry_eq]
  generalize (lg_sl ([.ref (ad 0), .int pa]) ++ List.replicate (2 - (lg_sl ([.ref (ad 0), .int pa])).length) Slot.unset).toArray = ls at hl ⊢
  have hl : lv_has ls 2 [(0, .ref (ad 0)), (1, .int pa)] := hl
  refine lv_aload_n hx hb dX13_worked__0 rfl (lv_at hl 0 rfl) ?_
  refine lv_aload_n hx hb dX13_worked__1 rfl (lv_at hl 0 rfl) ?_
  refine va_get (D := (dC, dI)) (ci := 16) (fs := mF ad v) (v := .int (v.1 0 123)) (C := RX13) (T := TX13) (N := 124) hx hb ht itX13 hown hK hP 0 rfl rfl 123 (by decide) (ht _ tw_272) (fun _ h9 => h9) rfl dX13_worked__2 ?_
  refine lv_if_eq (tgt := 27) hx hb dX13_worked__5 (by decide) (fun h1 => ?_) (fun h1 => ?_)
  · have z2 : (v.1 0 123).toInt = (0 : Int) := eq_z rfl (show (0 : Int32).toInt = (0 : Int) by decide) h1
    refine lv_iconst (v := 1) hx hb dX13_worked__27 (by decide) ?_
    refine lv_goto (tgt := 32) hx hb dX13_worked__28 (by decide) ?_
    refine va_put (D := (dC, dI)) (ci := 16) (fs := mF ad v) (v := .int 1) (ty := .int) (C := RX13) (T := TX13) (N := 124) hx hb ht itX13 tyX13 tyX13_ok nmX13 hown hK hP hD hS 0 rfl rfl 0 (by decide) (ht _ tw_246) (fun _ h9 => h9) rfl (by decide +kernel) rfl rfl (Nat.le_of_ble_eq_true rfl) dX13_worked__32 (fun H locs hP hD hS => ?_)
    have hP := cP_ (mw_0 ad N cI cZ cJ v 1) hP
    have hD := cD_ (mw_0 ad N cI cZ cJ v 1) hD
    refine lv_aload_n hx hb dX13_worked__35 rfl (lv_at hl 0 rfl) ?_
    refine va_get (D := (dC, dI)) (ci := 16) (fs := mF ad (wA v 0 0 1)) (v := .int 1) (C := RX13) (T := TX13) (N := 124) hx hb ht itX13 hown hK hP 0 rfl rfl 0 (by decide) (ht _ tw_246) (fun _ h9 => h9) rfl dX13_worked__36 ?_
    refine lv_if_le (tgt := 46) hx hb dX13_worked__39 (by decide) (fun k3 => absurd k3 (by decide)) (fun _ => ?_)
    refine lv_iconst (v := 0) hx hb dX13_worked__42 (by decide) ?_
    refine lv_goto (tgt := 52) hx hb dX13_worked__43 (by decide) ?_
    exact W.iret (v := 0) hx hb hr (fun t ht9 hW => ⟨⟨0, (wA v 0 0 1), rfl, ⟨(FG.f (FG.rf _) 1 (by decide)), (Or.inl ⟨z2, rfl, rfl⟩)⟩, by rw [ht9]; exact hP, hD⟩, hS.F ht9⟩) hS.2.2 dX13_worked__52
  · have z4 : (v.1 0 123).toInt ≠ (0 : Int) := ne_z rfl (show (0 : Int32).toInt = (0 : Int) by decide) h1
    refine lv_iload_n hx hb dX13_worked__8 rfl (lv_at hl 1 rfl) ?_
    refine lv_if_lt (tgt := 27) hx hb dX13_worked__9 (by decide) (fun h5 => ?_) (fun h5 => ?_)
    · have z6 : pa.toInt < (0 : Int) := lt_z rfl (show (0 : Int32).toInt = (0 : Int) by decide) h5
      refine lv_iconst (v := 1) hx hb dX13_worked__27 (by decide) ?_
      refine lv_goto (tgt := 32) hx hb dX13_worked__28 (by decide) ?_
      refine va_put (D := (dC, dI)) (ci := 16) (fs := mF ad v) (v := .int 1) (ty := .int) (C := RX13) (T := TX13) (N := 124) hx hb ht itX13 tyX13 tyX13_ok nmX13 hown hK hP hD hS 0 rfl rfl 0 (by decide) (ht _ tw_246) (fun _ h9 => h9) rfl (by decide +kernel) rfl rfl (Nat.le_of_ble_eq_true rfl) dX13_worked__32 (fun H locs hP hD hS => ?_)
      have hP := cP_ (mw_0 ad N cI cZ cJ v 1) hP
      have hD := cD_ (mw_0 ad N cI cZ cJ v 1) hD
      refine lv_aload_n hx hb dX13_worked__35 rfl (lv_at hl 0 rfl) ?_
      refine va_get (D := (dC, dI)) (ci := 16) (fs := mF ad (wA v 0 0 1)) (v := .int 1) (C := RX13) (T := TX13) (N := 124) hx hb ht itX13 hown hK hP 0 rfl rfl 0 (by decide) (ht _ tw_246) (fun _ h9 => h9) rfl dX13_worked__36 ?_
      refine lv_if_le (tgt := 46) hx hb dX13_worked__39 (by decide) (fun k7 => absurd k7 (by decide)) (fun _ => ?_)
      refine lv_iconst (v := 0) hx hb dX13_worked__42 (by decide) ?_
      refine lv_goto (tgt := 52) hx hb dX13_worked__43 (by decide) ?_
      exact W.iret (v := 0) hx hb hr (fun t ht9 hW => ⟨⟨0, (wA v 0 0 1), rfl, ⟨(FG.f (FG.rf _) 1 (by decide)), (Or.inr (⟨z4, (Or.inl ⟨z6, rfl, rfl⟩)⟩))⟩, by rw [ht9]; exact hP, hD⟩, hS.F ht9⟩) hS.2.2 dX13_worked__52
    · have z8 : (0 : Int) ≤ pa.toInt := nlt_z rfl (show (0 : Int32).toInt = (0 : Int) by decide) h5
      refine lv_iload_n hx hb dX13_worked__12 rfl (lv_at hl 1 rfl) ?_
      refine lv_aload_n hx hb dX13_worked__13 rfl (lv_at hl 0 rfl) ?_
      refine va_get (D := (dC, dI)) (ci := 16) (fs := mF ad v) (v := .int (v.1 0 119)) (C := RX13) (T := TX13) (N := 124) hx hb ht itX13 hown hK hP 0 rfl rfl 119 (by decide) (ht _ tw_309) (fun _ h9 => h9) rfl dX13_worked__14 ?_
      refine lv_icmp_ge (tgt := 27) hx hb dX13_worked__17 (by decide) (fun h9 => ?_) (fun h9 => ?_)
      · have z10 : (v.1 0 119).toInt ≤ pa.toInt := le_z rfl rfl h9
        refine lv_iconst (v := 1) hx hb dX13_worked__27 (by decide) ?_
        refine lv_goto (tgt := 32) hx hb dX13_worked__28 (by decide) ?_
        refine va_put (D := (dC, dI)) (ci := 16) (fs := mF ad v) (v := .int 1) (ty := .int) (C := RX13) (T := TX13) (N := 124) hx hb ht itX13 tyX13 tyX13_ok nmX13 hown hK hP hD hS 0 rfl rfl 0 (by decide) (ht _ tw_246) (fun _ h9 => h9) rfl (by decide +kernel) rfl rfl (Nat.le_of_ble_eq_true rfl) dX13_worked__32 (fun H locs hP hD hS => ?_)
        have hP := cP_ (mw_0 ad N cI cZ cJ v 1) hP
        have hD := cD_ (mw_0 ad N cI cZ cJ v 1) hD
        refine lv_aload_n hx hb dX13_worked__35 rfl (lv_at hl 0 rfl) ?_
        refine va_get (D := (dC, dI)) (ci := 16) (fs := mF ad (wA v 0 0 1)) (v := .int 1) (C := RX13) (T := TX13) (N := 124) hx hb ht itX13 hown hK hP 0 rfl rfl 0 (by decide) (ht _ tw_246) (fun _ h9 => h9) rfl dX13_worked__36 ?_
        refine lv_if_le (tgt := 46) hx hb dX13_worked__39 (by decide) (fun k11 => absurd k11 (by decide)) (fun _ => ?_)
        refine lv_iconst (v := 0) hx hb dX13_worked__42 (by decide) ?_
        refine lv_goto (tgt := 52) hx hb dX13_worked__43 (by decide) ?_
        exact W.iret (v := 0) hx hb hr (fun t ht9 hW => ⟨⟨0, (wA v 0 0 1), rfl, ⟨(FG.f (FG.rf _) 1 (by decide)), (Or.inr (⟨z4, (Or.inr (⟨z8, (Or.inl ⟨z10, rfl, rfl⟩)⟩))⟩))⟩, by rw [ht9]; exact hP, hD⟩, hS.F ht9⟩) hS.2.2 dX13_worked__52
      · have z12 : pa.toInt < (v.1 0 119).toInt := nle_z rfl rfl h9
        refine lv_iload_n hx hb dX13_worked__20 rfl (lv_at hl 1 rfl) ?_
        refine lv_sipush (v := 200) hx hb dX13_worked__21 (by decide) ?_
        refine lv_icmp_lt (tgt := 31) hx hb dX13_worked__24 (by decide) (fun h13 => ?_) (fun h13 => ?_)
        · have z14 : pa.toInt < (200 : Int) := lt_z rfl (show (200 : Int32).toInt = (200 : Int) by decide) h13
          refine lv_iconst (v := 0) hx hb dX13_worked__31 (by decide) ?_
          refine va_put (D := (dC, dI)) (ci := 16) (fs := mF ad v) (v := .int 0) (ty := .int) (C := RX13) (T := TX13) (N := 124) hx hb ht itX13 tyX13 tyX13_ok nmX13 hown hK hP hD hS 0 rfl rfl 0 (by decide) (ht _ tw_246) (fun _ h9 => h9) rfl (by decide +kernel) rfl rfl (Nat.le_of_ble_eq_true rfl) dX13_worked__32 (fun H locs hP hD hS => ?_)
          have hP := cP_ (mw_0 ad N cI cZ cJ v 0) hP
          have hD := cD_ (mw_0 ad N cI cZ cJ v 0) hD
          refine lv_aload_n hx hb dX13_worked__35 rfl (lv_at hl 0 rfl) ?_
          refine va_get (D := (dC, dI)) (ci := 16) (fs := mF ad (wA v 0 0 0)) (v := .int 0) (C := RX13) (T := TX13) (N := 124) hx hb ht itX13 hown hK hP 0 rfl rfl 0 (by decide) (ht _ tw_246) (fun _ h9 => h9) rfl dX13_worked__36 ?_
          refine lv_if_le (tgt := 46) hx hb dX13_worked__39 (by decide) (fun _ => ?_) (fun k15 => absurd k15 (by decide))
          refine lv_aload_n hx hb dX13_worked__46 rfl (lv_at hl 0 rfl) ?_
          refine va_get (D := (dC, dI)) (ci := 16) (fs := mF ad (wA v 0 0 0)) (v := .ref (ad 118)) (C := RX13) (T := TX13) (N := 124) hx hb ht itX13 hown hK hP 0 rfl rfl 118 (by decide) (ht _ tw_313) (fun _ h9 => h9) rfl dX13_worked__47 ?_
          refine lv_iload_n hx hb dX13_worked__50 rfl (lv_at hl 1 rfl) ?_
          refine va_iald (D := (dC, dI)) (f := (v.1 118)) hx hb hK hP 61 0 rfl rfl (in_y (a := pa.toInt) (b := 200) rfl (om_51058f7f87 z8) (om_2a12793f64 z14) rfl) dX13_worked__51 ?_
          exact W.iret (v := ((v.1 118) pa.toNatClampNeg)) hx hb hr (fun t ht9 hW => ⟨⟨((v.1 118) pa.toNatClampNeg), (wA v 0 0 0), rfl, ⟨(FG.f (FG.rf _) 0 (by decide)), (Or.inr (⟨z4, (Or.inr (⟨z8, (Or.inr (⟨z12, (Or.inl ⟨z14, rfl, rfl⟩)⟩))⟩))⟩))⟩, by rw [ht9]; exact hP, hD⟩, hS.F ht9⟩) hS.2.2 dX13_worked__52
        · have z16 : (200 : Int) ≤ pa.toInt := nlt_z rfl (show (200 : Int32).toInt = (200 : Int) by decide) h13
          refine lv_iconst (v := 1) hx hb dX13_worked__27 (by decide) ?_
          refine lv_goto (tgt := 32) hx hb dX13_worked__28 (by decide) ?_
          refine va_put (D := (dC, dI)) (ci := 16) (fs := mF ad v) (v := .int 1) (ty := .int) (C := RX13) (T := TX13) (N := 124) hx hb ht itX13 tyX13 tyX13_ok nmX13 hown hK hP hD hS 0 rfl rfl 0 (by decide) (ht _ tw_246) (fun _ h9 => h9) rfl (by decide +kernel) rfl rfl (Nat.le_of_ble_eq_true rfl) dX13_worked__32 (fun H locs hP hD hS => ?_)
          have hP := cP_ (mw_0 ad N cI cZ cJ v 1) hP
          have hD := cD_ (mw_0 ad N cI cZ cJ v 1) hD
          refine lv_aload_n hx hb dX13_worked__35 rfl (lv_at hl 0 rfl) ?_
          refine va_get (D := (dC, dI)) (ci := 16) (fs := mF ad (wA v 0 0 1)) (v := .int 1) (C := RX13) (T := TX13) (N := 124) hx hb ht itX13 hown hK hP 0 rfl rfl 0 (by decide) (ht _ tw_246) (fun _ h9 => h9) rfl dX13_worked__36 ?_
          refine lv_if_le (tgt := 46) hx hb dX13_worked__39 (by decide) (fun k17 => absurd k17 (by decide)) (fun _ => ?_)
          refine lv_iconst (v := 0) hx hb dX13_worked__42 (by decide) ?_
          refine lv_goto (tgt := 52) hx hb dX13_worked__43 (by decide) ?_
          exact W.iret (v := 0) hx hb hr (fun t ht9 hW => ⟨⟨0, (wA v 0 0 1), rfl, ⟨(FG.f (FG.rf _) 1 (by decide)), (Or.inr (⟨z4, (Or.inr (⟨z8, (Or.inr (⟨z12, (Or.inr (⟨z16, rfl, rfl⟩))⟩))⟩))⟩))⟩, by rw [ht9]; exact hP, hD⟩, hS.F ht9⟩) hS.2.2 dX13_worked__52
