theorem dX13_multiplying_0 : decode cX13_multiplying 0 = .ok (.aload_n 0, 1) := by decide +kernel
theorem dX13_multiplying_1 : decode cX13_multiplying 1 = .ok (.aload_n 0, 1) := by decide +kernel
theorem dX13_multiplying_2 : decode cX13_multiplying 2 = .ok (.getfield 104, 3) := by decide +kernel
theorem dX13_multiplying_5 : decode cX13_multiplying 5 = .ok (.putfield 484, 3) := by decide +kernel
theorem tw_202 : (.fieldLink RX13 484 "PocketCompilerModel" "multiplyAt" "I" : Cond) ∈ tw_W := tw_in (t8_10 (List.mem_of_getElem? (i := 224) rfl)) rfl
theorem dX13_multiplying_8 : decode cX13_multiplying 8 = .ok (.aload_n 0, 1) := by decide +kernel
theorem dX13_multiplying_9 : decode cX13_multiplying 9 = .ok (.bipush 6, 2) := by decide +kernel
theorem dX13_multiplying_11 : decode cX13_multiplying 11 = .ok (.iconst 0, 1) := by decide +kernel
theorem dX13_multiplying_12 : decode cX13_multiplying 12 = .ok (.iconst 0, 1) := by decide +kernel
theorem dX13_multiplying_13 : decode cX13_multiplying 13 = .ok (.invokestatic 219, 3) := by decide +kernel
theorem dX13_multiplying_16 : decode cX13_multiplying 16 = .ok (.invokevirtual 111, 3) := by decide +kernel
theorem dX13_multiplying_19 : decode cX13_multiplying 19 = .ok (.pop, 1) := by decide +kernel
theorem dX13_multiplying_20 : decode cX13_multiplying 20 = .ok (.aload_n 0, 1) := by decide +kernel
theorem dX13_multiplying_21 : decode cX13_multiplying 21 = .ok (.iconst 0, 1) := by decide +kernel
theorem dX13_multiplying_22 : decode cX13_multiplying 22 = .ok (.bipush 10, 2) := by decide +kernel
theorem dX13_multiplying_24 : decode cX13_multiplying 24 = .ok (.iconst 0, 1) := by decide +kernel
theorem dX13_multiplying_25 : decode cX13_multiplying 25 = .ok (.bipush 28, 2) := by decide +kernel
theorem dX13_multiplying_27 : decode cX13_multiplying 27 = .ok (.invokestatic 293, 3) := by decide +kernel
theorem dX13_multiplying_30 : decode cX13_multiplying 30 = .ok (.invokevirtual 111, 3) := by decide +kernel
theorem dX13_multiplying_33 : decode cX13_multiplying 33 = .ok (.istore_n 1, 1) := by decide +kernel
theorem dX13_multiplying_34 : decode cX13_multiplying 34 = .ok (.aload_n 0, 1) := by decide +kernel
theorem dX13_multiplying_35 : decode cX13_multiplying 35 = .ok (.bipush 19, 2) := by decide +kernel
theorem dX13_multiplying_37 : decode cX13_multiplying 37 = .ok (.bipush 7, 2) := by decide +kernel
theorem dX13_multiplying_39 : decode cX13_multiplying 39 = .ok (.bipush 7, 2) := by decide +kernel
theorem dX13_multiplying_41 : decode cX13_multiplying 41 = .ok (.bipush 10, 2) := by decide +kernel
theorem dX13_multiplying_43 : decode cX13_multiplying 43 = .ok (.iconst 1, 1) := by decide +kernel
theorem dX13_multiplying_44 : decode cX13_multiplying 44 = .ok (.invokestatic 97, 3) := by decide +kernel
theorem dX13_multiplying_47 : decode cX13_multiplying 47 = .ok (.invokevirtual 111, 3) := by decide +kernel
theorem dX13_multiplying_50 : decode cX13_multiplying 50 = .ok (.pop, 1) := by decide +kernel
theorem dX13_multiplying_51 : decode cX13_multiplying 51 = .ok (.aload_n 0, 1) := by decide +kernel
theorem dX13_multiplying_52 : decode cX13_multiplying 52 = .ok (.iconst 0, 1) := by decide +kernel
theorem dX13_multiplying_53 : decode cX13_multiplying 53 = .ok (.bipush 7, 2) := by decide +kernel
theorem dX13_multiplying_55 : decode cX13_multiplying 55 = .ok (.iconst 0, 1) := by decide +kernel
theorem dX13_multiplying_56 : decode cX13_multiplying 56 = .ok (.bipush 8, 2) := by decide +kernel
theorem dX13_multiplying_58 : decode cX13_multiplying 58 = .ok (.invokestatic 293, 3) := by decide +kernel
theorem dX13_multiplying_61 : decode cX13_multiplying 61 = .ok (.invokevirtual 111, 3) := by decide +kernel
theorem dX13_multiplying_64 : decode cX13_multiplying 64 = .ok (.pop, 1) := by decide +kernel
theorem dX13_multiplying_65 : decode cX13_multiplying 65 = .ok (.aload_n 0, 1) := by decide +kernel
theorem dX13_multiplying_66 : decode cX13_multiplying 66 = .ok (.iconst 0, 1) := by decide +kernel
theorem dX13_multiplying_67 : decode cX13_multiplying 67 = .ok (.iconst 0, 1) := by decide +kernel
theorem dX13_multiplying_68 : decode cX13_multiplying 68 = .ok (.bipush 6, 2) := by decide +kernel
theorem dX13_multiplying_70 : decode cX13_multiplying 70 = .ok (.bipush 6, 2) := by decide +kernel
theorem dX13_multiplying_72 : decode cX13_multiplying 72 = .ok (.iconst 5, 1) := by decide +kernel
theorem dX13_multiplying_73 : decode cX13_multiplying 73 = .ok (.invokestatic 213, 3) := by decide +kernel
theorem dX13_multiplying_76 : decode cX13_multiplying 76 = .ok (.invokevirtual 111, 3) := by decide +kernel
theorem dX13_multiplying_79 : decode cX13_multiplying 79 = .ok (.pop, 1) := by decide +kernel
theorem dX13_multiplying_80 : decode cX13_multiplying 80 = .ok (.aload_n 0, 1) := by decide +kernel
theorem dX13_multiplying_81 : decode cX13_multiplying 81 = .ok (.bipush 19, 2) := by decide +kernel
theorem dX13_multiplying_83 : decode cX13_multiplying 83 = .ok (.iconst 1, 1) := by decide +kernel
theorem dX13_multiplying_84 : decode cX13_multiplying 84 = .ok (.iconst 5, 1) := by decide +kernel
theorem dX13_multiplying_85 : decode cX13_multiplying 85 = .ok (.iconst 5, 1) := by decide +kernel
theorem dX13_multiplying_86 : decode cX13_multiplying 86 = .ok (.iconst 1, 1) := by decide +kernel
theorem dX13_multiplying_87 : decode cX13_multiplying 87 = .ok (.invokestatic 97, 3) := by decide +kernel
theorem dX13_multiplying_90 : decode cX13_multiplying 90 = .ok (.invokevirtual 111, 3) := by decide +kernel
theorem dX13_multiplying_93 : decode cX13_multiplying 93 = .ok (.pop, 1) := by decide +kernel
theorem dX13_multiplying_94 : decode cX13_multiplying 94 = .ok (.aload_n 0, 1) := by decide +kernel
theorem dX13_multiplying_95 : decode cX13_multiplying 95 = .ok (.bipush 19, 2) := by decide +kernel
theorem dX13_multiplying_97 : decode cX13_multiplying 97 = .ok (.iconst 5, 1) := by decide +kernel
theorem dX13_multiplying_98 : decode cX13_multiplying 98 = .ok (.bipush 10, 2) := by decide +kernel
theorem dX13_multiplying_100 : decode cX13_multiplying 100 = .ok (.bipush 10, 2) := by decide +kernel
theorem dX13_multiplying_102 : decode cX13_multiplying 102 = .ok (.iconst 1, 1) := by decide +kernel
theorem dX13_multiplying_103 : decode cX13_multiplying 103 = .ok (.invokestatic 97, 3) := by decide +kernel
theorem dX13_multiplying_106 : decode cX13_multiplying 106 = .ok (.invokevirtual 111, 3) := by decide +kernel
theorem dX13_multiplying_109 : decode cX13_multiplying 109 = .ok (.pop, 1) := by decide +kernel
theorem dX13_multiplying_110 : decode cX13_multiplying 110 = .ok (.aload_n 0, 1) := by decide +kernel
theorem dX13_multiplying_111 : decode cX13_multiplying 111 = .ok (.aload_n 0, 1) := by decide +kernel
theorem dX13_multiplying_112 : decode cX13_multiplying 112 = .ok (.iconst 0, 1) := by decide +kernel
theorem dX13_multiplying_113 : decode cX13_multiplying 113 = .ok (.invokevirtual 111, 3) := by decide +kernel
theorem dX13_multiplying_116 : decode cX13_multiplying 116 = .ok (.iconst 0, 1) := by decide +kernel
theorem dX13_multiplying_117 : decode cX13_multiplying 117 = .ok (.iload_n 1, 1) := by decide +kernel
theorem dX13_multiplying_118 : decode cX13_multiplying 118 = .ok (.invokevirtual 114, 3) := by decide +kernel
theorem dX13_multiplying_121 : decode cX13_multiplying 121 = .ok (.aload_n 0, 1) := by decide +kernel
theorem dX13_multiplying_122 : decode cX13_multiplying 122 = .ok (.bipush 10, 2) := by decide +kernel
theorem dX13_multiplying_124 : decode cX13_multiplying 124 = .ok (.bipush 6, 2) := by decide +kernel
theorem dX13_multiplying_126 : decode cX13_multiplying 126 = .ok (.iconst 0, 1) := by decide +kernel
theorem dX13_multiplying_127 : decode cX13_multiplying 127 = .ok (.invokestatic 219, 3) := by decide +kernel
theorem dX13_multiplying_130 : decode cX13_multiplying 130 = .ok (.invokevirtual 111, 3) := by decide +kernel
theorem dX13_multiplying_133 : decode cX13_multiplying 133 = .ok (.pop, 1) := by decide +kernel
theorem dX13_multiplying_134 : decode cX13_multiplying 134 = .ok (.aload_n 0, 1) := by decide +kernel
theorem dX13_multiplying_135 : decode cX13_multiplying 135 = .ok (.bipush 103, 2) := by decide +kernel
theorem dX13_multiplying_137 : decode cX13_multiplying 137 = .ok (.iconst 0, 1) := by decide +kernel
theorem dX13_multiplying_138 : decode cX13_multiplying 138 = .ok (.iconst 0, 1) := by decide +kernel
theorem dX13_multiplying_139 : decode cX13_multiplying 139 = .ok (.bipush 28, 2) := by decide +kernel
theorem dX13_multiplying_141 : decode cX13_multiplying 141 = .ok (.iconst 0, 1) := by decide +kernel
theorem dX13_multiplying_142 : decode cX13_multiplying 142 = .ok (.invokestatic 97, 3) := by decide +kernel
theorem dX13_multiplying_145 : decode cX13_multiplying 145 = .ok (.invokevirtual 111, 3) := by decide +kernel
theorem dX13_multiplying_148 : decode cX13_multiplying 148 = .ok (.pop, 1) := by decide +kernel
theorem dX13_multiplying_149 : decode cX13_multiplying 149 = .ok (.return_, 1) := by decide +kernel
theorem dX13_dividing_0 : decode cX13_dividing 0 = .ok (.aload_n 0, 1) := by decide +kernel
theorem dX13_dividing_1 : decode cX13_dividing 1 = .ok (.aload_n 0, 1) := by decide +kernel
theorem dX13_dividing_2 : decode cX13_dividing 2 = .ok (.getfield 104, 3) := by decide +kernel
theorem dX13_dividing_5 : decode cX13_dividing 5 = .ok (.putfield 487, 3) := by decide +kernel
theorem tw_203 : (.fieldLink RX13 487 "PocketCompilerModel" "divideAt" "I" : Cond) ∈ tw_W := tw_in (t8_10 (List.mem_of_getElem? (i := 225) rfl)) rfl
theorem dX13_dividing_8 : decode cX13_dividing 8 = .ok (.aload_n 0, 1) := by decide +kernel
theorem dX13_dividing_9 : decode cX13_dividing 9 = .ok (.iconst 1, 1) := by decide +kernel
theorem dX13_dividing_10 : decode cX13_dividing 10 = .ok (.bipush 10, 2) := by decide +kernel
theorem dX13_dividing_12 : decode cX13_dividing 12 = .ok (.iconst 0, 1) := by decide +kernel
theorem dX13_dividing_13 : decode cX13_dividing 13 = .ok (.bipush 12, 2) := by decide +kernel
theorem dX13_dividing_15 : decode cX13_dividing 15 = .ok (.invokestatic 293, 3) := by decide +kernel
theorem dX13_dividing_18 : decode cX13_dividing 18 = .ok (.invokevirtual 111, 3) := by decide +kernel
theorem dX13_dividing_21 : decode cX13_dividing 21 = .ok (.pop, 1) := by decide +kernel
theorem dX13_dividing_22 : decode cX13_dividing 22 = .ok (.aload_n 0, 1) := by decide +kernel
theorem dX13_dividing_23 : decode cX13_dividing 23 = .ok (.bipush 17, 2) := by decide +kernel
theorem dX13_dividing_25 : decode cX13_dividing 25 = .ok (.iconst 0, 1) := by decide +kernel
theorem dX13_dividing_26 : decode cX13_dividing 26 = .ok (.iconst 2, 1) := by decide +kernel
theorem dX13_dividing_27 : decode cX13_dividing 27 = .ok (.invokestatic 219, 3) := by decide +kernel
theorem dX13_dividing_30 : decode cX13_dividing 30 = .ok (.invokevirtual 111, 3) := by decide +kernel
theorem dX13_dividing_33 : decode cX13_dividing 33 = .ok (.pop, 1) := by decide +kernel
theorem dX13_dividing_34 : decode cX13_dividing 34 = .ok (.aload_n 0, 1) := by decide +kernel
theorem dX13_dividing_35 : decode cX13_dividing 35 = .ok (.ldc_w 297, 3) := by decide +kernel
theorem dX13_dividing_38 : decode cX13_dividing 38 = .ok (.invokevirtual 111, 3) := by decide +kernel
theorem dX13_dividing_41 : decode cX13_dividing 41 = .ok (.pop, 1) := by decide +kernel
theorem dX13_dividing_42 : decode cX13_dividing 42 = .ok (.aload_n 0, 1) := by decide +kernel
theorem dX13_dividing_43 : decode cX13_dividing 43 = .ok (.iconst 0, 1) := by decide +kernel
theorem dX13_dividing_44 : decode cX13_dividing 44 = .ok (.iconst 4, 1) := by decide +kernel
theorem dX13_dividing_45 : decode cX13_dividing 45 = .ok (.bipush 29, 2) := by decide +kernel
theorem dX13_dividing_47 : decode cX13_dividing 47 = .ok (.iconst 5, 1) := by decide +kernel
theorem dX13_dividing_48 : decode cX13_dividing 48 = .ok (.bipush 10, 2) := by decide +kernel
theorem dX13_dividing_50 : decode cX13_dividing 50 = .ok (.invokestatic 213, 3) := by decide +kernel
theorem dX13_dividing_53 : decode cX13_dividing 53 = .ok (.invokevirtual 111, 3) := by decide +kernel
theorem dX13_dividing_56 : decode cX13_dividing 56 = .ok (.pop, 1) := by decide +kernel
theorem dX13_dividing_57 : decode cX13_dividing 57 = .ok (.aload_n 0, 1) := by decide +kernel
theorem dX13_dividing_58 : decode cX13_dividing 58 = .ok (.bipush 30, 2) := by decide +kernel
theorem dX13_dividing_60 : decode cX13_dividing 60 = .ok (.iconst 5, 1) := by decide +kernel
theorem dX13_dividing_61 : decode cX13_dividing 61 = .ok (.iconst 0, 1) := by decide +kernel
theorem dX13_dividing_62 : decode cX13_dividing 62 = .ok (.invokestatic 219, 3) := by decide +kernel
theorem dX13_dividing_65 : decode cX13_dividing 65 = .ok (.invokevirtual 111, 3) := by decide +kernel
theorem dX13_dividing_68 : decode cX13_dividing 68 = .ok (.pop, 1) := by decide +kernel
theorem dX13_dividing_69 : decode cX13_dividing 69 = .ok (.aload_n 0, 1) := by decide +kernel
theorem dX13_dividing_70 : decode cX13_dividing 70 = .ok (.iconst 5, 1) := by decide +kernel
theorem dX13_dividing_71 : decode cX13_dividing 71 = .ok (.iconst 5, 1) := by decide +kernel
theorem dX13_dividing_72 : decode cX13_dividing 72 = .ok (.iconst 0, 1) := by decide +kernel
theorem dX13_dividing_73 : decode cX13_dividing 73 = .ok (.bipush 8, 2) := by decide +kernel
theorem dX13_dividing_75 : decode cX13_dividing 75 = .ok (.invokestatic 293, 3) := by decide +kernel
theorem dX13_dividing_78 : decode cX13_dividing 78 = .ok (.invokevirtual 111, 3) := by decide +kernel
theorem dX13_dividing_81 : decode cX13_dividing 81 = .ok (.pop, 1) := by decide +kernel
theorem dX13_dividing_82 : decode cX13_dividing 82 = .ok (.aload_n 0, 1) := by decide +kernel
theorem dX13_dividing_83 : decode cX13_dividing 83 = .ok (.bipush 32, 2) := by decide +kernel
theorem dX13_dividing_85 : decode cX13_dividing 85 = .ok (.iconst 0, 1) := by decide +kernel
theorem dX13_dividing_86 : decode cX13_dividing 86 = .ok (.iconst 5, 1) := by decide +kernel
theorem dX13_dividing_87 : decode cX13_dividing 87 = .ok (.iconst 0, 1) := by decide +kernel
theorem dX13_dividing_88 : decode cX13_dividing 88 = .ok (.iconst 5, 1) := by decide +kernel
theorem dX13_dividing_89 : decode cX13_dividing 89 = .ok (.invokestatic 213, 3) := by decide +kernel
theorem dX13_dividing_92 : decode cX13_dividing 92 = .ok (.invokevirtual 111, 3) := by decide +kernel
theorem dX13_dividing_95 : decode cX13_dividing 95 = .ok (.pop, 1) := by decide +kernel
theorem dX13_dividing_96 : decode cX13_dividing 96 = .ok (.aload_n 0, 1) := by decide +kernel
theorem dX13_dividing_97 : decode cX13_dividing 97 = .ok (.iconst 5, 1) := by decide +kernel
theorem dX13_dividing_98 : decode cX13_dividing 98 = .ok (.bipush 10, 2) := by decide +kernel
theorem dX13_dividing_100 : decode cX13_dividing 100 = .ok (.iconst 0, 1) := by decide +kernel
theorem dX13_dividing_101 : decode cX13_dividing 101 = .ok (.bipush 8, 2) := by decide +kernel
theorem dX13_dividing_103 : decode cX13_dividing 103 = .ok (.invokestatic 293, 3) := by decide +kernel
theorem dX13_dividing_106 : decode cX13_dividing 106 = .ok (.invokevirtual 111, 3) := by decide +kernel
theorem dX13_dividing_109 : decode cX13_dividing 109 = .ok (.pop, 1) := by decide +kernel
theorem dX13_dividing_110 : decode cX13_dividing 110 = .ok (.aload_n 0, 1) := by decide +kernel
theorem dX13_dividing_111 : decode cX13_dividing 111 = .ok (.bipush 32, 2) := by decide +kernel
theorem dX13_dividing_113 : decode cX13_dividing 113 = .ok (.iconst 0, 1) := by decide +kernel
theorem dX13_dividing_114 : decode cX13_dividing 114 = .ok (.bipush 10, 2) := by decide +kernel
theorem dX13_dividing_116 : decode cX13_dividing 116 = .ok (.iconst 0, 1) := by decide +kernel
theorem dX13_dividing_117 : decode cX13_dividing 117 = .ok (.bipush 10, 2) := by decide +kernel
theorem dX13_dividing_119 : decode cX13_dividing 119 = .ok (.invokestatic 213, 3) := by decide +kernel
theorem dX13_dividing_122 : decode cX13_dividing 122 = .ok (.invokevirtual 111, 3) := by decide +kernel
theorem dX13_dividing_125 : decode cX13_dividing 125 = .ok (.pop, 1) := by decide +kernel
theorem dX13_dividing_126 : decode cX13_dividing 126 = .ok (.aload_n 0, 1) := by decide +kernel
theorem dX13_dividing_127 : decode cX13_dividing 127 = .ok (.bipush 6, 2) := by decide +kernel
theorem dX13_dividing_129 : decode cX13_dividing 129 = .ok (.iconst 0, 1) := by decide +kernel
theorem dX13_dividing_130 : decode cX13_dividing 130 = .ok (.iconst 0, 1) := by decide +kernel
theorem dX13_dividing_131 : decode cX13_dividing 131 = .ok (.invokestatic 219, 3) := by decide +kernel
theorem dX13_dividing_134 : decode cX13_dividing 134 = .ok (.invokevirtual 111, 3) := by decide +kernel
theorem dX13_dividing_137 : decode cX13_dividing 137 = .ok (.pop, 1) := by decide +kernel
theorem dX13_dividing_138 : decode cX13_dividing 138 = .ok (.aload_n 0, 1) := by decide +kernel
theorem dX13_dividing_139 : decode cX13_dividing 139 = .ok (.bipush 7, 2) := by decide +kernel
theorem dX13_dividing_141 : decode cX13_dividing 141 = .ok (.iconst 0, 1) := by decide +kernel
theorem dX13_dividing_142 : decode cX13_dividing 142 = .ok (.bipush 32, 2) := by decide +kernel
theorem dX13_dividing_144 : decode cX13_dividing 144 = .ok (.invokestatic 219, 3) := by decide +kernel
theorem dX13_dividing_147 : decode cX13_dividing 147 = .ok (.invokevirtual 111, 3) := by decide +kernel
theorem dX13_dividing_150 : decode cX13_dividing 150 = .ok (.pop, 1) := by decide +kernel
theorem dX13_dividing_151 : decode cX13_dividing 151 = .ok (.aload_n 0, 1) := by decide +kernel
theorem dX13_dividing_152 : decode cX13_dividing 152 = .ok (.bipush 19, 2) := by decide +kernel
theorem dX13_dividing_154 : decode cX13_dividing 154 = .ok (.iconst 5, 1) := by decide +kernel
theorem dX13_dividing_155 : decode cX13_dividing 155 = .ok (.bipush 31, 2) := by decide +kernel
theorem dX13_dividing_157 : decode cX13_dividing 157 = .ok (.iconst 5, 1) := by decide +kernel
theorem dX13_dividing_158 : decode cX13_dividing 158 = .ok (.bipush 31, 2) := by decide +kernel
theorem dX13_dividing_160 : decode cX13_dividing 160 = .ok (.invokestatic 97, 3) := by decide +kernel
theorem dX13_dividing_163 : decode cX13_dividing 163 = .ok (.invokevirtual 111, 3) := by decide +kernel
theorem dX13_dividing_166 : decode cX13_dividing 166 = .ok (.pop, 1) := by decide +kernel
theorem dX13_dividing_167 : decode cX13_dividing 167 = .ok (.aload_n 0, 1) := by decide +kernel
theorem dX13_dividing_168 : decode cX13_dividing 168 = .ok (.bipush 19, 2) := by decide +kernel
theorem dX13_dividing_170 : decode cX13_dividing 170 = .ok (.iconst 1, 1) := by decide +kernel
theorem dX13_dividing_171 : decode cX13_dividing 171 = .ok (.iconst 5, 1) := by decide +kernel
theorem dX13_dividing_172 : decode cX13_dividing 172 = .ok (.iconst 5, 1) := by decide +kernel
theorem dX13_dividing_173 : decode cX13_dividing 173 = .ok (.iconst 1, 1) := by decide +kernel
theorem dX13_dividing_174 : decode cX13_dividing 174 = .ok (.invokestatic 97, 3) := by decide +kernel
theorem dX13_dividing_177 : decode cX13_dividing 177 = .ok (.invokevirtual 111, 3) := by decide +kernel
theorem dX13_dividing_180 : decode cX13_dividing 180 = .ok (.pop, 1) := by decide +kernel
theorem dX13_dividing_181 : decode cX13_dividing 181 = .ok (.aload_n 0, 1) := by decide +kernel
theorem dX13_dividing_182 : decode cX13_dividing 182 = .ok (.bipush 19, 2) := by decide +kernel
theorem dX13_dividing_184 : decode cX13_dividing 184 = .ok (.iconst 1, 1) := by decide +kernel
theorem dX13_dividing_185 : decode cX13_dividing 185 = .ok (.bipush 6, 2) := by decide +kernel
theorem dX13_dividing_187 : decode cX13_dividing 187 = .ok (.bipush 6, 2) := by decide +kernel
theorem dX13_dividing_189 : decode cX13_dividing 189 = .ok (.iconst 1, 1) := by decide +kernel
theorem dX13_dividing_190 : decode cX13_dividing 190 = .ok (.invokestatic 97, 3) := by decide +kernel
theorem dX13_dividing_193 : decode cX13_dividing 193 = .ok (.invokevirtual 111, 3) := by decide +kernel
theorem dX13_dividing_196 : decode cX13_dividing 196 = .ok (.pop, 1) := by decide +kernel
theorem dX13_dividing_197 : decode cX13_dividing 197 = .ok (.aload_n 0, 1) := by decide +kernel
theorem dX13_dividing_198 : decode cX13_dividing 198 = .ok (.iconst 0, 1) := by decide +kernel
theorem dX13_dividing_199 : decode cX13_dividing 199 = .ok (.bipush 6, 2) := by decide +kernel
theorem dX13_dividing_201 : decode cX13_dividing 201 = .ok (.bipush 6, 2) := by decide +kernel
theorem dX13_dividing_203 : decode cX13_dividing 203 = .ok (.bipush 6, 2) := by decide +kernel
theorem dX13_dividing_205 : decode cX13_dividing 205 = .ok (.bipush 31, 2) := by decide +kernel
theorem dX13_dividing_207 : decode cX13_dividing 207 = .ok (.invokestatic 213, 3) := by decide +kernel
theorem dX13_dividing_210 : decode cX13_dividing 210 = .ok (.invokevirtual 111, 3) := by decide +kernel
theorem dX13_dividing_213 : decode cX13_dividing 213 = .ok (.pop, 1) := by decide +kernel
theorem dX13_dividing_214 : decode cX13_dividing 214 = .ok (.aload_n 0, 1) := by decide +kernel
theorem dX13_dividing_215 : decode cX13_dividing 215 = .ok (.bipush 6, 2) := by decide +kernel
theorem dX13_dividing_217 : decode cX13_dividing 217 = .ok (.bipush 6, 2) := by decide +kernel
theorem dX13_dividing_219 : decode cX13_dividing 219 = .ok (.bipush 10, 2) := by decide +kernel
theorem dX13_dividing_221 : decode cX13_dividing 221 = .ok (.bipush 12, 2) := by decide +kernel
theorem dX13_dividing_223 : decode cX13_dividing 223 = .ok (.invokestatic 293, 3) := by decide +kernel
theorem dX13_dividing_226 : decode cX13_dividing 226 = .ok (.invokevirtual 111, 3) := by decide +kernel
theorem dX13_dividing_229 : decode cX13_dividing 229 = .ok (.pop, 1) := by decide +kernel
theorem dX13_dividing_230 : decode cX13_dividing 230 = .ok (.aload_n 0, 1) := by decide +kernel
theorem dX13_dividing_231 : decode cX13_dividing 231 = .ok (.bipush 32, 2) := by decide +kernel
theorem dX13_dividing_233 : decode cX13_dividing 233 = .ok (.iconst 0, 1) := by decide +kernel
theorem dX13_dividing_234 : decode cX13_dividing 234 = .ok (.bipush 6, 2) := by decide +kernel
theorem dX13_dividing_236 : decode cX13_dividing 236 = .ok (.bipush 6, 2) := by decide +kernel
theorem dX13_dividing_238 : decode cX13_dividing 238 = .ok (.bipush 10, 2) := by decide +kernel
theorem dX13_dividing_240 : decode cX13_dividing 240 = .ok (.invokestatic 213, 3) := by decide +kernel
theorem dX13_dividing_243 : decode cX13_dividing 243 = .ok (.invokevirtual 111, 3) := by decide +kernel
theorem dX13_dividing_246 : decode cX13_dividing 246 = .ok (.pop, 1) := by decide +kernel
theorem dX13_dividing_247 : decode cX13_dividing 247 = .ok (.aload_n 0, 1) := by decide +kernel
theorem dX13_dividing_248 : decode cX13_dividing 248 = .ok (.bipush 19, 2) := by decide +kernel
theorem dX13_dividing_250 : decode cX13_dividing 250 = .ok (.bipush 6, 2) := by decide +kernel
theorem dX13_dividing_252 : decode cX13_dividing 252 = .ok (.iconst 5, 1) := by decide +kernel
theorem dX13_dividing_253 : decode cX13_dividing 253 = .ok (.iconst 5, 1) := by decide +kernel
theorem dX13_dividing_254 : decode cX13_dividing 254 = .ok (.iconst 1, 1) := by decide +kernel
theorem dX13_dividing_255 : decode cX13_dividing 255 = .ok (.invokestatic 97, 3) := by decide +kernel
theorem dX13_dividing_258 : decode cX13_dividing 258 = .ok (.invokevirtual 111, 3) := by decide +kernel
theorem dX13_dividing_261 : decode cX13_dividing 261 = .ok (.pop, 1) := by decide +kernel
theorem dX13_dividing_262 : decode cX13_dividing 262 = .ok (.aload_n 0, 1) := by decide +kernel
theorem dX13_dividing_263 : decode cX13_dividing 263 = .ok (.bipush 7, 2) := by decide +kernel
theorem dX13_dividing_265 : decode cX13_dividing 265 = .ok (.bipush 7, 2) := by decide +kernel
theorem dX13_dividing_267 : decode cX13_dividing 267 = .ok (.iconst (-1), 1) := by decide +kernel
theorem dX13_dividing_268 : decode cX13_dividing 268 = .ok (.invokestatic 219, 3) := by decide +kernel
theorem dX13_dividing_271 : decode cX13_dividing 271 = .ok (.invokevirtual 111, 3) := by decide +kernel
theorem dX13_dividing_274 : decode cX13_dividing 274 = .ok (.pop, 1) := by decide +kernel
theorem dX13_dividing_275 : decode cX13_dividing 275 = .ok (.aload_n 0, 1) := by decide +kernel
theorem dX13_dividing_276 : decode cX13_dividing 276 = .ok (.iconst 1, 1) := by decide +kernel
theorem dX13_dividing_277 : decode cX13_dividing 277 = .ok (.bipush 7, 2) := by decide +kernel
theorem dX13_dividing_279 : decode cX13_dividing 279 = .ok (.iconst 0, 1) := by decide +kernel
theorem dX13_dividing_280 : decode cX13_dividing 280 = .ok (.bipush (-32), 2) := by decide +kernel
theorem dX13_dividing_282 : decode cX13_dividing 282 = .ok (.invokestatic 293, 3) := by decide +kernel
theorem dX13_dividing_285 : decode cX13_dividing 285 = .ok (.invokevirtual 111, 3) := by decide +kernel
theorem dX13_dividing_288 : decode cX13_dividing 288 = .ok (.pop, 1) := by decide +kernel
theorem dX13_dividing_289 : decode cX13_dividing 289 = .ok (.aload_n 0, 1) := by decide +kernel
theorem dX13_dividing_290 : decode cX13_dividing 290 = .ok (.bipush 10, 2) := by decide +kernel
theorem dX13_dividing_292 : decode cX13_dividing 292 = .ok (.iconst 5, 1) := by decide +kernel
theorem dX13_dividing_293 : decode cX13_dividing 293 = .ok (.iconst 0, 1) := by decide +kernel
theorem dX13_dividing_294 : decode cX13_dividing 294 = .ok (.invokestatic 219, 3) := by decide +kernel
theorem dX13_dividing_297 : decode cX13_dividing 297 = .ok (.invokevirtual 111, 3) := by decide +kernel
theorem dX13_dividing_300 : decode cX13_dividing 300 = .ok (.pop, 1) := by decide +kernel
theorem dX13_dividing_301 : decode cX13_dividing 301 = .ok (.aload_n 0, 1) := by decide +kernel
theorem dX13_dividing_302 : decode cX13_dividing 302 = .ok (.iconst 5, 1) := by decide +kernel
theorem dX13_dividing_303 : decode cX13_dividing 303 = .ok (.bipush 29, 2) := by decide +kernel
theorem dX13_dividing_305 : decode cX13_dividing 305 = .ok (.iconst 0, 1) := by decide +kernel
theorem dX13_dividing_306 : decode cX13_dividing 306 = .ok (.bipush 8, 2) := by decide +kernel
theorem dX13_dividing_308 : decode cX13_dividing 308 = .ok (.invokestatic 293, 3) := by decide +kernel
theorem dX13_dividing_311 : decode cX13_dividing 311 = .ok (.invokevirtual 111, 3) := by decide +kernel
theorem dX13_dividing_314 : decode cX13_dividing 314 = .ok (.pop, 1) := by decide +kernel
theorem dX13_dividing_315 : decode cX13_dividing 315 = .ok (.aload_n 0, 1) := by decide +kernel
theorem dX13_dividing_316 : decode cX13_dividing 316 = .ok (.bipush 32, 2) := by decide +kernel
theorem dX13_dividing_318 : decode cX13_dividing 318 = .ok (.iconst 0, 1) := by decide +kernel
theorem dX13_dividing_319 : decode cX13_dividing 319 = .ok (.bipush 10, 2) := by decide +kernel
theorem dX13_dividing_321 : decode cX13_dividing 321 = .ok (.iconst 0, 1) := by decide +kernel
theorem dX13_dividing_322 : decode cX13_dividing 322 = .ok (.bipush 10, 2) := by decide +kernel
theorem dX13_dividing_324 : decode cX13_dividing 324 = .ok (.invokestatic 213, 3) := by decide +kernel
theorem dX13_dividing_327 : decode cX13_dividing 327 = .ok (.invokevirtual 111, 3) := by decide +kernel
theorem dX13_dividing_330 : decode cX13_dividing 330 = .ok (.pop, 1) := by decide +kernel
theorem dX13_dividing_331 : decode cX13_dividing 331 = .ok (.aload_n 0, 1) := by decide +kernel
theorem dX13_dividing_332 : decode cX13_dividing 332 = .ok (.iconst 5, 1) := by decide +kernel
theorem dX13_dividing_333 : decode cX13_dividing 333 = .ok (.bipush 30, 2) := by decide +kernel
theorem dX13_dividing_335 : decode cX13_dividing 335 = .ok (.iconst 0, 1) := by decide +kernel
theorem dX13_dividing_336 : decode cX13_dividing 336 = .ok (.bipush 8, 2) := by decide +kernel
theorem dX13_dividing_338 : decode cX13_dividing 338 = .ok (.invokestatic 293, 3) := by decide +kernel
theorem dX13_dividing_341 : decode cX13_dividing 341 = .ok (.invokevirtual 111, 3) := by decide +kernel
theorem dX13_dividing_344 : decode cX13_dividing 344 = .ok (.pop, 1) := by decide +kernel
theorem dX13_dividing_345 : decode cX13_dividing 345 = .ok (.aload_n 0, 1) := by decide +kernel
theorem dX13_dividing_346 : decode cX13_dividing 346 = .ok (.bipush 32, 2) := by decide +kernel
theorem dX13_dividing_348 : decode cX13_dividing 348 = .ok (.iconst 0, 1) := by decide +kernel
theorem dX13_dividing_349 : decode cX13_dividing 349 = .ok (.bipush 6, 2) := by decide +kernel
theorem dX13_dividing_351 : decode cX13_dividing 351 = .ok (.iconst 0, 1) := by decide +kernel
theorem dX13_dividing_352 : decode cX13_dividing 352 = .ok (.bipush 6, 2) := by decide +kernel
theorem dX13_dividing_354 : decode cX13_dividing 354 = .ok (.invokestatic 213, 3) := by decide +kernel
theorem dX13_dividing_357 : decode cX13_dividing 357 = .ok (.invokevirtual 111, 3) := by decide +kernel
theorem dX13_dividing_360 : decode cX13_dividing 360 = .ok (.pop, 1) := by decide +kernel
theorem dX13_dividing_361 : decode cX13_dividing 361 = .ok (.aload_n 0, 1) := by decide +kernel
theorem dX13_dividing_362 : decode cX13_dividing 362 = .ok (.bipush 103, 2) := by decide +kernel
theorem dX13_dividing_364 : decode cX13_dividing 364 = .ok (.iconst 0, 1) := by decide +kernel
theorem dX13_dividing_365 : decode cX13_dividing 365 = .ok (.iconst 0, 1) := by decide +kernel
theorem dX13_dividing_366 : decode cX13_dividing 366 = .ok (.bipush 28, 2) := by decide +kernel
theorem dX13_dividing_368 : decode cX13_dividing 368 = .ok (.iconst 0, 1) := by decide +kernel
theorem dX13_dividing_369 : decode cX13_dividing 369 = .ok (.invokestatic 97, 3) := by decide +kernel
theorem dX13_dividing_372 : decode cX13_dividing 372 = .ok (.invokevirtual 111, 3) := by decide +kernel
theorem dX13_dividing_375 : decode cX13_dividing 375 = .ok (.pop, 1) := by decide +kernel
theorem dX13_dividing_376 : decode cX13_dividing 376 = .ok (.return_, 1) := by decide +kernel
theorem dX13_addresses_0 : decode cX13_addresses 0 = .ok (.iconst 0, 1) := by decide +kernel
theorem dX13_addresses_1 : decode cX13_addresses 1 = .ok (.istore_n 1, 1) := by decide +kernel
theorem dX13_addresses_2 : decode cX13_addresses 2 = .ok (.iload_n 1, 1) := by decide +kernel
theorem dX13_addresses_3 : decode cX13_addresses 3 = .ok (.aload_n 0, 1) := by decide +kernel
theorem dX13_addresses_4 : decode cX13_addresses 4 = .ok (.getfield 201, 3) := by decide +kernel
theorem dX13_addresses_7 : decode cX13_addresses 7 = .ok (.if_icmp .ge 152, 3) := by decide +kernel
theorem dX13_addresses_159 : decode cX13_addresses 159 = .ok (.iconst 0, 1) := by decide +kernel
theorem dX13_addresses_160 : decode cX13_addresses 160 = .ok (.istore_n 1, 1) := by decide +kernel
theorem dX13_addresses_161 : decode cX13_addresses 161 = .ok (.iload_n 1, 1) := by decide +kernel
theorem dX13_addresses_162 : decode cX13_addresses 162 = .ok (.aload_n 0, 1) := by decide +kernel
theorem dX13_addresses_163 : decode cX13_addresses 163 = .ok (.getfield 192, 3) := by decide +kernel
theorem dX13_addresses_166 : decode cX13_addresses 166 = .ok (.if_icmp .ge 61, 3) := by decide +kernel
theorem dX13_addresses_227 : decode cX13_addresses 227 = .ok (.return_, 1) := by decide +kernel
theorem dX13_addresses_169 : decode cX13_addresses 169 = .ok (.aload_n 0, 1) := by decide +kernel
theorem dX13_addresses_170 : decode cX13_addresses 170 = .ok (.getfield 101, 3) := by decide +kernel
theorem dX13_addresses_173 : decode cX13_addresses 173 = .ok (.aload_n 0, 1) := by decide +kernel
theorem dX13_addresses_174 : decode cX13_addresses 174 = .ok (.getfield 469, 3) := by decide +kernel
theorem dX13_addresses_177 : decode cX13_addresses 177 = .ok (.iload_n 1, 1) := by decide +kernel
theorem dX13_addresses_178 : decode cX13_addresses 178 = .ok (.iaload, 1) := by decide +kernel
theorem dX13_addresses_179 : decode cX13_addresses 179 = .ok (.iconst 1, 1) := by decide +kernel
theorem dX13_addresses_180 : decode cX13_addresses 180 = .ok (.iadd, 1) := by decide +kernel
theorem dX13_addresses_181 : decode cX13_addresses 181 = .ok (.bipush 6, 2) := by decide +kernel
theorem dX13_addresses_183 : decode cX13_addresses 183 = .ok (.aload_n 0, 1) := by decide +kernel
theorem dX13_addresses_184 : decode cX13_addresses 184 = .ok (.getfield 490, 3) := by decide +kernel
theorem tw_204 : (.fieldLink RX13 490 "PocketCompilerModel" "limit" "I" : Cond) ∈ tw_W := tw_in (t8_10 (List.mem_of_getElem? (i := 226) rfl)) rfl
theorem dX13_addresses_187 : decode cX13_addresses 187 = .ok (.invokestatic 94, 3) := by decide +kernel
theorem dX13_addresses_190 : decode cX13_addresses 190 = .ok (.invokestatic 223, 3) := by decide +kernel
theorem dX13_addresses_193 : decode cX13_addresses 193 = .ok (.iastore, 1) := by decide +kernel
theorem dX13_addresses_194 : decode cX13_addresses 194 = .ok (.aload_n 0, 1) := by decide +kernel
theorem dX13_addresses_195 : decode cX13_addresses 195 = .ok (.getfield 101, 3) := by decide +kernel
theorem dX13_addresses_198 : decode cX13_addresses 198 = .ok (.aload_n 0, 1) := by decide +kernel
theorem dX13_addresses_199 : decode cX13_addresses 199 = .ok (.getfield 469, 3) := by decide +kernel
theorem dX13_addresses_202 : decode cX13_addresses 202 = .ok (.iload_n 1, 1) := by decide +kernel
theorem dX13_addresses_203 : decode cX13_addresses 203 = .ok (.iaload, 1) := by decide +kernel
theorem dX13_addresses_204 : decode cX13_addresses 204 = .ok (.iconst 2, 1) := by decide +kernel
theorem dX13_addresses_205 : decode cX13_addresses 205 = .ok (.iadd, 1) := by decide +kernel
theorem dX13_addresses_206 : decode cX13_addresses 206 = .ok (.bipush 6, 2) := by decide +kernel
theorem dX13_addresses_208 : decode cX13_addresses 208 = .ok (.bipush 6, 2) := by decide +kernel
theorem dX13_addresses_210 : decode cX13_addresses 210 = .ok (.aload_n 0, 1) := by decide +kernel
theorem dX13_addresses_211 : decode cX13_addresses 211 = .ok (.getfield 490, 3) := by decide +kernel
theorem dX13_addresses_214 : decode cX13_addresses 214 = .ok (.invokestatic 226, 3) := by decide +kernel
theorem dX13_addresses_217 : decode cX13_addresses 217 = .ok (.invokestatic 219, 3) := by decide +kernel
theorem dX13_addresses_220 : decode cX13_addresses 220 = .ok (.iastore, 1) := by decide +kernel
theorem dX13_addresses_221 : decode cX13_addresses 221 = .ok (.iinc 1 1, 3) := by decide +kernel
theorem dX13_addresses_224 : decode cX13_addresses 224 = .ok (.goto (-63), 3) := by decide +kernel
theorem dX13_addresses_10 : decode cX13_addresses 10 = .ok (.aload_n 0, 1) := by decide +kernel
theorem dX13_addresses_11 : decode cX13_addresses 11 = .ok (.getfield 198, 3) := by decide +kernel
theorem dX13_addresses_14 : decode cX13_addresses 14 = .ok (.iload_n 1, 1) := by decide +kernel
theorem dX13_addresses_15 : decode cX13_addresses 15 = .ok (.iaload, 1) := by decide +kernel
theorem dX13_addresses_16 : decode cX13_addresses 16 = .ok (.istore_n 2, 1) := by decide +kernel
theorem dX13_addresses_17 : decode cX13_addresses 17 = .ok (.aload_n 0, 1) := by decide +kernel
theorem dX13_addresses_18 : decode cX13_addresses 18 = .ok (.getfield 207, 3) := by decide +kernel
theorem dX13_addresses_21 : decode cX13_addresses 21 = .ok (.iload_n 1, 1) := by decide +kernel
theorem dX13_addresses_22 : decode cX13_addresses 22 = .ok (.iaload, 1) := by decide +kernel
theorem dX13_addresses_23 : decode cX13_addresses 23 = .ok (.iconst 5, 1) := by decide +kernel
theorem dX13_addresses_24 : decode cX13_addresses 24 = .ok (.if_icmp .ne 34, 3) := by decide +kernel
theorem dX13_addresses_58 : decode cX13_addresses 58 = .ok (.iconst 4, 1) := by decide +kernel
theorem dX13_addresses_59 : decode cX13_addresses 59 = .ok (.aload_n 0, 1) := by decide +kernel
theorem dX13_addresses_60 : decode cX13_addresses 60 = .ok (.getfield 104, 3) := by decide +kernel
theorem dX13_addresses_63 : decode cX13_addresses 63 = .ok (.imul, 1) := by decide +kernel
theorem dX13_addresses_64 : decode cX13_addresses 64 = .ok (.iconst 4, 1) := by decide +kernel
theorem dX13_addresses_65 : decode cX13_addresses 65 = .ok (.aload_n 0, 1) := by decide +kernel
theorem dX13_addresses_66 : decode cX13_addresses 66 = .ok (.getfield 275, 3) := by decide +kernel
theorem dX13_addresses_69 : decode cX13_addresses 69 = .ok (.aload_n 0, 1) := by decide +kernel
theorem dX13_addresses_70 : decode cX13_addresses 70 = .ok (.getfield 204, 3) := by decide +kernel
theorem dX13_addresses_73 : decode cX13_addresses 73 = .ok (.iload_n 1, 1) := by decide +kernel
theorem dX13_addresses_74 : decode cX13_addresses 74 = .ok (.iaload, 1) := by decide +kernel
theorem dX13_addresses_75 : decode cX13_addresses 75 = .ok (.iaload, 1) := by decide +kernel
theorem dX13_addresses_76 : decode cX13_addresses 76 = .ok (.imul, 1) := by decide +kernel
theorem dX13_addresses_77 : decode cX13_addresses 77 = .ok (.iadd, 1) := by decide +kernel
theorem dX13_addresses_78 : decode cX13_addresses 78 = .ok (.istore_n 3, 1) := by decide +kernel
theorem dX13_addresses_79 : decode cX13_addresses 79 = .ok (.aload_n 0, 1) := by decide +kernel
theorem dX13_addresses_80 : decode cX13_addresses 80 = .ok (.getfield 207, 3) := by decide +kernel
theorem dX13_addresses_83 : decode cX13_addresses 83 = .ok (.iload_n 1, 1) := by decide +kernel
theorem dX13_addresses_84 : decode cX13_addresses 84 = .ok (.iaload, 1) := by decide +kernel
theorem dX13_addresses_85 : decode cX13_addresses 85 = .ok (.ifCond .ne 22, 3) := by decide +kernel
theorem dX13_addresses_107 : decode cX13_addresses 107 = .ok (.aload_n 0, 1) := by decide +kernel
theorem dX13_addresses_108 : decode cX13_addresses 108 = .ok (.getfield 207, 3) := by decide +kernel
theorem dX13_addresses_111 : decode cX13_addresses 111 = .ok (.iload_n 1, 1) := by decide +kernel
theorem dX13_addresses_112 : decode cX13_addresses 112 = .ok (.iaload, 1) := by decide +kernel
theorem dX13_addresses_113 : decode cX13_addresses 113 = .ok (.iconst 2, 1) := by decide +kernel
theorem dX13_addresses_114 : decode cX13_addresses 114 = .ok (.if_icmp .ne 23, 3) := by decide +kernel
theorem dX13_addresses_137 : decode cX13_addresses 137 = .ok (.aload_n 0, 1) := by decide +kernel
theorem dX13_addresses_138 : decode cX13_addresses 138 = .ok (.getfield 101, 3) := by decide +kernel
theorem dX13_addresses_141 : decode cX13_addresses 141 = .ok (.iload_n 2, 1) := by decide +kernel
theorem dX13_addresses_142 : decode cX13_addresses 142 = .ok (.dup2, 1) := by decide +kernel
theorem dX13_addresses_143 : decode cX13_addresses 143 = .ok (.iaload, 1) := by decide +kernel
theorem dX13_addresses_144 : decode cX13_addresses 144 = .ok (.iload_n 3, 1) := by decide +kernel
theorem dX13_addresses_145 : decode cX13_addresses 145 = .ok (.invokestatic 226, 3) := by decide +kernel
theorem dX13_addresses_148 : decode cX13_addresses 148 = .ok (.bipush 20, 2) := by decide +kernel
theorem dX13_addresses_150 : decode cX13_addresses 150 = .ok (.ishl, 1) := by decide +kernel
theorem dX13_addresses_151 : decode cX13_addresses 151 = .ok (.ior, 1) := by decide +kernel
theorem dX13_addresses_152 : decode cX13_addresses 152 = .ok (.iastore, 1) := by decide +kernel
theorem dX13_addresses_153 : decode cX13_addresses 153 = .ok (.iinc 1 1, 3) := by decide +kernel
theorem dX13_addresses_156 : decode cX13_addresses 156 = .ok (.goto (-154), 3) := by decide +kernel
theorem dX13_addresses_117 : decode cX13_addresses 117 = .ok (.aload_n 0, 1) := by decide +kernel
theorem dX13_addresses_118 : decode cX13_addresses 118 = .ok (.getfield 101, 3) := by decide +kernel
theorem dX13_addresses_121 : decode cX13_addresses 121 = .ok (.iload_n 2, 1) := by decide +kernel
theorem dX13_addresses_122 : decode cX13_addresses 122 = .ok (.bipush 10, 2) := by decide +kernel
theorem dX13_addresses_124 : decode cX13_addresses 124 = .ok (.iload_n 3, 1) := by decide +kernel
theorem dX13_addresses_125 : decode cX13_addresses 125 = .ok (.invokestatic 226, 3) := by decide +kernel
theorem dX13_addresses_128 : decode cX13_addresses 128 = .ok (.bipush 6, 2) := by decide +kernel
theorem dX13_addresses_130 : decode cX13_addresses 130 = .ok (.invokestatic 278, 3) := by decide +kernel
theorem dX13_addresses_133 : decode cX13_addresses 133 = .ok (.iastore, 1) := by decide +kernel
theorem dX13_addresses_134 : decode cX13_addresses 134 = .ok (.goto 19, 3) := by decide +kernel
theorem dX13_addresses_88 : decode cX13_addresses 88 = .ok (.aload_n 0, 1) := by decide +kernel
theorem dX13_addresses_89 : decode cX13_addresses 89 = .ok (.getfield 101, 3) := by decide +kernel
theorem dX13_addresses_92 : decode cX13_addresses 92 = .ok (.iload_n 2, 1) := by decide +kernel
theorem dX13_addresses_93 : decode cX13_addresses 93 = .ok (.dup2, 1) := by decide +kernel
theorem dX13_addresses_94 : decode cX13_addresses 94 = .ok (.iaload, 1) := by decide +kernel
theorem dX13_addresses_95 : decode cX13_addresses 95 = .ok (.iload_n 3, 1) := by decide +kernel
theorem dX13_addresses_96 : decode cX13_addresses 96 = .ok (.invokestatic 94, 3) := by decide +kernel
theorem dX13_addresses_99 : decode cX13_addresses 99 = .ok (.bipush 12, 2) := by decide +kernel
theorem dX13_addresses_101 : decode cX13_addresses 101 = .ok (.ishl, 1) := by decide +kernel
theorem dX13_addresses_102 : decode cX13_addresses 102 = .ok (.ior, 1) := by decide +kernel
theorem dX13_addresses_103 : decode cX13_addresses 103 = .ok (.iastore, 1) := by decide +kernel
theorem dX13_addresses_104 : decode cX13_addresses 104 = .ok (.goto 49, 3) := by decide +kernel
theorem dX13_addresses_27 : decode cX13_addresses 27 = .ok (.aload_n 0, 1) := by decide +kernel
theorem dX13_addresses_28 : decode cX13_addresses 28 = .ok (.iload_n 2, 1) := by decide +kernel
theorem dX13_addresses_29 : decode cX13_addresses 29 = .ok (.bipush 28, 2) := by decide +kernel
theorem dX13_addresses_31 : decode cX13_addresses 31 = .ok (.aload_n 0, 1) := by decide +kernel
theorem dX13_addresses_32 : decode cX13_addresses 32 = .ok (.getfield 204, 3) := by decide +kernel
theorem dX13_addresses_35 : decode cX13_addresses 35 = .ok (.iload_n 1, 1) := by decide +kernel
theorem dX13_addresses_36 : decode cX13_addresses 36 = .ok (.iaload, 1) := by decide +kernel
theorem dX13_addresses_37 : decode cX13_addresses 37 = .ok (.iconst (-1), 1) := by decide +kernel
theorem dX13_addresses_38 : decode cX13_addresses 38 = .ok (.if_icmp .ne 10, 3) := by decide +kernel
theorem dX13_addresses_48 : decode cX13_addresses 48 = .ok (.aload_n 0, 1) := by decide +kernel
theorem dX13_addresses_49 : decode cX13_addresses 49 = .ok (.getfield 487, 3) := by decide +kernel
theorem dX13_addresses_52 : decode cX13_addresses 52 = .ok (.invokevirtual 114, 3) := by decide +kernel
theorem dX13_addresses_55 : decode cX13_addresses 55 = .ok (.goto 98, 3) := by decide +kernel
theorem dX13_addresses_41 : decode cX13_addresses 41 = .ok (.aload_n 0, 1) := by decide +kernel
theorem dX13_addresses_42 : decode cX13_addresses 42 = .ok (.getfield 484, 3) := by decide +kernel
theorem dX13_addresses_45 : decode cX13_addresses 45 = .ok (.goto 7, 3) := by decide +kernel
theorem om_a33d014192 {x0 : Int} (h0 : 0 ≤ x0 ∧ x0 ≤ 23950) : 0 ≤ x0 ∧ x0 < 24000 := by omega
theorem om_4cf0bb15bb {x0 : Int} (h0 : 0 ≤ x0 ∧ x0 ≤ 23950) : -2147483648 ≤ (x0) + (1 : Int) := by omega
theorem om_2054274b25 {x0 : Int} (h0 : 0 ≤ x0 ∧ x0 ≤ 23950) : (x0) + (1 : Int) < 2147483648 := by omega
theorem om_89451510f5 {x0 x1 : Int} (h0 : 0 ≤ x0 ∧ x0 ≤ 23950) (h1 : x1 = (x0) + (1 : Int)) : 0 ≤ x1 ∧ x1 < 24000 := by omega
theorem om_6d2f8c8603 {x0 : Int} (h0 : 0 ≤ x0 ∧ x0 ≤ 23950) : -2147483648 ≤ ((x0) + (1 : Int)) + (1 : Int) := by omega
theorem om_a62758b770 {x0 : Int} (h0 : 0 ≤ x0 ∧ x0 ≤ 23950) : ((x0) + (1 : Int)) + (1 : Int) < 2147483648 := by omega
theorem om_5d0b32d2fa {x0 x1 : Int} (h0 : 0 ≤ x0 ∧ x0 ≤ 23950) (h1 : x1 = ((x0) + (1 : Int)) + (1 : Int)) : 0 ≤ x1 ∧ x1 < 24000 := by omega
theorem om_988eab1835 {x0 : Int} (h0 : 0 ≤ x0 ∧ x0 ≤ 23950) : -2147483648 ≤ (((x0) + (1 : Int)) + (1 : Int)) + (1 : Int) := by omega
theorem om_5d2b4764fc {x0 : Int} (h0 : 0 ≤ x0 ∧ x0 ≤ 23950) : (((x0) + (1 : Int)) + (1 : Int)) + (1 : Int) < 2147483648 := by omega
theorem om_f04448c862 {x0 x1 : Int} (h0 : 0 ≤ x0 ∧ x0 ≤ 23950) (h1 : x1 = ((((x0) + (1 : Int)) + (1 : Int)) + (1 : Int))) : 0 ≤ x1 ∧ x1 < 24000 := by omega
theorem om_94adda25bb {x0 x1 : Int} (h0 : 0 ≤ x0 ∧ x0 ≤ 23950) (h1 : x1 = ((((x0) + (1 : Int)) + (1 : Int)) + (1 : Int))) : -2147483648 ≤ (x1) + (1 : Int) := by omega
theorem om_1a06282068 {x0 x1 : Int} (h0 : 0 ≤ x0 ∧ x0 ≤ 23950) (h1 : x1 = ((((x0) + (1 : Int)) + (1 : Int)) + (1 : Int))) : (x1) + (1 : Int) < 2147483648 := by omega
theorem om_5672b07df6 {x0 x1 x2 : Int} (h0 : 0 ≤ x0 ∧ x0 ≤ 23950) (h1 : x1 = ((((x0) + (1 : Int)) + (1 : Int)) + (1 : Int))) (h2 : x2 = (x1) + (1 : Int)) : 0 ≤ x2 ∧ x2 < 24000 := by omega
theorem om_2dc71050e6 {x0 x1 : Int} (h0 : 0 ≤ x0 ∧ x0 ≤ 23950) (h1 : x1 = ((((x0) + (1 : Int)) + (1 : Int)) + (1 : Int))) : -2147483648 ≤ ((x1) + (1 : Int)) + (1 : Int) := by omega
theorem om_0708727852 {x0 x1 : Int} (h0 : 0 ≤ x0 ∧ x0 ≤ 23950) (h1 : x1 = ((((x0) + (1 : Int)) + (1 : Int)) + (1 : Int))) : ((x1) + (1 : Int)) + (1 : Int) < 2147483648 := by omega
theorem om_241311b588 {x0 x1 x2 : Int} (h0 : 0 ≤ x0 ∧ x0 ≤ 23950) (h1 : x1 = ((((x0) + (1 : Int)) + (1 : Int)) + (1 : Int))) (h2 : x2 = ((x1) + (1 : Int)) + (1 : Int)) : 0 ≤ x2 ∧ x2 < 24000 := by omega
theorem om_b3d9d3c17f {x0 x1 : Int} (h0 : 0 ≤ x0 ∧ x0 ≤ 23950) (h1 : x1 = ((((x0) + (1 : Int)) + (1 : Int)) + (1 : Int))) : -2147483648 ≤ (((x1) + (1 : Int)) + (1 : Int)) + (1 : Int) := by omega
theorem om_b0265ae754 {x0 x1 : Int} (h0 : 0 ≤ x0 ∧ x0 ≤ 23950) (h1 : x1 = ((((x0) + (1 : Int)) + (1 : Int)) + (1 : Int))) : (((x1) + (1 : Int)) + (1 : Int)) + (1 : Int) < 2147483648 := by omega
theorem om_0ecfdfa30a {x0 x1 x2 : Int} (h0 : 0 ≤ x0 ∧ x0 ≤ 23950) (h1 : x1 = ((((x0) + (1 : Int)) + (1 : Int)) + (1 : Int))) (h2 : x2 = (((x1) + (1 : Int)) + (1 : Int)) + (1 : Int)) : 0 ≤ x2 ∧ x2 < 24000 := by omega
theorem om_057bca5454 {x0 x1 : Int} (h0 : 0 ≤ x0 ∧ x0 ≤ 23950) (h1 : x1 = ((((x0) + (1 : Int)) + (1 : Int)) + (1 : Int))) : -2147483648 ≤ ((((x1) + (1 : Int)) + (1 : Int)) + (1 : Int)) + (1 : Int) := by omega
theorem om_9494d2d0bc {x0 x1 : Int} (h0 : 0 ≤ x0 ∧ x0 ≤ 23950) (h1 : x1 = ((((x0) + (1 : Int)) + (1 : Int)) + (1 : Int))) : ((((x1) + (1 : Int)) + (1 : Int)) + (1 : Int)) + (1 : Int) < 2147483648 := by omega
theorem om_c12b63fe76 {x0 x1 x2 : Int} (h0 : 0 ≤ x0 ∧ x0 ≤ 23950) (h1 : x1 = ((((x0) + (1 : Int)) + (1 : Int)) + (1 : Int))) (h2 : x2 = (((((x1) + (1 : Int)) + (1 : Int)) + (1 : Int)) + (1 : Int))) : 0 ≤ x2 ∧ x2 < 24000 := by omega
theorem om_c5c92d5d28 {x0 x1 x2 : Int} (h0 : 0 ≤ x0 ∧ x0 ≤ 23950) (h1 : x1 = ((((x0) + (1 : Int)) + (1 : Int)) + (1 : Int))) (h2 : x2 = (((((x1) + (1 : Int)) + (1 : Int)) + (1 : Int)) + (1 : Int))) : -2147483648 ≤ (x2) + (1 : Int) := by omega
theorem om_1b4927730f {x0 x1 x2 : Int} (h0 : 0 ≤ x0 ∧ x0 ≤ 23950) (h1 : x1 = ((((x0) + (1 : Int)) + (1 : Int)) + (1 : Int))) (h2 : x2 = (((((x1) + (1 : Int)) + (1 : Int)) + (1 : Int)) + (1 : Int))) : (x2) + (1 : Int) < 2147483648 := by omega
theorem om_2da47a60f8 {x0 x1 x2 x3 : Int} (h0 : 0 ≤ x0 ∧ x0 ≤ 23950) (h1 : x1 = ((((x0) + (1 : Int)) + (1 : Int)) + (1 : Int))) (h2 : x2 = (((((x1) + (1 : Int)) + (1 : Int)) + (1 : Int)) + (1 : Int))) (h3 : x3 = (x2) + (1 : Int)) : 0 ≤ x3 ∧ x3 < 24000 := by omega
theorem om_199231d35c {x0 x1 x2 : Int} (h0 : 0 ≤ x0 ∧ x0 ≤ 23950) (h1 : x1 = ((((x0) + (1 : Int)) + (1 : Int)) + (1 : Int))) (h2 : x2 = (((((x1) + (1 : Int)) + (1 : Int)) + (1 : Int)) + (1 : Int))) : -2147483648 ≤ ((x2) + (1 : Int)) + (1 : Int) := by omega
theorem om_f01fcb5069 {x0 x1 x2 : Int} (h0 : 0 ≤ x0 ∧ x0 ≤ 23950) (h1 : x1 = ((((x0) + (1 : Int)) + (1 : Int)) + (1 : Int))) (h2 : x2 = (((((x1) + (1 : Int)) + (1 : Int)) + (1 : Int)) + (1 : Int))) : ((x2) + (1 : Int)) + (1 : Int) < 2147483648 := by omega
theorem om_adbddf1ac1 {x0 x1 x2 x3 : Int} (h0 : 0 ≤ x0 ∧ x0 ≤ 23950) (h1 : x1 = ((((x0) + (1 : Int)) + (1 : Int)) + (1 : Int))) (h2 : x2 = (((((x1) + (1 : Int)) + (1 : Int)) + (1 : Int)) + (1 : Int))) (h3 : x3 = ((x2) + (1 : Int)) + (1 : Int)) : 0 ≤ x3 ∧ x3 < 24000 := by omega
theorem om_8d5d77db1a {x0 x1 x2 : Int} (h0 : 0 ≤ x0 ∧ x0 ≤ 23950) (h1 : x1 = ((((x0) + (1 : Int)) + (1 : Int)) + (1 : Int))) (h2 : x2 = (((((x1) + (1 : Int)) + (1 : Int)) + (1 : Int)) + (1 : Int))) : -2147483648 ≤ (((x2) + (1 : Int)) + (1 : Int)) + (1 : Int) := by omega
theorem om_036af93f9a {x0 x1 x2 : Int} (h0 : 0 ≤ x0 ∧ x0 ≤ 23950) (h1 : x1 = ((((x0) + (1 : Int)) + (1 : Int)) + (1 : Int))) (h2 : x2 = (((((x1) + (1 : Int)) + (1 : Int)) + (1 : Int)) + (1 : Int))) : (((x2) + (1 : Int)) + (1 : Int)) + (1 : Int) < 2147483648 := by omega
theorem om_817f895408 {x0 x1 x2 x3 : Int} (h0 : x0 = ((((x1) + (1 : Int)) + (1 : Int)) + (1 : Int))) (h1 : x2 = (((((x0) + (1 : Int)) + (1 : Int)) + (1 : Int)) + (1 : Int))) (h2 : x3 = ((((x2) + (1 : Int)) + (1 : Int)) + (1 : Int))) : x3 = x1 + 10 := by omega
set_option maxHeartbeats 4000000 in
set_option maxRecDepth 100000 in
theorem c_m_multiplying (l : Launch) (dC : Nat → ClassId) (dI : Nat → Nat → Nat) (cI cB cZ cJ cR : ClassId) (tb : Nat → Nat) (sz : Nat) (ad : Nat → Nat) (N : Nat) (v : MS)  (zw : 0 ≤ (v.1 0 12).toInt ∧ (v.1 0 12).toInt ≤ 23950) : Met l yX13_multiplying (Cond.code yX13_multiplying cX13_multiplying 2 none :: tw_W) ({ frames := 2, cells := 0, slots := 0, locals := 46 }) (pc_ (dC, dI) (tyS cI cB cZ cJ cR) tb (mW ad N cI cZ cJ v) sz [.ref (ad 0)]) (qv_ (dC, dI) (mW ad N cI cZ cJ v) sz (fun (u : MS) => FG [12, 67] [0, 11] v u ∧ (Q_m_multiplying v u) ∧ ((u.1 0 12).toInt = (v.1 0 12).toInt + 10)) (fun (u : MS) => (mW ad N cI cZ cJ u))) 0 0 (va_A (mW ad N cI cZ cJ v) sz) := by
  refine Met.ofW (cc := cX13_multiplying) (maxL := 2) (ret := none) (by decide) rfl ?_
  intro p e s m args below meth c s₁ B hml hv
  obtain ⟨rfl, hsz, hP, hKK, hD0, hFx⟩ := hv
  have hK := hKK.1
  have hx := B.exec
  have hb := B.bytes
  have hr := B.returns
  have ht : ∀ w ∈ tw_W, w.before _ s = true := fun w h => atoms_spec (ws := Cond.code yX13_multiplying cX13_multiplying 2 none :: tw_W) B.pre w (List.mem_cons_of_mem _ h)
  have hown : s.vm.findClass RX13 = some m.cls := findClass_of_methodNamed B.named
  have hlocks := B.notSynchronized
  subst hsz
  unfold qv_
  have hD := hD0.self (sz := s.heap.size)
  generalize hAe : va_A (mW ad N cI cZ cJ v) s.heap.size = A at hD hFx ⊢
  have hA : ∀ q : Nat, s.heap.size ≤ q → A q := fun q h => by rw [← hAe]; exact Or.inr h
  have hS : va_S A s.heap s.heap [] := va_S.rf
  have hl := lv_entry ([.ref (ad 0)]) (n := 2) (Nat.le_of_ble_eq_true rfl)
  rw [lg_entry_eq]
  generalize (lg_sl ([.ref (ad 0)]) ++ List.replicate (2 - (lg_sl ([.ref (ad 0)])).length) Slot.unset).toArray = ls at hl ⊢
  have hl : lv_has ls 2 [(0, .ref (ad 0))] := hl
  refine lv_aload_n hx hb dX13_multiplying_0 rfl (lv_at hl 0 rfl) ?_
  refine lv_aload_n hx hb dX13_multiplying_1 rfl (lv_at hl 0 rfl) ?_
  refine va_get (D := (dC, dI)) (ci := 16) (fs := mF ad v) (v := .int (v.1 0 12)) (C := RX13) (T := TX13) (N := 124) hx hb ht itX13 hown hK hP 0 rfl rfl 12 (by decide) (ht _ tw_7) (fun _ h9 => h9) rfl dX13_multiplying_2 ?_
  refine va_put (D := (dC, dI)) (ci := 16) (fs := mF ad v) (v := .int (v.1 0 12)) (ty := .int) (C := RX13) (T := TX13) (N := 124) hx hb ht itX13 tyX13 tyX13_ok nmX13 hown hK hP hD hS 0 rfl rfl 67 (by decide) (ht _ tw_202) (fun _ h9 => h9) rfl (by decide +kernel) rfl rfl (Nat.le_of_ble_eq_true rfl) dX13_multiplying_5 (fun H locs hP hD hS => ?_)
  have hP := cP_ (mw_67 ad N cI cZ cJ v (v.1 0 12)) hP
  have hD := cD_ (mw_67 ad N cI cZ cJ v (v.1 0 12)) hD
  refine lv_aload_n hx hb dX13_multiplying_8 rfl (lv_at hl 0 rfl) ?_
  refine lv_bipush (v := 6) hx hb dX13_multiplying_9 (by decide) ?_
  refine lv_iconst (v := 0) hx hb dX13_multiplying_11 (by decide) ?_
  refine lv_iconst (v := 0) hx hb dX13_multiplying_12 (by decide) ?_
  refine cu_s (mW_nd _ _ _ _ _ _) (rn_S (n := 3) (As := [.int 6, .int 0, .int 0]) (rest := [.ref (ad 0)]) hx hb hml hown ht hKK hFx hP hD hS hA (c_m_addi l dC dI cI cB cZ cJ cR tb H.size (6 : Int32) (0 : Int32) (0 : Int32) ) tw_65 tw_66 (by decide +kernel) rfl rfl ⟨Nat.le_of_ble_eq_true rfl, Nat.le_of_ble_eq_true rfl⟩ [] rfl rfl rfl hl.1 rfl (Nat.le_of_ble_eq_true rfl) dX13_multiplying_13 ⟨Nat.le_of_ble_eq_true rfl, Nat.le_of_ble_eq_true rfl⟩) hP hD hS hA (fun r3 H locs hw1 hP hD hS => ?_)
  have ex1 := hw1
  refine W.widen (k := 0) (n := 0) (Nat.le_refl _) (Nat.le_refl _) ?_
  refine cu_i (rn_V (n := 1) (As := [.int r3]) (rest := []) hx hb hml hown ht hKK hFx hP hD hS hA (c_m_emit l dC dI cI cB cZ cJ cR tb H.size ad N (wA v 0 67 (v.1 0 12)) r3 (show 0 ≤ (v.1 0 12).toInt ∧ (v.1 0 12).toInt < 24000 from (om_a33d014192 zw))) tw_8 tw_9 (by decide +kernel) rfl rfl ⟨Nat.le_of_ble_eq_true rfl, Nat.le_of_ble_eq_true rfl⟩ (List.range (mW ad N cI cZ cJ (wA v 0 67 (v.1 0 12))).length) (rg_map _) (mW_nd _ _ _ _ _ _) rfl rfl rfl rfl hl.1 rfl (Nat.le_of_ble_eq_true rfl) dX13_multiplying_16 ⟨Nat.le_of_ble_eq_true rfl, Nat.le_of_ble_eq_true rfl⟩) hP hD hS hA (fun r6 u5 H locs hw4 hP hD hS => ?_)
  obtain ⟨rfl, rfl⟩ := hw4
  have z7 : ((v.1 0 12) + (1 : Int32)).toInt = ((v.1 0 12).toInt) + (1 : Int) := add_z rfl (show (1 : Int32).toInt = (1 : Int) by decide) (om_4cf0bb15bb zw) (om_2054274b25 zw)
  have hP : va_P (dC, dI) vwCl (mW ad N cI cZ cJ (wA (wA (wA v 0 67 (v.1 0 12)) 11 ((v.1 0 12).toNatClampNeg) r3) 0 12 ((v.1 0 12) + (1 : Int32)))) H := hP
  have hD : va_D A (mW ad N cI cZ cJ (wA (wA (wA v 0 67 (v.1 0 12)) 11 ((v.1 0 12).toNatClampNeg) r3) 0 12 ((v.1 0 12) + (1 : Int32)))) := hD
  refine tp_i (y := (v.1 0 12)) (rfl) ?_
  refine W.widen (k := 0) (n := 0) (Nat.le_refl _) (Nat.le_refl _) ?_
  refine lv_pop hx hb dX13_multiplying_19 rfl ?_
  refine lv_aload_n hx hb dX13_multiplying_20 rfl (lv_at hl 0 rfl) ?_
  refine lv_iconst (v := 0) hx hb dX13_multiplying_21 (by decide) ?_
  refine lv_bipush (v := 10) hx hb dX13_multiplying_22 (by decide) ?_
  refine lv_iconst (v := 0) hx hb dX13_multiplying_24 (by decide) ?_
  refine lv_bipush (v := 28) hx hb dX13_multiplying_25 (by decide) ?_
  refine cu_s (mW_nd _ _ _ _ _ _) (rn_S (n := 4) (As := [.int 0, .int 10, .int 0, .int 28]) (rest := [.ref (ad 0)]) hx hb hml hown ht hKK hFx hP hD hS hA (c_m_byB l dC dI cI cB cZ cJ cR tb H.size (0 : Int32) (10 : Int32) (0 : Int32) (28 : Int32) ) tw_85 tw_86 (by decide +kernel) rfl rfl ⟨Nat.le_of_ble_eq_true rfl, Nat.le_of_ble_eq_true rfl⟩ [] rfl rfl rfl hl.1 rfl (Nat.le_of_ble_eq_true rfl) dX13_multiplying_27 ⟨Nat.le_of_ble_eq_true rfl, Nat.le_of_ble_eq_true rfl⟩) hP hD hS hA (fun r11 H locs hw8 hP hD hS => ?_)
  have ex8 := hw8
  refine W.widen (k := 0) (n := 0) (Nat.le_refl _) (Nat.le_refl _) ?_
  refine cu_i (rn_V (n := 1) (As := [.int r11]) (rest := []) hx hb hml hown ht hKK hFx hP hD hS hA (c_m_emit l dC dI cI cB cZ cJ cR tb H.size ad N (wA (wA (wA v 0 67 (v.1 0 12)) 11 ((v.1 0 12).toNatClampNeg) r3) 0 12 ((v.1 0 12) + (1 : Int32))) r11 (show 0 ≤ ((v.1 0 12) + (1 : Int32)).toInt ∧ ((v.1 0 12) + (1 : Int32)).toInt < 24000 from (om_89451510f5 zw z7))) tw_8 tw_9 (by decide +kernel) rfl rfl ⟨Nat.le_of_ble_eq_true rfl, Nat.le_of_ble_eq_true rfl⟩ (List.range (mW ad N cI cZ cJ (wA (wA (wA v 0 67 (v.1 0 12)) 11 ((v.1 0 12).toNatClampNeg) r3) 0 12 ((v.1 0 12) + (1 : Int32)))).length) (rg_map _) (mW_nd _ _ _ _ _ _) rfl rfl rfl rfl hl.1 rfl (Nat.le_of_ble_eq_true rfl) dX13_multiplying_30 ⟨Nat.le_of_ble_eq_true rfl, Nat.le_of_ble_eq_true rfl⟩) hP hD hS hA (fun r14 u13 H locs hw12 hP hD hS => ?_)
  obtain ⟨rfl, rfl⟩ := hw12
  have z15 : (((v.1 0 12) + (1 : Int32)) + (1 : Int32)).toInt = (((v.1 0 12).toInt) + (1 : Int)) + (1 : Int) := add_z z7 (show (1 : Int32).toInt = (1 : Int) by decide) (om_6d2f8c8603 zw) (om_a62758b770 zw)
  have hP : va_P (dC, dI) vwCl (mW ad N cI cZ cJ (wA (wA (wA (wA (wA v 0 67 (v.1 0 12)) 11 ((v.1 0 12).toNatClampNeg) r3) 0 12 ((v.1 0 12) + (1 : Int32))) 11 (((v.1 0 12) + (1 : Int32)).toNatClampNeg) r11) 0 12 (((v.1 0 12) + (1 : Int32)) + (1 : Int32)))) H := hP
  have hD : va_D A (mW ad N cI cZ cJ (wA (wA (wA (wA (wA v 0 67 (v.1 0 12)) 11 ((v.1 0 12).toNatClampNeg) r3) 0 12 ((v.1 0 12) + (1 : Int32))) 11 (((v.1 0 12) + (1 : Int32)).toNatClampNeg) r11) 0 12 (((v.1 0 12) + (1 : Int32)) + (1 : Int32)))) := hD
  refine tp_i (y := ((v.1 0 12) + (1 : Int32))) (rfl) ?_
  refine W.widen (k := 0) (n := 0) (Nat.le_refl _) (Nat.le_refl _) ?_
  refine lv_istore_n (lv' := [(1, .int ((v.1 0 12) + (1 : Int32))), (0, .ref (ad 0))]) hx hb dX13_multiplying_33 rfl hl (by decide) rfl (fun ls hl => ?_)
  refine lv_aload_n hx hb dX13_multiplying_34 rfl (lv_at hl 1 rfl) ?_
  refine lv_bipush (v := 19) hx hb dX13_multiplying_35 (by decide) ?_
  refine lv_bipush (v := 7) hx hb dX13_multiplying_37 (by decide) ?_
  refine lv_bipush (v := 7) hx hb dX13_multiplying_39 (by decide) ?_
  refine lv_bipush (v := 10) hx hb dX13_multiplying_41 (by decide) ?_
  refine lv_iconst (v := 1) hx hb dX13_multiplying_43 (by decide) ?_
  refine cu_s (mW_nd _ _ _ _ _ _) (rn_S (n := 5) (As := [.int 19, .int 7, .int 7, .int 10, .int 1]) (rest := [.ref (ad 0)]) hx hb hml hown ht hKK hFx hP hD hS hA (c_m_byI l dC dI cI cB cZ cJ cR tb H.size (19 : Int32) (7 : Int32) (7 : Int32) (10 : Int32) (1 : Int32) ) tw_2 tw_3 (by decide +kernel) rfl rfl ⟨Nat.le_of_ble_eq_true rfl, Nat.le_of_ble_eq_true rfl⟩ [] rfl rfl rfl hl.1 rfl (Nat.le_of_ble_eq_true rfl) dX13_multiplying_44 ⟨Nat.le_of_ble_eq_true rfl, Nat.le_of_ble_eq_true rfl⟩) hP hD hS hA (fun r18 H locs hw16 hP hD hS => ?_)
  have ex16 := hw16
  refine W.widen (k := 0) (n := 0) (Nat.le_refl _) (Nat.le_refl _) ?_
  refine cu_i (rn_V (n := 1) (As := [.int r18]) (rest := []) hx hb hml hown ht hKK hFx hP hD hS hA (c_m_emit l dC dI cI cB cZ cJ cR tb H.size ad N (wA (wA (wA (wA (wA v 0 67 (v.1 0 12)) 11 ((v.1 0 12).toNatClampNeg) r3) 0 12 ((v.1 0 12) + (1 : Int32))) 11 (((v.1 0 12) + (1 : Int32)).toNatClampNeg) r11) 0 12 (((v.1 0 12) + (1 : Int32)) + (1 : Int32))) r18 (show 0 ≤ (((v.1 0 12) + (1 : Int32)) + (1 : Int32)).toInt ∧ (((v.1 0 12) + (1 : Int32)) + (1 : Int32)).toInt < 24000 from (om_5d0b32d2fa zw z15))) tw_8 tw_9 (by decide +kernel) rfl rfl ⟨Nat.le_of_ble_eq_true rfl, Nat.le_of_ble_eq_true rfl⟩ (List.range (mW ad N cI cZ cJ (wA (wA (wA (wA (wA v 0 67 (v.1 0 12)) 11 ((v.1 0 12).toNatClampNeg) r3) 0 12 ((v.1 0 12) + (1 : Int32))) 11 (((v.1 0 12) + (1 : Int32)).toNatClampNeg) r11) 0 12 (((v.1 0 12) + (1 : Int32)) + (1 : Int32)))).length) (rg_map _) (mW_nd _ _ _ _ _ _) rfl rfl rfl rfl hl.1 rfl (Nat.le_of_ble_eq_true rfl) dX13_multiplying_47 ⟨Nat.le_of_ble_eq_true rfl, Nat.le_of_ble_eq_true rfl⟩) hP hD hS hA (fun r21 u20 H locs hw19 hP hD hS => ?_)
  obtain ⟨rfl, rfl⟩ := hw19
  have z22 : ((((v.1 0 12) + (1 : Int32)) + (1 : Int32)) + (1 : Int32)).toInt = ((((v.1 0 12).toInt) + (1 : Int)) + (1 : Int)) + (1 : Int) := add_z z15 (show (1 : Int32).toInt = (1 : Int) by decide) (om_988eab1835 zw) (om_5d2b4764fc zw)
  have hP : va_P (dC, dI) vwCl (mW ad N cI cZ cJ (wA (wA (wA (wA (wA (wA (wA v 0 67 (v.1 0 12)) 11 ((v.1 0 12).toNatClampNeg) r3) 0 12 ((v.1 0 12) + (1 : Int32))) 11 (((v.1 0 12) + (1 : Int32)).toNatClampNeg) r11) 0 12 (((v.1 0 12) + (1 : Int32)) + (1 : Int32))) 11 ((((v.1 0 12) + (1 : Int32)) + (1 : Int32)).toNatClampNeg) r18) 0 12 ((((v.1 0 12) + (1 : Int32)) + (1 : Int32)) + (1 : Int32)))) H := hP
  have hD : va_D A (mW ad N cI cZ cJ (wA (wA (wA (wA (wA (wA (wA v 0 67 (v.1 0 12)) 11 ((v.1 0 12).toNatClampNeg) r3) 0 12 ((v.1 0 12) + (1 : Int32))) 11 (((v.1 0 12) + (1 : Int32)).toNatClampNeg) r11) 0 12 (((v.1 0 12) + (1 : Int32)) + (1 : Int32))) 11 ((((v.1 0 12) + (1 : Int32)) + (1 : Int32)).toNatClampNeg) r18) 0 12 ((((v.1 0 12) + (1 : Int32)) + (1 : Int32)) + (1 : Int32)))) := hD
  refine tp_i (y := (((v.1 0 12) + (1 : Int32)) + (1 : Int32))) (rfl) ?_
  refine W.widen (k := 0) (n := 0) (Nat.le_refl _) (Nat.le_refl _) ?_
  obtain ⟨u23, hu24⟩ : ∃ z, z = (wA (wA (wA (wA (wA (wA (wA v 0 67 (v.1 0 12)) 11 ((v.1 0 12).toNatClampNeg) r3) 0 12 ((v.1 0 12) + (1 : Int32))) 11 (((v.1 0 12) + (1 : Int32)).toNatClampNeg) r11) 0 12 (((v.1 0 12) + (1 : Int32)) + (1 : Int32))) 11 ((((v.1 0 12) + (1 : Int32)) + (1 : Int32)).toNatClampNeg) r18) 0 12 ((((v.1 0 12) + (1 : Int32)) + (1 : Int32)) + (1 : Int32))) := ⟨_, rfl⟩
  have fr24 : FG [12, 67] [0, 11] v u23 := by rw [hu24]; exact (FG.f (FG.a (FG.f (FG.a (FG.f (FG.a (FG.f (FG.rf _) (v.1 0 12) (by decide)) ((v.1 0 12).toNatClampNeg) r3 (by decide) (by decide)) ((v.1 0 12) + (1 : Int32)) (by decide)) (((v.1 0 12) + (1 : Int32)).toNatClampNeg) r11 (by decide) (by decide)) (((v.1 0 12) + (1 : Int32)) + (1 : Int32)) (by decide)) ((((v.1 0 12) + (1 : Int32)) + (1 : Int32)).toNatClampNeg) r18 (by decide) (by decide)) ((((v.1 0 12) + (1 : Int32)) + (1 : Int32)) + (1 : Int32)) (by decide))
  rw [← hu24] at hP hD
  refine lv_pop hx hb dX13_multiplying_50 rfl ?_
  refine lv_aload_n hx hb dX13_multiplying_51 rfl (lv_at hl 1 rfl) ?_
  refine lv_iconst (v := 0) hx hb dX13_multiplying_52 (by decide) ?_
  refine lv_bipush (v := 7) hx hb dX13_multiplying_53 (by decide) ?_
  refine lv_iconst (v := 0) hx hb dX13_multiplying_55 (by decide) ?_
  refine lv_bipush (v := 8) hx hb dX13_multiplying_56 (by decide) ?_
  refine cu_s (mW_nd _ _ _ _ _ _) (rn_S (n := 4) (As := [.int 0, .int 7, .int 0, .int 8]) (rest := [.ref (ad 0)]) hx hb hml hown ht hKK hFx hP hD hS hA (c_m_byB l dC dI cI cB cZ cJ cR tb H.size (0 : Int32) (7 : Int32) (0 : Int32) (8 : Int32) ) tw_85 tw_86 (by decide +kernel) rfl rfl ⟨Nat.le_of_ble_eq_true rfl, Nat.le_of_ble_eq_true rfl⟩ [] rfl rfl rfl hl.1 rfl (Nat.le_of_ble_eq_true rfl) dX13_multiplying_58 ⟨Nat.le_of_ble_eq_true rfl, Nat.le_of_ble_eq_true rfl⟩) hP hD hS hA (fun r27 H locs hw25 hP hD hS => ?_)
  have ex25 := hw25
  refine W.widen (k := 0) (n := 0) (Nat.le_refl _) (Nat.le_refl _) ?_
  have q28 : (u23.1 0 12).toInt = (((((v.1 0 12).toInt) + (1 : Int)) + (1 : Int)) + (1 : Int)) := by rw [hu24]; exact (show ((((v.1 0 12) + (1 : Int32)) + (1 : Int32)) + (1 : Int32)).toInt = (((((v.1 0 12).toInt) + (1 : Int)) + (1 : Int)) + (1 : Int)) from z22)
  refine cu_i (rn_V (n := 1) (As := [.int r27]) (rest := []) hx hb hml hown ht hKK hFx hP hD hS hA (c_m_emit l dC dI cI cB cZ cJ cR tb H.size ad N u23 r27 (show 0 ≤ (u23.1 0 12).toInt ∧ (u23.1 0 12).toInt < 24000 from (om_f04448c862 zw q28))) tw_8 tw_9 (by decide +kernel) rfl rfl ⟨Nat.le_of_ble_eq_true rfl, Nat.le_of_ble_eq_true rfl⟩ (List.range (mW ad N cI cZ cJ u23).length) (rg_map _) (mW_nd _ _ _ _ _ _) rfl rfl rfl rfl hl.1 rfl (Nat.le_of_ble_eq_true rfl) dX13_multiplying_61 ⟨Nat.le_of_ble_eq_true rfl, Nat.le_of_ble_eq_true rfl⟩) hP hD hS hA (fun r31 u30 H locs hw29 hP hD hS => ?_)
  obtain ⟨rfl, rfl⟩ := hw29
  have z32 : ((u23.1 0 12) + (1 : Int32)).toInt = ((u23.1 0 12).toInt) + (1 : Int) := add_z rfl (show (1 : Int32).toInt = (1 : Int) by decide) (om_94adda25bb zw q28) (om_1a06282068 zw q28)
  have hP : va_P (dC, dI) vwCl (mW ad N cI cZ cJ (wA (wA u23 11 ((u23.1 0 12).toNatClampNeg) r27) 0 12 ((u23.1 0 12) + (1 : Int32)))) H := hP
  have hD : va_D A (mW ad N cI cZ cJ (wA (wA u23 11 ((u23.1 0 12).toNatClampNeg) r27) 0 12 ((u23.1 0 12) + (1 : Int32)))) := hD
  refine tp_i (y := (u23.1 0 12)) (rfl) ?_
  refine W.widen (k := 0) (n := 0) (Nat.le_refl _) (Nat.le_refl _) ?_
  refine lv_pop hx hb dX13_multiplying_64 rfl ?_
  refine lv_aload_n hx hb dX13_multiplying_65 rfl (lv_at hl 1 rfl) ?_
  refine lv_iconst (v := 0) hx hb dX13_multiplying_66 (by decide) ?_
  refine lv_iconst (v := 0) hx hb dX13_multiplying_67 (by decide) ?_
  refine lv_bipush (v := 6) hx hb dX13_multiplying_68 (by decide) ?_
  refine lv_bipush (v := 6) hx hb dX13_multiplying_70 (by decide) ?_
  refine lv_iconst (v := 5) hx hb dX13_multiplying_72 (by decide) ?_
  refine cu_s (mW_nd _ _ _ _ _ _) (rn_S (n := 5) (As := [.int 0, .int 0, .int 6, .int 6, .int 5]) (rest := [.ref (ad 0)]) hx hb hml hown ht hKK hFx hP hD hS hA (c_m_byR l dC dI cI cB cZ cJ cR tb H.size (0 : Int32) (0 : Int32) (6 : Int32) (6 : Int32) (5 : Int32) ) tw_67 tw_68 (by decide +kernel) rfl rfl ⟨Nat.le_of_ble_eq_true rfl, Nat.le_of_ble_eq_true rfl⟩ [] rfl rfl rfl hl.1 rfl (Nat.le_of_ble_eq_true rfl) dX13_multiplying_73 ⟨Nat.le_of_ble_eq_true rfl, Nat.le_of_ble_eq_true rfl⟩) hP hD hS hA (fun r35 H locs hw33 hP hD hS => ?_)
  have ex33 := hw33
  refine W.widen (k := 0) (n := 0) (Nat.le_refl _) (Nat.le_refl _) ?_
  refine cu_i (rn_V (n := 1) (As := [.int r35]) (rest := []) hx hb hml hown ht hKK hFx hP hD hS hA (c_m_emit l dC dI cI cB cZ cJ cR tb H.size ad N (wA (wA u23 11 ((u23.1 0 12).toNatClampNeg) r27) 0 12 ((u23.1 0 12) + (1 : Int32))) r35 (show 0 ≤ ((u23.1 0 12) + (1 : Int32)).toInt ∧ ((u23.1 0 12) + (1 : Int32)).toInt < 24000 from (om_5672b07df6 zw q28 z32))) tw_8 tw_9 (by decide +kernel) rfl rfl ⟨Nat.le_of_ble_eq_true rfl, Nat.le_of_ble_eq_true rfl⟩ (List.range (mW ad N cI cZ cJ (wA (wA u23 11 ((u23.1 0 12).toNatClampNeg) r27) 0 12 ((u23.1 0 12) + (1 : Int32)))).length) (rg_map _) (mW_nd _ _ _ _ _ _) rfl rfl rfl rfl hl.1 rfl (Nat.le_of_ble_eq_true rfl) dX13_multiplying_76 ⟨Nat.le_of_ble_eq_true rfl, Nat.le_of_ble_eq_true rfl⟩) hP hD hS hA (fun r38 u37 H locs hw36 hP hD hS => ?_)
  obtain ⟨rfl, rfl⟩ := hw36
  have z39 : (((u23.1 0 12) + (1 : Int32)) + (1 : Int32)).toInt = (((u23.1 0 12).toInt) + (1 : Int)) + (1 : Int) := add_z z32 (show (1 : Int32).toInt = (1 : Int) by decide) (om_2dc71050e6 zw q28) (om_0708727852 zw q28)
  have hP : va_P (dC, dI) vwCl (mW ad N cI cZ cJ (wA (wA (wA (wA u23 11 ((u23.1 0 12).toNatClampNeg) r27) 0 12 ((u23.1 0 12) + (1 : Int32))) 11 (((u23.1 0 12) + (1 : Int32)).toNatClampNeg) r35) 0 12 (((u23.1 0 12) + (1 : Int32)) + (1 : Int32)))) H := hP
  have hD : va_D A (mW ad N cI cZ cJ (wA (wA (wA (wA u23 11 ((u23.1 0 12).toNatClampNeg) r27) 0 12 ((u23.1 0 12) + (1 : Int32))) 11 (((u23.1 0 12) + (1 : Int32)).toNatClampNeg) r35) 0 12 (((u23.1 0 12) + (1 : Int32)) + (1 : Int32)))) := hD
  refine tp_i (y := ((u23.1 0 12) + (1 : Int32))) (rfl) ?_
  refine W.widen (k := 0) (n := 0) (Nat.le_refl _) (Nat.le_refl _) ?_
  refine lv_pop hx hb dX13_multiplying_79 rfl ?_
  refine lv_aload_n hx hb dX13_multiplying_80 rfl (lv_at hl 1 rfl) ?_
  refine lv_bipush (v := 19) hx hb dX13_multiplying_81 (by decide) ?_
  refine lv_iconst (v := 1) hx hb dX13_multiplying_83 (by decide) ?_
  refine lv_iconst (v := 5) hx hb dX13_multiplying_84 (by decide) ?_
  refine lv_iconst (v := 5) hx hb dX13_multiplying_85 (by decide) ?_
  refine lv_iconst (v := 1) hx hb dX13_multiplying_86 (by decide) ?_
  refine cu_s (mW_nd _ _ _ _ _ _) (rn_S (n := 5) (As := [.int 19, .int 1, .int 5, .int 5, .int 1]) (rest := [.ref (ad 0)]) hx hb hml hown ht hKK hFx hP hD hS hA (c_m_byI l dC dI cI cB cZ cJ cR tb H.size (19 : Int32) (1 : Int32) (5 : Int32) (5 : Int32) (1 : Int32) ) tw_2 tw_3 (by decide +kernel) rfl rfl ⟨Nat.le_of_ble_eq_true rfl, Nat.le_of_ble_eq_true rfl⟩ [] rfl rfl rfl hl.1 rfl (Nat.le_of_ble_eq_true rfl) dX13_multiplying_87 ⟨Nat.le_of_ble_eq_true rfl, Nat.le_of_ble_eq_true rfl⟩) hP hD hS hA (fun r42 H locs hw40 hP hD hS => ?_)
  have ex40 := hw40
  refine W.widen (k := 0) (n := 0) (Nat.le_refl _) (Nat.le_refl _) ?_
  refine cu_i (rn_V (n := 1) (As := [.int r42]) (rest := []) hx hb hml hown ht hKK hFx hP hD hS hA (c_m_emit l dC dI cI cB cZ cJ cR tb H.size ad N (wA (wA (wA (wA u23 11 ((u23.1 0 12).toNatClampNeg) r27) 0 12 ((u23.1 0 12) + (1 : Int32))) 11 (((u23.1 0 12) + (1 : Int32)).toNatClampNeg) r35) 0 12 (((u23.1 0 12) + (1 : Int32)) + (1 : Int32))) r42 (show 0 ≤ (((u23.1 0 12) + (1 : Int32)) + (1 : Int32)).toInt ∧ (((u23.1 0 12) + (1 : Int32)) + (1 : Int32)).toInt < 24000 from (om_241311b588 zw q28 z39))) tw_8 tw_9 (by decide +kernel) rfl rfl ⟨Nat.le_of_ble_eq_true rfl, Nat.le_of_ble_eq_true rfl⟩ (List.range (mW ad N cI cZ cJ (wA (wA (wA (wA u23 11 ((u23.1 0 12).toNatClampNeg) r27) 0 12 ((u23.1 0 12) + (1 : Int32))) 11 (((u23.1 0 12) + (1 : Int32)).toNatClampNeg) r35) 0 12 (((u23.1 0 12) + (1 : Int32)) + (1 : Int32)))).length) (rg_map _) (mW_nd _ _ _ _ _ _) rfl rfl rfl rfl hl.1 rfl (Nat.le_of_ble_eq_true rfl) dX13_multiplying_90 ⟨Nat.le_of_ble_eq_true rfl, Nat.le_of_ble_eq_true rfl⟩) hP hD hS hA (fun r45 u44 H locs hw43 hP hD hS => ?_)
  obtain ⟨rfl, rfl⟩ := hw43
  have z46 : ((((u23.1 0 12) + (1 : Int32)) + (1 : Int32)) + (1 : Int32)).toInt = ((((u23.1 0 12).toInt) + (1 : Int)) + (1 : Int)) + (1 : Int) := add_z z39 (show (1 : Int32).toInt = (1 : Int) by decide) (om_b3d9d3c17f zw q28) (om_b0265ae754 zw q28)
  have hP : va_P (dC, dI) vwCl (mW ad N cI cZ cJ (wA (wA (wA (wA (wA (wA u23 11 ((u23.1 0 12).toNatClampNeg) r27) 0 12 ((u23.1 0 12) + (1 : Int32))) 11 (((u23.1 0 12) + (1 : Int32)).toNatClampNeg) r35) 0 12 (((u23.1 0 12) + (1 : Int32)) + (1 : Int32))) 11 ((((u23.1 0 12) + (1 : Int32)) + (1 : Int32)).toNatClampNeg) r42) 0 12 ((((u23.1 0 12) + (1 : Int32)) + (1 : Int32)) + (1 : Int32)))) H := hP
  have hD : va_D A (mW ad N cI cZ cJ (wA (wA (wA (wA (wA (wA u23 11 ((u23.1 0 12).toNatClampNeg) r27) 0 12 ((u23.1 0 12) + (1 : Int32))) 11 (((u23.1 0 12) + (1 : Int32)).toNatClampNeg) r35) 0 12 (((u23.1 0 12) + (1 : Int32)) + (1 : Int32))) 11 ((((u23.1 0 12) + (1 : Int32)) + (1 : Int32)).toNatClampNeg) r42) 0 12 ((((u23.1 0 12) + (1 : Int32)) + (1 : Int32)) + (1 : Int32)))) := hD
  refine tp_i (y := (((u23.1 0 12) + (1 : Int32)) + (1 : Int32))) (rfl) ?_
  refine W.widen (k := 0) (n := 0) (Nat.le_refl _) (Nat.le_refl _) ?_
  refine lv_pop hx hb dX13_multiplying_93 rfl ?_
  refine lv_aload_n hx hb dX13_multiplying_94 rfl (lv_at hl 1 rfl) ?_
  refine lv_bipush (v := 19) hx hb dX13_multiplying_95 (by decide) ?_
  refine lv_iconst (v := 5) hx hb dX13_multiplying_97 (by decide) ?_
  refine lv_bipush (v := 10) hx hb dX13_multiplying_98 (by decide) ?_
  refine lv_bipush (v := 10) hx hb dX13_multiplying_100 (by decide) ?_
  refine lv_iconst (v := 1) hx hb dX13_multiplying_102 (by decide) ?_
  refine cu_s (mW_nd _ _ _ _ _ _) (rn_S (n := 5) (As := [.int 19, .int 5, .int 10, .int 10, .int 1]) (rest := [.ref (ad 0)]) hx hb hml hown ht hKK hFx hP hD hS hA (c_m_byI l dC dI cI cB cZ cJ cR tb H.size (19 : Int32) (5 : Int32) (10 : Int32) (10 : Int32) (1 : Int32) ) tw_2 tw_3 (by decide +kernel) rfl rfl ⟨Nat.le_of_ble_eq_true rfl, Nat.le_of_ble_eq_true rfl⟩ [] rfl rfl rfl hl.1 rfl (Nat.le_of_ble_eq_true rfl) dX13_multiplying_103 ⟨Nat.le_of_ble_eq_true rfl, Nat.le_of_ble_eq_true rfl⟩) hP hD hS hA (fun r49 H locs hw47 hP hD hS => ?_)
  have ex47 := hw47
  refine W.widen (k := 0) (n := 0) (Nat.le_refl _) (Nat.le_refl _) ?_
  refine cu_i (rn_V (n := 1) (As := [.int r49]) (rest := []) hx hb hml hown ht hKK hFx hP hD hS hA (c_m_emit l dC dI cI cB cZ cJ cR tb H.size ad N (wA (wA (wA (wA (wA (wA u23 11 ((u23.1 0 12).toNatClampNeg) r27) 0 12 ((u23.1 0 12) + (1 : Int32))) 11 (((u23.1 0 12) + (1 : Int32)).toNatClampNeg) r35) 0 12 (((u23.1 0 12) + (1 : Int32)) + (1 : Int32))) 11 ((((u23.1 0 12) + (1 : Int32)) + (1 : Int32)).toNatClampNeg) r42) 0 12 ((((u23.1 0 12) + (1 : Int32)) + (1 : Int32)) + (1 : Int32))) r49 (show 0 ≤ ((((u23.1 0 12) + (1 : Int32)) + (1 : Int32)) + (1 : Int32)).toInt ∧ ((((u23.1 0 12) + (1 : Int32)) + (1 : Int32)) + (1 : Int32)).toInt < 24000 from (om_0ecfdfa30a zw q28 z46))) tw_8 tw_9 (by decide +kernel) rfl rfl ⟨Nat.le_of_ble_eq_true rfl, Nat.le_of_ble_eq_true rfl⟩ (List.range (mW ad N cI cZ cJ (wA (wA (wA (wA (wA (wA u23 11 ((u23.1 0 12).toNatClampNeg) r27) 0 12 ((u23.1 0 12) + (1 : Int32))) 11 (((u23.1 0 12) + (1 : Int32)).toNatClampNeg) r35) 0 12 (((u23.1 0 12) + (1 : Int32)) + (1 : Int32))) 11 ((((u23.1 0 12) + (1 : Int32)) + (1 : Int32)).toNatClampNeg) r42) 0 12 ((((u23.1 0 12) + (1 : Int32)) + (1 : Int32)) + (1 : Int32)))).length) (rg_map _) (mW_nd _ _ _ _ _ _) rfl rfl rfl rfl hl.1 rfl (Nat.le_of_ble_eq_true rfl) dX13_multiplying_106 ⟨Nat.le_of_ble_eq_true rfl, Nat.le_of_ble_eq_true rfl⟩) hP hD hS hA (fun r52 u51 H locs hw50 hP hD hS => ?_)
  obtain ⟨rfl, rfl⟩ := hw50
  have z53 : (((((u23.1 0 12) + (1 : Int32)) + (1 : Int32)) + (1 : Int32)) + (1 : Int32)).toInt = (((((u23.1 0 12).toInt) + (1 : Int)) + (1 : Int)) + (1 : Int)) + (1 : Int) := add_z z46 (show (1 : Int32).toInt = (1 : Int) by decide) (om_057bca5454 zw q28) (om_9494d2d0bc zw q28)
  have hP : va_P (dC, dI) vwCl (mW ad N cI cZ cJ (wA (wA (wA (wA (wA (wA (wA (wA u23 11 ((u23.1 0 12).toNatClampNeg) r27) 0 12 ((u23.1 0 12) + (1 : Int32))) 11 (((u23.1 0 12) + (1 : Int32)).toNatClampNeg) r35) 0 12 (((u23.1 0 12) + (1 : Int32)) + (1 : Int32))) 11 ((((u23.1 0 12) + (1 : Int32)) + (1 : Int32)).toNatClampNeg) r42) 0 12 ((((u23.1 0 12) + (1 : Int32)) + (1 : Int32)) + (1 : Int32))) 11 (((((u23.1 0 12) + (1 : Int32)) + (1 : Int32)) + (1 : Int32)).toNatClampNeg) r49) 0 12 (((((u23.1 0 12) + (1 : Int32)) + (1 : Int32)) + (1 : Int32)) + (1 : Int32)))) H := hP
  have hD : va_D A (mW ad N cI cZ cJ (wA (wA (wA (wA (wA (wA (wA (wA u23 11 ((u23.1 0 12).toNatClampNeg) r27) 0 12 ((u23.1 0 12) + (1 : Int32))) 11 (((u23.1 0 12) + (1 : Int32)).toNatClampNeg) r35) 0 12 (((u23.1 0 12) + (1 : Int32)) + (1 : Int32))) 11 ((((u23.1 0 12) + (1 : Int32)) + (1 : Int32)).toNatClampNeg) r42) 0 12 ((((u23.1 0 12) + (1 : Int32)) + (1 : Int32)) + (1 : Int32))) 11 (((((u23.1 0 12) + (1 : Int32)) + (1 : Int32)) + (1 : Int32)).toNatClampNeg) r49) 0 12 (((((u23.1 0 12) + (1 : Int32)) + (1 : Int32)) + (1 : Int32)) + (1 : Int32)))) := hD
  refine tp_i (y := ((((u23.1 0 12) + (1 : Int32)) + (1 : Int32)) + (1 : Int32))) (rfl) ?_
  refine W.widen (k := 0) (n := 0) (Nat.le_refl _) (Nat.le_refl _) ?_
  obtain ⟨u54, hu55⟩ : ∃ z, z = (wA (wA (wA (wA (wA (wA (wA (wA u23 11 ((u23.1 0 12).toNatClampNeg) r27) 0 12 ((u23.1 0 12) + (1 : Int32))) 11 (((u23.1 0 12) + (1 : Int32)).toNatClampNeg) r35) 0 12 (((u23.1 0 12) + (1 : Int32)) + (1 : Int32))) 11 ((((u23.1 0 12) + (1 : Int32)) + (1 : Int32)).toNatClampNeg) r42) 0 12 ((((u23.1 0 12) + (1 : Int32)) + (1 : Int32)) + (1 : Int32))) 11 (((((u23.1 0 12) + (1 : Int32)) + (1 : Int32)) + (1 : Int32)).toNatClampNeg) r49) 0 12 (((((u23.1 0 12) + (1 : Int32)) + (1 : Int32)) + (1 : Int32)) + (1 : Int32))) := ⟨_, rfl⟩
  have fr55 : FG [12] [0, 11] u23 u54 := by rw [hu55]; exact (FG.f (FG.a (FG.f (FG.a (FG.f (FG.a (FG.f (FG.a (FG.rf _) ((u23.1 0 12).toNatClampNeg) r27 (by decide) (by decide)) ((u23.1 0 12) + (1 : Int32)) (by decide)) (((u23.1 0 12) + (1 : Int32)).toNatClampNeg) r35 (by decide) (by decide)) (((u23.1 0 12) + (1 : Int32)) + (1 : Int32)) (by decide)) ((((u23.1 0 12) + (1 : Int32)) + (1 : Int32)).toNatClampNeg) r42 (by decide) (by decide)) ((((u23.1 0 12) + (1 : Int32)) + (1 : Int32)) + (1 : Int32)) (by decide)) (((((u23.1 0 12) + (1 : Int32)) + (1 : Int32)) + (1 : Int32)).toNatClampNeg) r49 (by decide) (by decide)) (((((u23.1 0 12) + (1 : Int32)) + (1 : Int32)) + (1 : Int32)) + (1 : Int32)) (by decide))
  rw [← hu55] at hP hD
  refine lv_pop hx hb dX13_multiplying_109 rfl ?_
  refine lv_aload_n hx hb dX13_multiplying_110 rfl (lv_at hl 1 rfl) ?_
  refine lv_aload_n hx hb dX13_multiplying_111 rfl (lv_at hl 1 rfl) ?_
  refine lv_iconst (v := 0) hx hb dX13_multiplying_112 (by decide) ?_
  have q56 : (u54.1 0 12).toInt = ((((((u23.1 0 12).toInt) + (1 : Int)) + (1 : Int)) + (1 : Int)) + (1 : Int)) := by rw [hu55]; exact (show (((((u23.1 0 12) + (1 : Int32)) + (1 : Int32)) + (1 : Int32)) + (1 : Int32)).toInt = ((((((u23.1 0 12).toInt) + (1 : Int)) + (1 : Int)) + (1 : Int)) + (1 : Int)) from z53)
  refine cu_i (rn_V (n := 1) (As := [.int 0]) (rest := [.ref (ad 0)]) hx hb hml hown ht hKK hFx hP hD hS hA (c_m_emit l dC dI cI cB cZ cJ cR tb H.size ad N u54 (0 : Int32) (show 0 ≤ (u54.1 0 12).toInt ∧ (u54.1 0 12).toInt < 24000 from (om_c12b63fe76 zw q28 q56))) tw_8 tw_9 (by decide +kernel) rfl rfl ⟨Nat.le_of_ble_eq_true rfl, Nat.le_of_ble_eq_true rfl⟩ (List.range (mW ad N cI cZ cJ u54).length) (rg_map _) (mW_nd _ _ _ _ _ _) rfl rfl rfl rfl hl.1 rfl (Nat.le_of_ble_eq_true rfl) dX13_multiplying_113 ⟨Nat.le_of_ble_eq_true rfl, Nat.le_of_ble_eq_true rfl⟩) hP hD hS hA (fun r59 u58 H locs hw57 hP hD hS => ?_)
  obtain ⟨rfl, rfl⟩ := hw57
  have z60 : ((u54.1 0 12) + (1 : Int32)).toInt = ((u54.1 0 12).toInt) + (1 : Int) := add_z rfl (show (1 : Int32).toInt = (1 : Int) by decide) (om_c5c92d5d28 zw q28 q56) (om_1b4927730f zw q28 q56)
  have hP : va_P (dC, dI) vwCl (mW ad N cI cZ cJ (wA (wA u54 11 ((u54.1 0 12).toNatClampNeg) (0 : Int32)) 0 12 ((u54.1 0 12) + (1 : Int32)))) H := hP
  have hD : va_D A (mW ad N cI cZ cJ (wA (wA u54 11 ((u54.1 0 12).toNatClampNeg) (0 : Int32)) 0 12 ((u54.1 0 12) + (1 : Int32)))) := hD
  refine tp_i (y := (u54.1 0 12)) (rfl) ?_
  refine W.widen (k := 0) (n := 0) (Nat.le_refl _) (Nat.le_refl _) ?_
  refine lv_iconst (v := 0) hx hb dX13_multiplying_116 (by decide) ?_
  refine lv_iload_n hx hb dX13_multiplying_117 rfl (lv_at hl 0 rfl) ?_
  refine cu_v (rn_V (n := 3) (As := [.int (u54.1 0 12), .int 0, .int ((v.1 0 12) + (1 : Int32))]) (rest := []) hx hb hml hown ht hKK hFx hP hD hS hA (c_m_jump l dC dI cI cB cZ cJ cR tb H.size ad N (wA (wA u54 11 ((u54.1 0 12).toNatClampNeg) (0 : Int32)) 0 12 ((u54.1 0 12) + (1 : Int32))) (u54.1 0 12) (0 : Int32) ((v.1 0 12) + (1 : Int32)) (show 0 ≤ (u54.1 0 12).toInt ∧ (u54.1 0 12).toInt < 24000 from (om_c12b63fe76 zw q28 q56))) tw_126 tw_127 (by decide +kernel) rfl rfl ⟨Nat.le_of_ble_eq_true rfl, Nat.le_of_ble_eq_true rfl⟩ (List.range (mW ad N cI cZ cJ (wA (wA u54 11 ((u54.1 0 12).toNatClampNeg) (0 : Int32)) 0 12 ((u54.1 0 12) + (1 : Int32)))).length) (rg_map _) (mW_nd _ _ _ _ _ _) rfl rfl rfl rfl hl.1 rfl (Nat.le_of_ble_eq_true rfl) dX13_multiplying_118 ⟨Nat.le_of_ble_eq_true rfl, Nat.le_of_ble_eq_true rfl⟩) hP hD hS hA (fun u62 H locs hw61 hP hD hS => ?_)
  obtain ⟨x64, rfl, ex61⟩ := hw61
  have hP : va_P (dC, dI) vwCl (mW ad N cI cZ cJ (wA (wA (wA u54 11 ((u54.1 0 12).toNatClampNeg) (0 : Int32)) 0 12 ((u54.1 0 12) + (1 : Int32))) 11 ((u54.1 0 12).toNatClampNeg) x64)) H := hP
  have hD : va_D A (mW ad N cI cZ cJ (wA (wA (wA u54 11 ((u54.1 0 12).toNatClampNeg) (0 : Int32)) 0 12 ((u54.1 0 12) + (1 : Int32))) 11 ((u54.1 0 12).toNatClampNeg) x64)) := hD
  refine W.widen (k := 0) (n := 0) (Nat.le_refl _) (Nat.le_refl _) ?_
  refine lv_aload_n hx hb dX13_multiplying_121 rfl (lv_at hl 1 rfl) ?_
  refine lv_bipush (v := 10) hx hb dX13_multiplying_122 (by decide) ?_
  refine lv_bipush (v := 6) hx hb dX13_multiplying_124 (by decide) ?_
  refine lv_iconst (v := 0) hx hb dX13_multiplying_126 (by decide) ?_
  refine cu_s (mW_nd _ _ _ _ _ _) (rn_S (n := 3) (As := [.int 10, .int 6, .int 0]) (rest := [.ref (ad 0)]) hx hb hml hown ht hKK hFx hP hD hS hA (c_m_addi l dC dI cI cB cZ cJ cR tb H.size (10 : Int32) (6 : Int32) (0 : Int32) ) tw_65 tw_66 (by decide +kernel) rfl rfl ⟨Nat.le_of_ble_eq_true rfl, Nat.le_of_ble_eq_true rfl⟩ [] rfl rfl rfl hl.1 rfl (Nat.le_of_ble_eq_true rfl) dX13_multiplying_127 ⟨Nat.le_of_ble_eq_true rfl, Nat.le_of_ble_eq_true rfl⟩) hP hD hS hA (fun r67 H locs hw65 hP hD hS => ?_)
  have ex65 := hw65
  refine W.widen (k := 0) (n := 0) (Nat.le_refl _) (Nat.le_refl _) ?_
  refine cu_i (rn_V (n := 1) (As := [.int r67]) (rest := []) hx hb hml hown ht hKK hFx hP hD hS hA (c_m_emit l dC dI cI cB cZ cJ cR tb H.size ad N (wA (wA (wA u54 11 ((u54.1 0 12).toNatClampNeg) (0 : Int32)) 0 12 ((u54.1 0 12) + (1 : Int32))) 11 ((u54.1 0 12).toNatClampNeg) x64) r67 (show 0 ≤ ((u54.1 0 12) + (1 : Int32)).toInt ∧ ((u54.1 0 12) + (1 : Int32)).toInt < 24000 from (om_2da47a60f8 zw q28 q56 z60))) tw_8 tw_9 (by decide +kernel) rfl rfl ⟨Nat.le_of_ble_eq_true rfl, Nat.le_of_ble_eq_true rfl⟩ (List.range (mW ad N cI cZ cJ (wA (wA (wA u54 11 ((u54.1 0 12).toNatClampNeg) (0 : Int32)) 0 12 ((u54.1 0 12) + (1 : Int32))) 11 ((u54.1 0 12).toNatClampNeg) x64)).length) (rg_map _) (mW_nd _ _ _ _ _ _) rfl rfl rfl rfl hl.1 rfl (Nat.le_of_ble_eq_true rfl) dX13_multiplying_130 ⟨Nat.le_of_ble_eq_true rfl, Nat.le_of_ble_eq_true rfl⟩) hP hD hS hA (fun r70 u69 H locs hw68 hP hD hS => ?_)
  obtain ⟨rfl, rfl⟩ := hw68
  have z71 : (((u54.1 0 12) + (1 : Int32)) + (1 : Int32)).toInt = (((u54.1 0 12).toInt) + (1 : Int)) + (1 : Int) := add_z z60 (show (1 : Int32).toInt = (1 : Int) by decide) (om_199231d35c zw q28 q56) (om_f01fcb5069 zw q28 q56)
  have hP : va_P (dC, dI) vwCl (mW ad N cI cZ cJ (wA (wA (wA (wA (wA u54 11 ((u54.1 0 12).toNatClampNeg) (0 : Int32)) 0 12 ((u54.1 0 12) + (1 : Int32))) 11 ((u54.1 0 12).toNatClampNeg) x64) 11 (((u54.1 0 12) + (1 : Int32)).toNatClampNeg) r67) 0 12 (((u54.1 0 12) + (1 : Int32)) + (1 : Int32)))) H := hP
  have hD : va_D A (mW ad N cI cZ cJ (wA (wA (wA (wA (wA u54 11 ((u54.1 0 12).toNatClampNeg) (0 : Int32)) 0 12 ((u54.1 0 12) + (1 : Int32))) 11 ((u54.1 0 12).toNatClampNeg) x64) 11 (((u54.1 0 12) + (1 : Int32)).toNatClampNeg) r67) 0 12 (((u54.1 0 12) + (1 : Int32)) + (1 : Int32)))) := hD
  refine tp_i (y := ((u54.1 0 12) + (1 : Int32))) (rfl) ?_
  refine W.widen (k := 0) (n := 0) (Nat.le_refl _) (Nat.le_refl _) ?_
  refine lv_pop hx hb dX13_multiplying_133 rfl ?_
  refine lv_aload_n hx hb dX13_multiplying_134 rfl (lv_at hl 1 rfl) ?_
  refine lv_bipush (v := 103) hx hb dX13_multiplying_135 (by decide) ?_
  refine lv_iconst (v := 0) hx hb dX13_multiplying_137 (by decide) ?_
  refine lv_iconst (v := 0) hx hb dX13_multiplying_138 (by decide) ?_
  refine lv_bipush (v := 28) hx hb dX13_multiplying_139 (by decide) ?_
  refine lv_iconst (v := 0) hx hb dX13_multiplying_141 (by decide) ?_
  refine cu_s (mW_nd _ _ _ _ _ _) (rn_S (n := 5) (As := [.int 103, .int 0, .int 0, .int 28, .int 0]) (rest := [.ref (ad 0)]) hx hb hml hown ht hKK hFx hP hD hS hA (c_m_byI l dC dI cI cB cZ cJ cR tb H.size (103 : Int32) (0 : Int32) (0 : Int32) (28 : Int32) (0 : Int32) ) tw_2 tw_3 (by decide +kernel) rfl rfl ⟨Nat.le_of_ble_eq_true rfl, Nat.le_of_ble_eq_true rfl⟩ [] rfl rfl rfl hl.1 rfl (Nat.le_of_ble_eq_true rfl) dX13_multiplying_142 ⟨Nat.le_of_ble_eq_true rfl, Nat.le_of_ble_eq_true rfl⟩) hP hD hS hA (fun r74 H locs hw72 hP hD hS => ?_)
  have ex72 := hw72
  refine W.widen (k := 0) (n := 0) (Nat.le_refl _) (Nat.le_refl _) ?_
  refine cu_i (rn_V (n := 1) (As := [.int r74]) (rest := []) hx hb hml hown ht hKK hFx hP hD hS hA (c_m_emit l dC dI cI cB cZ cJ cR tb H.size ad N (wA (wA (wA (wA (wA u54 11 ((u54.1 0 12).toNatClampNeg) (0 : Int32)) 0 12 ((u54.1 0 12) + (1 : Int32))) 11 ((u54.1 0 12).toNatClampNeg) x64) 11 (((u54.1 0 12) + (1 : Int32)).toNatClampNeg) r67) 0 12 (((u54.1 0 12) + (1 : Int32)) + (1 : Int32))) r74 (show 0 ≤ (((u54.1 0 12) + (1 : Int32)) + (1 : Int32)).toInt ∧ (((u54.1 0 12) + (1 : Int32)) + (1 : Int32)).toInt < 24000 from (om_adbddf1ac1 zw q28 q56 z71))) tw_8 tw_9 (by decide +kernel) rfl rfl ⟨Nat.le_of_ble_eq_true rfl, Nat.le_of_ble_eq_true rfl⟩ (List.range (mW ad N cI cZ cJ (wA (wA (wA (wA (wA u54 11 ((u54.1 0 12).toNatClampNeg) (0 : Int32)) 0 12 ((u54.1 0 12) + (1 : Int32))) 11 ((u54.1 0 12).toNatClampNeg) x64) 11 (((u54.1 0 12) + (1 : Int32)).toNatClampNeg) r67) 0 12 (((u54.1 0 12) + (1 : Int32)) + (1 : Int32)))).length) (rg_map _) (mW_nd _ _ _ _ _ _) rfl rfl rfl rfl hl.1 rfl (Nat.le_of_ble_eq_true rfl) dX13_multiplying_145 ⟨Nat.le_of_ble_eq_true rfl, Nat.le_of_ble_eq_true rfl⟩) hP hD hS hA (fun r77 u76 H locs hw75 hP hD hS => ?_)
  obtain ⟨rfl, rfl⟩ := hw75
  have z78 : ((((u54.1 0 12) + (1 : Int32)) + (1 : Int32)) + (1 : Int32)).toInt = ((((u54.1 0 12).toInt) + (1 : Int)) + (1 : Int)) + (1 : Int) := add_z z71 (show (1 : Int32).toInt = (1 : Int) by decide) (om_8d5d77db1a zw q28 q56) (om_036af93f9a zw q28 q56)
  have hP : va_P (dC, dI) vwCl (mW ad N cI cZ cJ (wA (wA (wA (wA (wA (wA (wA u54 11 ((u54.1 0 12).toNatClampNeg) (0 : Int32)) 0 12 ((u54.1 0 12) + (1 : Int32))) 11 ((u54.1 0 12).toNatClampNeg) x64) 11 (((u54.1 0 12) + (1 : Int32)).toNatClampNeg) r67) 0 12 (((u54.1 0 12) + (1 : Int32)) + (1 : Int32))) 11 ((((u54.1 0 12) + (1 : Int32)) + (1 : Int32)).toNatClampNeg) r74) 0 12 ((((u54.1 0 12) + (1 : Int32)) + (1 : Int32)) + (1 : Int32)))) H := hP
  have hD : va_D A (mW ad N cI cZ cJ (wA (wA (wA (wA (wA (wA (wA u54 11 ((u54.1 0 12).toNatClampNeg) (0 : Int32)) 0 12 ((u54.1 0 12) + (1 : Int32))) 11 ((u54.1 0 12).toNatClampNeg) x64) 11 (((u54.1 0 12) + (1 : Int32)).toNatClampNeg) r67) 0 12 (((u54.1 0 12) + (1 : Int32)) + (1 : Int32))) 11 ((((u54.1 0 12) + (1 : Int32)) + (1 : Int32)).toNatClampNeg) r74) 0 12 ((((u54.1 0 12) + (1 : Int32)) + (1 : Int32)) + (1 : Int32)))) := hD
  refine tp_i (y := (((u54.1 0 12) + (1 : Int32)) + (1 : Int32))) (rfl) ?_
  refine W.widen (k := 0) (n := 0) (Nat.le_refl _) (Nat.le_refl _) ?_
  obtain ⟨u79, hu80⟩ : ∃ z, z = (wA (wA (wA (wA (wA (wA (wA u54 11 ((u54.1 0 12).toNatClampNeg) (0 : Int32)) 0 12 ((u54.1 0 12) + (1 : Int32))) 11 ((u54.1 0 12).toNatClampNeg) x64) 11 (((u54.1 0 12) + (1 : Int32)).toNatClampNeg) r67) 0 12 (((u54.1 0 12) + (1 : Int32)) + (1 : Int32))) 11 ((((u54.1 0 12) + (1 : Int32)) + (1 : Int32)).toNatClampNeg) r74) 0 12 ((((u54.1 0 12) + (1 : Int32)) + (1 : Int32)) + (1 : Int32))) := ⟨_, rfl⟩
  have fr80 : FG [12] [0, 11] u54 u79 := by rw [hu80]; exact (FG.f (FG.a (FG.f (FG.a (FG.a (FG.f (FG.a (FG.rf _) ((u54.1 0 12).toNatClampNeg) (0 : Int32) (by decide) (by decide)) ((u54.1 0 12) + (1 : Int32)) (by decide)) ((u54.1 0 12).toNatClampNeg) x64 (by decide) (by decide)) (((u54.1 0 12) + (1 : Int32)).toNatClampNeg) r67 (by decide) (by decide)) (((u54.1 0 12) + (1 : Int32)) + (1 : Int32)) (by decide)) ((((u54.1 0 12) + (1 : Int32)) + (1 : Int32)).toNatClampNeg) r74 (by decide) (by decide)) ((((u54.1 0 12) + (1 : Int32)) + (1 : Int32)) + (1 : Int32)) (by decide))
  rw [← hu80] at hP hD
  refine lv_pop hx hb dX13_multiplying_148 rfl ?_
  have q81 : (u79.1 0 12).toInt = (((((u54.1 0 12).toInt) + (1 : Int)) + (1 : Int)) + (1 : Int)) := by rw [hu80]; exact (show ((((u54.1 0 12) + (1 : Int32)) + (1 : Int32)) + (1 : Int32)).toInt = (((((u54.1 0 12).toInt) + (1 : Int)) + (1 : Int)) + (1 : Int)) from z78)
  exact W.vret hx hb hr (fun t ht9 hW => ⟨⟨u79, rfl, ⟨(FG.tr (FG.tr (FG.tr (FG.rf _) (FG.up fr24 (by decide) (by decide))) (FG.up fr55 (by decide) (by decide))) (FG.up fr80 (by decide) (by decide))), ⟨zw, r3, ex1, r11, ex8, r18, ex16, u23, hu24, r27, ex25, r35, ex33, r42, ex40, r49, ex47, u54, hu55, x64, ex61, r67, ex65, r74, ex72, u79, hu80, rfl⟩, (show (u79.1 0 12).toInt = (v.1 0 12).toInt + 10 from (om_817f895408 q28 q56 q81))⟩, by rw [ht9]; exact hP, hD⟩, hS.F ht9⟩) hS.2.2 dX13_multiplying_149
theorem om_d0b89f669f {x0 x1 x2 x3 : Int} (h0 : 0 ≤ x0 ∧ x0 ≤ 23950) (h1 : x1 = ((((x0) + (1 : Int)) + (1 : Int)) + (1 : Int))) (h2 : x2 = (((((x1) + (1 : Int)) + (1 : Int)) + (1 : Int)) + (1 : Int))) (h3 : x3 = (((x2) + (1 : Int)) + (1 : Int)) + (1 : Int)) : 0 ≤ x3 ∧ x3 < 24000 := by omega
theorem om_d8dd4b9ae7 {x0 x1 x2 : Int} (h0 : 0 ≤ x0 ∧ x0 ≤ 23950) (h1 : x1 = ((((x0) + (1 : Int)) + (1 : Int)) + (1 : Int))) (h2 : x2 = (((((x1) + (1 : Int)) + (1 : Int)) + (1 : Int)) + (1 : Int))) : -2147483648 ≤ ((((x2) + (1 : Int)) + (1 : Int)) + (1 : Int)) + (1 : Int) := by omega
theorem om_3428ef2a12 {x0 x1 x2 : Int} (h0 : 0 ≤ x0 ∧ x0 ≤ 23950) (h1 : x1 = ((((x0) + (1 : Int)) + (1 : Int)) + (1 : Int))) (h2 : x2 = (((((x1) + (1 : Int)) + (1 : Int)) + (1 : Int)) + (1 : Int))) : ((((x2) + (1 : Int)) + (1 : Int)) + (1 : Int)) + (1 : Int) < 2147483648 := by omega
theorem om_9fbeff9861 {x0 x1 x2 x3 : Int} (h0 : 0 ≤ x0 ∧ x0 ≤ 23950) (h1 : x1 = ((((x0) + (1 : Int)) + (1 : Int)) + (1 : Int))) (h2 : x2 = (((((x1) + (1 : Int)) + (1 : Int)) + (1 : Int)) + (1 : Int))) (h3 : x3 = (((((x2) + (1 : Int)) + (1 : Int)) + (1 : Int)) + (1 : Int))) : 0 ≤ x3 ∧ x3 < 24000 := by omega
theorem om_adb9c5c7da {x0 x1 x2 x3 : Int} (h0 : 0 ≤ x0 ∧ x0 ≤ 23950) (h1 : x1 = ((((x0) + (1 : Int)) + (1 : Int)) + (1 : Int))) (h2 : x2 = (((((x1) + (1 : Int)) + (1 : Int)) + (1 : Int)) + (1 : Int))) (h3 : x3 = (((((x2) + (1 : Int)) + (1 : Int)) + (1 : Int)) + (1 : Int))) : -2147483648 ≤ (x3) + (1 : Int) := by omega
theorem om_7abc624683 {x0 x1 x2 x3 : Int} (h0 : 0 ≤ x0 ∧ x0 ≤ 23950) (h1 : x1 = ((((x0) + (1 : Int)) + (1 : Int)) + (1 : Int))) (h2 : x2 = (((((x1) + (1 : Int)) + (1 : Int)) + (1 : Int)) + (1 : Int))) (h3 : x3 = (((((x2) + (1 : Int)) + (1 : Int)) + (1 : Int)) + (1 : Int))) : (x3) + (1 : Int) < 2147483648 := by omega
theorem om_2af1ea54c6 {x0 x1 x2 x3 x4 : Int} (h0 : 0 ≤ x0 ∧ x0 ≤ 23950) (h1 : x1 = ((((x0) + (1 : Int)) + (1 : Int)) + (1 : Int))) (h2 : x2 = (((((x1) + (1 : Int)) + (1 : Int)) + (1 : Int)) + (1 : Int))) (h3 : x3 = (((((x2) + (1 : Int)) + (1 : Int)) + (1 : Int)) + (1 : Int))) (h4 : x4 = (x3) + (1 : Int)) : 0 ≤ x4 ∧ x4 < 24000 := by omega
theorem om_3281131d07 {x0 x1 x2 x3 : Int} (h0 : 0 ≤ x0 ∧ x0 ≤ 23950) (h1 : x1 = ((((x0) + (1 : Int)) + (1 : Int)) + (1 : Int))) (h2 : x2 = (((((x1) + (1 : Int)) + (1 : Int)) + (1 : Int)) + (1 : Int))) (h3 : x3 = (((((x2) + (1 : Int)) + (1 : Int)) + (1 : Int)) + (1 : Int))) : -2147483648 ≤ ((x3) + (1 : Int)) + (1 : Int) := by omega
theorem om_2e10d8c185 {x0 x1 x2 x3 : Int} (h0 : 0 ≤ x0 ∧ x0 ≤ 23950) (h1 : x1 = ((((x0) + (1 : Int)) + (1 : Int)) + (1 : Int))) (h2 : x2 = (((((x1) + (1 : Int)) + (1 : Int)) + (1 : Int)) + (1 : Int))) (h3 : x3 = (((((x2) + (1 : Int)) + (1 : Int)) + (1 : Int)) + (1 : Int))) : ((x3) + (1 : Int)) + (1 : Int) < 2147483648 := by omega
theorem om_9102d0c934 {x0 x1 x2 x3 x4 : Int} (h0 : 0 ≤ x0 ∧ x0 ≤ 23950) (h1 : x1 = ((((x0) + (1 : Int)) + (1 : Int)) + (1 : Int))) (h2 : x2 = (((((x1) + (1 : Int)) + (1 : Int)) + (1 : Int)) + (1 : Int))) (h3 : x3 = (((((x2) + (1 : Int)) + (1 : Int)) + (1 : Int)) + (1 : Int))) (h4 : x4 = ((x3) + (1 : Int)) + (1 : Int)) : 0 ≤ x4 ∧ x4 < 24000 := by omega
theorem om_350844ff38 {x0 x1 x2 x3 : Int} (h0 : 0 ≤ x0 ∧ x0 ≤ 23950) (h1 : x1 = ((((x0) + (1 : Int)) + (1 : Int)) + (1 : Int))) (h2 : x2 = (((((x1) + (1 : Int)) + (1 : Int)) + (1 : Int)) + (1 : Int))) (h3 : x3 = (((((x2) + (1 : Int)) + (1 : Int)) + (1 : Int)) + (1 : Int))) : -2147483648 ≤ (((x3) + (1 : Int)) + (1 : Int)) + (1 : Int) := by omega
theorem om_42458dd121 {x0 x1 x2 x3 : Int} (h0 : 0 ≤ x0 ∧ x0 ≤ 23950) (h1 : x1 = ((((x0) + (1 : Int)) + (1 : Int)) + (1 : Int))) (h2 : x2 = (((((x1) + (1 : Int)) + (1 : Int)) + (1 : Int)) + (1 : Int))) (h3 : x3 = (((((x2) + (1 : Int)) + (1 : Int)) + (1 : Int)) + (1 : Int))) : (((x3) + (1 : Int)) + (1 : Int)) + (1 : Int) < 2147483648 := by omega
theorem om_2ad36d95c0 {x0 x1 x2 x3 x4 : Int} (h0 : 0 ≤ x0 ∧ x0 ≤ 23950) (h1 : x1 = ((((x0) + (1 : Int)) + (1 : Int)) + (1 : Int))) (h2 : x2 = (((((x1) + (1 : Int)) + (1 : Int)) + (1 : Int)) + (1 : Int))) (h3 : x3 = (((((x2) + (1 : Int)) + (1 : Int)) + (1 : Int)) + (1 : Int))) (h4 : x4 = (((x3) + (1 : Int)) + (1 : Int)) + (1 : Int)) : 0 ≤ x4 ∧ x4 < 24000 := by omega
theorem om_b169c40e24 {x0 x1 x2 x3 : Int} (h0 : 0 ≤ x0 ∧ x0 ≤ 23950) (h1 : x1 = ((((x0) + (1 : Int)) + (1 : Int)) + (1 : Int))) (h2 : x2 = (((((x1) + (1 : Int)) + (1 : Int)) + (1 : Int)) + (1 : Int))) (h3 : x3 = (((((x2) + (1 : Int)) + (1 : Int)) + (1 : Int)) + (1 : Int))) : -2147483648 ≤ ((((x3) + (1 : Int)) + (1 : Int)) + (1 : Int)) + (1 : Int) := by omega
theorem om_95c8e012d7 {x0 x1 x2 x3 : Int} (h0 : 0 ≤ x0 ∧ x0 ≤ 23950) (h1 : x1 = ((((x0) + (1 : Int)) + (1 : Int)) + (1 : Int))) (h2 : x2 = (((((x1) + (1 : Int)) + (1 : Int)) + (1 : Int)) + (1 : Int))) (h3 : x3 = (((((x2) + (1 : Int)) + (1 : Int)) + (1 : Int)) + (1 : Int))) : ((((x3) + (1 : Int)) + (1 : Int)) + (1 : Int)) + (1 : Int) < 2147483648 := by omega
theorem om_78bf6ae9cc {x0 x1 x2 x3 x4 : Int} (h0 : 0 ≤ x0 ∧ x0 ≤ 23950) (h1 : x1 = ((((x0) + (1 : Int)) + (1 : Int)) + (1 : Int))) (h2 : x2 = (((((x1) + (1 : Int)) + (1 : Int)) + (1 : Int)) + (1 : Int))) (h3 : x3 = (((((x2) + (1 : Int)) + (1 : Int)) + (1 : Int)) + (1 : Int))) (h4 : x4 = (((((x3) + (1 : Int)) + (1 : Int)) + (1 : Int)) + (1 : Int))) : 0 ≤ x4 ∧ x4 < 24000 := by omega
theorem om_e980d74b19 {x0 x1 x2 x3 x4 : Int} (h0 : 0 ≤ x0 ∧ x0 ≤ 23950) (h1 : x1 = ((((x0) + (1 : Int)) + (1 : Int)) + (1 : Int))) (h2 : x2 = (((((x1) + (1 : Int)) + (1 : Int)) + (1 : Int)) + (1 : Int))) (h3 : x3 = (((((x2) + (1 : Int)) + (1 : Int)) + (1 : Int)) + (1 : Int))) (h4 : x4 = (((((x3) + (1 : Int)) + (1 : Int)) + (1 : Int)) + (1 : Int))) : -2147483648 ≤ (x4) + (1 : Int) := by omega
theorem om_14c198eb23 {x0 x1 x2 x3 x4 : Int} (h0 : 0 ≤ x0 ∧ x0 ≤ 23950) (h1 : x1 = ((((x0) + (1 : Int)) + (1 : Int)) + (1 : Int))) (h2 : x2 = (((((x1) + (1 : Int)) + (1 : Int)) + (1 : Int)) + (1 : Int))) (h3 : x3 = (((((x2) + (1 : Int)) + (1 : Int)) + (1 : Int)) + (1 : Int))) (h4 : x4 = (((((x3) + (1 : Int)) + (1 : Int)) + (1 : Int)) + (1 : Int))) : (x4) + (1 : Int) < 2147483648 := by omega
theorem om_46b98ea773 {x0 x1 x2 x3 x4 x5 : Int} (h0 : 0 ≤ x0 ∧ x0 ≤ 23950) (h1 : x1 = ((((x0) + (1 : Int)) + (1 : Int)) + (1 : Int))) (h2 : x2 = (((((x1) + (1 : Int)) + (1 : Int)) + (1 : Int)) + (1 : Int))) (h3 : x3 = (((((x2) + (1 : Int)) + (1 : Int)) + (1 : Int)) + (1 : Int))) (h4 : x4 = (((((x3) + (1 : Int)) + (1 : Int)) + (1 : Int)) + (1 : Int))) (h5 : x5 = (x4) + (1 : Int)) : 0 ≤ x5 ∧ x5 < 24000 := by omega
theorem om_0d8064f7d0 {x0 x1 x2 x3 x4 : Int} (h0 : 0 ≤ x0 ∧ x0 ≤ 23950) (h1 : x1 = ((((x0) + (1 : Int)) + (1 : Int)) + (1 : Int))) (h2 : x2 = (((((x1) + (1 : Int)) + (1 : Int)) + (1 : Int)) + (1 : Int))) (h3 : x3 = (((((x2) + (1 : Int)) + (1 : Int)) + (1 : Int)) + (1 : Int))) (h4 : x4 = (((((x3) + (1 : Int)) + (1 : Int)) + (1 : Int)) + (1 : Int))) : -2147483648 ≤ ((x4) + (1 : Int)) + (1 : Int) := by omega
theorem om_c4e0faefb9 {x0 x1 x2 x3 x4 : Int} (h0 : 0 ≤ x0 ∧ x0 ≤ 23950) (h1 : x1 = ((((x0) + (1 : Int)) + (1 : Int)) + (1 : Int))) (h2 : x2 = (((((x1) + (1 : Int)) + (1 : Int)) + (1 : Int)) + (1 : Int))) (h3 : x3 = (((((x2) + (1 : Int)) + (1 : Int)) + (1 : Int)) + (1 : Int))) (h4 : x4 = (((((x3) + (1 : Int)) + (1 : Int)) + (1 : Int)) + (1 : Int))) : ((x4) + (1 : Int)) + (1 : Int) < 2147483648 := by omega
theorem om_10eaf79fe8 {x0 x1 x2 x3 x4 x5 : Int} (h0 : 0 ≤ x0 ∧ x0 ≤ 23950) (h1 : x1 = ((((x0) + (1 : Int)) + (1 : Int)) + (1 : Int))) (h2 : x2 = (((((x1) + (1 : Int)) + (1 : Int)) + (1 : Int)) + (1 : Int))) (h3 : x3 = (((((x2) + (1 : Int)) + (1 : Int)) + (1 : Int)) + (1 : Int))) (h4 : x4 = (((((x3) + (1 : Int)) + (1 : Int)) + (1 : Int)) + (1 : Int))) (h5 : x5 = ((x4) + (1 : Int)) + (1 : Int)) : 0 ≤ x5 ∧ x5 < 24000 := by omega
theorem om_098f982c32 {x0 x1 x2 x3 x4 : Int} (h0 : 0 ≤ x0 ∧ x0 ≤ 23950) (h1 : x1 = ((((x0) + (1 : Int)) + (1 : Int)) + (1 : Int))) (h2 : x2 = (((((x1) + (1 : Int)) + (1 : Int)) + (1 : Int)) + (1 : Int))) (h3 : x3 = (((((x2) + (1 : Int)) + (1 : Int)) + (1 : Int)) + (1 : Int))) (h4 : x4 = (((((x3) + (1 : Int)) + (1 : Int)) + (1 : Int)) + (1 : Int))) : -2147483648 ≤ (((x4) + (1 : Int)) + (1 : Int)) + (1 : Int) := by omega
theorem om_cbae33c7de {x0 x1 x2 x3 x4 : Int} (h0 : 0 ≤ x0 ∧ x0 ≤ 23950) (h1 : x1 = ((((x0) + (1 : Int)) + (1 : Int)) + (1 : Int))) (h2 : x2 = (((((x1) + (1 : Int)) + (1 : Int)) + (1 : Int)) + (1 : Int))) (h3 : x3 = (((((x2) + (1 : Int)) + (1 : Int)) + (1 : Int)) + (1 : Int))) (h4 : x4 = (((((x3) + (1 : Int)) + (1 : Int)) + (1 : Int)) + (1 : Int))) : (((x4) + (1 : Int)) + (1 : Int)) + (1 : Int) < 2147483648 := by omega
theorem om_632022263a {x0 x1 x2 x3 x4 x5 : Int} (h0 : 0 ≤ x0 ∧ x0 ≤ 23950) (h1 : x1 = ((((x0) + (1 : Int)) + (1 : Int)) + (1 : Int))) (h2 : x2 = (((((x1) + (1 : Int)) + (1 : Int)) + (1 : Int)) + (1 : Int))) (h3 : x3 = (((((x2) + (1 : Int)) + (1 : Int)) + (1 : Int)) + (1 : Int))) (h4 : x4 = (((((x3) + (1 : Int)) + (1 : Int)) + (1 : Int)) + (1 : Int))) (h5 : x5 = (((x4) + (1 : Int)) + (1 : Int)) + (1 : Int)) : 0 ≤ x5 ∧ x5 < 24000 := by omega
theorem om_6ce707363e {x0 x1 x2 x3 x4 : Int} (h0 : 0 ≤ x0 ∧ x0 ≤ 23950) (h1 : x1 = ((((x0) + (1 : Int)) + (1 : Int)) + (1 : Int))) (h2 : x2 = (((((x1) + (1 : Int)) + (1 : Int)) + (1 : Int)) + (1 : Int))) (h3 : x3 = (((((x2) + (1 : Int)) + (1 : Int)) + (1 : Int)) + (1 : Int))) (h4 : x4 = (((((x3) + (1 : Int)) + (1 : Int)) + (1 : Int)) + (1 : Int))) : -2147483648 ≤ ((((x4) + (1 : Int)) + (1 : Int)) + (1 : Int)) + (1 : Int) := by omega
theorem om_89cb09b38f {x0 x1 x2 x3 x4 : Int} (h0 : 0 ≤ x0 ∧ x0 ≤ 23950) (h1 : x1 = ((((x0) + (1 : Int)) + (1 : Int)) + (1 : Int))) (h2 : x2 = (((((x1) + (1 : Int)) + (1 : Int)) + (1 : Int)) + (1 : Int))) (h3 : x3 = (((((x2) + (1 : Int)) + (1 : Int)) + (1 : Int)) + (1 : Int))) (h4 : x4 = (((((x3) + (1 : Int)) + (1 : Int)) + (1 : Int)) + (1 : Int))) : ((((x4) + (1 : Int)) + (1 : Int)) + (1 : Int)) + (1 : Int) < 2147483648 := by omega
theorem om_046e5e58d2 {x0 x1 x2 x3 x4 x5 : Int} (h0 : 0 ≤ x0 ∧ x0 ≤ 23950) (h1 : x1 = ((((x0) + (1 : Int)) + (1 : Int)) + (1 : Int))) (h2 : x2 = (((((x1) + (1 : Int)) + (1 : Int)) + (1 : Int)) + (1 : Int))) (h3 : x3 = (((((x2) + (1 : Int)) + (1 : Int)) + (1 : Int)) + (1 : Int))) (h4 : x4 = (((((x3) + (1 : Int)) + (1 : Int)) + (1 : Int)) + (1 : Int))) (h5 : x5 = (((((x4) + (1 : Int)) + (1 : Int)) + (1 : Int)) + (1 : Int))) : 0 ≤ x5 ∧ x5 < 24000 := by omega
theorem om_43ef736baf {x0 x1 x2 x3 x4 x5 : Int} (h0 : 0 ≤ x0 ∧ x0 ≤ 23950) (h1 : x1 = ((((x0) + (1 : Int)) + (1 : Int)) + (1 : Int))) (h2 : x2 = (((((x1) + (1 : Int)) + (1 : Int)) + (1 : Int)) + (1 : Int))) (h3 : x3 = (((((x2) + (1 : Int)) + (1 : Int)) + (1 : Int)) + (1 : Int))) (h4 : x4 = (((((x3) + (1 : Int)) + (1 : Int)) + (1 : Int)) + (1 : Int))) (h5 : x5 = (((((x4) + (1 : Int)) + (1 : Int)) + (1 : Int)) + (1 : Int))) : -2147483648 ≤ (x5) + (1 : Int) := by omega
theorem om_4a53c98cbe {x0 x1 x2 x3 x4 x5 : Int} (h0 : 0 ≤ x0 ∧ x0 ≤ 23950) (h1 : x1 = ((((x0) + (1 : Int)) + (1 : Int)) + (1 : Int))) (h2 : x2 = (((((x1) + (1 : Int)) + (1 : Int)) + (1 : Int)) + (1 : Int))) (h3 : x3 = (((((x2) + (1 : Int)) + (1 : Int)) + (1 : Int)) + (1 : Int))) (h4 : x4 = (((((x3) + (1 : Int)) + (1 : Int)) + (1 : Int)) + (1 : Int))) (h5 : x5 = (((((x4) + (1 : Int)) + (1 : Int)) + (1 : Int)) + (1 : Int))) : (x5) + (1 : Int) < 2147483648 := by omega
theorem om_02fe4f03c2 {x0 x1 x2 x3 x4 x5 x6 : Int} (h0 : 0 ≤ x0 ∧ x0 ≤ 23950) (h1 : x1 = ((((x0) + (1 : Int)) + (1 : Int)) + (1 : Int))) (h2 : x2 = (((((x1) + (1 : Int)) + (1 : Int)) + (1 : Int)) + (1 : Int))) (h3 : x3 = (((((x2) + (1 : Int)) + (1 : Int)) + (1 : Int)) + (1 : Int))) (h4 : x4 = (((((x3) + (1 : Int)) + (1 : Int)) + (1 : Int)) + (1 : Int))) (h5 : x5 = (((((x4) + (1 : Int)) + (1 : Int)) + (1 : Int)) + (1 : Int))) (h6 : x6 = (x5) + (1 : Int)) : 0 ≤ x6 ∧ x6 < 24000 := by omega
theorem om_a72441ef71 {x0 x1 x2 x3 x4 x5 : Int} (h0 : 0 ≤ x0 ∧ x0 ≤ 23950) (h1 : x1 = ((((x0) + (1 : Int)) + (1 : Int)) + (1 : Int))) (h2 : x2 = (((((x1) + (1 : Int)) + (1 : Int)) + (1 : Int)) + (1 : Int))) (h3 : x3 = (((((x2) + (1 : Int)) + (1 : Int)) + (1 : Int)) + (1 : Int))) (h4 : x4 = (((((x3) + (1 : Int)) + (1 : Int)) + (1 : Int)) + (1 : Int))) (h5 : x5 = (((((x4) + (1 : Int)) + (1 : Int)) + (1 : Int)) + (1 : Int))) : -2147483648 ≤ ((x5) + (1 : Int)) + (1 : Int) := by omega
theorem om_9810048331 {x0 x1 x2 x3 x4 x5 : Int} (h0 : 0 ≤ x0 ∧ x0 ≤ 23950) (h1 : x1 = ((((x0) + (1 : Int)) + (1 : Int)) + (1 : Int))) (h2 : x2 = (((((x1) + (1 : Int)) + (1 : Int)) + (1 : Int)) + (1 : Int))) (h3 : x3 = (((((x2) + (1 : Int)) + (1 : Int)) + (1 : Int)) + (1 : Int))) (h4 : x4 = (((((x3) + (1 : Int)) + (1 : Int)) + (1 : Int)) + (1 : Int))) (h5 : x5 = (((((x4) + (1 : Int)) + (1 : Int)) + (1 : Int)) + (1 : Int))) : ((x5) + (1 : Int)) + (1 : Int) < 2147483648 := by omega
theorem om_3898685338 {x0 x1 x2 x3 x4 x5 x6 : Int} (h0 : 0 ≤ x0 ∧ x0 ≤ 23950) (h1 : x1 = ((((x0) + (1 : Int)) + (1 : Int)) + (1 : Int))) (h2 : x2 = (((((x1) + (1 : Int)) + (1 : Int)) + (1 : Int)) + (1 : Int))) (h3 : x3 = (((((x2) + (1 : Int)) + (1 : Int)) + (1 : Int)) + (1 : Int))) (h4 : x4 = (((((x3) + (1 : Int)) + (1 : Int)) + (1 : Int)) + (1 : Int))) (h5 : x5 = (((((x4) + (1 : Int)) + (1 : Int)) + (1 : Int)) + (1 : Int))) (h6 : x6 = ((x5) + (1 : Int)) + (1 : Int)) : 0 ≤ x6 ∧ x6 < 24000 := by omega
theorem om_72fb2319ff {x0 x1 x2 x3 x4 x5 : Int} (h0 : 0 ≤ x0 ∧ x0 ≤ 23950) (h1 : x1 = ((((x0) + (1 : Int)) + (1 : Int)) + (1 : Int))) (h2 : x2 = (((((x1) + (1 : Int)) + (1 : Int)) + (1 : Int)) + (1 : Int))) (h3 : x3 = (((((x2) + (1 : Int)) + (1 : Int)) + (1 : Int)) + (1 : Int))) (h4 : x4 = (((((x3) + (1 : Int)) + (1 : Int)) + (1 : Int)) + (1 : Int))) (h5 : x5 = (((((x4) + (1 : Int)) + (1 : Int)) + (1 : Int)) + (1 : Int))) : -2147483648 ≤ (((x5) + (1 : Int)) + (1 : Int)) + (1 : Int) := by omega
theorem om_c74f5434e5 {x0 x1 x2 x3 x4 x5 : Int} (h0 : 0 ≤ x0 ∧ x0 ≤ 23950) (h1 : x1 = ((((x0) + (1 : Int)) + (1 : Int)) + (1 : Int))) (h2 : x2 = (((((x1) + (1 : Int)) + (1 : Int)) + (1 : Int)) + (1 : Int))) (h3 : x3 = (((((x2) + (1 : Int)) + (1 : Int)) + (1 : Int)) + (1 : Int))) (h4 : x4 = (((((x3) + (1 : Int)) + (1 : Int)) + (1 : Int)) + (1 : Int))) (h5 : x5 = (((((x4) + (1 : Int)) + (1 : Int)) + (1 : Int)) + (1 : Int))) : (((x5) + (1 : Int)) + (1 : Int)) + (1 : Int) < 2147483648 := by omega
theorem om_99d4b6591d {x0 x1 x2 x3 x4 x5 x6 : Int} (h0 : 0 ≤ x0 ∧ x0 ≤ 23950) (h1 : x1 = ((((x0) + (1 : Int)) + (1 : Int)) + (1 : Int))) (h2 : x2 = (((((x1) + (1 : Int)) + (1 : Int)) + (1 : Int)) + (1 : Int))) (h3 : x3 = (((((x2) + (1 : Int)) + (1 : Int)) + (1 : Int)) + (1 : Int))) (h4 : x4 = (((((x3) + (1 : Int)) + (1 : Int)) + (1 : Int)) + (1 : Int))) (h5 : x5 = (((((x4) + (1 : Int)) + (1 : Int)) + (1 : Int)) + (1 : Int))) (h6 : x6 = (((x5) + (1 : Int)) + (1 : Int)) + (1 : Int)) : 0 ≤ x6 ∧ x6 < 24000 := by omega
theorem om_e88030ed2f {x0 x1 x2 x3 x4 x5 : Int} (h0 : 0 ≤ x0 ∧ x0 ≤ 23950) (h1 : x1 = ((((x0) + (1 : Int)) + (1 : Int)) + (1 : Int))) (h2 : x2 = (((((x1) + (1 : Int)) + (1 : Int)) + (1 : Int)) + (1 : Int))) (h3 : x3 = (((((x2) + (1 : Int)) + (1 : Int)) + (1 : Int)) + (1 : Int))) (h4 : x4 = (((((x3) + (1 : Int)) + (1 : Int)) + (1 : Int)) + (1 : Int))) (h5 : x5 = (((((x4) + (1 : Int)) + (1 : Int)) + (1 : Int)) + (1 : Int))) : -2147483648 ≤ ((((x5) + (1 : Int)) + (1 : Int)) + (1 : Int)) + (1 : Int) := by omega
theorem om_4c02507385 {x0 x1 x2 x3 x4 x5 : Int} (h0 : 0 ≤ x0 ∧ x0 ≤ 23950) (h1 : x1 = ((((x0) + (1 : Int)) + (1 : Int)) + (1 : Int))) (h2 : x2 = (((((x1) + (1 : Int)) + (1 : Int)) + (1 : Int)) + (1 : Int))) (h3 : x3 = (((((x2) + (1 : Int)) + (1 : Int)) + (1 : Int)) + (1 : Int))) (h4 : x4 = (((((x3) + (1 : Int)) + (1 : Int)) + (1 : Int)) + (1 : Int))) (h5 : x5 = (((((x4) + (1 : Int)) + (1 : Int)) + (1 : Int)) + (1 : Int))) : ((((x5) + (1 : Int)) + (1 : Int)) + (1 : Int)) + (1 : Int) < 2147483648 := by omega
theorem om_0fcc0266b9 {x0 x1 x2 x3 x4 x5 x6 : Int} (h0 : 0 ≤ x0 ∧ x0 ≤ 23950) (h1 : x1 = ((((x0) + (1 : Int)) + (1 : Int)) + (1 : Int))) (h2 : x2 = (((((x1) + (1 : Int)) + (1 : Int)) + (1 : Int)) + (1 : Int))) (h3 : x3 = (((((x2) + (1 : Int)) + (1 : Int)) + (1 : Int)) + (1 : Int))) (h4 : x4 = (((((x3) + (1 : Int)) + (1 : Int)) + (1 : Int)) + (1 : Int))) (h5 : x5 = (((((x4) + (1 : Int)) + (1 : Int)) + (1 : Int)) + (1 : Int))) (h6 : x6 = (((((x5) + (1 : Int)) + (1 : Int)) + (1 : Int)) + (1 : Int))) : 0 ≤ x6 ∧ x6 < 24000 := by omega
theorem om_d8fb9cd6fa {x0 x1 x2 x3 x4 x5 x6 : Int} (h0 : 0 ≤ x0 ∧ x0 ≤ 23950) (h1 : x1 = ((((x0) + (1 : Int)) + (1 : Int)) + (1 : Int))) (h2 : x2 = (((((x1) + (1 : Int)) + (1 : Int)) + (1 : Int)) + (1 : Int))) (h3 : x3 = (((((x2) + (1 : Int)) + (1 : Int)) + (1 : Int)) + (1 : Int))) (h4 : x4 = (((((x3) + (1 : Int)) + (1 : Int)) + (1 : Int)) + (1 : Int))) (h5 : x5 = (((((x4) + (1 : Int)) + (1 : Int)) + (1 : Int)) + (1 : Int))) (h6 : x6 = (((((x5) + (1 : Int)) + (1 : Int)) + (1 : Int)) + (1 : Int))) : -2147483648 ≤ (x6) + (1 : Int) := by omega
theorem om_307bec2952 {x0 x1 x2 x3 x4 x5 x6 : Int} (h0 : 0 ≤ x0 ∧ x0 ≤ 23950) (h1 : x1 = ((((x0) + (1 : Int)) + (1 : Int)) + (1 : Int))) (h2 : x2 = (((((x1) + (1 : Int)) + (1 : Int)) + (1 : Int)) + (1 : Int))) (h3 : x3 = (((((x2) + (1 : Int)) + (1 : Int)) + (1 : Int)) + (1 : Int))) (h4 : x4 = (((((x3) + (1 : Int)) + (1 : Int)) + (1 : Int)) + (1 : Int))) (h5 : x5 = (((((x4) + (1 : Int)) + (1 : Int)) + (1 : Int)) + (1 : Int))) (h6 : x6 = (((((x5) + (1 : Int)) + (1 : Int)) + (1 : Int)) + (1 : Int))) : (x6) + (1 : Int) < 2147483648 := by omega
theorem om_1c7586c326 {x0 x1 x2 x3 x4 x5 x6 x7 : Int} (h0 : 0 ≤ x0 ∧ x0 ≤ 23950) (h1 : x1 = ((((x0) + (1 : Int)) + (1 : Int)) + (1 : Int))) (h2 : x2 = (((((x1) + (1 : Int)) + (1 : Int)) + (1 : Int)) + (1 : Int))) (h3 : x3 = (((((x2) + (1 : Int)) + (1 : Int)) + (1 : Int)) + (1 : Int))) (h4 : x4 = (((((x3) + (1 : Int)) + (1 : Int)) + (1 : Int)) + (1 : Int))) (h5 : x5 = (((((x4) + (1 : Int)) + (1 : Int)) + (1 : Int)) + (1 : Int))) (h6 : x6 = (((((x5) + (1 : Int)) + (1 : Int)) + (1 : Int)) + (1 : Int))) (h7 : x7 = (x6) + (1 : Int)) : 0 ≤ x7 ∧ x7 < 24000 := by omega
theorem om_3b6d60bb99 {x0 x1 x2 x3 x4 x5 x6 : Int} (h0 : 0 ≤ x0 ∧ x0 ≤ 23950) (h1 : x1 = ((((x0) + (1 : Int)) + (1 : Int)) + (1 : Int))) (h2 : x2 = (((((x1) + (1 : Int)) + (1 : Int)) + (1 : Int)) + (1 : Int))) (h3 : x3 = (((((x2) + (1 : Int)) + (1 : Int)) + (1 : Int)) + (1 : Int))) (h4 : x4 = (((((x3) + (1 : Int)) + (1 : Int)) + (1 : Int)) + (1 : Int))) (h5 : x5 = (((((x4) + (1 : Int)) + (1 : Int)) + (1 : Int)) + (1 : Int))) (h6 : x6 = (((((x5) + (1 : Int)) + (1 : Int)) + (1 : Int)) + (1 : Int))) : -2147483648 ≤ ((x6) + (1 : Int)) + (1 : Int) := by omega
theorem om_ee71e38e7b {x0 x1 x2 x3 x4 x5 x6 : Int} (h0 : 0 ≤ x0 ∧ x0 ≤ 23950) (h1 : x1 = ((((x0) + (1 : Int)) + (1 : Int)) + (1 : Int))) (h2 : x2 = (((((x1) + (1 : Int)) + (1 : Int)) + (1 : Int)) + (1 : Int))) (h3 : x3 = (((((x2) + (1 : Int)) + (1 : Int)) + (1 : Int)) + (1 : Int))) (h4 : x4 = (((((x3) + (1 : Int)) + (1 : Int)) + (1 : Int)) + (1 : Int))) (h5 : x5 = (((((x4) + (1 : Int)) + (1 : Int)) + (1 : Int)) + (1 : Int))) (h6 : x6 = (((((x5) + (1 : Int)) + (1 : Int)) + (1 : Int)) + (1 : Int))) : ((x6) + (1 : Int)) + (1 : Int) < 2147483648 := by omega
theorem om_1e8b730683 {x0 x1 x2 x3 x4 x5 x6 x7 : Int} (h0 : 0 ≤ x0 ∧ x0 ≤ 23950) (h1 : x1 = ((((x0) + (1 : Int)) + (1 : Int)) + (1 : Int))) (h2 : x2 = (((((x1) + (1 : Int)) + (1 : Int)) + (1 : Int)) + (1 : Int))) (h3 : x3 = (((((x2) + (1 : Int)) + (1 : Int)) + (1 : Int)) + (1 : Int))) (h4 : x4 = (((((x3) + (1 : Int)) + (1 : Int)) + (1 : Int)) + (1 : Int))) (h5 : x5 = (((((x4) + (1 : Int)) + (1 : Int)) + (1 : Int)) + (1 : Int))) (h6 : x6 = (((((x5) + (1 : Int)) + (1 : Int)) + (1 : Int)) + (1 : Int))) (h7 : x7 = ((x6) + (1 : Int)) + (1 : Int)) : 0 ≤ x7 ∧ x7 < 24000 := by omega
theorem om_e5f7154b1d {x0 x1 x2 x3 x4 x5 x6 : Int} (h0 : 0 ≤ x0 ∧ x0 ≤ 23950) (h1 : x1 = ((((x0) + (1 : Int)) + (1 : Int)) + (1 : Int))) (h2 : x2 = (((((x1) + (1 : Int)) + (1 : Int)) + (1 : Int)) + (1 : Int))) (h3 : x3 = (((((x2) + (1 : Int)) + (1 : Int)) + (1 : Int)) + (1 : Int))) (h4 : x4 = (((((x3) + (1 : Int)) + (1 : Int)) + (1 : Int)) + (1 : Int))) (h5 : x5 = (((((x4) + (1 : Int)) + (1 : Int)) + (1 : Int)) + (1 : Int))) (h6 : x6 = (((((x5) + (1 : Int)) + (1 : Int)) + (1 : Int)) + (1 : Int))) : -2147483648 ≤ (((x6) + (1 : Int)) + (1 : Int)) + (1 : Int) := by omega
theorem om_4c424b60fa {x0 x1 x2 x3 x4 x5 x6 : Int} (h0 : 0 ≤ x0 ∧ x0 ≤ 23950) (h1 : x1 = ((((x0) + (1 : Int)) + (1 : Int)) + (1 : Int))) (h2 : x2 = (((((x1) + (1 : Int)) + (1 : Int)) + (1 : Int)) + (1 : Int))) (h3 : x3 = (((((x2) + (1 : Int)) + (1 : Int)) + (1 : Int)) + (1 : Int))) (h4 : x4 = (((((x3) + (1 : Int)) + (1 : Int)) + (1 : Int)) + (1 : Int))) (h5 : x5 = (((((x4) + (1 : Int)) + (1 : Int)) + (1 : Int)) + (1 : Int))) (h6 : x6 = (((((x5) + (1 : Int)) + (1 : Int)) + (1 : Int)) + (1 : Int))) : (((x6) + (1 : Int)) + (1 : Int)) + (1 : Int) < 2147483648 := by omega
theorem om_e3d39c65e5 {x0 x1 x2 x3 x4 x5 x6 x7 : Int} (h0 : x0 = ((((x1) + (1 : Int)) + (1 : Int)) + (1 : Int))) (h1 : x2 = (((((x0) + (1 : Int)) + (1 : Int)) + (1 : Int)) + (1 : Int))) (h2 : x3 = (((((x2) + (1 : Int)) + (1 : Int)) + (1 : Int)) + (1 : Int))) (h3 : x4 = (((((x3) + (1 : Int)) + (1 : Int)) + (1 : Int)) + (1 : Int))) (h4 : x5 = (((((x4) + (1 : Int)) + (1 : Int)) + (1 : Int)) + (1 : Int))) (h5 : x6 = (((((x5) + (1 : Int)) + (1 : Int)) + (1 : Int)) + (1 : Int))) (h6 : x7 = (((x6) + (1 : Int)) + (1 : Int)) + (1 : Int)) : x7 = x1 + 26 := by omega
set_option maxHeartbeats 4000000 in
set_option maxRecDepth 100000 in
theorem c_m_dividing (l : Launch) (dC : Nat → ClassId) (dI : Nat → Nat → Nat) (cI cB cZ cJ cR : ClassId) (tb : Nat → Nat) (sz : Nat) (ad : Nat → Nat) (N : Nat) (v : MS)  (zw : 0 ≤ (v.1 0 12).toInt ∧ (v.1 0 12).toInt ≤ 23950) : Met l yX13_dividing (Cond.code yX13_dividing cX13_dividing 1 none :: tw_W) ({ frames := 2, cells := 0, slots := 0, locals := 46 }) (pc_ (dC, dI) (tyS cI cB cZ cJ cR) tb (mW ad N cI cZ cJ v) sz [.ref (ad 0)]) (qv_ (dC, dI) (mW ad N cI cZ cJ v) sz (fun (u : MS) => FG [12, 68] [0, 11] v u ∧ (Q_m_dividing v u) ∧ ((u.1 0 12).toInt = (v.1 0 12).toInt + 26)) (fun (u : MS) => (mW ad N cI cZ cJ u))) 0 0 (va_A (mW ad N cI cZ cJ v) sz) := by
  refine Met.ofW (cc := cX13_dividing) (maxL := 1) (ret := none) (by decide) rfl ?_
  intro p e s m args below meth c s₁ B hml hv
  obtain ⟨rfl, hsz, hP, hKK, hD0, hFx⟩ := hv
  have hK := hKK.1
  have hx := B.exec
  have hb := B.bytes
  have hr := B.returns
  have ht : ∀ w ∈ tw_W, w.before _ s = true := fun w h => atoms_spec (ws := Cond.code yX13_dividing cX13_dividing 1 none :: tw_W) B.pre w (List.mem_cons_of_mem _ h)
  have hown : s.vm.findClass RX13 = some m.cls := findClass_of_methodNamed B.named
  have hlocks := B.notSynchronized
  subst hsz
  unfold qv_
  have hD := hD0.self (sz := s.heap.size)
  generalize hAe : va_A (mW ad N cI cZ cJ v) s.heap.size = A at hD hFx ⊢
  have hA : ∀ q : Nat, s.heap.size ≤ q → A q := fun q h => by rw [← hAe]; exact Or.inr h
  have hS : va_S A s.heap s.heap [] := va_S.rf
  have hl := lv_entry ([.ref (ad 0)]) (n := 1) (Nat.le_of_ble_eq_true rfl)
  rw [lg_entry_eq]
  generalize (lg_sl ([.ref (ad 0)]) ++ List.replicate (1 - (lg_sl ([.ref (ad 0)])).length) Slot.unset).toArray = ls at hl ⊢
  have hl : lv_has ls 1 [(0, .ref (ad 0))] := hl
  refine lv_aload_n hx hb dX13_dividing_0 rfl (lv_at hl 0 rfl) ?_
  refine lv_aload_n hx hb dX13_dividing_1 rfl (lv_at hl 0 rfl) ?_
  refine va_get (D := (dC, dI)) (ci := 16) (fs := mF ad v) (v := .int (v.1 0 12)) (C := RX13) (T := TX13) (N := 124) hx hb ht itX13 hown hK hP 0 rfl rfl 12 (by decide) (ht _ tw_7) (fun _ h9 => h9) rfl dX13_dividing_2 ?_
  refine va_put (D := (dC, dI)) (ci := 16) (fs := mF ad v) (v := .int (v.1 0 12)) (ty := .int) (C := RX13) (T := TX13) (N := 124) hx hb ht itX13 tyX13 tyX13_ok nmX13 hown hK hP hD hS 0 rfl rfl 68 (by decide) (ht _ tw_203) (fun _ h9 => h9) rfl (by decide +kernel) rfl rfl (Nat.le_of_ble_eq_true rfl) dX13_dividing_5 (fun H locs hP hD hS => ?_)
  have hP := cP_ (mw_68 ad N cI cZ cJ v (v.1 0 12)) hP
  have hD := cD_ (mw_68 ad N cI cZ cJ v (v.1 0 12)) hD
  refine lv_aload_n hx hb dX13_dividing_8 rfl (lv_at hl 0 rfl) ?_
  refine lv_iconst (v := 1) hx hb dX13_dividing_9 (by decide) ?_
  refine lv_bipush (v := 10) hx hb dX13_dividing_10 (by decide) ?_
  refine lv_iconst (v := 0) hx hb dX13_dividing_12 (by decide) ?_
  refine lv_bipush (v := 12) hx hb dX13_dividing_13 (by decide) ?_
  refine cu_s (mW_nd _ _ _ _ _ _) (rn_S (n := 4) (As := [.int 1, .int 10, .int 0, .int 12]) (rest := [.ref (ad 0)]) hx hb hml hown ht hKK hFx hP hD hS hA (c_m_byB l dC dI cI cB cZ cJ cR tb H.size (1 : Int32) (10 : Int32) (0 : Int32) (12 : Int32) ) tw_85 tw_86 (by decide +kernel) rfl rfl ⟨Nat.le_of_ble_eq_true rfl, Nat.le_of_ble_eq_true rfl⟩ [] rfl rfl rfl hl.1 rfl (Nat.le_of_ble_eq_true rfl) dX13_dividing_15 ⟨Nat.le_of_ble_eq_true rfl, Nat.le_of_ble_eq_true rfl⟩) hP hD hS hA (fun r3 H locs hw1 hP hD hS => ?_)
  have ex1 := hw1
  refine W.widen (k := 0) (n := 0) (Nat.le_refl _) (Nat.le_refl _) ?_
  refine cu_i (rn_V (n := 1) (As := [.int r3]) (rest := []) hx hb hml hown ht hKK hFx hP hD hS hA (c_m_emit l dC dI cI cB cZ cJ cR tb H.size ad N (wA v 0 68 (v.1 0 12)) r3 (show 0 ≤ (v.1 0 12).toInt ∧ (v.1 0 12).toInt < 24000 from (om_a33d014192 zw))) tw_8 tw_9 (by decide +kernel) rfl rfl ⟨Nat.le_of_ble_eq_true rfl, Nat.le_of_ble_eq_true rfl⟩ (List.range (mW ad N cI cZ cJ (wA v 0 68 (v.1 0 12))).length) (rg_map _) (mW_nd _ _ _ _ _ _) rfl rfl rfl rfl hl.1 rfl (Nat.le_of_ble_eq_true rfl) dX13_dividing_18 ⟨Nat.le_of_ble_eq_true rfl, Nat.le_of_ble_eq_true rfl⟩) hP hD hS hA (fun r6 u5 H locs hw4 hP hD hS => ?_)
  obtain ⟨rfl, rfl⟩ := hw4
  have z7 : ((v.1 0 12) + (1 : Int32)).toInt = ((v.1 0 12).toInt) + (1 : Int) := add_z rfl (show (1 : Int32).toInt = (1 : Int) by decide) (om_4cf0bb15bb zw) (om_2054274b25 zw)
  have hP : va_P (dC, dI) vwCl (mW ad N cI cZ cJ (wA (wA (wA v 0 68 (v.1 0 12)) 11 ((v.1 0 12).toNatClampNeg) r3) 0 12 ((v.1 0 12) + (1 : Int32)))) H := hP
  have hD : va_D A (mW ad N cI cZ cJ (wA (wA (wA v 0 68 (v.1 0 12)) 11 ((v.1 0 12).toNatClampNeg) r3) 0 12 ((v.1 0 12) + (1 : Int32)))) := hD
  refine tp_i (y := (v.1 0 12)) (rfl) ?_
  refine W.widen (k := 0) (n := 0) (Nat.le_refl _) (Nat.le_refl _) ?_
  refine lv_pop hx hb dX13_dividing_21 rfl ?_
  refine lv_aload_n hx hb dX13_dividing_22 rfl (lv_at hl 0 rfl) ?_
  refine lv_bipush (v := 17) hx hb dX13_dividing_23 (by decide) ?_
  refine lv_iconst (v := 0) hx hb dX13_dividing_25 (by decide) ?_
  refine lv_iconst (v := 2) hx hb dX13_dividing_26 (by decide) ?_
  refine cu_s (mW_nd _ _ _ _ _ _) (rn_S (n := 3) (As := [.int 17, .int 0, .int 2]) (rest := [.ref (ad 0)]) hx hb hml hown ht hKK hFx hP hD hS hA (c_m_addi l dC dI cI cB cZ cJ cR tb H.size (17 : Int32) (0 : Int32) (2 : Int32) ) tw_65 tw_66 (by decide +kernel) rfl rfl ⟨Nat.le_of_ble_eq_true rfl, Nat.le_of_ble_eq_true rfl⟩ [] rfl rfl rfl hl.1 rfl (Nat.le_of_ble_eq_true rfl) dX13_dividing_27 ⟨Nat.le_of_ble_eq_true rfl, Nat.le_of_ble_eq_true rfl⟩) hP hD hS hA (fun r11 H locs hw8 hP hD hS => ?_)
  have ex8 := hw8
  refine W.widen (k := 0) (n := 0) (Nat.le_refl _) (Nat.le_refl _) ?_
  refine cu_i (rn_V (n := 1) (As := [.int r11]) (rest := []) hx hb hml hown ht hKK hFx hP hD hS hA (c_m_emit l dC dI cI cB cZ cJ cR tb H.size ad N (wA (wA (wA v 0 68 (v.1 0 12)) 11 ((v.1 0 12).toNatClampNeg) r3) 0 12 ((v.1 0 12) + (1 : Int32))) r11 (show 0 ≤ ((v.1 0 12) + (1 : Int32)).toInt ∧ ((v.1 0 12) + (1 : Int32)).toInt < 24000 from (om_89451510f5 zw z7))) tw_8 tw_9 (by decide +kernel) rfl rfl ⟨Nat.le_of_ble_eq_true rfl, Nat.le_of_ble_eq_true rfl⟩ (List.range (mW ad N cI cZ cJ (wA (wA (wA v 0 68 (v.1 0 12)) 11 ((v.1 0 12).toNatClampNeg) r3) 0 12 ((v.1 0 12) + (1 : Int32)))).length) (rg_map _) (mW_nd _ _ _ _ _ _) rfl rfl rfl rfl hl.1 rfl (Nat.le_of_ble_eq_true rfl) dX13_dividing_30 ⟨Nat.le_of_ble_eq_true rfl, Nat.le_of_ble_eq_true rfl⟩) hP hD hS hA (fun r14 u13 H locs hw12 hP hD hS => ?_)
  obtain ⟨rfl, rfl⟩ := hw12
  have z15 : (((v.1 0 12) + (1 : Int32)) + (1 : Int32)).toInt = (((v.1 0 12).toInt) + (1 : Int)) + (1 : Int) := add_z z7 (show (1 : Int32).toInt = (1 : Int) by decide) (om_6d2f8c8603 zw) (om_a62758b770 zw)
  have hP : va_P (dC, dI) vwCl (mW ad N cI cZ cJ (wA (wA (wA (wA (wA v 0 68 (v.1 0 12)) 11 ((v.1 0 12).toNatClampNeg) r3) 0 12 ((v.1 0 12) + (1 : Int32))) 11 (((v.1 0 12) + (1 : Int32)).toNatClampNeg) r11) 0 12 (((v.1 0 12) + (1 : Int32)) + (1 : Int32)))) H := hP
  have hD : va_D A (mW ad N cI cZ cJ (wA (wA (wA (wA (wA v 0 68 (v.1 0 12)) 11 ((v.1 0 12).toNatClampNeg) r3) 0 12 ((v.1 0 12) + (1 : Int32))) 11 (((v.1 0 12) + (1 : Int32)).toNatClampNeg) r11) 0 12 (((v.1 0 12) + (1 : Int32)) + (1 : Int32)))) := hD
  refine tp_i (y := ((v.1 0 12) + (1 : Int32))) (rfl) ?_
  refine W.widen (k := 0) (n := 0) (Nat.le_refl _) (Nat.le_refl _) ?_
  refine lv_pop hx hb dX13_dividing_33 rfl ?_
  refine lv_aload_n hx hb dX13_dividing_34 rfl (lv_at hl 0 rfl) ?_
  refine lv_ldcw (v := 1048691) hx hb hown (ht _ tw_87) dX13_dividing_35 ?_
  refine cu_i (rn_V (n := 1) (As := [.int 1048691]) (rest := []) hx hb hml hown ht hKK hFx hP hD hS hA (c_m_emit l dC dI cI cB cZ cJ cR tb H.size ad N (wA (wA (wA (wA (wA v 0 68 (v.1 0 12)) 11 ((v.1 0 12).toNatClampNeg) r3) 0 12 ((v.1 0 12) + (1 : Int32))) 11 (((v.1 0 12) + (1 : Int32)).toNatClampNeg) r11) 0 12 (((v.1 0 12) + (1 : Int32)) + (1 : Int32))) (1048691 : Int32) (show 0 ≤ (((v.1 0 12) + (1 : Int32)) + (1 : Int32)).toInt ∧ (((v.1 0 12) + (1 : Int32)) + (1 : Int32)).toInt < 24000 from (om_5d0b32d2fa zw z15))) tw_8 tw_9 (by decide +kernel) rfl rfl ⟨Nat.le_of_ble_eq_true rfl, Nat.le_of_ble_eq_true rfl⟩ (List.range (mW ad N cI cZ cJ (wA (wA (wA (wA (wA v 0 68 (v.1 0 12)) 11 ((v.1 0 12).toNatClampNeg) r3) 0 12 ((v.1 0 12) + (1 : Int32))) 11 (((v.1 0 12) + (1 : Int32)).toNatClampNeg) r11) 0 12 (((v.1 0 12) + (1 : Int32)) + (1 : Int32)))).length) (rg_map _) (mW_nd _ _ _ _ _ _) rfl rfl rfl rfl hl.1 rfl (Nat.le_of_ble_eq_true rfl) dX13_dividing_38 ⟨Nat.le_of_ble_eq_true rfl, Nat.le_of_ble_eq_true rfl⟩) hP hD hS hA (fun r18 u17 H locs hw16 hP hD hS => ?_)
  obtain ⟨rfl, rfl⟩ := hw16
  have z19 : ((((v.1 0 12) + (1 : Int32)) + (1 : Int32)) + (1 : Int32)).toInt = ((((v.1 0 12).toInt) + (1 : Int)) + (1 : Int)) + (1 : Int) := add_z z15 (show (1 : Int32).toInt = (1 : Int) by decide) (om_988eab1835 zw) (om_5d2b4764fc zw)
  have hP : va_P (dC, dI) vwCl (mW ad N cI cZ cJ (wA (wA (wA (wA (wA (wA (wA v 0 68 (v.1 0 12)) 11 ((v.1 0 12).toNatClampNeg) r3) 0 12 ((v.1 0 12) + (1 : Int32))) 11 (((v.1 0 12) + (1 : Int32)).toNatClampNeg) r11) 0 12 (((v.1 0 12) + (1 : Int32)) + (1 : Int32))) 11 ((((v.1 0 12) + (1 : Int32)) + (1 : Int32)).toNatClampNeg) (1048691 : Int32)) 0 12 ((((v.1 0 12) + (1 : Int32)) + (1 : Int32)) + (1 : Int32)))) H := hP
  have hD : va_D A (mW ad N cI cZ cJ (wA (wA (wA (wA (wA (wA (wA v 0 68 (v.1 0 12)) 11 ((v.1 0 12).toNatClampNeg) r3) 0 12 ((v.1 0 12) + (1 : Int32))) 11 (((v.1 0 12) + (1 : Int32)).toNatClampNeg) r11) 0 12 (((v.1 0 12) + (1 : Int32)) + (1 : Int32))) 11 ((((v.1 0 12) + (1 : Int32)) + (1 : Int32)).toNatClampNeg) (1048691 : Int32)) 0 12 ((((v.1 0 12) + (1 : Int32)) + (1 : Int32)) + (1 : Int32)))) := hD
  refine tp_i (y := (((v.1 0 12) + (1 : Int32)) + (1 : Int32))) (rfl) ?_
  refine W.widen (k := 0) (n := 0) (Nat.le_refl _) (Nat.le_refl _) ?_
  obtain ⟨u20, hu21⟩ : ∃ z, z = (wA (wA (wA (wA (wA (wA (wA v 0 68 (v.1 0 12)) 11 ((v.1 0 12).toNatClampNeg) r3) 0 12 ((v.1 0 12) + (1 : Int32))) 11 (((v.1 0 12) + (1 : Int32)).toNatClampNeg) r11) 0 12 (((v.1 0 12) + (1 : Int32)) + (1 : Int32))) 11 ((((v.1 0 12) + (1 : Int32)) + (1 : Int32)).toNatClampNeg) (1048691 : Int32)) 0 12 ((((v.1 0 12) + (1 : Int32)) + (1 : Int32)) + (1 : Int32))) := ⟨_, rfl⟩
  have fr21 : FG [12, 68] [0, 11] v u20 := by rw [hu21]; exact (FG.f (FG.a (FG.f (FG.a (FG.f (FG.a (FG.f (FG.rf _) (v.1 0 12) (by decide)) ((v.1 0 12).toNatClampNeg) r3 (by decide) (by decide)) ((v.1 0 12) + (1 : Int32)) (by decide)) (((v.1 0 12) + (1 : Int32)).toNatClampNeg) r11 (by decide) (by decide)) (((v.1 0 12) + (1 : Int32)) + (1 : Int32)) (by decide)) ((((v.1 0 12) + (1 : Int32)) + (1 : Int32)).toNatClampNeg) (1048691 : Int32) (by decide) (by decide)) ((((v.1 0 12) + (1 : Int32)) + (1 : Int32)) + (1 : Int32)) (by decide))
  rw [← hu21] at hP hD
  refine lv_pop hx hb dX13_dividing_41 rfl ?_
  refine lv_aload_n hx hb dX13_dividing_42 rfl (lv_at hl 0 rfl) ?_
  refine lv_iconst (v := 0) hx hb dX13_dividing_43 (by decide) ?_
  refine lv_iconst (v := 4) hx hb dX13_dividing_44 (by decide) ?_
  refine lv_bipush (v := 29) hx hb dX13_dividing_45 (by decide) ?_
  refine lv_iconst (v := 5) hx hb dX13_dividing_47 (by decide) ?_
  refine lv_bipush (v := 10) hx hb dX13_dividing_48 (by decide) ?_
  refine cu_s (mW_nd _ _ _ _ _ _) (rn_S (n := 5) (As := [.int 0, .int 4, .int 29, .int 5, .int 10]) (rest := [.ref (ad 0)]) hx hb hml hown ht hKK hFx hP hD hS hA (c_m_byR l dC dI cI cB cZ cJ cR tb H.size (0 : Int32) (4 : Int32) (29 : Int32) (5 : Int32) (10 : Int32) ) tw_67 tw_68 (by decide +kernel) rfl rfl ⟨Nat.le_of_ble_eq_true rfl, Nat.le_of_ble_eq_true rfl⟩ [] rfl rfl rfl hl.1 rfl (Nat.le_of_ble_eq_true rfl) dX13_dividing_50 ⟨Nat.le_of_ble_eq_true rfl, Nat.le_of_ble_eq_true rfl⟩) hP hD hS hA (fun r24 H locs hw22 hP hD hS => ?_)
  have ex22 := hw22
  refine W.widen (k := 0) (n := 0) (Nat.le_refl _) (Nat.le_refl _) ?_
  have q25 : (u20.1 0 12).toInt = (((((v.1 0 12).toInt) + (1 : Int)) + (1 : Int)) + (1 : Int)) := by rw [hu21]; exact (show ((((v.1 0 12) + (1 : Int32)) + (1 : Int32)) + (1 : Int32)).toInt = (((((v.1 0 12).toInt) + (1 : Int)) + (1 : Int)) + (1 : Int)) from z19)
  refine cu_i (rn_V (n := 1) (As := [.int r24]) (rest := []) hx hb hml hown ht hKK hFx hP hD hS hA (c_m_emit l dC dI cI cB cZ cJ cR tb H.size ad N u20 r24 (show 0 ≤ (u20.1 0 12).toInt ∧ (u20.1 0 12).toInt < 24000 from (om_f04448c862 zw q25))) tw_8 tw_9 (by decide +kernel) rfl rfl ⟨Nat.le_of_ble_eq_true rfl, Nat.le_of_ble_eq_true rfl⟩ (List.range (mW ad N cI cZ cJ u20).length) (rg_map _) (mW_nd _ _ _ _ _ _) rfl rfl rfl rfl hl.1 rfl (Nat.le_of_ble_eq_true rfl) dX13_dividing_53 ⟨Nat.le_of_ble_eq_true rfl, Nat.le_of_ble_eq_true rfl⟩) hP hD hS hA (fun r28 u27 H locs hw26 hP hD hS => ?_)
  obtain ⟨rfl, rfl⟩ := hw26
  have z29 : ((u20.1 0 12) + (1 : Int32)).toInt = ((u20.1 0 12).toInt) + (1 : Int) := add_z rfl (show (1 : Int32).toInt = (1 : Int) by decide) (om_94adda25bb zw q25) (om_1a06282068 zw q25)
  have hP : va_P (dC, dI) vwCl (mW ad N cI cZ cJ (wA (wA u20 11 ((u20.1 0 12).toNatClampNeg) r24) 0 12 ((u20.1 0 12) + (1 : Int32)))) H := hP
  have hD : va_D A (mW ad N cI cZ cJ (wA (wA u20 11 ((u20.1 0 12).toNatClampNeg) r24) 0 12 ((u20.1 0 12) + (1 : Int32)))) := hD
  refine tp_i (y := (u20.1 0 12)) (rfl) ?_
  refine W.widen (k := 0) (n := 0) (Nat.le_refl _) (Nat.le_refl _) ?_
  refine lv_pop hx hb dX13_dividing_56 rfl ?_
  refine lv_aload_n hx hb dX13_dividing_57 rfl (lv_at hl 0 rfl) ?_
  refine lv_bipush (v := 30) hx hb dX13_dividing_58 (by decide) ?_
  refine lv_iconst (v := 5) hx hb dX13_dividing_60 (by decide) ?_
  refine lv_iconst (v := 0) hx hb dX13_dividing_61 (by decide) ?_
  refine cu_s (mW_nd _ _ _ _ _ _) (rn_S (n := 3) (As := [.int 30, .int 5, .int 0]) (rest := [.ref (ad 0)]) hx hb hml hown ht hKK hFx hP hD hS hA (c_m_addi l dC dI cI cB cZ cJ cR tb H.size (30 : Int32) (5 : Int32) (0 : Int32) ) tw_65 tw_66 (by decide +kernel) rfl rfl ⟨Nat.le_of_ble_eq_true rfl, Nat.le_of_ble_eq_true rfl⟩ [] rfl rfl rfl hl.1 rfl (Nat.le_of_ble_eq_true rfl) dX13_dividing_62 ⟨Nat.le_of_ble_eq_true rfl, Nat.le_of_ble_eq_true rfl⟩) hP hD hS hA (fun r32 H locs hw30 hP hD hS => ?_)
  have ex30 := hw30
  refine W.widen (k := 0) (n := 0) (Nat.le_refl _) (Nat.le_refl _) ?_
  refine cu_i (rn_V (n := 1) (As := [.int r32]) (rest := []) hx hb hml hown ht hKK hFx hP hD hS hA (c_m_emit l dC dI cI cB cZ cJ cR tb H.size ad N (wA (wA u20 11 ((u20.1 0 12).toNatClampNeg) r24) 0 12 ((u20.1 0 12) + (1 : Int32))) r32 (show 0 ≤ ((u20.1 0 12) + (1 : Int32)).toInt ∧ ((u20.1 0 12) + (1 : Int32)).toInt < 24000 from (om_5672b07df6 zw q25 z29))) tw_8 tw_9 (by decide +kernel) rfl rfl ⟨Nat.le_of_ble_eq_true rfl, Nat.le_of_ble_eq_true rfl⟩ (List.range (mW ad N cI cZ cJ (wA (wA u20 11 ((u20.1 0 12).toNatClampNeg) r24) 0 12 ((u20.1 0 12) + (1 : Int32)))).length) (rg_map _) (mW_nd _ _ _ _ _ _) rfl rfl rfl rfl hl.1 rfl (Nat.le_of_ble_eq_true rfl) dX13_dividing_65 ⟨Nat.le_of_ble_eq_true rfl, Nat.le_of_ble_eq_true rfl⟩) hP hD hS hA (fun r35 u34 H locs hw33 hP hD hS => ?_)
  obtain ⟨rfl, rfl⟩ := hw33
  have z36 : (((u20.1 0 12) + (1 : Int32)) + (1 : Int32)).toInt = (((u20.1 0 12).toInt) + (1 : Int)) + (1 : Int) := add_z z29 (show (1 : Int32).toInt = (1 : Int) by decide) (om_2dc71050e6 zw q25) (om_0708727852 zw q25)
  have hP : va_P (dC, dI) vwCl (mW ad N cI cZ cJ (wA (wA (wA (wA u20 11 ((u20.1 0 12).toNatClampNeg) r24) 0 12 ((u20.1 0 12) + (1 : Int32))) 11 (((u20.1 0 12) + (1 : Int32)).toNatClampNeg) r32) 0 12 (((u20.1 0 12) + (1 : Int32)) + (1 : Int32)))) H := hP
  have hD : va_D A (mW ad N cI cZ cJ (wA (wA (wA (wA u20 11 ((u20.1 0 12).toNatClampNeg) r24) 0 12 ((u20.1 0 12) + (1 : Int32))) 11 (((u20.1 0 12) + (1 : Int32)).toNatClampNeg) r32) 0 12 (((u20.1 0 12) + (1 : Int32)) + (1 : Int32)))) := hD
  refine tp_i (y := ((u20.1 0 12) + (1 : Int32))) (rfl) ?_
  refine W.widen (k := 0) (n := 0) (Nat.le_refl _) (Nat.le_refl _) ?_
  refine lv_pop hx hb dX13_dividing_68 rfl ?_
  refine lv_aload_n hx hb dX13_dividing_69 rfl (lv_at hl 0 rfl) ?_
  refine lv_iconst (v := 5) hx hb dX13_dividing_70 (by decide) ?_
  refine lv_iconst (v := 5) hx hb dX13_dividing_71 (by decide) ?_
  refine lv_iconst (v := 0) hx hb dX13_dividing_72 (by decide) ?_
  refine lv_bipush (v := 8) hx hb dX13_dividing_73 (by decide) ?_
  refine cu_s (mW_nd _ _ _ _ _ _) (rn_S (n := 4) (As := [.int 5, .int 5, .int 0, .int 8]) (rest := [.ref (ad 0)]) hx hb hml hown ht hKK hFx hP hD hS hA (c_m_byB l dC dI cI cB cZ cJ cR tb H.size (5 : Int32) (5 : Int32) (0 : Int32) (8 : Int32) ) tw_85 tw_86 (by decide +kernel) rfl rfl ⟨Nat.le_of_ble_eq_true rfl, Nat.le_of_ble_eq_true rfl⟩ [] rfl rfl rfl hl.1 rfl (Nat.le_of_ble_eq_true rfl) dX13_dividing_75 ⟨Nat.le_of_ble_eq_true rfl, Nat.le_of_ble_eq_true rfl⟩) hP hD hS hA (fun r39 H locs hw37 hP hD hS => ?_)
  have ex37 := hw37
  refine W.widen (k := 0) (n := 0) (Nat.le_refl _) (Nat.le_refl _) ?_
  refine cu_i (rn_V (n := 1) (As := [.int r39]) (rest := []) hx hb hml hown ht hKK hFx hP hD hS hA (c_m_emit l dC dI cI cB cZ cJ cR tb H.size ad N (wA (wA (wA (wA u20 11 ((u20.1 0 12).toNatClampNeg) r24) 0 12 ((u20.1 0 12) + (1 : Int32))) 11 (((u20.1 0 12) + (1 : Int32)).toNatClampNeg) r32) 0 12 (((u20.1 0 12) + (1 : Int32)) + (1 : Int32))) r39 (show 0 ≤ (((u20.1 0 12) + (1 : Int32)) + (1 : Int32)).toInt ∧ (((u20.1 0 12) + (1 : Int32)) + (1 : Int32)).toInt < 24000 from (om_241311b588 zw q25 z36))) tw_8 tw_9 (by decide +kernel) rfl rfl ⟨Nat.le_of_ble_eq_true rfl, Nat.le_of_ble_eq_true rfl⟩ (List.range (mW ad N cI cZ cJ (wA (wA (wA (wA u20 11 ((u20.1 0 12).toNatClampNeg) r24) 0 12 ((u20.1 0 12) + (1 : Int32))) 11 (((u20.1 0 12) + (1 : Int32)).toNatClampNeg) r32) 0 12 (((u20.1 0 12) + (1 : Int32)) + (1 : Int32)))).length) (rg_map _) (mW_nd _ _ _ _ _ _) rfl rfl rfl rfl hl.1 rfl (Nat.le_of_ble_eq_true rfl) dX13_dividing_78 ⟨Nat.le_of_ble_eq_true rfl, Nat.le_of_ble_eq_true rfl⟩) hP hD hS hA (fun r42 u41 H locs hw40 hP hD hS => ?_)
  obtain ⟨rfl, rfl⟩ := hw40
  have z43 : ((((u20.1 0 12) + (1 : Int32)) + (1 : Int32)) + (1 : Int32)).toInt = ((((u20.1 0 12).toInt) + (1 : Int)) + (1 : Int)) + (1 : Int) := add_z z36 (show (1 : Int32).toInt = (1 : Int) by decide) (om_b3d9d3c17f zw q25) (om_b0265ae754 zw q25)
  have hP : va_P (dC, dI) vwCl (mW ad N cI cZ cJ (wA (wA (wA (wA (wA (wA u20 11 ((u20.1 0 12).toNatClampNeg) r24) 0 12 ((u20.1 0 12) + (1 : Int32))) 11 (((u20.1 0 12) + (1 : Int32)).toNatClampNeg) r32) 0 12 (((u20.1 0 12) + (1 : Int32)) + (1 : Int32))) 11 ((((u20.1 0 12) + (1 : Int32)) + (1 : Int32)).toNatClampNeg) r39) 0 12 ((((u20.1 0 12) + (1 : Int32)) + (1 : Int32)) + (1 : Int32)))) H := hP
  have hD : va_D A (mW ad N cI cZ cJ (wA (wA (wA (wA (wA (wA u20 11 ((u20.1 0 12).toNatClampNeg) r24) 0 12 ((u20.1 0 12) + (1 : Int32))) 11 (((u20.1 0 12) + (1 : Int32)).toNatClampNeg) r32) 0 12 (((u20.1 0 12) + (1 : Int32)) + (1 : Int32))) 11 ((((u20.1 0 12) + (1 : Int32)) + (1 : Int32)).toNatClampNeg) r39) 0 12 ((((u20.1 0 12) + (1 : Int32)) + (1 : Int32)) + (1 : Int32)))) := hD
  refine tp_i (y := (((u20.1 0 12) + (1 : Int32)) + (1 : Int32))) (rfl) ?_
  refine W.widen (k := 0) (n := 0) (Nat.le_refl _) (Nat.le_refl _) ?_
  refine lv_pop hx hb dX13_dividing_81 rfl ?_
  refine lv_aload_n hx hb dX13_dividing_82 rfl (lv_at hl 0 rfl) ?_
  refine lv_bipush (v := 32) hx hb dX13_dividing_83 (by decide) ?_
  refine lv_iconst (v := 0) hx hb dX13_dividing_85 (by decide) ?_
  refine lv_iconst (v := 5) hx hb dX13_dividing_86 (by decide) ?_
  refine lv_iconst (v := 0) hx hb dX13_dividing_87 (by decide) ?_
  refine lv_iconst (v := 5) hx hb dX13_dividing_88 (by decide) ?_
  refine cu_s (mW_nd _ _ _ _ _ _) (rn_S (n := 5) (As := [.int 32, .int 0, .int 5, .int 0, .int 5]) (rest := [.ref (ad 0)]) hx hb hml hown ht hKK hFx hP hD hS hA (c_m_byR l dC dI cI cB cZ cJ cR tb H.size (32 : Int32) (0 : Int32) (5 : Int32) (0 : Int32) (5 : Int32) ) tw_67 tw_68 (by decide +kernel) rfl rfl ⟨Nat.le_of_ble_eq_true rfl, Nat.le_of_ble_eq_true rfl⟩ [] rfl rfl rfl hl.1 rfl (Nat.le_of_ble_eq_true rfl) dX13_dividing_89 ⟨Nat.le_of_ble_eq_true rfl, Nat.le_of_ble_eq_true rfl⟩) hP hD hS hA (fun r46 H locs hw44 hP hD hS => ?_)
  have ex44 := hw44
  refine W.widen (k := 0) (n := 0) (Nat.le_refl _) (Nat.le_refl _) ?_
  refine cu_i (rn_V (n := 1) (As := [.int r46]) (rest := []) hx hb hml hown ht hKK hFx hP hD hS hA (c_m_emit l dC dI cI cB cZ cJ cR tb H.size ad N (wA (wA (wA (wA (wA (wA u20 11 ((u20.1 0 12).toNatClampNeg) r24) 0 12 ((u20.1 0 12) + (1 : Int32))) 11 (((u20.1 0 12) + (1 : Int32)).toNatClampNeg) r32) 0 12 (((u20.1 0 12) + (1 : Int32)) + (1 : Int32))) 11 ((((u20.1 0 12) + (1 : Int32)) + (1 : Int32)).toNatClampNeg) r39) 0 12 ((((u20.1 0 12) + (1 : Int32)) + (1 : Int32)) + (1 : Int32))) r46 (show 0 ≤ ((((u20.1 0 12) + (1 : Int32)) + (1 : Int32)) + (1 : Int32)).toInt ∧ ((((u20.1 0 12) + (1 : Int32)) + (1 : Int32)) + (1 : Int32)).toInt < 24000 from (om_0ecfdfa30a zw q25 z43))) tw_8 tw_9 (by decide +kernel) rfl rfl ⟨Nat.le_of_ble_eq_true rfl, Nat.le_of_ble_eq_true rfl⟩ (List.range (mW ad N cI cZ cJ (wA (wA (wA (wA (wA (wA u20 11 ((u20.1 0 12).toNatClampNeg) r24) 0 12 ((u20.1 0 12) + (1 : Int32))) 11 (((u20.1 0 12) + (1 : Int32)).toNatClampNeg) r32) 0 12 (((u20.1 0 12) + (1 : Int32)) + (1 : Int32))) 11 ((((u20.1 0 12) + (1 : Int32)) + (1 : Int32)).toNatClampNeg) r39) 0 12 ((((u20.1 0 12) + (1 : Int32)) + (1 : Int32)) + (1 : Int32)))).length) (rg_map _) (mW_nd _ _ _ _ _ _) rfl rfl rfl rfl hl.1 rfl (Nat.le_of_ble_eq_true rfl) dX13_dividing_92 ⟨Nat.le_of_ble_eq_true rfl, Nat.le_of_ble_eq_true rfl⟩) hP hD hS hA (fun r49 u48 H locs hw47 hP hD hS => ?_)
  obtain ⟨rfl, rfl⟩ := hw47
  have z50 : (((((u20.1 0 12) + (1 : Int32)) + (1 : Int32)) + (1 : Int32)) + (1 : Int32)).toInt = (((((u20.1 0 12).toInt) + (1 : Int)) + (1 : Int)) + (1 : Int)) + (1 : Int) := add_z z43 (show (1 : Int32).toInt = (1 : Int) by decide) (om_057bca5454 zw q25) (om_9494d2d0bc zw q25)
  have hP : va_P (dC, dI) vwCl (mW ad N cI cZ cJ (wA (wA (wA (wA (wA (wA (wA (wA u20 11 ((u20.1 0 12).toNatClampNeg) r24) 0 12 ((u20.1 0 12) + (1 : Int32))) 11 (((u20.1 0 12) + (1 : Int32)).toNatClampNeg) r32) 0 12 (((u20.1 0 12) + (1 : Int32)) + (1 : Int32))) 11 ((((u20.1 0 12) + (1 : Int32)) + (1 : Int32)).toNatClampNeg) r39) 0 12 ((((u20.1 0 12) + (1 : Int32)) + (1 : Int32)) + (1 : Int32))) 11 (((((u20.1 0 12) + (1 : Int32)) + (1 : Int32)) + (1 : Int32)).toNatClampNeg) r46) 0 12 (((((u20.1 0 12) + (1 : Int32)) + (1 : Int32)) + (1 : Int32)) + (1 : Int32)))) H := hP
  have hD : va_D A (mW ad N cI cZ cJ (wA (wA (wA (wA (wA (wA (wA (wA u20 11 ((u20.1 0 12).toNatClampNeg) r24) 0 12 ((u20.1 0 12) + (1 : Int32))) 11 (((u20.1 0 12) + (1 : Int32)).toNatClampNeg) r32) 0 12 (((u20.1 0 12) + (1 : Int32)) + (1 : Int32))) 11 ((((u20.1 0 12) + (1 : Int32)) + (1 : Int32)).toNatClampNeg) r39) 0 12 ((((u20.1 0 12) + (1 : Int32)) + (1 : Int32)) + (1 : Int32))) 11 (((((u20.1 0 12) + (1 : Int32)) + (1 : Int32)) + (1 : Int32)).toNatClampNeg) r46) 0 12 (((((u20.1 0 12) + (1 : Int32)) + (1 : Int32)) + (1 : Int32)) + (1 : Int32)))) := hD
  refine tp_i (y := ((((u20.1 0 12) + (1 : Int32)) + (1 : Int32)) + (1 : Int32))) (rfl) ?_
  refine W.widen (k := 0) (n := 0) (Nat.le_refl _) (Nat.le_refl _) ?_
  obtain ⟨u51, hu52⟩ : ∃ z, z = (wA (wA (wA (wA (wA (wA (wA (wA u20 11 ((u20.1 0 12).toNatClampNeg) r24) 0 12 ((u20.1 0 12) + (1 : Int32))) 11 (((u20.1 0 12) + (1 : Int32)).toNatClampNeg) r32) 0 12 (((u20.1 0 12) + (1 : Int32)) + (1 : Int32))) 11 ((((u20.1 0 12) + (1 : Int32)) + (1 : Int32)).toNatClampNeg) r39) 0 12 ((((u20.1 0 12) + (1 : Int32)) + (1 : Int32)) + (1 : Int32))) 11 (((((u20.1 0 12) + (1 : Int32)) + (1 : Int32)) + (1 : Int32)).toNatClampNeg) r46) 0 12 (((((u20.1 0 12) + (1 : Int32)) + (1 : Int32)) + (1 : Int32)) + (1 : Int32))) := ⟨_, rfl⟩
  have fr52 : FG [12] [0, 11] u20 u51 := by rw [hu52]; exact (FG.f (FG.a (FG.f (FG.a (FG.f (FG.a (FG.f (FG.a (FG.rf _) ((u20.1 0 12).toNatClampNeg) r24 (by decide) (by decide)) ((u20.1 0 12) + (1 : Int32)) (by decide)) (((u20.1 0 12) + (1 : Int32)).toNatClampNeg) r32 (by decide) (by decide)) (((u20.1 0 12) + (1 : Int32)) + (1 : Int32)) (by decide)) ((((u20.1 0 12) + (1 : Int32)) + (1 : Int32)).toNatClampNeg) r39 (by decide) (by decide)) ((((u20.1 0 12) + (1 : Int32)) + (1 : Int32)) + (1 : Int32)) (by decide)) (((((u20.1 0 12) + (1 : Int32)) + (1 : Int32)) + (1 : Int32)).toNatClampNeg) r46 (by decide) (by decide)) (((((u20.1 0 12) + (1 : Int32)) + (1 : Int32)) + (1 : Int32)) + (1 : Int32)) (by decide))
  rw [← hu52] at hP hD
  refine lv_pop hx hb dX13_dividing_95 rfl ?_
  refine lv_aload_n hx hb dX13_dividing_96 rfl (lv_at hl 0 rfl) ?_
  refine lv_iconst (v := 5) hx hb dX13_dividing_97 (by decide) ?_
  refine lv_bipush (v := 10) hx hb dX13_dividing_98 (by decide) ?_
  refine lv_iconst (v := 0) hx hb dX13_dividing_100 (by decide) ?_
  refine lv_bipush (v := 8) hx hb dX13_dividing_101 (by decide) ?_
  refine cu_s (mW_nd _ _ _ _ _ _) (rn_S (n := 4) (As := [.int 5, .int 10, .int 0, .int 8]) (rest := [.ref (ad 0)]) hx hb hml hown ht hKK hFx hP hD hS hA (c_m_byB l dC dI cI cB cZ cJ cR tb H.size (5 : Int32) (10 : Int32) (0 : Int32) (8 : Int32) ) tw_85 tw_86 (by decide +kernel) rfl rfl ⟨Nat.le_of_ble_eq_true rfl, Nat.le_of_ble_eq_true rfl⟩ [] rfl rfl rfl hl.1 rfl (Nat.le_of_ble_eq_true rfl) dX13_dividing_103 ⟨Nat.le_of_ble_eq_true rfl, Nat.le_of_ble_eq_true rfl⟩) hP hD hS hA (fun r55 H locs hw53 hP hD hS => ?_)
  have ex53 := hw53
  refine W.widen (k := 0) (n := 0) (Nat.le_refl _) (Nat.le_refl _) ?_
  have q56 : (u51.1 0 12).toInt = ((((((u20.1 0 12).toInt) + (1 : Int)) + (1 : Int)) + (1 : Int)) + (1 : Int)) := by rw [hu52]; exact (show (((((u20.1 0 12) + (1 : Int32)) + (1 : Int32)) + (1 : Int32)) + (1 : Int32)).toInt = ((((((u20.1 0 12).toInt) + (1 : Int)) + (1 : Int)) + (1 : Int)) + (1 : Int)) from z50)
  refine cu_i (rn_V (n := 1) (As := [.int r55]) (rest := []) hx hb hml hown ht hKK hFx hP hD hS hA (c_m_emit l dC dI cI cB cZ cJ cR tb H.size ad N u51 r55 (show 0 ≤ (u51.1 0 12).toInt ∧ (u51.1 0 12).toInt < 24000 from (om_c12b63fe76 zw q25 q56))) tw_8 tw_9 (by decide +kernel) rfl rfl ⟨Nat.le_of_ble_eq_true rfl, Nat.le_of_ble_eq_true rfl⟩ (List.range (mW ad N cI cZ cJ u51).length) (rg_map _) (mW_nd _ _ _ _ _ _) rfl rfl rfl rfl hl.1 rfl (Nat.le_of_ble_eq_true rfl) dX13_dividing_106 ⟨Nat.le_of_ble_eq_true rfl, Nat.le_of_ble_eq_true rfl⟩) hP hD hS hA (fun r59 u58 H locs hw57 hP hD hS => ?_)
  obtain ⟨rfl, rfl⟩ := hw57
  have z60 : ((u51.1 0 12) + (1 : Int32)).toInt = ((u51.1 0 12).toInt) + (1 : Int) := add_z rfl (show (1 : Int32).toInt = (1 : Int) by decide) (om_c5c92d5d28 zw q25 q56) (om_1b4927730f zw q25 q56)
  have hP : va_P (dC, dI) vwCl (mW ad N cI cZ cJ (wA (wA u51 11 ((u51.1 0 12).toNatClampNeg) r55) 0 12 ((u51.1 0 12) + (1 : Int32)))) H := hP
  have hD : va_D A (mW ad N cI cZ cJ (wA (wA u51 11 ((u51.1 0 12).toNatClampNeg) r55) 0 12 ((u51.1 0 12) + (1 : Int32)))) := hD
  refine tp_i (y := (u51.1 0 12)) (rfl) ?_
  refine W.widen (k := 0) (n := 0) (Nat.le_refl _) (Nat.le_refl _) ?_
  refine lv_pop hx hb dX13_dividing_109 rfl ?_
  refine lv_aload_n hx hb dX13_dividing_110 rfl (lv_at hl 0 rfl) ?_
  refine lv_bipush (v := 32) hx hb dX13_dividing_111 (by decide) ?_
  refine lv_iconst (v := 0) hx hb dX13_dividing_113 (by decide) ?_
  refine lv_bipush (v := 10) hx hb dX13_dividing_114 (by decide) ?_
  refine lv_iconst (v := 0) hx hb dX13_dividing_116 (by decide) ?_
  refine lv_bipush (v := 10) hx hb dX13_dividing_117 (by decide) ?_
  refine cu_s (mW_nd _ _ _ _ _ _) (rn_S (n := 5) (As := [.int 32, .int 0, .int 10, .int 0, .int 10]) (rest := [.ref (ad 0)]) hx hb hml hown ht hKK hFx hP hD hS hA (c_m_byR l dC dI cI cB cZ cJ cR tb H.size (32 : Int32) (0 : Int32) (10 : Int32) (0 : Int32) (10 : Int32) ) tw_67 tw_68 (by decide +kernel) rfl rfl ⟨Nat.le_of_ble_eq_true rfl, Nat.le_of_ble_eq_true rfl⟩ [] rfl rfl rfl hl.1 rfl (Nat.le_of_ble_eq_true rfl) dX13_dividing_119 ⟨Nat.le_of_ble_eq_true rfl, Nat.le_of_ble_eq_true rfl⟩) hP hD hS hA (fun r63 H locs hw61 hP hD hS => ?_)
  have ex61 := hw61
  refine W.widen (k := 0) (n := 0) (Nat.le_refl _) (Nat.le_refl _) ?_
  refine cu_i (rn_V (n := 1) (As := [.int r63]) (rest := []) hx hb hml hown ht hKK hFx hP hD hS hA (c_m_emit l dC dI cI cB cZ cJ cR tb H.size ad N (wA (wA u51 11 ((u51.1 0 12).toNatClampNeg) r55) 0 12 ((u51.1 0 12) + (1 : Int32))) r63 (show 0 ≤ ((u51.1 0 12) + (1 : Int32)).toInt ∧ ((u51.1 0 12) + (1 : Int32)).toInt < 24000 from (om_2da47a60f8 zw q25 q56 z60))) tw_8 tw_9 (by decide +kernel) rfl rfl ⟨Nat.le_of_ble_eq_true rfl, Nat.le_of_ble_eq_true rfl⟩ (List.range (mW ad N cI cZ cJ (wA (wA u51 11 ((u51.1 0 12).toNatClampNeg) r55) 0 12 ((u51.1 0 12) + (1 : Int32)))).length) (rg_map _) (mW_nd _ _ _ _ _ _) rfl rfl rfl rfl hl.1 rfl (Nat.le_of_ble_eq_true rfl) dX13_dividing_122 ⟨Nat.le_of_ble_eq_true rfl, Nat.le_of_ble_eq_true rfl⟩) hP hD hS hA (fun r66 u65 H locs hw64 hP hD hS => ?_)
  obtain ⟨rfl, rfl⟩ := hw64
  have z67 : (((u51.1 0 12) + (1 : Int32)) + (1 : Int32)).toInt = (((u51.1 0 12).toInt) + (1 : Int)) + (1 : Int) := add_z z60 (show (1 : Int32).toInt = (1 : Int) by decide) (om_199231d35c zw q25 q56) (om_f01fcb5069 zw q25 q56)
  have hP : va_P (dC, dI) vwCl (mW ad N cI cZ cJ (wA (wA (wA (wA u51 11 ((u51.1 0 12).toNatClampNeg) r55) 0 12 ((u51.1 0 12) + (1 : Int32))) 11 (((u51.1 0 12) + (1 : Int32)).toNatClampNeg) r63) 0 12 (((u51.1 0 12) + (1 : Int32)) + (1 : Int32)))) H := hP
  have hD : va_D A (mW ad N cI cZ cJ (wA (wA (wA (wA u51 11 ((u51.1 0 12).toNatClampNeg) r55) 0 12 ((u51.1 0 12) + (1 : Int32))) 11 (((u51.1 0 12) + (1 : Int32)).toNatClampNeg) r63) 0 12 (((u51.1 0 12) + (1 : Int32)) + (1 : Int32)))) := hD
  refine tp_i (y := ((u51.1 0 12) + (1 : Int32))) (rfl) ?_
  refine W.widen (k := 0) (n := 0) (Nat.le_refl _) (Nat.le_refl _) ?_
  refine lv_pop hx hb dX13_dividing_125 rfl ?_
  refine lv_aload_n hx hb dX13_dividing_126 rfl (lv_at hl 0 rfl) ?_
  refine lv_bipush (v := 6) hx hb dX13_dividing_127 (by decide) ?_
  refine lv_iconst (v := 0) hx hb dX13_dividing_129 (by decide) ?_
  refine lv_iconst (v := 0) hx hb dX13_dividing_130 (by decide) ?_
  refine cu_s (mW_nd _ _ _ _ _ _) (rn_S (n := 3) (As := [.int 6, .int 0, .int 0]) (rest := [.ref (ad 0)]) hx hb hml hown ht hKK hFx hP hD hS hA (c_m_addi l dC dI cI cB cZ cJ cR tb H.size (6 : Int32) (0 : Int32) (0 : Int32) ) tw_65 tw_66 (by decide +kernel) rfl rfl ⟨Nat.le_of_ble_eq_true rfl, Nat.le_of_ble_eq_true rfl⟩ [] rfl rfl rfl hl.1 rfl (Nat.le_of_ble_eq_true rfl) dX13_dividing_131 ⟨Nat.le_of_ble_eq_true rfl, Nat.le_of_ble_eq_true rfl⟩) hP hD hS hA (fun r70 H locs hw68 hP hD hS => ?_)
  have ex68 := hw68
  refine W.widen (k := 0) (n := 0) (Nat.le_refl _) (Nat.le_refl _) ?_
  refine cu_i (rn_V (n := 1) (As := [.int r70]) (rest := []) hx hb hml hown ht hKK hFx hP hD hS hA (c_m_emit l dC dI cI cB cZ cJ cR tb H.size ad N (wA (wA (wA (wA u51 11 ((u51.1 0 12).toNatClampNeg) r55) 0 12 ((u51.1 0 12) + (1 : Int32))) 11 (((u51.1 0 12) + (1 : Int32)).toNatClampNeg) r63) 0 12 (((u51.1 0 12) + (1 : Int32)) + (1 : Int32))) r70 (show 0 ≤ (((u51.1 0 12) + (1 : Int32)) + (1 : Int32)).toInt ∧ (((u51.1 0 12) + (1 : Int32)) + (1 : Int32)).toInt < 24000 from (om_adbddf1ac1 zw q25 q56 z67))) tw_8 tw_9 (by decide +kernel) rfl rfl ⟨Nat.le_of_ble_eq_true rfl, Nat.le_of_ble_eq_true rfl⟩ (List.range (mW ad N cI cZ cJ (wA (wA (wA (wA u51 11 ((u51.1 0 12).toNatClampNeg) r55) 0 12 ((u51.1 0 12) + (1 : Int32))) 11 (((u51.1 0 12) + (1 : Int32)).toNatClampNeg) r63) 0 12 (((u51.1 0 12) + (1 : Int32)) + (1 : Int32)))).length) (rg_map _) (mW_nd _ _ _ _ _ _) rfl rfl rfl rfl hl.1 rfl (Nat.le_of_ble_eq_true rfl) dX13_dividing_134 ⟨Nat.le_of_ble_eq_true rfl, Nat.le_of_ble_eq_true rfl⟩) hP hD hS hA (fun r73 u72 H locs hw71 hP hD hS => ?_)
  obtain ⟨rfl, rfl⟩ := hw71
  have z74 : ((((u51.1 0 12) + (1 : Int32)) + (1 : Int32)) + (1 : Int32)).toInt = ((((u51.1 0 12).toInt) + (1 : Int)) + (1 : Int)) + (1 : Int) := add_z z67 (show (1 : Int32).toInt = (1 : Int) by decide) (om_8d5d77db1a zw q25 q56) (om_036af93f9a zw q25 q56)
  have hP : va_P (dC, dI) vwCl (mW ad N cI cZ cJ (wA (wA (wA (wA (wA (wA u51 11 ((u51.1 0 12).toNatClampNeg) r55) 0 12 ((u51.1 0 12) + (1 : Int32))) 11 (((u51.1 0 12) + (1 : Int32)).toNatClampNeg) r63) 0 12 (((u51.1 0 12) + (1 : Int32)) + (1 : Int32))) 11 ((((u51.1 0 12) + (1 : Int32)) + (1 : Int32)).toNatClampNeg) r70) 0 12 ((((u51.1 0 12) + (1 : Int32)) + (1 : Int32)) + (1 : Int32)))) H := hP
  have hD : va_D A (mW ad N cI cZ cJ (wA (wA (wA (wA (wA (wA u51 11 ((u51.1 0 12).toNatClampNeg) r55) 0 12 ((u51.1 0 12) + (1 : Int32))) 11 (((u51.1 0 12) + (1 : Int32)).toNatClampNeg) r63) 0 12 (((u51.1 0 12) + (1 : Int32)) + (1 : Int32))) 11 ((((u51.1 0 12) + (1 : Int32)) + (1 : Int32)).toNatClampNeg) r70) 0 12 ((((u51.1 0 12) + (1 : Int32)) + (1 : Int32)) + (1 : Int32)))) := hD
  refine tp_i (y := (((u51.1 0 12) + (1 : Int32)) + (1 : Int32))) (rfl) ?_
  refine W.widen (k := 0) (n := 0) (Nat.le_refl _) (Nat.le_refl _) ?_
  refine lv_pop hx hb dX13_dividing_137 rfl ?_
  refine lv_aload_n hx hb dX13_dividing_138 rfl (lv_at hl 0 rfl) ?_
  refine lv_bipush (v := 7) hx hb dX13_dividing_139 (by decide) ?_
  refine lv_iconst (v := 0) hx hb dX13_dividing_141 (by decide) ?_
  refine lv_bipush (v := 32) hx hb dX13_dividing_142 (by decide) ?_
  refine cu_s (mW_nd _ _ _ _ _ _) (rn_S (n := 3) (As := [.int 7, .int 0, .int 32]) (rest := [.ref (ad 0)]) hx hb hml hown ht hKK hFx hP hD hS hA (c_m_addi l dC dI cI cB cZ cJ cR tb H.size (7 : Int32) (0 : Int32) (32 : Int32) ) tw_65 tw_66 (by decide +kernel) rfl rfl ⟨Nat.le_of_ble_eq_true rfl, Nat.le_of_ble_eq_true rfl⟩ [] rfl rfl rfl hl.1 rfl (Nat.le_of_ble_eq_true rfl) dX13_dividing_144 ⟨Nat.le_of_ble_eq_true rfl, Nat.le_of_ble_eq_true rfl⟩) hP hD hS hA (fun r77 H locs hw75 hP hD hS => ?_)
  have ex75 := hw75
  refine W.widen (k := 0) (n := 0) (Nat.le_refl _) (Nat.le_refl _) ?_
  refine cu_i (rn_V (n := 1) (As := [.int r77]) (rest := []) hx hb hml hown ht hKK hFx hP hD hS hA (c_m_emit l dC dI cI cB cZ cJ cR tb H.size ad N (wA (wA (wA (wA (wA (wA u51 11 ((u51.1 0 12).toNatClampNeg) r55) 0 12 ((u51.1 0 12) + (1 : Int32))) 11 (((u51.1 0 12) + (1 : Int32)).toNatClampNeg) r63) 0 12 (((u51.1 0 12) + (1 : Int32)) + (1 : Int32))) 11 ((((u51.1 0 12) + (1 : Int32)) + (1 : Int32)).toNatClampNeg) r70) 0 12 ((((u51.1 0 12) + (1 : Int32)) + (1 : Int32)) + (1 : Int32))) r77 (show 0 ≤ ((((u51.1 0 12) + (1 : Int32)) + (1 : Int32)) + (1 : Int32)).toInt ∧ ((((u51.1 0 12) + (1 : Int32)) + (1 : Int32)) + (1 : Int32)).toInt < 24000 from (om_d0b89f669f zw q25 q56 z74))) tw_8 tw_9 (by decide +kernel) rfl rfl ⟨Nat.le_of_ble_eq_true rfl, Nat.le_of_ble_eq_true rfl⟩ (List.range (mW ad N cI cZ cJ (wA (wA (wA (wA (wA (wA u51 11 ((u51.1 0 12).toNatClampNeg) r55) 0 12 ((u51.1 0 12) + (1 : Int32))) 11 (((u51.1 0 12) + (1 : Int32)).toNatClampNeg) r63) 0 12 (((u51.1 0 12) + (1 : Int32)) + (1 : Int32))) 11 ((((u51.1 0 12) + (1 : Int32)) + (1 : Int32)).toNatClampNeg) r70) 0 12 ((((u51.1 0 12) + (1 : Int32)) + (1 : Int32)) + (1 : Int32)))).length) (rg_map _) (mW_nd _ _ _ _ _ _) rfl rfl rfl rfl hl.1 rfl (Nat.le_of_ble_eq_true rfl) dX13_dividing_147 ⟨Nat.le_of_ble_eq_true rfl, Nat.le_of_ble_eq_true rfl⟩) hP hD hS hA (fun r80 u79 H locs hw78 hP hD hS => ?_)
  obtain ⟨rfl, rfl⟩ := hw78
  have z81 : (((((u51.1 0 12) + (1 : Int32)) + (1 : Int32)) + (1 : Int32)) + (1 : Int32)).toInt = (((((u51.1 0 12).toInt) + (1 : Int)) + (1 : Int)) + (1 : Int)) + (1 : Int) := add_z z74 (show (1 : Int32).toInt = (1 : Int) by decide) (om_d8dd4b9ae7 zw q25 q56) (om_3428ef2a12 zw q25 q56)
  have hP : va_P (dC, dI) vwCl (mW ad N cI cZ cJ (wA (wA (wA (wA (wA (wA (wA (wA u51 11 ((u51.1 0 12).toNatClampNeg) r55) 0 12 ((u51.1 0 12) + (1 : Int32))) 11 (((u51.1 0 12) + (1 : Int32)).toNatClampNeg) r63) 0 12 (((u51.1 0 12) + (1 : Int32)) + (1 : Int32))) 11 ((((u51.1 0 12) + (1 : Int32)) + (1 : Int32)).toNatClampNeg) r70) 0 12 ((((u51.1 0 12) + (1 : Int32)) + (1 : Int32)) + (1 : Int32))) 11 (((((u51.1 0 12) + (1 : Int32)) + (1 : Int32)) + (1 : Int32)).toNatClampNeg) r77) 0 12 (((((u51.1 0 12) + (1 : Int32)) + (1 : Int32)) + (1 : Int32)) + (1 : Int32)))) H := hP
  have hD : va_D A (mW ad N cI cZ cJ (wA (wA (wA (wA (wA (wA (wA (wA u51 11 ((u51.1 0 12).toNatClampNeg) r55) 0 12 ((u51.1 0 12) + (1 : Int32))) 11 (((u51.1 0 12) + (1 : Int32)).toNatClampNeg) r63) 0 12 (((u51.1 0 12) + (1 : Int32)) + (1 : Int32))) 11 ((((u51.1 0 12) + (1 : Int32)) + (1 : Int32)).toNatClampNeg) r70) 0 12 ((((u51.1 0 12) + (1 : Int32)) + (1 : Int32)) + (1 : Int32))) 11 (((((u51.1 0 12) + (1 : Int32)) + (1 : Int32)) + (1 : Int32)).toNatClampNeg) r77) 0 12 (((((u51.1 0 12) + (1 : Int32)) + (1 : Int32)) + (1 : Int32)) + (1 : Int32)))) := hD
  refine tp_i (y := ((((u51.1 0 12) + (1 : Int32)) + (1 : Int32)) + (1 : Int32))) (rfl) ?_
  refine W.widen (k := 0) (n := 0) (Nat.le_refl _) (Nat.le_refl _) ?_
  obtain ⟨u82, hu83⟩ : ∃ z, z = (wA (wA (wA (wA (wA (wA (wA (wA u51 11 ((u51.1 0 12).toNatClampNeg) r55) 0 12 ((u51.1 0 12) + (1 : Int32))) 11 (((u51.1 0 12) + (1 : Int32)).toNatClampNeg) r63) 0 12 (((u51.1 0 12) + (1 : Int32)) + (1 : Int32))) 11 ((((u51.1 0 12) + (1 : Int32)) + (1 : Int32)).toNatClampNeg) r70) 0 12 ((((u51.1 0 12) + (1 : Int32)) + (1 : Int32)) + (1 : Int32))) 11 (((((u51.1 0 12) + (1 : Int32)) + (1 : Int32)) + (1 : Int32)).toNatClampNeg) r77) 0 12 (((((u51.1 0 12) + (1 : Int32)) + (1 : Int32)) + (1 : Int32)) + (1 : Int32))) := ⟨_, rfl⟩
  have fr83 : FG [12] [0, 11] u51 u82 := by rw [hu83]; exact (FG.f (FG.a (FG.f (FG.a (FG.f (FG.a (FG.f (FG.a (FG.rf _) ((u51.1 0 12).toNatClampNeg) r55 (by decide) (by decide)) ((u51.1 0 12) + (1 : Int32)) (by decide)) (((u51.1 0 12) + (1 : Int32)).toNatClampNeg) r63 (by decide) (by decide)) (((u51.1 0 12) + (1 : Int32)) + (1 : Int32)) (by decide)) ((((u51.1 0 12) + (1 : Int32)) + (1 : Int32)).toNatClampNeg) r70 (by decide) (by decide)) ((((u51.1 0 12) + (1 : Int32)) + (1 : Int32)) + (1 : Int32)) (by decide)) (((((u51.1 0 12) + (1 : Int32)) + (1 : Int32)) + (1 : Int32)).toNatClampNeg) r77 (by decide) (by decide)) (((((u51.1 0 12) + (1 : Int32)) + (1 : Int32)) + (1 : Int32)) + (1 : Int32)) (by decide))
  rw [← hu83] at hP hD
  refine lv_pop hx hb dX13_dividing_150 rfl ?_
  refine lv_aload_n hx hb dX13_dividing_151 rfl (lv_at hl 0 rfl) ?_
  refine lv_bipush (v := 19) hx hb dX13_dividing_152 (by decide) ?_
  refine lv_iconst (v := 5) hx hb dX13_dividing_154 (by decide) ?_
  refine lv_bipush (v := 31) hx hb dX13_dividing_155 (by decide) ?_
  refine lv_iconst (v := 5) hx hb dX13_dividing_157 (by decide) ?_
  refine lv_bipush (v := 31) hx hb dX13_dividing_158 (by decide) ?_
  refine cu_s (mW_nd _ _ _ _ _ _) (rn_S (n := 5) (As := [.int 19, .int 5, .int 31, .int 5, .int 31]) (rest := [.ref (ad 0)]) hx hb hml hown ht hKK hFx hP hD hS hA (c_m_byI l dC dI cI cB cZ cJ cR tb H.size (19 : Int32) (5 : Int32) (31 : Int32) (5 : Int32) (31 : Int32) ) tw_2 tw_3 (by decide +kernel) rfl rfl ⟨Nat.le_of_ble_eq_true rfl, Nat.le_of_ble_eq_true rfl⟩ [] rfl rfl rfl hl.1 rfl (Nat.le_of_ble_eq_true rfl) dX13_dividing_160 ⟨Nat.le_of_ble_eq_true rfl, Nat.le_of_ble_eq_true rfl⟩) hP hD hS hA (fun r86 H locs hw84 hP hD hS => ?_)
  have ex84 := hw84
  refine W.widen (k := 0) (n := 0) (Nat.le_refl _) (Nat.le_refl _) ?_
  have q87 : (u82.1 0 12).toInt = ((((((u51.1 0 12).toInt) + (1 : Int)) + (1 : Int)) + (1 : Int)) + (1 : Int)) := by rw [hu83]; exact (show (((((u51.1 0 12) + (1 : Int32)) + (1 : Int32)) + (1 : Int32)) + (1 : Int32)).toInt = ((((((u51.1 0 12).toInt) + (1 : Int)) + (1 : Int)) + (1 : Int)) + (1 : Int)) from z81)
  refine cu_i (rn_V (n := 1) (As := [.int r86]) (rest := []) hx hb hml hown ht hKK hFx hP hD hS hA (c_m_emit l dC dI cI cB cZ cJ cR tb H.size ad N u82 r86 (show 0 ≤ (u82.1 0 12).toInt ∧ (u82.1 0 12).toInt < 24000 from (om_9fbeff9861 zw q25 q56 q87))) tw_8 tw_9 (by decide +kernel) rfl rfl ⟨Nat.le_of_ble_eq_true rfl, Nat.le_of_ble_eq_true rfl⟩ (List.range (mW ad N cI cZ cJ u82).length) (rg_map _) (mW_nd _ _ _ _ _ _) rfl rfl rfl rfl hl.1 rfl (Nat.le_of_ble_eq_true rfl) dX13_dividing_163 ⟨Nat.le_of_ble_eq_true rfl, Nat.le_of_ble_eq_true rfl⟩) hP hD hS hA (fun r90 u89 H locs hw88 hP hD hS => ?_)
  obtain ⟨rfl, rfl⟩ := hw88
  have z91 : ((u82.1 0 12) + (1 : Int32)).toInt = ((u82.1 0 12).toInt) + (1 : Int) := add_z rfl (show (1 : Int32).toInt = (1 : Int) by decide) (om_adb9c5c7da zw q25 q56 q87) (om_7abc624683 zw q25 q56 q87)
  have hP : va_P (dC, dI) vwCl (mW ad N cI cZ cJ (wA (wA u82 11 ((u82.1 0 12).toNatClampNeg) r86) 0 12 ((u82.1 0 12) + (1 : Int32)))) H := hP
  have hD : va_D A (mW ad N cI cZ cJ (wA (wA u82 11 ((u82.1 0 12).toNatClampNeg) r86) 0 12 ((u82.1 0 12) + (1 : Int32)))) := hD
  refine tp_i (y := (u82.1 0 12)) (rfl) ?_
  refine W.widen (k := 0) (n := 0) (Nat.le_refl _) (Nat.le_refl _) ?_
  refine lv_pop hx hb dX13_dividing_166 rfl ?_
  refine lv_aload_n hx hb dX13_dividing_167 rfl (lv_at hl 0 rfl) ?_
  refine lv_bipush (v := 19) hx hb dX13_dividing_168 (by decide) ?_
  refine lv_iconst (v := 1) hx hb dX13_dividing_170 (by decide) ?_
  refine lv_iconst (v := 5) hx hb dX13_dividing_171 (by decide) ?_
  refine lv_iconst (v := 5) hx hb dX13_dividing_172 (by decide) ?_
  refine lv_iconst (v := 1) hx hb dX13_dividing_173 (by decide) ?_
  refine cu_s (mW_nd _ _ _ _ _ _) (rn_S (n := 5) (As := [.int 19, .int 1, .int 5, .int 5, .int 1]) (rest := [.ref (ad 0)]) hx hb hml hown ht hKK hFx hP hD hS hA (c_m_byI l dC dI cI cB cZ cJ cR tb H.size (19 : Int32) (1 : Int32) (5 : Int32) (5 : Int32) (1 : Int32) ) tw_2 tw_3 (by decide +kernel) rfl rfl ⟨Nat.le_of_ble_eq_true rfl, Nat.le_of_ble_eq_true rfl⟩ [] rfl rfl rfl hl.1 rfl (Nat.le_of_ble_eq_true rfl) dX13_dividing_174 ⟨Nat.le_of_ble_eq_true rfl, Nat.le_of_ble_eq_true rfl⟩) hP hD hS hA (fun r94 H locs hw92 hP hD hS => ?_)
  have ex92 := hw92
  refine W.widen (k := 0) (n := 0) (Nat.le_refl _) (Nat.le_refl _) ?_
  refine cu_i (rn_V (n := 1) (As := [.int r94]) (rest := []) hx hb hml hown ht hKK hFx hP hD hS hA (c_m_emit l dC dI cI cB cZ cJ cR tb H.size ad N (wA (wA u82 11 ((u82.1 0 12).toNatClampNeg) r86) 0 12 ((u82.1 0 12) + (1 : Int32))) r94 (show 0 ≤ ((u82.1 0 12) + (1 : Int32)).toInt ∧ ((u82.1 0 12) + (1 : Int32)).toInt < 24000 from (om_2af1ea54c6 zw q25 q56 q87 z91))) tw_8 tw_9 (by decide +kernel) rfl rfl ⟨Nat.le_of_ble_eq_true rfl, Nat.le_of_ble_eq_true rfl⟩ (List.range (mW ad N cI cZ cJ (wA (wA u82 11 ((u82.1 0 12).toNatClampNeg) r86) 0 12 ((u82.1 0 12) + (1 : Int32)))).length) (rg_map _) (mW_nd _ _ _ _ _ _) rfl rfl rfl rfl hl.1 rfl (Nat.le_of_ble_eq_true rfl) dX13_dividing_177 ⟨Nat.le_of_ble_eq_true rfl, Nat.le_of_ble_eq_true rfl⟩) hP hD hS hA (fun r97 u96 H locs hw95 hP hD hS => ?_)
  obtain ⟨rfl, rfl⟩ := hw95
  have z98 : (((u82.1 0 12) + (1 : Int32)) + (1 : Int32)).toInt = (((u82.1 0 12).toInt) + (1 : Int)) + (1 : Int) := add_z z91 (show (1 : Int32).toInt = (1 : Int) by decide) (om_3281131d07 zw q25 q56 q87) (om_2e10d8c185 zw q25 q56 q87)
  have hP : va_P (dC, dI) vwCl (mW ad N cI cZ cJ (wA (wA (wA (wA u82 11 ((u82.1 0 12).toNatClampNeg) r86) 0 12 ((u82.1 0 12) + (1 : Int32))) 11 (((u82.1 0 12) + (1 : Int32)).toNatClampNeg) r94) 0 12 (((u82.1 0 12) + (1 : Int32)) + (1 : Int32)))) H := hP
  have hD : va_D A (mW ad N cI cZ cJ (wA (wA (wA (wA u82 11 ((u82.1 0 12).toNatClampNeg) r86) 0 12 ((u82.1 0 12) + (1 : Int32))) 11 (((u82.1 0 12) + (1 : Int32)).toNatClampNeg) r94) 0 12 (((u82.1 0 12) + (1 : Int32)) + (1 : Int32)))) := hD
  refine tp_i (y := ((u82.1 0 12) + (1 : Int32))) (rfl) ?_
  refine W.widen (k := 0) (n := 0) (Nat.le_refl _) (Nat.le_refl _) ?_
  refine lv_pop hx hb dX13_dividing_180 rfl ?_
  refine lv_aload_n hx hb dX13_dividing_181 rfl (lv_at hl 0 rfl) ?_
  refine lv_bipush (v := 19) hx hb dX13_dividing_182 (by decide) ?_
  refine lv_iconst (v := 1) hx hb dX13_dividing_184 (by decide) ?_
  refine lv_bipush (v := 6) hx hb dX13_dividing_185 (by decide) ?_
  refine lv_bipush (v := 6) hx hb dX13_dividing_187 (by decide) ?_
  refine lv_iconst (v := 1) hx hb dX13_dividing_189 (by decide) ?_
  refine cu_s (mW_nd _ _ _ _ _ _) (rn_S (n := 5) (As := [.int 19, .int 1, .int 6, .int 6, .int 1]) (rest := [.ref (ad 0)]) hx hb hml hown ht hKK hFx hP hD hS hA (c_m_byI l dC dI cI cB cZ cJ cR tb H.size (19 : Int32) (1 : Int32) (6 : Int32) (6 : Int32) (1 : Int32) ) tw_2 tw_3 (by decide +kernel) rfl rfl ⟨Nat.le_of_ble_eq_true rfl, Nat.le_of_ble_eq_true rfl⟩ [] rfl rfl rfl hl.1 rfl (Nat.le_of_ble_eq_true rfl) dX13_dividing_190 ⟨Nat.le_of_ble_eq_true rfl, Nat.le_of_ble_eq_true rfl⟩) hP hD hS hA (fun r101 H locs hw99 hP hD hS => ?_)
  have ex99 := hw99
  refine W.widen (k := 0) (n := 0) (Nat.le_refl _) (Nat.le_refl _) ?_
  refine cu_i (rn_V (n := 1) (As := [.int r101]) (rest := []) hx hb hml hown ht hKK hFx hP hD hS hA (c_m_emit l dC dI cI cB cZ cJ cR tb H.size ad N (wA (wA (wA (wA u82 11 ((u82.1 0 12).toNatClampNeg) r86) 0 12 ((u82.1 0 12) + (1 : Int32))) 11 (((u82.1 0 12) + (1 : Int32)).toNatClampNeg) r94) 0 12 (((u82.1 0 12) + (1 : Int32)) + (1 : Int32))) r101 (show 0 ≤ (((u82.1 0 12) + (1 : Int32)) + (1 : Int32)).toInt ∧ (((u82.1 0 12) + (1 : Int32)) + (1 : Int32)).toInt < 24000 from (om_9102d0c934 zw q25 q56 q87 z98))) tw_8 tw_9 (by decide +kernel) rfl rfl ⟨Nat.le_of_ble_eq_true rfl, Nat.le_of_ble_eq_true rfl⟩ (List.range (mW ad N cI cZ cJ (wA (wA (wA (wA u82 11 ((u82.1 0 12).toNatClampNeg) r86) 0 12 ((u82.1 0 12) + (1 : Int32))) 11 (((u82.1 0 12) + (1 : Int32)).toNatClampNeg) r94) 0 12 (((u82.1 0 12) + (1 : Int32)) + (1 : Int32)))).length) (rg_map _) (mW_nd _ _ _ _ _ _) rfl rfl rfl rfl hl.1 rfl (Nat.le_of_ble_eq_true rfl) dX13_dividing_193 ⟨Nat.le_of_ble_eq_true rfl, Nat.le_of_ble_eq_true rfl⟩) hP hD hS hA (fun r104 u103 H locs hw102 hP hD hS => ?_)
  obtain ⟨rfl, rfl⟩ := hw102
  have z105 : ((((u82.1 0 12) + (1 : Int32)) + (1 : Int32)) + (1 : Int32)).toInt = ((((u82.1 0 12).toInt) + (1 : Int)) + (1 : Int)) + (1 : Int) := add_z z98 (show (1 : Int32).toInt = (1 : Int) by decide) (om_350844ff38 zw q25 q56 q87) (om_42458dd121 zw q25 q56 q87)
  have hP : va_P (dC, dI) vwCl (mW ad N cI cZ cJ (wA (wA (wA (wA (wA (wA u82 11 ((u82.1 0 12).toNatClampNeg) r86) 0 12 ((u82.1 0 12) + (1 : Int32))) 11 (((u82.1 0 12) + (1 : Int32)).toNatClampNeg) r94) 0 12 (((u82.1 0 12) + (1 : Int32)) + (1 : Int32))) 11 ((((u82.1 0 12) + (1 : Int32)) + (1 : Int32)).toNatClampNeg) r101) 0 12 ((((u82.1 0 12) + (1 : Int32)) + (1 : Int32)) + (1 : Int32)))) H := hP
  have hD : va_D A (mW ad N cI cZ cJ (wA (wA (wA (wA (wA (wA u82 11 ((u82.1 0 12).toNatClampNeg) r86) 0 12 ((u82.1 0 12) + (1 : Int32))) 11 (((u82.1 0 12) + (1 : Int32)).toNatClampNeg) r94) 0 12 (((u82.1 0 12) + (1 : Int32)) + (1 : Int32))) 11 ((((u82.1 0 12) + (1 : Int32)) + (1 : Int32)).toNatClampNeg) r101) 0 12 ((((u82.1 0 12) + (1 : Int32)) + (1 : Int32)) + (1 : Int32)))) := hD
  refine tp_i (y := (((u82.1 0 12) + (1 : Int32)) + (1 : Int32))) (rfl) ?_
  refine W.widen (k := 0) (n := 0) (Nat.le_refl _) (Nat.le_refl _) ?_
  refine lv_pop hx hb dX13_dividing_196 rfl ?_
  refine lv_aload_n hx hb dX13_dividing_197 rfl (lv_at hl 0 rfl) ?_
  refine lv_iconst (v := 0) hx hb dX13_dividing_198 (by decide) ?_
  refine lv_bipush (v := 6) hx hb dX13_dividing_199 (by decide) ?_
  refine lv_bipush (v := 6) hx hb dX13_dividing_201 (by decide) ?_
  refine lv_bipush (v := 6) hx hb dX13_dividing_203 (by decide) ?_
  refine lv_bipush (v := 31) hx hb dX13_dividing_205 (by decide) ?_
  refine cu_s (mW_nd _ _ _ _ _ _) (rn_S (n := 5) (As := [.int 0, .int 6, .int 6, .int 6, .int 31]) (rest := [.ref (ad 0)]) hx hb hml hown ht hKK hFx hP hD hS hA (c_m_byR l dC dI cI cB cZ cJ cR tb H.size (0 : Int32) (6 : Int32) (6 : Int32) (6 : Int32) (31 : Int32) ) tw_67 tw_68 (by decide +kernel) rfl rfl ⟨Nat.le_of_ble_eq_true rfl, Nat.le_of_ble_eq_true rfl⟩ [] rfl rfl rfl hl.1 rfl (Nat.le_of_ble_eq_true rfl) dX13_dividing_207 ⟨Nat.le_of_ble_eq_true rfl, Nat.le_of_ble_eq_true rfl⟩) hP hD hS hA (fun r108 H locs hw106 hP hD hS => ?_)
  have ex106 := hw106
  refine W.widen (k := 0) (n := 0) (Nat.le_refl _) (Nat.le_refl _) ?_
  refine cu_i (rn_V (n := 1) (As := [.int r108]) (rest := []) hx hb hml hown ht hKK hFx hP hD hS hA (c_m_emit l dC dI cI cB cZ cJ cR tb H.size ad N (wA (wA (wA (wA (wA (wA u82 11 ((u82.1 0 12).toNatClampNeg) r86) 0 12 ((u82.1 0 12) + (1 : Int32))) 11 (((u82.1 0 12) + (1 : Int32)).toNatClampNeg) r94) 0 12 (((u82.1 0 12) + (1 : Int32)) + (1 : Int32))) 11 ((((u82.1 0 12) + (1 : Int32)) + (1 : Int32)).toNatClampNeg) r101) 0 12 ((((u82.1 0 12) + (1 : Int32)) + (1 : Int32)) + (1 : Int32))) r108 (show 0 ≤ ((((u82.1 0 12) + (1 : Int32)) + (1 : Int32)) + (1 : Int32)).toInt ∧ ((((u82.1 0 12) + (1 : Int32)) + (1 : Int32)) + (1 : Int32)).toInt < 24000 from (om_2ad36d95c0 zw q25 q56 q87 z105))) tw_8 tw_9 (by decide +kernel) rfl rfl ⟨Nat.le_of_ble_eq_true rfl, Nat.le_of_ble_eq_true rfl⟩ (List.range (mW ad N cI cZ cJ (wA (wA (wA (wA (wA (wA u82 11 ((u82.1 0 12).toNatClampNeg) r86) 0 12 ((u82.1 0 12) + (1 : Int32))) 11 (((u82.1 0 12) + (1 : Int32)).toNatClampNeg) r94) 0 12 (((u82.1 0 12) + (1 : Int32)) + (1 : Int32))) 11 ((((u82.1 0 12) + (1 : Int32)) + (1 : Int32)).toNatClampNeg) r101) 0 12 ((((u82.1 0 12) + (1 : Int32)) + (1 : Int32)) + (1 : Int32)))).length) (rg_map _) (mW_nd _ _ _ _ _ _) rfl rfl rfl rfl hl.1 rfl (Nat.le_of_ble_eq_true rfl) dX13_dividing_210 ⟨Nat.le_of_ble_eq_true rfl, Nat.le_of_ble_eq_true rfl⟩) hP hD hS hA (fun r111 u110 H locs hw109 hP hD hS => ?_)
  obtain ⟨rfl, rfl⟩ := hw109
  have z112 : (((((u82.1 0 12) + (1 : Int32)) + (1 : Int32)) + (1 : Int32)) + (1 : Int32)).toInt = (((((u82.1 0 12).toInt) + (1 : Int)) + (1 : Int)) + (1 : Int)) + (1 : Int) := add_z z105 (show (1 : Int32).toInt = (1 : Int) by decide) (om_b169c40e24 zw q25 q56 q87) (om_95c8e012d7 zw q25 q56 q87)
  have hP : va_P (dC, dI) vwCl (mW ad N cI cZ cJ (wA (wA (wA (wA (wA (wA (wA (wA u82 11 ((u82.1 0 12).toNatClampNeg) r86) 0 12 ((u82.1 0 12) + (1 : Int32))) 11 (((u82.1 0 12) + (1 : Int32)).toNatClampNeg) r94) 0 12 (((u82.1 0 12) + (1 : Int32)) + (1 : Int32))) 11 ((((u82.1 0 12) + (1 : Int32)) + (1 : Int32)).toNatClampNeg) r101) 0 12 ((((u82.1 0 12) + (1 : Int32)) + (1 : Int32)) + (1 : Int32))) 11 (((((u82.1 0 12) + (1 : Int32)) + (1 : Int32)) + (1 : Int32)).toNatClampNeg) r108) 0 12 (((((u82.1 0 12) + (1 : Int32)) + (1 : Int32)) + (1 : Int32)) + (1 : Int32)))) H := hP
  have hD : va_D A (mW ad N cI cZ cJ (wA (wA (wA (wA (wA (wA (wA (wA u82 11 ((u82.1 0 12).toNatClampNeg) r86) 0 12 ((u82.1 0 12) + (1 : Int32))) 11 (((u82.1 0 12) + (1 : Int32)).toNatClampNeg) r94) 0 12 (((u82.1 0 12) + (1 : Int32)) + (1 : Int32))) 11 ((((u82.1 0 12) + (1 : Int32)) + (1 : Int32)).toNatClampNeg) r101) 0 12 ((((u82.1 0 12) + (1 : Int32)) + (1 : Int32)) + (1 : Int32))) 11 (((((u82.1 0 12) + (1 : Int32)) + (1 : Int32)) + (1 : Int32)).toNatClampNeg) r108) 0 12 (((((u82.1 0 12) + (1 : Int32)) + (1 : Int32)) + (1 : Int32)) + (1 : Int32)))) := hD
  refine tp_i (y := ((((u82.1 0 12) + (1 : Int32)) + (1 : Int32)) + (1 : Int32))) (rfl) ?_
  refine W.widen (k := 0) (n := 0) (Nat.le_refl _) (Nat.le_refl _) ?_
  obtain ⟨u113, hu114⟩ : ∃ z, z = (wA (wA (wA (wA (wA (wA (wA (wA u82 11 ((u82.1 0 12).toNatClampNeg) r86) 0 12 ((u82.1 0 12) + (1 : Int32))) 11 (((u82.1 0 12) + (1 : Int32)).toNatClampNeg) r94) 0 12 (((u82.1 0 12) + (1 : Int32)) + (1 : Int32))) 11 ((((u82.1 0 12) + (1 : Int32)) + (1 : Int32)).toNatClampNeg) r101) 0 12 ((((u82.1 0 12) + (1 : Int32)) + (1 : Int32)) + (1 : Int32))) 11 (((((u82.1 0 12) + (1 : Int32)) + (1 : Int32)) + (1 : Int32)).toNatClampNeg) r108) 0 12 (((((u82.1 0 12) + (1 : Int32)) + (1 : Int32)) + (1 : Int32)) + (1 : Int32))) := ⟨_, rfl⟩
  have fr114 : FG [12] [0, 11] u82 u113 := by rw [hu114]; exact (FG.f (FG.a (FG.f (FG.a (FG.f (FG.a (FG.f (FG.a (FG.rf _) ((u82.1 0 12).toNatClampNeg) r86 (by decide) (by decide)) ((u82.1 0 12) + (1 : Int32)) (by decide)) (((u82.1 0 12) + (1 : Int32)).toNatClampNeg) r94 (by decide) (by decide)) (((u82.1 0 12) + (1 : Int32)) + (1 : Int32)) (by decide)) ((((u82.1 0 12) + (1 : Int32)) + (1 : Int32)).toNatClampNeg) r101 (by decide) (by decide)) ((((u82.1 0 12) + (1 : Int32)) + (1 : Int32)) + (1 : Int32)) (by decide)) (((((u82.1 0 12) + (1 : Int32)) + (1 : Int32)) + (1 : Int32)).toNatClampNeg) r108 (by decide) (by decide)) (((((u82.1 0 12) + (1 : Int32)) + (1 : Int32)) + (1 : Int32)) + (1 : Int32)) (by decide))
  rw [← hu114] at hP hD
  refine lv_pop hx hb dX13_dividing_213 rfl ?_
  refine lv_aload_n hx hb dX13_dividing_214 rfl (lv_at hl 0 rfl) ?_
  refine lv_bipush (v := 6) hx hb dX13_dividing_215 (by decide) ?_
  refine lv_bipush (v := 6) hx hb dX13_dividing_217 (by decide) ?_
  refine lv_bipush (v := 10) hx hb dX13_dividing_219 (by decide) ?_
  refine lv_bipush (v := 12) hx hb dX13_dividing_221 (by decide) ?_
  refine cu_s (mW_nd _ _ _ _ _ _) (rn_S (n := 4) (As := [.int 6, .int 6, .int 10, .int 12]) (rest := [.ref (ad 0)]) hx hb hml hown ht hKK hFx hP hD hS hA (c_m_byB l dC dI cI cB cZ cJ cR tb H.size (6 : Int32) (6 : Int32) (10 : Int32) (12 : Int32) ) tw_85 tw_86 (by decide +kernel) rfl rfl ⟨Nat.le_of_ble_eq_true rfl, Nat.le_of_ble_eq_true rfl⟩ [] rfl rfl rfl hl.1 rfl (Nat.le_of_ble_eq_true rfl) dX13_dividing_223 ⟨Nat.le_of_ble_eq_true rfl, Nat.le_of_ble_eq_true rfl⟩) hP hD hS hA (fun r117 H locs hw115 hP hD hS => ?_)
  have ex115 := hw115
  refine W.widen (k := 0) (n := 0) (Nat.le_refl _) (Nat.le_refl _) ?_
  have q118 : (u113.1 0 12).toInt = ((((((u82.1 0 12).toInt) + (1 : Int)) + (1 : Int)) + (1 : Int)) + (1 : Int)) := by rw [hu114]; exact (show (((((u82.1 0 12) + (1 : Int32)) + (1 : Int32)) + (1 : Int32)) + (1 : Int32)).toInt = ((((((u82.1 0 12).toInt) + (1 : Int)) + (1 : Int)) + (1 : Int)) + (1 : Int)) from z112)
  refine cu_i (rn_V (n := 1) (As := [.int r117]) (rest := []) hx hb hml hown ht hKK hFx hP hD hS hA (c_m_emit l dC dI cI cB cZ cJ cR tb H.size ad N u113 r117 (show 0 ≤ (u113.1 0 12).toInt ∧ (u113.1 0 12).toInt < 24000 from (om_78bf6ae9cc zw q25 q56 q87 q118))) tw_8 tw_9 (by decide +kernel) rfl rfl ⟨Nat.le_of_ble_eq_true rfl, Nat.le_of_ble_eq_true rfl⟩ (List.range (mW ad N cI cZ cJ u113).length) (rg_map _) (mW_nd _ _ _ _ _ _) rfl rfl rfl rfl hl.1 rfl (Nat.le_of_ble_eq_true rfl) dX13_dividing_226 ⟨Nat.le_of_ble_eq_true rfl, Nat.le_of_ble_eq_true rfl⟩) hP hD hS hA (fun r121 u120 H locs hw119 hP hD hS => ?_)
  obtain ⟨rfl, rfl⟩ := hw119
  have z122 : ((u113.1 0 12) + (1 : Int32)).toInt = ((u113.1 0 12).toInt) + (1 : Int) := add_z rfl (show (1 : Int32).toInt = (1 : Int) by decide) (om_e980d74b19 zw q25 q56 q87 q118) (om_14c198eb23 zw q25 q56 q87 q118)
  have hP : va_P (dC, dI) vwCl (mW ad N cI cZ cJ (wA (wA u113 11 ((u113.1 0 12).toNatClampNeg) r117) 0 12 ((u113.1 0 12) + (1 : Int32)))) H := hP
  have hD : va_D A (mW ad N cI cZ cJ (wA (wA u113 11 ((u113.1 0 12).toNatClampNeg) r117) 0 12 ((u113.1 0 12) + (1 : Int32)))) := hD
  refine tp_i (y := (u113.1 0 12)) (rfl) ?_
  refine W.widen (k := 0) (n := 0) (Nat.le_refl _) (Nat.le_refl _) ?_
  refine lv_pop hx hb dX13_dividing_229 rfl ?_
  refine lv_aload_n hx hb dX13_dividing_230 rfl (lv_at hl 0 rfl) ?_
  refine lv_bipush (v := 32) hx hb dX13_dividing_231 (by decide) ?_
  refine lv_iconst (v := 0) hx hb dX13_dividing_233 (by decide) ?_
  refine lv_bipush (v := 6) hx hb dX13_dividing_234 (by decide) ?_
  refine lv_bipush (v := 6) hx hb dX13_dividing_236 (by decide) ?_
  refine lv_bipush (v := 10) hx hb dX13_dividing_238 (by decide) ?_
  refine cu_s (mW_nd _ _ _ _ _ _) (rn_S (n := 5) (As := [.int 32, .int 0, .int 6, .int 6, .int 10]) (rest := [.ref (ad 0)]) hx hb hml hown ht hKK hFx hP hD hS hA (c_m_byR l dC dI cI cB cZ cJ cR tb H.size (32 : Int32) (0 : Int32) (6 : Int32) (6 : Int32) (10 : Int32) ) tw_67 tw_68 (by decide +kernel) rfl rfl ⟨Nat.le_of_ble_eq_true rfl, Nat.le_of_ble_eq_true rfl⟩ [] rfl rfl rfl hl.1 rfl (Nat.le_of_ble_eq_true rfl) dX13_dividing_240 ⟨Nat.le_of_ble_eq_true rfl, Nat.le_of_ble_eq_true rfl⟩) hP hD hS hA (fun r125 H locs hw123 hP hD hS => ?_)
  have ex123 := hw123
  refine W.widen (k := 0) (n := 0) (Nat.le_refl _) (Nat.le_refl _) ?_
  refine cu_i (rn_V (n := 1) (As := [.int r125]) (rest := []) hx hb hml hown ht hKK hFx hP hD hS hA (c_m_emit l dC dI cI cB cZ cJ cR tb H.size ad N (wA (wA u113 11 ((u113.1 0 12).toNatClampNeg) r117) 0 12 ((u113.1 0 12) + (1 : Int32))) r125 (show 0 ≤ ((u113.1 0 12) + (1 : Int32)).toInt ∧ ((u113.1 0 12) + (1 : Int32)).toInt < 24000 from (om_46b98ea773 zw q25 q56 q87 q118 z122))) tw_8 tw_9 (by decide +kernel) rfl rfl ⟨Nat.le_of_ble_eq_true rfl, Nat.le_of_ble_eq_true rfl⟩ (List.range (mW ad N cI cZ cJ (wA (wA u113 11 ((u113.1 0 12).toNatClampNeg) r117) 0 12 ((u113.1 0 12) + (1 : Int32)))).length) (rg_map _) (mW_nd _ _ _ _ _ _) rfl rfl rfl rfl hl.1 rfl (Nat.le_of_ble_eq_true rfl) dX13_dividing_243 ⟨Nat.le_of_ble_eq_true rfl, Nat.le_of_ble_eq_true rfl⟩) hP hD hS hA (fun r128 u127 H locs hw126 hP hD hS => ?_)
  obtain ⟨rfl, rfl⟩ := hw126
  have z129 : (((u113.1 0 12) + (1 : Int32)) + (1 : Int32)).toInt = (((u113.1 0 12).toInt) + (1 : Int)) + (1 : Int) := add_z z122 (show (1 : Int32).toInt = (1 : Int) by decide) (om_0d8064f7d0 zw q25 q56 q87 q118) (om_c4e0faefb9 zw q25 q56 q87 q118)
  have hP : va_P (dC, dI) vwCl (mW ad N cI cZ cJ (wA (wA (wA (wA u113 11 ((u113.1 0 12).toNatClampNeg) r117) 0 12 ((u113.1 0 12) + (1 : Int32))) 11 (((u113.1 0 12) + (1 : Int32)).toNatClampNeg) r125) 0 12 (((u113.1 0 12) + (1 : Int32)) + (1 : Int32)))) H := hP
  have hD : va_D A (mW ad N cI cZ cJ (wA (wA (wA (wA u113 11 ((u113.1 0 12).toNatClampNeg) r117) 0 12 ((u113.1 0 12) + (1 : Int32))) 11 (((u113.1 0 12) + (1 : Int32)).toNatClampNeg) r125) 0 12 (((u113.1 0 12) + (1 : Int32)) + (1 : Int32)))) := hD
  refine tp_i (y := ((u113.1 0 12) + (1 : Int32))) (rfl) ?_
  refine W.widen (k := 0) (n := 0) (Nat.le_refl _) (Nat.le_refl _) ?_
  refine lv_pop hx hb dX13_dividing_246 rfl ?_
  refine lv_aload_n hx hb dX13_dividing_247 rfl (lv_at hl 0 rfl) ?_
  refine lv_bipush (v := 19) hx hb dX13_dividing_248 (by decide) ?_
  refine lv_bipush (v := 6) hx hb dX13_dividing_250 (by decide) ?_
  refine lv_iconst (v := 5) hx hb dX13_dividing_252 (by decide) ?_
  refine lv_iconst (v := 5) hx hb dX13_dividing_253 (by decide) ?_
  refine lv_iconst (v := 1) hx hb dX13_dividing_254 (by decide) ?_
  refine cu_s (mW_nd _ _ _ _ _ _) (rn_S (n := 5) (As := [.int 19, .int 6, .int 5, .int 5, .int 1]) (rest := [.ref (ad 0)]) hx hb hml hown ht hKK hFx hP hD hS hA (c_m_byI l dC dI cI cB cZ cJ cR tb H.size (19 : Int32) (6 : Int32) (5 : Int32) (5 : Int32) (1 : Int32) ) tw_2 tw_3 (by decide +kernel) rfl rfl ⟨Nat.le_of_ble_eq_true rfl, Nat.le_of_ble_eq_true rfl⟩ [] rfl rfl rfl hl.1 rfl (Nat.le_of_ble_eq_true rfl) dX13_dividing_255 ⟨Nat.le_of_ble_eq_true rfl, Nat.le_of_ble_eq_true rfl⟩) hP hD hS hA (fun r132 H locs hw130 hP hD hS => ?_)
  have ex130 := hw130
  refine W.widen (k := 0) (n := 0) (Nat.le_refl _) (Nat.le_refl _) ?_
  refine cu_i (rn_V (n := 1) (As := [.int r132]) (rest := []) hx hb hml hown ht hKK hFx hP hD hS hA (c_m_emit l dC dI cI cB cZ cJ cR tb H.size ad N (wA (wA (wA (wA u113 11 ((u113.1 0 12).toNatClampNeg) r117) 0 12 ((u113.1 0 12) + (1 : Int32))) 11 (((u113.1 0 12) + (1 : Int32)).toNatClampNeg) r125) 0 12 (((u113.1 0 12) + (1 : Int32)) + (1 : Int32))) r132 (show 0 ≤ (((u113.1 0 12) + (1 : Int32)) + (1 : Int32)).toInt ∧ (((u113.1 0 12) + (1 : Int32)) + (1 : Int32)).toInt < 24000 from (om_10eaf79fe8 zw q25 q56 q87 q118 z129))) tw_8 tw_9 (by decide +kernel) rfl rfl ⟨Nat.le_of_ble_eq_true rfl, Nat.le_of_ble_eq_true rfl⟩ (List.range (mW ad N cI cZ cJ (wA (wA (wA (wA u113 11 ((u113.1 0 12).toNatClampNeg) r117) 0 12 ((u113.1 0 12) + (1 : Int32))) 11 (((u113.1 0 12) + (1 : Int32)).toNatClampNeg) r125) 0 12 (((u113.1 0 12) + (1 : Int32)) + (1 : Int32)))).length) (rg_map _) (mW_nd _ _ _ _ _ _) rfl rfl rfl rfl hl.1 rfl (Nat.le_of_ble_eq_true rfl) dX13_dividing_258 ⟨Nat.le_of_ble_eq_true rfl, Nat.le_of_ble_eq_true rfl⟩) hP hD hS hA (fun r135 u134 H locs hw133 hP hD hS => ?_)
  obtain ⟨rfl, rfl⟩ := hw133
  have z136 : ((((u113.1 0 12) + (1 : Int32)) + (1 : Int32)) + (1 : Int32)).toInt = ((((u113.1 0 12).toInt) + (1 : Int)) + (1 : Int)) + (1 : Int) := add_z z129 (show (1 : Int32).toInt = (1 : Int) by decide) (om_098f982c32 zw q25 q56 q87 q118) (om_cbae33c7de zw q25 q56 q87 q118)
  have hP : va_P (dC, dI) vwCl (mW ad N cI cZ cJ (wA (wA (wA (wA (wA (wA u113 11 ((u113.1 0 12).toNatClampNeg) r117) 0 12 ((u113.1 0 12) + (1 : Int32))) 11 (((u113.1 0 12) + (1 : Int32)).toNatClampNeg) r125) 0 12 (((u113.1 0 12) + (1 : Int32)) + (1 : Int32))) 11 ((((u113.1 0 12) + (1 : Int32)) + (1 : Int32)).toNatClampNeg) r132) 0 12 ((((u113.1 0 12) + (1 : Int32)) + (1 : Int32)) + (1 : Int32)))) H := hP
  have hD : va_D A (mW ad N cI cZ cJ (wA (wA (wA (wA (wA (wA u113 11 ((u113.1 0 12).toNatClampNeg) r117) 0 12 ((u113.1 0 12) + (1 : Int32))) 11 (((u113.1 0 12) + (1 : Int32)).toNatClampNeg) r125) 0 12 (((u113.1 0 12) + (1 : Int32)) + (1 : Int32))) 11 ((((u113.1 0 12) + (1 : Int32)) + (1 : Int32)).toNatClampNeg) r132) 0 12 ((((u113.1 0 12) + (1 : Int32)) + (1 : Int32)) + (1 : Int32)))) := hD
  refine tp_i (y := (((u113.1 0 12) + (1 : Int32)) + (1 : Int32))) (rfl) ?_
  refine W.widen (k := 0) (n := 0) (Nat.le_refl _) (Nat.le_refl _) ?_
  refine lv_pop hx hb dX13_dividing_261 rfl ?_
  refine lv_aload_n hx hb dX13_dividing_262 rfl (lv_at hl 0 rfl) ?_
  refine lv_bipush (v := 7) hx hb dX13_dividing_263 (by decide) ?_
  refine lv_bipush (v := 7) hx hb dX13_dividing_265 (by decide) ?_
  refine lv_iconst (v := -1) hx hb dX13_dividing_267 (by decide) ?_
  refine cu_s (mW_nd _ _ _ _ _ _) (rn_S (n := 3) (As := [.int 7, .int 7, .int (-1)]) (rest := [.ref (ad 0)]) hx hb hml hown ht hKK hFx hP hD hS hA (c_m_addi l dC dI cI cB cZ cJ cR tb H.size (7 : Int32) (7 : Int32) (-1 : Int32) ) tw_65 tw_66 (by decide +kernel) rfl rfl ⟨Nat.le_of_ble_eq_true rfl, Nat.le_of_ble_eq_true rfl⟩ [] rfl rfl rfl hl.1 rfl (Nat.le_of_ble_eq_true rfl) dX13_dividing_268 ⟨Nat.le_of_ble_eq_true rfl, Nat.le_of_ble_eq_true rfl⟩) hP hD hS hA (fun r139 H locs hw137 hP hD hS => ?_)
  have ex137 := hw137
  refine W.widen (k := 0) (n := 0) (Nat.le_refl _) (Nat.le_refl _) ?_
  refine cu_i (rn_V (n := 1) (As := [.int r139]) (rest := []) hx hb hml hown ht hKK hFx hP hD hS hA (c_m_emit l dC dI cI cB cZ cJ cR tb H.size ad N (wA (wA (wA (wA (wA (wA u113 11 ((u113.1 0 12).toNatClampNeg) r117) 0 12 ((u113.1 0 12) + (1 : Int32))) 11 (((u113.1 0 12) + (1 : Int32)).toNatClampNeg) r125) 0 12 (((u113.1 0 12) + (1 : Int32)) + (1 : Int32))) 11 ((((u113.1 0 12) + (1 : Int32)) + (1 : Int32)).toNatClampNeg) r132) 0 12 ((((u113.1 0 12) + (1 : Int32)) + (1 : Int32)) + (1 : Int32))) r139 (show 0 ≤ ((((u113.1 0 12) + (1 : Int32)) + (1 : Int32)) + (1 : Int32)).toInt ∧ ((((u113.1 0 12) + (1 : Int32)) + (1 : Int32)) + (1 : Int32)).toInt < 24000 from (om_632022263a zw q25 q56 q87 q118 z136))) tw_8 tw_9 (by decide +kernel) rfl rfl ⟨Nat.le_of_ble_eq_true rfl, Nat.le_of_ble_eq_true rfl⟩ (List.range (mW ad N cI cZ cJ (wA (wA (wA (wA (wA (wA u113 11 ((u113.1 0 12).toNatClampNeg) r117) 0 12 ((u113.1 0 12) + (1 : Int32))) 11 (((u113.1 0 12) + (1 : Int32)).toNatClampNeg) r125) 0 12 (((u113.1 0 12) + (1 : Int32)) + (1 : Int32))) 11 ((((u113.1 0 12) + (1 : Int32)) + (1 : Int32)).toNatClampNeg) r132) 0 12 ((((u113.1 0 12) + (1 : Int32)) + (1 : Int32)) + (1 : Int32)))).length) (rg_map _) (mW_nd _ _ _ _ _ _) rfl rfl rfl rfl hl.1 rfl (Nat.le_of_ble_eq_true rfl) dX13_dividing_271 ⟨Nat.le_of_ble_eq_true rfl, Nat.le_of_ble_eq_true rfl⟩) hP hD hS hA (fun r142 u141 H locs hw140 hP hD hS => ?_)
  obtain ⟨rfl, rfl⟩ := hw140
  have z143 : (((((u113.1 0 12) + (1 : Int32)) + (1 : Int32)) + (1 : Int32)) + (1 : Int32)).toInt = (((((u113.1 0 12).toInt) + (1 : Int)) + (1 : Int)) + (1 : Int)) + (1 : Int) := add_z z136 (show (1 : Int32).toInt = (1 : Int) by decide) (om_6ce707363e zw q25 q56 q87 q118) (om_89cb09b38f zw q25 q56 q87 q118)
  have hP : va_P (dC, dI) vwCl (mW ad N cI cZ cJ (wA (wA (wA (wA (wA (wA (wA (wA u113 11 ((u113.1 0 12).toNatClampNeg) r117) 0 12 ((u113.1 0 12) + (1 : Int32))) 11 (((u113.1 0 12) + (1 : Int32)).toNatClampNeg) r125) 0 12 (((u113.1 0 12) + (1 : Int32)) + (1 : Int32))) 11 ((((u113.1 0 12) + (1 : Int32)) + (1 : Int32)).toNatClampNeg) r132) 0 12 ((((u113.1 0 12) + (1 : Int32)) + (1 : Int32)) + (1 : Int32))) 11 (((((u113.1 0 12) + (1 : Int32)) + (1 : Int32)) + (1 : Int32)).toNatClampNeg) r139) 0 12 (((((u113.1 0 12) + (1 : Int32)) + (1 : Int32)) + (1 : Int32)) + (1 : Int32)))) H := hP
  have hD : va_D A (mW ad N cI cZ cJ (wA (wA (wA (wA (wA (wA (wA (wA u113 11 ((u113.1 0 12).toNatClampNeg) r117) 0 12 ((u113.1 0 12) + (1 : Int32))) 11 (((u113.1 0 12) + (1 : Int32)).toNatClampNeg) r125) 0 12 (((u113.1 0 12) + (1 : Int32)) + (1 : Int32))) 11 ((((u113.1 0 12) + (1 : Int32)) + (1 : Int32)).toNatClampNeg) r132) 0 12 ((((u113.1 0 12) + (1 : Int32)) + (1 : Int32)) + (1 : Int32))) 11 (((((u113.1 0 12) + (1 : Int32)) + (1 : Int32)) + (1 : Int32)).toNatClampNeg) r139) 0 12 (((((u113.1 0 12) + (1 : Int32)) + (1 : Int32)) + (1 : Int32)) + (1 : Int32)))) := hD
  refine tp_i (y := ((((u113.1 0 12) + (1 : Int32)) + (1 : Int32)) + (1 : Int32))) (rfl) ?_
  refine W.widen (k := 0) (n := 0) (Nat.le_refl _) (Nat.le_refl _) ?_
  obtain ⟨u144, hu145⟩ : ∃ z, z = (wA (wA (wA (wA (wA (wA (wA (wA u113 11 ((u113.1 0 12).toNatClampNeg) r117) 0 12 ((u113.1 0 12) + (1 : Int32))) 11 (((u113.1 0 12) + (1 : Int32)).toNatClampNeg) r125) 0 12 (((u113.1 0 12) + (1 : Int32)) + (1 : Int32))) 11 ((((u113.1 0 12) + (1 : Int32)) + (1 : Int32)).toNatClampNeg) r132) 0 12 ((((u113.1 0 12) + (1 : Int32)) + (1 : Int32)) + (1 : Int32))) 11 (((((u113.1 0 12) + (1 : Int32)) + (1 : Int32)) + (1 : Int32)).toNatClampNeg) r139) 0 12 (((((u113.1 0 12) + (1 : Int32)) + (1 : Int32)) + (1 : Int32)) + (1 : Int32))) := ⟨_, rfl⟩
  have fr145 : FG [12] [0, 11] u113 u144 := by rw [hu145]; exact (FG.f (FG.a (FG.f (FG.a (FG.f (FG.a (FG.f (FG.a (FG.rf _) ((u113.1 0 12).toNatClampNeg) r117 (by decide) (by decide)) ((u113.1 0 12) + (1 : Int32)) (by decide)) (((u113.1 0 12) + (1 : Int32)).toNatClampNeg) r125 (by decide) (by decide)) (((u113.1 0 12) + (1 : Int32)) + (1 : Int32)) (by decide)) ((((u113.1 0 12) + (1 : Int32)) + (1 : Int32)).toNatClampNeg) r132 (by decide) (by decide)) ((((u113.1 0 12) + (1 : Int32)) + (1 : Int32)) + (1 : Int32)) (by decide)) (((((u113.1 0 12) + (1 : Int32)) + (1 : Int32)) + (1 : Int32)).toNatClampNeg) r139 (by decide) (by decide)) (((((u113.1 0 12) + (1 : Int32)) + (1 : Int32)) + (1 : Int32)) + (1 : Int32)) (by decide))
  rw [← hu145] at hP hD
  refine lv_pop hx hb dX13_dividing_274 rfl ?_
  refine lv_aload_n hx hb dX13_dividing_275 rfl (lv_at hl 0 rfl) ?_
  refine lv_iconst (v := 1) hx hb dX13_dividing_276 (by decide) ?_
  refine lv_bipush (v := 7) hx hb dX13_dividing_277 (by decide) ?_
  refine lv_iconst (v := 0) hx hb dX13_dividing_279 (by decide) ?_
  refine lv_bipush (v := -32) hx hb dX13_dividing_280 (by decide) ?_
  refine cu_s (mW_nd _ _ _ _ _ _) (rn_S (n := 4) (As := [.int 1, .int 7, .int 0, .int (-32)]) (rest := [.ref (ad 0)]) hx hb hml hown ht hKK hFx hP hD hS hA (c_m_byB l dC dI cI cB cZ cJ cR tb H.size (1 : Int32) (7 : Int32) (0 : Int32) (-32 : Int32) ) tw_85 tw_86 (by decide +kernel) rfl rfl ⟨Nat.le_of_ble_eq_true rfl, Nat.le_of_ble_eq_true rfl⟩ [] rfl rfl rfl hl.1 rfl (Nat.le_of_ble_eq_true rfl) dX13_dividing_282 ⟨Nat.le_of_ble_eq_true rfl, Nat.le_of_ble_eq_true rfl⟩) hP hD hS hA (fun r148 H locs hw146 hP hD hS => ?_)
  have ex146 := hw146
  refine W.widen (k := 0) (n := 0) (Nat.le_refl _) (Nat.le_refl _) ?_
  have q149 : (u144.1 0 12).toInt = ((((((u113.1 0 12).toInt) + (1 : Int)) + (1 : Int)) + (1 : Int)) + (1 : Int)) := by rw [hu145]; exact (show (((((u113.1 0 12) + (1 : Int32)) + (1 : Int32)) + (1 : Int32)) + (1 : Int32)).toInt = ((((((u113.1 0 12).toInt) + (1 : Int)) + (1 : Int)) + (1 : Int)) + (1 : Int)) from z143)
  refine cu_i (rn_V (n := 1) (As := [.int r148]) (rest := []) hx hb hml hown ht hKK hFx hP hD hS hA (c_m_emit l dC dI cI cB cZ cJ cR tb H.size ad N u144 r148 (show 0 ≤ (u144.1 0 12).toInt ∧ (u144.1 0 12).toInt < 24000 from (om_046e5e58d2 zw q25 q56 q87 q118 q149))) tw_8 tw_9 (by decide +kernel) rfl rfl ⟨Nat.le_of_ble_eq_true rfl, Nat.le_of_ble_eq_true rfl⟩ (List.range (mW ad N cI cZ cJ u144).length) (rg_map _) (mW_nd _ _ _ _ _ _) rfl rfl rfl rfl hl.1 rfl (Nat.le_of_ble_eq_true rfl) dX13_dividing_285 ⟨Nat.le_of_ble_eq_true rfl, Nat.le_of_ble_eq_true rfl⟩) hP hD hS hA (fun r152 u151 H locs hw150 hP hD hS => ?_)
  obtain ⟨rfl, rfl⟩ := hw150
  have z153 : ((u144.1 0 12) + (1 : Int32)).toInt = ((u144.1 0 12).toInt) + (1 : Int) := add_z rfl (show (1 : Int32).toInt = (1 : Int) by decide) (om_43ef736baf zw q25 q56 q87 q118 q149) (om_4a53c98cbe zw q25 q56 q87 q118 q149)
  have hP : va_P (dC, dI) vwCl (mW ad N cI cZ cJ (wA (wA u144 11 ((u144.1 0 12).toNatClampNeg) r148) 0 12 ((u144.1 0 12) + (1 : Int32)))) H := hP
  have hD : va_D A (mW ad N cI cZ cJ (wA (wA u144 11 ((u144.1 0 12).toNatClampNeg) r148) 0 12 ((u144.1 0 12) + (1 : Int32)))) := hD
  refine tp_i (y := (u144.1 0 12)) (rfl) ?_
  refine W.widen (k := 0) (n := 0) (Nat.le_refl _) (Nat.le_refl _) ?_
  refine lv_pop hx hb dX13_dividing_288 rfl ?_
  refine lv_aload_n hx hb dX13_dividing_289 rfl (lv_at hl 0 rfl) ?_
  refine lv_bipush (v := 10) hx hb dX13_dividing_290 (by decide) ?_
  refine lv_iconst (v := 5) hx hb dX13_dividing_292 (by decide) ?_
  refine lv_iconst (v := 0) hx hb dX13_dividing_293 (by decide) ?_
  refine cu_s (mW_nd _ _ _ _ _ _) (rn_S (n := 3) (As := [.int 10, .int 5, .int 0]) (rest := [.ref (ad 0)]) hx hb hml hown ht hKK hFx hP hD hS hA (c_m_addi l dC dI cI cB cZ cJ cR tb H.size (10 : Int32) (5 : Int32) (0 : Int32) ) tw_65 tw_66 (by decide +kernel) rfl rfl ⟨Nat.le_of_ble_eq_true rfl, Nat.le_of_ble_eq_true rfl⟩ [] rfl rfl rfl hl.1 rfl (Nat.le_of_ble_eq_true rfl) dX13_dividing_294 ⟨Nat.le_of_ble_eq_true rfl, Nat.le_of_ble_eq_true rfl⟩) hP hD hS hA (fun r156 H locs hw154 hP hD hS => ?_)
  have ex154 := hw154
  refine W.widen (k := 0) (n := 0) (Nat.le_refl _) (Nat.le_refl _) ?_
  refine cu_i (rn_V (n := 1) (As := [.int r156]) (rest := []) hx hb hml hown ht hKK hFx hP hD hS hA (c_m_emit l dC dI cI cB cZ cJ cR tb H.size ad N (wA (wA u144 11 ((u144.1 0 12).toNatClampNeg) r148) 0 12 ((u144.1 0 12) + (1 : Int32))) r156 (show 0 ≤ ((u144.1 0 12) + (1 : Int32)).toInt ∧ ((u144.1 0 12) + (1 : Int32)).toInt < 24000 from (om_02fe4f03c2 zw q25 q56 q87 q118 q149 z153))) tw_8 tw_9 (by decide +kernel) rfl rfl ⟨Nat.le_of_ble_eq_true rfl, Nat.le_of_ble_eq_true rfl⟩ (List.range (mW ad N cI cZ cJ (wA (wA u144 11 ((u144.1 0 12).toNatClampNeg) r148) 0 12 ((u144.1 0 12) + (1 : Int32)))).length) (rg_map _) (mW_nd _ _ _ _ _ _) rfl rfl rfl rfl hl.1 rfl (Nat.le_of_ble_eq_true rfl) dX13_dividing_297 ⟨Nat.le_of_ble_eq_true rfl, Nat.le_of_ble_eq_true rfl⟩) hP hD hS hA (fun r159 u158 H locs hw157 hP hD hS => ?_)
  obtain ⟨rfl, rfl⟩ := hw157
  have z160 : (((u144.1 0 12) + (1 : Int32)) + (1 : Int32)).toInt = (((u144.1 0 12).toInt) + (1 : Int)) + (1 : Int) := add_z z153 (show (1 : Int32).toInt = (1 : Int) by decide) (om_a72441ef71 zw q25 q56 q87 q118 q149) (om_9810048331 zw q25 q56 q87 q118 q149)
  have hP : va_P (dC, dI) vwCl (mW ad N cI cZ cJ (wA (wA (wA (wA u144 11 ((u144.1 0 12).toNatClampNeg) r148) 0 12 ((u144.1 0 12) + (1 : Int32))) 11 (((u144.1 0 12) + (1 : Int32)).toNatClampNeg) r156) 0 12 (((u144.1 0 12) + (1 : Int32)) + (1 : Int32)))) H := hP
  have hD : va_D A (mW ad N cI cZ cJ (wA (wA (wA (wA u144 11 ((u144.1 0 12).toNatClampNeg) r148) 0 12 ((u144.1 0 12) + (1 : Int32))) 11 (((u144.1 0 12) + (1 : Int32)).toNatClampNeg) r156) 0 12 (((u144.1 0 12) + (1 : Int32)) + (1 : Int32)))) := hD
  refine tp_i (y := ((u144.1 0 12) + (1 : Int32))) (rfl) ?_
  refine W.widen (k := 0) (n := 0) (Nat.le_refl _) (Nat.le_refl _) ?_
  refine lv_pop hx hb dX13_dividing_300 rfl ?_
  refine lv_aload_n hx hb dX13_dividing_301 rfl (lv_at hl 0 rfl) ?_
  refine lv_iconst (v := 5) hx hb dX13_dividing_302 (by decide) ?_
  refine lv_bipush (v := 29) hx hb dX13_dividing_303 (by decide) ?_
  refine lv_iconst (v := 0) hx hb dX13_dividing_305 (by decide) ?_
  refine lv_bipush (v := 8) hx hb dX13_dividing_306 (by decide) ?_
  refine cu_s (mW_nd _ _ _ _ _ _) (rn_S (n := 4) (As := [.int 5, .int 29, .int 0, .int 8]) (rest := [.ref (ad 0)]) hx hb hml hown ht hKK hFx hP hD hS hA (c_m_byB l dC dI cI cB cZ cJ cR tb H.size (5 : Int32) (29 : Int32) (0 : Int32) (8 : Int32) ) tw_85 tw_86 (by decide +kernel) rfl rfl ⟨Nat.le_of_ble_eq_true rfl, Nat.le_of_ble_eq_true rfl⟩ [] rfl rfl rfl hl.1 rfl (Nat.le_of_ble_eq_true rfl) dX13_dividing_308 ⟨Nat.le_of_ble_eq_true rfl, Nat.le_of_ble_eq_true rfl⟩) hP hD hS hA (fun r163 H locs hw161 hP hD hS => ?_)
  have ex161 := hw161
  refine W.widen (k := 0) (n := 0) (Nat.le_refl _) (Nat.le_refl _) ?_
  refine cu_i (rn_V (n := 1) (As := [.int r163]) (rest := []) hx hb hml hown ht hKK hFx hP hD hS hA (c_m_emit l dC dI cI cB cZ cJ cR tb H.size ad N (wA (wA (wA (wA u144 11 ((u144.1 0 12).toNatClampNeg) r148) 0 12 ((u144.1 0 12) + (1 : Int32))) 11 (((u144.1 0 12) + (1 : Int32)).toNatClampNeg) r156) 0 12 (((u144.1 0 12) + (1 : Int32)) + (1 : Int32))) r163 (show 0 ≤ (((u144.1 0 12) + (1 : Int32)) + (1 : Int32)).toInt ∧ (((u144.1 0 12) + (1 : Int32)) + (1 : Int32)).toInt < 24000 from (om_3898685338 zw q25 q56 q87 q118 q149 z160))) tw_8 tw_9 (by decide +kernel) rfl rfl ⟨Nat.le_of_ble_eq_true rfl, Nat.le_of_ble_eq_true rfl⟩ (List.range (mW ad N cI cZ cJ (wA (wA (wA (wA u144 11 ((u144.1 0 12).toNatClampNeg) r148) 0 12 ((u144.1 0 12) + (1 : Int32))) 11 (((u144.1 0 12) + (1 : Int32)).toNatClampNeg) r156) 0 12 (((u144.1 0 12) + (1 : Int32)) + (1 : Int32)))).length) (rg_map _) (mW_nd _ _ _ _ _ _) rfl rfl rfl rfl hl.1 rfl (Nat.le_of_ble_eq_true rfl) dX13_dividing_311 ⟨Nat.le_of_ble_eq_true rfl, Nat.le_of_ble_eq_true rfl⟩) hP hD hS hA (fun r166 u165 H locs hw164 hP hD hS => ?_)
  obtain ⟨rfl, rfl⟩ := hw164
  have z167 : ((((u144.1 0 12) + (1 : Int32)) + (1 : Int32)) + (1 : Int32)).toInt = ((((u144.1 0 12).toInt) + (1 : Int)) + (1 : Int)) + (1 : Int) := add_z z160 (show (1 : Int32).toInt = (1 : Int) by decide) (om_72fb2319ff zw q25 q56 q87 q118 q149) (om_c74f5434e5 zw q25 q56 q87 q118 q149)
  have hP : va_P (dC, dI) vwCl (mW ad N cI cZ cJ (wA (wA (wA (wA (wA (wA u144 11 ((u144.1 0 12).toNatClampNeg) r148) 0 12 ((u144.1 0 12) + (1 : Int32))) 11 (((u144.1 0 12) + (1 : Int32)).toNatClampNeg) r156) 0 12 (((u144.1 0 12) + (1 : Int32)) + (1 : Int32))) 11 ((((u144.1 0 12) + (1 : Int32)) + (1 : Int32)).toNatClampNeg) r163) 0 12 ((((u144.1 0 12) + (1 : Int32)) + (1 : Int32)) + (1 : Int32)))) H := hP
  have hD : va_D A (mW ad N cI cZ cJ (wA (wA (wA (wA (wA (wA u144 11 ((u144.1 0 12).toNatClampNeg) r148) 0 12 ((u144.1 0 12) + (1 : Int32))) 11 (((u144.1 0 12) + (1 : Int32)).toNatClampNeg) r156) 0 12 (((u144.1 0 12) + (1 : Int32)) + (1 : Int32))) 11 ((((u144.1 0 12) + (1 : Int32)) + (1 : Int32)).toNatClampNeg) r163) 0 12 ((((u144.1 0 12) + (1 : Int32)) + (1 : Int32)) + (1 : Int32)))) := hD
  refine tp_i (y := (((u144.1 0 12) + (1 : Int32)) + (1 : Int32))) (rfl) ?_
  refine W.widen (k := 0) (n := 0) (Nat.le_refl _) (Nat.le_refl _) ?_
  refine lv_pop hx hb dX13_dividing_314 rfl ?_
  refine lv_aload_n hx hb dX13_dividing_315 rfl (lv_at hl 0 rfl) ?_
  refine lv_bipush (v := 32) hx hb dX13_dividing_316 (by decide) ?_
  refine lv_iconst (v := 0) hx hb dX13_dividing_318 (by decide) ?_
  refine lv_bipush (v := 10) hx hb dX13_dividing_319 (by decide) ?_
  refine lv_iconst (v := 0) hx hb dX13_dividing_321 (by decide) ?_
  refine lv_bipush (v := 10) hx hb dX13_dividing_322 (by decide) ?_
  refine cu_s (mW_nd _ _ _ _ _ _) (rn_S (n := 5) (As := [.int 32, .int 0, .int 10, .int 0, .int 10]) (rest := [.ref (ad 0)]) hx hb hml hown ht hKK hFx hP hD hS hA (c_m_byR l dC dI cI cB cZ cJ cR tb H.size (32 : Int32) (0 : Int32) (10 : Int32) (0 : Int32) (10 : Int32) ) tw_67 tw_68 (by decide +kernel) rfl rfl ⟨Nat.le_of_ble_eq_true rfl, Nat.le_of_ble_eq_true rfl⟩ [] rfl rfl rfl hl.1 rfl (Nat.le_of_ble_eq_true rfl) dX13_dividing_324 ⟨Nat.le_of_ble_eq_true rfl, Nat.le_of_ble_eq_true rfl⟩) hP hD hS hA (fun r170 H locs hw168 hP hD hS => ?_)
  have ex168 := hw168
  refine W.widen (k := 0) (n := 0) (Nat.le_refl _) (Nat.le_refl _) ?_
  refine cu_i (rn_V (n := 1) (As := [.int r170]) (rest := []) hx hb hml hown ht hKK hFx hP hD hS hA (c_m_emit l dC dI cI cB cZ cJ cR tb H.size ad N (wA (wA (wA (wA (wA (wA u144 11 ((u144.1 0 12).toNatClampNeg) r148) 0 12 ((u144.1 0 12) + (1 : Int32))) 11 (((u144.1 0 12) + (1 : Int32)).toNatClampNeg) r156) 0 12 (((u144.1 0 12) + (1 : Int32)) + (1 : Int32))) 11 ((((u144.1 0 12) + (1 : Int32)) + (1 : Int32)).toNatClampNeg) r163) 0 12 ((((u144.1 0 12) + (1 : Int32)) + (1 : Int32)) + (1 : Int32))) r170 (show 0 ≤ ((((u144.1 0 12) + (1 : Int32)) + (1 : Int32)) + (1 : Int32)).toInt ∧ ((((u144.1 0 12) + (1 : Int32)) + (1 : Int32)) + (1 : Int32)).toInt < 24000 from (om_99d4b6591d zw q25 q56 q87 q118 q149 z167))) tw_8 tw_9 (by decide +kernel) rfl rfl ⟨Nat.le_of_ble_eq_true rfl, Nat.le_of_ble_eq_true rfl⟩ (List.range (mW ad N cI cZ cJ (wA (wA (wA (wA (wA (wA u144 11 ((u144.1 0 12).toNatClampNeg) r148) 0 12 ((u144.1 0 12) + (1 : Int32))) 11 (((u144.1 0 12) + (1 : Int32)).toNatClampNeg) r156) 0 12 (((u144.1 0 12) + (1 : Int32)) + (1 : Int32))) 11 ((((u144.1 0 12) + (1 : Int32)) + (1 : Int32)).toNatClampNeg) r163) 0 12 ((((u144.1 0 12) + (1 : Int32)) + (1 : Int32)) + (1 : Int32)))).length) (rg_map _) (mW_nd _ _ _ _ _ _) rfl rfl rfl rfl hl.1 rfl (Nat.le_of_ble_eq_true rfl) dX13_dividing_327 ⟨Nat.le_of_ble_eq_true rfl, Nat.le_of_ble_eq_true rfl⟩) hP hD hS hA (fun r173 u172 H locs hw171 hP hD hS => ?_)
  obtain ⟨rfl, rfl⟩ := hw171
  have z174 : (((((u144.1 0 12) + (1 : Int32)) + (1 : Int32)) + (1 : Int32)) + (1 : Int32)).toInt = (((((u144.1 0 12).toInt) + (1 : Int)) + (1 : Int)) + (1 : Int)) + (1 : Int) := add_z z167 (show (1 : Int32).toInt = (1 : Int) by decide) (om_e88030ed2f zw q25 q56 q87 q118 q149) (om_4c02507385 zw q25 q56 q87 q118 q149)
  have hP : va_P (dC, dI) vwCl (mW ad N cI cZ cJ (wA (wA (wA (wA (wA (wA (wA (wA u144 11 ((u144.1 0 12).toNatClampNeg) r148) 0 12 ((u144.1 0 12) + (1 : Int32))) 11 (((u144.1 0 12) + (1 : Int32)).toNatClampNeg) r156) 0 12 (((u144.1 0 12) + (1 : Int32)) + (1 : Int32))) 11 ((((u144.1 0 12) + (1 : Int32)) + (1 : Int32)).toNatClampNeg) r163) 0 12 ((((u144.1 0 12) + (1 : Int32)) + (1 : Int32)) + (1 : Int32))) 11 (((((u144.1 0 12) + (1 : Int32)) + (1 : Int32)) + (1 : Int32)).toNatClampNeg) r170) 0 12 (((((u144.1 0 12) + (1 : Int32)) + (1 : Int32)) + (1 : Int32)) + (1 : Int32)))) H := hP
  have hD : va_D A (mW ad N cI cZ cJ (wA (wA (wA (wA (wA (wA (wA (wA u144 11 ((u144.1 0 12).toNatClampNeg) r148) 0 12 ((u144.1 0 12) + (1 : Int32))) 11 (((u144.1 0 12) + (1 : Int32)).toNatClampNeg) r156) 0 12 (((u144.1 0 12) + (1 : Int32)) + (1 : Int32))) 11 ((((u144.1 0 12) + (1 : Int32)) + (1 : Int32)).toNatClampNeg) r163) 0 12 ((((u144.1 0 12) + (1 : Int32)) + (1 : Int32)) + (1 : Int32))) 11 (((((u144.1 0 12) + (1 : Int32)) + (1 : Int32)) + (1 : Int32)).toNatClampNeg) r170) 0 12 (((((u144.1 0 12) + (1 : Int32)) + (1 : Int32)) + (1 : Int32)) + (1 : Int32)))) := hD
  refine tp_i (y := ((((u144.1 0 12) + (1 : Int32)) + (1 : Int32)) + (1 : Int32))) (rfl) ?_
  refine W.widen (k := 0) (n := 0) (Nat.le_refl _) (Nat.le_refl _) ?_
  obtain ⟨u175, hu176⟩ : ∃ z, z = (wA (wA (wA (wA (wA (wA (wA (wA u144 11 ((u144.1 0 12).toNatClampNeg) r148) 0 12 ((u144.1 0 12) + (1 : Int32))) 11 (((u144.1 0 12) + (1 : Int32)).toNatClampNeg) r156) 0 12 (((u144.1 0 12) + (1 : Int32)) + (1 : Int32))) 11 ((((u144.1 0 12) + (1 : Int32)) + (1 : Int32)).toNatClampNeg) r163) 0 12 ((((u144.1 0 12) + (1 : Int32)) + (1 : Int32)) + (1 : Int32))) 11 (((((u144.1 0 12) + (1 : Int32)) + (1 : Int32)) + (1 : Int32)).toNatClampNeg) r170) 0 12 (((((u144.1 0 12) + (1 : Int32)) + (1 : Int32)) + (1 : Int32)) + (1 : Int32))) := ⟨_, rfl⟩
  have fr176 : FG [12] [0, 11] u144 u175 := by rw [hu176]; exact (FG.f (FG.a (FG.f (FG.a (FG.f (FG.a (FG.f (FG.a (FG.rf _) ((u144.1 0 12).toNatClampNeg) r148 (by decide) (by decide)) ((u144.1 0 12) + (1 : Int32)) (by decide)) (((u144.1 0 12) + (1 : Int32)).toNatClampNeg) r156 (by decide) (by decide)) (((u144.1 0 12) + (1 : Int32)) + (1 : Int32)) (by decide)) ((((u144.1 0 12) + (1 : Int32)) + (1 : Int32)).toNatClampNeg) r163 (by decide) (by decide)) ((((u144.1 0 12) + (1 : Int32)) + (1 : Int32)) + (1 : Int32)) (by decide)) (((((u144.1 0 12) + (1 : Int32)) + (1 : Int32)) + (1 : Int32)).toNatClampNeg) r170 (by decide) (by decide)) (((((u144.1 0 12) + (1 : Int32)) + (1 : Int32)) + (1 : Int32)) + (1 : Int32)) (by decide))
  rw [← hu176] at hP hD
  refine lv_pop hx hb dX13_dividing_330 rfl ?_
  refine lv_aload_n hx hb dX13_dividing_331 rfl (lv_at hl 0 rfl) ?_
  refine lv_iconst (v := 5) hx hb dX13_dividing_332 (by decide) ?_
  refine lv_bipush (v := 30) hx hb dX13_dividing_333 (by decide) ?_
  refine lv_iconst (v := 0) hx hb dX13_dividing_335 (by decide) ?_
  refine lv_bipush (v := 8) hx hb dX13_dividing_336 (by decide) ?_
  refine cu_s (mW_nd _ _ _ _ _ _) (rn_S (n := 4) (As := [.int 5, .int 30, .int 0, .int 8]) (rest := [.ref (ad 0)]) hx hb hml hown ht hKK hFx hP hD hS hA (c_m_byB l dC dI cI cB cZ cJ cR tb H.size (5 : Int32) (30 : Int32) (0 : Int32) (8 : Int32) ) tw_85 tw_86 (by decide +kernel) rfl rfl ⟨Nat.le_of_ble_eq_true rfl, Nat.le_of_ble_eq_true rfl⟩ [] rfl rfl rfl hl.1 rfl (Nat.le_of_ble_eq_true rfl) dX13_dividing_338 ⟨Nat.le_of_ble_eq_true rfl, Nat.le_of_ble_eq_true rfl⟩) hP hD hS hA (fun r179 H locs hw177 hP hD hS => ?_)
  have ex177 := hw177
  refine W.widen (k := 0) (n := 0) (Nat.le_refl _) (Nat.le_refl _) ?_
  have q180 : (u175.1 0 12).toInt = ((((((u144.1 0 12).toInt) + (1 : Int)) + (1 : Int)) + (1 : Int)) + (1 : Int)) := by rw [hu176]; exact (show (((((u144.1 0 12) + (1 : Int32)) + (1 : Int32)) + (1 : Int32)) + (1 : Int32)).toInt = ((((((u144.1 0 12).toInt) + (1 : Int)) + (1 : Int)) + (1 : Int)) + (1 : Int)) from z174)
  refine cu_i (rn_V (n := 1) (As := [.int r179]) (rest := []) hx hb hml hown ht hKK hFx hP hD hS hA (c_m_emit l dC dI cI cB cZ cJ cR tb H.size ad N u175 r179 (show 0 ≤ (u175.1 0 12).toInt ∧ (u175.1 0 12).toInt < 24000 from (om_0fcc0266b9 zw q25 q56 q87 q118 q149 q180))) tw_8 tw_9 (by decide +kernel) rfl rfl ⟨Nat.le_of_ble_eq_true rfl, Nat.le_of_ble_eq_true rfl⟩ (List.range (mW ad N cI cZ cJ u175).length) (rg_map _) (mW_nd _ _ _ _ _ _) rfl rfl rfl rfl hl.1 rfl (Nat.le_of_ble_eq_true rfl) dX13_dividing_341 ⟨Nat.le_of_ble_eq_true rfl, Nat.le_of_ble_eq_true rfl⟩) hP hD hS hA (fun r183 u182 H locs hw181 hP hD hS => ?_)
  obtain ⟨rfl, rfl⟩ := hw181
  have z184 : ((u175.1 0 12) + (1 : Int32)).toInt = ((u175.1 0 12).toInt) + (1 : Int) := add_z rfl (show (1 : Int32).toInt = (1 : Int) by decide) (om_d8fb9cd6fa zw q25 q56 q87 q118 q149 q180) (om_307bec2952 zw q25 q56 q87 q118 q149 q180)
  have hP : va_P (dC, dI) vwCl (mW ad N cI cZ cJ (wA (wA u175 11 ((u175.1 0 12).toNatClampNeg) r179) 0 12 ((u175.1 0 12) + (1 : Int32)))) H := hP
  have hD : va_D A (mW ad N cI cZ cJ (wA (wA u175 11 ((u175.1 0 12).toNatClampNeg) r179) 0 12 ((u175.1 0 12) + (1 : Int32)))) := hD
  refine tp_i (y := (u175.1 0 12)) (rfl) ?_
  refine W.widen (k := 0) (n := 0) (Nat.le_refl _) (Nat.le_refl _) ?_
  refine lv_pop hx hb dX13_dividing_344 rfl ?_
  refine lv_aload_n hx hb dX13_dividing_345 rfl (lv_at hl 0 rfl) ?_
  refine lv_bipush (v := 32) hx hb dX13_dividing_346 (by decide) ?_
  refine lv_iconst (v := 0) hx hb dX13_dividing_348 (by decide) ?_
  refine lv_bipush (v := 6) hx hb dX13_dividing_349 (by decide) ?_
  refine lv_iconst (v := 0) hx hb dX13_dividing_351 (by decide) ?_
  refine lv_bipush (v := 6) hx hb dX13_dividing_352 (by decide) ?_
  refine cu_s (mW_nd _ _ _ _ _ _) (rn_S (n := 5) (As := [.int 32, .int 0, .int 6, .int 0, .int 6]) (rest := [.ref (ad 0)]) hx hb hml hown ht hKK hFx hP hD hS hA (c_m_byR l dC dI cI cB cZ cJ cR tb H.size (32 : Int32) (0 : Int32) (6 : Int32) (0 : Int32) (6 : Int32) ) tw_67 tw_68 (by decide +kernel) rfl rfl ⟨Nat.le_of_ble_eq_true rfl, Nat.le_of_ble_eq_true rfl⟩ [] rfl rfl rfl hl.1 rfl (Nat.le_of_ble_eq_true rfl) dX13_dividing_354 ⟨Nat.le_of_ble_eq_true rfl, Nat.le_of_ble_eq_true rfl⟩) hP hD hS hA (fun r187 H locs hw185 hP hD hS => ?_)
  have ex185 := hw185
  refine W.widen (k := 0) (n := 0) (Nat.le_refl _) (Nat.le_refl _) ?_
  refine cu_i (rn_V (n := 1) (As := [.int r187]) (rest := []) hx hb hml hown ht hKK hFx hP hD hS hA (c_m_emit l dC dI cI cB cZ cJ cR tb H.size ad N (wA (wA u175 11 ((u175.1 0 12).toNatClampNeg) r179) 0 12 ((u175.1 0 12) + (1 : Int32))) r187 (show 0 ≤ ((u175.1 0 12) + (1 : Int32)).toInt ∧ ((u175.1 0 12) + (1 : Int32)).toInt < 24000 from (om_1c7586c326 zw q25 q56 q87 q118 q149 q180 z184))) tw_8 tw_9 (by decide +kernel) rfl rfl ⟨Nat.le_of_ble_eq_true rfl, Nat.le_of_ble_eq_true rfl⟩ (List.range (mW ad N cI cZ cJ (wA (wA u175 11 ((u175.1 0 12).toNatClampNeg) r179) 0 12 ((u175.1 0 12) + (1 : Int32)))).length) (rg_map _) (mW_nd _ _ _ _ _ _) rfl rfl rfl rfl hl.1 rfl (Nat.le_of_ble_eq_true rfl) dX13_dividing_357 ⟨Nat.le_of_ble_eq_true rfl, Nat.le_of_ble_eq_true rfl⟩) hP hD hS hA (fun r190 u189 H locs hw188 hP hD hS => ?_)
  obtain ⟨rfl, rfl⟩ := hw188
  have z191 : (((u175.1 0 12) + (1 : Int32)) + (1 : Int32)).toInt = (((u175.1 0 12).toInt) + (1 : Int)) + (1 : Int) := add_z z184 (show (1 : Int32).toInt = (1 : Int) by decide) (om_3b6d60bb99 zw q25 q56 q87 q118 q149 q180) (om_ee71e38e7b zw q25 q56 q87 q118 q149 q180)
  have hP : va_P (dC, dI) vwCl (mW ad N cI cZ cJ (wA (wA (wA (wA u175 11 ((u175.1 0 12).toNatClampNeg) r179) 0 12 ((u175.1 0 12) + (1 : Int32))) 11 (((u175.1 0 12) + (1 : Int32)).toNatClampNeg) r187) 0 12 (((u175.1 0 12) + (1 : Int32)) + (1 : Int32)))) H := hP
  have hD : va_D A (mW ad N cI cZ cJ (wA (wA (wA (wA u175 11 ((u175.1 0 12).toNatClampNeg) r179) 0 12 ((u175.1 0 12) + (1 : Int32))) 11 (((u175.1 0 12) + (1 : Int32)).toNatClampNeg) r187) 0 12 (((u175.1 0 12) + (1 : Int32)) + (1 : Int32)))) := hD
  refine tp_i (y := ((u175.1 0 12) + (1 : Int32))) (rfl) ?_
  refine W.widen (k := 0) (n := 0) (Nat.le_refl _) (Nat.le_refl _) ?_
  refine lv_pop hx hb dX13_dividing_360 rfl ?_
  refine lv_aload_n hx hb dX13_dividing_361 rfl (lv_at hl 0 rfl) ?_
  refine lv_bipush (v := 103) hx hb dX13_dividing_362 (by decide) ?_
  refine lv_iconst (v := 0) hx hb dX13_dividing_364 (by decide) ?_
  refine lv_iconst (v := 0) hx hb dX13_dividing_365 (by decide) ?_
  refine lv_bipush (v := 28) hx hb dX13_dividing_366 (by decide) ?_
  refine lv_iconst (v := 0) hx hb dX13_dividing_368 (by decide) ?_
  refine cu_s (mW_nd _ _ _ _ _ _) (rn_S (n := 5) (As := [.int 103, .int 0, .int 0, .int 28, .int 0]) (rest := [.ref (ad 0)]) hx hb hml hown ht hKK hFx hP hD hS hA (c_m_byI l dC dI cI cB cZ cJ cR tb H.size (103 : Int32) (0 : Int32) (0 : Int32) (28 : Int32) (0 : Int32) ) tw_2 tw_3 (by decide +kernel) rfl rfl ⟨Nat.le_of_ble_eq_true rfl, Nat.le_of_ble_eq_true rfl⟩ [] rfl rfl rfl hl.1 rfl (Nat.le_of_ble_eq_true rfl) dX13_dividing_369 ⟨Nat.le_of_ble_eq_true rfl, Nat.le_of_ble_eq_true rfl⟩) hP hD hS hA (fun r194 H locs hw192 hP hD hS => ?_)
  have ex192 := hw192
  refine W.widen (k := 0) (n := 0) (Nat.le_refl _) (Nat.le_refl _) ?_
  refine cu_i (rn_V (n := 1) (As := [.int r194]) (rest := []) hx hb hml hown ht hKK hFx hP hD hS hA (c_m_emit l dC dI cI cB cZ cJ cR tb H.size ad N (wA (wA (wA (wA u175 11 ((u175.1 0 12).toNatClampNeg) r179) 0 12 ((u175.1 0 12) + (1 : Int32))) 11 (((u175.1 0 12) + (1 : Int32)).toNatClampNeg) r187) 0 12 (((u175.1 0 12) + (1 : Int32)) + (1 : Int32))) r194 (show 0 ≤ (((u175.1 0 12) + (1 : Int32)) + (1 : Int32)).toInt ∧ (((u175.1 0 12) + (1 : Int32)) + (1 : Int32)).toInt < 24000 from (om_1e8b730683 zw q25 q56 q87 q118 q149 q180 z191))) tw_8 tw_9 (by decide +kernel) rfl rfl ⟨Nat.le_of_ble_eq_true rfl, Nat.le_of_ble_eq_true rfl⟩ (List.range (mW ad N cI cZ cJ (wA (wA (wA (wA u175 11 ((u175.1 0 12).toNatClampNeg) r179) 0 12 ((u175.1 0 12) + (1 : Int32))) 11 (((u175.1 0 12) + (1 : Int32)).toNatClampNeg) r187) 0 12 (((u175.1 0 12) + (1 : Int32)) + (1 : Int32)))).length) (rg_map _) (mW_nd _ _ _ _ _ _) rfl rfl rfl rfl hl.1 rfl (Nat.le_of_ble_eq_true rfl) dX13_dividing_372 ⟨Nat.le_of_ble_eq_true rfl, Nat.le_of_ble_eq_true rfl⟩) hP hD hS hA (fun r197 u196 H locs hw195 hP hD hS => ?_)
  obtain ⟨rfl, rfl⟩ := hw195
  have z198 : ((((u175.1 0 12) + (1 : Int32)) + (1 : Int32)) + (1 : Int32)).toInt = ((((u175.1 0 12).toInt) + (1 : Int)) + (1 : Int)) + (1 : Int) := add_z z191 (show (1 : Int32).toInt = (1 : Int) by decide) (om_e5f7154b1d zw q25 q56 q87 q118 q149 q180) (om_4c424b60fa zw q25 q56 q87 q118 q149 q180)
  have hP : va_P (dC, dI) vwCl (mW ad N cI cZ cJ (wA (wA (wA (wA (wA (wA u175 11 ((u175.1 0 12).toNatClampNeg) r179) 0 12 ((u175.1 0 12) + (1 : Int32))) 11 (((u175.1 0 12) + (1 : Int32)).toNatClampNeg) r187) 0 12 (((u175.1 0 12) + (1 : Int32)) + (1 : Int32))) 11 ((((u175.1 0 12) + (1 : Int32)) + (1 : Int32)).toNatClampNeg) r194) 0 12 ((((u175.1 0 12) + (1 : Int32)) + (1 : Int32)) + (1 : Int32)))) H := hP
  have hD : va_D A (mW ad N cI cZ cJ (wA (wA (wA (wA (wA (wA u175 11 ((u175.1 0 12).toNatClampNeg) r179) 0 12 ((u175.1 0 12) + (1 : Int32))) 11 (((u175.1 0 12) + (1 : Int32)).toNatClampNeg) r187) 0 12 (((u175.1 0 12) + (1 : Int32)) + (1 : Int32))) 11 ((((u175.1 0 12) + (1 : Int32)) + (1 : Int32)).toNatClampNeg) r194) 0 12 ((((u175.1 0 12) + (1 : Int32)) + (1 : Int32)) + (1 : Int32)))) := hD
  refine tp_i (y := (((u175.1 0 12) + (1 : Int32)) + (1 : Int32))) (rfl) ?_
  refine W.widen (k := 0) (n := 0) (Nat.le_refl _) (Nat.le_refl _) ?_
  refine lv_pop hx hb dX13_dividing_375 rfl ?_
  exact W.vret hx hb hr (fun t ht9 hW => ⟨⟨(wA (wA (wA (wA (wA (wA u175 11 ((u175.1 0 12).toNatClampNeg) r179) 0 12 ((u175.1 0 12) + (1 : Int32))) 11 (((u175.1 0 12) + (1 : Int32)).toNatClampNeg) r187) 0 12 (((u175.1 0 12) + (1 : Int32)) + (1 : Int32))) 11 ((((u175.1 0 12) + (1 : Int32)) + (1 : Int32)).toNatClampNeg) r194) 0 12 ((((u175.1 0 12) + (1 : Int32)) + (1 : Int32)) + (1 : Int32))), rfl, ⟨(FG.f (FG.a (FG.f (FG.a (FG.f (FG.a (FG.tr (FG.tr (FG.tr (FG.tr (FG.tr (FG.tr (FG.rf _) (FG.up fr21 (by decide) (by decide))) (FG.up fr52 (by decide) (by decide))) (FG.up fr83 (by decide) (by decide))) (FG.up fr114 (by decide) (by decide))) (FG.up fr145 (by decide) (by decide))) (FG.up fr176 (by decide) (by decide))) ((u175.1 0 12).toNatClampNeg) r179 (by decide) (by decide)) ((u175.1 0 12) + (1 : Int32)) (by decide)) (((u175.1 0 12) + (1 : Int32)).toNatClampNeg) r187 (by decide) (by decide)) (((u175.1 0 12) + (1 : Int32)) + (1 : Int32)) (by decide)) ((((u175.1 0 12) + (1 : Int32)) + (1 : Int32)).toNatClampNeg) r194 (by decide) (by decide)) ((((u175.1 0 12) + (1 : Int32)) + (1 : Int32)) + (1 : Int32)) (by decide)), ⟨zw, r3, ex1, r11, ex8, u20, hu21, r24, ex22, r32, ex30, r39, ex37, r46, ex44, u51, hu52, r55, ex53, r63, ex61, r70, ex68, r77, ex75, u82, hu83, r86, ex84, r94, ex92, r101, ex99, r108, ex106, u113, hu114, r117, ex115, r125, ex123, r132, ex130, r139, ex137, u144, hu145, r148, ex146, r156, ex154, r163, ex161, r170, ex168, u175, hu176, r179, ex177, r187, ex185, r194, ex192, rfl⟩, (show ((((u175.1 0 12) + (1 : Int32)) + (1 : Int32)) + (1 : Int32)).toInt = (v.1 0 12).toInt + 26 from (om_e3d39c65e5 q25 q56 q87 q118 q149 q180 z198))⟩, by rw [ht9]; exact hP, hD⟩, hS.F ht9⟩) hS.2.2 dX13_dividing_376
theorem om_3eaedb8a3d {x0 : Int} (h0 : 0 ≤ x0 ∧ x0 ≤ 24000) : 0 ≤ (0 : Int) ∧ (0 : Int) ≤ x0 := by omega
theorem om_6c3e7ad1ef {x0 x1 : Int} (h0 : 0 ≤ x0 ∧ x0 ≤ 40) (h1 : x1 = x0) : 0 ≤ (0 : Int) ∧ (0 : Int) ≤ x1 := by omega
theorem om_3137645dc2 {x0 x1 x2 x3 : Int} (h0 : 0 ≤ x0 ∧ x0 ≤ 40) (h1 : x1 = x0) (h2 : x2 = x1) (h3 : x3 < x2) : x3 < 40 := by omega
theorem om_4cea6af128 {x0 : Int} (h0 : 0 ≤ x0 ∧ x0 ≤ 23900) : -2147483648 ≤ (x0) + (1 : Int) := by omega
theorem om_6db569d9cc {x0 : Int} (h0 : 0 ≤ x0 ∧ x0 ≤ 23900) : (x0) + (1 : Int) < 2147483648 := by omega
theorem om_2a681485c4 {x0 : Int} (h0 : 0 ≤ x0 ∧ x0 ≤ 23900) : 0 ≤ ((x0) + (1 : Int)) := by omega
theorem om_e344de1db4 {x0 : Int} (h0 : 0 ≤ x0 ∧ x0 ≤ 23900) : ((x0) + (1 : Int)) < 24000 := by omega
theorem om_e9c3cd0687 {x0 : Int} (h0 : 0 ≤ x0 ∧ x0 ≤ 23900) : -2147483648 ≤ (x0) + (2 : Int) := by omega
theorem om_8b05278b58 {x0 : Int} (h0 : 0 ≤ x0 ∧ x0 ≤ 23900) : (x0) + (2 : Int) < 2147483648 := by omega
theorem om_0172267fd7 {x0 : Int} (h0 : 0 ≤ x0 ∧ x0 ≤ 23900) : 0 ≤ ((x0) + (2 : Int)) := by omega
theorem om_3936608e7a {x0 : Int} (h0 : 0 ≤ x0 ∧ x0 ≤ 23900) : ((x0) + (2 : Int)) < 24000 := by omega
theorem om_a8944c555e {x0 x1 : Int} (h0 : 0 ≤ x0 ∧ x0 ≤ x1) : -2147483648 ≤ x0 + (1 : Int) := by omega
theorem om_4eb1e81aa2 {x0 x1 x2 : Int} (h0 : 0 ≤ x0 ∧ x0 ≤ 40) (h1 : x1 = x0) (h2 : 0 ≤ x2 ∧ x2 ≤ x1) : x2 + (1 : Int) < 2147483648 := by omega
theorem om_fc66311bc4 {x0 x1 x2 x3 : Int} (h0 : 0 ≤ x0 ∧ x0 ≤ x1) (h1 : x2 = x1) (h2 : x0 < x2) (h3 : x3 = x0 + (1 : Int)) : 0 ≤ x3 ∧ x3 ≤ x1 := by omega
theorem om_6a7d95371f {x0 x1 x2 : Int} (h0 : x0 = x1 + (1 : Int)) : x2 - x0 < x2 - x1 := by omega
theorem om_d402639af7 {x0 x1 x2 x3 : Int} (h0 : x0 = x1) (h1 : x2 = x0) (h2 : x3 < x2) : 0 < x1 - x3 := by omega
theorem om_c86b58f68a {x0 x1 x2 : Int} (h0 : 0 ≤ x0 ∧ x0 ≤ 24000) (h1 : x1 = x0) (h2 : x2 < x1) : x2 < 24000 := by omega
theorem om_9a455c31d6 {x0 x1 : Int} (h0 : 0 ≤ x0 ∧ x0 ≤ 24000) (h1 : x1 = x0) : -2147483648 ≤ (4 : Int) * (x1) := by omega
theorem om_8f6a4230b9 {x0 x1 : Int} (h0 : 0 ≤ x0 ∧ x0 ≤ 24000) (h1 : x1 = x0) : (4 : Int) * (x1) < 2147483648 := by omega
theorem om_33e50b7b9a {x0 x1 : Int} (h0 : x0 = 5 ∨ (0 ≤ x1 ∧ x1 < 60)) (h1 : x0 ≠ (5 : Int)) : 0 ≤ x1 := by omega
theorem om_b79823ef42 {x0 x1 : Int} (h0 : x0 = 5 ∨ (0 ≤ x1 ∧ x1 < 60)) (h1 : x0 ≠ (5 : Int)) : x1 < 60 := by omega
theorem om_ed77857f5b {x0 : Int} (h0 : 0 ≤ x0 ∧ x0 ≤ 60000) : -2147483648 ≤ (4 : Int) * (x0) := by omega
theorem om_72145aafb6 {x0 : Int} (h0 : 0 ≤ x0 ∧ x0 ≤ 60000) : (4 : Int) * (x0) < 2147483648 := by omega
theorem om_227735a4ae {x0 x1 x2 : Int} (h0 : 0 ≤ x0 ∧ x0 ≤ 24000) (h1 : x1 = x0) (h2 : 0 ≤ x2 ∧ x2 ≤ 60000) : -2147483648 ≤ ((4 : Int) * (x1)) + ((4 : Int) * (x2)) := by omega
theorem om_8dcef27134 {x0 x1 x2 : Int} (h0 : 0 ≤ x0 ∧ x0 ≤ 24000) (h1 : x1 = x0) (h2 : 0 ≤ x2 ∧ x2 ≤ 60000) : ((4 : Int) * (x1)) + ((4 : Int) * (x2)) < 2147483648 := by omega
theorem om_fe6bc79698 {x0 : Int} (h0 : 0 ≤ x0 ∧ x0 ≤ 23999) : 0 ≤ x0 := by omega
theorem om_454e662f0c {x0 : Int} (h0 : 0 ≤ x0 ∧ x0 ≤ 23999) : x0 < 24000 := by omega
theorem om_dca2dcfd0c {x0 x1 : Int} (h0 : 0 ≤ x0 ∧ x0 ≤ 24000) (h1 : 0 ≤ x1 ∧ x1 ≤ x0) : x1 + (1 : Int) < 2147483648 := by omega
theorem om_6b3904b74d {x0 x1 x2 : Int} (h0 : x0 = x1) (h1 : x2 < x0) : 0 < x1 - x2 := by omega
theorem om_ed5baa895c {x0 : Int} (h0 : 0 ≤ x0 ∧ x0 ≤ 23999) : 0 ≤ x0 ∧ x0 < 24000 := by omega
set_option maxHeartbeats 4000000 in
set_option maxRecDepth 100000 in
theorem c_m_addresses (l : Launch) (dC : Nat → ClassId) (dI : Nat → Nat → Nat) (cI cB cZ cJ cR : ClassId) (tb : Nat → Nat) (sz : Nat) (ad : Nat → Nat) (N : Nat) (v : MS)  (zw : 0 ≤ (v.1 0 12).toInt ∧ (v.1 0 12).toInt ≤ 24000) (zf : 0 ≤ (v.1 0 43).toInt ∧ (v.1 0 43).toInt ≤ 24000) (zfn : 0 ≤ (v.1 0 22).toInt ∧ (v.1 0 22).toInt ≤ 40) (a19 : AR 19 0 23900 v) (a25 : AR 25 0 60000 v) (a40 : AR 40 0 23999 v) (fx : FX v) : Met l yX13_addresses (Cond.code yX13_addresses cX13_addresses 4 none :: tw_W) ({ frames := 2, cells := 0, slots := 0, locals := 46 }) (pc_ (dC, dI) (tyS cI cB cZ cJ cR) tb (mW ad N cI cZ cJ v) sz [.ref (ad 0)]) (qv_ (dC, dI) (mW ad N cI cZ cJ v) sz (fun (u : MS) => FG [] [11] v u ∧ (Q_m_addresses v u)) (fun (u : MS) => (mW ad N cI cZ cJ u))) 0 0 (va_A (mW ad N cI cZ cJ v) sz) := by
  refine Met.ofW (cc := cX13_addresses) (maxL := 4) (ret := none) (by decide) rfl ?_
  intro p e s m args below meth c s₁ B hml hv
  obtain ⟨rfl, hsz, hP, hKK, hD0, hFx⟩ := hv
  have hK := hKK.1
  have hx := B.exec
  have hb := B.bytes
  have hr := B.returns
  have ht : ∀ w ∈ tw_W, w.before _ s = true := fun w h => atoms_spec (ws := Cond.code yX13_addresses cX13_addresses 4 none :: tw_W) B.pre w (List.mem_cons_of_mem _ h)
  have hown : s.vm.findClass RX13 = some m.cls := findClass_of_methodNamed B.named
  have hlocks := B.notSynchronized
  subst hsz
  unfold qv_
  have hD := hD0.self (sz := s.heap.size)
  generalize hAe : va_A (mW ad N cI cZ cJ v) s.heap.size = A at hD hFx ⊢
  have hA : ∀ q : Nat, s.heap.size ≤ q → A q := fun q h => by rw [← hAe]; exact Or.inr h
  have hS : va_S A s.heap s.heap [] := va_S.rf
  have hl := lv_entry ([.ref (ad 0)]) (n := 4) (Nat.le_of_ble_eq_true rfl)
  rw [lg_entry_eq]
  generalize (lg_sl ([.ref (ad 0)]) ++ List.replicate (4 - (lg_sl ([.ref (ad 0)])).length) Slot.unset).toArray = ls at hl ⊢
  have hl : lv_has ls 4 [(0, .ref (ad 0))] := hl
  refine lv_iconst (v := 0) hx hb dX13_addresses_0 (by decide) ?_
  refine lv_istore_n (lv' := [(1, .int 0), (0, .ref (ad 0))]) hx hb dX13_addresses_1 rfl hl (by decide) rfl (fun ls hl => ?_)
  refine lpm_ (X := Int32 × MS) (P := (fun (x9 : Int32 × MS) (H : Heap) (locs : List Loc) (ls : Array Slot) => (FG [] [11] v x9.2) ∧ (0 ≤ x9.1.toInt ∧ x9.1.toInt ≤ (v.1 0 43).toInt) ∧ (RT (Q_m_addresses_L0 v) (0, v) (x9.1, x9.2)) ∧ va_P (dC, dI) vwCl (mW ad N cI cZ cJ x9.2) H ∧ va_D A (mW ad N cI cZ cJ x9.2) ∧ va_S A s.heap H locs ∧ lv_has ls 4 [(1, .int x9.1), (0, .ref (ad 0))])) (fun x9 => ((v.1 0 43).toInt - x9.1.toInt).toNat) 2 (fun x9 H locs ls hh ih2 => ?_) (0, v) _ _ _ ⟨(show FG [] [11] v v from (FG.rf _)), (show 0 ≤ (0 : Int) ∧ (0 : Int) ≤ (v.1 0 43).toInt from (om_3eaedb8a3d zf)), RT.rf, hP, hD, hS, lv_sub hl [0, 1] rfl⟩
  obtain ⟨ka, w2⟩ := x9
  obtain ⟨fwL2, e1L2, exL2, hP, hD, hS, hl⟩ := hh
  have fwL2 : FG [] [11] v w2 := fwL2
  have e1L2 : 0 ≤ ka.toInt ∧ ka.toInt ≤ (v.1 0 43).toInt := e1L2
  have hP : va_P (dC, dI) vwCl (mW ad N cI cZ cJ w2) H := hP
  have hD : va_D A (mW ad N cI cZ cJ w2) := hD
  have hl : lv_has ls 4 [(1, .int ka), (0, .ref (ad 0))] := hl
  refine lv_iload_n hx hb dX13_addresses_2 rfl (lv_at hl 0 rfl) ?_
  refine lv_aload_n hx hb dX13_addresses_3 rfl (lv_at hl 1 rfl) ?_
  refine va_get (D := (dC, dI)) (ci := 16) (fs := mF ad w2) (v := .int (w2.1 0 43)) (C := RX13) (T := TX13) (N := 124) hx hb ht itX13 hown hK hP 0 rfl rfl 43 (by decide) (ht _ tw_14) (fun _ h9 => h9) rfl dX13_addresses_4 ?_
  refine lv_icmp_ge (tgt := 159) hx hb dX13_addresses_7 (by decide) (fun h1 => ?_) (fun h1 => ?_)
  · have z2 : (w2.1 0 43).toInt ≤ ka.toInt := le_z rfl rfl h1
    refine lv_iconst (v := 0) hx hb dX13_addresses_159 (by decide) ?_
    refine lv_istore_n (lv' := [(1, .int 0), (0, .ref (ad 0))]) hx hb dX13_addresses_160 rfl hl (by decide) rfl (fun ls hl => ?_)
    have q3 : (w2.1 0 22).toInt = (v.1 0 22).toInt := congrArg Int32.toInt ((fwL2.2.1 22 (by decide)).trans (show v.1 0 22 = (v.1 0 22) by rfl))
    refine lpm_ (X := Int32 × MS) (P := (fun (x9 : Int32 × MS) (H : Heap) (locs : List Loc) (ls : Array Slot) => (FG [] [11] w2 x9.2) ∧ (0 ≤ x9.1.toInt ∧ x9.1.toInt ≤ (w2.1 0 22).toInt) ∧ (RT (Q_m_addresses_L1 w2) (0, w2) (x9.1, x9.2)) ∧ va_P (dC, dI) vwCl (mW ad N cI cZ cJ x9.2) H ∧ va_D A (mW ad N cI cZ cJ x9.2) ∧ va_S A s.heap H locs ∧ lv_has ls 4 [(1, .int x9.1), (0, .ref (ad 0))])) (fun x9 => ((v.1 0 22).toInt - x9.1.toInt).toNat) 161 (fun x9 H locs ls hh ih161 => ?_) (0, w2) _ _ _ ⟨(show FG [] [11] w2 w2 from (FG.rf _)), (show 0 ≤ (0 : Int) ∧ (0 : Int) ≤ (w2.1 0 22).toInt from (om_6c3e7ad1ef zfn q3)), RT.rf, hP, hD, hS, lv_sub hl [0, 1] rfl⟩
    obtain ⟨kb, w161⟩ := x9
    obtain ⟨fwL161, e1L161, exL161, hP, hD, hS, hl⟩ := hh
    have fwL161 : FG [] [11] w2 w161 := fwL161
    have e1L161 : 0 ≤ kb.toInt ∧ kb.toInt ≤ (w2.1 0 22).toInt := e1L161
    have hP : va_P (dC, dI) vwCl (mW ad N cI cZ cJ w161) H := hP
    have hD : va_D A (mW ad N cI cZ cJ w161) := hD
    have hl : lv_has ls 4 [(1, .int kb), (0, .ref (ad 0))] := hl
    refine lv_iload_n hx hb dX13_addresses_161 rfl (lv_at hl 0 rfl) ?_
    refine lv_aload_n hx hb dX13_addresses_162 rfl (lv_at hl 1 rfl) ?_
    refine va_get (D := (dC, dI)) (ci := 16) (fs := mF ad w161) (v := .int (w161.1 0 22)) (C := RX13) (T := TX13) (N := 124) hx hb ht itX13 hown hK hP 0 rfl rfl 22 (by decide) (ht _ tw_50) (fun _ h9 => h9) rfl dX13_addresses_163 ?_
    refine lv_icmp_ge (tgt := 227) hx hb dX13_addresses_166 (by decide) (fun h4 => ?_) (fun h4 => ?_)
    · have z5 : (w161.1 0 22).toInt ≤ kb.toInt := le_z rfl rfl h4
      exact W.vret hx hb hr (fun t ht9 hW => ⟨⟨w161, rfl, ⟨(FG.tr (FG.tr (FG.rf _) (FG.up fwL2 (by decide) (by decide))) (FG.up fwL161 (by decide) (by decide))), ⟨zw, zf, zfn, ka, w2, exL2, fwL2, e1L2, z2, kb, w161, exL161, fwL161, e1L161, z5, rfl⟩⟩, by rw [ht9]; exact hP, hD⟩, hS.F ht9⟩) hS.2.2 dX13_addresses_227
    · have z6 : kb.toInt < (w161.1 0 22).toInt := nle_z rfl rfl h4
      refine lv_aload_n hx hb dX13_addresses_169 rfl (lv_at hl 1 rfl) ?_
      refine va_get (D := (dC, dI)) (ci := 16) (fs := mF ad w161) (v := .ref (ad 11)) (C := RX13) (T := TX13) (N := 124) hx hb ht itX13 hown hK hP 0 rfl rfl 11 (by decide) (ht _ tw_6) (fun _ h9 => h9) rfl dX13_addresses_170 ?_
      refine lv_aload_n hx hb dX13_addresses_173 rfl (lv_at hl 1 rfl) ?_
      refine va_get (D := (dC, dI)) (ci := 16) (fs := mF ad w161) (v := .ref (ad 19)) (C := RX13) (T := TX13) (N := 124) hx hb ht itX13 hown hK hP 0 rfl rfl 19 (by decide) (ht _ tw_190) (fun _ h9 => h9) rfl dX13_addresses_174 ?_
      refine lv_iload_n hx hb dX13_addresses_177 rfl (lv_at hl 0 rfl) ?_
      have q7 : (w161.1 0 22).toInt = (w2.1 0 22).toInt := congrArg Int32.toInt ((fwL161.2.1 22 (by decide)).trans (show w2.1 0 22 = (w2.1 0 22) by rfl))
      refine va_iald (D := (dC, dI)) (f := (w161.1 19)) hx hb hK hP 14 0 rfl rfl (in_y (a := kb.toInt) (b := 40) rfl (om_ac00129bfc e1L161) (om_3137645dc2 zfn q3 q7 z6) rfl) dX13_addresses_178 ?_
      refine lv_iconst (v := 1) hx hb dX13_addresses_179 (by decide) ?_
      refine lv_iadd hx hb dX13_addresses_180 ?_
      have q8 : 0 ≤ ((w161.1 19) kb.toNatClampNeg).toInt ∧ ((w161.1 19) kb.toNatClampNeg).toInt ≤ 23900 := (show AR 19 0 23900 w161 from (show AR 19 0 23900 w161 from AR.fr (fl := []) (al := [11]) fwL161 (by decide) (show AR 19 0 23900 w2 from AR.fr (fl := []) (al := [11]) fwL2 (by decide) a19))) kb.toNatClampNeg
      have z9 : (((w161.1 19) kb.toNatClampNeg) + (1 : Int32)).toInt = (((w161.1 19) kb.toNatClampNeg).toInt) + (1 : Int) := add_z rfl (show (1 : Int32).toInt = (1 : Int) by decide) (om_4cea6af128 q8) (om_6db569d9cc q8)
      refine lv_bipush (v := 6) hx hb dX13_addresses_181 (by decide) ?_
      refine lv_aload_n hx hb dX13_addresses_183 rfl (lv_at hl 1 rfl) ?_
      refine va_get (D := (dC, dI)) (ci := 16) (fs := mF ad w161) (v := .int (w161.1 0 69)) (C := RX13) (T := TX13) (N := 124) hx hb ht itX13 hown hK hP 0 rfl rfl 69 (by decide) (ht _ tw_204) (fun _ h9 => h9) rfl dX13_addresses_184 ?_
      refine cu_s (mW_nd _ _ _ _ _ _) (rn_S (n := 1) (As := [.int (w161.1 0 69)]) (rest := [.int 6, .int (((w161.1 19) kb.toNatClampNeg) + (1 : Int32)), .ref (ad 11)]) hx hb hml hown ht hKK hFx hP hD hS hA (c_m_hi l dC dI cI cB cZ cJ cR tb H.size (w161.1 0 69) ) tw_0 tw_1 (by decide +kernel) rfl rfl ⟨Nat.le_of_ble_eq_true rfl, Nat.le_of_ble_eq_true rfl⟩ [] rfl rfl rfl hl.1 rfl (Nat.le_of_ble_eq_true rfl) dX13_addresses_187 ⟨Nat.le_of_ble_eq_true rfl, Nat.le_of_ble_eq_true rfl⟩) hP hD hS hA (fun r12 H locs hw10 hP hD hS => ?_)
      have ex10 := hw10
      refine W.widen (k := 0) (n := 0) (Nat.le_refl _) (Nat.le_refl _) ?_
      refine cu_s (mW_nd _ _ _ _ _ _) (rn_S (n := 2) (As := [.int 6, .int r12]) (rest := [.int (((w161.1 19) kb.toNatClampNeg) + (1 : Int32)), .ref (ad 11)]) hx hb hml hown ht hKK hFx hP hD hS hA (c_m_lui l dC dI cI cB cZ cJ cR tb H.size (6 : Int32) r12 ) tw_61 tw_62 (by decide +kernel) rfl rfl ⟨Nat.le_of_ble_eq_true rfl, Nat.le_of_ble_eq_true rfl⟩ [] rfl rfl rfl hl.1 rfl (Nat.le_of_ble_eq_true rfl) dX13_addresses_190 ⟨Nat.le_of_ble_eq_true rfl, Nat.le_of_ble_eq_true rfl⟩) hP hD hS hA (fun r15 H locs hw13 hP hD hS => ?_)
      have ex13 := hw13
      refine W.widen (k := 0) (n := 0) (Nat.le_refl _) (Nat.le_refl _) ?_
      refine va_iast (D := (dC, dI)) (f := (w161.1 11)) hx hb hK hP hD hS 8 0 rfl rfl (in_y (a := ((((w161.1 19) kb.toNatClampNeg).toInt) + (1 : Int))) (b := 24000) z9 (om_2a681485c4 q8) (om_e344de1db4 q8) rfl) dX13_addresses_193 (fun H locs hP hD hS => ?_)
      have hP := cP_ (ma_11 ad N cI cZ cJ w161 ((((w161.1 19) kb.toNatClampNeg) + (1 : Int32)).toNatClampNeg) r15) hP
      have hD := cD_ (ma_11 ad N cI cZ cJ w161 ((((w161.1 19) kb.toNatClampNeg) + (1 : Int32)).toNatClampNeg) r15) hD
      refine lv_aload_n hx hb dX13_addresses_194 rfl (lv_at hl 1 rfl) ?_
      refine va_get (D := (dC, dI)) (ci := 16) (fs := mF ad (wA w161 11 ((((w161.1 19) kb.toNatClampNeg) + (1 : Int32)).toNatClampNeg) r15)) (v := .ref (ad 11)) (C := RX13) (T := TX13) (N := 124) hx hb ht itX13 hown hK hP 0 rfl rfl 11 (by decide) (ht _ tw_6) (fun _ h9 => h9) rfl dX13_addresses_195 ?_
      refine lv_aload_n hx hb dX13_addresses_198 rfl (lv_at hl 1 rfl) ?_
      refine va_get (D := (dC, dI)) (ci := 16) (fs := mF ad (wA w161 11 ((((w161.1 19) kb.toNatClampNeg) + (1 : Int32)).toNatClampNeg) r15)) (v := .ref (ad 19)) (C := RX13) (T := TX13) (N := 124) hx hb ht itX13 hown hK hP 0 rfl rfl 19 (by decide) (ht _ tw_190) (fun _ h9 => h9) rfl dX13_addresses_199 ?_
      refine lv_iload_n hx hb dX13_addresses_202 rfl (lv_at hl 0 rfl) ?_
      refine va_iald (D := (dC, dI)) (f := (w161.1 19)) hx hb hK hP 14 0 rfl rfl (in_y (a := kb.toInt) (b := 40) rfl (om_ac00129bfc e1L161) (om_3137645dc2 zfn q3 q7 z6) rfl) dX13_addresses_203 ?_
      refine lv_iconst (v := 2) hx hb dX13_addresses_204 (by decide) ?_
      refine lv_iadd hx hb dX13_addresses_205 ?_
      have z16 : (((w161.1 19) kb.toNatClampNeg) + (2 : Int32)).toInt = (((w161.1 19) kb.toNatClampNeg).toInt) + (2 : Int) := add_z rfl (show (2 : Int32).toInt = (2 : Int) by decide) (om_e9c3cd0687 q8) (om_8b05278b58 q8)
      refine lv_bipush (v := 6) hx hb dX13_addresses_206 (by decide) ?_
      refine lv_bipush (v := 6) hx hb dX13_addresses_208 (by decide) ?_
      refine lv_aload_n hx hb dX13_addresses_210 rfl (lv_at hl 1 rfl) ?_
      refine va_get (D := (dC, dI)) (ci := 16) (fs := mF ad (wA w161 11 ((((w161.1 19) kb.toNatClampNeg) + (1 : Int32)).toNatClampNeg) r15)) (v := .int (w161.1 0 69)) (C := RX13) (T := TX13) (N := 124) hx hb ht itX13 hown hK hP 0 rfl rfl 69 (by decide) (ht _ tw_204) (fun _ h9 => h9) rfl dX13_addresses_211 ?_
      refine cu_s (mW_nd _ _ _ _ _ _) (rn_S (n := 1) (As := [.int (w161.1 0 69)]) (rest := [.int 6, .int 6, .int (((w161.1 19) kb.toNatClampNeg) + (2 : Int32)), .ref (ad 11)]) hx hb hml hown ht hKK hFx hP hD hS hA (c_m_lo l dC dI cI cB cZ cJ cR tb H.size (w161.1 0 69) ) tw_63 tw_64 (by decide +kernel) rfl rfl ⟨Nat.le_of_ble_eq_true rfl, Nat.le_of_ble_eq_true rfl⟩ [] rfl rfl rfl hl.1 rfl (Nat.le_of_ble_eq_true rfl) dX13_addresses_214 ⟨Nat.le_of_ble_eq_true rfl, Nat.le_of_ble_eq_true rfl⟩) hP hD hS hA (fun r19 H locs hw17 hP hD hS => ?_)
      have ex17 := hw17
      refine W.widen (k := 0) (n := 0) (Nat.le_refl _) (Nat.le_refl _) ?_
      refine cu_s (mW_nd _ _ _ _ _ _) (rn_S (n := 3) (As := [.int 6, .int 6, .int r19]) (rest := [.int (((w161.1 19) kb.toNatClampNeg) + (2 : Int32)), .ref (ad 11)]) hx hb hml hown ht hKK hFx hP hD hS hA (c_m_addi l dC dI cI cB cZ cJ cR tb H.size (6 : Int32) (6 : Int32) r19 ) tw_65 tw_66 (by decide +kernel) rfl rfl ⟨Nat.le_of_ble_eq_true rfl, Nat.le_of_ble_eq_true rfl⟩ [] rfl rfl rfl hl.1 rfl (Nat.le_of_ble_eq_true rfl) dX13_addresses_217 ⟨Nat.le_of_ble_eq_true rfl, Nat.le_of_ble_eq_true rfl⟩) hP hD hS hA (fun r22 H locs hw20 hP hD hS => ?_)
      have ex20 := hw20
      refine W.widen (k := 0) (n := 0) (Nat.le_refl _) (Nat.le_refl _) ?_
      refine va_iast (D := (dC, dI)) (f := (upd (w161.1 11) ((((w161.1 19) kb.toNatClampNeg) + (1 : Int32)).toNatClampNeg) r15)) hx hb hK hP hD hS 8 0 rfl rfl (in_y (a := ((((w161.1 19) kb.toNatClampNeg).toInt) + (2 : Int))) (b := 24000) z16 (om_0172267fd7 q8) (om_3936608e7a q8) rfl) dX13_addresses_220 (fun H locs hP hD hS => ?_)
      have hP := cP_ (ma_11 ad N cI cZ cJ (wA w161 11 ((((w161.1 19) kb.toNatClampNeg) + (1 : Int32)).toNatClampNeg) r15) ((((w161.1 19) kb.toNatClampNeg) + (2 : Int32)).toNatClampNeg) r22) hP
      have hD := cD_ (ma_11 ad N cI cZ cJ (wA w161 11 ((((w161.1 19) kb.toNatClampNeg) + (1 : Int32)).toNatClampNeg) r15) ((((w161.1 19) kb.toNatClampNeg) + (2 : Int32)).toNatClampNeg) r22) hD
      refine lv_iinc (v := (kb + (1 : Int32))) (lv' := [(1, .int (kb + (1 : Int32))), (0, .ref (ad 0))]) hx hb dX13_addresses_221 hl (k := 0) rfl (rfl) (by decide) rfl (fun ls hl => ?_)
      have z23 : (kb + (1 : Int32)).toInt = kb.toInt + (1 : Int) := add_z rfl (show (1 : Int32).toInt = (1 : Int) by decide) (om_a8944c555e e1L161) (om_4eb1e81aa2 zfn q3 e1L161)
      refine lv_goto (tgt := 161) hx hb dX13_addresses_224 (by decide) ?_
      exact ih161 ((kb + (1 : Int32)), (wA (wA w161 11 ((((w161.1 19) kb.toNatClampNeg) + (1 : Int32)).toNatClampNeg) r15) 11 ((((w161.1 19) kb.toNatClampNeg) + (2 : Int32)).toNatClampNeg) r22)) _ _ _ (show ((v.1 0 22).toInt - (kb + (1 : Int32)).toInt).toNat < ((v.1 0 22).toInt - kb.toInt).toNat from tn_z (om_6a7d95371f z23) (om_d402639af7 q3 q7 z6)) ⟨(show FG [] [11] w2 (wA (wA w161 11 ((((w161.1 19) kb.toNatClampNeg) + (1 : Int32)).toNatClampNeg) r15) 11 ((((w161.1 19) kb.toNatClampNeg) + (2 : Int32)).toNatClampNeg) r22) from (FG.a (FG.a (FG.tr (FG.rf _) (FG.up fwL161 (by decide) (by decide))) ((((w161.1 19) kb.toNatClampNeg) + (1 : Int32)).toNatClampNeg) r15 (by decide) (by decide)) ((((w161.1 19) kb.toNatClampNeg) + (2 : Int32)).toNatClampNeg) r22 (by decide) (by decide))), (show 0 ≤ (kb + (1 : Int32)).toInt ∧ (kb + (1 : Int32)).toInt ≤ (w2.1 0 22).toInt from (om_fc66311bc4 e1L161 q7 z6 z23)), (RT.st exL161 ⟨fwL161, e1L161, z6, r12, ex10, r15, ex13, r19, ex17, r22, ex20, rfl⟩), hP, hD, hS, lv_sub hl [0, 1] rfl⟩
  · have z24 : ka.toInt < (w2.1 0 43).toInt := nle_z rfl rfl h1
    refine lv_aload_n hx hb dX13_addresses_10 rfl (lv_at hl 1 rfl) ?_
    refine va_get (D := (dC, dI)) (ci := 16) (fs := mF ad w2) (v := .ref (ad 40)) (C := RX13) (T := TX13) (N := 124) hx hb ht itX13 hown hK hP 0 rfl rfl 40 (by decide) (ht _ tw_13) (fun _ h9 => h9) rfl dX13_addresses_11 ?_
    refine lv_iload_n hx hb dX13_addresses_14 rfl (lv_at hl 0 rfl) ?_
    have q25 : (w2.1 0 43).toInt = (v.1 0 43).toInt := congrArg Int32.toInt ((fwL2.2.1 43 (by decide)).trans (show v.1 0 43 = (v.1 0 43) by rfl))
    refine va_iald (D := (dC, dI)) (f := (w2.1 40)) hx hb hK hP 26 0 rfl rfl (in_y (a := ka.toInt) (b := 24000) rfl (om_ac00129bfc e1L2) (om_c86b58f68a zf q25 z24) rfl) dX13_addresses_15 ?_
    refine lv_istore_n (lv' := [(2, .int ((w2.1 40) ka.toNatClampNeg)), (1, .int ka), (0, .ref (ad 0))]) hx hb dX13_addresses_16 rfl hl (by decide) rfl (fun ls hl => ?_)
    refine lv_aload_n hx hb dX13_addresses_17 rfl (lv_at hl 2 rfl) ?_
    refine va_get (D := (dC, dI)) (ci := 16) (fs := mF ad w2) (v := .ref (ad 42)) (C := RX13) (T := TX13) (N := 124) hx hb ht itX13 hown hK hP 0 rfl rfl 42 (by decide) (ht _ tw_16) (fun _ h9 => h9) rfl dX13_addresses_18 ?_
    refine lv_iload_n hx hb dX13_addresses_21 rfl (lv_at hl 1 rfl) ?_
    refine va_iald (D := (dC, dI)) (f := (w2.1 42)) hx hb hK hP 28 0 rfl rfl (in_y (a := ka.toInt) (b := 24000) rfl (om_ac00129bfc e1L2) (om_c86b58f68a zf q25 z24) rfl) dX13_addresses_22 ?_
    refine lv_iconst (v := 5) hx hb dX13_addresses_23 (by decide) ?_
    refine lv_icmp_ne (tgt := 58) hx hb dX13_addresses_24 (by decide) (fun h26 => ?_) (fun h26 => ?_)
    · have z27 : ((w2.1 42) ka.toNatClampNeg).toInt ≠ (5 : Int) := ne_z rfl (show (5 : Int32).toInt = (5 : Int) by decide) h26
      refine lv_iconst (v := 4) hx hb dX13_addresses_58 (by decide) ?_
      refine lv_aload_n hx hb dX13_addresses_59 rfl (lv_at hl 2 rfl) ?_
      refine va_get (D := (dC, dI)) (ci := 16) (fs := mF ad w2) (v := .int (w2.1 0 12)) (C := RX13) (T := TX13) (N := 124) hx hb ht itX13 hown hK hP 0 rfl rfl 12 (by decide) (ht _ tw_7) (fun _ h9 => h9) rfl dX13_addresses_60 ?_
      refine lv_imul hx hb dX13_addresses_63 ?_
      have q28 : (w2.1 0 12).toInt = (v.1 0 12).toInt := congrArg Int32.toInt ((fwL2.2.1 12 (by decide)).trans (show v.1 0 12 = (v.1 0 12) by rfl))
      have z29 : ((4 : Int32) * (w2.1 0 12)).toInt = (4 : Int) * ((w2.1 0 12).toInt) := mul_z (show (4 : Int32).toInt = (4 : Int) by decide) rfl (om_9a455c31d6 zw q28) (om_8f6a4230b9 zw q28)
      refine lv_iconst (v := 4) hx hb dX13_addresses_64 (by decide) ?_
      refine lv_aload_n hx hb dX13_addresses_65 rfl (lv_at hl 2 rfl) ?_
      refine va_get (D := (dC, dI)) (ci := 16) (fs := mF ad w2) (v := .ref (ad 25)) (C := RX13) (T := TX13) (N := 124) hx hb ht itX13 hown hK hP 0 rfl rfl 25 (by decide) (ht _ tw_73) (fun _ h9 => h9) rfl dX13_addresses_66 ?_
      refine lv_aload_n hx hb dX13_addresses_69 rfl (lv_at hl 2 rfl) ?_
      refine va_get (D := (dC, dI)) (ci := 16) (fs := mF ad w2) (v := .ref (ad 41)) (C := RX13) (T := TX13) (N := 124) hx hb ht itX13 hown hK hP 0 rfl rfl 41 (by decide) (ht _ tw_15) (fun _ h9 => h9) rfl dX13_addresses_70 ?_
      refine lv_iload_n hx hb dX13_addresses_73 rfl (lv_at hl 1 rfl) ?_
      refine va_iald (D := (dC, dI)) (f := (w2.1 41)) hx hb hK hP 27 0 rfl rfl (in_y (a := ka.toInt) (b := 24000) rfl (om_ac00129bfc e1L2) (om_c86b58f68a zf q25 z24) rfl) dX13_addresses_74 ?_
      have q30 : ((w2.1 42) ka.toNatClampNeg).toInt = 5 ∨ (0 ≤ ((w2.1 41) ka.toNatClampNeg).toInt ∧ ((w2.1 41) ka.toNatClampNeg).toInt < 60) := (show FX w2 from (show FX w2 from FX.fr (fl := []) (al := [11]) fwL2 (by decide) (by decide) fx)) ka.toNatClampNeg
      refine va_iald (D := (dC, dI)) (f := (w2.1 25)) hx hb hK hP 19 0 rfl rfl (in_y (a := ((w2.1 41) ka.toNatClampNeg).toInt) (b := 60) rfl (om_33e50b7b9a q30 z27) (om_b79823ef42 q30 z27) rfl) dX13_addresses_75 ?_
      refine lv_imul hx hb dX13_addresses_76 ?_
      have q31 : 0 ≤ ((w2.1 25) ((w2.1 41) ka.toNatClampNeg).toNatClampNeg).toInt ∧ ((w2.1 25) ((w2.1 41) ka.toNatClampNeg).toNatClampNeg).toInt ≤ 60000 := (show AR 25 0 60000 w2 from (show AR 25 0 60000 w2 from AR.fr (fl := []) (al := [11]) fwL2 (by decide) a25)) (((w2.1 41) ka.toNatClampNeg).toNatClampNeg)
      have z32 : ((4 : Int32) * ((w2.1 25) ((w2.1 41) ka.toNatClampNeg).toNatClampNeg)).toInt = (4 : Int) * (((w2.1 25) ((w2.1 41) ka.toNatClampNeg).toNatClampNeg).toInt) := mul_z (show (4 : Int32).toInt = (4 : Int) by decide) rfl (om_ed77857f5b q31) (om_72145aafb6 q31)
      refine lv_iadd hx hb dX13_addresses_77 ?_
      have z33 : (((4 : Int32) * (w2.1 0 12)) + ((4 : Int32) * ((w2.1 25) ((w2.1 41) ka.toNatClampNeg).toNatClampNeg))).toInt = ((4 : Int) * ((w2.1 0 12).toInt)) + ((4 : Int) * (((w2.1 25) ((w2.1 41) ka.toNatClampNeg).toNatClampNeg).toInt)) := add_z z29 z32 (om_227735a4ae zw q28 q31) (om_8dcef27134 zw q28 q31)
      refine lv_istore_n (lv' := [(3, .int (((4 : Int32) * (w2.1 0 12)) + ((4 : Int32) * ((w2.1 25) ((w2.1 41) ka.toNatClampNeg).toNatClampNeg)))), (2, .int ((w2.1 40) ka.toNatClampNeg)), (1, .int ka), (0, .ref (ad 0))]) hx hb dX13_addresses_78 rfl hl (by decide) rfl (fun ls hl => ?_)
      refine lv_aload_n hx hb dX13_addresses_79 rfl (lv_at hl 3 rfl) ?_
      refine va_get (D := (dC, dI)) (ci := 16) (fs := mF ad w2) (v := .ref (ad 42)) (C := RX13) (T := TX13) (N := 124) hx hb ht itX13 hown hK hP 0 rfl rfl 42 (by decide) (ht _ tw_16) (fun _ h9 => h9) rfl dX13_addresses_80 ?_
      refine lv_iload_n hx hb dX13_addresses_83 rfl (lv_at hl 2 rfl) ?_
      refine va_iald (D := (dC, dI)) (f := (w2.1 42)) hx hb hK hP 28 0 rfl rfl (in_y (a := ka.toInt) (b := 24000) rfl (om_ac00129bfc e1L2) (om_c86b58f68a zf q25 z24) rfl) dX13_addresses_84 ?_
      refine lv_if_ne (tgt := 107) hx hb dX13_addresses_85 (by decide) (fun h34 => ?_) (fun h34 => ?_)
      · have z35 : ((w2.1 42) ka.toNatClampNeg).toInt ≠ (0 : Int) := ne_z rfl (show (0 : Int32).toInt = (0 : Int) by decide) h34
        refine lv_aload_n hx hb dX13_addresses_107 rfl (lv_at hl 3 rfl) ?_
        refine va_get (D := (dC, dI)) (ci := 16) (fs := mF ad w2) (v := .ref (ad 42)) (C := RX13) (T := TX13) (N := 124) hx hb ht itX13 hown hK hP 0 rfl rfl 42 (by decide) (ht _ tw_16) (fun _ h9 => h9) rfl dX13_addresses_108 ?_
        refine lv_iload_n hx hb dX13_addresses_111 rfl (lv_at hl 2 rfl) ?_
        refine va_iald (D := (dC, dI)) (f := (w2.1 42)) hx hb hK hP 28 0 rfl rfl (in_y (a := ka.toInt) (b := 24000) rfl (om_ac00129bfc e1L2) (om_c86b58f68a zf q25 z24) rfl) dX13_addresses_112 ?_
        refine lv_iconst (v := 2) hx hb dX13_addresses_113 (by decide) ?_
        refine lv_icmp_ne (tgt := 137) hx hb dX13_addresses_114 (by decide) (fun h36 => ?_) (fun h36 => ?_)
        · have z37 : ((w2.1 42) ka.toNatClampNeg).toInt ≠ (2 : Int) := ne_z rfl (show (2 : Int32).toInt = (2 : Int) by decide) h36
          refine lv_aload_n hx hb dX13_addresses_137 rfl (lv_at hl 3 rfl) ?_
          refine va_get (D := (dC, dI)) (ci := 16) (fs := mF ad w2) (v := .ref (ad 11)) (C := RX13) (T := TX13) (N := 124) hx hb ht itX13 hown hK hP 0 rfl rfl 11 (by decide) (ht _ tw_6) (fun _ h9 => h9) rfl dX13_addresses_138 ?_
          refine lv_iload_n hx hb dX13_addresses_141 rfl (lv_at hl 1 rfl) ?_
          refine lv_dup2_11 hx hb dX13_addresses_142 rfl rfl ?_
          have q38 : 0 ≤ ((w2.1 40) ka.toNatClampNeg).toInt ∧ ((w2.1 40) ka.toNatClampNeg).toInt ≤ 23999 := (show AR 40 0 23999 w2 from (show AR 40 0 23999 w2 from AR.fr (fl := []) (al := [11]) fwL2 (by decide) a40)) ka.toNatClampNeg
          refine va_iald (D := (dC, dI)) (f := (w2.1 11)) hx hb hK hP 8 0 rfl rfl (in_y (a := ((w2.1 40) ka.toNatClampNeg).toInt) (b := 24000) rfl (om_fe6bc79698 q38) (om_454e662f0c q38) rfl) dX13_addresses_143 ?_
          refine lv_iload_n hx hb dX13_addresses_144 rfl (lv_at hl 0 rfl) ?_
          refine cu_s (mW_nd _ _ _ _ _ _) (rn_S (n := 1) (As := [.int (((4 : Int32) * (w2.1 0 12)) + ((4 : Int32) * ((w2.1 25) ((w2.1 41) ka.toNatClampNeg).toNatClampNeg)))]) (rest := [.int ((w2.1 11) ((w2.1 40) ka.toNatClampNeg).toNatClampNeg), .int ((w2.1 40) ka.toNatClampNeg), .ref (ad 11)]) hx hb hml hown ht hKK hFx hP hD hS hA (c_m_lo l dC dI cI cB cZ cJ cR tb H.size (((4 : Int32) * (w2.1 0 12)) + ((4 : Int32) * ((w2.1 25) ((w2.1 41) ka.toNatClampNeg).toNatClampNeg))) ) tw_63 tw_64 (by decide +kernel) rfl rfl ⟨Nat.le_of_ble_eq_true rfl, Nat.le_of_ble_eq_true rfl⟩ [] rfl rfl rfl hl.1 rfl (Nat.le_of_ble_eq_true rfl) dX13_addresses_145 ⟨Nat.le_of_ble_eq_true rfl, Nat.le_of_ble_eq_true rfl⟩) hP hD hS hA (fun r41 H locs hw39 hP hD hS => ?_)
          have ex39 := hw39
          refine W.widen (k := 0) (n := 0) (Nat.le_refl _) (Nat.le_refl _) ?_
          refine lv_bipush (v := 20) hx hb dX13_addresses_148 (by decide) ?_
          refine lv_ishl hx hb dX13_addresses_150 ?_
          refine lv_ior hx hb dX13_addresses_151 ?_
          refine va_iast (D := (dC, dI)) (f := (w2.1 11)) hx hb hK hP hD hS 8 0 rfl rfl (in_y (a := ((w2.1 40) ka.toNatClampNeg).toInt) (b := 24000) rfl (om_fe6bc79698 q38) (om_454e662f0c q38) rfl) dX13_addresses_152 (fun H locs hP hD hS => ?_)
          have hP := cP_ (ma_11 ad N cI cZ cJ w2 (((w2.1 40) ka.toNatClampNeg).toNatClampNeg) (((w2.1 11) ((w2.1 40) ka.toNatClampNeg).toNatClampNeg) ||| (r41 <<< ((20 : Int32) &&& 31)))) hP
          have hD := cD_ (ma_11 ad N cI cZ cJ w2 (((w2.1 40) ka.toNatClampNeg).toNatClampNeg) (((w2.1 11) ((w2.1 40) ka.toNatClampNeg).toNatClampNeg) ||| (r41 <<< ((20 : Int32) &&& 31)))) hD
          refine lv_iinc (v := (ka + (1 : Int32))) (lv' := [(1, .int (ka + (1 : Int32))), (3, .int (((4 : Int32) * (w2.1 0 12)) + ((4 : Int32) * ((w2.1 25) ((w2.1 41) ka.toNatClampNeg).toNatClampNeg)))), (2, .int ((w2.1 40) ka.toNatClampNeg)), (0, .ref (ad 0))]) hx hb dX13_addresses_153 hl (k := 2) rfl (rfl) (by decide) rfl (fun ls hl => ?_)
          have z42 : (ka + (1 : Int32)).toInt = ka.toInt + (1 : Int) := add_z rfl (show (1 : Int32).toInt = (1 : Int) by decide) (om_a8944c555e e1L2) (om_dca2dcfd0c zf e1L2)
          refine lv_goto (tgt := 2) hx hb dX13_addresses_156 (by decide) ?_
          exact ih2 ((ka + (1 : Int32)), (wA w2 11 (((w2.1 40) ka.toNatClampNeg).toNatClampNeg) (((w2.1 11) ((w2.1 40) ka.toNatClampNeg).toNatClampNeg) ||| (r41 <<< ((20 : Int32) &&& 31))))) _ _ _ (show ((v.1 0 43).toInt - (ka + (1 : Int32)).toInt).toNat < ((v.1 0 43).toInt - ka.toInt).toNat from tn_z (om_6a7d95371f z42) (om_6b3904b74d q25 z24)) ⟨(show FG [] [11] v (wA w2 11 (((w2.1 40) ka.toNatClampNeg).toNatClampNeg) (((w2.1 11) ((w2.1 40) ka.toNatClampNeg).toNatClampNeg) ||| (r41 <<< ((20 : Int32) &&& 31)))) from (FG.a (FG.tr (FG.rf _) (FG.up fwL2 (by decide) (by decide))) (((w2.1 40) ka.toNatClampNeg).toNatClampNeg) (((w2.1 11) ((w2.1 40) ka.toNatClampNeg).toNatClampNeg) ||| (r41 <<< ((20 : Int32) &&& 31))) (by decide) (by decide))), (show 0 ≤ (ka + (1 : Int32)).toInt ∧ (ka + (1 : Int32)).toInt ≤ (v.1 0 43).toInt from (om_fc66311bc4 e1L2 q25 z24 z42)), (RT.st exL2 ⟨fwL2, e1L2, z24, (Or.inl ⟨z27, (Or.inl ⟨z35, (Or.inl ⟨z37, r41, ex39, rfl⟩)⟩)⟩)⟩), hP, hD, hS, lv_sub hl [0, 3] rfl⟩
        · have z43 : ((w2.1 42) ka.toNatClampNeg).toInt = (2 : Int) := eq_z rfl (show (2 : Int32).toInt = (2 : Int) by decide) h36
          refine lv_aload_n hx hb dX13_addresses_117 rfl (lv_at hl 3 rfl) ?_
          refine va_get (D := (dC, dI)) (ci := 16) (fs := mF ad w2) (v := .ref (ad 11)) (C := RX13) (T := TX13) (N := 124) hx hb ht itX13 hown hK hP 0 rfl rfl 11 (by decide) (ht _ tw_6) (fun _ h9 => h9) rfl dX13_addresses_118 ?_
          refine lv_iload_n hx hb dX13_addresses_121 rfl (lv_at hl 1 rfl) ?_
          refine lv_bipush (v := 10) hx hb dX13_addresses_122 (by decide) ?_
          refine lv_iload_n hx hb dX13_addresses_124 rfl (lv_at hl 0 rfl) ?_
          refine cu_s (mW_nd _ _ _ _ _ _) (rn_S (n := 1) (As := [.int (((4 : Int32) * (w2.1 0 12)) + ((4 : Int32) * ((w2.1 25) ((w2.1 41) ka.toNatClampNeg).toNatClampNeg)))]) (rest := [.int 10, .int ((w2.1 40) ka.toNatClampNeg), .ref (ad 11)]) hx hb hml hown ht hKK hFx hP hD hS hA (c_m_lo l dC dI cI cB cZ cJ cR tb H.size (((4 : Int32) * (w2.1 0 12)) + ((4 : Int32) * ((w2.1 25) ((w2.1 41) ka.toNatClampNeg).toNatClampNeg))) ) tw_63 tw_64 (by decide +kernel) rfl rfl ⟨Nat.le_of_ble_eq_true rfl, Nat.le_of_ble_eq_true rfl⟩ [] rfl rfl rfl hl.1 rfl (Nat.le_of_ble_eq_true rfl) dX13_addresses_125 ⟨Nat.le_of_ble_eq_true rfl, Nat.le_of_ble_eq_true rfl⟩) hP hD hS hA (fun r46 H locs hw44 hP hD hS => ?_)
          have ex44 := hw44
          refine W.widen (k := 0) (n := 0) (Nat.le_refl _) (Nat.le_refl _) ?_
          refine lv_bipush (v := 6) hx hb dX13_addresses_128 (by decide) ?_
          refine cu_s (mW_nd _ _ _ _ _ _) (rn_S (n := 3) (As := [.int 10, .int r46, .int 6]) (rest := [.int ((w2.1 40) ka.toNatClampNeg), .ref (ad 11)]) hx hb hml hown ht hKK hFx hP hD hS hA (c_m_sw l dC dI cI cB cZ cJ cR tb H.size (10 : Int32) r46 (6 : Int32) ) tw_76 tw_77 (by decide +kernel) rfl rfl ⟨Nat.le_of_ble_eq_true rfl, Nat.le_of_ble_eq_true rfl⟩ [] rfl rfl rfl hl.1 rfl (Nat.le_of_ble_eq_true rfl) dX13_addresses_130 ⟨Nat.le_of_ble_eq_true rfl, Nat.le_of_ble_eq_true rfl⟩) hP hD hS hA (fun r49 H locs hw47 hP hD hS => ?_)
          have ex47 := hw47
          refine W.widen (k := 0) (n := 0) (Nat.le_refl _) (Nat.le_refl _) ?_
          have q50 : 0 ≤ ((w2.1 40) ka.toNatClampNeg).toInt ∧ ((w2.1 40) ka.toNatClampNeg).toInt ≤ 23999 := (show AR 40 0 23999 w2 from (show AR 40 0 23999 w2 from AR.fr (fl := []) (al := [11]) fwL2 (by decide) a40)) ka.toNatClampNeg
          refine va_iast (D := (dC, dI)) (f := (w2.1 11)) hx hb hK hP hD hS 8 0 rfl rfl (in_y (a := ((w2.1 40) ka.toNatClampNeg).toInt) (b := 24000) rfl (om_fe6bc79698 q50) (om_454e662f0c q50) rfl) dX13_addresses_133 (fun H locs hP hD hS => ?_)
          have hP := cP_ (ma_11 ad N cI cZ cJ w2 (((w2.1 40) ka.toNatClampNeg).toNatClampNeg) r49) hP
          have hD := cD_ (ma_11 ad N cI cZ cJ w2 (((w2.1 40) ka.toNatClampNeg).toNatClampNeg) r49) hD
          refine lv_goto (tgt := 153) hx hb dX13_addresses_134 (by decide) ?_
          refine lv_iinc (v := (ka + (1 : Int32))) (lv' := [(1, .int (ka + (1 : Int32))), (3, .int (((4 : Int32) * (w2.1 0 12)) + ((4 : Int32) * ((w2.1 25) ((w2.1 41) ka.toNatClampNeg).toNatClampNeg)))), (2, .int ((w2.1 40) ka.toNatClampNeg)), (0, .ref (ad 0))]) hx hb dX13_addresses_153 hl (k := 2) rfl (rfl) (by decide) rfl (fun ls hl => ?_)
          have z51 : (ka + (1 : Int32)).toInt = ka.toInt + (1 : Int) := add_z rfl (show (1 : Int32).toInt = (1 : Int) by decide) (om_a8944c555e e1L2) (om_dca2dcfd0c zf e1L2)
          refine lv_goto (tgt := 2) hx hb dX13_addresses_156 (by decide) ?_
          exact ih2 ((ka + (1 : Int32)), (wA w2 11 (((w2.1 40) ka.toNatClampNeg).toNatClampNeg) r49)) _ _ _ (show ((v.1 0 43).toInt - (ka + (1 : Int32)).toInt).toNat < ((v.1 0 43).toInt - ka.toInt).toNat from tn_z (om_6a7d95371f z51) (om_6b3904b74d q25 z24)) ⟨(show FG [] [11] v (wA w2 11 (((w2.1 40) ka.toNatClampNeg).toNatClampNeg) r49) from (FG.a (FG.tr (FG.rf _) (FG.up fwL2 (by decide) (by decide))) (((w2.1 40) ka.toNatClampNeg).toNatClampNeg) r49 (by decide) (by decide))), (show 0 ≤ (ka + (1 : Int32)).toInt ∧ (ka + (1 : Int32)).toInt ≤ (v.1 0 43).toInt from (om_fc66311bc4 e1L2 q25 z24 z51)), (RT.st exL2 ⟨fwL2, e1L2, z24, (Or.inl ⟨z27, (Or.inl ⟨z35, (Or.inr (⟨z43, r46, ex44, r49, ex47, rfl⟩))⟩)⟩)⟩), hP, hD, hS, lv_sub hl [0, 3] rfl⟩
      · have z52 : ((w2.1 42) ka.toNatClampNeg).toInt = (0 : Int) := eq_z rfl (show (0 : Int32).toInt = (0 : Int) by decide) h34
        refine lv_aload_n hx hb dX13_addresses_88 rfl (lv_at hl 3 rfl) ?_
        refine va_get (D := (dC, dI)) (ci := 16) (fs := mF ad w2) (v := .ref (ad 11)) (C := RX13) (T := TX13) (N := 124) hx hb ht itX13 hown hK hP 0 rfl rfl 11 (by decide) (ht _ tw_6) (fun _ h9 => h9) rfl dX13_addresses_89 ?_
        refine lv_iload_n hx hb dX13_addresses_92 rfl (lv_at hl 1 rfl) ?_
        refine lv_dup2_11 hx hb dX13_addresses_93 rfl rfl ?_
        have q53 : 0 ≤ ((w2.1 40) ka.toNatClampNeg).toInt ∧ ((w2.1 40) ka.toNatClampNeg).toInt ≤ 23999 := (show AR 40 0 23999 w2 from (show AR 40 0 23999 w2 from AR.fr (fl := []) (al := [11]) fwL2 (by decide) a40)) ka.toNatClampNeg
        refine va_iald (D := (dC, dI)) (f := (w2.1 11)) hx hb hK hP 8 0 rfl rfl (in_y (a := ((w2.1 40) ka.toNatClampNeg).toInt) (b := 24000) rfl (om_fe6bc79698 q53) (om_454e662f0c q53) rfl) dX13_addresses_94 ?_
        refine lv_iload_n hx hb dX13_addresses_95 rfl (lv_at hl 0 rfl) ?_
        refine cu_s (mW_nd _ _ _ _ _ _) (rn_S (n := 1) (As := [.int (((4 : Int32) * (w2.1 0 12)) + ((4 : Int32) * ((w2.1 25) ((w2.1 41) ka.toNatClampNeg).toNatClampNeg)))]) (rest := [.int ((w2.1 11) ((w2.1 40) ka.toNatClampNeg).toNatClampNeg), .int ((w2.1 40) ka.toNatClampNeg), .ref (ad 11)]) hx hb hml hown ht hKK hFx hP hD hS hA (c_m_hi l dC dI cI cB cZ cJ cR tb H.size (((4 : Int32) * (w2.1 0 12)) + ((4 : Int32) * ((w2.1 25) ((w2.1 41) ka.toNatClampNeg).toNatClampNeg))) ) tw_0 tw_1 (by decide +kernel) rfl rfl ⟨Nat.le_of_ble_eq_true rfl, Nat.le_of_ble_eq_true rfl⟩ [] rfl rfl rfl hl.1 rfl (Nat.le_of_ble_eq_true rfl) dX13_addresses_96 ⟨Nat.le_of_ble_eq_true rfl, Nat.le_of_ble_eq_true rfl⟩) hP hD hS hA (fun r56 H locs hw54 hP hD hS => ?_)
        have ex54 := hw54
        refine W.widen (k := 0) (n := 0) (Nat.le_refl _) (Nat.le_refl _) ?_
        refine lv_bipush (v := 12) hx hb dX13_addresses_99 (by decide) ?_
        refine lv_ishl hx hb dX13_addresses_101 ?_
        refine lv_ior hx hb dX13_addresses_102 ?_
        refine va_iast (D := (dC, dI)) (f := (w2.1 11)) hx hb hK hP hD hS 8 0 rfl rfl (in_y (a := ((w2.1 40) ka.toNatClampNeg).toInt) (b := 24000) rfl (om_fe6bc79698 q53) (om_454e662f0c q53) rfl) dX13_addresses_103 (fun H locs hP hD hS => ?_)
        have hP := cP_ (ma_11 ad N cI cZ cJ w2 (((w2.1 40) ka.toNatClampNeg).toNatClampNeg) (((w2.1 11) ((w2.1 40) ka.toNatClampNeg).toNatClampNeg) ||| (r56 <<< ((12 : Int32) &&& 31)))) hP
        have hD := cD_ (ma_11 ad N cI cZ cJ w2 (((w2.1 40) ka.toNatClampNeg).toNatClampNeg) (((w2.1 11) ((w2.1 40) ka.toNatClampNeg).toNatClampNeg) ||| (r56 <<< ((12 : Int32) &&& 31)))) hD
        refine lv_goto (tgt := 153) hx hb dX13_addresses_104 (by decide) ?_
        refine lv_iinc (v := (ka + (1 : Int32))) (lv' := [(1, .int (ka + (1 : Int32))), (3, .int (((4 : Int32) * (w2.1 0 12)) + ((4 : Int32) * ((w2.1 25) ((w2.1 41) ka.toNatClampNeg).toNatClampNeg)))), (2, .int ((w2.1 40) ka.toNatClampNeg)), (0, .ref (ad 0))]) hx hb dX13_addresses_153 hl (k := 2) rfl (rfl) (by decide) rfl (fun ls hl => ?_)
        have z57 : (ka + (1 : Int32)).toInt = ka.toInt + (1 : Int) := add_z rfl (show (1 : Int32).toInt = (1 : Int) by decide) (om_a8944c555e e1L2) (om_dca2dcfd0c zf e1L2)
        refine lv_goto (tgt := 2) hx hb dX13_addresses_156 (by decide) ?_
        exact ih2 ((ka + (1 : Int32)), (wA w2 11 (((w2.1 40) ka.toNatClampNeg).toNatClampNeg) (((w2.1 11) ((w2.1 40) ka.toNatClampNeg).toNatClampNeg) ||| (r56 <<< ((12 : Int32) &&& 31))))) _ _ _ (show ((v.1 0 43).toInt - (ka + (1 : Int32)).toInt).toNat < ((v.1 0 43).toInt - ka.toInt).toNat from tn_z (om_6a7d95371f z57) (om_6b3904b74d q25 z24)) ⟨(show FG [] [11] v (wA w2 11 (((w2.1 40) ka.toNatClampNeg).toNatClampNeg) (((w2.1 11) ((w2.1 40) ka.toNatClampNeg).toNatClampNeg) ||| (r56 <<< ((12 : Int32) &&& 31)))) from (FG.a (FG.tr (FG.rf _) (FG.up fwL2 (by decide) (by decide))) (((w2.1 40) ka.toNatClampNeg).toNatClampNeg) (((w2.1 11) ((w2.1 40) ka.toNatClampNeg).toNatClampNeg) ||| (r56 <<< ((12 : Int32) &&& 31))) (by decide) (by decide))), (show 0 ≤ (ka + (1 : Int32)).toInt ∧ (ka + (1 : Int32)).toInt ≤ (v.1 0 43).toInt from (om_fc66311bc4 e1L2 q25 z24 z57)), (RT.st exL2 ⟨fwL2, e1L2, z24, (Or.inl ⟨z27, (Or.inr (⟨z52, r56, ex54, rfl⟩))⟩)⟩), hP, hD, hS, lv_sub hl [0, 3] rfl⟩
    · have z58 : ((w2.1 42) ka.toNatClampNeg).toInt = (5 : Int) := eq_z rfl (show (5 : Int32).toInt = (5 : Int) by decide) h26
      refine lv_aload_n hx hb dX13_addresses_27 rfl (lv_at hl 2 rfl) ?_
      refine lv_iload_n hx hb dX13_addresses_28 rfl (lv_at hl 0 rfl) ?_
      refine lv_bipush (v := 28) hx hb dX13_addresses_29 (by decide) ?_
      refine lv_aload_n hx hb dX13_addresses_31 rfl (lv_at hl 2 rfl) ?_
      refine va_get (D := (dC, dI)) (ci := 16) (fs := mF ad w2) (v := .ref (ad 41)) (C := RX13) (T := TX13) (N := 124) hx hb ht itX13 hown hK hP 0 rfl rfl 41 (by decide) (ht _ tw_15) (fun _ h9 => h9) rfl dX13_addresses_32 ?_
      refine lv_iload_n hx hb dX13_addresses_35 rfl (lv_at hl 1 rfl) ?_
      refine va_iald (D := (dC, dI)) (f := (w2.1 41)) hx hb hK hP 27 0 rfl rfl (in_y (a := ka.toInt) (b := 24000) rfl (om_ac00129bfc e1L2) (om_c86b58f68a zf q25 z24) rfl) dX13_addresses_36 ?_
      refine lv_iconst (v := -1) hx hb dX13_addresses_37 (by decide) ?_
      refine lv_icmp_ne (tgt := 48) hx hb dX13_addresses_38 (by decide) (fun h59 => ?_) (fun h59 => ?_)
      · have z60 : ((w2.1 41) ka.toNatClampNeg).toInt ≠ (-1 : Int) := ne_z rfl (show ((-1) : Int32).toInt = (-1 : Int) by decide) h59
        refine lv_aload_n hx hb dX13_addresses_48 rfl (lv_at hl 2 rfl) ?_
        refine va_get (D := (dC, dI)) (ci := 16) (fs := mF ad w2) (v := .int (w2.1 0 68)) (C := RX13) (T := TX13) (N := 124) hx hb ht itX13 hown hK hP 0 rfl rfl 68 (by decide) (ht _ tw_203) (fun _ h9 => h9) rfl dX13_addresses_49 ?_
        have q61 : 0 ≤ ((w2.1 40) ka.toNatClampNeg).toInt ∧ ((w2.1 40) ka.toNatClampNeg).toInt ≤ 23999 := (show AR 40 0 23999 w2 from (show AR 40 0 23999 w2 from AR.fr (fl := []) (al := [11]) fwL2 (by decide) a40)) ka.toNatClampNeg
        refine cu_v (rn_V (n := 3) (As := [.int ((w2.1 40) ka.toNatClampNeg), .int 28, .int (w2.1 0 68)]) (rest := []) hx hb hml hown ht hKK hFx hP hD hS hA (c_m_jump l dC dI cI cB cZ cJ cR tb H.size ad N w2 ((w2.1 40) ka.toNatClampNeg) (28 : Int32) (w2.1 0 68) (show 0 ≤ ((w2.1 40) ka.toNatClampNeg).toInt ∧ ((w2.1 40) ka.toNatClampNeg).toInt < 24000 from (om_ed5baa895c q61))) tw_126 tw_127 (by decide +kernel) rfl rfl ⟨Nat.le_of_ble_eq_true rfl, Nat.le_of_ble_eq_true rfl⟩ (List.range (mW ad N cI cZ cJ w2).length) (rg_map _) (mW_nd _ _ _ _ _ _) rfl rfl rfl rfl hl.1 rfl (Nat.le_of_ble_eq_true rfl) dX13_addresses_52 ⟨Nat.le_of_ble_eq_true rfl, Nat.le_of_ble_eq_true rfl⟩) hP hD hS hA (fun u63 H locs hw62 hP hD hS => ?_)
        obtain ⟨x65, rfl, ex62⟩ := hw62
        have hP : va_P (dC, dI) vwCl (mW ad N cI cZ cJ (wA w2 11 (((w2.1 40) ka.toNatClampNeg).toNatClampNeg) x65)) H := hP
        have hD : va_D A (mW ad N cI cZ cJ (wA w2 11 (((w2.1 40) ka.toNatClampNeg).toNatClampNeg) x65)) := hD
        refine W.widen (k := 0) (n := 0) (Nat.le_refl _) (Nat.le_refl _) ?_
        refine lv_goto (tgt := 153) hx hb dX13_addresses_55 (by decide) ?_
        refine lv_iinc (v := (ka + (1 : Int32))) (lv' := [(1, .int (ka + (1 : Int32))), (2, .int ((w2.1 40) ka.toNatClampNeg)), (0, .ref (ad 0))]) hx hb dX13_addresses_153 hl (k := 1) rfl (rfl) (by decide) rfl (fun ls hl => ?_)
        have z66 : (ka + (1 : Int32)).toInt = ka.toInt + (1 : Int) := add_z rfl (show (1 : Int32).toInt = (1 : Int) by decide) (om_a8944c555e e1L2) (om_dca2dcfd0c zf e1L2)
        refine lv_goto (tgt := 2) hx hb dX13_addresses_156 (by decide) ?_
        exact ih2 ((ka + (1 : Int32)), (wA w2 11 (((w2.1 40) ka.toNatClampNeg).toNatClampNeg) x65)) _ _ _ (show ((v.1 0 43).toInt - (ka + (1 : Int32)).toInt).toNat < ((v.1 0 43).toInt - ka.toInt).toNat from tn_z (om_6a7d95371f z66) (om_6b3904b74d q25 z24)) ⟨(show FG [] [11] v (wA w2 11 (((w2.1 40) ka.toNatClampNeg).toNatClampNeg) x65) from (FG.a (FG.tr (FG.rf _) (FG.up fwL2 (by decide) (by decide))) (((w2.1 40) ka.toNatClampNeg).toNatClampNeg) x65 (by decide) (by decide))), (show 0 ≤ (ka + (1 : Int32)).toInt ∧ (ka + (1 : Int32)).toInt ≤ (v.1 0 43).toInt from (om_fc66311bc4 e1L2 q25 z24 z66)), (RT.st exL2 ⟨fwL2, e1L2, z24, (Or.inr (⟨z58, (Or.inl ⟨z60, x65, ex62, rfl⟩)⟩))⟩), hP, hD, hS, lv_sub hl [0, 2] rfl⟩
      · have z67 : ((w2.1 41) ka.toNatClampNeg).toInt = (-1 : Int) := eq_z rfl (show ((-1) : Int32).toInt = (-1 : Int) by decide) h59
        refine lv_aload_n hx hb dX13_addresses_41 rfl (lv_at hl 2 rfl) ?_
        refine va_get (D := (dC, dI)) (ci := 16) (fs := mF ad w2) (v := .int (w2.1 0 67)) (C := RX13) (T := TX13) (N := 124) hx hb ht itX13 hown hK hP 0 rfl rfl 67 (by decide) (ht _ tw_202) (fun _ h9 => h9) rfl dX13_addresses_42 ?_
        refine lv_goto (tgt := 52) hx hb dX13_addresses_45 (by decide) ?_
        have q68 : 0 ≤ ((w2.1 40) ka.toNatClampNeg).toInt ∧ ((w2.1 40) ka.toNatClampNeg).toInt ≤ 23999 := (show AR 40 0 23999 w2 from (show AR 40 0 23999 w2 from AR.fr (fl := []) (al := [11]) fwL2 (by decide) a40)) ka.toNatClampNeg
        refine cu_v (rn_V (n := 3) (As := [.int ((w2.1 40) ka.toNatClampNeg), .int 28, .int (w2.1 0 67)]) (rest := []) hx hb hml hown ht hKK hFx hP hD hS hA (c_m_jump l dC dI cI cB cZ cJ cR tb H.size ad N w2 ((w2.1 40) ka.toNatClampNeg) (28 : Int32) (w2.1 0 67) (show 0 ≤ ((w2.1 40) ka.toNatClampNeg).toInt ∧ ((w2.1 40) ka.toNatClampNeg).toInt < 24000 from (om_ed5baa895c q68))) tw_126 tw_127 (by decide +kernel) rfl rfl ⟨Nat.le_of_ble_eq_true rfl, Nat.le_of_ble_eq_true rfl⟩ (List.range (mW ad N cI cZ cJ w2).length) (rg_map _) (mW_nd _ _ _ _ _ _) rfl rfl rfl rfl hl.1 rfl (Nat.le_of_ble_eq_true rfl) dX13_addresses_52 ⟨Nat.le_of_ble_eq_true rfl, Nat.le_of_ble_eq_true rfl⟩) hP hD hS hA (fun u70 H locs hw69 hP hD hS => ?_)
        obtain ⟨x72, rfl, ex69⟩ := hw69
        have hP : va_P (dC, dI) vwCl (mW ad N cI cZ cJ (wA w2 11 (((w2.1 40) ka.toNatClampNeg).toNatClampNeg) x72)) H := hP
        have hD : va_D A (mW ad N cI cZ cJ (wA w2 11 (((w2.1 40) ka.toNatClampNeg).toNatClampNeg) x72)) := hD
        refine W.widen (k := 0) (n := 0) (Nat.le_refl _) (Nat.le_refl _) ?_
        refine lv_goto (tgt := 153) hx hb dX13_addresses_55 (by decide) ?_
        refine lv_iinc (v := (ka + (1 : Int32))) (lv' := [(1, .int (ka + (1 : Int32))), (2, .int ((w2.1 40) ka.toNatClampNeg)), (0, .ref (ad 0))]) hx hb dX13_addresses_153 hl (k := 1) rfl (rfl) (by decide) rfl (fun ls hl => ?_)
        have z73 : (ka + (1 : Int32)).toInt = ka.toInt + (1 : Int) := add_z rfl (show (1 : Int32).toInt = (1 : Int) by decide) (om_a8944c555e e1L2) (om_dca2dcfd0c zf e1L2)
        refine lv_goto (tgt := 2) hx hb dX13_addresses_156 (by decide) ?_
        exact ih2 ((ka + (1 : Int32)), (wA w2 11 (((w2.1 40) ka.toNatClampNeg).toNatClampNeg) x72)) _ _ _ (show ((v.1 0 43).toInt - (ka + (1 : Int32)).toInt).toNat < ((v.1 0 43).toInt - ka.toInt).toNat from tn_z (om_6a7d95371f z73) (om_6b3904b74d q25 z24)) ⟨(show FG [] [11] v (wA w2 11 (((w2.1 40) ka.toNatClampNeg).toNatClampNeg) x72) from (FG.a (FG.tr (FG.rf _) (FG.up fwL2 (by decide) (by decide))) (((w2.1 40) ka.toNatClampNeg).toNatClampNeg) x72 (by decide) (by decide))), (show 0 ≤ (ka + (1 : Int32)).toInt ∧ (ka + (1 : Int32)).toInt ≤ (v.1 0 43).toInt from (om_fc66311bc4 e1L2 q25 z24 z73)), (RT.st exL2 ⟨fwL2, e1L2, z24, (Or.inr (⟨z58, (Or.inr (⟨z67, x72, ex69, rfl⟩))⟩))⟩), hP, hD, hS, lv_sub hl [0, 2] rfl⟩
