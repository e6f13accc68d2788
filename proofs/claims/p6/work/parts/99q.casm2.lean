theorem dX0_layComparison_0 : decode cX0_layComparison 0 = .ok (.iload_n 1, 1) := by decide +kernel
theorem dX0_layComparison_1 : decode cX0_layComparison 1 = .ok (.tableswitch 175 63 68 #[123, 149, 39, 69, 54, 96], 39) := by decide +kernel
theorem dX0_layComparison_124 : decode cX0_layComparison 124 = .ok (.aload_n 0, 1) := by decide +kernel
theorem dX0_layComparison_125 : decode cX0_layComparison 125 = .ok (.ldc 124, 2) := by decide +kernel
theorem tw_700 : (.constant RX0 124 (1073741875) : Cond) ∈ tw_W := tw_in (t8_5 (List.mem_of_getElem? (i := 89) rfl)) rfl
theorem dX0_layComparison_127 : decode cX0_layComparison 127 = .ok (.bipush 10, 2) := by decide +kernel
theorem dX0_layComparison_129 : decode cX0_layComparison 129 = .ok (.iconst 5, 1) := by decide +kernel
theorem dX0_layComparison_130 : decode cX0_layComparison 130 = .ok (.bipush 10, 2) := by decide +kernel
theorem dX0_layComparison_132 : decode cX0_layComparison 132 = .ok (.invokevirtual 125, 3) := by decide +kernel
theorem dX0_layComparison_135 : decode cX0_layComparison 135 = .ok (.aload_n 0, 1) := by decide +kernel
theorem dX0_layComparison_136 : decode cX0_layComparison 136 = .ok (.sipush 12307, 3) := by decide +kernel
theorem dX0_layComparison_139 : decode cX0_layComparison 139 = .ok (.bipush 10, 2) := by decide +kernel
theorem dX0_layComparison_141 : decode cX0_layComparison 141 = .ok (.bipush 10, 2) := by decide +kernel
theorem dX0_layComparison_143 : decode cX0_layComparison 143 = .ok (.iconst 1, 1) := by decide +kernel
theorem dX0_layComparison_144 : decode cX0_layComparison 144 = .ok (.invokevirtual 42, 3) := by decide +kernel
theorem dX0_layComparison_147 : decode cX0_layComparison 147 = .ok (.goto 29, 3) := by decide +kernel
theorem dX0_layComparison_176 : decode cX0_layComparison 176 = .ok (.return_, 1) := by decide +kernel
theorem dX0_layComparison_150 : decode cX0_layComparison 150 = .ok (.aload_n 0, 1) := by decide +kernel
theorem dX0_layComparison_151 : decode cX0_layComparison 151 = .ok (.ldc 124, 2) := by decide +kernel
theorem dX0_layComparison_153 : decode cX0_layComparison 153 = .ok (.bipush 10, 2) := by decide +kernel
theorem dX0_layComparison_155 : decode cX0_layComparison 155 = .ok (.iconst 5, 1) := by decide +kernel
theorem dX0_layComparison_156 : decode cX0_layComparison 156 = .ok (.bipush 10, 2) := by decide +kernel
theorem dX0_layComparison_158 : decode cX0_layComparison 158 = .ok (.invokevirtual 125, 3) := by decide +kernel
theorem dX0_layComparison_161 : decode cX0_layComparison 161 = .ok (.aload_n 0, 1) := by decide +kernel
theorem dX0_layComparison_162 : decode cX0_layComparison 162 = .ok (.sipush 12339, 3) := by decide +kernel
theorem dX0_layComparison_165 : decode cX0_layComparison 165 = .ok (.bipush 10, 2) := by decide +kernel
theorem dX0_layComparison_167 : decode cX0_layComparison 167 = .ok (.iconst 0, 1) := by decide +kernel
theorem dX0_layComparison_168 : decode cX0_layComparison 168 = .ok (.bipush 10, 2) := by decide +kernel
theorem dX0_layComparison_170 : decode cX0_layComparison 170 = .ok (.invokevirtual 125, 3) := by decide +kernel
theorem dX0_layComparison_173 : decode cX0_layComparison 173 = .ok (.goto 3, 3) := by decide +kernel
theorem dX0_layComparison_40 : decode cX0_layComparison 40 = .ok (.aload_n 0, 1) := by decide +kernel
theorem dX0_layComparison_41 : decode cX0_layComparison 41 = .ok (.sipush 8243, 3) := by decide +kernel
theorem dX0_layComparison_44 : decode cX0_layComparison 44 = .ok (.bipush 10, 2) := by decide +kernel
theorem dX0_layComparison_46 : decode cX0_layComparison 46 = .ok (.iconst 5, 1) := by decide +kernel
theorem dX0_layComparison_47 : decode cX0_layComparison 47 = .ok (.bipush 10, 2) := by decide +kernel
theorem dX0_layComparison_49 : decode cX0_layComparison 49 = .ok (.invokevirtual 125, 3) := by decide +kernel
theorem dX0_layComparison_52 : decode cX0_layComparison 52 = .ok (.goto 124, 3) := by decide +kernel
theorem dX0_layComparison_70 : decode cX0_layComparison 70 = .ok (.aload_n 0, 1) := by decide +kernel
theorem dX0_layComparison_71 : decode cX0_layComparison 71 = .ok (.sipush 8243, 3) := by decide +kernel
theorem dX0_layComparison_74 : decode cX0_layComparison 74 = .ok (.bipush 10, 2) := by decide +kernel
theorem dX0_layComparison_76 : decode cX0_layComparison 76 = .ok (.bipush 10, 2) := by decide +kernel
theorem dX0_layComparison_78 : decode cX0_layComparison 78 = .ok (.iconst 5, 1) := by decide +kernel
theorem dX0_layComparison_79 : decode cX0_layComparison 79 = .ok (.invokevirtual 125, 3) := by decide +kernel
theorem dX0_layComparison_82 : decode cX0_layComparison 82 = .ok (.aload_n 0, 1) := by decide +kernel
theorem dX0_layComparison_83 : decode cX0_layComparison 83 = .ok (.sipush 16403, 3) := by decide +kernel
theorem dX0_layComparison_86 : decode cX0_layComparison 86 = .ok (.bipush 10, 2) := by decide +kernel
theorem dX0_layComparison_88 : decode cX0_layComparison 88 = .ok (.bipush 10, 2) := by decide +kernel
theorem dX0_layComparison_90 : decode cX0_layComparison 90 = .ok (.iconst 1, 1) := by decide +kernel
theorem dX0_layComparison_91 : decode cX0_layComparison 91 = .ok (.invokevirtual 42, 3) := by decide +kernel
theorem dX0_layComparison_94 : decode cX0_layComparison 94 = .ok (.goto 82, 3) := by decide +kernel
theorem dX0_layComparison_55 : decode cX0_layComparison 55 = .ok (.aload_n 0, 1) := by decide +kernel
theorem dX0_layComparison_56 : decode cX0_layComparison 56 = .ok (.sipush 8243, 3) := by decide +kernel
theorem dX0_layComparison_59 : decode cX0_layComparison 59 = .ok (.bipush 10, 2) := by decide +kernel
theorem dX0_layComparison_61 : decode cX0_layComparison 61 = .ok (.bipush 10, 2) := by decide +kernel
theorem dX0_layComparison_63 : decode cX0_layComparison 63 = .ok (.iconst 5, 1) := by decide +kernel
theorem dX0_layComparison_64 : decode cX0_layComparison 64 = .ok (.invokevirtual 125, 3) := by decide +kernel
theorem dX0_layComparison_67 : decode cX0_layComparison 67 = .ok (.goto 109, 3) := by decide +kernel
theorem dX0_layComparison_97 : decode cX0_layComparison 97 = .ok (.aload_n 0, 1) := by decide +kernel
theorem dX0_layComparison_98 : decode cX0_layComparison 98 = .ok (.sipush 8243, 3) := by decide +kernel
theorem dX0_layComparison_101 : decode cX0_layComparison 101 = .ok (.bipush 10, 2) := by decide +kernel
theorem dX0_layComparison_103 : decode cX0_layComparison 103 = .ok (.iconst 5, 1) := by decide +kernel
theorem dX0_layComparison_104 : decode cX0_layComparison 104 = .ok (.bipush 10, 2) := by decide +kernel
theorem dX0_layComparison_106 : decode cX0_layComparison 106 = .ok (.invokevirtual 125, 3) := by decide +kernel
theorem dX0_layComparison_109 : decode cX0_layComparison 109 = .ok (.aload_n 0, 1) := by decide +kernel
theorem dX0_layComparison_110 : decode cX0_layComparison 110 = .ok (.sipush 16403, 3) := by decide +kernel
theorem dX0_layComparison_113 : decode cX0_layComparison 113 = .ok (.bipush 10, 2) := by decide +kernel
theorem dX0_layComparison_115 : decode cX0_layComparison 115 = .ok (.bipush 10, 2) := by decide +kernel
theorem dX0_layComparison_117 : decode cX0_layComparison 117 = .ok (.iconst 1, 1) := by decide +kernel
theorem dX0_layComparison_118 : decode cX0_layComparison 118 = .ok (.invokevirtual 42, 3) := by decide +kernel
theorem dX0_layComparison_121 : decode cX0_layComparison 121 = .ok (.goto 55, 3) := by decide +kernel
theorem dX0_laySign_0 : decode cX0_laySign 0 = .ok (.iload_n 1, 1) := by decide +kernel
theorem dX0_laySign_1 : decode cX0_laySign 1 = .ok (.tableswitch 222 53 62 #[55, 69, 157, 175, 193, 83, 98, 113, 128, 143], 55) := by decide +kernel
theorem dX0_laySign_56 : decode cX0_laySign 56 = .ok (.aload_n 0, 1) := by decide +kernel
theorem dX0_laySign_57 : decode cX0_laySign 57 = .ok (.bipush 51, 2) := by decide +kernel
theorem dX0_laySign_59 : decode cX0_laySign 59 = .ok (.bipush 10, 2) := by decide +kernel
theorem dX0_laySign_61 : decode cX0_laySign 61 = .ok (.iconst 5, 1) := by decide +kernel
theorem dX0_laySign_62 : decode cX0_laySign 62 = .ok (.bipush 10, 2) := by decide +kernel
theorem dX0_laySign_64 : decode cX0_laySign 64 = .ok (.invokevirtual 125, 3) := by decide +kernel
theorem dX0_laySign_67 : decode cX0_laySign 67 = .ok (.goto 161, 3) := by decide +kernel
theorem dX0_laySign_228 : decode cX0_laySign 228 = .ok (.return_, 1) := by decide +kernel
theorem dX0_laySign_70 : decode cX0_laySign 70 = .ok (.aload_n 0, 1) := by decide +kernel
theorem dX0_laySign_71 : decode cX0_laySign 71 = .ok (.ldc 124, 2) := by decide +kernel
theorem dX0_laySign_73 : decode cX0_laySign 73 = .ok (.bipush 10, 2) := by decide +kernel
theorem dX0_laySign_75 : decode cX0_laySign 75 = .ok (.iconst 5, 1) := by decide +kernel
theorem dX0_laySign_76 : decode cX0_laySign 76 = .ok (.bipush 10, 2) := by decide +kernel
theorem dX0_laySign_78 : decode cX0_laySign 78 = .ok (.invokevirtual 125, 3) := by decide +kernel
theorem dX0_laySign_81 : decode cX0_laySign 81 = .ok (.goto 147, 3) := by decide +kernel
theorem dX0_laySign_158 : decode cX0_laySign 158 = .ok (.aload_n 0, 1) := by decide +kernel
theorem dX0_laySign_159 : decode cX0_laySign 159 = .ok (.iconst 1, 1) := by decide +kernel
theorem dX0_laySign_160 : decode cX0_laySign 160 = .ok (.putfield 36, 3) := by decide +kernel
theorem tw_701 : (.fieldLink RX0 36 "PocketCompiler$Assembler" "hasTimes" "Z" : Cond) ∈ tw_W := tw_in (t8_2 (List.mem_of_getElem? (i := 88) rfl)) rfl
theorem dX0_laySign_163 : decode cX0_laySign 163 = .ok (.aload_n 0, 1) := by decide +kernel
theorem dX0_laySign_164 : decode cX0_laySign 164 = .ok (.bipush 28, 2) := by decide +kernel
theorem dX0_laySign_166 : decode cX0_laySign 166 = .ok (.aload_n 0, 1) := by decide +kernel
theorem dX0_laySign_167 : decode cX0_laySign 167 = .ok (.getfield 67, 3) := by decide +kernel
theorem tw_702 : (.fieldLink RX0 67 "PocketCompiler$Assembler" "timesAddress" "I" : Cond) ∈ tw_W := tw_in (t8_2 (List.mem_of_getElem? (i := 90) rfl)) rfl
theorem dX0_laySign_170 : decode cX0_laySign 170 = .ok (.invokevirtual 170, 3) := by decide +kernel
theorem dX0_laySign_173 : decode cX0_laySign 173 = .ok (.goto 55, 3) := by decide +kernel
theorem dX0_laySign_176 : decode cX0_laySign 176 = .ok (.aload_n 0, 1) := by decide +kernel
theorem dX0_laySign_177 : decode cX0_laySign 177 = .ok (.iconst 1, 1) := by decide +kernel
theorem dX0_laySign_178 : decode cX0_laySign 178 = .ok (.putfield 39, 3) := by decide +kernel
theorem tw_703 : (.fieldLink RX0 39 "PocketCompiler$Assembler" "hasOver" "Z" : Cond) ∈ tw_W := tw_in (t8_2 (List.mem_of_getElem? (i := 89) rfl)) rfl
theorem dX0_laySign_181 : decode cX0_laySign 181 = .ok (.aload_n 0, 1) := by decide +kernel
theorem dX0_laySign_182 : decode cX0_laySign 182 = .ok (.bipush 28, 2) := by decide +kernel
theorem dX0_laySign_184 : decode cX0_laySign 184 = .ok (.aload_n 0, 1) := by decide +kernel
theorem dX0_laySign_185 : decode cX0_laySign 185 = .ok (.getfield 73, 3) := by decide +kernel
theorem tw_704 : (.fieldLink RX0 73 "PocketCompiler$Assembler" "overAddress" "I" : Cond) ∈ tw_W := tw_in (t8_2 (List.mem_of_getElem? (i := 91) rfl)) rfl
theorem dX0_laySign_188 : decode cX0_laySign 188 = .ok (.invokevirtual 170, 3) := by decide +kernel
theorem dX0_laySign_191 : decode cX0_laySign 191 = .ok (.goto 37, 3) := by decide +kernel
theorem dX0_laySign_194 : decode cX0_laySign 194 = .ok (.aload_n 0, 1) := by decide +kernel
theorem dX0_laySign_195 : decode cX0_laySign 195 = .ok (.iconst 1, 1) := by decide +kernel
theorem dX0_laySign_196 : decode cX0_laySign 196 = .ok (.putfield 39, 3) := by decide +kernel
theorem dX0_laySign_199 : decode cX0_laySign 199 = .ok (.aload_n 0, 1) := by decide +kernel
theorem dX0_laySign_200 : decode cX0_laySign 200 = .ok (.bipush 28, 2) := by decide +kernel
theorem dX0_laySign_202 : decode cX0_laySign 202 = .ok (.aload_n 0, 1) := by decide +kernel
theorem dX0_laySign_203 : decode cX0_laySign 203 = .ok (.getfield 73, 3) := by decide +kernel
theorem dX0_laySign_206 : decode cX0_laySign 206 = .ok (.invokevirtual 170, 3) := by decide +kernel
theorem dX0_laySign_209 : decode cX0_laySign 209 = .ok (.aload_n 0, 1) := by decide +kernel
theorem dX0_laySign_210 : decode cX0_laySign 210 = .ok (.bipush 19, 2) := by decide +kernel
theorem dX0_laySign_212 : decode cX0_laySign 212 = .ok (.bipush 10, 2) := by decide +kernel
theorem dX0_laySign_214 : decode cX0_laySign 214 = .ok (.bipush 6, 2) := by decide +kernel
theorem dX0_laySign_216 : decode cX0_laySign 216 = .ok (.iconst 0, 1) := by decide +kernel
theorem dX0_laySign_217 : decode cX0_laySign 217 = .ok (.invokevirtual 42, 3) := by decide +kernel
theorem dX0_laySign_220 : decode cX0_laySign 220 = .ok (.goto 8, 3) := by decide +kernel
theorem dX0_laySign_84 : decode cX0_laySign 84 = .ok (.aload_n 0, 1) := by decide +kernel
theorem dX0_laySign_85 : decode cX0_laySign 85 = .ok (.sipush 28723, 3) := by decide +kernel
theorem dX0_laySign_88 : decode cX0_laySign 88 = .ok (.bipush 10, 2) := by decide +kernel
theorem dX0_laySign_90 : decode cX0_laySign 90 = .ok (.iconst 5, 1) := by decide +kernel
theorem dX0_laySign_91 : decode cX0_laySign 91 = .ok (.bipush 10, 2) := by decide +kernel
theorem dX0_laySign_93 : decode cX0_laySign 93 = .ok (.invokevirtual 125, 3) := by decide +kernel
theorem dX0_laySign_96 : decode cX0_laySign 96 = .ok (.goto 132, 3) := by decide +kernel
theorem dX0_laySign_99 : decode cX0_laySign 99 = .ok (.aload_n 0, 1) := by decide +kernel
theorem dX0_laySign_100 : decode cX0_laySign 100 = .ok (.sipush 24627, 3) := by decide +kernel
theorem dX0_laySign_103 : decode cX0_laySign 103 = .ok (.bipush 10, 2) := by decide +kernel
theorem dX0_laySign_105 : decode cX0_laySign 105 = .ok (.iconst 5, 1) := by decide +kernel
theorem dX0_laySign_106 : decode cX0_laySign 106 = .ok (.bipush 10, 2) := by decide +kernel
theorem dX0_laySign_108 : decode cX0_laySign 108 = .ok (.invokevirtual 125, 3) := by decide +kernel
theorem dX0_laySign_111 : decode cX0_laySign 111 = .ok (.goto 117, 3) := by decide +kernel
theorem dX0_laySign_114 : decode cX0_laySign 114 = .ok (.aload_n 0, 1) := by decide +kernel
theorem dX0_laySign_115 : decode cX0_laySign 115 = .ok (.sipush 16435, 3) := by decide +kernel
theorem dX0_laySign_118 : decode cX0_laySign 118 = .ok (.bipush 10, 2) := by decide +kernel
theorem dX0_laySign_120 : decode cX0_laySign 120 = .ok (.iconst 5, 1) := by decide +kernel
theorem dX0_laySign_121 : decode cX0_laySign 121 = .ok (.bipush 10, 2) := by decide +kernel
theorem dX0_laySign_123 : decode cX0_laySign 123 = .ok (.invokevirtual 125, 3) := by decide +kernel
theorem dX0_laySign_126 : decode cX0_laySign 126 = .ok (.goto 102, 3) := by decide +kernel
theorem dX0_laySign_129 : decode cX0_laySign 129 = .ok (.aload_n 0, 1) := by decide +kernel
theorem dX0_laySign_130 : decode cX0_laySign 130 = .ok (.sipush 4147, 3) := by decide +kernel
theorem dX0_laySign_133 : decode cX0_laySign 133 = .ok (.bipush 10, 2) := by decide +kernel
theorem dX0_laySign_135 : decode cX0_laySign 135 = .ok (.iconst 5, 1) := by decide +kernel
theorem dX0_laySign_136 : decode cX0_laySign 136 = .ok (.bipush 10, 2) := by decide +kernel
theorem dX0_laySign_138 : decode cX0_laySign 138 = .ok (.invokevirtual 125, 3) := by decide +kernel
theorem dX0_laySign_141 : decode cX0_laySign 141 = .ok (.goto 87, 3) := by decide +kernel
theorem dX0_laySign_144 : decode cX0_laySign 144 = .ok (.aload_n 0, 1) := by decide +kernel
theorem dX0_laySign_145 : decode cX0_laySign 145 = .ok (.ldc 173, 2) := by decide +kernel
theorem tw_705 : (.constant RX0 173 (1073762355) : Cond) ∈ tw_W := tw_in (t8_5 (List.mem_of_getElem? (i := 98) rfl)) rfl
theorem dX0_laySign_147 : decode cX0_laySign 147 = .ok (.bipush 10, 2) := by decide +kernel
theorem dX0_laySign_149 : decode cX0_laySign 149 = .ok (.iconst 5, 1) := by decide +kernel
theorem dX0_laySign_150 : decode cX0_laySign 150 = .ok (.bipush 10, 2) := by decide +kernel
theorem dX0_laySign_152 : decode cX0_laySign 152 = .ok (.invokevirtual 125, 3) := by decide +kernel
theorem dX0_laySign_155 : decode cX0_laySign 155 = .ok (.goto 73, 3) := by decide +kernel
theorem dX0_laySign_223 : decode cX0_laySign 223 = .ok (.aload_n 0, 1) := by decide +kernel
theorem dX0_laySign_224 : decode cX0_laySign 224 = .ok (.iload_n 1, 1) := by decide +kernel
theorem dX0_laySign_225 : decode cX0_laySign 225 = .ok (.invokevirtual 174, 3) := by decide +kernel
theorem tw_706 : (.code yX0_layComparison cX0_layComparison 2 none : Cond) ∈ tw_W := tw_in (t8_5 (List.mem_of_getElem? (i := 106) rfl)) rfl
theorem tw_707 : ∀ w ∈ ([.methodLink RX0 174 yX0_layComparison, .instanceMethod yX0_layComparison, .selects RX0 yX0_layComparison yX0_layComparison, .initialized RX0] : List Cond), w ∈ tw_W := al_c (tw_in (t8_5 (List.mem_of_getElem? (i := 103) rfl)) rfl) (al_c (tw_in (t8_5 (List.mem_of_getElem? (i := 105) rfl)) rfl) (al_c (tw_in (t7_5 (q := (yX0_layComparison, 9)) (List.mem_of_getElem? (i := 0) rfl)) rfl) (al_c (tw_in (t8_1 (List.mem_of_getElem? (i := 13) rfl)) rfl) al_n)))
theorem dX0_layTimes_0 : decode cX0_layTimes 0 = .ok (.aload_n 0, 1) := by decide +kernel
theorem dX0_layTimes_1 : decode cX0_layTimes 1 = .ok (.bipush 19, 2) := by decide +kernel
theorem dX0_layTimes_3 : decode cX0_layTimes 3 = .ok (.bipush 6, 2) := by decide +kernel
theorem dX0_layTimes_5 : decode cX0_layTimes 5 = .ok (.iconst 0, 1) := by decide +kernel
theorem dX0_layTimes_6 : decode cX0_layTimes 6 = .ok (.iconst 0, 1) := by decide +kernel
theorem dX0_layTimes_7 : decode cX0_layTimes 7 = .ok (.invokevirtual 42, 3) := by decide +kernel
theorem dX0_layTimes_10 : decode cX0_layTimes 10 = .ok (.iconst 4, 1) := by decide +kernel
theorem dX0_layTimes_11 : decode cX0_layTimes 11 = .ok (.aload_n 0, 1) := by decide +kernel
theorem dX0_layTimes_12 : decode cX0_layTimes 12 = .ok (.getfield 33, 3) := by decide +kernel
theorem dX0_layTimes_15 : decode cX0_layTimes 15 = .ok (.imul, 1) := by decide +kernel
theorem dX0_layTimes_16 : decode cX0_layTimes 16 = .ok (.istore_n 1, 1) := by decide +kernel
theorem dX0_layTimes_17 : decode cX0_layTimes 17 = .ok (.aload_n 0, 1) := by decide +kernel
theorem dX0_layTimes_18 : decode cX0_layTimes 18 = .ok (.bipush 99, 2) := by decide +kernel
theorem dX0_layTimes_20 : decode cX0_layTimes 20 = .ok (.bipush 10, 2) := by decide +kernel
theorem dX0_layTimes_22 : decode cX0_layTimes 22 = .ok (.iconst 0, 1) := by decide +kernel
theorem dX0_layTimes_23 : decode cX0_layTimes 23 = .ok (.bipush 28, 2) := by decide +kernel
theorem dX0_layTimes_25 : decode cX0_layTimes 25 = .ok (.invokevirtual 155, 3) := by decide +kernel
theorem dX0_layTimes_28 : decode cX0_layTimes 28 = .ok (.aload_n 0, 1) := by decide +kernel
theorem dX0_layTimes_29 : decode cX0_layTimes 29 = .ok (.sipush 28691, 3) := by decide +kernel
theorem dX0_layTimes_32 : decode cX0_layTimes 32 = .ok (.bipush 7, 2) := by decide +kernel
theorem dX0_layTimes_34 : decode cX0_layTimes 34 = .ok (.bipush 10, 2) := by decide +kernel
theorem dX0_layTimes_36 : decode cX0_layTimes 36 = .ok (.iconst 1, 1) := by decide +kernel
theorem dX0_layTimes_37 : decode cX0_layTimes 37 = .ok (.invokevirtual 42, 3) := by decide +kernel
theorem dX0_layTimes_40 : decode cX0_layTimes 40 = .ok (.aload_n 0, 1) := by decide +kernel
theorem dX0_layTimes_41 : decode cX0_layTimes 41 = .ok (.bipush 99, 2) := by decide +kernel
theorem dX0_layTimes_43 : decode cX0_layTimes 43 = .ok (.bipush 7, 2) := by decide +kernel
theorem dX0_layTimes_45 : decode cX0_layTimes 45 = .ok (.iconst 0, 1) := by decide +kernel
theorem dX0_layTimes_46 : decode cX0_layTimes 46 = .ok (.bipush 8, 2) := by decide +kernel
theorem dX0_layTimes_48 : decode cX0_layTimes 48 = .ok (.invokevirtual 155, 3) := by decide +kernel
theorem dX0_layTimes_51 : decode cX0_layTimes 51 = .ok (.aload_n 0, 1) := by decide +kernel
theorem dX0_layTimes_52 : decode cX0_layTimes 52 = .ok (.bipush 51, 2) := by decide +kernel
theorem dX0_layTimes_54 : decode cX0_layTimes 54 = .ok (.bipush 6, 2) := by decide +kernel
theorem dX0_layTimes_56 : decode cX0_layTimes 56 = .ok (.bipush 6, 2) := by decide +kernel
theorem dX0_layTimes_58 : decode cX0_layTimes 58 = .ok (.iconst 5, 1) := by decide +kernel
theorem dX0_layTimes_59 : decode cX0_layTimes 59 = .ok (.invokevirtual 125, 3) := by decide +kernel
theorem dX0_layTimes_62 : decode cX0_layTimes 62 = .ok (.aload_n 0, 1) := by decide +kernel
theorem dX0_layTimes_63 : decode cX0_layTimes 63 = .ok (.sipush 4115, 3) := by decide +kernel
theorem dX0_layTimes_66 : decode cX0_layTimes 66 = .ok (.iconst 5, 1) := by decide +kernel
theorem dX0_layTimes_67 : decode cX0_layTimes 67 = .ok (.iconst 5, 1) := by decide +kernel
theorem dX0_layTimes_68 : decode cX0_layTimes 68 = .ok (.iconst 1, 1) := by decide +kernel
theorem dX0_layTimes_69 : decode cX0_layTimes 69 = .ok (.invokevirtual 42, 3) := by decide +kernel
theorem dX0_layTimes_72 : decode cX0_layTimes 72 = .ok (.aload_n 0, 1) := by decide +kernel
theorem dX0_layTimes_73 : decode cX0_layTimes 73 = .ok (.sipush 20499, 3) := by decide +kernel
theorem dX0_layTimes_76 : decode cX0_layTimes 76 = .ok (.bipush 10, 2) := by decide +kernel
theorem dX0_layTimes_78 : decode cX0_layTimes 78 = .ok (.bipush 10, 2) := by decide +kernel
theorem dX0_layTimes_80 : decode cX0_layTimes 80 = .ok (.iconst 1, 1) := by decide +kernel
theorem dX0_layTimes_81 : decode cX0_layTimes 81 = .ok (.invokevirtual 42, 3) := by decide +kernel
theorem dX0_layTimes_84 : decode cX0_layTimes 84 = .ok (.aload_n 0, 1) := by decide +kernel
theorem dX0_layTimes_85 : decode cX0_layTimes 85 = .ok (.iconst 0, 1) := by decide +kernel
theorem dX0_layTimes_86 : decode cX0_layTimes 86 = .ok (.iload_n 1, 1) := by decide +kernel
theorem dX0_layTimes_87 : decode cX0_layTimes 87 = .ok (.invokevirtual 170, 3) := by decide +kernel
theorem dX0_layTimes_90 : decode cX0_layTimes 90 = .ok (.aload_n 0, 1) := by decide +kernel
theorem dX0_layTimes_91 : decode cX0_layTimes 91 = .ok (.bipush 19, 2) := by decide +kernel
theorem dX0_layTimes_93 : decode cX0_layTimes 93 = .ok (.bipush 10, 2) := by decide +kernel
theorem dX0_layTimes_95 : decode cX0_layTimes 95 = .ok (.bipush 6, 2) := by decide +kernel
theorem dX0_layTimes_97 : decode cX0_layTimes 97 = .ok (.iconst 0, 1) := by decide +kernel
theorem dX0_layTimes_98 : decode cX0_layTimes 98 = .ok (.invokevirtual 42, 3) := by decide +kernel
theorem dX0_layTimes_101 : decode cX0_layTimes 101 = .ok (.aload_n 0, 1) := by decide +kernel
theorem dX0_layTimes_102 : decode cX0_layTimes 102 = .ok (.bipush 103, 2) := by decide +kernel
theorem dX0_layTimes_104 : decode cX0_layTimes 104 = .ok (.iconst 0, 1) := by decide +kernel
theorem dX0_layTimes_105 : decode cX0_layTimes 105 = .ok (.bipush 28, 2) := by decide +kernel
theorem dX0_layTimes_107 : decode cX0_layTimes 107 = .ok (.iconst 0, 1) := by decide +kernel
theorem dX0_layTimes_108 : decode cX0_layTimes 108 = .ok (.invokevirtual 42, 3) := by decide +kernel
theorem dX0_layTimes_111 : decode cX0_layTimes 111 = .ok (.return_, 1) := by decide +kernel
theorem dX0_layOver_0 : decode cX0_layOver 0 = .ok (.aload_n 0, 1) := by decide +kernel
theorem dX0_layOver_1 : decode cX0_layOver 1 = .ok (.sipush 4195, 3) := by decide +kernel
theorem dX0_layOver_4 : decode cX0_layOver 4 = .ok (.bipush 10, 2) := by decide +kernel
theorem dX0_layOver_6 : decode cX0_layOver 6 = .ok (.iconst 0, 1) := by decide +kernel
theorem dX0_layOver_7 : decode cX0_layOver 7 = .ok (.bipush 12, 2) := by decide +kernel
theorem dX0_layOver_9 : decode cX0_layOver 9 = .ok (.invokevirtual 155, 3) := by decide +kernel
theorem dX0_layOver_12 : decode cX0_layOver 12 = .ok (.aload_n 0, 1) := by decide +kernel
theorem dX0_layOver_13 : decode cX0_layOver 13 = .ok (.iconst 2, 1) := by decide +kernel
theorem dX0_layOver_14 : decode cX0_layOver 14 = .ok (.invokevirtual 158, 3) := by decide +kernel
theorem tw_708 : (.code yX0_halt cX0_halt 2 none : Cond) ∈ tw_W := tw_in (t8_5 (List.mem_of_getElem? (i := 65) rfl)) rfl
theorem tw_709 : ∀ w ∈ ([.methodLink RX0 158 yX0_halt, .instanceMethod yX0_halt, .selects RX0 yX0_halt yX0_halt, .initialized RX0] : List Cond), w ∈ tw_W := al_c (tw_in (t8_5 (List.mem_of_getElem? (i := 62) rfl)) rfl) (al_c (tw_in (t8_5 (List.mem_of_getElem? (i := 64) rfl)) rfl) (al_c (tw_in (t7_4 (q := (yX0_halt, 9)) (List.mem_of_getElem? (i := 7) rfl)) rfl) (al_c (tw_in (t8_1 (List.mem_of_getElem? (i := 13) rfl)) rfl) al_n)))
theorem dX0_layOver_17 : decode cX0_layOver 17 = .ok (.aload_n 0, 1) := by decide +kernel
theorem dX0_layOver_18 : decode cX0_layOver 18 = .ok (.sipush 16435, 3) := by decide +kernel
theorem dX0_layOver_21 : decode cX0_layOver 21 = .ok (.bipush 29, 2) := by decide +kernel
theorem dX0_layOver_23 : decode cX0_layOver 23 = .ok (.iconst 5, 1) := by decide +kernel
theorem dX0_layOver_24 : decode cX0_layOver 24 = .ok (.bipush 10, 2) := by decide +kernel
theorem dX0_layOver_26 : decode cX0_layOver 26 = .ok (.invokevirtual 125, 3) := by decide +kernel
theorem dX0_layOver_29 : decode cX0_layOver 29 = .ok (.aload_n 0, 1) := by decide +kernel
theorem dX0_layOver_30 : decode cX0_layOver 30 = .ok (.bipush 19, 2) := by decide +kernel
theorem dX0_layOver_32 : decode cX0_layOver 32 = .ok (.bipush 30, 2) := by decide +kernel
theorem dX0_layOver_34 : decode cX0_layOver 34 = .ok (.iconst 5, 1) := by decide +kernel
theorem dX0_layOver_35 : decode cX0_layOver 35 = .ok (.iconst 0, 1) := by decide +kernel
theorem dX0_layOver_36 : decode cX0_layOver 36 = .ok (.invokevirtual 42, 3) := by decide +kernel
theorem dX0_layOver_39 : decode cX0_layOver 39 = .ok (.aload_n 0, 1) := by decide +kernel
theorem dX0_layOver_40 : decode cX0_layOver 40 = .ok (.sipush 20579, 3) := by decide +kernel
theorem dX0_layOver_43 : decode cX0_layOver 43 = .ok (.iconst 5, 1) := by decide +kernel
theorem dX0_layOver_44 : decode cX0_layOver 44 = .ok (.iconst 0, 1) := by decide +kernel
theorem dX0_layOver_45 : decode cX0_layOver 45 = .ok (.bipush 8, 2) := by decide +kernel
theorem dX0_layOver_47 : decode cX0_layOver 47 = .ok (.invokevirtual 155, 3) := by decide +kernel
theorem dX0_layOver_50 : decode cX0_layOver 50 = .ok (.aload_n 0, 1) := by decide +kernel
theorem dX0_layOver_51 : decode cX0_layOver 51 = .ok (.ldc 124, 2) := by decide +kernel
theorem dX0_layOver_53 : decode cX0_layOver 53 = .ok (.iconst 5, 1) := by decide +kernel
theorem dX0_layOver_54 : decode cX0_layOver 54 = .ok (.iconst 0, 1) := by decide +kernel
theorem dX0_layOver_55 : decode cX0_layOver 55 = .ok (.iconst 5, 1) := by decide +kernel
theorem dX0_layOver_56 : decode cX0_layOver 56 = .ok (.invokevirtual 125, 3) := by decide +kernel
theorem dX0_layOver_59 : decode cX0_layOver 59 = .ok (.aload_n 0, 1) := by decide +kernel
theorem dX0_layOver_60 : decode cX0_layOver 60 = .ok (.sipush 20579, 3) := by decide +kernel
theorem dX0_layOver_63 : decode cX0_layOver 63 = .ok (.bipush 10, 2) := by decide +kernel
theorem dX0_layOver_65 : decode cX0_layOver 65 = .ok (.iconst 0, 1) := by decide +kernel
theorem dX0_layOver_66 : decode cX0_layOver 66 = .ok (.bipush 8, 2) := by decide +kernel
theorem dX0_layOver_68 : decode cX0_layOver 68 = .ok (.invokevirtual 155, 3) := by decide +kernel
theorem dX0_layOver_71 : decode cX0_layOver 71 = .ok (.aload_n 0, 1) := by decide +kernel
theorem dX0_layOver_72 : decode cX0_layOver 72 = .ok (.ldc 124, 2) := by decide +kernel
theorem dX0_layOver_74 : decode cX0_layOver 74 = .ok (.bipush 10, 2) := by decide +kernel
theorem dX0_layOver_76 : decode cX0_layOver 76 = .ok (.iconst 0, 1) := by decide +kernel
theorem dX0_layOver_77 : decode cX0_layOver 77 = .ok (.bipush 10, 2) := by decide +kernel
theorem dX0_layOver_79 : decode cX0_layOver 79 = .ok (.invokevirtual 125, 3) := by decide +kernel
theorem dX0_layOver_82 : decode cX0_layOver 82 = .ok (.aload_n 0, 1) := by decide +kernel
theorem dX0_layOver_83 : decode cX0_layOver 83 = .ok (.bipush 19, 2) := by decide +kernel
theorem dX0_layOver_85 : decode cX0_layOver 85 = .ok (.bipush 6, 2) := by decide +kernel
theorem dX0_layOver_87 : decode cX0_layOver 87 = .ok (.iconst 0, 1) := by decide +kernel
theorem dX0_layOver_88 : decode cX0_layOver 88 = .ok (.iconst 0, 1) := by decide +kernel
theorem dX0_layOver_89 : decode cX0_layOver 89 = .ok (.invokevirtual 42, 3) := by decide +kernel
theorem dX0_layOver_92 : decode cX0_layOver 92 = .ok (.aload_n 0, 1) := by decide +kernel
theorem dX0_layOver_93 : decode cX0_layOver 93 = .ok (.bipush 19, 2) := by decide +kernel
theorem dX0_layOver_95 : decode cX0_layOver 95 = .ok (.bipush 7, 2) := by decide +kernel
theorem dX0_layOver_97 : decode cX0_layOver 97 = .ok (.iconst 0, 1) := by decide +kernel
theorem dX0_layOver_98 : decode cX0_layOver 98 = .ok (.bipush 32, 2) := by decide +kernel
theorem dX0_layOver_100 : decode cX0_layOver 100 = .ok (.invokevirtual 42, 3) := by decide +kernel
theorem dX0_layOver_103 : decode cX0_layOver 103 = .ok (.aload_n 0, 1) := by decide +kernel
theorem dX0_layOver_104 : decode cX0_layOver 104 = .ok (.sipush 20499, 3) := by decide +kernel
theorem dX0_layOver_107 : decode cX0_layOver 107 = .ok (.bipush 31, 2) := by decide +kernel
theorem dX0_layOver_109 : decode cX0_layOver 109 = .ok (.iconst 5, 1) := by decide +kernel
theorem dX0_layOver_110 : decode cX0_layOver 110 = .ok (.bipush 31, 2) := by decide +kernel
theorem dX0_layOver_112 : decode cX0_layOver 112 = .ok (.invokevirtual 42, 3) := by decide +kernel
theorem dX0_layOver_115 : decode cX0_layOver 115 = .ok (.aload_n 0, 1) := by decide +kernel
theorem dX0_layOver_116 : decode cX0_layOver 116 = .ok (.sipush 4115, 3) := by decide +kernel
theorem dX0_layOver_119 : decode cX0_layOver 119 = .ok (.iconst 5, 1) := by decide +kernel
theorem dX0_layOver_120 : decode cX0_layOver 120 = .ok (.iconst 5, 1) := by decide +kernel
theorem dX0_layOver_121 : decode cX0_layOver 121 = .ok (.iconst 1, 1) := by decide +kernel
theorem dX0_layOver_122 : decode cX0_layOver 122 = .ok (.invokevirtual 42, 3) := by decide +kernel
theorem dX0_layOver_125 : decode cX0_layOver 125 = .ok (.aload_n 0, 1) := by decide +kernel
theorem dX0_layOver_126 : decode cX0_layOver 126 = .ok (.sipush 4115, 3) := by decide +kernel
theorem dX0_layOver_129 : decode cX0_layOver 129 = .ok (.bipush 6, 2) := by decide +kernel
theorem dX0_layOver_131 : decode cX0_layOver 131 = .ok (.bipush 6, 2) := by decide +kernel
theorem dX0_layOver_133 : decode cX0_layOver 133 = .ok (.iconst 1, 1) := by decide +kernel
theorem dX0_layOver_134 : decode cX0_layOver 134 = .ok (.invokevirtual 42, 3) := by decide +kernel
theorem dX0_layOver_137 : decode cX0_layOver 137 = .ok (.aload_n 0, 1) := by decide +kernel
theorem dX0_layOver_138 : decode cX0_layOver 138 = .ok (.sipush 24627, 3) := by decide +kernel
theorem dX0_layOver_141 : decode cX0_layOver 141 = .ok (.bipush 6, 2) := by decide +kernel
theorem dX0_layOver_143 : decode cX0_layOver 143 = .ok (.bipush 6, 2) := by decide +kernel
theorem dX0_layOver_145 : decode cX0_layOver 145 = .ok (.bipush 31, 2) := by decide +kernel
theorem dX0_layOver_147 : decode cX0_layOver 147 = .ok (.invokevirtual 125, 3) := by decide +kernel
theorem dX0_layOver_150 : decode cX0_layOver 150 = .ok (.aload_n 0, 1) := by decide +kernel
theorem dX0_layOver_151 : decode cX0_layOver 151 = .ok (.sipush 24675, 3) := by decide +kernel
theorem dX0_layOver_154 : decode cX0_layOver 154 = .ok (.bipush 6, 2) := by decide +kernel
theorem dX0_layOver_156 : decode cX0_layOver 156 = .ok (.bipush 10, 2) := by decide +kernel
theorem dX0_layOver_158 : decode cX0_layOver 158 = .ok (.bipush 12, 2) := by decide +kernel
theorem dX0_layOver_160 : decode cX0_layOver 160 = .ok (.invokevirtual 155, 3) := by decide +kernel
theorem dX0_layOver_163 : decode cX0_layOver 163 = .ok (.aload_n 0, 1) := by decide +kernel
theorem dX0_layOver_164 : decode cX0_layOver 164 = .ok (.ldc 124, 2) := by decide +kernel
theorem dX0_layOver_166 : decode cX0_layOver 166 = .ok (.bipush 6, 2) := by decide +kernel
theorem dX0_layOver_168 : decode cX0_layOver 168 = .ok (.bipush 6, 2) := by decide +kernel
theorem dX0_layOver_170 : decode cX0_layOver 170 = .ok (.bipush 10, 2) := by decide +kernel
theorem dX0_layOver_172 : decode cX0_layOver 172 = .ok (.invokevirtual 125, 3) := by decide +kernel
theorem dX0_layOver_175 : decode cX0_layOver 175 = .ok (.aload_n 0, 1) := by decide +kernel
theorem dX0_layOver_176 : decode cX0_layOver 176 = .ok (.sipush 24595, 3) := by decide +kernel
theorem dX0_layOver_179 : decode cX0_layOver 179 = .ok (.iconst 5, 1) := by decide +kernel
theorem dX0_layOver_180 : decode cX0_layOver 180 = .ok (.iconst 5, 1) := by decide +kernel
theorem dX0_layOver_181 : decode cX0_layOver 181 = .ok (.iconst 1, 1) := by decide +kernel
theorem dX0_layOver_182 : decode cX0_layOver 182 = .ok (.invokevirtual 42, 3) := by decide +kernel
theorem dX0_layOver_185 : decode cX0_layOver 185 = .ok (.aload_n 0, 1) := by decide +kernel
theorem dX0_layOver_186 : decode cX0_layOver 186 = .ok (.bipush 19, 2) := by decide +kernel
theorem dX0_layOver_188 : decode cX0_layOver 188 = .ok (.bipush 7, 2) := by decide +kernel
theorem dX0_layOver_190 : decode cX0_layOver 190 = .ok (.bipush 7, 2) := by decide +kernel
theorem dX0_layOver_192 : decode cX0_layOver 192 = .ok (.iconst (-1), 1) := by decide +kernel
theorem dX0_layOver_193 : decode cX0_layOver 193 = .ok (.invokevirtual 42, 3) := by decide +kernel
theorem dX0_layOver_196 : decode cX0_layOver 196 = .ok (.aload_n 0, 1) := by decide +kernel
theorem dX0_layOver_197 : decode cX0_layOver 197 = .ok (.sipush 4195, 3) := by decide +kernel
theorem dX0_layOver_200 : decode cX0_layOver 200 = .ok (.bipush 7, 2) := by decide +kernel
theorem dX0_layOver_202 : decode cX0_layOver 202 = .ok (.iconst 0, 1) := by decide +kernel
theorem dX0_layOver_203 : decode cX0_layOver 203 = .ok (.bipush (-32), 2) := by decide +kernel
theorem dX0_layOver_205 : decode cX0_layOver 205 = .ok (.invokevirtual 155, 3) := by decide +kernel
theorem dX0_layOver_208 : decode cX0_layOver 208 = .ok (.aload_n 0, 1) := by decide +kernel
theorem dX0_layOver_209 : decode cX0_layOver 209 = .ok (.bipush 19, 2) := by decide +kernel
theorem dX0_layOver_211 : decode cX0_layOver 211 = .ok (.bipush 10, 2) := by decide +kernel
theorem dX0_layOver_213 : decode cX0_layOver 213 = .ok (.iconst 5, 1) := by decide +kernel
theorem dX0_layOver_214 : decode cX0_layOver 214 = .ok (.iconst 0, 1) := by decide +kernel
theorem dX0_layOver_215 : decode cX0_layOver 215 = .ok (.invokevirtual 42, 3) := by decide +kernel
theorem dX0_layOver_218 : decode cX0_layOver 218 = .ok (.aload_n 0, 1) := by decide +kernel
theorem dX0_layOver_219 : decode cX0_layOver 219 = .ok (.sipush 20579, 3) := by decide +kernel
theorem dX0_layOver_222 : decode cX0_layOver 222 = .ok (.bipush 29, 2) := by decide +kernel
theorem dX0_layOver_224 : decode cX0_layOver 224 = .ok (.iconst 0, 1) := by decide +kernel
theorem dX0_layOver_225 : decode cX0_layOver 225 = .ok (.bipush 8, 2) := by decide +kernel
theorem dX0_layOver_227 : decode cX0_layOver 227 = .ok (.invokevirtual 155, 3) := by decide +kernel
theorem dX0_layOver_230 : decode cX0_layOver 230 = .ok (.aload_n 0, 1) := by decide +kernel
theorem dX0_layOver_231 : decode cX0_layOver 231 = .ok (.ldc 124, 2) := by decide +kernel
theorem dX0_layOver_233 : decode cX0_layOver 233 = .ok (.bipush 10, 2) := by decide +kernel
theorem dX0_layOver_235 : decode cX0_layOver 235 = .ok (.iconst 0, 1) := by decide +kernel
theorem dX0_layOver_236 : decode cX0_layOver 236 = .ok (.bipush 10, 2) := by decide +kernel
theorem dX0_layOver_238 : decode cX0_layOver 238 = .ok (.invokevirtual 125, 3) := by decide +kernel
theorem dX0_layOver_241 : decode cX0_layOver 241 = .ok (.aload_n 0, 1) := by decide +kernel
theorem dX0_layOver_242 : decode cX0_layOver 242 = .ok (.sipush 20579, 3) := by decide +kernel
theorem dX0_layOver_245 : decode cX0_layOver 245 = .ok (.bipush 30, 2) := by decide +kernel
theorem dX0_layOver_247 : decode cX0_layOver 247 = .ok (.iconst 0, 1) := by decide +kernel
theorem dX0_layOver_248 : decode cX0_layOver 248 = .ok (.bipush 8, 2) := by decide +kernel
theorem dX0_layOver_250 : decode cX0_layOver 250 = .ok (.invokevirtual 155, 3) := by decide +kernel
theorem dX0_layOver_253 : decode cX0_layOver 253 = .ok (.aload_n 0, 1) := by decide +kernel
theorem dX0_layOver_254 : decode cX0_layOver 254 = .ok (.ldc 124, 2) := by decide +kernel
theorem dX0_layOver_256 : decode cX0_layOver 256 = .ok (.bipush 6, 2) := by decide +kernel
theorem dX0_layOver_258 : decode cX0_layOver 258 = .ok (.iconst 0, 1) := by decide +kernel
theorem dX0_layOver_259 : decode cX0_layOver 259 = .ok (.bipush 6, 2) := by decide +kernel
theorem dX0_layOver_261 : decode cX0_layOver 261 = .ok (.invokevirtual 125, 3) := by decide +kernel
theorem dX0_layOver_264 : decode cX0_layOver 264 = .ok (.aload_n 0, 1) := by decide +kernel
theorem dX0_layOver_265 : decode cX0_layOver 265 = .ok (.bipush 103, 2) := by decide +kernel
theorem dX0_layOver_267 : decode cX0_layOver 267 = .ok (.iconst 0, 1) := by decide +kernel
theorem dX0_layOver_268 : decode cX0_layOver 268 = .ok (.bipush 28, 2) := by decide +kernel
theorem dX0_layOver_270 : decode cX0_layOver 270 = .ok (.iconst 0, 1) := by decide +kernel
theorem dX0_layOver_271 : decode cX0_layOver 271 = .ok (.invokevirtual 42, 3) := by decide +kernel
theorem dX0_layOver_274 : decode cX0_layOver 274 = .ok (.return_, 1) := by decide +kernel
theorem dX0_layPlace_0 : decode cX0_layPlace 0 = .ok (.aload_n 0, 1) := by decide +kernel
theorem dX0_layPlace_1 : decode cX0_layPlace 1 = .ok (.iload_n 2, 1) := by decide +kernel
theorem dX0_layPlace_2 : decode cX0_layPlace 2 = .ok (.invokevirtual 161, 3) := by decide +kernel
theorem tw_710 : (.code yX0_addressOfGlobal cX0_addressOfGlobal 2 (some .int) : Cond) ∈ tw_W := tw_in (t8_5 (List.mem_of_getElem? (i := 130) rfl)) rfl
theorem tw_711 : ∀ w ∈ ([.methodLink RX0 161 yX0_addressOfGlobal, .instanceMethod yX0_addressOfGlobal, .selects RX0 yX0_addressOfGlobal yX0_addressOfGlobal, .initialized RX0] : List Cond), w ∈ tw_W := al_c (tw_in (t8_5 (List.mem_of_getElem? (i := 127) rfl)) rfl) (al_c (tw_in (t8_5 (List.mem_of_getElem? (i := 129) rfl)) rfl) (al_c (tw_in (t7_5 (q := (yX0_addressOfGlobal, 9)) (List.mem_of_getElem? (i := 6) rfl)) rfl) (al_c (tw_in (t8_1 (List.mem_of_getElem? (i := 13) rfl)) rfl) al_n)))
theorem dX0_layPlace_5 : decode cX0_layPlace 5 = .ok (.istore 4, 2) := by decide +kernel
theorem dX0_layPlace_7 : decode cX0_layPlace 7 = .ok (.iload_n 1, 1) := by decide +kernel
theorem dX0_layPlace_8 : decode cX0_layPlace 8 = .ok (.tableswitch 189 5 11 #[44, 71, 95, 113, 132, 155, 170], 44) := by decide +kernel
theorem dX0_layPlace_52 : decode cX0_layPlace 52 = .ok (.aload_n 0, 1) := by decide +kernel
theorem dX0_layPlace_53 : decode cX0_layPlace 53 = .ok (.bipush 6, 2) := by decide +kernel
theorem dX0_layPlace_55 : decode cX0_layPlace 55 = .ok (.iload 4, 2) := by decide +kernel
theorem dX0_layPlace_57 : decode cX0_layPlace 57 = .ok (.invokevirtual 149, 3) := by decide +kernel
theorem dX0_layPlace_60 : decode cX0_layPlace 60 = .ok (.aload_n 0, 1) := by decide +kernel
theorem dX0_layPlace_61 : decode cX0_layPlace 61 = .ok (.sipush 8195, 3) := by decide +kernel
theorem dX0_layPlace_64 : decode cX0_layPlace 64 = .ok (.bipush 10, 2) := by decide +kernel
theorem dX0_layPlace_66 : decode cX0_layPlace 66 = .ok (.bipush 6, 2) := by decide +kernel
theorem dX0_layPlace_68 : decode cX0_layPlace 68 = .ok (.iload 4, 2) := by decide +kernel
theorem dX0_layPlace_70 : decode cX0_layPlace 70 = .ok (.invokestatic 152, 3) := by decide +kernel
theorem dX0_layPlace_73 : decode cX0_layPlace 73 = .ok (.invokevirtual 42, 3) := by decide +kernel
theorem dX0_layPlace_76 : decode cX0_layPlace 76 = .ok (.goto 121, 3) := by decide +kernel
theorem dX0_layPlace_197 : decode cX0_layPlace 197 = .ok (.return_, 1) := by decide +kernel
theorem dX0_layPlace_79 : decode cX0_layPlace 79 = .ok (.aload_n 0, 1) := by decide +kernel
theorem dX0_layPlace_80 : decode cX0_layPlace 80 = .ok (.bipush 6, 2) := by decide +kernel
theorem dX0_layPlace_82 : decode cX0_layPlace 82 = .ok (.iload 4, 2) := by decide +kernel
theorem dX0_layPlace_84 : decode cX0_layPlace 84 = .ok (.invokevirtual 149, 3) := by decide +kernel
theorem dX0_layPlace_87 : decode cX0_layPlace 87 = .ok (.aload_n 0, 1) := by decide +kernel
theorem dX0_layPlace_88 : decode cX0_layPlace 88 = .ok (.bipush 10, 2) := by decide +kernel
theorem dX0_layPlace_90 : decode cX0_layPlace 90 = .ok (.iload 4, 2) := by decide +kernel
theorem dX0_layPlace_92 : decode cX0_layPlace 92 = .ok (.invokestatic 152, 3) := by decide +kernel
theorem dX0_layPlace_95 : decode cX0_layPlace 95 = .ok (.bipush 6, 2) := by decide +kernel
theorem dX0_layPlace_97 : decode cX0_layPlace 97 = .ok (.invokevirtual 105, 3) := by decide +kernel
theorem dX0_layPlace_100 : decode cX0_layPlace 100 = .ok (.goto 97, 3) := by decide +kernel
theorem dX0_layPlace_103 : decode cX0_layPlace 103 = .ok (.aload_n 0, 1) := by decide +kernel
theorem dX0_layPlace_104 : decode cX0_layPlace 104 = .ok (.aload_n 0, 1) := by decide +kernel
theorem dX0_layPlace_105 : decode cX0_layPlace 105 = .ok (.getfield 15, 3) := by decide +kernel
theorem dX0_layPlace_108 : decode cX0_layPlace 108 = .ok (.iload_n 2, 1) := by decide +kernel
theorem dX0_layPlace_109 : decode cX0_layPlace 109 = .ok (.iconst 0, 1) := by decide +kernel
theorem dX0_layPlace_110 : decode cX0_layPlace 110 = .ok (.invokevirtual 91, 3) := by decide +kernel
theorem dX0_layPlace_113 : decode cX0_layPlace 113 = .ok (.iload 4, 2) := by decide +kernel
theorem dX0_layPlace_115 : decode cX0_layPlace 115 = .ok (.invokevirtual 164, 3) := by decide +kernel
theorem tw_712 : (.code yX0_layIndex cX0_layIndex 3 none : Cond) ∈ tw_W := tw_in (t8_5 (List.mem_of_getElem? (i := 135) rfl)) rfl
theorem tw_713 : ∀ w ∈ ([.methodLink RX0 164 yX0_layIndex, .instanceMethod yX0_layIndex, .selects RX0 yX0_layIndex yX0_layIndex, .initialized RX0] : List Cond), w ∈ tw_W := al_c (tw_in (t8_5 (List.mem_of_getElem? (i := 132) rfl)) rfl) (al_c (tw_in (t8_5 (List.mem_of_getElem? (i := 134) rfl)) rfl) (al_c (tw_in (t7_5 (q := (yX0_layIndex, 9)) (List.mem_of_getElem? (i := 7) rfl)) rfl) (al_c (tw_in (t8_1 (List.mem_of_getElem? (i := 13) rfl)) rfl) al_n)))
theorem dX0_layPlace_118 : decode cX0_layPlace 118 = .ok (.goto 79, 3) := by decide +kernel
theorem dX0_layPlace_121 : decode cX0_layPlace 121 = .ok (.aload_n 0, 1) := by decide +kernel
theorem dX0_layPlace_122 : decode cX0_layPlace 122 = .ok (.sipush 8195, 3) := by decide +kernel
theorem dX0_layPlace_125 : decode cX0_layPlace 125 = .ok (.bipush 10, 2) := by decide +kernel
theorem dX0_layPlace_127 : decode cX0_layPlace 127 = .ok (.bipush 10, 2) := by decide +kernel
theorem dX0_layPlace_129 : decode cX0_layPlace 129 = .ok (.iload 4, 2) := by decide +kernel
theorem dX0_layPlace_131 : decode cX0_layPlace 131 = .ok (.invokestatic 152, 3) := by decide +kernel
theorem dX0_layPlace_134 : decode cX0_layPlace 134 = .ok (.invokevirtual 42, 3) := by decide +kernel
theorem dX0_layPlace_137 : decode cX0_layPlace 137 = .ok (.goto 60, 3) := by decide +kernel
theorem dX0_layPlace_140 : decode cX0_layPlace 140 = .ok (.aload_n 0, 1) := by decide +kernel
theorem dX0_layPlace_141 : decode cX0_layPlace 141 = .ok (.bipush 19, 2) := by decide +kernel
theorem dX0_layPlace_143 : decode cX0_layPlace 143 = .ok (.bipush 10, 2) := by decide +kernel
theorem dX0_layPlace_145 : decode cX0_layPlace 145 = .ok (.bipush 10, 2) := by decide +kernel
theorem dX0_layPlace_147 : decode cX0_layPlace 147 = .ok (.iload 4, 2) := by decide +kernel
theorem dX0_layPlace_149 : decode cX0_layPlace 149 = .ok (.invokestatic 152, 3) := by decide +kernel
theorem dX0_layPlace_152 : decode cX0_layPlace 152 = .ok (.invokevirtual 42, 3) := by decide +kernel
theorem dX0_layPlace_155 : decode cX0_layPlace 155 = .ok (.aload_n 0, 1) := by decide +kernel
theorem dX0_layPlace_156 : decode cX0_layPlace 156 = .ok (.iload_n 3, 1) := by decide +kernel
theorem dX0_layPlace_157 : decode cX0_layPlace 157 = .ok (.invokevirtual 121, 3) := by decide +kernel
theorem tw_714 : (.code yX0_storeSlot cX0_storeSlot 2 none : Cond) ∈ tw_W := tw_in (t8_5 (List.mem_of_getElem? (i := 88) rfl)) rfl
theorem tw_715 : ∀ w ∈ ([.methodLink RX0 121 yX0_storeSlot, .instanceMethod yX0_storeSlot, .selects RX0 yX0_storeSlot yX0_storeSlot, .initialized RX0] : List Cond), w ∈ tw_W := al_c (tw_in (t8_5 (List.mem_of_getElem? (i := 85) rfl)) rfl) (al_c (tw_in (t8_5 (List.mem_of_getElem? (i := 87) rfl)) rfl) (al_c (tw_in (t7_4 (q := (yX0_storeSlot, 9)) (List.mem_of_getElem? (i := 12) rfl)) rfl) (al_c (tw_in (t8_1 (List.mem_of_getElem? (i := 13) rfl)) rfl) al_n)))
theorem dX0_layPlace_160 : decode cX0_layPlace 160 = .ok (.goto 37, 3) := by decide +kernel
theorem dX0_layPlace_163 : decode cX0_layPlace 163 = .ok (.aload_n 0, 1) := by decide +kernel
theorem dX0_layPlace_164 : decode cX0_layPlace 164 = .ok (.sipush 8195, 3) := by decide +kernel
theorem dX0_layPlace_167 : decode cX0_layPlace 167 = .ok (.bipush 10, 2) := by decide +kernel
theorem dX0_layPlace_169 : decode cX0_layPlace 169 = .ok (.bipush 10, 2) := by decide +kernel
theorem dX0_layPlace_171 : decode cX0_layPlace 171 = .ok (.iconst 0, 1) := by decide +kernel
theorem dX0_layPlace_172 : decode cX0_layPlace 172 = .ok (.invokevirtual 42, 3) := by decide +kernel
theorem dX0_layPlace_175 : decode cX0_layPlace 175 = .ok (.goto 22, 3) := by decide +kernel
theorem dX0_layPlace_178 : decode cX0_layPlace 178 = .ok (.aload_n 0, 1) := by decide +kernel
theorem dX0_layPlace_179 : decode cX0_layPlace 179 = .ok (.bipush 6, 2) := by decide +kernel
theorem dX0_layPlace_181 : decode cX0_layPlace 181 = .ok (.iload_n 2, 1) := by decide +kernel
theorem dX0_layPlace_182 : decode cX0_layPlace 182 = .ok (.invokevirtual 117, 3) := by decide +kernel
theorem tw_716 : (.code yX0_loadSlot cX0_loadSlot 3 none : Cond) ∈ tw_W := tw_in (t8_5 (List.mem_of_getElem? (i := 84) rfl)) rfl
theorem tw_717 : ∀ w ∈ ([.methodLink RX0 117 yX0_loadSlot, .instanceMethod yX0_loadSlot, .selects RX0 yX0_loadSlot yX0_loadSlot, .initialized RX0] : List Cond), w ∈ tw_W := al_c (tw_in (t8_5 (List.mem_of_getElem? (i := 81) rfl)) rfl) (al_c (tw_in (t8_5 (List.mem_of_getElem? (i := 83) rfl)) rfl) (al_c (tw_in (t7_4 (q := (yX0_loadSlot, 9)) (List.mem_of_getElem? (i := 11) rfl)) rfl) (al_c (tw_in (t8_1 (List.mem_of_getElem? (i := 13) rfl)) rfl) al_n)))
theorem dX0_layPlace_185 : decode cX0_layPlace 185 = .ok (.aload_n 0, 1) := by decide +kernel
theorem dX0_layPlace_186 : decode cX0_layPlace 186 = .ok (.bipush 10, 2) := by decide +kernel
theorem dX0_layPlace_188 : decode cX0_layPlace 188 = .ok (.iconst 0, 1) := by decide +kernel
theorem dX0_layPlace_189 : decode cX0_layPlace 189 = .ok (.bipush 6, 2) := by decide +kernel
theorem dX0_layPlace_191 : decode cX0_layPlace 191 = .ok (.invokevirtual 105, 3) := by decide +kernel
theorem dX0_layPlace_194 : decode cX0_layPlace 194 = .ok (.goto 3, 3) := by decide +kernel
theorem dX0_layEnter_0 : decode cX0_layEnter 0 = .ok (.aload_n 0, 1) := by decide +kernel
theorem dX0_layEnter_1 : decode cX0_layEnter 1 = .ok (.getfield 15, 3) := by decide +kernel
theorem dX0_layEnter_4 : decode cX0_layEnter 4 = .ok (.iload_n 1, 1) := by decide +kernel
theorem dX0_layEnter_5 : decode cX0_layEnter 5 = .ok (.iconst 2, 1) := by decide +kernel
theorem dX0_layEnter_6 : decode cX0_layEnter 6 = .ok (.invokevirtual 143, 3) := by decide +kernel
theorem dX0_layEnter_9 : decode cX0_layEnter 9 = .ok (.istore_n 2, 1) := by decide +kernel
theorem dX0_layEnter_10 : decode cX0_layEnter 10 = .ok (.aload_n 0, 1) := by decide +kernel
theorem dX0_layEnter_11 : decode cX0_layEnter 11 = .ok (.getfield 15, 3) := by decide +kernel
theorem dX0_layEnter_14 : decode cX0_layEnter 14 = .ok (.iload_n 1, 1) := by decide +kernel
theorem dX0_layEnter_15 : decode cX0_layEnter 15 = .ok (.iconst 1, 1) := by decide +kernel
theorem dX0_layEnter_16 : decode cX0_layEnter 16 = .ok (.iconst 4, 1) := by decide +kernel
theorem dX0_layEnter_17 : decode cX0_layEnter 17 = .ok (.aload_n 0, 1) := by decide +kernel
theorem dX0_layEnter_18 : decode cX0_layEnter 18 = .ok (.getfield 33, 3) := by decide +kernel
theorem dX0_layEnter_21 : decode cX0_layEnter 21 = .ok (.imul, 1) := by decide +kernel
theorem dX0_layEnter_22 : decode cX0_layEnter 22 = .ok (.invokevirtual 146, 3) := by decide +kernel
theorem tw_718 : ∀ w ∈ ([.methodLink RX0 146 yX7_changeFunction, .instanceMethod yX7_changeFunction, .selects RX7 yX7_changeFunction yX7_changeFunction, .initialized RX7] : List Cond), w ∈ tw_W := al_c (tw_in (t8_5 (List.mem_of_getElem? (i := 47) rfl)) rfl) (al_c (tw_in (t8_3 (List.mem_of_getElem? (i := 234) rfl)) rfl) (al_c (tw_in (t8_3 (List.mem_of_getElem? (i := 235) rfl)) rfl) (al_c (tw_in (t8_1 (List.mem_of_getElem? (i := 8) rfl)) rfl) al_n)))
theorem dX0_layEnter_25 : decode cX0_layEnter 25 = .ok (.aload_n 0, 1) := by decide +kernel
theorem dX0_layEnter_26 : decode cX0_layEnter 26 = .ok (.bipush 19, 2) := by decide +kernel
theorem dX0_layEnter_28 : decode cX0_layEnter 28 = .ok (.iconst 2, 1) := by decide +kernel
theorem dX0_layEnter_29 : decode cX0_layEnter 29 = .ok (.iconst 2, 1) := by decide +kernel
theorem dX0_layEnter_30 : decode cX0_layEnter 30 = .ok (.iload_n 2, 1) := by decide +kernel
theorem dX0_layEnter_31 : decode cX0_layEnter 31 = .ok (.ineg, 1) := by decide +kernel
theorem dX0_layEnter_32 : decode cX0_layEnter 32 = .ok (.invokevirtual 42, 3) := by decide +kernel
theorem dX0_layEnter_35 : decode cX0_layEnter 35 = .ok (.aload_n 0, 1) := by decide +kernel
theorem dX0_layEnter_36 : decode cX0_layEnter 36 = .ok (.bipush 6, 2) := by decide +kernel
theorem dX0_layEnter_38 : decode cX0_layEnter 38 = .ok (.aload_n 0, 1) := by decide +kernel
theorem dX0_layEnter_39 : decode cX0_layEnter 39 = .ok (.getfield 15, 3) := by decide +kernel
theorem dX0_layEnter_42 : decode cX0_layEnter 42 = .ok (.getfield 30, 3) := by decide +kernel
theorem tw_719 : (.fieldLink RX0 30 "PocketCompiler$Program" "limit" "I" : Cond) ∈ tw_W := tw_in (t8_1 (List.mem_of_getElem? (i := 148) rfl)) rfl
theorem dX0_layEnter_45 : decode cX0_layEnter 45 = .ok (.invokevirtual 149, 3) := by decide +kernel
theorem dX0_layEnter_48 : decode cX0_layEnter 48 = .ok (.aload_n 0, 1) := by decide +kernel
theorem dX0_layEnter_49 : decode cX0_layEnter 49 = .ok (.bipush 19, 2) := by decide +kernel
theorem dX0_layEnter_51 : decode cX0_layEnter 51 = .ok (.bipush 6, 2) := by decide +kernel
theorem dX0_layEnter_53 : decode cX0_layEnter 53 = .ok (.bipush 6, 2) := by decide +kernel
theorem dX0_layEnter_55 : decode cX0_layEnter 55 = .ok (.aload_n 0, 1) := by decide +kernel
theorem dX0_layEnter_56 : decode cX0_layEnter 56 = .ok (.getfield 15, 3) := by decide +kernel
theorem dX0_layEnter_59 : decode cX0_layEnter 59 = .ok (.getfield 30, 3) := by decide +kernel
theorem dX0_layEnter_62 : decode cX0_layEnter 62 = .ok (.invokestatic 152, 3) := by decide +kernel
theorem dX0_layEnter_65 : decode cX0_layEnter 65 = .ok (.invokevirtual 42, 3) := by decide +kernel
theorem dX0_layEnter_68 : decode cX0_layEnter 68 = .ok (.aload_n 0, 1) := by decide +kernel
theorem dX0_layEnter_69 : decode cX0_layEnter 69 = .ok (.sipush 20579, 3) := by decide +kernel
theorem dX0_layEnter_72 : decode cX0_layEnter 72 = .ok (.iconst 2, 1) := by decide +kernel
theorem dX0_layEnter_73 : decode cX0_layEnter 73 = .ok (.bipush 6, 2) := by decide +kernel
theorem dX0_layEnter_75 : decode cX0_layEnter 75 = .ok (.bipush 12, 2) := by decide +kernel
theorem dX0_layEnter_77 : decode cX0_layEnter 77 = .ok (.invokevirtual 155, 3) := by decide +kernel
theorem dX0_layEnter_80 : decode cX0_layEnter 80 = .ok (.aload_n 0, 1) := by decide +kernel
theorem dX0_layEnter_81 : decode cX0_layEnter 81 = .ok (.iconst 1, 1) := by decide +kernel
theorem dX0_layEnter_82 : decode cX0_layEnter 82 = .ok (.invokevirtual 158, 3) := by decide +kernel
theorem dX0_layEnter_85 : decode cX0_layEnter 85 = .ok (.aload_n 0, 1) := by decide +kernel
theorem dX0_layEnter_86 : decode cX0_layEnter 86 = .ok (.iconst 1, 1) := by decide +kernel
theorem dX0_layEnter_87 : decode cX0_layEnter 87 = .ok (.iload_n 2, 1) := by decide +kernel
theorem dX0_layEnter_88 : decode cX0_layEnter 88 = .ok (.iconst 4, 1) := by decide +kernel
theorem dX0_layEnter_89 : decode cX0_layEnter 89 = .ok (.isub, 1) := by decide +kernel
theorem dX0_layEnter_90 : decode cX0_layEnter 90 = .ok (.iconst 2, 1) := by decide +kernel
theorem dX0_layEnter_91 : decode cX0_layEnter 91 = .ok (.invokevirtual 105, 3) := by decide +kernel
theorem dX0_layEnter_94 : decode cX0_layEnter 94 = .ok (.aload_n 0, 1) := by decide +kernel
theorem dX0_layEnter_95 : decode cX0_layEnter 95 = .ok (.bipush 8, 2) := by decide +kernel
theorem dX0_layEnter_97 : decode cX0_layEnter 97 = .ok (.iload_n 2, 1) := by decide +kernel
theorem dX0_layEnter_98 : decode cX0_layEnter 98 = .ok (.bipush 8, 2) := by decide +kernel
theorem dX0_layEnter_100 : decode cX0_layEnter 100 = .ok (.isub, 1) := by decide +kernel
theorem dX0_layEnter_101 : decode cX0_layEnter 101 = .ok (.iconst 2, 1) := by decide +kernel
theorem dX0_layEnter_102 : decode cX0_layEnter 102 = .ok (.invokevirtual 105, 3) := by decide +kernel
theorem dX0_layEnter_105 : decode cX0_layEnter 105 = .ok (.aload_n 0, 1) := by decide +kernel
theorem dX0_layEnter_106 : decode cX0_layEnter 106 = .ok (.bipush 19, 2) := by decide +kernel
theorem dX0_layEnter_108 : decode cX0_layEnter 108 = .ok (.bipush 8, 2) := by decide +kernel
theorem dX0_layEnter_110 : decode cX0_layEnter 110 = .ok (.iconst 2, 1) := by decide +kernel
theorem dX0_layEnter_111 : decode cX0_layEnter 111 = .ok (.iload_n 2, 1) := by decide +kernel
theorem dX0_layEnter_112 : decode cX0_layEnter 112 = .ok (.invokevirtual 42, 3) := by decide +kernel
theorem dX0_layEnter_115 : decode cX0_layEnter 115 = .ok (.iconst 0, 1) := by decide +kernel
theorem dX0_layEnter_116 : decode cX0_layEnter 116 = .ok (.istore_n 3, 1) := by decide +kernel
theorem dX0_layEnter_117 : decode cX0_layEnter 117 = .ok (.iload_n 3, 1) := by decide +kernel
theorem dX0_layEnter_118 : decode cX0_layEnter 118 = .ok (.aload_n 0, 1) := by decide +kernel
theorem dX0_layEnter_119 : decode cX0_layEnter 119 = .ok (.getfield 15, 3) := by decide +kernel
theorem dX0_layEnter_122 : decode cX0_layEnter 122 = .ok (.iload_n 1, 1) := by decide +kernel
theorem dX0_layEnter_123 : decode cX0_layEnter 123 = .ok (.iconst 0, 1) := by decide +kernel
theorem dX0_layEnter_124 : decode cX0_layEnter 124 = .ok (.invokevirtual 143, 3) := by decide +kernel
theorem dX0_layEnter_127 : decode cX0_layEnter 127 = .ok (.if_icmp .ge 35, 3) := by decide +kernel
theorem dX0_layEnter_162 : decode cX0_layEnter 162 = .ok (.return_, 1) := by decide +kernel
theorem dX0_layEnter_130 : decode cX0_layEnter 130 = .ok (.aload_n 0, 1) := by decide +kernel
theorem dX0_layEnter_131 : decode cX0_layEnter 131 = .ok (.sipush 8195, 3) := by decide +kernel
theorem dX0_layEnter_134 : decode cX0_layEnter 134 = .ok (.bipush 6, 2) := by decide +kernel
theorem dX0_layEnter_136 : decode cX0_layEnter 136 = .ok (.iconst 5, 1) := by decide +kernel
theorem dX0_layEnter_137 : decode cX0_layEnter 137 = .ok (.bipush (-4), 2) := by decide +kernel
theorem dX0_layEnter_139 : decode cX0_layEnter 139 = .ok (.iload_n 3, 1) := by decide +kernel
theorem dX0_layEnter_140 : decode cX0_layEnter 140 = .ok (.imul, 1) := by decide +kernel
theorem dX0_layEnter_141 : decode cX0_layEnter 141 = .ok (.invokevirtual 42, 3) := by decide +kernel
theorem dX0_layEnter_144 : decode cX0_layEnter 144 = .ok (.aload_n 0, 1) := by decide +kernel
theorem dX0_layEnter_145 : decode cX0_layEnter 145 = .ok (.bipush 6, 2) := by decide +kernel
theorem dX0_layEnter_147 : decode cX0_layEnter 147 = .ok (.iload_n 3, 1) := by decide +kernel
theorem dX0_layEnter_148 : decode cX0_layEnter 148 = .ok (.invokestatic 102, 3) := by decide +kernel
theorem dX0_layEnter_151 : decode cX0_layEnter 151 = .ok (.bipush 8, 2) := by decide +kernel
theorem dX0_layEnter_153 : decode cX0_layEnter 153 = .ok (.invokevirtual 105, 3) := by decide +kernel
theorem dX0_layEnter_156 : decode cX0_layEnter 156 = .ok (.iinc 3 1, 3) := by decide +kernel
theorem dX0_layEnter_159 : decode cX0_layEnter 159 = .ok (.goto (-42), 3) := by decide +kernel
set_option maxHeartbeats 4000000 in
set_option maxRecDepth 100000 in
theorem c_x_X0_layComparison (l : Launch) (dC : Nat → ClassId) (dI : Nat → Nat → Nat) (cI cB cZ cJ cR : ClassId) (tb : Nat → Nat) (sz : Nat) (ad : Nat → Nat) (pr : Int32 → Nat) (N : Nat) (L1 L2 : List Nat) (v : MS) (pa : Int32) (ps : Int32) (zNN : (N : Int) ≤ 4096) (hps : pr ps = ad 908) (es334 : (v.1 0 334) = ps) (zs : 0 ≤ (v.1 0 337).toInt ∧ (v.1 0 337).toInt + 2 ≤ 7000000) : Met l yX0_layComparison (Cond.code yX0_layComparison cX0_layComparison 2 none :: tw_W) ({ frames := 2, cells := 0, slots := 0, locals := 45 }) (pc_ (dC, dI) (tyS cI cB cZ cJ cR) tb (cW ad pr N cI cR L1 L2 v) sz [.ref (ad 904), .int pa]) (qv_ (dC, dI) (cW ad pr N cI cR L1 L2 v) sz (fun (u : MS) => FC [337] [0, 382] v u ∧ (Q_x_X0_layComparison L1 L2 N v pa u) ∧ ((v.1 0 337).toInt ≤ (u.1 0 337).toInt ∧ (u.1 0 337).toInt ≤ (v.1 0 337).toInt + 2) ∧ (RS v u)) (fun (u : MS) => (cW ad pr N cI cR L1 L2 u))) 0 0 (va_A (cW ad pr N cI cR L1 L2 v) sz) := by
  refine Met.ofW (cc := cX0_layComparison) (maxL := 2) (ret := none) (by decide) rfl ?_
  intro p e s m args below meth c s₁ B hml hv
  obtain ⟨rfl, hsz, hP, hKK, hD0, hFx⟩ := hv
  have hK := hKK.1
  have hx := B.exec
  have hb := B.bytes
  have hr := B.returns
  have ht : ∀ w ∈ tw_W, w.before _ s = true := fun w h => atoms_spec (ws := Cond.code yX0_layComparison cX0_layComparison 2 none :: tw_W) B.pre w (List.mem_cons_of_mem _ h)
  have hown : s.vm.findClass RX0 = some m.cls := findClass_of_methodNamed B.named
  have hlocks := B.notSynchronized
  subst hsz
  unfold qv_
  have hD := hD0.self (sz := s.heap.size)
  generalize hAe : va_A (cW ad pr N cI cR L1 L2 v) s.heap.size = A at hD hFx ⊢
  have hA : ∀ q : Nat, s.heap.size ≤ q → A q := fun q h => by rw [← hAe]; exact Or.inr h
  have hS : va_S A s.heap s.heap [] := va_S.rf
  have hl := lv_entry ([.ref (ad 904), .int pa]) (n := 2) (Nat.le_of_ble_eq_true rfl)
  rw [lg_entry_eq]
  generalize (lg_sl ([.ref (ad 904), .int pa]) ++ List.replicate (2 - (lg_sl ([.ref (ad 904), .int pa])).length) Slot.unset).toArray = ls at hl ⊢
  have hl : lv_has ls 2 [(0, .ref (ad 904)), (1, .int pa)] := hl
  refine lv_iload_n hx hb dX0_layComparison_0 rfl (lv_at hl 1 rfl) ?_
  by_cases h1 : pa = 63
  · refine lv_tableIn (off := 123) (tgt := 124) hx hb dX0_layComparison_1 (by rw [h1]; decide) (by rw [h1]; decide) (by rw [h1]; decide) (by decide) ?_
    refine lv_aload_n hx hb dX0_layComparison_124 rfl (lv_at hl 0 rfl) ?_
    refine lv_ldc (v := 1073741875) hx hb hown (ht _ tw_700) dX0_layComparison_125 ?_
    refine lv_bipush (v := 10) hx hb dX0_layComparison_127 (by decide) ?_
    refine lv_iconst (v := 5) hx hb dX0_layComparison_129 (by decide) ?_
    refine lv_bipush (v := 10) hx hb dX0_layComparison_130 (by decide) ?_
    refine cu_v (rn_Vk (n := 4) (As := [.int 1073741875, .int 10, .int 5, .int 10]) (rest := []) hx hb hml hown ht hKK hFx hP hD hS hA (c_x_X0_three l dC dI cI cB cZ cJ cR tb s.heap.size ad pr N L1 L2 v (1073741875 : Int32) (10 : Int32) (5 : Int32) (10 : Int32) ps (show (N : Int) ≤ 4096 from (om_1c2c49c46c zNN)) (show pr ps = ad 908 from hps) (show (v.1 0 334) = ps from es334) (show 0 ≤ (v.1 0 337).toInt ∧ (v.1 0 337).toInt + 1 ≤ 7000000 from (om_d0491bd047 zs))) tw_693 tw_694 (by decide +kernel) rfl rfl ⟨Nat.le_of_ble_eq_true rfl, Nat.le_of_ble_eq_true rfl⟩ (List.range (cW ad pr N cI cR L1 L2 v).length) (rg_map _) (nd_range _) 4 rfl rfl rfl rfl hl.1 rfl (Nat.le_of_ble_eq_true rfl) dX0_layComparison_132 ⟨Nat.le_of_ble_eq_true rfl, Nat.le_of_ble_eq_true rfl⟩) hP hD hS hA (fun u3 H locs hw2 hP hD hS => ?_)
    obtain ⟨fr2, ex2, pz2, rs2⟩ := hw2
    refine W.widen (k := 0) (n := 0) (Nat.le_refl _) (Nat.le_refl _) ?_
    refine lv_aload_n hx hb dX0_layComparison_135 rfl (lv_at hl 0 rfl) ?_
    refine lv_sipush (v := 12307) hx hb dX0_layComparison_136 (by decide) ?_
    refine lv_bipush (v := 10) hx hb dX0_layComparison_139 (by decide) ?_
    refine lv_bipush (v := 10) hx hb dX0_layComparison_141 (by decide) ?_
    refine lv_iconst (v := 1) hx hb dX0_layComparison_143 (by decide) ?_
    refine cu_v (rn_Vk (n := 4) (As := [.int 12307, .int 10, .int 10, .int 1]) (rest := []) hx hb hml hown ht hKK hFx hP hD hS hA (c_x_X0_immediate l dC dI cI cB cZ cJ cR tb H.size ad pr N L1 L2 u3 (12307 : Int32) (10 : Int32) (10 : Int32) (1 : Int32) ps (show (N : Int) ≤ 4096 from (om_1c2c49c46c zNN)) (show pr ps = ad 908 from hps) (show (u3.1 0 334) = ps from (Eq.trans (fr2.2.1 334 (by decide)) es334)) (show 0 ≤ (u3.1 0 337).toInt ∧ (u3.1 0 337).toInt + 1 ≤ 7000000 from (om_d2a48ee112 zs pz2))) tw_678 tw_679 (by decide +kernel) rfl rfl ⟨Nat.le_of_ble_eq_true rfl, Nat.le_of_ble_eq_true rfl⟩ (List.range (cW ad pr N cI cR L1 L2 u3).length) (rg_map _) (nd_range _) 4 rfl rfl rfl rfl hl.1 rfl (Nat.le_of_ble_eq_true rfl) dX0_layComparison_144 ⟨Nat.le_of_ble_eq_true rfl, Nat.le_of_ble_eq_true rfl⟩) hP hD hS hA (fun u6 H locs hw5 hP hD hS => ?_)
    obtain ⟨fr5, ex5, pz5, rs5⟩ := hw5
    have pz5 : (u6.1 0 337).toInt = (u3.1 0 337).toInt + 1 := pz5
    have rs5 : RS u3 u6 := rs5
    refine W.widen (k := 0) (n := 0) (Nat.le_refl _) (Nat.le_refl _) ?_
    refine lv_goto (tgt := 176) hx hb dX0_layComparison_147 (by decide) ?_
    exact W.vret hx hb hr (fun t ht9 hW => ⟨⟨u6, rfl, ⟨(FC.tr (FC.tr (FC.rf _) (FC.up fr2 (by decide) (by decide))) (FC.up fr5 (by decide) (by decide))), ⟨zs, (Or.inl ⟨h1, u3, ex2, ⟨fr2, pz2, rs2⟩, u6, ex5, ⟨fr5, pz5, rs5⟩, rfl⟩)⟩, (show (v.1 0 337).toInt ≤ (u6.1 0 337).toInt ∧ (u6.1 0 337).toInt ≤ (v.1 0 337).toInt + 2 from (om_44baea2434 pz2 pz5)), (RS.tr (RS.tr RS.rf rs2) rs5)⟩, by rw [ht9]; exact hP, hD⟩, hS.F ht9⟩) hS.2.2 dX0_layComparison_176
  ·
    by_cases h8 : pa = 64
    · refine lv_tableIn (off := 149) (tgt := 150) hx hb dX0_layComparison_1 (by rw [h8]; decide) (by rw [h8]; decide) (by rw [h8]; decide) (by decide) ?_
      refine lv_aload_n hx hb dX0_layComparison_150 rfl (lv_at hl 0 rfl) ?_
      refine lv_ldc (v := 1073741875) hx hb hown (ht _ tw_700) dX0_layComparison_151 ?_
      refine lv_bipush (v := 10) hx hb dX0_layComparison_153 (by decide) ?_
      refine lv_iconst (v := 5) hx hb dX0_layComparison_155 (by decide) ?_
      refine lv_bipush (v := 10) hx hb dX0_layComparison_156 (by decide) ?_
      refine cu_v (rn_Vk (n := 4) (As := [.int 1073741875, .int 10, .int 5, .int 10]) (rest := []) hx hb hml hown ht hKK hFx hP hD hS hA (c_x_X0_three l dC dI cI cB cZ cJ cR tb s.heap.size ad pr N L1 L2 v (1073741875 : Int32) (10 : Int32) (5 : Int32) (10 : Int32) ps (show (N : Int) ≤ 4096 from (om_1c2c49c46c zNN)) (show pr ps = ad 908 from hps) (show (v.1 0 334) = ps from es334) (show 0 ≤ (v.1 0 337).toInt ∧ (v.1 0 337).toInt + 1 ≤ 7000000 from (om_d0491bd047 zs))) tw_693 tw_694 (by decide +kernel) rfl rfl ⟨Nat.le_of_ble_eq_true rfl, Nat.le_of_ble_eq_true rfl⟩ (List.range (cW ad pr N cI cR L1 L2 v).length) (rg_map _) (nd_range _) 4 rfl rfl rfl rfl hl.1 rfl (Nat.le_of_ble_eq_true rfl) dX0_layComparison_158 ⟨Nat.le_of_ble_eq_true rfl, Nat.le_of_ble_eq_true rfl⟩) hP hD hS hA (fun u10 H locs hw9 hP hD hS => ?_)
      obtain ⟨fr9, ex9, pz9, rs9⟩ := hw9
      refine W.widen (k := 0) (n := 0) (Nat.le_refl _) (Nat.le_refl _) ?_
      refine lv_aload_n hx hb dX0_layComparison_161 rfl (lv_at hl 0 rfl) ?_
      refine lv_sipush (v := 12339) hx hb dX0_layComparison_162 (by decide) ?_
      refine lv_bipush (v := 10) hx hb dX0_layComparison_165 (by decide) ?_
      refine lv_iconst (v := 0) hx hb dX0_layComparison_167 (by decide) ?_
      refine lv_bipush (v := 10) hx hb dX0_layComparison_168 (by decide) ?_
      refine cu_v (rn_Vk (n := 4) (As := [.int 12339, .int 10, .int 0, .int 10]) (rest := []) hx hb hml hown ht hKK hFx hP hD hS hA (c_x_X0_three l dC dI cI cB cZ cJ cR tb H.size ad pr N L1 L2 u10 (12339 : Int32) (10 : Int32) (0 : Int32) (10 : Int32) ps (show (N : Int) ≤ 4096 from (om_1c2c49c46c zNN)) (show pr ps = ad 908 from hps) (show (u10.1 0 334) = ps from (Eq.trans (fr9.2.1 334 (by decide)) es334)) (show 0 ≤ (u10.1 0 337).toInt ∧ (u10.1 0 337).toInt + 1 ≤ 7000000 from (om_d2a48ee112 zs pz9))) tw_693 tw_694 (by decide +kernel) rfl rfl ⟨Nat.le_of_ble_eq_true rfl, Nat.le_of_ble_eq_true rfl⟩ (List.range (cW ad pr N cI cR L1 L2 u10).length) (rg_map _) (nd_range _) 4 rfl rfl rfl rfl hl.1 rfl (Nat.le_of_ble_eq_true rfl) dX0_layComparison_170 ⟨Nat.le_of_ble_eq_true rfl, Nat.le_of_ble_eq_true rfl⟩) hP hD hS hA (fun u13 H locs hw12 hP hD hS => ?_)
      obtain ⟨fr12, ex12, pz12, rs12⟩ := hw12
      have pz12 : (u13.1 0 337).toInt = (u10.1 0 337).toInt + 1 := pz12
      have rs12 : RS u10 u13 := rs12
      refine W.widen (k := 0) (n := 0) (Nat.le_refl _) (Nat.le_refl _) ?_
      refine lv_goto (tgt := 176) hx hb dX0_layComparison_173 (by decide) ?_
      exact W.vret hx hb hr (fun t ht9 hW => ⟨⟨u13, rfl, ⟨(FC.tr (FC.tr (FC.rf _) (FC.up fr9 (by decide) (by decide))) (FC.up fr12 (by decide) (by decide))), ⟨zs, (Or.inr (⟨h1, (Or.inl ⟨h8, u10, ex9, ⟨fr9, pz9, rs9⟩, u13, ex12, ⟨fr12, pz12, rs12⟩, rfl⟩)⟩))⟩, (show (v.1 0 337).toInt ≤ (u13.1 0 337).toInt ∧ (u13.1 0 337).toInt ≤ (v.1 0 337).toInt + 2 from (om_44baea2434 pz9 pz12)), (RS.tr (RS.tr RS.rf rs9) rs12)⟩, by rw [ht9]; exact hP, hD⟩, hS.F ht9⟩) hS.2.2 dX0_layComparison_176
    ·
      by_cases h15 : pa = 65
      · refine lv_tableIn (off := 39) (tgt := 40) hx hb dX0_layComparison_1 (by rw [h15]; decide) (by rw [h15]; decide) (by rw [h15]; decide) (by decide) ?_
        refine lv_aload_n hx hb dX0_layComparison_40 rfl (lv_at hl 0 rfl) ?_
        refine lv_sipush (v := 8243) hx hb dX0_layComparison_41 (by decide) ?_
        refine lv_bipush (v := 10) hx hb dX0_layComparison_44 (by decide) ?_
        refine lv_iconst (v := 5) hx hb dX0_layComparison_46 (by decide) ?_
        refine lv_bipush (v := 10) hx hb dX0_layComparison_47 (by decide) ?_
        refine cu_v (rn_Vk (n := 4) (As := [.int 8243, .int 10, .int 5, .int 10]) (rest := []) hx hb hml hown ht hKK hFx hP hD hS hA (c_x_X0_three l dC dI cI cB cZ cJ cR tb s.heap.size ad pr N L1 L2 v (8243 : Int32) (10 : Int32) (5 : Int32) (10 : Int32) ps (show (N : Int) ≤ 4096 from (om_1c2c49c46c zNN)) (show pr ps = ad 908 from hps) (show (v.1 0 334) = ps from es334) (show 0 ≤ (v.1 0 337).toInt ∧ (v.1 0 337).toInt + 1 ≤ 7000000 from (om_d0491bd047 zs))) tw_693 tw_694 (by decide +kernel) rfl rfl ⟨Nat.le_of_ble_eq_true rfl, Nat.le_of_ble_eq_true rfl⟩ (List.range (cW ad pr N cI cR L1 L2 v).length) (rg_map _) (nd_range _) 4 rfl rfl rfl rfl hl.1 rfl (Nat.le_of_ble_eq_true rfl) dX0_layComparison_49 ⟨Nat.le_of_ble_eq_true rfl, Nat.le_of_ble_eq_true rfl⟩) hP hD hS hA (fun u17 H locs hw16 hP hD hS => ?_)
        obtain ⟨fr16, ex16, pz16, rs16⟩ := hw16
        refine W.widen (k := 0) (n := 0) (Nat.le_refl _) (Nat.le_refl _) ?_
        refine lv_goto (tgt := 176) hx hb dX0_layComparison_52 (by decide) ?_
        exact W.vret hx hb hr (fun t ht9 hW => ⟨⟨u17, rfl, ⟨(FC.tr (FC.rf _) (FC.up fr16 (by decide) (by decide))), ⟨zs, (Or.inr (⟨h1, (Or.inr (⟨h8, (Or.inl ⟨h15, u17, ex16, ⟨fr16, pz16, rs16⟩, rfl⟩)⟩))⟩))⟩, (show (v.1 0 337).toInt ≤ (u17.1 0 337).toInt ∧ (u17.1 0 337).toInt ≤ (v.1 0 337).toInt + 2 from (om_11a20d2072 pz16)), (RS.tr RS.rf rs16)⟩, by rw [ht9]; exact hP, hD⟩, hS.F ht9⟩) hS.2.2 dX0_layComparison_176
      ·
        by_cases h19 : pa = 66
        · refine lv_tableIn (off := 69) (tgt := 70) hx hb dX0_layComparison_1 (by rw [h19]; decide) (by rw [h19]; decide) (by rw [h19]; decide) (by decide) ?_
          refine lv_aload_n hx hb dX0_layComparison_70 rfl (lv_at hl 0 rfl) ?_
          refine lv_sipush (v := 8243) hx hb dX0_layComparison_71 (by decide) ?_
          refine lv_bipush (v := 10) hx hb dX0_layComparison_74 (by decide) ?_
          refine lv_bipush (v := 10) hx hb dX0_layComparison_76 (by decide) ?_
          refine lv_iconst (v := 5) hx hb dX0_layComparison_78 (by decide) ?_
          refine cu_v (rn_Vk (n := 4) (As := [.int 8243, .int 10, .int 10, .int 5]) (rest := []) hx hb hml hown ht hKK hFx hP hD hS hA (c_x_X0_three l dC dI cI cB cZ cJ cR tb s.heap.size ad pr N L1 L2 v (8243 : Int32) (10 : Int32) (10 : Int32) (5 : Int32) ps (show (N : Int) ≤ 4096 from (om_1c2c49c46c zNN)) (show pr ps = ad 908 from hps) (show (v.1 0 334) = ps from es334) (show 0 ≤ (v.1 0 337).toInt ∧ (v.1 0 337).toInt + 1 ≤ 7000000 from (om_d0491bd047 zs))) tw_693 tw_694 (by decide +kernel) rfl rfl ⟨Nat.le_of_ble_eq_true rfl, Nat.le_of_ble_eq_true rfl⟩ (List.range (cW ad pr N cI cR L1 L2 v).length) (rg_map _) (nd_range _) 4 rfl rfl rfl rfl hl.1 rfl (Nat.le_of_ble_eq_true rfl) dX0_layComparison_79 ⟨Nat.le_of_ble_eq_true rfl, Nat.le_of_ble_eq_true rfl⟩) hP hD hS hA (fun u21 H locs hw20 hP hD hS => ?_)
          obtain ⟨fr20, ex20, pz20, rs20⟩ := hw20
          refine W.widen (k := 0) (n := 0) (Nat.le_refl _) (Nat.le_refl _) ?_
          refine lv_aload_n hx hb dX0_layComparison_82 rfl (lv_at hl 0 rfl) ?_
          refine lv_sipush (v := 16403) hx hb dX0_layComparison_83 (by decide) ?_
          refine lv_bipush (v := 10) hx hb dX0_layComparison_86 (by decide) ?_
          refine lv_bipush (v := 10) hx hb dX0_layComparison_88 (by decide) ?_
          refine lv_iconst (v := 1) hx hb dX0_layComparison_90 (by decide) ?_
          refine cu_v (rn_Vk (n := 4) (As := [.int 16403, .int 10, .int 10, .int 1]) (rest := []) hx hb hml hown ht hKK hFx hP hD hS hA (c_x_X0_immediate l dC dI cI cB cZ cJ cR tb H.size ad pr N L1 L2 u21 (16403 : Int32) (10 : Int32) (10 : Int32) (1 : Int32) ps (show (N : Int) ≤ 4096 from (om_1c2c49c46c zNN)) (show pr ps = ad 908 from hps) (show (u21.1 0 334) = ps from (Eq.trans (fr20.2.1 334 (by decide)) es334)) (show 0 ≤ (u21.1 0 337).toInt ∧ (u21.1 0 337).toInt + 1 ≤ 7000000 from (om_d2a48ee112 zs pz20))) tw_678 tw_679 (by decide +kernel) rfl rfl ⟨Nat.le_of_ble_eq_true rfl, Nat.le_of_ble_eq_true rfl⟩ (List.range (cW ad pr N cI cR L1 L2 u21).length) (rg_map _) (nd_range _) 4 rfl rfl rfl rfl hl.1 rfl (Nat.le_of_ble_eq_true rfl) dX0_layComparison_91 ⟨Nat.le_of_ble_eq_true rfl, Nat.le_of_ble_eq_true rfl⟩) hP hD hS hA (fun u24 H locs hw23 hP hD hS => ?_)
          obtain ⟨fr23, ex23, pz23, rs23⟩ := hw23
          have pz23 : (u24.1 0 337).toInt = (u21.1 0 337).toInt + 1 := pz23
          have rs23 : RS u21 u24 := rs23
          refine W.widen (k := 0) (n := 0) (Nat.le_refl _) (Nat.le_refl _) ?_
          refine lv_goto (tgt := 176) hx hb dX0_layComparison_94 (by decide) ?_
          exact W.vret hx hb hr (fun t ht9 hW => ⟨⟨u24, rfl, ⟨(FC.tr (FC.tr (FC.rf _) (FC.up fr20 (by decide) (by decide))) (FC.up fr23 (by decide) (by decide))), ⟨zs, (Or.inr (⟨h1, (Or.inr (⟨h8, (Or.inr (⟨h15, (Or.inl ⟨h19, u21, ex20, ⟨fr20, pz20, rs20⟩, u24, ex23, ⟨fr23, pz23, rs23⟩, rfl⟩)⟩))⟩))⟩))⟩, (show (v.1 0 337).toInt ≤ (u24.1 0 337).toInt ∧ (u24.1 0 337).toInt ≤ (v.1 0 337).toInt + 2 from (om_44baea2434 pz20 pz23)), (RS.tr (RS.tr RS.rf rs20) rs23)⟩, by rw [ht9]; exact hP, hD⟩, hS.F ht9⟩) hS.2.2 dX0_layComparison_176
        ·
          by_cases h26 : pa = 67
          · refine lv_tableIn (off := 54) (tgt := 55) hx hb dX0_layComparison_1 (by rw [h26]; decide) (by rw [h26]; decide) (by rw [h26]; decide) (by decide) ?_
            refine lv_aload_n hx hb dX0_layComparison_55 rfl (lv_at hl 0 rfl) ?_
            refine lv_sipush (v := 8243) hx hb dX0_layComparison_56 (by decide) ?_
            refine lv_bipush (v := 10) hx hb dX0_layComparison_59 (by decide) ?_
            refine lv_bipush (v := 10) hx hb dX0_layComparison_61 (by decide) ?_
            refine lv_iconst (v := 5) hx hb dX0_layComparison_63 (by decide) ?_
            refine cu_v (rn_Vk (n := 4) (As := [.int 8243, .int 10, .int 10, .int 5]) (rest := []) hx hb hml hown ht hKK hFx hP hD hS hA (c_x_X0_three l dC dI cI cB cZ cJ cR tb s.heap.size ad pr N L1 L2 v (8243 : Int32) (10 : Int32) (10 : Int32) (5 : Int32) ps (show (N : Int) ≤ 4096 from (om_1c2c49c46c zNN)) (show pr ps = ad 908 from hps) (show (v.1 0 334) = ps from es334) (show 0 ≤ (v.1 0 337).toInt ∧ (v.1 0 337).toInt + 1 ≤ 7000000 from (om_d0491bd047 zs))) tw_693 tw_694 (by decide +kernel) rfl rfl ⟨Nat.le_of_ble_eq_true rfl, Nat.le_of_ble_eq_true rfl⟩ (List.range (cW ad pr N cI cR L1 L2 v).length) (rg_map _) (nd_range _) 4 rfl rfl rfl rfl hl.1 rfl (Nat.le_of_ble_eq_true rfl) dX0_layComparison_64 ⟨Nat.le_of_ble_eq_true rfl, Nat.le_of_ble_eq_true rfl⟩) hP hD hS hA (fun u28 H locs hw27 hP hD hS => ?_)
            obtain ⟨fr27, ex27, pz27, rs27⟩ := hw27
            refine W.widen (k := 0) (n := 0) (Nat.le_refl _) (Nat.le_refl _) ?_
            refine lv_goto (tgt := 176) hx hb dX0_layComparison_67 (by decide) ?_
            exact W.vret hx hb hr (fun t ht9 hW => ⟨⟨u28, rfl, ⟨(FC.tr (FC.rf _) (FC.up fr27 (by decide) (by decide))), ⟨zs, (Or.inr (⟨h1, (Or.inr (⟨h8, (Or.inr (⟨h15, (Or.inr (⟨h19, (Or.inl ⟨h26, u28, ex27, ⟨fr27, pz27, rs27⟩, rfl⟩)⟩))⟩))⟩))⟩))⟩, (show (v.1 0 337).toInt ≤ (u28.1 0 337).toInt ∧ (u28.1 0 337).toInt ≤ (v.1 0 337).toInt + 2 from (om_11a20d2072 pz27)), (RS.tr RS.rf rs27)⟩, by rw [ht9]; exact hP, hD⟩, hS.F ht9⟩) hS.2.2 dX0_layComparison_176
          ·
            by_cases h30 : pa = 68
            · refine lv_tableIn (off := 96) (tgt := 97) hx hb dX0_layComparison_1 (by rw [h30]; decide) (by rw [h30]; decide) (by rw [h30]; decide) (by decide) ?_
              refine lv_aload_n hx hb dX0_layComparison_97 rfl (lv_at hl 0 rfl) ?_
              refine lv_sipush (v := 8243) hx hb dX0_layComparison_98 (by decide) ?_
              refine lv_bipush (v := 10) hx hb dX0_layComparison_101 (by decide) ?_
              refine lv_iconst (v := 5) hx hb dX0_layComparison_103 (by decide) ?_
              refine lv_bipush (v := 10) hx hb dX0_layComparison_104 (by decide) ?_
              refine cu_v (rn_Vk (n := 4) (As := [.int 8243, .int 10, .int 5, .int 10]) (rest := []) hx hb hml hown ht hKK hFx hP hD hS hA (c_x_X0_three l dC dI cI cB cZ cJ cR tb s.heap.size ad pr N L1 L2 v (8243 : Int32) (10 : Int32) (5 : Int32) (10 : Int32) ps (show (N : Int) ≤ 4096 from (om_1c2c49c46c zNN)) (show pr ps = ad 908 from hps) (show (v.1 0 334) = ps from es334) (show 0 ≤ (v.1 0 337).toInt ∧ (v.1 0 337).toInt + 1 ≤ 7000000 from (om_d0491bd047 zs))) tw_693 tw_694 (by decide +kernel) rfl rfl ⟨Nat.le_of_ble_eq_true rfl, Nat.le_of_ble_eq_true rfl⟩ (List.range (cW ad pr N cI cR L1 L2 v).length) (rg_map _) (nd_range _) 4 rfl rfl rfl rfl hl.1 rfl (Nat.le_of_ble_eq_true rfl) dX0_layComparison_106 ⟨Nat.le_of_ble_eq_true rfl, Nat.le_of_ble_eq_true rfl⟩) hP hD hS hA (fun u32 H locs hw31 hP hD hS => ?_)
              obtain ⟨fr31, ex31, pz31, rs31⟩ := hw31
              refine W.widen (k := 0) (n := 0) (Nat.le_refl _) (Nat.le_refl _) ?_
              refine lv_aload_n hx hb dX0_layComparison_109 rfl (lv_at hl 0 rfl) ?_
              refine lv_sipush (v := 16403) hx hb dX0_layComparison_110 (by decide) ?_
              refine lv_bipush (v := 10) hx hb dX0_layComparison_113 (by decide) ?_
              refine lv_bipush (v := 10) hx hb dX0_layComparison_115 (by decide) ?_
              refine lv_iconst (v := 1) hx hb dX0_layComparison_117 (by decide) ?_
              refine cu_v (rn_Vk (n := 4) (As := [.int 16403, .int 10, .int 10, .int 1]) (rest := []) hx hb hml hown ht hKK hFx hP hD hS hA (c_x_X0_immediate l dC dI cI cB cZ cJ cR tb H.size ad pr N L1 L2 u32 (16403 : Int32) (10 : Int32) (10 : Int32) (1 : Int32) ps (show (N : Int) ≤ 4096 from (om_1c2c49c46c zNN)) (show pr ps = ad 908 from hps) (show (u32.1 0 334) = ps from (Eq.trans (fr31.2.1 334 (by decide)) es334)) (show 0 ≤ (u32.1 0 337).toInt ∧ (u32.1 0 337).toInt + 1 ≤ 7000000 from (om_d2a48ee112 zs pz31))) tw_678 tw_679 (by decide +kernel) rfl rfl ⟨Nat.le_of_ble_eq_true rfl, Nat.le_of_ble_eq_true rfl⟩ (List.range (cW ad pr N cI cR L1 L2 u32).length) (rg_map _) (nd_range _) 4 rfl rfl rfl rfl hl.1 rfl (Nat.le_of_ble_eq_true rfl) dX0_layComparison_118 ⟨Nat.le_of_ble_eq_true rfl, Nat.le_of_ble_eq_true rfl⟩) hP hD hS hA (fun u35 H locs hw34 hP hD hS => ?_)
              obtain ⟨fr34, ex34, pz34, rs34⟩ := hw34
              have pz34 : (u35.1 0 337).toInt = (u32.1 0 337).toInt + 1 := pz34
              have rs34 : RS u32 u35 := rs34
              refine W.widen (k := 0) (n := 0) (Nat.le_refl _) (Nat.le_refl _) ?_
              refine lv_goto (tgt := 176) hx hb dX0_layComparison_121 (by decide) ?_
              exact W.vret hx hb hr (fun t ht9 hW => ⟨⟨u35, rfl, ⟨(FC.tr (FC.tr (FC.rf _) (FC.up fr31 (by decide) (by decide))) (FC.up fr34 (by decide) (by decide))), ⟨zs, (Or.inr (⟨h1, (Or.inr (⟨h8, (Or.inr (⟨h15, (Or.inr (⟨h19, (Or.inr (⟨h26, (Or.inl ⟨h30, u32, ex31, ⟨fr31, pz31, rs31⟩, u35, ex34, ⟨fr34, pz34, rs34⟩, rfl⟩)⟩))⟩))⟩))⟩))⟩))⟩, (show (v.1 0 337).toInt ≤ (u35.1 0 337).toInt ∧ (u35.1 0 337).toInt ≤ (v.1 0 337).toInt + 2 from (om_44baea2434 pz31 pz34)), (RS.tr (RS.tr RS.rf rs31) rs34)⟩, by rw [ht9]; exact hP, hD⟩, hS.F ht9⟩) hS.2.2 dX0_layComparison_176
            ·
              refine lv_tableOut (tgt := 176) hx hb dX0_layComparison_1 (by have := lv_neT h1 (a := 63) (by decide); have := lv_neT h8 (a := 64) (by decide); have := lv_neT h15 (a := 65) (by decide); have := lv_neT h19 (a := 66) (by decide); have := lv_neT h26 (a := 67) (by decide); have := lv_neT h30 (a := 68) (by decide); omega) (by decide) ?_
              exact W.vret hx hb hr (fun t ht9 hW => ⟨⟨v, rfl, ⟨(FC.rf _), ⟨zs, (Or.inr (⟨h1, (Or.inr (⟨h8, (Or.inr (⟨h15, (Or.inr (⟨h19, (Or.inr (⟨h26, (Or.inr (⟨h30, rfl⟩))⟩))⟩))⟩))⟩))⟩))⟩, (show (v.1 0 337).toInt ≤ (v.1 0 337).toInt ∧ (v.1 0 337).toInt ≤ (v.1 0 337).toInt + 2 from om_798cb3402e), RS.rf⟩, by rw [ht9]; exact hP, hD⟩, hS.F ht9⟩) hS.2.2 dX0_layComparison_176
theorem om_c8cda10a08 {x0 : Int} (h0 : 0 ≤ x0 ∧ x0 + 2 ≤ 7000000) : 0 ≤ x0 ∧ x0 + 2 ≤ 7000000 := by omega
theorem om_6e33be52fd {x0 x1 : Int} (h0 : x0 ≤ x1 ∧ x1 ≤ x0 + 2) : x0 ≤ x1 ∧ x1 ≤ x0 + 2 := by omega
set_option maxHeartbeats 4000000 in
set_option maxRecDepth 100000 in
theorem c_x_X0_laySign (l : Launch) (dC : Nat → ClassId) (dI : Nat → Nat → Nat) (cI cB cZ cJ cR : ClassId) (tb : Nat → Nat) (sz : Nat) (ad : Nat → Nat) (pr : Int32 → Nat) (N : Nat) (L1 L2 : List Nat) (v : MS) (pa : Int32) (ps : Int32) (zNN : (N : Int) ≤ 4096) (hps : pr ps = ad 908) (es334 : (v.1 0 334) = ps) (zs : 0 ≤ (v.1 0 337).toInt ∧ (v.1 0 337).toInt + 2 ≤ 7000000) : Met l yX0_laySign (Cond.code yX0_laySign cX0_laySign 2 none :: tw_W) ({ frames := 3, cells := 0, slots := 0, locals := 66 }) (pc_ (dC, dI) (tyS cI cB cZ cJ cR) tb (cW ad pr N cI cR L1 L2 v) sz [.ref (ad 904), .int pa]) (qv_ (dC, dI) (cW ad pr N cI cR L1 L2 v) sz (fun (u : MS) => FC [337, 339, 340] [0, 382] v u ∧ (Q_x_X0_laySign L1 L2 N v pa u) ∧ ((v.1 0 337).toInt ≤ (u.1 0 337).toInt ∧ (u.1 0 337).toInt ≤ (v.1 0 337).toInt + 2) ∧ (RS v u)) (fun (u : MS) => (cW ad pr N cI cR L1 L2 u))) 0 0 (va_A (cW ad pr N cI cR L1 L2 v) sz) := by
  refine Met.ofW (cc := cX0_laySign) (maxL := 2) (ret := none) (by decide) rfl ?_
  intro p e s m args below meth c s₁ B hml hv
  obtain ⟨rfl, hsz, hP, hKK, hD0, hFx⟩ := hv
  have hK := hKK.1
  have hx := B.exec
  have hb := B.bytes
  have hr := B.returns
  have ht : ∀ w ∈ tw_W, w.before _ s = true := fun w h => atoms_spec (ws := Cond.code yX0_laySign cX0_laySign 2 none :: tw_W) B.pre w (List.mem_cons_of_mem _ h)
  have hown : s.vm.findClass RX0 = some m.cls := findClass_of_methodNamed B.named
  have hlocks := B.notSynchronized
  subst hsz
  unfold qv_
  have hD := hD0.self (sz := s.heap.size)
  generalize hAe : va_A (cW ad pr N cI cR L1 L2 v) s.heap.size = A at hD hFx ⊢
  have hA : ∀ q : Nat, s.heap.size ≤ q → A q := fun q h => by rw [← hAe]; exact Or.inr h
  have hS : va_S A s.heap s.heap [] := va_S.rf
  have hl := lv_entry ([.ref (ad 904), .int pa]) (n := 2) (Nat.le_of_ble_eq_true rfl)
  rw [lg_entry_eq]
  generalize (lg_sl ([.ref (ad 904), .int pa]) ++ List.replicate (2 - (lg_sl ([.ref (ad 904), .int pa])).length) Slot.unset).toArray = ls at hl ⊢
  have hl : lv_has ls 2 [(0, .ref (ad 904)), (1, .int pa)] := hl
  refine lv_iload_n hx hb dX0_laySign_0 rfl (lv_at hl 1 rfl) ?_
  by_cases h1 : pa = 53
  · refine lv_tableIn (off := 55) (tgt := 56) hx hb dX0_laySign_1 (by rw [h1]; decide) (by rw [h1]; decide) (by rw [h1]; decide) (by decide) ?_
    refine lv_aload_n hx hb dX0_laySign_56 rfl (lv_at hl 0 rfl) ?_
    refine lv_bipush (v := 51) hx hb dX0_laySign_57 (by decide) ?_
    refine lv_bipush (v := 10) hx hb dX0_laySign_59 (by decide) ?_
    refine lv_iconst (v := 5) hx hb dX0_laySign_61 (by decide) ?_
    refine lv_bipush (v := 10) hx hb dX0_laySign_62 (by decide) ?_
    refine cu_v (rn_Vk (n := 4) (As := [.int 51, .int 10, .int 5, .int 10]) (rest := []) hx hb hml hown ht hKK hFx hP hD hS hA (c_x_X0_three l dC dI cI cB cZ cJ cR tb s.heap.size ad pr N L1 L2 v (51 : Int32) (10 : Int32) (5 : Int32) (10 : Int32) ps (show (N : Int) ≤ 4096 from (om_1c2c49c46c zNN)) (show pr ps = ad 908 from hps) (show (v.1 0 334) = ps from es334) (show 0 ≤ (v.1 0 337).toInt ∧ (v.1 0 337).toInt + 1 ≤ 7000000 from (om_d0491bd047 zs))) tw_693 tw_694 (by decide +kernel) rfl rfl ⟨Nat.le_of_ble_eq_true rfl, Nat.le_of_ble_eq_true rfl⟩ (List.range (cW ad pr N cI cR L1 L2 v).length) (rg_map _) (nd_range _) 4 rfl rfl rfl rfl hl.1 rfl (Nat.le_of_ble_eq_true rfl) dX0_laySign_64 ⟨Nat.le_of_ble_eq_true rfl, Nat.le_of_ble_eq_true rfl⟩) hP hD hS hA (fun u3 H locs hw2 hP hD hS => ?_)
    obtain ⟨fr2, ex2, pz2, rs2⟩ := hw2
    refine W.widen (k := 0) (n := 0) (Nat.le_refl _) (Nat.le_refl _) ?_
    refine lv_goto (tgt := 228) hx hb dX0_laySign_67 (by decide) ?_
    exact W.vret hx hb hr (fun t ht9 hW => ⟨⟨u3, rfl, ⟨(FC.tr (FC.rf _) (FC.up fr2 (by decide) (by decide))), ⟨zs, (Or.inl ⟨h1, u3, ex2, ⟨fr2, pz2, rs2⟩, rfl⟩)⟩, (show (v.1 0 337).toInt ≤ (u3.1 0 337).toInt ∧ (u3.1 0 337).toInt ≤ (v.1 0 337).toInt + 2 from (om_11a20d2072 pz2)), (RS.tr RS.rf rs2)⟩, by rw [ht9]; exact hP, hD⟩, hS.F ht9⟩) hS.2.2 dX0_laySign_228
  ·
    by_cases h5 : pa = 54
    · refine lv_tableIn (off := 69) (tgt := 70) hx hb dX0_laySign_1 (by rw [h5]; decide) (by rw [h5]; decide) (by rw [h5]; decide) (by decide) ?_
      refine lv_aload_n hx hb dX0_laySign_70 rfl (lv_at hl 0 rfl) ?_
      refine lv_ldc (v := 1073741875) hx hb hown (ht _ tw_700) dX0_laySign_71 ?_
      refine lv_bipush (v := 10) hx hb dX0_laySign_73 (by decide) ?_
      refine lv_iconst (v := 5) hx hb dX0_laySign_75 (by decide) ?_
      refine lv_bipush (v := 10) hx hb dX0_laySign_76 (by decide) ?_
      refine cu_v (rn_Vk (n := 4) (As := [.int 1073741875, .int 10, .int 5, .int 10]) (rest := []) hx hb hml hown ht hKK hFx hP hD hS hA (c_x_X0_three l dC dI cI cB cZ cJ cR tb s.heap.size ad pr N L1 L2 v (1073741875 : Int32) (10 : Int32) (5 : Int32) (10 : Int32) ps (show (N : Int) ≤ 4096 from (om_1c2c49c46c zNN)) (show pr ps = ad 908 from hps) (show (v.1 0 334) = ps from es334) (show 0 ≤ (v.1 0 337).toInt ∧ (v.1 0 337).toInt + 1 ≤ 7000000 from (om_d0491bd047 zs))) tw_693 tw_694 (by decide +kernel) rfl rfl ⟨Nat.le_of_ble_eq_true rfl, Nat.le_of_ble_eq_true rfl⟩ (List.range (cW ad pr N cI cR L1 L2 v).length) (rg_map _) (nd_range _) 4 rfl rfl rfl rfl hl.1 rfl (Nat.le_of_ble_eq_true rfl) dX0_laySign_78 ⟨Nat.le_of_ble_eq_true rfl, Nat.le_of_ble_eq_true rfl⟩) hP hD hS hA (fun u7 H locs hw6 hP hD hS => ?_)
      obtain ⟨fr6, ex6, pz6, rs6⟩ := hw6
      refine W.widen (k := 0) (n := 0) (Nat.le_refl _) (Nat.le_refl _) ?_
      refine lv_goto (tgt := 228) hx hb dX0_laySign_81 (by decide) ?_
      exact W.vret hx hb hr (fun t ht9 hW => ⟨⟨u7, rfl, ⟨(FC.tr (FC.rf _) (FC.up fr6 (by decide) (by decide))), ⟨zs, (Or.inr (⟨h1, (Or.inl ⟨h5, u7, ex6, ⟨fr6, pz6, rs6⟩, rfl⟩)⟩))⟩, (show (v.1 0 337).toInt ≤ (u7.1 0 337).toInt ∧ (u7.1 0 337).toInt ≤ (v.1 0 337).toInt + 2 from (om_11a20d2072 pz6)), (RS.tr RS.rf rs6)⟩, by rw [ht9]; exact hP, hD⟩, hS.F ht9⟩) hS.2.2 dX0_laySign_228
    ·
      by_cases h9 : pa = 55
      · refine lv_tableIn (off := 157) (tgt := 158) hx hb dX0_laySign_1 (by rw [h9]; decide) (by rw [h9]; decide) (by rw [h9]; decide) (by decide) ?_
        refine lv_aload_n hx hb dX0_laySign_158 rfl (lv_at hl 0 rfl) ?_
        refine lv_iconst (v := 1) hx hb dX0_laySign_159 (by decide) ?_
        refine va_put (D := (dC, dI)) (ci := 4) (fs := oF_X0 ad pr v) (v := .int 1) (ty := .boolean) (C := RX0) (T := TX0) (N := 9) hx hb ht itX0 tyX0 tyX0_ok nmX0 hown hK hP hD hS 4 rfl rfl 5 (by decide) (ht _ tw_701) (fun _ h9 => h9) rfl (by decide +kernel) rfl rfl (Nat.le_of_ble_eq_true rfl) dX0_laySign_160 (fun H locs hP hD hS => ?_)
        have hP := cP_ (cw_339 ad pr N cI cR L1 L2 v 1) hP
        have hD := cD_ (cw_339 ad pr N cI cR L1 L2 v 1) hD
        refine lv_aload_n hx hb dX0_laySign_163 rfl (lv_at hl 0 rfl) ?_
        refine lv_bipush (v := 28) hx hb dX0_laySign_164 (by decide) ?_
        refine lv_aload_n hx hb dX0_laySign_166 rfl (lv_at hl 0 rfl) ?_
        refine va_get (D := (dC, dI)) (ci := 4) (fs := oF_X0 ad pr (wA v 0 339 1)) (v := .int (v.1 0 341)) (C := RX0) (T := TX0) (N := 9) hx hb ht itX0 hown hK hP 4 rfl rfl 7 (by decide) (ht _ tw_702) (fun _ h9 => h9) rfl dX0_laySign_167 ?_
        refine cu_v (rn_Vk (n := 2) (As := [.int 28, .int (v.1 0 341)]) (rest := []) hx hb hml hown ht hKK hFx hP hD hS hA (c_x_X0_jump l dC dI cI cB cZ cJ cR tb H.size ad pr N L1 L2 (wA v 0 339 1) (28 : Int32) (v.1 0 341) ps (show (N : Int) ≤ 4096 from (om_1c2c49c46c zNN)) (show pr ps = ad 908 from hps) (show (v.1 0 334) = ps from es334) (show 0 ≤ (v.1 0 337).toInt ∧ (v.1 0 337).toInt + 1 ≤ 7000000 from (om_d0491bd047 zs))) tw_697 tw_698 (by decide +kernel) rfl rfl ⟨Nat.le_of_ble_eq_true rfl, Nat.le_of_ble_eq_true rfl⟩ (List.range (cW ad pr N cI cR L1 L2 (wA v 0 339 1)).length) (rg_map _) (nd_range _) 4 rfl rfl rfl rfl hl.1 rfl (Nat.le_of_ble_eq_true rfl) dX0_laySign_170 ⟨Nat.le_of_ble_eq_true rfl, Nat.le_of_ble_eq_true rfl⟩) hP hD hS hA (fun u11 H locs hw10 hP hD hS => ?_)
        obtain ⟨fr10, ex10, pz10, rs10⟩ := hw10
        have pz10 : (u11.1 0 337).toInt = (v.1 0 337).toInt + 1 := pz10
        have rs10 : RS (wA v 0 339 1) u11 := rs10
        refine W.widen (k := 0) (n := 0) (Nat.le_refl _) (Nat.le_refl _) ?_
        refine lv_goto (tgt := 228) hx hb dX0_laySign_173 (by decide) ?_
        exact W.vret hx hb hr (fun t ht9 hW => ⟨⟨u11, rfl, ⟨(FC.tr (FC.f (FC.rf _) 1 (by decide)) (FC.up fr10 (by decide) (by decide))), ⟨zs, (Or.inr (⟨h1, (Or.inr (⟨h5, (Or.inl ⟨h9, u11, ex10, ⟨fr10, pz10, rs10⟩, rfl⟩)⟩))⟩))⟩, (show (v.1 0 337).toInt ≤ (u11.1 0 337).toInt ∧ (u11.1 0 337).toInt ≤ (v.1 0 337).toInt + 2 from (om_11a20d2072 pz10)), (RS.tr (RS.w0 RS.rf (by decide)) rs10)⟩, by rw [ht9]; exact hP, hD⟩, hS.F ht9⟩) hS.2.2 dX0_laySign_228
      ·
        by_cases h13 : pa = 56
        · refine lv_tableIn (off := 175) (tgt := 176) hx hb dX0_laySign_1 (by rw [h13]; decide) (by rw [h13]; decide) (by rw [h13]; decide) (by decide) ?_
          refine lv_aload_n hx hb dX0_laySign_176 rfl (lv_at hl 0 rfl) ?_
          refine lv_iconst (v := 1) hx hb dX0_laySign_177 (by decide) ?_
          refine va_put (D := (dC, dI)) (ci := 4) (fs := oF_X0 ad pr v) (v := .int 1) (ty := .boolean) (C := RX0) (T := TX0) (N := 9) hx hb ht itX0 tyX0 tyX0_ok nmX0 hown hK hP hD hS 4 rfl rfl 6 (by decide) (ht _ tw_703) (fun _ h9 => h9) rfl (by decide +kernel) rfl rfl (Nat.le_of_ble_eq_true rfl) dX0_laySign_178 (fun H locs hP hD hS => ?_)
          have hP := cP_ (cw_340 ad pr N cI cR L1 L2 v 1) hP
          have hD := cD_ (cw_340 ad pr N cI cR L1 L2 v 1) hD
          refine lv_aload_n hx hb dX0_laySign_181 rfl (lv_at hl 0 rfl) ?_
          refine lv_bipush (v := 28) hx hb dX0_laySign_182 (by decide) ?_
          refine lv_aload_n hx hb dX0_laySign_184 rfl (lv_at hl 0 rfl) ?_
          refine va_get (D := (dC, dI)) (ci := 4) (fs := oF_X0 ad pr (wA v 0 340 1)) (v := .int (v.1 0 342)) (C := RX0) (T := TX0) (N := 9) hx hb ht itX0 hown hK hP 4 rfl rfl 8 (by decide) (ht _ tw_704) (fun _ h9 => h9) rfl dX0_laySign_185 ?_
          refine cu_v (rn_Vk (n := 2) (As := [.int 28, .int (v.1 0 342)]) (rest := []) hx hb hml hown ht hKK hFx hP hD hS hA (c_x_X0_jump l dC dI cI cB cZ cJ cR tb H.size ad pr N L1 L2 (wA v 0 340 1) (28 : Int32) (v.1 0 342) ps (show (N : Int) ≤ 4096 from (om_1c2c49c46c zNN)) (show pr ps = ad 908 from hps) (show (v.1 0 334) = ps from es334) (show 0 ≤ (v.1 0 337).toInt ∧ (v.1 0 337).toInt + 1 ≤ 7000000 from (om_d0491bd047 zs))) tw_697 tw_698 (by decide +kernel) rfl rfl ⟨Nat.le_of_ble_eq_true rfl, Nat.le_of_ble_eq_true rfl⟩ (List.range (cW ad pr N cI cR L1 L2 (wA v 0 340 1)).length) (rg_map _) (nd_range _) 4 rfl rfl rfl rfl hl.1 rfl (Nat.le_of_ble_eq_true rfl) dX0_laySign_188 ⟨Nat.le_of_ble_eq_true rfl, Nat.le_of_ble_eq_true rfl⟩) hP hD hS hA (fun u15 H locs hw14 hP hD hS => ?_)
          obtain ⟨fr14, ex14, pz14, rs14⟩ := hw14
          have pz14 : (u15.1 0 337).toInt = (v.1 0 337).toInt + 1 := pz14
          have rs14 : RS (wA v 0 340 1) u15 := rs14
          refine W.widen (k := 0) (n := 0) (Nat.le_refl _) (Nat.le_refl _) ?_
          refine lv_goto (tgt := 228) hx hb dX0_laySign_191 (by decide) ?_
          exact W.vret hx hb hr (fun t ht9 hW => ⟨⟨u15, rfl, ⟨(FC.tr (FC.f (FC.rf _) 1 (by decide)) (FC.up fr14 (by decide) (by decide))), ⟨zs, (Or.inr (⟨h1, (Or.inr (⟨h5, (Or.inr (⟨h9, (Or.inl ⟨h13, u15, ex14, ⟨fr14, pz14, rs14⟩, rfl⟩)⟩))⟩))⟩))⟩, (show (v.1 0 337).toInt ≤ (u15.1 0 337).toInt ∧ (u15.1 0 337).toInt ≤ (v.1 0 337).toInt + 2 from (om_11a20d2072 pz14)), (RS.tr (RS.w0 RS.rf (by decide)) rs14)⟩, by rw [ht9]; exact hP, hD⟩, hS.F ht9⟩) hS.2.2 dX0_laySign_228
        ·
          by_cases h17 : pa = 57
          · refine lv_tableIn (off := 193) (tgt := 194) hx hb dX0_laySign_1 (by rw [h17]; decide) (by rw [h17]; decide) (by rw [h17]; decide) (by decide) ?_
            refine lv_aload_n hx hb dX0_laySign_194 rfl (lv_at hl 0 rfl) ?_
            refine lv_iconst (v := 1) hx hb dX0_laySign_195 (by decide) ?_
            refine va_put (D := (dC, dI)) (ci := 4) (fs := oF_X0 ad pr v) (v := .int 1) (ty := .boolean) (C := RX0) (T := TX0) (N := 9) hx hb ht itX0 tyX0 tyX0_ok nmX0 hown hK hP hD hS 4 rfl rfl 6 (by decide) (ht _ tw_703) (fun _ h9 => h9) rfl (by decide +kernel) rfl rfl (Nat.le_of_ble_eq_true rfl) dX0_laySign_196 (fun H locs hP hD hS => ?_)
            have hP := cP_ (cw_340 ad pr N cI cR L1 L2 v 1) hP
            have hD := cD_ (cw_340 ad pr N cI cR L1 L2 v 1) hD
            refine lv_aload_n hx hb dX0_laySign_199 rfl (lv_at hl 0 rfl) ?_
            refine lv_bipush (v := 28) hx hb dX0_laySign_200 (by decide) ?_
            refine lv_aload_n hx hb dX0_laySign_202 rfl (lv_at hl 0 rfl) ?_
            refine va_get (D := (dC, dI)) (ci := 4) (fs := oF_X0 ad pr (wA v 0 340 1)) (v := .int (v.1 0 342)) (C := RX0) (T := TX0) (N := 9) hx hb ht itX0 hown hK hP 4 rfl rfl 8 (by decide) (ht _ tw_704) (fun _ h9 => h9) rfl dX0_laySign_203 ?_
            refine cu_v (rn_Vk (n := 2) (As := [.int 28, .int (v.1 0 342)]) (rest := []) hx hb hml hown ht hKK hFx hP hD hS hA (c_x_X0_jump l dC dI cI cB cZ cJ cR tb H.size ad pr N L1 L2 (wA v 0 340 1) (28 : Int32) (v.1 0 342) ps (show (N : Int) ≤ 4096 from (om_1c2c49c46c zNN)) (show pr ps = ad 908 from hps) (show (v.1 0 334) = ps from es334) (show 0 ≤ (v.1 0 337).toInt ∧ (v.1 0 337).toInt + 1 ≤ 7000000 from (om_d0491bd047 zs))) tw_697 tw_698 (by decide +kernel) rfl rfl ⟨Nat.le_of_ble_eq_true rfl, Nat.le_of_ble_eq_true rfl⟩ (List.range (cW ad pr N cI cR L1 L2 (wA v 0 340 1)).length) (rg_map _) (nd_range _) 4 rfl rfl rfl rfl hl.1 rfl (Nat.le_of_ble_eq_true rfl) dX0_laySign_206 ⟨Nat.le_of_ble_eq_true rfl, Nat.le_of_ble_eq_true rfl⟩) hP hD hS hA (fun u19 H locs hw18 hP hD hS => ?_)
            obtain ⟨fr18, ex18, pz18, rs18⟩ := hw18
            have pz18 : (u19.1 0 337).toInt = (v.1 0 337).toInt + 1 := pz18
            have rs18 : RS (wA v 0 340 1) u19 := rs18
            refine W.widen (k := 0) (n := 0) (Nat.le_refl _) (Nat.le_refl _) ?_
            refine lv_aload_n hx hb dX0_laySign_209 rfl (lv_at hl 0 rfl) ?_
            refine lv_bipush (v := 19) hx hb dX0_laySign_210 (by decide) ?_
            refine lv_bipush (v := 10) hx hb dX0_laySign_212 (by decide) ?_
            refine lv_bipush (v := 6) hx hb dX0_laySign_214 (by decide) ?_
            refine lv_iconst (v := 0) hx hb dX0_laySign_216 (by decide) ?_
            refine cu_v (rn_Vk (n := 4) (As := [.int 19, .int 10, .int 6, .int 0]) (rest := []) hx hb hml hown ht hKK hFx hP hD hS hA (c_x_X0_immediate l dC dI cI cB cZ cJ cR tb H.size ad pr N L1 L2 u19 (19 : Int32) (10 : Int32) (6 : Int32) (0 : Int32) ps (show (N : Int) ≤ 4096 from (om_1c2c49c46c zNN)) (show pr ps = ad 908 from hps) (show (u19.1 0 334) = ps from (Eq.trans (fr18.2.1 334 (by decide)) es334)) (show 0 ≤ (u19.1 0 337).toInt ∧ (u19.1 0 337).toInt + 1 ≤ 7000000 from (om_d2a48ee112 zs pz18))) tw_678 tw_679 (by decide +kernel) rfl rfl ⟨Nat.le_of_ble_eq_true rfl, Nat.le_of_ble_eq_true rfl⟩ (List.range (cW ad pr N cI cR L1 L2 u19).length) (rg_map _) (nd_range _) 4 rfl rfl rfl rfl hl.1 rfl (Nat.le_of_ble_eq_true rfl) dX0_laySign_217 ⟨Nat.le_of_ble_eq_true rfl, Nat.le_of_ble_eq_true rfl⟩) hP hD hS hA (fun u22 H locs hw21 hP hD hS => ?_)
            obtain ⟨fr21, ex21, pz21, rs21⟩ := hw21
            have pz21 : (u22.1 0 337).toInt = (u19.1 0 337).toInt + 1 := pz21
            have rs21 : RS u19 u22 := rs21
            refine W.widen (k := 0) (n := 0) (Nat.le_refl _) (Nat.le_refl _) ?_
            refine lv_goto (tgt := 228) hx hb dX0_laySign_220 (by decide) ?_
            exact W.vret hx hb hr (fun t ht9 hW => ⟨⟨u22, rfl, ⟨(FC.tr (FC.tr (FC.f (FC.rf _) 1 (by decide)) (FC.up fr18 (by decide) (by decide))) (FC.up fr21 (by decide) (by decide))), ⟨zs, (Or.inr (⟨h1, (Or.inr (⟨h5, (Or.inr (⟨h9, (Or.inr (⟨h13, (Or.inl ⟨h17, u19, ex18, ⟨fr18, pz18, rs18⟩, u22, ex21, ⟨fr21, pz21, rs21⟩, rfl⟩)⟩))⟩))⟩))⟩))⟩, (show (v.1 0 337).toInt ≤ (u22.1 0 337).toInt ∧ (u22.1 0 337).toInt ≤ (v.1 0 337).toInt + 2 from (om_44baea2434 pz18 pz21)), (RS.tr (RS.tr (RS.w0 RS.rf (by decide)) rs18) rs21)⟩, by rw [ht9]; exact hP, hD⟩, hS.F ht9⟩) hS.2.2 dX0_laySign_228
          ·
            by_cases h24 : pa = 58
            · refine lv_tableIn (off := 83) (tgt := 84) hx hb dX0_laySign_1 (by rw [h24]; decide) (by rw [h24]; decide) (by rw [h24]; decide) (by decide) ?_
              refine lv_aload_n hx hb dX0_laySign_84 rfl (lv_at hl 0 rfl) ?_
              refine lv_sipush (v := 28723) hx hb dX0_laySign_85 (by decide) ?_
              refine lv_bipush (v := 10) hx hb dX0_laySign_88 (by decide) ?_
              refine lv_iconst (v := 5) hx hb dX0_laySign_90 (by decide) ?_
              refine lv_bipush (v := 10) hx hb dX0_laySign_91 (by decide) ?_
              refine cu_v (rn_Vk (n := 4) (As := [.int 28723, .int 10, .int 5, .int 10]) (rest := []) hx hb hml hown ht hKK hFx hP hD hS hA (c_x_X0_three l dC dI cI cB cZ cJ cR tb s.heap.size ad pr N L1 L2 v (28723 : Int32) (10 : Int32) (5 : Int32) (10 : Int32) ps (show (N : Int) ≤ 4096 from (om_1c2c49c46c zNN)) (show pr ps = ad 908 from hps) (show (v.1 0 334) = ps from es334) (show 0 ≤ (v.1 0 337).toInt ∧ (v.1 0 337).toInt + 1 ≤ 7000000 from (om_d0491bd047 zs))) tw_693 tw_694 (by decide +kernel) rfl rfl ⟨Nat.le_of_ble_eq_true rfl, Nat.le_of_ble_eq_true rfl⟩ (List.range (cW ad pr N cI cR L1 L2 v).length) (rg_map _) (nd_range _) 4 rfl rfl rfl rfl hl.1 rfl (Nat.le_of_ble_eq_true rfl) dX0_laySign_93 ⟨Nat.le_of_ble_eq_true rfl, Nat.le_of_ble_eq_true rfl⟩) hP hD hS hA (fun u26 H locs hw25 hP hD hS => ?_)
              obtain ⟨fr25, ex25, pz25, rs25⟩ := hw25
              refine W.widen (k := 0) (n := 0) (Nat.le_refl _) (Nat.le_refl _) ?_
              refine lv_goto (tgt := 228) hx hb dX0_laySign_96 (by decide) ?_
              exact W.vret hx hb hr (fun t ht9 hW => ⟨⟨u26, rfl, ⟨(FC.tr (FC.rf _) (FC.up fr25 (by decide) (by decide))), ⟨zs, (Or.inr (⟨h1, (Or.inr (⟨h5, (Or.inr (⟨h9, (Or.inr (⟨h13, (Or.inr (⟨h17, (Or.inl ⟨h24, u26, ex25, ⟨fr25, pz25, rs25⟩, rfl⟩)⟩))⟩))⟩))⟩))⟩))⟩, (show (v.1 0 337).toInt ≤ (u26.1 0 337).toInt ∧ (u26.1 0 337).toInt ≤ (v.1 0 337).toInt + 2 from (om_11a20d2072 pz25)), (RS.tr RS.rf rs25)⟩, by rw [ht9]; exact hP, hD⟩, hS.F ht9⟩) hS.2.2 dX0_laySign_228
            ·
              by_cases h28 : pa = 59
              · refine lv_tableIn (off := 98) (tgt := 99) hx hb dX0_laySign_1 (by rw [h28]; decide) (by rw [h28]; decide) (by rw [h28]; decide) (by decide) ?_
                refine lv_aload_n hx hb dX0_laySign_99 rfl (lv_at hl 0 rfl) ?_
                refine lv_sipush (v := 24627) hx hb dX0_laySign_100 (by decide) ?_
                refine lv_bipush (v := 10) hx hb dX0_laySign_103 (by decide) ?_
                refine lv_iconst (v := 5) hx hb dX0_laySign_105 (by decide) ?_
                refine lv_bipush (v := 10) hx hb dX0_laySign_106 (by decide) ?_
                refine cu_v (rn_Vk (n := 4) (As := [.int 24627, .int 10, .int 5, .int 10]) (rest := []) hx hb hml hown ht hKK hFx hP hD hS hA (c_x_X0_three l dC dI cI cB cZ cJ cR tb s.heap.size ad pr N L1 L2 v (24627 : Int32) (10 : Int32) (5 : Int32) (10 : Int32) ps (show (N : Int) ≤ 4096 from (om_1c2c49c46c zNN)) (show pr ps = ad 908 from hps) (show (v.1 0 334) = ps from es334) (show 0 ≤ (v.1 0 337).toInt ∧ (v.1 0 337).toInt + 1 ≤ 7000000 from (om_d0491bd047 zs))) tw_693 tw_694 (by decide +kernel) rfl rfl ⟨Nat.le_of_ble_eq_true rfl, Nat.le_of_ble_eq_true rfl⟩ (List.range (cW ad pr N cI cR L1 L2 v).length) (rg_map _) (nd_range _) 4 rfl rfl rfl rfl hl.1 rfl (Nat.le_of_ble_eq_true rfl) dX0_laySign_108 ⟨Nat.le_of_ble_eq_true rfl, Nat.le_of_ble_eq_true rfl⟩) hP hD hS hA (fun u30 H locs hw29 hP hD hS => ?_)
                obtain ⟨fr29, ex29, pz29, rs29⟩ := hw29
                refine W.widen (k := 0) (n := 0) (Nat.le_refl _) (Nat.le_refl _) ?_
                refine lv_goto (tgt := 228) hx hb dX0_laySign_111 (by decide) ?_
                exact W.vret hx hb hr (fun t ht9 hW => ⟨⟨u30, rfl, ⟨(FC.tr (FC.rf _) (FC.up fr29 (by decide) (by decide))), ⟨zs, (Or.inr (⟨h1, (Or.inr (⟨h5, (Or.inr (⟨h9, (Or.inr (⟨h13, (Or.inr (⟨h17, (Or.inr (⟨h24, (Or.inl ⟨h28, u30, ex29, ⟨fr29, pz29, rs29⟩, rfl⟩)⟩))⟩))⟩))⟩))⟩))⟩))⟩, (show (v.1 0 337).toInt ≤ (u30.1 0 337).toInt ∧ (u30.1 0 337).toInt ≤ (v.1 0 337).toInt + 2 from (om_11a20d2072 pz29)), (RS.tr RS.rf rs29)⟩, by rw [ht9]; exact hP, hD⟩, hS.F ht9⟩) hS.2.2 dX0_laySign_228
              ·
                by_cases h32 : pa = 60
                · refine lv_tableIn (off := 113) (tgt := 114) hx hb dX0_laySign_1 (by rw [h32]; decide) (by rw [h32]; decide) (by rw [h32]; decide) (by decide) ?_
                  refine lv_aload_n hx hb dX0_laySign_114 rfl (lv_at hl 0 rfl) ?_
                  refine lv_sipush (v := 16435) hx hb dX0_laySign_115 (by decide) ?_
                  refine lv_bipush (v := 10) hx hb dX0_laySign_118 (by decide) ?_
                  refine lv_iconst (v := 5) hx hb dX0_laySign_120 (by decide) ?_
                  refine lv_bipush (v := 10) hx hb dX0_laySign_121 (by decide) ?_
                  refine cu_v (rn_Vk (n := 4) (As := [.int 16435, .int 10, .int 5, .int 10]) (rest := []) hx hb hml hown ht hKK hFx hP hD hS hA (c_x_X0_three l dC dI cI cB cZ cJ cR tb s.heap.size ad pr N L1 L2 v (16435 : Int32) (10 : Int32) (5 : Int32) (10 : Int32) ps (show (N : Int) ≤ 4096 from (om_1c2c49c46c zNN)) (show pr ps = ad 908 from hps) (show (v.1 0 334) = ps from es334) (show 0 ≤ (v.1 0 337).toInt ∧ (v.1 0 337).toInt + 1 ≤ 7000000 from (om_d0491bd047 zs))) tw_693 tw_694 (by decide +kernel) rfl rfl ⟨Nat.le_of_ble_eq_true rfl, Nat.le_of_ble_eq_true rfl⟩ (List.range (cW ad pr N cI cR L1 L2 v).length) (rg_map _) (nd_range _) 4 rfl rfl rfl rfl hl.1 rfl (Nat.le_of_ble_eq_true rfl) dX0_laySign_123 ⟨Nat.le_of_ble_eq_true rfl, Nat.le_of_ble_eq_true rfl⟩) hP hD hS hA (fun u34 H locs hw33 hP hD hS => ?_)
                  obtain ⟨fr33, ex33, pz33, rs33⟩ := hw33
                  refine W.widen (k := 0) (n := 0) (Nat.le_refl _) (Nat.le_refl _) ?_
                  refine lv_goto (tgt := 228) hx hb dX0_laySign_126 (by decide) ?_
                  exact W.vret hx hb hr (fun t ht9 hW => ⟨⟨u34, rfl, ⟨(FC.tr (FC.rf _) (FC.up fr33 (by decide) (by decide))), ⟨zs, (Or.inr (⟨h1, (Or.inr (⟨h5, (Or.inr (⟨h9, (Or.inr (⟨h13, (Or.inr (⟨h17, (Or.inr (⟨h24, (Or.inr (⟨h28, (Or.inl ⟨h32, u34, ex33, ⟨fr33, pz33, rs33⟩, rfl⟩)⟩))⟩))⟩))⟩))⟩))⟩))⟩))⟩, (show (v.1 0 337).toInt ≤ (u34.1 0 337).toInt ∧ (u34.1 0 337).toInt ≤ (v.1 0 337).toInt + 2 from (om_11a20d2072 pz33)), (RS.tr RS.rf rs33)⟩, by rw [ht9]; exact hP, hD⟩, hS.F ht9⟩) hS.2.2 dX0_laySign_228
                ·
                  by_cases h36 : pa = 61
                  · refine lv_tableIn (off := 128) (tgt := 129) hx hb dX0_laySign_1 (by rw [h36]; decide) (by rw [h36]; decide) (by rw [h36]; decide) (by decide) ?_
                    refine lv_aload_n hx hb dX0_laySign_129 rfl (lv_at hl 0 rfl) ?_
                    refine lv_sipush (v := 4147) hx hb dX0_laySign_130 (by decide) ?_
                    refine lv_bipush (v := 10) hx hb dX0_laySign_133 (by decide) ?_
                    refine lv_iconst (v := 5) hx hb dX0_laySign_135 (by decide) ?_
                    refine lv_bipush (v := 10) hx hb dX0_laySign_136 (by decide) ?_
                    refine cu_v (rn_Vk (n := 4) (As := [.int 4147, .int 10, .int 5, .int 10]) (rest := []) hx hb hml hown ht hKK hFx hP hD hS hA (c_x_X0_three l dC dI cI cB cZ cJ cR tb s.heap.size ad pr N L1 L2 v (4147 : Int32) (10 : Int32) (5 : Int32) (10 : Int32) ps (show (N : Int) ≤ 4096 from (om_1c2c49c46c zNN)) (show pr ps = ad 908 from hps) (show (v.1 0 334) = ps from es334) (show 0 ≤ (v.1 0 337).toInt ∧ (v.1 0 337).toInt + 1 ≤ 7000000 from (om_d0491bd047 zs))) tw_693 tw_694 (by decide +kernel) rfl rfl ⟨Nat.le_of_ble_eq_true rfl, Nat.le_of_ble_eq_true rfl⟩ (List.range (cW ad pr N cI cR L1 L2 v).length) (rg_map _) (nd_range _) 4 rfl rfl rfl rfl hl.1 rfl (Nat.le_of_ble_eq_true rfl) dX0_laySign_138 ⟨Nat.le_of_ble_eq_true rfl, Nat.le_of_ble_eq_true rfl⟩) hP hD hS hA (fun u38 H locs hw37 hP hD hS => ?_)
                    obtain ⟨fr37, ex37, pz37, rs37⟩ := hw37
                    refine W.widen (k := 0) (n := 0) (Nat.le_refl _) (Nat.le_refl _) ?_
                    refine lv_goto (tgt := 228) hx hb dX0_laySign_141 (by decide) ?_
                    exact W.vret hx hb hr (fun t ht9 hW => ⟨⟨u38, rfl, ⟨(FC.tr (FC.rf _) (FC.up fr37 (by decide) (by decide))), ⟨zs, (Or.inr (⟨h1, (Or.inr (⟨h5, (Or.inr (⟨h9, (Or.inr (⟨h13, (Or.inr (⟨h17, (Or.inr (⟨h24, (Or.inr (⟨h28, (Or.inr (⟨h32, (Or.inl ⟨h36, u38, ex37, ⟨fr37, pz37, rs37⟩, rfl⟩)⟩))⟩))⟩))⟩))⟩))⟩))⟩))⟩))⟩, (show (v.1 0 337).toInt ≤ (u38.1 0 337).toInt ∧ (u38.1 0 337).toInt ≤ (v.1 0 337).toInt + 2 from (om_11a20d2072 pz37)), (RS.tr RS.rf rs37)⟩, by rw [ht9]; exact hP, hD⟩, hS.F ht9⟩) hS.2.2 dX0_laySign_228
                  ·
                    by_cases h40 : pa = 62
                    · refine lv_tableIn (off := 143) (tgt := 144) hx hb dX0_laySign_1 (by rw [h40]; decide) (by rw [h40]; decide) (by rw [h40]; decide) (by decide) ?_
                      refine lv_aload_n hx hb dX0_laySign_144 rfl (lv_at hl 0 rfl) ?_
                      refine lv_ldc (v := 1073762355) hx hb hown (ht _ tw_705) dX0_laySign_145 ?_
                      refine lv_bipush (v := 10) hx hb dX0_laySign_147 (by decide) ?_
                      refine lv_iconst (v := 5) hx hb dX0_laySign_149 (by decide) ?_
                      refine lv_bipush (v := 10) hx hb dX0_laySign_150 (by decide) ?_
                      refine cu_v (rn_Vk (n := 4) (As := [.int 1073762355, .int 10, .int 5, .int 10]) (rest := []) hx hb hml hown ht hKK hFx hP hD hS hA (c_x_X0_three l dC dI cI cB cZ cJ cR tb s.heap.size ad pr N L1 L2 v (1073762355 : Int32) (10 : Int32) (5 : Int32) (10 : Int32) ps (show (N : Int) ≤ 4096 from (om_1c2c49c46c zNN)) (show pr ps = ad 908 from hps) (show (v.1 0 334) = ps from es334) (show 0 ≤ (v.1 0 337).toInt ∧ (v.1 0 337).toInt + 1 ≤ 7000000 from (om_d0491bd047 zs))) tw_693 tw_694 (by decide +kernel) rfl rfl ⟨Nat.le_of_ble_eq_true rfl, Nat.le_of_ble_eq_true rfl⟩ (List.range (cW ad pr N cI cR L1 L2 v).length) (rg_map _) (nd_range _) 4 rfl rfl rfl rfl hl.1 rfl (Nat.le_of_ble_eq_true rfl) dX0_laySign_152 ⟨Nat.le_of_ble_eq_true rfl, Nat.le_of_ble_eq_true rfl⟩) hP hD hS hA (fun u42 H locs hw41 hP hD hS => ?_)
                      obtain ⟨fr41, ex41, pz41, rs41⟩ := hw41
                      refine W.widen (k := 0) (n := 0) (Nat.le_refl _) (Nat.le_refl _) ?_
                      refine lv_goto (tgt := 228) hx hb dX0_laySign_155 (by decide) ?_
                      exact W.vret hx hb hr (fun t ht9 hW => ⟨⟨u42, rfl, ⟨(FC.tr (FC.rf _) (FC.up fr41 (by decide) (by decide))), ⟨zs, (Or.inr (⟨h1, (Or.inr (⟨h5, (Or.inr (⟨h9, (Or.inr (⟨h13, (Or.inr (⟨h17, (Or.inr (⟨h24, (Or.inr (⟨h28, (Or.inr (⟨h32, (Or.inr (⟨h36, (Or.inl ⟨h40, u42, ex41, ⟨fr41, pz41, rs41⟩, rfl⟩)⟩))⟩))⟩))⟩))⟩))⟩))⟩))⟩))⟩))⟩, (show (v.1 0 337).toInt ≤ (u42.1 0 337).toInt ∧ (u42.1 0 337).toInt ≤ (v.1 0 337).toInt + 2 from (om_11a20d2072 pz41)), (RS.tr RS.rf rs41)⟩, by rw [ht9]; exact hP, hD⟩, hS.F ht9⟩) hS.2.2 dX0_laySign_228
                    ·
                      refine lv_tableOut (tgt := 223) hx hb dX0_laySign_1 (by have := lv_neT h1 (a := 53) (by decide); have := lv_neT h5 (a := 54) (by decide); have := lv_neT h9 (a := 55) (by decide); have := lv_neT h13 (a := 56) (by decide); have := lv_neT h17 (a := 57) (by decide); have := lv_neT h24 (a := 58) (by decide); have := lv_neT h28 (a := 59) (by decide); have := lv_neT h32 (a := 60) (by decide); have := lv_neT h36 (a := 61) (by decide); have := lv_neT h40 (a := 62) (by decide); omega) (by decide) ?_
                      refine lv_aload_n hx hb dX0_laySign_223 rfl (lv_at hl 0 rfl) ?_
                      refine lv_iload_n hx hb dX0_laySign_224 rfl (lv_at hl 1 rfl) ?_
                      refine cu_v (rn_Vk (n := 1) (As := [.int pa]) (rest := []) hx hb hml hown ht hKK hFx hP hD hS hA (c_x_X0_layComparison l dC dI cI cB cZ cJ cR tb s.heap.size ad pr N L1 L2 v pa ps (show (N : Int) ≤ 4096 from (om_1c2c49c46c zNN)) (show pr ps = ad 908 from hps) (show (v.1 0 334) = ps from es334) (show 0 ≤ (v.1 0 337).toInt ∧ (v.1 0 337).toInt + 2 ≤ 7000000 from (om_c8cda10a08 zs))) tw_706 tw_707 (by decide +kernel) rfl rfl ⟨Nat.le_of_ble_eq_true rfl, Nat.le_of_ble_eq_true rfl⟩ (List.range (cW ad pr N cI cR L1 L2 v).length) (rg_map _) (nd_range _) 4 rfl rfl rfl rfl hl.1 rfl (Nat.le_of_ble_eq_true rfl) dX0_laySign_225 ⟨Nat.le_of_ble_eq_true rfl, Nat.le_of_ble_eq_true rfl⟩) hP hD hS hA (fun u45 H locs hw44 hP hD hS => ?_)
                      obtain ⟨fr44, ex44, pz44, rs44⟩ := hw44
                      refine W.widen (k := 0) (n := 0) (Nat.le_refl _) (Nat.le_refl _) ?_
                      exact W.vret hx hb hr (fun t ht9 hW => ⟨⟨u45, rfl, ⟨(FC.tr (FC.rf _) (FC.up fr44 (by decide) (by decide))), ⟨zs, (Or.inr (⟨h1, (Or.inr (⟨h5, (Or.inr (⟨h9, (Or.inr (⟨h13, (Or.inr (⟨h17, (Or.inr (⟨h24, (Or.inr (⟨h28, (Or.inr (⟨h32, (Or.inr (⟨h36, (Or.inr (⟨h40, u45, ex44, ⟨fr44, pz44, rs44⟩, rfl⟩))⟩))⟩))⟩))⟩))⟩))⟩))⟩))⟩))⟩))⟩, (show (v.1 0 337).toInt ≤ (u45.1 0 337).toInt ∧ (u45.1 0 337).toInt ≤ (v.1 0 337).toInt + 2 from (om_6e33be52fd pz44)), (RS.tr RS.rf rs44)⟩, by rw [ht9]; exact hP, hD⟩, hS.F ht9⟩) hS.2.2 dX0_laySign_228
theorem om_cba0ced3b5 {x0 : Int} (h0 : 0 ≤ x0 ∧ x0 + 10 ≤ 7000000) : 0 ≤ x0 ∧ x0 + 1 ≤ 7000000 := by omega
theorem om_74f63e6b6f {x0 x1 : Int} (h0 : 0 ≤ x0 ∧ x0 + 10 ≤ 7000000) (h1 : x1 = x0 + 1) : -2147483648 ≤ (4 : Int) * (x1) := by omega
theorem om_688ea3c3cc {x0 x1 : Int} (h0 : 0 ≤ x0 ∧ x0 + 10 ≤ 7000000) (h1 : x1 = x0 + 1) : (4 : Int) * (x1) < 2147483648 := by omega
theorem om_e2371be38b {x0 x1 : Int} (h0 : 0 ≤ x0 ∧ x0 + 10 ≤ 7000000) (h1 : x1 = x0 + 1) : 0 ≤ x1 ∧ x1 + 1 ≤ 7000000 := by omega
theorem om_60980786fe {x0 x1 x2 : Int} (h0 : 0 ≤ x0 ∧ x0 + 10 ≤ 7000000) (h1 : x1 = x0 + 1) (h2 : x2 = x1 + 1) : 0 ≤ x2 ∧ x2 + 1 ≤ 7000000 := by omega
theorem om_37132ef343 {x0 x1 x2 x3 : Int} (h0 : 0 ≤ x0 ∧ x0 + 10 ≤ 7000000) (h1 : x1 = x0 + 1) (h2 : x2 = x1 + 1) (h3 : x3 = x2 + 1) : 0 ≤ x3 ∧ x3 + 1 ≤ 7000000 := by omega
theorem om_e6d65bb8e3 {x0 x1 x2 x3 x4 : Int} (h0 : 0 ≤ x0 ∧ x0 + 10 ≤ 7000000) (h1 : x1 = x0 + 1) (h2 : x2 = x1 + 1) (h3 : x3 = x2 + 1) (h4 : x4 = x3 + 1) : 0 ≤ x4 ∧ x4 + 1 ≤ 7000000 := by omega
theorem om_77c364e015 {x0 x1 x2 x3 x4 x5 : Int} (h0 : 0 ≤ x0 ∧ x0 + 10 ≤ 7000000) (h1 : x1 = x0 + 1) (h2 : x2 = x1 + 1) (h3 : x3 = x2 + 1) (h4 : x4 = x3 + 1) (h5 : x5 = x4 + 1) : 0 ≤ x5 ∧ x5 + 1 ≤ 7000000 := by omega
theorem om_3e2eb926df {x0 x1 x2 x3 x4 x5 x6 : Int} (h0 : 0 ≤ x0 ∧ x0 + 10 ≤ 7000000) (h1 : x1 = x0 + 1) (h2 : x2 = x1 + 1) (h3 : x3 = x2 + 1) (h4 : x4 = x3 + 1) (h5 : x5 = x4 + 1) (h6 : x6 = x5 + 1) : 0 ≤ x6 ∧ x6 + 1 ≤ 7000000 := by omega
theorem om_93a32e1812 {x0 x1 x2 x3 x4 x5 x6 x7 : Int} (h0 : 0 ≤ x0 ∧ x0 + 10 ≤ 7000000) (h1 : x1 = x0 + 1) (h2 : x2 = x1 + 1) (h3 : x3 = x2 + 1) (h4 : x4 = x3 + 1) (h5 : x5 = x4 + 1) (h6 : x6 = x5 + 1) (h7 : x7 = x6 + 1) : 0 ≤ x7 ∧ x7 + 1 ≤ 7000000 := by omega
theorem om_09e0c651a1 {x0 x1 x2 x3 x4 x5 x6 x7 x8 : Int} (h0 : 0 ≤ x0 ∧ x0 + 10 ≤ 7000000) (h1 : x1 = x0 + 1) (h2 : x2 = x1 + 1) (h3 : x3 = x2 + 1) (h4 : x4 = x3 + 1) (h5 : x5 = x4 + 1) (h6 : x6 = x5 + 1) (h7 : x7 = x6 + 1) (h8 : x8 = x7 + 1) : 0 ≤ x8 ∧ x8 + 1 ≤ 7000000 := by omega
theorem om_726e6dd9df {x0 x1 x2 x3 x4 x5 x6 x7 x8 x9 : Int} (h0 : 0 ≤ x0 ∧ x0 + 10 ≤ 7000000) (h1 : x1 = x0 + 1) (h2 : x2 = x1 + 1) (h3 : x3 = x2 + 1) (h4 : x4 = x3 + 1) (h5 : x5 = x4 + 1) (h6 : x6 = x5 + 1) (h7 : x7 = x6 + 1) (h8 : x8 = x7 + 1) (h9 : x9 = x8 + 1) : 0 ≤ x9 ∧ x9 + 1 ≤ 7000000 := by omega
theorem om_07a3ea124e {x0 x1 x2 x3 x4 x5 x6 x7 x8 x9 x10 : Int} (h0 : x0 = x1 + 1) (h1 : x2 = x0 + 1) (h2 : x3 = x2 + 1) (h3 : x4 = x3 + 1) (h4 : x5 = x4 + 1) (h5 : x6 = x5 + 1) (h6 : x7 = x6 + 1) (h7 : x8 = x7 + 1) (h8 : x9 = x8 + 1) (h9 : x10 = x9 + 1) : x10 = x1 + 10 := by omega
set_option maxHeartbeats 4000000 in
set_option maxRecDepth 100000 in
theorem c_x_X0_layTimes (l : Launch) (dC : Nat → ClassId) (dI : Nat → Nat → Nat) (cI cB cZ cJ cR : ClassId) (tb : Nat → Nat) (sz : Nat) (ad : Nat → Nat) (pr : Int32 → Nat) (N : Nat) (L1 L2 : List Nat) (v : MS) (ps : Int32) (zNN : (N : Int) ≤ 4096) (hps : pr ps = ad 908) (es334 : (v.1 0 334) = ps) (zs : 0 ≤ (v.1 0 337).toInt ∧ (v.1 0 337).toInt + 10 ≤ 7000000) : Met l yX0_layTimes (Cond.code yX0_layTimes cX0_layTimes 2 none :: tw_W) ({ frames := 2, cells := 0, slots := 0, locals := 45 }) (pc_ (dC, dI) (tyS cI cB cZ cJ cR) tb (cW ad pr N cI cR L1 L2 v) sz [.ref (ad 904)]) (qv_ (dC, dI) (cW ad pr N cI cR L1 L2 v) sz (fun (u : MS) => FC [337] [0, 382] v u ∧ (Q_x_X0_layTimes L1 L2 N v u) ∧ ((u.1 0 337).toInt = (v.1 0 337).toInt + 10) ∧ (RS v u)) (fun (u : MS) => (cW ad pr N cI cR L1 L2 u))) 0 0 (va_A (cW ad pr N cI cR L1 L2 v) sz) := by
  refine Met.ofW (cc := cX0_layTimes) (maxL := 2) (ret := none) (by decide) rfl ?_
  intro p e s m args below meth c s₁ B hml hv
  obtain ⟨rfl, hsz, hP, hKK, hD0, hFx⟩ := hv
  have hK := hKK.1
  have hx := B.exec
  have hb := B.bytes
  have hr := B.returns
  have ht : ∀ w ∈ tw_W, w.before _ s = true := fun w h => atoms_spec (ws := Cond.code yX0_layTimes cX0_layTimes 2 none :: tw_W) B.pre w (List.mem_cons_of_mem _ h)
  have hown : s.vm.findClass RX0 = some m.cls := findClass_of_methodNamed B.named
  have hlocks := B.notSynchronized
  subst hsz
  unfold qv_
  have hD := hD0.self (sz := s.heap.size)
  generalize hAe : va_A (cW ad pr N cI cR L1 L2 v) s.heap.size = A at hD hFx ⊢
  have hA : ∀ q : Nat, s.heap.size ≤ q → A q := fun q h => by rw [← hAe]; exact Or.inr h
  have hS : va_S A s.heap s.heap [] := va_S.rf
  have hl := lv_entry ([.ref (ad 904)]) (n := 2) (Nat.le_of_ble_eq_true rfl)
  rw [lg_entry_eq]
  generalize (lg_sl ([.ref (ad 904)]) ++ List.replicate (2 - (lg_sl ([.ref (ad 904)])).length) Slot.unset).toArray = ls at hl ⊢
  have hl : lv_has ls 2 [(0, .ref (ad 904))] := hl
  refine lv_aload_n hx hb dX0_layTimes_0 rfl (lv_at hl 0 rfl) ?_
  refine lv_bipush (v := 19) hx hb dX0_layTimes_1 (by decide) ?_
  refine lv_bipush (v := 6) hx hb dX0_layTimes_3 (by decide) ?_
  refine lv_iconst (v := 0) hx hb dX0_layTimes_5 (by decide) ?_
  refine lv_iconst (v := 0) hx hb dX0_layTimes_6 (by decide) ?_
  refine cu_v (rn_Vk (n := 4) (As := [.int 19, .int 6, .int 0, .int 0]) (rest := []) hx hb hml hown ht hKK hFx hP hD hS hA (c_x_X0_immediate l dC dI cI cB cZ cJ cR tb s.heap.size ad pr N L1 L2 v (19 : Int32) (6 : Int32) (0 : Int32) (0 : Int32) ps (show (N : Int) ≤ 4096 from (om_1c2c49c46c zNN)) (show pr ps = ad 908 from hps) (show (v.1 0 334) = ps from es334) (show 0 ≤ (v.1 0 337).toInt ∧ (v.1 0 337).toInt + 1 ≤ 7000000 from (om_cba0ced3b5 zs))) tw_678 tw_679 (by decide +kernel) rfl rfl ⟨Nat.le_of_ble_eq_true rfl, Nat.le_of_ble_eq_true rfl⟩ (List.range (cW ad pr N cI cR L1 L2 v).length) (rg_map _) (nd_range _) 4 rfl rfl rfl rfl hl.1 rfl (Nat.le_of_ble_eq_true rfl) dX0_layTimes_7 ⟨Nat.le_of_ble_eq_true rfl, Nat.le_of_ble_eq_true rfl⟩) hP hD hS hA (fun u2 H locs hw1 hP hD hS => ?_)
  obtain ⟨fr1, ex1, pz1, rs1⟩ := hw1
  refine W.widen (k := 0) (n := 0) (Nat.le_refl _) (Nat.le_refl _) ?_
  refine lv_iconst (v := 4) hx hb dX0_layTimes_10 (by decide) ?_
  refine lv_aload_n hx hb dX0_layTimes_11 rfl (lv_at hl 0 rfl) ?_
  refine va_get (D := (dC, dI)) (ci := 4) (fs := oF_X0 ad pr u2) (v := .int (u2.1 0 337)) (C := RX0) (T := TX0) (N := 9) hx hb ht itX0 hown hK hP 4 rfl rfl 3 (by decide) (ht _ tw_673) (fun _ h9 => h9) rfl dX0_layTimes_12 ?_
  refine lv_imul hx hb dX0_layTimes_15 ?_
  have z4 : ((4 : Int32) * (u2.1 0 337)).toInt = (4 : Int) * ((u2.1 0 337).toInt) := mul_z (show (4 : Int32).toInt = (4 : Int) by decide) rfl (om_74f63e6b6f zs pz1) (om_688ea3c3cc zs pz1)
  refine lv_istore_n (lv' := [(1, .int ((4 : Int32) * (u2.1 0 337))), (0, .ref (ad 904))]) hx hb dX0_layTimes_16 rfl hl (by decide) rfl (fun ls hl => ?_)
  refine lv_aload_n hx hb dX0_layTimes_17 rfl (lv_at hl 1 rfl) ?_
  refine lv_bipush (v := 99) hx hb dX0_layTimes_18 (by decide) ?_
  refine lv_bipush (v := 10) hx hb dX0_layTimes_20 (by decide) ?_
  refine lv_iconst (v := 0) hx hb dX0_layTimes_22 (by decide) ?_
  refine lv_bipush (v := 28) hx hb dX0_layTimes_23 (by decide) ?_
  refine cu_v (rn_Vk (n := 4) (As := [.int 99, .int 10, .int 0, .int 28]) (rest := []) hx hb hml hown ht hKK hFx hP hD hS hA (c_x_X0_branch l dC dI cI cB cZ cJ cR tb H.size ad pr N L1 L2 u2 (99 : Int32) (10 : Int32) (0 : Int32) (28 : Int32) ps (show (N : Int) ≤ 4096 from (om_1c2c49c46c zNN)) (show pr ps = ad 908 from hps) (show (u2.1 0 334) = ps from (Eq.trans (fr1.2.1 334 (by decide)) es334)) (show 0 ≤ (u2.1 0 337).toInt ∧ (u2.1 0 337).toInt + 1 ≤ 7000000 from (om_e2371be38b zs pz1))) tw_691 tw_692 (by decide +kernel) rfl rfl ⟨Nat.le_of_ble_eq_true rfl, Nat.le_of_ble_eq_true rfl⟩ (List.range (cW ad pr N cI cR L1 L2 u2).length) (rg_map _) (nd_range _) 4 rfl rfl rfl rfl hl.1 rfl (Nat.le_of_ble_eq_true rfl) dX0_layTimes_25 ⟨Nat.le_of_ble_eq_true rfl, Nat.le_of_ble_eq_true rfl⟩) hP hD hS hA (fun u6 H locs hw5 hP hD hS => ?_)
  obtain ⟨fr5, ex5, pz5, rs5⟩ := hw5
  have pz5 : (u6.1 0 337).toInt = (u2.1 0 337).toInt + 1 := pz5
  have rs5 : RS u2 u6 := rs5
  refine W.widen (k := 0) (n := 0) (Nat.le_refl _) (Nat.le_refl _) ?_
  refine lv_aload_n hx hb dX0_layTimes_28 rfl (lv_at hl 1 rfl) ?_
  refine lv_sipush (v := 28691) hx hb dX0_layTimes_29 (by decide) ?_
  refine lv_bipush (v := 7) hx hb dX0_layTimes_32 (by decide) ?_
  refine lv_bipush (v := 10) hx hb dX0_layTimes_34 (by decide) ?_
  refine lv_iconst (v := 1) hx hb dX0_layTimes_36 (by decide) ?_
  refine cu_v (rn_Vk (n := 4) (As := [.int 28691, .int 7, .int 10, .int 1]) (rest := []) hx hb hml hown ht hKK hFx hP hD hS hA (c_x_X0_immediate l dC dI cI cB cZ cJ cR tb H.size ad pr N L1 L2 u6 (28691 : Int32) (7 : Int32) (10 : Int32) (1 : Int32) ps (show (N : Int) ≤ 4096 from (om_1c2c49c46c zNN)) (show pr ps = ad 908 from hps) (show (u6.1 0 334) = ps from (Eq.trans (fr5.2.1 334 (by decide)) (Eq.trans (fr1.2.1 334 (by decide)) es334))) (show 0 ≤ (u6.1 0 337).toInt ∧ (u6.1 0 337).toInt + 1 ≤ 7000000 from (om_60980786fe zs pz1 pz5))) tw_678 tw_679 (by decide +kernel) rfl rfl ⟨Nat.le_of_ble_eq_true rfl, Nat.le_of_ble_eq_true rfl⟩ (List.range (cW ad pr N cI cR L1 L2 u6).length) (rg_map _) (nd_range _) 4 rfl rfl rfl rfl hl.1 rfl (Nat.le_of_ble_eq_true rfl) dX0_layTimes_37 ⟨Nat.le_of_ble_eq_true rfl, Nat.le_of_ble_eq_true rfl⟩) hP hD hS hA (fun u10 H locs hw8 hP hD hS => ?_)
  obtain ⟨fr8, ex8, pz8, rs8⟩ := hw8
  have pz8 : (u10.1 0 337).toInt = (u6.1 0 337).toInt + 1 := pz8
  have rs8 : RS u6 u10 := rs8
  refine W.widen (k := 0) (n := 0) (Nat.le_refl _) (Nat.le_refl _) ?_
  refine lv_aload_n hx hb dX0_layTimes_40 rfl (lv_at hl 1 rfl) ?_
  refine lv_bipush (v := 99) hx hb dX0_layTimes_41 (by decide) ?_
  refine lv_bipush (v := 7) hx hb dX0_layTimes_43 (by decide) ?_
  refine lv_iconst (v := 0) hx hb dX0_layTimes_45 (by decide) ?_
  refine lv_bipush (v := 8) hx hb dX0_layTimes_46 (by decide) ?_
  refine cu_v (rn_Vk (n := 4) (As := [.int 99, .int 7, .int 0, .int 8]) (rest := []) hx hb hml hown ht hKK hFx hP hD hS hA (c_x_X0_branch l dC dI cI cB cZ cJ cR tb H.size ad pr N L1 L2 u10 (99 : Int32) (7 : Int32) (0 : Int32) (8 : Int32) ps (show (N : Int) ≤ 4096 from (om_1c2c49c46c zNN)) (show pr ps = ad 908 from hps) (show (u10.1 0 334) = ps from (Eq.trans (fr8.2.1 334 (by decide)) (Eq.trans (fr5.2.1 334 (by decide)) (Eq.trans (fr1.2.1 334 (by decide)) es334)))) (show 0 ≤ (u10.1 0 337).toInt ∧ (u10.1 0 337).toInt + 1 ≤ 7000000 from (om_37132ef343 zs pz1 pz5 pz8))) tw_691 tw_692 (by decide +kernel) rfl rfl ⟨Nat.le_of_ble_eq_true rfl, Nat.le_of_ble_eq_true rfl⟩ (List.range (cW ad pr N cI cR L1 L2 u10).length) (rg_map _) (nd_range _) 4 rfl rfl rfl rfl hl.1 rfl (Nat.le_of_ble_eq_true rfl) dX0_layTimes_48 ⟨Nat.le_of_ble_eq_true rfl, Nat.le_of_ble_eq_true rfl⟩) hP hD hS hA (fun u13 H locs hw12 hP hD hS => ?_)
  obtain ⟨fr12, ex12, pz12, rs12⟩ := hw12
  have pz12 : (u13.1 0 337).toInt = (u10.1 0 337).toInt + 1 := pz12
  have rs12 : RS u10 u13 := rs12
  refine W.widen (k := 0) (n := 0) (Nat.le_refl _) (Nat.le_refl _) ?_
  refine lv_aload_n hx hb dX0_layTimes_51 rfl (lv_at hl 1 rfl) ?_
  refine lv_bipush (v := 51) hx hb dX0_layTimes_52 (by decide) ?_
  refine lv_bipush (v := 6) hx hb dX0_layTimes_54 (by decide) ?_
  refine lv_bipush (v := 6) hx hb dX0_layTimes_56 (by decide) ?_
  refine lv_iconst (v := 5) hx hb dX0_layTimes_58 (by decide) ?_
  refine cu_v (rn_Vk (n := 4) (As := [.int 51, .int 6, .int 6, .int 5]) (rest := []) hx hb hml hown ht hKK hFx hP hD hS hA (c_x_X0_three l dC dI cI cB cZ cJ cR tb H.size ad pr N L1 L2 u13 (51 : Int32) (6 : Int32) (6 : Int32) (5 : Int32) ps (show (N : Int) ≤ 4096 from (om_1c2c49c46c zNN)) (show pr ps = ad 908 from hps) (show (u13.1 0 334) = ps from (Eq.trans (fr12.2.1 334 (by decide)) (Eq.trans (fr8.2.1 334 (by decide)) (Eq.trans (fr5.2.1 334 (by decide)) (Eq.trans (fr1.2.1 334 (by decide)) es334))))) (show 0 ≤ (u13.1 0 337).toInt ∧ (u13.1 0 337).toInt + 1 ≤ 7000000 from (om_e6d65bb8e3 zs pz1 pz5 pz8 pz12))) tw_693 tw_694 (by decide +kernel) rfl rfl ⟨Nat.le_of_ble_eq_true rfl, Nat.le_of_ble_eq_true rfl⟩ (List.range (cW ad pr N cI cR L1 L2 u13).length) (rg_map _) (nd_range _) 4 rfl rfl rfl rfl hl.1 rfl (Nat.le_of_ble_eq_true rfl) dX0_layTimes_59 ⟨Nat.le_of_ble_eq_true rfl, Nat.le_of_ble_eq_true rfl⟩) hP hD hS hA (fun u16 H locs hw15 hP hD hS => ?_)
  obtain ⟨fr15, ex15, pz15, rs15⟩ := hw15
  have pz15 : (u16.1 0 337).toInt = (u13.1 0 337).toInt + 1 := pz15
  have rs15 : RS u13 u16 := rs15
  refine W.widen (k := 0) (n := 0) (Nat.le_refl _) (Nat.le_refl _) ?_
  refine lv_aload_n hx hb dX0_layTimes_62 rfl (lv_at hl 1 rfl) ?_
  refine lv_sipush (v := 4115) hx hb dX0_layTimes_63 (by decide) ?_
  refine lv_iconst (v := 5) hx hb dX0_layTimes_66 (by decide) ?_
  refine lv_iconst (v := 5) hx hb dX0_layTimes_67 (by decide) ?_
  refine lv_iconst (v := 1) hx hb dX0_layTimes_68 (by decide) ?_
  refine cu_v (rn_Vk (n := 4) (As := [.int 4115, .int 5, .int 5, .int 1]) (rest := []) hx hb hml hown ht hKK hFx hP hD hS hA (c_x_X0_immediate l dC dI cI cB cZ cJ cR tb H.size ad pr N L1 L2 u16 (4115 : Int32) (5 : Int32) (5 : Int32) (1 : Int32) ps (show (N : Int) ≤ 4096 from (om_1c2c49c46c zNN)) (show pr ps = ad 908 from hps) (show (u16.1 0 334) = ps from (Eq.trans (fr15.2.1 334 (by decide)) (Eq.trans (fr12.2.1 334 (by decide)) (Eq.trans (fr8.2.1 334 (by decide)) (Eq.trans (fr5.2.1 334 (by decide)) (Eq.trans (fr1.2.1 334 (by decide)) es334)))))) (show 0 ≤ (u16.1 0 337).toInt ∧ (u16.1 0 337).toInt + 1 ≤ 7000000 from (om_77c364e015 zs pz1 pz5 pz8 pz12 pz15))) tw_678 tw_679 (by decide +kernel) rfl rfl ⟨Nat.le_of_ble_eq_true rfl, Nat.le_of_ble_eq_true rfl⟩ (List.range (cW ad pr N cI cR L1 L2 u16).length) (rg_map _) (nd_range _) 4 rfl rfl rfl rfl hl.1 rfl (Nat.le_of_ble_eq_true rfl) dX0_layTimes_69 ⟨Nat.le_of_ble_eq_true rfl, Nat.le_of_ble_eq_true rfl⟩) hP hD hS hA (fun u19 H locs hw18 hP hD hS => ?_)
  obtain ⟨fr18, ex18, pz18, rs18⟩ := hw18
  have pz18 : (u19.1 0 337).toInt = (u16.1 0 337).toInt + 1 := pz18
  have rs18 : RS u16 u19 := rs18
  refine W.widen (k := 0) (n := 0) (Nat.le_refl _) (Nat.le_refl _) ?_
  refine lv_aload_n hx hb dX0_layTimes_72 rfl (lv_at hl 1 rfl) ?_
  refine lv_sipush (v := 20499) hx hb dX0_layTimes_73 (by decide) ?_
  refine lv_bipush (v := 10) hx hb dX0_layTimes_76 (by decide) ?_
  refine lv_bipush (v := 10) hx hb dX0_layTimes_78 (by decide) ?_
  refine lv_iconst (v := 1) hx hb dX0_layTimes_80 (by decide) ?_
  refine cu_v (rn_Vk (n := 4) (As := [.int 20499, .int 10, .int 10, .int 1]) (rest := []) hx hb hml hown ht hKK hFx hP hD hS hA (c_x_X0_immediate l dC dI cI cB cZ cJ cR tb H.size ad pr N L1 L2 u19 (20499 : Int32) (10 : Int32) (10 : Int32) (1 : Int32) ps (show (N : Int) ≤ 4096 from (om_1c2c49c46c zNN)) (show pr ps = ad 908 from hps) (show (u19.1 0 334) = ps from (Eq.trans (fr18.2.1 334 (by decide)) (Eq.trans (fr15.2.1 334 (by decide)) (Eq.trans (fr12.2.1 334 (by decide)) (Eq.trans (fr8.2.1 334 (by decide)) (Eq.trans (fr5.2.1 334 (by decide)) (Eq.trans (fr1.2.1 334 (by decide)) es334))))))) (show 0 ≤ (u19.1 0 337).toInt ∧ (u19.1 0 337).toInt + 1 ≤ 7000000 from (om_3e2eb926df zs pz1 pz5 pz8 pz12 pz15 pz18))) tw_678 tw_679 (by decide +kernel) rfl rfl ⟨Nat.le_of_ble_eq_true rfl, Nat.le_of_ble_eq_true rfl⟩ (List.range (cW ad pr N cI cR L1 L2 u19).length) (rg_map _) (nd_range _) 4 rfl rfl rfl rfl hl.1 rfl (Nat.le_of_ble_eq_true rfl) dX0_layTimes_81 ⟨Nat.le_of_ble_eq_true rfl, Nat.le_of_ble_eq_true rfl⟩) hP hD hS hA (fun u22 H locs hw21 hP hD hS => ?_)
  obtain ⟨fr21, ex21, pz21, rs21⟩ := hw21
  have pz21 : (u22.1 0 337).toInt = (u19.1 0 337).toInt + 1 := pz21
  have rs21 : RS u19 u22 := rs21
  refine W.widen (k := 0) (n := 0) (Nat.le_refl _) (Nat.le_refl _) ?_
  refine lv_aload_n hx hb dX0_layTimes_84 rfl (lv_at hl 1 rfl) ?_
  refine lv_iconst (v := 0) hx hb dX0_layTimes_85 (by decide) ?_
  refine lv_iload_n hx hb dX0_layTimes_86 rfl (lv_at hl 0 rfl) ?_
  refine cu_v (rn_Vk (n := 2) (As := [.int 0, .int ((4 : Int32) * (u2.1 0 337))]) (rest := []) hx hb hml hown ht hKK hFx hP hD hS hA (c_x_X0_jump l dC dI cI cB cZ cJ cR tb H.size ad pr N L1 L2 u22 (0 : Int32) ((4 : Int32) * (u2.1 0 337)) ps (show (N : Int) ≤ 4096 from (om_1c2c49c46c zNN)) (show pr ps = ad 908 from hps) (show (u22.1 0 334) = ps from (Eq.trans (fr21.2.1 334 (by decide)) (Eq.trans (fr18.2.1 334 (by decide)) (Eq.trans (fr15.2.1 334 (by decide)) (Eq.trans (fr12.2.1 334 (by decide)) (Eq.trans (fr8.2.1 334 (by decide)) (Eq.trans (fr5.2.1 334 (by decide)) (Eq.trans (fr1.2.1 334 (by decide)) es334)))))))) (show 0 ≤ (u22.1 0 337).toInt ∧ (u22.1 0 337).toInt + 1 ≤ 7000000 from (om_93a32e1812 zs pz1 pz5 pz8 pz12 pz15 pz18 pz21))) tw_697 tw_698 (by decide +kernel) rfl rfl ⟨Nat.le_of_ble_eq_true rfl, Nat.le_of_ble_eq_true rfl⟩ (List.range (cW ad pr N cI cR L1 L2 u22).length) (rg_map _) (nd_range _) 4 rfl rfl rfl rfl hl.1 rfl (Nat.le_of_ble_eq_true rfl) dX0_layTimes_87 ⟨Nat.le_of_ble_eq_true rfl, Nat.le_of_ble_eq_true rfl⟩) hP hD hS hA (fun u25 H locs hw24 hP hD hS => ?_)
  obtain ⟨fr24, ex24, pz24, rs24⟩ := hw24
  have pz24 : (u25.1 0 337).toInt = (u22.1 0 337).toInt + 1 := pz24
  have rs24 : RS u22 u25 := rs24
  refine W.widen (k := 0) (n := 0) (Nat.le_refl _) (Nat.le_refl _) ?_
  refine lv_aload_n hx hb dX0_layTimes_90 rfl (lv_at hl 1 rfl) ?_
  refine lv_bipush (v := 19) hx hb dX0_layTimes_91 (by decide) ?_
  refine lv_bipush (v := 10) hx hb dX0_layTimes_93 (by decide) ?_
  refine lv_bipush (v := 6) hx hb dX0_layTimes_95 (by decide) ?_
  refine lv_iconst (v := 0) hx hb dX0_layTimes_97 (by decide) ?_
  refine cu_v (rn_Vk (n := 4) (As := [.int 19, .int 10, .int 6, .int 0]) (rest := []) hx hb hml hown ht hKK hFx hP hD hS hA (c_x_X0_immediate l dC dI cI cB cZ cJ cR tb H.size ad pr N L1 L2 u25 (19 : Int32) (10 : Int32) (6 : Int32) (0 : Int32) ps (show (N : Int) ≤ 4096 from (om_1c2c49c46c zNN)) (show pr ps = ad 908 from hps) (show (u25.1 0 334) = ps from (Eq.trans (fr24.2.1 334 (by decide)) (Eq.trans (fr21.2.1 334 (by decide)) (Eq.trans (fr18.2.1 334 (by decide)) (Eq.trans (fr15.2.1 334 (by decide)) (Eq.trans (fr12.2.1 334 (by decide)) (Eq.trans (fr8.2.1 334 (by decide)) (Eq.trans (fr5.2.1 334 (by decide)) (Eq.trans (fr1.2.1 334 (by decide)) es334))))))))) (show 0 ≤ (u25.1 0 337).toInt ∧ (u25.1 0 337).toInt + 1 ≤ 7000000 from (om_09e0c651a1 zs pz1 pz5 pz8 pz12 pz15 pz18 pz21 pz24))) tw_678 tw_679 (by decide +kernel) rfl rfl ⟨Nat.le_of_ble_eq_true rfl, Nat.le_of_ble_eq_true rfl⟩ (List.range (cW ad pr N cI cR L1 L2 u25).length) (rg_map _) (nd_range _) 4 rfl rfl rfl rfl hl.1 rfl (Nat.le_of_ble_eq_true rfl) dX0_layTimes_98 ⟨Nat.le_of_ble_eq_true rfl, Nat.le_of_ble_eq_true rfl⟩) hP hD hS hA (fun u28 H locs hw27 hP hD hS => ?_)
  obtain ⟨fr27, ex27, pz27, rs27⟩ := hw27
  have pz27 : (u28.1 0 337).toInt = (u25.1 0 337).toInt + 1 := pz27
  have rs27 : RS u25 u28 := rs27
  refine W.widen (k := 0) (n := 0) (Nat.le_refl _) (Nat.le_refl _) ?_
  refine lv_aload_n hx hb dX0_layTimes_101 rfl (lv_at hl 1 rfl) ?_
  refine lv_bipush (v := 103) hx hb dX0_layTimes_102 (by decide) ?_
  refine lv_iconst (v := 0) hx hb dX0_layTimes_104 (by decide) ?_
  refine lv_bipush (v := 28) hx hb dX0_layTimes_105 (by decide) ?_
  refine lv_iconst (v := 0) hx hb dX0_layTimes_107 (by decide) ?_
  refine cu_v (rn_Vk (n := 4) (As := [.int 103, .int 0, .int 28, .int 0]) (rest := []) hx hb hml hown ht hKK hFx hP hD hS hA (c_x_X0_immediate l dC dI cI cB cZ cJ cR tb H.size ad pr N L1 L2 u28 (103 : Int32) (0 : Int32) (28 : Int32) (0 : Int32) ps (show (N : Int) ≤ 4096 from (om_1c2c49c46c zNN)) (show pr ps = ad 908 from hps) (show (u28.1 0 334) = ps from (Eq.trans (fr27.2.1 334 (by decide)) (Eq.trans (fr24.2.1 334 (by decide)) (Eq.trans (fr21.2.1 334 (by decide)) (Eq.trans (fr18.2.1 334 (by decide)) (Eq.trans (fr15.2.1 334 (by decide)) (Eq.trans (fr12.2.1 334 (by decide)) (Eq.trans (fr8.2.1 334 (by decide)) (Eq.trans (fr5.2.1 334 (by decide)) (Eq.trans (fr1.2.1 334 (by decide)) es334)))))))))) (show 0 ≤ (u28.1 0 337).toInt ∧ (u28.1 0 337).toInt + 1 ≤ 7000000 from (om_726e6dd9df zs pz1 pz5 pz8 pz12 pz15 pz18 pz21 pz24 pz27))) tw_678 tw_679 (by decide +kernel) rfl rfl ⟨Nat.le_of_ble_eq_true rfl, Nat.le_of_ble_eq_true rfl⟩ (List.range (cW ad pr N cI cR L1 L2 u28).length) (rg_map _) (nd_range _) 4 rfl rfl rfl rfl hl.1 rfl (Nat.le_of_ble_eq_true rfl) dX0_layTimes_108 ⟨Nat.le_of_ble_eq_true rfl, Nat.le_of_ble_eq_true rfl⟩) hP hD hS hA (fun u31 H locs hw30 hP hD hS => ?_)
  obtain ⟨fr30, ex30, pz30, rs30⟩ := hw30
  have pz30 : (u31.1 0 337).toInt = (u28.1 0 337).toInt + 1 := pz30
  have rs30 : RS u28 u31 := rs30
  refine W.widen (k := 0) (n := 0) (Nat.le_refl _) (Nat.le_refl _) ?_
  exact W.vret hx hb hr (fun t ht9 hW => ⟨⟨u31, rfl, ⟨(FC.tr (FC.tr (FC.tr (FC.tr (FC.tr (FC.tr (FC.tr (FC.tr (FC.tr (FC.tr (FC.rf _) (FC.up fr1 (by decide) (by decide))) (FC.up fr5 (by decide) (by decide))) (FC.up fr8 (by decide) (by decide))) (FC.up fr12 (by decide) (by decide))) (FC.up fr15 (by decide) (by decide))) (FC.up fr18 (by decide) (by decide))) (FC.up fr21 (by decide) (by decide))) (FC.up fr24 (by decide) (by decide))) (FC.up fr27 (by decide) (by decide))) (FC.up fr30 (by decide) (by decide))), ⟨zs, u2, ex1, ⟨fr1, pz1, rs1⟩, u6, ex5, ⟨fr5, pz5, rs5⟩, u10, ex8, ⟨fr8, pz8, rs8⟩, u13, ex12, ⟨fr12, pz12, rs12⟩, u16, ex15, ⟨fr15, pz15, rs15⟩, u19, ex18, ⟨fr18, pz18, rs18⟩, u22, ex21, ⟨fr21, pz21, rs21⟩, u25, ex24, ⟨fr24, pz24, rs24⟩, u28, ex27, ⟨fr27, pz27, rs27⟩, u31, ex30, ⟨fr30, pz30, rs30⟩, rfl⟩, (show (u31.1 0 337).toInt = (v.1 0 337).toInt + 10 from (om_07a3ea124e pz1 pz5 pz8 pz12 pz15 pz18 pz21 pz24 pz27 pz30)), (RS.tr (RS.tr (RS.tr (RS.tr (RS.tr (RS.tr (RS.tr (RS.tr (RS.tr (RS.tr RS.rf rs1) rs5) rs8) rs12) rs15) rs18) rs21) rs24) rs27) rs30)⟩, by rw [ht9]; exact hP, hD⟩, hS.F ht9⟩) hS.2.2 dX0_layTimes_111
theorem om_5ec5c3688f {x0 : Int} (h0 : 0 ≤ x0 ∧ x0 + 26 ≤ 7000000) : 0 ≤ x0 ∧ x0 + 1 ≤ 7000000 := by omega
theorem om_e14c52d219 {x0 x1 : Int} (h0 : 0 ≤ x0 ∧ x0 + 26 ≤ 7000000) (h1 : x1 = x0 + 1) : 0 ≤ x1 ∧ x1 + 2 ≤ 7000000 := by omega
theorem om_b93002d14e {x0 x1 x2 : Int} (h0 : 0 ≤ x0 ∧ x0 + 26 ≤ 7000000) (h1 : x1 = x0 + 1) (h2 : x2 = x1 + 2) : 0 ≤ x2 ∧ x2 + 1 ≤ 7000000 := by omega
theorem om_12a83918b9 {x0 x1 x2 x3 : Int} (h0 : 0 ≤ x0 ∧ x0 + 26 ≤ 7000000) (h1 : x1 = x0 + 1) (h2 : x2 = x1 + 2) (h3 : x3 = x2 + 1) : 0 ≤ x3 ∧ x3 + 1 ≤ 7000000 := by omega
theorem om_b5c586a856 {x0 x1 x2 x3 x4 : Int} (h0 : 0 ≤ x0 ∧ x0 + 26 ≤ 7000000) (h1 : x1 = x0 + 1) (h2 : x2 = x1 + 2) (h3 : x3 = x2 + 1) (h4 : x4 = x3 + 1) : 0 ≤ x4 ∧ x4 + 1 ≤ 7000000 := by omega
theorem om_5b1a84a8a8 {x0 x1 x2 x3 x4 x5 : Int} (h0 : 0 ≤ x0 ∧ x0 + 26 ≤ 7000000) (h1 : x1 = x0 + 1) (h2 : x2 = x1 + 2) (h3 : x3 = x2 + 1) (h4 : x4 = x3 + 1) (h5 : x5 = x4 + 1) : 0 ≤ x5 ∧ x5 + 1 ≤ 7000000 := by omega
theorem om_039a2325f2 {x0 x1 x2 x3 x4 x5 x6 : Int} (h0 : 0 ≤ x0 ∧ x0 + 26 ≤ 7000000) (h1 : x1 = x0 + 1) (h2 : x2 = x1 + 2) (h3 : x3 = x2 + 1) (h4 : x4 = x3 + 1) (h5 : x5 = x4 + 1) (h6 : x6 = x5 + 1) : 0 ≤ x6 ∧ x6 + 1 ≤ 7000000 := by omega
theorem om_b3b9c9e6a6 {x0 x1 x2 x3 x4 x5 x6 x7 : Int} (h0 : 0 ≤ x0 ∧ x0 + 26 ≤ 7000000) (h1 : x1 = x0 + 1) (h2 : x2 = x1 + 2) (h3 : x3 = x2 + 1) (h4 : x4 = x3 + 1) (h5 : x5 = x4 + 1) (h6 : x6 = x5 + 1) (h7 : x7 = x6 + 1) : 0 ≤ x7 ∧ x7 + 1 ≤ 7000000 := by omega
theorem om_4eca8a8f5d {x0 x1 x2 x3 x4 x5 x6 x7 x8 : Int} (h0 : 0 ≤ x0 ∧ x0 + 26 ≤ 7000000) (h1 : x1 = x0 + 1) (h2 : x2 = x1 + 2) (h3 : x3 = x2 + 1) (h4 : x4 = x3 + 1) (h5 : x5 = x4 + 1) (h6 : x6 = x5 + 1) (h7 : x7 = x6 + 1) (h8 : x8 = x7 + 1) : 0 ≤ x8 ∧ x8 + 1 ≤ 7000000 := by omega
theorem om_57eefe8a14 {x0 x1 x2 x3 x4 x5 x6 x7 x8 x9 : Int} (h0 : 0 ≤ x0 ∧ x0 + 26 ≤ 7000000) (h1 : x1 = x0 + 1) (h2 : x2 = x1 + 2) (h3 : x3 = x2 + 1) (h4 : x4 = x3 + 1) (h5 : x5 = x4 + 1) (h6 : x6 = x5 + 1) (h7 : x7 = x6 + 1) (h8 : x8 = x7 + 1) (h9 : x9 = x8 + 1) : 0 ≤ x9 ∧ x9 + 1 ≤ 7000000 := by omega
theorem om_a0a6ede1a3 {x0 x1 x2 x3 x4 x5 x6 x7 x8 x9 x10 : Int} (h0 : 0 ≤ x0 ∧ x0 + 26 ≤ 7000000) (h1 : x1 = x0 + 1) (h2 : x2 = x1 + 2) (h3 : x3 = x2 + 1) (h4 : x4 = x3 + 1) (h5 : x5 = x4 + 1) (h6 : x6 = x5 + 1) (h7 : x7 = x6 + 1) (h8 : x8 = x7 + 1) (h9 : x9 = x8 + 1) (h10 : x10 = x9 + 1) : 0 ≤ x10 ∧ x10 + 1 ≤ 7000000 := by omega
theorem om_fe62e0cfe2 {x0 x1 x2 x3 x4 x5 x6 x7 x8 x9 x10 x11 : Int} (h0 : 0 ≤ x0 ∧ x0 + 26 ≤ 7000000) (h1 : x1 = x0 + 1) (h2 : x2 = x1 + 2) (h3 : x3 = x2 + 1) (h4 : x4 = x3 + 1) (h5 : x5 = x4 + 1) (h6 : x6 = x5 + 1) (h7 : x7 = x6 + 1) (h8 : x8 = x7 + 1) (h9 : x9 = x8 + 1) (h10 : x10 = x9 + 1) (h11 : x11 = x10 + 1) : 0 ≤ x11 ∧ x11 + 1 ≤ 7000000 := by omega
theorem om_b0d4f1702d {x0 x1 x2 x3 x4 x5 x6 x7 x8 x9 x10 x11 x12 : Int} (h0 : 0 ≤ x0 ∧ x0 + 26 ≤ 7000000) (h1 : x1 = x0 + 1) (h2 : x2 = x1 + 2) (h3 : x3 = x2 + 1) (h4 : x4 = x3 + 1) (h5 : x5 = x4 + 1) (h6 : x6 = x5 + 1) (h7 : x7 = x6 + 1) (h8 : x8 = x7 + 1) (h9 : x9 = x8 + 1) (h10 : x10 = x9 + 1) (h11 : x11 = x10 + 1) (h12 : x12 = x11 + 1) : 0 ≤ x12 ∧ x12 + 1 ≤ 7000000 := by omega
theorem om_ce496d64b3 {x0 x1 x2 x3 x4 x5 x6 x7 x8 x9 x10 x11 x12 x13 : Int} (h0 : 0 ≤ x0 ∧ x0 + 26 ≤ 7000000) (h1 : x1 = x0 + 1) (h2 : x2 = x1 + 2) (h3 : x3 = x2 + 1) (h4 : x4 = x3 + 1) (h5 : x5 = x4 + 1) (h6 : x6 = x5 + 1) (h7 : x7 = x6 + 1) (h8 : x8 = x7 + 1) (h9 : x9 = x8 + 1) (h10 : x10 = x9 + 1) (h11 : x11 = x10 + 1) (h12 : x12 = x11 + 1) (h13 : x13 = x12 + 1) : 0 ≤ x13 ∧ x13 + 1 ≤ 7000000 := by omega
theorem om_7de6e1176b {x0 x1 x2 x3 x4 x5 x6 x7 x8 x9 x10 x11 x12 x13 x14 : Int} (h0 : 0 ≤ x0 ∧ x0 + 26 ≤ 7000000) (h1 : x1 = x0 + 1) (h2 : x2 = x1 + 2) (h3 : x3 = x2 + 1) (h4 : x4 = x3 + 1) (h5 : x5 = x4 + 1) (h6 : x6 = x5 + 1) (h7 : x7 = x6 + 1) (h8 : x8 = x7 + 1) (h9 : x9 = x8 + 1) (h10 : x10 = x9 + 1) (h11 : x11 = x10 + 1) (h12 : x12 = x11 + 1) (h13 : x13 = x12 + 1) (h14 : x14 = x13 + 1) : 0 ≤ x14 ∧ x14 + 1 ≤ 7000000 := by omega
theorem om_5d220e1ffa {x0 x1 x2 x3 x4 x5 x6 x7 x8 x9 x10 x11 x12 x13 x14 x15 : Int} (h0 : 0 ≤ x0 ∧ x0 + 26 ≤ 7000000) (h1 : x1 = x0 + 1) (h2 : x2 = x1 + 2) (h3 : x3 = x2 + 1) (h4 : x4 = x3 + 1) (h5 : x5 = x4 + 1) (h6 : x6 = x5 + 1) (h7 : x7 = x6 + 1) (h8 : x8 = x7 + 1) (h9 : x9 = x8 + 1) (h10 : x10 = x9 + 1) (h11 : x11 = x10 + 1) (h12 : x12 = x11 + 1) (h13 : x13 = x12 + 1) (h14 : x14 = x13 + 1) (h15 : x15 = x14 + 1) : 0 ≤ x15 ∧ x15 + 1 ≤ 7000000 := by omega
theorem om_b913815068 {x0 x1 x2 x3 x4 x5 x6 x7 x8 x9 x10 x11 x12 x13 x14 x15 x16 : Int} (h0 : 0 ≤ x0 ∧ x0 + 26 ≤ 7000000) (h1 : x1 = x0 + 1) (h2 : x2 = x1 + 2) (h3 : x3 = x2 + 1) (h4 : x4 = x3 + 1) (h5 : x5 = x4 + 1) (h6 : x6 = x5 + 1) (h7 : x7 = x6 + 1) (h8 : x8 = x7 + 1) (h9 : x9 = x8 + 1) (h10 : x10 = x9 + 1) (h11 : x11 = x10 + 1) (h12 : x12 = x11 + 1) (h13 : x13 = x12 + 1) (h14 : x14 = x13 + 1) (h15 : x15 = x14 + 1) (h16 : x16 = x15 + 1) : 0 ≤ x16 ∧ x16 + 1 ≤ 7000000 := by omega
theorem om_3ab1713873 {x0 x1 x2 x3 x4 x5 x6 x7 x8 x9 x10 x11 x12 x13 x14 x15 x16 x17 : Int} (h0 : 0 ≤ x0 ∧ x0 + 26 ≤ 7000000) (h1 : x1 = x0 + 1) (h2 : x2 = x1 + 2) (h3 : x3 = x2 + 1) (h4 : x4 = x3 + 1) (h5 : x5 = x4 + 1) (h6 : x6 = x5 + 1) (h7 : x7 = x6 + 1) (h8 : x8 = x7 + 1) (h9 : x9 = x8 + 1) (h10 : x10 = x9 + 1) (h11 : x11 = x10 + 1) (h12 : x12 = x11 + 1) (h13 : x13 = x12 + 1) (h14 : x14 = x13 + 1) (h15 : x15 = x14 + 1) (h16 : x16 = x15 + 1) (h17 : x17 = x16 + 1) : 0 ≤ x17 ∧ x17 + 1 ≤ 7000000 := by omega
theorem om_43fcf8791d {x0 x1 x2 x3 x4 x5 x6 x7 x8 x9 x10 x11 x12 x13 x14 x15 x16 x17 x18 : Int} (h0 : 0 ≤ x0 ∧ x0 + 26 ≤ 7000000) (h1 : x1 = x0 + 1) (h2 : x2 = x1 + 2) (h3 : x3 = x2 + 1) (h4 : x4 = x3 + 1) (h5 : x5 = x4 + 1) (h6 : x6 = x5 + 1) (h7 : x7 = x6 + 1) (h8 : x8 = x7 + 1) (h9 : x9 = x8 + 1) (h10 : x10 = x9 + 1) (h11 : x11 = x10 + 1) (h12 : x12 = x11 + 1) (h13 : x13 = x12 + 1) (h14 : x14 = x13 + 1) (h15 : x15 = x14 + 1) (h16 : x16 = x15 + 1) (h17 : x17 = x16 + 1) (h18 : x18 = x17 + 1) : 0 ≤ x18 ∧ x18 + 1 ≤ 7000000 := by omega
theorem om_800c989fae {x0 x1 x2 x3 x4 x5 x6 x7 x8 x9 x10 x11 x12 x13 x14 x15 x16 x17 x18 x19 : Int} (h0 : 0 ≤ x0 ∧ x0 + 26 ≤ 7000000) (h1 : x1 = x0 + 1) (h2 : x2 = x1 + 2) (h3 : x3 = x2 + 1) (h4 : x4 = x3 + 1) (h5 : x5 = x4 + 1) (h6 : x6 = x5 + 1) (h7 : x7 = x6 + 1) (h8 : x8 = x7 + 1) (h9 : x9 = x8 + 1) (h10 : x10 = x9 + 1) (h11 : x11 = x10 + 1) (h12 : x12 = x11 + 1) (h13 : x13 = x12 + 1) (h14 : x14 = x13 + 1) (h15 : x15 = x14 + 1) (h16 : x16 = x15 + 1) (h17 : x17 = x16 + 1) (h18 : x18 = x17 + 1) (h19 : x19 = x18 + 1) : 0 ≤ x19 ∧ x19 + 1 ≤ 7000000 := by omega
theorem om_26c4ec0897 {x0 x1 x2 x3 x4 x5 x6 x7 x8 x9 x10 x11 x12 x13 x14 x15 x16 x17 x18 x19 x20 : Int} (h0 : 0 ≤ x0 ∧ x0 + 26 ≤ 7000000) (h1 : x1 = x0 + 1) (h2 : x2 = x1 + 2) (h3 : x3 = x2 + 1) (h4 : x4 = x3 + 1) (h5 : x5 = x4 + 1) (h6 : x6 = x5 + 1) (h7 : x7 = x6 + 1) (h8 : x8 = x7 + 1) (h9 : x9 = x8 + 1) (h10 : x10 = x9 + 1) (h11 : x11 = x10 + 1) (h12 : x12 = x11 + 1) (h13 : x13 = x12 + 1) (h14 : x14 = x13 + 1) (h15 : x15 = x14 + 1) (h16 : x16 = x15 + 1) (h17 : x17 = x16 + 1) (h18 : x18 = x17 + 1) (h19 : x19 = x18 + 1) (h20 : x20 = x19 + 1) : 0 ≤ x20 ∧ x20 + 1 ≤ 7000000 := by omega
theorem om_4547bacae5 {x0 x1 x2 x3 x4 x5 x6 x7 x8 x9 x10 x11 x12 x13 x14 x15 x16 x17 x18 x19 x20 x21 : Int} (h0 : 0 ≤ x0 ∧ x0 + 26 ≤ 7000000) (h1 : x1 = x0 + 1) (h2 : x2 = x1 + 2) (h3 : x3 = x2 + 1) (h4 : x4 = x3 + 1) (h5 : x5 = x4 + 1) (h6 : x6 = x5 + 1) (h7 : x7 = x6 + 1) (h8 : x8 = x7 + 1) (h9 : x9 = x8 + 1) (h10 : x10 = x9 + 1) (h11 : x11 = x10 + 1) (h12 : x12 = x11 + 1) (h13 : x13 = x12 + 1) (h14 : x14 = x13 + 1) (h15 : x15 = x14 + 1) (h16 : x16 = x15 + 1) (h17 : x17 = x16 + 1) (h18 : x18 = x17 + 1) (h19 : x19 = x18 + 1) (h20 : x20 = x19 + 1) (h21 : x21 = x20 + 1) : 0 ≤ x21 ∧ x21 + 1 ≤ 7000000 := by omega
theorem om_4c8cb7fbd8 {x0 x1 x2 x3 x4 x5 x6 x7 x8 x9 x10 x11 x12 x13 x14 x15 x16 x17 x18 x19 x20 x21 x22 : Int} (h0 : 0 ≤ x0 ∧ x0 + 26 ≤ 7000000) (h1 : x1 = x0 + 1) (h2 : x2 = x1 + 2) (h3 : x3 = x2 + 1) (h4 : x4 = x3 + 1) (h5 : x5 = x4 + 1) (h6 : x6 = x5 + 1) (h7 : x7 = x6 + 1) (h8 : x8 = x7 + 1) (h9 : x9 = x8 + 1) (h10 : x10 = x9 + 1) (h11 : x11 = x10 + 1) (h12 : x12 = x11 + 1) (h13 : x13 = x12 + 1) (h14 : x14 = x13 + 1) (h15 : x15 = x14 + 1) (h16 : x16 = x15 + 1) (h17 : x17 = x16 + 1) (h18 : x18 = x17 + 1) (h19 : x19 = x18 + 1) (h20 : x20 = x19 + 1) (h21 : x21 = x20 + 1) (h22 : x22 = x21 + 1) : 0 ≤ x22 ∧ x22 + 1 ≤ 7000000 := by omega
theorem om_6c467f1f46 {x0 x1 x2 x3 x4 x5 x6 x7 x8 x9 x10 x11 x12 x13 x14 x15 x16 x17 x18 x19 x20 x21 x22 x23 : Int} (h0 : 0 ≤ x0 ∧ x0 + 26 ≤ 7000000) (h1 : x1 = x0 + 1) (h2 : x2 = x1 + 2) (h3 : x3 = x2 + 1) (h4 : x4 = x3 + 1) (h5 : x5 = x4 + 1) (h6 : x6 = x5 + 1) (h7 : x7 = x6 + 1) (h8 : x8 = x7 + 1) (h9 : x9 = x8 + 1) (h10 : x10 = x9 + 1) (h11 : x11 = x10 + 1) (h12 : x12 = x11 + 1) (h13 : x13 = x12 + 1) (h14 : x14 = x13 + 1) (h15 : x15 = x14 + 1) (h16 : x16 = x15 + 1) (h17 : x17 = x16 + 1) (h18 : x18 = x17 + 1) (h19 : x19 = x18 + 1) (h20 : x20 = x19 + 1) (h21 : x21 = x20 + 1) (h22 : x22 = x21 + 1) (h23 : x23 = x22 + 1) : 0 ≤ x23 ∧ x23 + 1 ≤ 7000000 := by omega
theorem om_5d3aa8083d {x0 x1 x2 x3 x4 x5 x6 x7 x8 x9 x10 x11 x12 x13 x14 x15 x16 x17 x18 x19 x20 x21 x22 x23 x24 : Int} (h0 : 0 ≤ x0 ∧ x0 + 26 ≤ 7000000) (h1 : x1 = x0 + 1) (h2 : x2 = x1 + 2) (h3 : x3 = x2 + 1) (h4 : x4 = x3 + 1) (h5 : x5 = x4 + 1) (h6 : x6 = x5 + 1) (h7 : x7 = x6 + 1) (h8 : x8 = x7 + 1) (h9 : x9 = x8 + 1) (h10 : x10 = x9 + 1) (h11 : x11 = x10 + 1) (h12 : x12 = x11 + 1) (h13 : x13 = x12 + 1) (h14 : x14 = x13 + 1) (h15 : x15 = x14 + 1) (h16 : x16 = x15 + 1) (h17 : x17 = x16 + 1) (h18 : x18 = x17 + 1) (h19 : x19 = x18 + 1) (h20 : x20 = x19 + 1) (h21 : x21 = x20 + 1) (h22 : x22 = x21 + 1) (h23 : x23 = x22 + 1) (h24 : x24 = x23 + 1) : 0 ≤ x24 ∧ x24 + 1 ≤ 7000000 := by omega
theorem om_bda381dfce {x0 x1 x2 x3 x4 x5 x6 x7 x8 x9 x10 x11 x12 x13 x14 x15 x16 x17 x18 x19 x20 x21 x22 x23 x24 x25 : Int} (h0 : x0 = x1 + 1) (h1 : x2 = x0 + 2) (h2 : x3 = x2 + 1) (h3 : x4 = x3 + 1) (h4 : x5 = x4 + 1) (h5 : x6 = x5 + 1) (h6 : x7 = x6 + 1) (h7 : x8 = x7 + 1) (h8 : x9 = x8 + 1) (h9 : x10 = x9 + 1) (h10 : x11 = x10 + 1) (h11 : x12 = x11 + 1) (h12 : x13 = x12 + 1) (h13 : x14 = x13 + 1) (h14 : x15 = x14 + 1) (h15 : x16 = x15 + 1) (h16 : x17 = x16 + 1) (h17 : x18 = x17 + 1) (h18 : x19 = x18 + 1) (h19 : x20 = x19 + 1) (h20 : x21 = x20 + 1) (h21 : x22 = x21 + 1) (h22 : x23 = x22 + 1) (h23 : x24 = x23 + 1) (h24 : x25 = x24 + 1) : x25 = x1 + 26 := by omega
set_option maxHeartbeats 4000000 in
set_option maxRecDepth 100000 in
theorem c_x_X0_layOver (l : Launch) (dC : Nat → ClassId) (dI : Nat → Nat → Nat) (cI cB cZ cJ cR : ClassId) (tb : Nat → Nat) (sz : Nat) (ad : Nat → Nat) (pr : Int32 → Nat) (N : Nat) (L1 L2 : List Nat) (v : MS) (ps : Int32) (zNN : (N : Int) ≤ 4096) (hps : pr ps = ad 908) (es334 : (v.1 0 334) = ps) (zs : 0 ≤ (v.1 0 337).toInt ∧ (v.1 0 337).toInt + 26 ≤ 7000000) : Met l yX0_layOver (Cond.code yX0_layOver cX0_layOver 1 none :: tw_W) ({ frames := 3, cells := 0, slots := 0, locals := 66 }) (pc_ (dC, dI) (tyS cI cB cZ cJ cR) tb (cW ad pr N cI cR L1 L2 v) sz [.ref (ad 904)]) (qv_ (dC, dI) (cW ad pr N cI cR L1 L2 v) sz (fun (u : MS) => FC [337] [0, 382] v u ∧ (Q_x_X0_layOver L1 L2 N v u) ∧ ((u.1 0 337).toInt = (v.1 0 337).toInt + 26) ∧ (RS v u)) (fun (u : MS) => (cW ad pr N cI cR L1 L2 u))) 0 0 (va_A (cW ad pr N cI cR L1 L2 v) sz) := by
  refine Met.ofW (cc := cX0_layOver) (maxL := 1) (ret := none) (by decide) rfl ?_
  intro p e s m args below meth c s₁ B hml hv
  obtain ⟨rfl, hsz, hP, hKK, hD0, hFx⟩ := hv
  have hK := hKK.1
  have hx := B.exec
  have hb := B.bytes
  have hr := B.returns
  have ht : ∀ w ∈ tw_W, w.before _ s = true := fun w h => atoms_spec (ws := Cond.code yX0_layOver cX0_layOver 1 none :: tw_W) B.pre w (List.mem_cons_of_mem _ h)
  have hown : s.vm.findClass RX0 = some m.cls := findClass_of_methodNamed B.named
  have hlocks := B.notSynchronized
  subst hsz
  unfold qv_
  have hD := hD0.self (sz := s.heap.size)
  generalize hAe : va_A (cW ad pr N cI cR L1 L2 v) s.heap.size = A at hD hFx ⊢
  have hA : ∀ q : Nat, s.heap.size ≤ q → A q := fun q h => by rw [← hAe]; exact Or.inr h
  have hS : va_S A s.heap s.heap [] := va_S.rf
  have hl := lv_entry ([.ref (ad 904)]) (n := 1) (Nat.le_of_ble_eq_true rfl)
  rw [lg_entry_eq]
  generalize (lg_sl ([.ref (ad 904)]) ++ List.replicate (1 - (lg_sl ([.ref (ad 904)])).length) Slot.unset).toArray = ls at hl ⊢
  have hl : lv_has ls 1 [(0, .ref (ad 904))] := hl
  refine lv_aload_n hx hb dX0_layOver_0 rfl (lv_at hl 0 rfl) ?_
  refine lv_sipush (v := 4195) hx hb dX0_layOver_1 (by decide) ?_
  refine lv_bipush (v := 10) hx hb dX0_layOver_4 (by decide) ?_
  refine lv_iconst (v := 0) hx hb dX0_layOver_6 (by decide) ?_
  refine lv_bipush (v := 12) hx hb dX0_layOver_7 (by decide) ?_
  refine cu_v (rn_Vk (n := 4) (As := [.int 4195, .int 10, .int 0, .int 12]) (rest := []) hx hb hml hown ht hKK hFx hP hD hS hA (c_x_X0_branch l dC dI cI cB cZ cJ cR tb s.heap.size ad pr N L1 L2 v (4195 : Int32) (10 : Int32) (0 : Int32) (12 : Int32) ps (show (N : Int) ≤ 4096 from (om_1c2c49c46c zNN)) (show pr ps = ad 908 from hps) (show (v.1 0 334) = ps from es334) (show 0 ≤ (v.1 0 337).toInt ∧ (v.1 0 337).toInt + 1 ≤ 7000000 from (om_5ec5c3688f zs))) tw_691 tw_692 (by decide +kernel) rfl rfl ⟨Nat.le_of_ble_eq_true rfl, Nat.le_of_ble_eq_true rfl⟩ (List.range (cW ad pr N cI cR L1 L2 v).length) (rg_map _) (nd_range _) 4 rfl rfl rfl rfl hl.1 rfl (Nat.le_of_ble_eq_true rfl) dX0_layOver_9 ⟨Nat.le_of_ble_eq_true rfl, Nat.le_of_ble_eq_true rfl⟩) hP hD hS hA (fun u2 H locs hw1 hP hD hS => ?_)
  obtain ⟨fr1, ex1, pz1, rs1⟩ := hw1
  refine W.widen (k := 0) (n := 0) (Nat.le_refl _) (Nat.le_refl _) ?_
  refine lv_aload_n hx hb dX0_layOver_12 rfl (lv_at hl 0 rfl) ?_
  refine lv_iconst (v := 2) hx hb dX0_layOver_13 (by decide) ?_
  refine cu_v (rn_Vk (n := 1) (As := [.int 2]) (rest := []) hx hb hml hown ht hKK hFx hP hD hS hA (c_x_X0_halt l dC dI cI cB cZ cJ cR tb H.size ad pr N L1 L2 u2 (2 : Int32) ps (show (N : Int) ≤ 4096 from (om_1c2c49c46c zNN)) (show pr ps = ad 908 from hps) (show (u2.1 0 334) = ps from (Eq.trans (fr1.2.1 334 (by decide)) es334)) (show 0 ≤ (u2.1 0 337).toInt ∧ (u2.1 0 337).toInt + 2 ≤ 7000000 from (om_e14c52d219 zs pz1))) tw_708 tw_709 (by decide +kernel) rfl rfl ⟨Nat.le_of_ble_eq_true rfl, Nat.le_of_ble_eq_true rfl⟩ (List.range (cW ad pr N cI cR L1 L2 u2).length) (rg_map _) (nd_range _) 4 rfl rfl rfl rfl hl.1 rfl (Nat.le_of_ble_eq_true rfl) dX0_layOver_14 ⟨Nat.le_of_ble_eq_true rfl, Nat.le_of_ble_eq_true rfl⟩) hP hD hS hA (fun u5 H locs hw4 hP hD hS => ?_)
  obtain ⟨fr4, ex4, pz4, rs4⟩ := hw4
  have pz4 : (u5.1 0 337).toInt = (u2.1 0 337).toInt + 2 := pz4
  have rs4 : RS u2 u5 := rs4
  refine W.widen (k := 0) (n := 0) (Nat.le_refl _) (Nat.le_refl _) ?_
  refine lv_aload_n hx hb dX0_layOver_17 rfl (lv_at hl 0 rfl) ?_
  refine lv_sipush (v := 16435) hx hb dX0_layOver_18 (by decide) ?_
  refine lv_bipush (v := 29) hx hb dX0_layOver_21 (by decide) ?_
  refine lv_iconst (v := 5) hx hb dX0_layOver_23 (by decide) ?_
  refine lv_bipush (v := 10) hx hb dX0_layOver_24 (by decide) ?_
  refine cu_v (rn_Vk (n := 4) (As := [.int 16435, .int 29, .int 5, .int 10]) (rest := []) hx hb hml hown ht hKK hFx hP hD hS hA (c_x_X0_three l dC dI cI cB cZ cJ cR tb H.size ad pr N L1 L2 u5 (16435 : Int32) (29 : Int32) (5 : Int32) (10 : Int32) ps (show (N : Int) ≤ 4096 from (om_1c2c49c46c zNN)) (show pr ps = ad 908 from hps) (show (u5.1 0 334) = ps from (Eq.trans (fr4.2.1 334 (by decide)) (Eq.trans (fr1.2.1 334 (by decide)) es334))) (show 0 ≤ (u5.1 0 337).toInt ∧ (u5.1 0 337).toInt + 1 ≤ 7000000 from (om_b93002d14e zs pz1 pz4))) tw_693 tw_694 (by decide +kernel) rfl rfl ⟨Nat.le_of_ble_eq_true rfl, Nat.le_of_ble_eq_true rfl⟩ (List.range (cW ad pr N cI cR L1 L2 u5).length) (rg_map _) (nd_range _) 4 rfl rfl rfl rfl hl.1 rfl (Nat.le_of_ble_eq_true rfl) dX0_layOver_26 ⟨Nat.le_of_ble_eq_true rfl, Nat.le_of_ble_eq_true rfl⟩) hP hD hS hA (fun u8 H locs hw7 hP hD hS => ?_)
  obtain ⟨fr7, ex7, pz7, rs7⟩ := hw7
  have pz7 : (u8.1 0 337).toInt = (u5.1 0 337).toInt + 1 := pz7
  have rs7 : RS u5 u8 := rs7
  refine W.widen (k := 0) (n := 0) (Nat.le_refl _) (Nat.le_refl _) ?_
  refine lv_aload_n hx hb dX0_layOver_29 rfl (lv_at hl 0 rfl) ?_
  refine lv_bipush (v := 19) hx hb dX0_layOver_30 (by decide) ?_
  refine lv_bipush (v := 30) hx hb dX0_layOver_32 (by decide) ?_
  refine lv_iconst (v := 5) hx hb dX0_layOver_34 (by decide) ?_
  refine lv_iconst (v := 0) hx hb dX0_layOver_35 (by decide) ?_
  refine cu_v (rn_Vk (n := 4) (As := [.int 19, .int 30, .int 5, .int 0]) (rest := []) hx hb hml hown ht hKK hFx hP hD hS hA (c_x_X0_immediate l dC dI cI cB cZ cJ cR tb H.size ad pr N L1 L2 u8 (19 : Int32) (30 : Int32) (5 : Int32) (0 : Int32) ps (show (N : Int) ≤ 4096 from (om_1c2c49c46c zNN)) (show pr ps = ad 908 from hps) (show (u8.1 0 334) = ps from (Eq.trans (fr7.2.1 334 (by decide)) (Eq.trans (fr4.2.1 334 (by decide)) (Eq.trans (fr1.2.1 334 (by decide)) es334)))) (show 0 ≤ (u8.1 0 337).toInt ∧ (u8.1 0 337).toInt + 1 ≤ 7000000 from (om_12a83918b9 zs pz1 pz4 pz7))) tw_678 tw_679 (by decide +kernel) rfl rfl ⟨Nat.le_of_ble_eq_true rfl, Nat.le_of_ble_eq_true rfl⟩ (List.range (cW ad pr N cI cR L1 L2 u8).length) (rg_map _) (nd_range _) 4 rfl rfl rfl rfl hl.1 rfl (Nat.le_of_ble_eq_true rfl) dX0_layOver_36 ⟨Nat.le_of_ble_eq_true rfl, Nat.le_of_ble_eq_true rfl⟩) hP hD hS hA (fun u11 H locs hw10 hP hD hS => ?_)
  obtain ⟨fr10, ex10, pz10, rs10⟩ := hw10
  have pz10 : (u11.1 0 337).toInt = (u8.1 0 337).toInt + 1 := pz10
  have rs10 : RS u8 u11 := rs10
  refine W.widen (k := 0) (n := 0) (Nat.le_refl _) (Nat.le_refl _) ?_
  refine lv_aload_n hx hb dX0_layOver_39 rfl (lv_at hl 0 rfl) ?_
  refine lv_sipush (v := 20579) hx hb dX0_layOver_40 (by decide) ?_
  refine lv_iconst (v := 5) hx hb dX0_layOver_43 (by decide) ?_
  refine lv_iconst (v := 0) hx hb dX0_layOver_44 (by decide) ?_
  refine lv_bipush (v := 8) hx hb dX0_layOver_45 (by decide) ?_
  refine cu_v (rn_Vk (n := 4) (As := [.int 20579, .int 5, .int 0, .int 8]) (rest := []) hx hb hml hown ht hKK hFx hP hD hS hA (c_x_X0_branch l dC dI cI cB cZ cJ cR tb H.size ad pr N L1 L2 u11 (20579 : Int32) (5 : Int32) (0 : Int32) (8 : Int32) ps (show (N : Int) ≤ 4096 from (om_1c2c49c46c zNN)) (show pr ps = ad 908 from hps) (show (u11.1 0 334) = ps from (Eq.trans (fr10.2.1 334 (by decide)) (Eq.trans (fr7.2.1 334 (by decide)) (Eq.trans (fr4.2.1 334 (by decide)) (Eq.trans (fr1.2.1 334 (by decide)) es334))))) (show 0 ≤ (u11.1 0 337).toInt ∧ (u11.1 0 337).toInt + 1 ≤ 7000000 from (om_b5c586a856 zs pz1 pz4 pz7 pz10))) tw_691 tw_692 (by decide +kernel) rfl rfl ⟨Nat.le_of_ble_eq_true rfl, Nat.le_of_ble_eq_true rfl⟩ (List.range (cW ad pr N cI cR L1 L2 u11).length) (rg_map _) (nd_range _) 4 rfl rfl rfl rfl hl.1 rfl (Nat.le_of_ble_eq_true rfl) dX0_layOver_47 ⟨Nat.le_of_ble_eq_true rfl, Nat.le_of_ble_eq_true rfl⟩) hP hD hS hA (fun u14 H locs hw13 hP hD hS => ?_)
  obtain ⟨fr13, ex13, pz13, rs13⟩ := hw13
  have pz13 : (u14.1 0 337).toInt = (u11.1 0 337).toInt + 1 := pz13
  have rs13 : RS u11 u14 := rs13
  refine W.widen (k := 0) (n := 0) (Nat.le_refl _) (Nat.le_refl _) ?_
  refine lv_aload_n hx hb dX0_layOver_50 rfl (lv_at hl 0 rfl) ?_
  refine lv_ldc (v := 1073741875) hx hb hown (ht _ tw_700) dX0_layOver_51 ?_
  refine lv_iconst (v := 5) hx hb dX0_layOver_53 (by decide) ?_
  refine lv_iconst (v := 0) hx hb dX0_layOver_54 (by decide) ?_
  refine lv_iconst (v := 5) hx hb dX0_layOver_55 (by decide) ?_
  refine cu_v (rn_Vk (n := 4) (As := [.int 1073741875, .int 5, .int 0, .int 5]) (rest := []) hx hb hml hown ht hKK hFx hP hD hS hA (c_x_X0_three l dC dI cI cB cZ cJ cR tb H.size ad pr N L1 L2 u14 (1073741875 : Int32) (5 : Int32) (0 : Int32) (5 : Int32) ps (show (N : Int) ≤ 4096 from (om_1c2c49c46c zNN)) (show pr ps = ad 908 from hps) (show (u14.1 0 334) = ps from (Eq.trans (fr13.2.1 334 (by decide)) (Eq.trans (fr10.2.1 334 (by decide)) (Eq.trans (fr7.2.1 334 (by decide)) (Eq.trans (fr4.2.1 334 (by decide)) (Eq.trans (fr1.2.1 334 (by decide)) es334)))))) (show 0 ≤ (u14.1 0 337).toInt ∧ (u14.1 0 337).toInt + 1 ≤ 7000000 from (om_5b1a84a8a8 zs pz1 pz4 pz7 pz10 pz13))) tw_693 tw_694 (by decide +kernel) rfl rfl ⟨Nat.le_of_ble_eq_true rfl, Nat.le_of_ble_eq_true rfl⟩ (List.range (cW ad pr N cI cR L1 L2 u14).length) (rg_map _) (nd_range _) 4 rfl rfl rfl rfl hl.1 rfl (Nat.le_of_ble_eq_true rfl) dX0_layOver_56 ⟨Nat.le_of_ble_eq_true rfl, Nat.le_of_ble_eq_true rfl⟩) hP hD hS hA (fun u17 H locs hw16 hP hD hS => ?_)
  obtain ⟨fr16, ex16, pz16, rs16⟩ := hw16
  have pz16 : (u17.1 0 337).toInt = (u14.1 0 337).toInt + 1 := pz16
  have rs16 : RS u14 u17 := rs16
  refine W.widen (k := 0) (n := 0) (Nat.le_refl _) (Nat.le_refl _) ?_
  refine lv_aload_n hx hb dX0_layOver_59 rfl (lv_at hl 0 rfl) ?_
  refine lv_sipush (v := 20579) hx hb dX0_layOver_60 (by decide) ?_
  refine lv_bipush (v := 10) hx hb dX0_layOver_63 (by decide) ?_
  refine lv_iconst (v := 0) hx hb dX0_layOver_65 (by decide) ?_
  refine lv_bipush (v := 8) hx hb dX0_layOver_66 (by decide) ?_
  refine cu_v (rn_Vk (n := 4) (As := [.int 20579, .int 10, .int 0, .int 8]) (rest := []) hx hb hml hown ht hKK hFx hP hD hS hA (c_x_X0_branch l dC dI cI cB cZ cJ cR tb H.size ad pr N L1 L2 u17 (20579 : Int32) (10 : Int32) (0 : Int32) (8 : Int32) ps (show (N : Int) ≤ 4096 from (om_1c2c49c46c zNN)) (show pr ps = ad 908 from hps) (show (u17.1 0 334) = ps from (Eq.trans (fr16.2.1 334 (by decide)) (Eq.trans (fr13.2.1 334 (by decide)) (Eq.trans (fr10.2.1 334 (by decide)) (Eq.trans (fr7.2.1 334 (by decide)) (Eq.trans (fr4.2.1 334 (by decide)) (Eq.trans (fr1.2.1 334 (by decide)) es334))))))) (show 0 ≤ (u17.1 0 337).toInt ∧ (u17.1 0 337).toInt + 1 ≤ 7000000 from (om_039a2325f2 zs pz1 pz4 pz7 pz10 pz13 pz16))) tw_691 tw_692 (by decide +kernel) rfl rfl ⟨Nat.le_of_ble_eq_true rfl, Nat.le_of_ble_eq_true rfl⟩ (List.range (cW ad pr N cI cR L1 L2 u17).length) (rg_map _) (nd_range _) 4 rfl rfl rfl rfl hl.1 rfl (Nat.le_of_ble_eq_true rfl) dX0_layOver_68 ⟨Nat.le_of_ble_eq_true rfl, Nat.le_of_ble_eq_true rfl⟩) hP hD hS hA (fun u20 H locs hw19 hP hD hS => ?_)
  obtain ⟨fr19, ex19, pz19, rs19⟩ := hw19
  have pz19 : (u20.1 0 337).toInt = (u17.1 0 337).toInt + 1 := pz19
  have rs19 : RS u17 u20 := rs19
  refine W.widen (k := 0) (n := 0) (Nat.le_refl _) (Nat.le_refl _) ?_
  refine lv_aload_n hx hb dX0_layOver_71 rfl (lv_at hl 0 rfl) ?_
  refine lv_ldc (v := 1073741875) hx hb hown (ht _ tw_700) dX0_layOver_72 ?_
  refine lv_bipush (v := 10) hx hb dX0_layOver_74 (by decide) ?_
  refine lv_iconst (v := 0) hx hb dX0_layOver_76 (by decide) ?_
  refine lv_bipush (v := 10) hx hb dX0_layOver_77 (by decide) ?_
  refine cu_v (rn_Vk (n := 4) (As := [.int 1073741875, .int 10, .int 0, .int 10]) (rest := []) hx hb hml hown ht hKK hFx hP hD hS hA (c_x_X0_three l dC dI cI cB cZ cJ cR tb H.size ad pr N L1 L2 u20 (1073741875 : Int32) (10 : Int32) (0 : Int32) (10 : Int32) ps (show (N : Int) ≤ 4096 from (om_1c2c49c46c zNN)) (show pr ps = ad 908 from hps) (show (u20.1 0 334) = ps from (Eq.trans (fr19.2.1 334 (by decide)) (Eq.trans (fr16.2.1 334 (by decide)) (Eq.trans (fr13.2.1 334 (by decide)) (Eq.trans (fr10.2.1 334 (by decide)) (Eq.trans (fr7.2.1 334 (by decide)) (Eq.trans (fr4.2.1 334 (by decide)) (Eq.trans (fr1.2.1 334 (by decide)) es334)))))))) (show 0 ≤ (u20.1 0 337).toInt ∧ (u20.1 0 337).toInt + 1 ≤ 7000000 from (om_b3b9c9e6a6 zs pz1 pz4 pz7 pz10 pz13 pz16 pz19))) tw_693 tw_694 (by decide +kernel) rfl rfl ⟨Nat.le_of_ble_eq_true rfl, Nat.le_of_ble_eq_true rfl⟩ (List.range (cW ad pr N cI cR L1 L2 u20).length) (rg_map _) (nd_range _) 4 rfl rfl rfl rfl hl.1 rfl (Nat.le_of_ble_eq_true rfl) dX0_layOver_79 ⟨Nat.le_of_ble_eq_true rfl, Nat.le_of_ble_eq_true rfl⟩) hP hD hS hA (fun u23 H locs hw22 hP hD hS => ?_)
  obtain ⟨fr22, ex22, pz22, rs22⟩ := hw22
  have pz22 : (u23.1 0 337).toInt = (u20.1 0 337).toInt + 1 := pz22
  have rs22 : RS u20 u23 := rs22
  refine W.widen (k := 0) (n := 0) (Nat.le_refl _) (Nat.le_refl _) ?_
  refine lv_aload_n hx hb dX0_layOver_82 rfl (lv_at hl 0 rfl) ?_
  refine lv_bipush (v := 19) hx hb dX0_layOver_83 (by decide) ?_
  refine lv_bipush (v := 6) hx hb dX0_layOver_85 (by decide) ?_
  refine lv_iconst (v := 0) hx hb dX0_layOver_87 (by decide) ?_
  refine lv_iconst (v := 0) hx hb dX0_layOver_88 (by decide) ?_
  refine cu_v (rn_Vk (n := 4) (As := [.int 19, .int 6, .int 0, .int 0]) (rest := []) hx hb hml hown ht hKK hFx hP hD hS hA (c_x_X0_immediate l dC dI cI cB cZ cJ cR tb H.size ad pr N L1 L2 u23 (19 : Int32) (6 : Int32) (0 : Int32) (0 : Int32) ps (show (N : Int) ≤ 4096 from (om_1c2c49c46c zNN)) (show pr ps = ad 908 from hps) (show (u23.1 0 334) = ps from (Eq.trans (fr22.2.1 334 (by decide)) (Eq.trans (fr19.2.1 334 (by decide)) (Eq.trans (fr16.2.1 334 (by decide)) (Eq.trans (fr13.2.1 334 (by decide)) (Eq.trans (fr10.2.1 334 (by decide)) (Eq.trans (fr7.2.1 334 (by decide)) (Eq.trans (fr4.2.1 334 (by decide)) (Eq.trans (fr1.2.1 334 (by decide)) es334))))))))) (show 0 ≤ (u23.1 0 337).toInt ∧ (u23.1 0 337).toInt + 1 ≤ 7000000 from (om_4eca8a8f5d zs pz1 pz4 pz7 pz10 pz13 pz16 pz19 pz22))) tw_678 tw_679 (by decide +kernel) rfl rfl ⟨Nat.le_of_ble_eq_true rfl, Nat.le_of_ble_eq_true rfl⟩ (List.range (cW ad pr N cI cR L1 L2 u23).length) (rg_map _) (nd_range _) 4 rfl rfl rfl rfl hl.1 rfl (Nat.le_of_ble_eq_true rfl) dX0_layOver_89 ⟨Nat.le_of_ble_eq_true rfl, Nat.le_of_ble_eq_true rfl⟩) hP hD hS hA (fun u26 H locs hw25 hP hD hS => ?_)
  obtain ⟨fr25, ex25, pz25, rs25⟩ := hw25
  have pz25 : (u26.1 0 337).toInt = (u23.1 0 337).toInt + 1 := pz25
  have rs25 : RS u23 u26 := rs25
  refine W.widen (k := 0) (n := 0) (Nat.le_refl _) (Nat.le_refl _) ?_
  refine lv_aload_n hx hb dX0_layOver_92 rfl (lv_at hl 0 rfl) ?_
  refine lv_bipush (v := 19) hx hb dX0_layOver_93 (by decide) ?_
  refine lv_bipush (v := 7) hx hb dX0_layOver_95 (by decide) ?_
  refine lv_iconst (v := 0) hx hb dX0_layOver_97 (by decide) ?_
  refine lv_bipush (v := 32) hx hb dX0_layOver_98 (by decide) ?_
  refine cu_v (rn_Vk (n := 4) (As := [.int 19, .int 7, .int 0, .int 32]) (rest := []) hx hb hml hown ht hKK hFx hP hD hS hA (c_x_X0_immediate l dC dI cI cB cZ cJ cR tb H.size ad pr N L1 L2 u26 (19 : Int32) (7 : Int32) (0 : Int32) (32 : Int32) ps (show (N : Int) ≤ 4096 from (om_1c2c49c46c zNN)) (show pr ps = ad 908 from hps) (show (u26.1 0 334) = ps from (Eq.trans (fr25.2.1 334 (by decide)) (Eq.trans (fr22.2.1 334 (by decide)) (Eq.trans (fr19.2.1 334 (by decide)) (Eq.trans (fr16.2.1 334 (by decide)) (Eq.trans (fr13.2.1 334 (by decide)) (Eq.trans (fr10.2.1 334 (by decide)) (Eq.trans (fr7.2.1 334 (by decide)) (Eq.trans (fr4.2.1 334 (by decide)) (Eq.trans (fr1.2.1 334 (by decide)) es334)))))))))) (show 0 ≤ (u26.1 0 337).toInt ∧ (u26.1 0 337).toInt + 1 ≤ 7000000 from (om_57eefe8a14 zs pz1 pz4 pz7 pz10 pz13 pz16 pz19 pz22 pz25))) tw_678 tw_679 (by decide +kernel) rfl rfl ⟨Nat.le_of_ble_eq_true rfl, Nat.le_of_ble_eq_true rfl⟩ (List.range (cW ad pr N cI cR L1 L2 u26).length) (rg_map _) (nd_range _) 4 rfl rfl rfl rfl hl.1 rfl (Nat.le_of_ble_eq_true rfl) dX0_layOver_100 ⟨Nat.le_of_ble_eq_true rfl, Nat.le_of_ble_eq_true rfl⟩) hP hD hS hA (fun u29 H locs hw28 hP hD hS => ?_)
  obtain ⟨fr28, ex28, pz28, rs28⟩ := hw28
  have pz28 : (u29.1 0 337).toInt = (u26.1 0 337).toInt + 1 := pz28
  have rs28 : RS u26 u29 := rs28
  refine W.widen (k := 0) (n := 0) (Nat.le_refl _) (Nat.le_refl _) ?_
  refine lv_aload_n hx hb dX0_layOver_103 rfl (lv_at hl 0 rfl) ?_
  refine lv_sipush (v := 20499) hx hb dX0_layOver_104 (by decide) ?_
  refine lv_bipush (v := 31) hx hb dX0_layOver_107 (by decide) ?_
  refine lv_iconst (v := 5) hx hb dX0_layOver_109 (by decide) ?_
  refine lv_bipush (v := 31) hx hb dX0_layOver_110 (by decide) ?_
  refine cu_v (rn_Vk (n := 4) (As := [.int 20499, .int 31, .int 5, .int 31]) (rest := []) hx hb hml hown ht hKK hFx hP hD hS hA (c_x_X0_immediate l dC dI cI cB cZ cJ cR tb H.size ad pr N L1 L2 u29 (20499 : Int32) (31 : Int32) (5 : Int32) (31 : Int32) ps (show (N : Int) ≤ 4096 from (om_1c2c49c46c zNN)) (show pr ps = ad 908 from hps) (show (u29.1 0 334) = ps from (Eq.trans (fr28.2.1 334 (by decide)) (Eq.trans (fr25.2.1 334 (by decide)) (Eq.trans (fr22.2.1 334 (by decide)) (Eq.trans (fr19.2.1 334 (by decide)) (Eq.trans (fr16.2.1 334 (by decide)) (Eq.trans (fr13.2.1 334 (by decide)) (Eq.trans (fr10.2.1 334 (by decide)) (Eq.trans (fr7.2.1 334 (by decide)) (Eq.trans (fr4.2.1 334 (by decide)) (Eq.trans (fr1.2.1 334 (by decide)) es334))))))))))) (show 0 ≤ (u29.1 0 337).toInt ∧ (u29.1 0 337).toInt + 1 ≤ 7000000 from (om_a0a6ede1a3 zs pz1 pz4 pz7 pz10 pz13 pz16 pz19 pz22 pz25 pz28))) tw_678 tw_679 (by decide +kernel) rfl rfl ⟨Nat.le_of_ble_eq_true rfl, Nat.le_of_ble_eq_true rfl⟩ (List.range (cW ad pr N cI cR L1 L2 u29).length) (rg_map _) (nd_range _) 4 rfl rfl rfl rfl hl.1 rfl (Nat.le_of_ble_eq_true rfl) dX0_layOver_112 ⟨Nat.le_of_ble_eq_true rfl, Nat.le_of_ble_eq_true rfl⟩) hP hD hS hA (fun u32 H locs hw31 hP hD hS => ?_)
  obtain ⟨fr31, ex31, pz31, rs31⟩ := hw31
  have pz31 : (u32.1 0 337).toInt = (u29.1 0 337).toInt + 1 := pz31
  have rs31 : RS u29 u32 := rs31
  refine W.widen (k := 0) (n := 0) (Nat.le_refl _) (Nat.le_refl _) ?_
  refine lv_aload_n hx hb dX0_layOver_115 rfl (lv_at hl 0 rfl) ?_
  refine lv_sipush (v := 4115) hx hb dX0_layOver_116 (by decide) ?_
  refine lv_iconst (v := 5) hx hb dX0_layOver_119 (by decide) ?_
  refine lv_iconst (v := 5) hx hb dX0_layOver_120 (by decide) ?_
  refine lv_iconst (v := 1) hx hb dX0_layOver_121 (by decide) ?_
  refine cu_v (rn_Vk (n := 4) (As := [.int 4115, .int 5, .int 5, .int 1]) (rest := []) hx hb hml hown ht hKK hFx hP hD hS hA (c_x_X0_immediate l dC dI cI cB cZ cJ cR tb H.size ad pr N L1 L2 u32 (4115 : Int32) (5 : Int32) (5 : Int32) (1 : Int32) ps (show (N : Int) ≤ 4096 from (om_1c2c49c46c zNN)) (show pr ps = ad 908 from hps) (show (u32.1 0 334) = ps from (Eq.trans (fr31.2.1 334 (by decide)) (Eq.trans (fr28.2.1 334 (by decide)) (Eq.trans (fr25.2.1 334 (by decide)) (Eq.trans (fr22.2.1 334 (by decide)) (Eq.trans (fr19.2.1 334 (by decide)) (Eq.trans (fr16.2.1 334 (by decide)) (Eq.trans (fr13.2.1 334 (by decide)) (Eq.trans (fr10.2.1 334 (by decide)) (Eq.trans (fr7.2.1 334 (by decide)) (Eq.trans (fr4.2.1 334 (by decide)) (Eq.trans (fr1.2.1 334 (by decide)) es334)))))))))))) (show 0 ≤ (u32.1 0 337).toInt ∧ (u32.1 0 337).toInt + 1 ≤ 7000000 from (om_fe62e0cfe2 zs pz1 pz4 pz7 pz10 pz13 pz16 pz19 pz22 pz25 pz28 pz31))) tw_678 tw_679 (by decide +kernel) rfl rfl ⟨Nat.le_of_ble_eq_true rfl, Nat.le_of_ble_eq_true rfl⟩ (List.range (cW ad pr N cI cR L1 L2 u32).length) (rg_map _) (nd_range _) 4 rfl rfl rfl rfl hl.1 rfl (Nat.le_of_ble_eq_true rfl) dX0_layOver_122 ⟨Nat.le_of_ble_eq_true rfl, Nat.le_of_ble_eq_true rfl⟩) hP hD hS hA (fun u35 H locs hw34 hP hD hS => ?_)
  obtain ⟨fr34, ex34, pz34, rs34⟩ := hw34
  have pz34 : (u35.1 0 337).toInt = (u32.1 0 337).toInt + 1 := pz34
  have rs34 : RS u32 u35 := rs34
  refine W.widen (k := 0) (n := 0) (Nat.le_refl _) (Nat.le_refl _) ?_
  refine lv_aload_n hx hb dX0_layOver_125 rfl (lv_at hl 0 rfl) ?_
  refine lv_sipush (v := 4115) hx hb dX0_layOver_126 (by decide) ?_
  refine lv_bipush (v := 6) hx hb dX0_layOver_129 (by decide) ?_
  refine lv_bipush (v := 6) hx hb dX0_layOver_131 (by decide) ?_
  refine lv_iconst (v := 1) hx hb dX0_layOver_133 (by decide) ?_
  refine cu_v (rn_Vk (n := 4) (As := [.int 4115, .int 6, .int 6, .int 1]) (rest := []) hx hb hml hown ht hKK hFx hP hD hS hA (c_x_X0_immediate l dC dI cI cB cZ cJ cR tb H.size ad pr N L1 L2 u35 (4115 : Int32) (6 : Int32) (6 : Int32) (1 : Int32) ps (show (N : Int) ≤ 4096 from (om_1c2c49c46c zNN)) (show pr ps = ad 908 from hps) (show (u35.1 0 334) = ps from (Eq.trans (fr34.2.1 334 (by decide)) (Eq.trans (fr31.2.1 334 (by decide)) (Eq.trans (fr28.2.1 334 (by decide)) (Eq.trans (fr25.2.1 334 (by decide)) (Eq.trans (fr22.2.1 334 (by decide)) (Eq.trans (fr19.2.1 334 (by decide)) (Eq.trans (fr16.2.1 334 (by decide)) (Eq.trans (fr13.2.1 334 (by decide)) (Eq.trans (fr10.2.1 334 (by decide)) (Eq.trans (fr7.2.1 334 (by decide)) (Eq.trans (fr4.2.1 334 (by decide)) (Eq.trans (fr1.2.1 334 (by decide)) es334))))))))))))) (show 0 ≤ (u35.1 0 337).toInt ∧ (u35.1 0 337).toInt + 1 ≤ 7000000 from (om_b0d4f1702d zs pz1 pz4 pz7 pz10 pz13 pz16 pz19 pz22 pz25 pz28 pz31 pz34))) tw_678 tw_679 (by decide +kernel) rfl rfl ⟨Nat.le_of_ble_eq_true rfl, Nat.le_of_ble_eq_true rfl⟩ (List.range (cW ad pr N cI cR L1 L2 u35).length) (rg_map _) (nd_range _) 4 rfl rfl rfl rfl hl.1 rfl (Nat.le_of_ble_eq_true rfl) dX0_layOver_134 ⟨Nat.le_of_ble_eq_true rfl, Nat.le_of_ble_eq_true rfl⟩) hP hD hS hA (fun u38 H locs hw37 hP hD hS => ?_)
  obtain ⟨fr37, ex37, pz37, rs37⟩ := hw37
  have pz37 : (u38.1 0 337).toInt = (u35.1 0 337).toInt + 1 := pz37
  have rs37 : RS u35 u38 := rs37
  refine W.widen (k := 0) (n := 0) (Nat.le_refl _) (Nat.le_refl _) ?_
  refine lv_aload_n hx hb dX0_layOver_137 rfl (lv_at hl 0 rfl) ?_
  refine lv_sipush (v := 24627) hx hb dX0_layOver_138 (by decide) ?_
  refine lv_bipush (v := 6) hx hb dX0_layOver_141 (by decide) ?_
  refine lv_bipush (v := 6) hx hb dX0_layOver_143 (by decide) ?_
  refine lv_bipush (v := 31) hx hb dX0_layOver_145 (by decide) ?_
  refine cu_v (rn_Vk (n := 4) (As := [.int 24627, .int 6, .int 6, .int 31]) (rest := []) hx hb hml hown ht hKK hFx hP hD hS hA (c_x_X0_three l dC dI cI cB cZ cJ cR tb H.size ad pr N L1 L2 u38 (24627 : Int32) (6 : Int32) (6 : Int32) (31 : Int32) ps (show (N : Int) ≤ 4096 from (om_1c2c49c46c zNN)) (show pr ps = ad 908 from hps) (show (u38.1 0 334) = ps from (Eq.trans (fr37.2.1 334 (by decide)) (Eq.trans (fr34.2.1 334 (by decide)) (Eq.trans (fr31.2.1 334 (by decide)) (Eq.trans (fr28.2.1 334 (by decide)) (Eq.trans (fr25.2.1 334 (by decide)) (Eq.trans (fr22.2.1 334 (by decide)) (Eq.trans (fr19.2.1 334 (by decide)) (Eq.trans (fr16.2.1 334 (by decide)) (Eq.trans (fr13.2.1 334 (by decide)) (Eq.trans (fr10.2.1 334 (by decide)) (Eq.trans (fr7.2.1 334 (by decide)) (Eq.trans (fr4.2.1 334 (by decide)) (Eq.trans (fr1.2.1 334 (by decide)) es334)))))))))))))) (show 0 ≤ (u38.1 0 337).toInt ∧ (u38.1 0 337).toInt + 1 ≤ 7000000 from (om_ce496d64b3 zs pz1 pz4 pz7 pz10 pz13 pz16 pz19 pz22 pz25 pz28 pz31 pz34 pz37))) tw_693 tw_694 (by decide +kernel) rfl rfl ⟨Nat.le_of_ble_eq_true rfl, Nat.le_of_ble_eq_true rfl⟩ (List.range (cW ad pr N cI cR L1 L2 u38).length) (rg_map _) (nd_range _) 4 rfl rfl rfl rfl hl.1 rfl (Nat.le_of_ble_eq_true rfl) dX0_layOver_147 ⟨Nat.le_of_ble_eq_true rfl, Nat.le_of_ble_eq_true rfl⟩) hP hD hS hA (fun u41 H locs hw40 hP hD hS => ?_)
  obtain ⟨fr40, ex40, pz40, rs40⟩ := hw40
  have pz40 : (u41.1 0 337).toInt = (u38.1 0 337).toInt + 1 := pz40
  have rs40 : RS u38 u41 := rs40
  refine W.widen (k := 0) (n := 0) (Nat.le_refl _) (Nat.le_refl _) ?_
  refine lv_aload_n hx hb dX0_layOver_150 rfl (lv_at hl 0 rfl) ?_
  refine lv_sipush (v := 24675) hx hb dX0_layOver_151 (by decide) ?_
  refine lv_bipush (v := 6) hx hb dX0_layOver_154 (by decide) ?_
  refine lv_bipush (v := 10) hx hb dX0_layOver_156 (by decide) ?_
  refine lv_bipush (v := 12) hx hb dX0_layOver_158 (by decide) ?_
  refine cu_v (rn_Vk (n := 4) (As := [.int 24675, .int 6, .int 10, .int 12]) (rest := []) hx hb hml hown ht hKK hFx hP hD hS hA (c_x_X0_branch l dC dI cI cB cZ cJ cR tb H.size ad pr N L1 L2 u41 (24675 : Int32) (6 : Int32) (10 : Int32) (12 : Int32) ps (show (N : Int) ≤ 4096 from (om_1c2c49c46c zNN)) (show pr ps = ad 908 from hps) (show (u41.1 0 334) = ps from (Eq.trans (fr40.2.1 334 (by decide)) (Eq.trans (fr37.2.1 334 (by decide)) (Eq.trans (fr34.2.1 334 (by decide)) (Eq.trans (fr31.2.1 334 (by decide)) (Eq.trans (fr28.2.1 334 (by decide)) (Eq.trans (fr25.2.1 334 (by decide)) (Eq.trans (fr22.2.1 334 (by decide)) (Eq.trans (fr19.2.1 334 (by decide)) (Eq.trans (fr16.2.1 334 (by decide)) (Eq.trans (fr13.2.1 334 (by decide)) (Eq.trans (fr10.2.1 334 (by decide)) (Eq.trans (fr7.2.1 334 (by decide)) (Eq.trans (fr4.2.1 334 (by decide)) (Eq.trans (fr1.2.1 334 (by decide)) es334))))))))))))))) (show 0 ≤ (u41.1 0 337).toInt ∧ (u41.1 0 337).toInt + 1 ≤ 7000000 from (om_7de6e1176b zs pz1 pz4 pz7 pz10 pz13 pz16 pz19 pz22 pz25 pz28 pz31 pz34 pz37 pz40))) tw_691 tw_692 (by decide +kernel) rfl rfl ⟨Nat.le_of_ble_eq_true rfl, Nat.le_of_ble_eq_true rfl⟩ (List.range (cW ad pr N cI cR L1 L2 u41).length) (rg_map _) (nd_range _) 4 rfl rfl rfl rfl hl.1 rfl (Nat.le_of_ble_eq_true rfl) dX0_layOver_160 ⟨Nat.le_of_ble_eq_true rfl, Nat.le_of_ble_eq_true rfl⟩) hP hD hS hA (fun u44 H locs hw43 hP hD hS => ?_)
  obtain ⟨fr43, ex43, pz43, rs43⟩ := hw43
  have pz43 : (u44.1 0 337).toInt = (u41.1 0 337).toInt + 1 := pz43
  have rs43 : RS u41 u44 := rs43
  refine W.widen (k := 0) (n := 0) (Nat.le_refl _) (Nat.le_refl _) ?_
  refine lv_aload_n hx hb dX0_layOver_163 rfl (lv_at hl 0 rfl) ?_
  refine lv_ldc (v := 1073741875) hx hb hown (ht _ tw_700) dX0_layOver_164 ?_
  refine lv_bipush (v := 6) hx hb dX0_layOver_166 (by decide) ?_
  refine lv_bipush (v := 6) hx hb dX0_layOver_168 (by decide) ?_
  refine lv_bipush (v := 10) hx hb dX0_layOver_170 (by decide) ?_
  refine cu_v (rn_Vk (n := 4) (As := [.int 1073741875, .int 6, .int 6, .int 10]) (rest := []) hx hb hml hown ht hKK hFx hP hD hS hA (c_x_X0_three l dC dI cI cB cZ cJ cR tb H.size ad pr N L1 L2 u44 (1073741875 : Int32) (6 : Int32) (6 : Int32) (10 : Int32) ps (show (N : Int) ≤ 4096 from (om_1c2c49c46c zNN)) (show pr ps = ad 908 from hps) (show (u44.1 0 334) = ps from (Eq.trans (fr43.2.1 334 (by decide)) (Eq.trans (fr40.2.1 334 (by decide)) (Eq.trans (fr37.2.1 334 (by decide)) (Eq.trans (fr34.2.1 334 (by decide)) (Eq.trans (fr31.2.1 334 (by decide)) (Eq.trans (fr28.2.1 334 (by decide)) (Eq.trans (fr25.2.1 334 (by decide)) (Eq.trans (fr22.2.1 334 (by decide)) (Eq.trans (fr19.2.1 334 (by decide)) (Eq.trans (fr16.2.1 334 (by decide)) (Eq.trans (fr13.2.1 334 (by decide)) (Eq.trans (fr10.2.1 334 (by decide)) (Eq.trans (fr7.2.1 334 (by decide)) (Eq.trans (fr4.2.1 334 (by decide)) (Eq.trans (fr1.2.1 334 (by decide)) es334)))))))))))))))) (show 0 ≤ (u44.1 0 337).toInt ∧ (u44.1 0 337).toInt + 1 ≤ 7000000 from (om_5d220e1ffa zs pz1 pz4 pz7 pz10 pz13 pz16 pz19 pz22 pz25 pz28 pz31 pz34 pz37 pz40 pz43))) tw_693 tw_694 (by decide +kernel) rfl rfl ⟨Nat.le_of_ble_eq_true rfl, Nat.le_of_ble_eq_true rfl⟩ (List.range (cW ad pr N cI cR L1 L2 u44).length) (rg_map _) (nd_range _) 4 rfl rfl rfl rfl hl.1 rfl (Nat.le_of_ble_eq_true rfl) dX0_layOver_172 ⟨Nat.le_of_ble_eq_true rfl, Nat.le_of_ble_eq_true rfl⟩) hP hD hS hA (fun u47 H locs hw46 hP hD hS => ?_)
  obtain ⟨fr46, ex46, pz46, rs46⟩ := hw46
  have pz46 : (u47.1 0 337).toInt = (u44.1 0 337).toInt + 1 := pz46
  have rs46 : RS u44 u47 := rs46
  refine W.widen (k := 0) (n := 0) (Nat.le_refl _) (Nat.le_refl _) ?_
  refine lv_aload_n hx hb dX0_layOver_175 rfl (lv_at hl 0 rfl) ?_
  refine lv_sipush (v := 24595) hx hb dX0_layOver_176 (by decide) ?_
  refine lv_iconst (v := 5) hx hb dX0_layOver_179 (by decide) ?_
  refine lv_iconst (v := 5) hx hb dX0_layOver_180 (by decide) ?_
  refine lv_iconst (v := 1) hx hb dX0_layOver_181 (by decide) ?_
  refine cu_v (rn_Vk (n := 4) (As := [.int 24595, .int 5, .int 5, .int 1]) (rest := []) hx hb hml hown ht hKK hFx hP hD hS hA (c_x_X0_immediate l dC dI cI cB cZ cJ cR tb H.size ad pr N L1 L2 u47 (24595 : Int32) (5 : Int32) (5 : Int32) (1 : Int32) ps (show (N : Int) ≤ 4096 from (om_1c2c49c46c zNN)) (show pr ps = ad 908 from hps) (show (u47.1 0 334) = ps from (Eq.trans (fr46.2.1 334 (by decide)) (Eq.trans (fr43.2.1 334 (by decide)) (Eq.trans (fr40.2.1 334 (by decide)) (Eq.trans (fr37.2.1 334 (by decide)) (Eq.trans (fr34.2.1 334 (by decide)) (Eq.trans (fr31.2.1 334 (by decide)) (Eq.trans (fr28.2.1 334 (by decide)) (Eq.trans (fr25.2.1 334 (by decide)) (Eq.trans (fr22.2.1 334 (by decide)) (Eq.trans (fr19.2.1 334 (by decide)) (Eq.trans (fr16.2.1 334 (by decide)) (Eq.trans (fr13.2.1 334 (by decide)) (Eq.trans (fr10.2.1 334 (by decide)) (Eq.trans (fr7.2.1 334 (by decide)) (Eq.trans (fr4.2.1 334 (by decide)) (Eq.trans (fr1.2.1 334 (by decide)) es334))))))))))))))))) (show 0 ≤ (u47.1 0 337).toInt ∧ (u47.1 0 337).toInt + 1 ≤ 7000000 from (om_b913815068 zs pz1 pz4 pz7 pz10 pz13 pz16 pz19 pz22 pz25 pz28 pz31 pz34 pz37 pz40 pz43 pz46))) tw_678 tw_679 (by decide +kernel) rfl rfl ⟨Nat.le_of_ble_eq_true rfl, Nat.le_of_ble_eq_true rfl⟩ (List.range (cW ad pr N cI cR L1 L2 u47).length) (rg_map _) (nd_range _) 4 rfl rfl rfl rfl hl.1 rfl (Nat.le_of_ble_eq_true rfl) dX0_layOver_182 ⟨Nat.le_of_ble_eq_true rfl, Nat.le_of_ble_eq_true rfl⟩) hP hD hS hA (fun u50 H locs hw49 hP hD hS => ?_)
  obtain ⟨fr49, ex49, pz49, rs49⟩ := hw49
  have pz49 : (u50.1 0 337).toInt = (u47.1 0 337).toInt + 1 := pz49
  have rs49 : RS u47 u50 := rs49
  refine W.widen (k := 0) (n := 0) (Nat.le_refl _) (Nat.le_refl _) ?_
  refine lv_aload_n hx hb dX0_layOver_185 rfl (lv_at hl 0 rfl) ?_
  refine lv_bipush (v := 19) hx hb dX0_layOver_186 (by decide) ?_
  refine lv_bipush (v := 7) hx hb dX0_layOver_188 (by decide) ?_
  refine lv_bipush (v := 7) hx hb dX0_layOver_190 (by decide) ?_
  refine lv_iconst (v := -1) hx hb dX0_layOver_192 (by decide) ?_
  refine cu_v (rn_Vk (n := 4) (As := [.int 19, .int 7, .int 7, .int (-1)]) (rest := []) hx hb hml hown ht hKK hFx hP hD hS hA (c_x_X0_immediate l dC dI cI cB cZ cJ cR tb H.size ad pr N L1 L2 u50 (19 : Int32) (7 : Int32) (7 : Int32) (-1 : Int32) ps (show (N : Int) ≤ 4096 from (om_1c2c49c46c zNN)) (show pr ps = ad 908 from hps) (show (u50.1 0 334) = ps from (Eq.trans (fr49.2.1 334 (by decide)) (Eq.trans (fr46.2.1 334 (by decide)) (Eq.trans (fr43.2.1 334 (by decide)) (Eq.trans (fr40.2.1 334 (by decide)) (Eq.trans (fr37.2.1 334 (by decide)) (Eq.trans (fr34.2.1 334 (by decide)) (Eq.trans (fr31.2.1 334 (by decide)) (Eq.trans (fr28.2.1 334 (by decide)) (Eq.trans (fr25.2.1 334 (by decide)) (Eq.trans (fr22.2.1 334 (by decide)) (Eq.trans (fr19.2.1 334 (by decide)) (Eq.trans (fr16.2.1 334 (by decide)) (Eq.trans (fr13.2.1 334 (by decide)) (Eq.trans (fr10.2.1 334 (by decide)) (Eq.trans (fr7.2.1 334 (by decide)) (Eq.trans (fr4.2.1 334 (by decide)) (Eq.trans (fr1.2.1 334 (by decide)) es334)))))))))))))))))) (show 0 ≤ (u50.1 0 337).toInt ∧ (u50.1 0 337).toInt + 1 ≤ 7000000 from (om_3ab1713873 zs pz1 pz4 pz7 pz10 pz13 pz16 pz19 pz22 pz25 pz28 pz31 pz34 pz37 pz40 pz43 pz46 pz49))) tw_678 tw_679 (by decide +kernel) rfl rfl ⟨Nat.le_of_ble_eq_true rfl, Nat.le_of_ble_eq_true rfl⟩ (List.range (cW ad pr N cI cR L1 L2 u50).length) (rg_map _) (nd_range _) 4 rfl rfl rfl rfl hl.1 rfl (Nat.le_of_ble_eq_true rfl) dX0_layOver_193 ⟨Nat.le_of_ble_eq_true rfl, Nat.le_of_ble_eq_true rfl⟩) hP hD hS hA (fun u53 H locs hw52 hP hD hS => ?_)
  obtain ⟨fr52, ex52, pz52, rs52⟩ := hw52
  have pz52 : (u53.1 0 337).toInt = (u50.1 0 337).toInt + 1 := pz52
  have rs52 : RS u50 u53 := rs52
  refine W.widen (k := 0) (n := 0) (Nat.le_refl _) (Nat.le_refl _) ?_
  refine lv_aload_n hx hb dX0_layOver_196 rfl (lv_at hl 0 rfl) ?_
  refine lv_sipush (v := 4195) hx hb dX0_layOver_197 (by decide) ?_
  refine lv_bipush (v := 7) hx hb dX0_layOver_200 (by decide) ?_
  refine lv_iconst (v := 0) hx hb dX0_layOver_202 (by decide) ?_
  refine lv_bipush (v := -32) hx hb dX0_layOver_203 (by decide) ?_
  refine cu_v (rn_Vk (n := 4) (As := [.int 4195, .int 7, .int 0, .int (-32)]) (rest := []) hx hb hml hown ht hKK hFx hP hD hS hA (c_x_X0_branch l dC dI cI cB cZ cJ cR tb H.size ad pr N L1 L2 u53 (4195 : Int32) (7 : Int32) (0 : Int32) (-32 : Int32) ps (show (N : Int) ≤ 4096 from (om_1c2c49c46c zNN)) (show pr ps = ad 908 from hps) (show (u53.1 0 334) = ps from (Eq.trans (fr52.2.1 334 (by decide)) (Eq.trans (fr49.2.1 334 (by decide)) (Eq.trans (fr46.2.1 334 (by decide)) (Eq.trans (fr43.2.1 334 (by decide)) (Eq.trans (fr40.2.1 334 (by decide)) (Eq.trans (fr37.2.1 334 (by decide)) (Eq.trans (fr34.2.1 334 (by decide)) (Eq.trans (fr31.2.1 334 (by decide)) (Eq.trans (fr28.2.1 334 (by decide)) (Eq.trans (fr25.2.1 334 (by decide)) (Eq.trans (fr22.2.1 334 (by decide)) (Eq.trans (fr19.2.1 334 (by decide)) (Eq.trans (fr16.2.1 334 (by decide)) (Eq.trans (fr13.2.1 334 (by decide)) (Eq.trans (fr10.2.1 334 (by decide)) (Eq.trans (fr7.2.1 334 (by decide)) (Eq.trans (fr4.2.1 334 (by decide)) (Eq.trans (fr1.2.1 334 (by decide)) es334))))))))))))))))))) (show 0 ≤ (u53.1 0 337).toInt ∧ (u53.1 0 337).toInt + 1 ≤ 7000000 from (om_43fcf8791d zs pz1 pz4 pz7 pz10 pz13 pz16 pz19 pz22 pz25 pz28 pz31 pz34 pz37 pz40 pz43 pz46 pz49 pz52))) tw_691 tw_692 (by decide +kernel) rfl rfl ⟨Nat.le_of_ble_eq_true rfl, Nat.le_of_ble_eq_true rfl⟩ (List.range (cW ad pr N cI cR L1 L2 u53).length) (rg_map _) (nd_range _) 4 rfl rfl rfl rfl hl.1 rfl (Nat.le_of_ble_eq_true rfl) dX0_layOver_205 ⟨Nat.le_of_ble_eq_true rfl, Nat.le_of_ble_eq_true rfl⟩) hP hD hS hA (fun u56 H locs hw55 hP hD hS => ?_)
  obtain ⟨fr55, ex55, pz55, rs55⟩ := hw55
  have pz55 : (u56.1 0 337).toInt = (u53.1 0 337).toInt + 1 := pz55
  have rs55 : RS u53 u56 := rs55
  refine W.widen (k := 0) (n := 0) (Nat.le_refl _) (Nat.le_refl _) ?_
  refine lv_aload_n hx hb dX0_layOver_208 rfl (lv_at hl 0 rfl) ?_
  refine lv_bipush (v := 19) hx hb dX0_layOver_209 (by decide) ?_
  refine lv_bipush (v := 10) hx hb dX0_layOver_211 (by decide) ?_
  refine lv_iconst (v := 5) hx hb dX0_layOver_213 (by decide) ?_
  refine lv_iconst (v := 0) hx hb dX0_layOver_214 (by decide) ?_
  refine cu_v (rn_Vk (n := 4) (As := [.int 19, .int 10, .int 5, .int 0]) (rest := []) hx hb hml hown ht hKK hFx hP hD hS hA (c_x_X0_immediate l dC dI cI cB cZ cJ cR tb H.size ad pr N L1 L2 u56 (19 : Int32) (10 : Int32) (5 : Int32) (0 : Int32) ps (show (N : Int) ≤ 4096 from (om_1c2c49c46c zNN)) (show pr ps = ad 908 from hps) (show (u56.1 0 334) = ps from (Eq.trans (fr55.2.1 334 (by decide)) (Eq.trans (fr52.2.1 334 (by decide)) (Eq.trans (fr49.2.1 334 (by decide)) (Eq.trans (fr46.2.1 334 (by decide)) (Eq.trans (fr43.2.1 334 (by decide)) (Eq.trans (fr40.2.1 334 (by decide)) (Eq.trans (fr37.2.1 334 (by decide)) (Eq.trans (fr34.2.1 334 (by decide)) (Eq.trans (fr31.2.1 334 (by decide)) (Eq.trans (fr28.2.1 334 (by decide)) (Eq.trans (fr25.2.1 334 (by decide)) (Eq.trans (fr22.2.1 334 (by decide)) (Eq.trans (fr19.2.1 334 (by decide)) (Eq.trans (fr16.2.1 334 (by decide)) (Eq.trans (fr13.2.1 334 (by decide)) (Eq.trans (fr10.2.1 334 (by decide)) (Eq.trans (fr7.2.1 334 (by decide)) (Eq.trans (fr4.2.1 334 (by decide)) (Eq.trans (fr1.2.1 334 (by decide)) es334)))))))))))))))))))) (show 0 ≤ (u56.1 0 337).toInt ∧ (u56.1 0 337).toInt + 1 ≤ 7000000 from (om_800c989fae zs pz1 pz4 pz7 pz10 pz13 pz16 pz19 pz22 pz25 pz28 pz31 pz34 pz37 pz40 pz43 pz46 pz49 pz52 pz55))) tw_678 tw_679 (by decide +kernel) rfl rfl ⟨Nat.le_of_ble_eq_true rfl, Nat.le_of_ble_eq_true rfl⟩ (List.range (cW ad pr N cI cR L1 L2 u56).length) (rg_map _) (nd_range _) 4 rfl rfl rfl rfl hl.1 rfl (Nat.le_of_ble_eq_true rfl) dX0_layOver_215 ⟨Nat.le_of_ble_eq_true rfl, Nat.le_of_ble_eq_true rfl⟩) hP hD hS hA (fun u59 H locs hw58 hP hD hS => ?_)
  obtain ⟨fr58, ex58, pz58, rs58⟩ := hw58
  have pz58 : (u59.1 0 337).toInt = (u56.1 0 337).toInt + 1 := pz58
  have rs58 : RS u56 u59 := rs58
  refine W.widen (k := 0) (n := 0) (Nat.le_refl _) (Nat.le_refl _) ?_
  refine lv_aload_n hx hb dX0_layOver_218 rfl (lv_at hl 0 rfl) ?_
  refine lv_sipush (v := 20579) hx hb dX0_layOver_219 (by decide) ?_
  refine lv_bipush (v := 29) hx hb dX0_layOver_222 (by decide) ?_
  refine lv_iconst (v := 0) hx hb dX0_layOver_224 (by decide) ?_
  refine lv_bipush (v := 8) hx hb dX0_layOver_225 (by decide) ?_
  refine cu_v (rn_Vk (n := 4) (As := [.int 20579, .int 29, .int 0, .int 8]) (rest := []) hx hb hml hown ht hKK hFx hP hD hS hA (c_x_X0_branch l dC dI cI cB cZ cJ cR tb H.size ad pr N L1 L2 u59 (20579 : Int32) (29 : Int32) (0 : Int32) (8 : Int32) ps (show (N : Int) ≤ 4096 from (om_1c2c49c46c zNN)) (show pr ps = ad 908 from hps) (show (u59.1 0 334) = ps from (Eq.trans (fr58.2.1 334 (by decide)) (Eq.trans (fr55.2.1 334 (by decide)) (Eq.trans (fr52.2.1 334 (by decide)) (Eq.trans (fr49.2.1 334 (by decide)) (Eq.trans (fr46.2.1 334 (by decide)) (Eq.trans (fr43.2.1 334 (by decide)) (Eq.trans (fr40.2.1 334 (by decide)) (Eq.trans (fr37.2.1 334 (by decide)) (Eq.trans (fr34.2.1 334 (by decide)) (Eq.trans (fr31.2.1 334 (by decide)) (Eq.trans (fr28.2.1 334 (by decide)) (Eq.trans (fr25.2.1 334 (by decide)) (Eq.trans (fr22.2.1 334 (by decide)) (Eq.trans (fr19.2.1 334 (by decide)) (Eq.trans (fr16.2.1 334 (by decide)) (Eq.trans (fr13.2.1 334 (by decide)) (Eq.trans (fr10.2.1 334 (by decide)) (Eq.trans (fr7.2.1 334 (by decide)) (Eq.trans (fr4.2.1 334 (by decide)) (Eq.trans (fr1.2.1 334 (by decide)) es334))))))))))))))))))))) (show 0 ≤ (u59.1 0 337).toInt ∧ (u59.1 0 337).toInt + 1 ≤ 7000000 from (om_26c4ec0897 zs pz1 pz4 pz7 pz10 pz13 pz16 pz19 pz22 pz25 pz28 pz31 pz34 pz37 pz40 pz43 pz46 pz49 pz52 pz55 pz58))) tw_691 tw_692 (by decide +kernel) rfl rfl ⟨Nat.le_of_ble_eq_true rfl, Nat.le_of_ble_eq_true rfl⟩ (List.range (cW ad pr N cI cR L1 L2 u59).length) (rg_map _) (nd_range _) 4 rfl rfl rfl rfl hl.1 rfl (Nat.le_of_ble_eq_true rfl) dX0_layOver_227 ⟨Nat.le_of_ble_eq_true rfl, Nat.le_of_ble_eq_true rfl⟩) hP hD hS hA (fun u62 H locs hw61 hP hD hS => ?_)
  obtain ⟨fr61, ex61, pz61, rs61⟩ := hw61
  have pz61 : (u62.1 0 337).toInt = (u59.1 0 337).toInt + 1 := pz61
  have rs61 : RS u59 u62 := rs61
  refine W.widen (k := 0) (n := 0) (Nat.le_refl _) (Nat.le_refl _) ?_
  refine lv_aload_n hx hb dX0_layOver_230 rfl (lv_at hl 0 rfl) ?_
  refine lv_ldc (v := 1073741875) hx hb hown (ht _ tw_700) dX0_layOver_231 ?_
  refine lv_bipush (v := 10) hx hb dX0_layOver_233 (by decide) ?_
  refine lv_iconst (v := 0) hx hb dX0_layOver_235 (by decide) ?_
  refine lv_bipush (v := 10) hx hb dX0_layOver_236 (by decide) ?_
  refine cu_v (rn_Vk (n := 4) (As := [.int 1073741875, .int 10, .int 0, .int 10]) (rest := []) hx hb hml hown ht hKK hFx hP hD hS hA (c_x_X0_three l dC dI cI cB cZ cJ cR tb H.size ad pr N L1 L2 u62 (1073741875 : Int32) (10 : Int32) (0 : Int32) (10 : Int32) ps (show (N : Int) ≤ 4096 from (om_1c2c49c46c zNN)) (show pr ps = ad 908 from hps) (show (u62.1 0 334) = ps from (Eq.trans (fr61.2.1 334 (by decide)) (Eq.trans (fr58.2.1 334 (by decide)) (Eq.trans (fr55.2.1 334 (by decide)) (Eq.trans (fr52.2.1 334 (by decide)) (Eq.trans (fr49.2.1 334 (by decide)) (Eq.trans (fr46.2.1 334 (by decide)) (Eq.trans (fr43.2.1 334 (by decide)) (Eq.trans (fr40.2.1 334 (by decide)) (Eq.trans (fr37.2.1 334 (by decide)) (Eq.trans (fr34.2.1 334 (by decide)) (Eq.trans (fr31.2.1 334 (by decide)) (Eq.trans (fr28.2.1 334 (by decide)) (Eq.trans (fr25.2.1 334 (by decide)) (Eq.trans (fr22.2.1 334 (by decide)) (Eq.trans (fr19.2.1 334 (by decide)) (Eq.trans (fr16.2.1 334 (by decide)) (Eq.trans (fr13.2.1 334 (by decide)) (Eq.trans (fr10.2.1 334 (by decide)) (Eq.trans (fr7.2.1 334 (by decide)) (Eq.trans (fr4.2.1 334 (by decide)) (Eq.trans (fr1.2.1 334 (by decide)) es334)))))))))))))))))))))) (show 0 ≤ (u62.1 0 337).toInt ∧ (u62.1 0 337).toInt + 1 ≤ 7000000 from (om_4547bacae5 zs pz1 pz4 pz7 pz10 pz13 pz16 pz19 pz22 pz25 pz28 pz31 pz34 pz37 pz40 pz43 pz46 pz49 pz52 pz55 pz58 pz61))) tw_693 tw_694 (by decide +kernel) rfl rfl ⟨Nat.le_of_ble_eq_true rfl, Nat.le_of_ble_eq_true rfl⟩ (List.range (cW ad pr N cI cR L1 L2 u62).length) (rg_map _) (nd_range _) 4 rfl rfl rfl rfl hl.1 rfl (Nat.le_of_ble_eq_true rfl) dX0_layOver_238 ⟨Nat.le_of_ble_eq_true rfl, Nat.le_of_ble_eq_true rfl⟩) hP hD hS hA (fun u65 H locs hw64 hP hD hS => ?_)
  obtain ⟨fr64, ex64, pz64, rs64⟩ := hw64
  have pz64 : (u65.1 0 337).toInt = (u62.1 0 337).toInt + 1 := pz64
  have rs64 : RS u62 u65 := rs64
  refine W.widen (k := 0) (n := 0) (Nat.le_refl _) (Nat.le_refl _) ?_
  refine lv_aload_n hx hb dX0_layOver_241 rfl (lv_at hl 0 rfl) ?_
  refine lv_sipush (v := 20579) hx hb dX0_layOver_242 (by decide) ?_
  refine lv_bipush (v := 30) hx hb dX0_layOver_245 (by decide) ?_
  refine lv_iconst (v := 0) hx hb dX0_layOver_247 (by decide) ?_
  refine lv_bipush (v := 8) hx hb dX0_layOver_248 (by decide) ?_
  refine cu_v (rn_Vk (n := 4) (As := [.int 20579, .int 30, .int 0, .int 8]) (rest := []) hx hb hml hown ht hKK hFx hP hD hS hA (c_x_X0_branch l dC dI cI cB cZ cJ cR tb H.size ad pr N L1 L2 u65 (20579 : Int32) (30 : Int32) (0 : Int32) (8 : Int32) ps (show (N : Int) ≤ 4096 from (om_1c2c49c46c zNN)) (show pr ps = ad 908 from hps) (show (u65.1 0 334) = ps from (Eq.trans (fr64.2.1 334 (by decide)) (Eq.trans (fr61.2.1 334 (by decide)) (Eq.trans (fr58.2.1 334 (by decide)) (Eq.trans (fr55.2.1 334 (by decide)) (Eq.trans (fr52.2.1 334 (by decide)) (Eq.trans (fr49.2.1 334 (by decide)) (Eq.trans (fr46.2.1 334 (by decide)) (Eq.trans (fr43.2.1 334 (by decide)) (Eq.trans (fr40.2.1 334 (by decide)) (Eq.trans (fr37.2.1 334 (by decide)) (Eq.trans (fr34.2.1 334 (by decide)) (Eq.trans (fr31.2.1 334 (by decide)) (Eq.trans (fr28.2.1 334 (by decide)) (Eq.trans (fr25.2.1 334 (by decide)) (Eq.trans (fr22.2.1 334 (by decide)) (Eq.trans (fr19.2.1 334 (by decide)) (Eq.trans (fr16.2.1 334 (by decide)) (Eq.trans (fr13.2.1 334 (by decide)) (Eq.trans (fr10.2.1 334 (by decide)) (Eq.trans (fr7.2.1 334 (by decide)) (Eq.trans (fr4.2.1 334 (by decide)) (Eq.trans (fr1.2.1 334 (by decide)) es334))))))))))))))))))))))) (show 0 ≤ (u65.1 0 337).toInt ∧ (u65.1 0 337).toInt + 1 ≤ 7000000 from (om_4c8cb7fbd8 zs pz1 pz4 pz7 pz10 pz13 pz16 pz19 pz22 pz25 pz28 pz31 pz34 pz37 pz40 pz43 pz46 pz49 pz52 pz55 pz58 pz61 pz64))) tw_691 tw_692 (by decide +kernel) rfl rfl ⟨Nat.le_of_ble_eq_true rfl, Nat.le_of_ble_eq_true rfl⟩ (List.range (cW ad pr N cI cR L1 L2 u65).length) (rg_map _) (nd_range _) 4 rfl rfl rfl rfl hl.1 rfl (Nat.le_of_ble_eq_true rfl) dX0_layOver_250 ⟨Nat.le_of_ble_eq_true rfl, Nat.le_of_ble_eq_true rfl⟩) hP hD hS hA (fun u68 H locs hw67 hP hD hS => ?_)
  obtain ⟨fr67, ex67, pz67, rs67⟩ := hw67
  have pz67 : (u68.1 0 337).toInt = (u65.1 0 337).toInt + 1 := pz67
  have rs67 : RS u65 u68 := rs67
  refine W.widen (k := 0) (n := 0) (Nat.le_refl _) (Nat.le_refl _) ?_
  refine lv_aload_n hx hb dX0_layOver_253 rfl (lv_at hl 0 rfl) ?_
  refine lv_ldc (v := 1073741875) hx hb hown (ht _ tw_700) dX0_layOver_254 ?_
  refine lv_bipush (v := 6) hx hb dX0_layOver_256 (by decide) ?_
  refine lv_iconst (v := 0) hx hb dX0_layOver_258 (by decide) ?_
  refine lv_bipush (v := 6) hx hb dX0_layOver_259 (by decide) ?_
  refine cu_v (rn_Vk (n := 4) (As := [.int 1073741875, .int 6, .int 0, .int 6]) (rest := []) hx hb hml hown ht hKK hFx hP hD hS hA (c_x_X0_three l dC dI cI cB cZ cJ cR tb H.size ad pr N L1 L2 u68 (1073741875 : Int32) (6 : Int32) (0 : Int32) (6 : Int32) ps (show (N : Int) ≤ 4096 from (om_1c2c49c46c zNN)) (show pr ps = ad 908 from hps) (show (u68.1 0 334) = ps from (Eq.trans (fr67.2.1 334 (by decide)) (Eq.trans (fr64.2.1 334 (by decide)) (Eq.trans (fr61.2.1 334 (by decide)) (Eq.trans (fr58.2.1 334 (by decide)) (Eq.trans (fr55.2.1 334 (by decide)) (Eq.trans (fr52.2.1 334 (by decide)) (Eq.trans (fr49.2.1 334 (by decide)) (Eq.trans (fr46.2.1 334 (by decide)) (Eq.trans (fr43.2.1 334 (by decide)) (Eq.trans (fr40.2.1 334 (by decide)) (Eq.trans (fr37.2.1 334 (by decide)) (Eq.trans (fr34.2.1 334 (by decide)) (Eq.trans (fr31.2.1 334 (by decide)) (Eq.trans (fr28.2.1 334 (by decide)) (Eq.trans (fr25.2.1 334 (by decide)) (Eq.trans (fr22.2.1 334 (by decide)) (Eq.trans (fr19.2.1 334 (by decide)) (Eq.trans (fr16.2.1 334 (by decide)) (Eq.trans (fr13.2.1 334 (by decide)) (Eq.trans (fr10.2.1 334 (by decide)) (Eq.trans (fr7.2.1 334 (by decide)) (Eq.trans (fr4.2.1 334 (by decide)) (Eq.trans (fr1.2.1 334 (by decide)) es334)))))))))))))))))))))))) (show 0 ≤ (u68.1 0 337).toInt ∧ (u68.1 0 337).toInt + 1 ≤ 7000000 from (om_6c467f1f46 zs pz1 pz4 pz7 pz10 pz13 pz16 pz19 pz22 pz25 pz28 pz31 pz34 pz37 pz40 pz43 pz46 pz49 pz52 pz55 pz58 pz61 pz64 pz67))) tw_693 tw_694 (by decide +kernel) rfl rfl ⟨Nat.le_of_ble_eq_true rfl, Nat.le_of_ble_eq_true rfl⟩ (List.range (cW ad pr N cI cR L1 L2 u68).length) (rg_map _) (nd_range _) 4 rfl rfl rfl rfl hl.1 rfl (Nat.le_of_ble_eq_true rfl) dX0_layOver_261 ⟨Nat.le_of_ble_eq_true rfl, Nat.le_of_ble_eq_true rfl⟩) hP hD hS hA (fun u71 H locs hw70 hP hD hS => ?_)
  obtain ⟨fr70, ex70, pz70, rs70⟩ := hw70
  have pz70 : (u71.1 0 337).toInt = (u68.1 0 337).toInt + 1 := pz70
  have rs70 : RS u68 u71 := rs70
  refine W.widen (k := 0) (n := 0) (Nat.le_refl _) (Nat.le_refl _) ?_
  refine lv_aload_n hx hb dX0_layOver_264 rfl (lv_at hl 0 rfl) ?_
  refine lv_bipush (v := 103) hx hb dX0_layOver_265 (by decide) ?_
  refine lv_iconst (v := 0) hx hb dX0_layOver_267 (by decide) ?_
  refine lv_bipush (v := 28) hx hb dX0_layOver_268 (by decide) ?_
  refine lv_iconst (v := 0) hx hb dX0_layOver_270 (by decide) ?_
  refine cu_v (rn_Vk (n := 4) (As := [.int 103, .int 0, .int 28, .int 0]) (rest := []) hx hb hml hown ht hKK hFx hP hD hS hA (c_x_X0_immediate l dC dI cI cB cZ cJ cR tb H.size ad pr N L1 L2 u71 (103 : Int32) (0 : Int32) (28 : Int32) (0 : Int32) ps (show (N : Int) ≤ 4096 from (om_1c2c49c46c zNN)) (show pr ps = ad 908 from hps) (show (u71.1 0 334) = ps from (Eq.trans (fr70.2.1 334 (by decide)) (Eq.trans (fr67.2.1 334 (by decide)) (Eq.trans (fr64.2.1 334 (by decide)) (Eq.trans (fr61.2.1 334 (by decide)) (Eq.trans (fr58.2.1 334 (by decide)) (Eq.trans (fr55.2.1 334 (by decide)) (Eq.trans (fr52.2.1 334 (by decide)) (Eq.trans (fr49.2.1 334 (by decide)) (Eq.trans (fr46.2.1 334 (by decide)) (Eq.trans (fr43.2.1 334 (by decide)) (Eq.trans (fr40.2.1 334 (by decide)) (Eq.trans (fr37.2.1 334 (by decide)) (Eq.trans (fr34.2.1 334 (by decide)) (Eq.trans (fr31.2.1 334 (by decide)) (Eq.trans (fr28.2.1 334 (by decide)) (Eq.trans (fr25.2.1 334 (by decide)) (Eq.trans (fr22.2.1 334 (by decide)) (Eq.trans (fr19.2.1 334 (by decide)) (Eq.trans (fr16.2.1 334 (by decide)) (Eq.trans (fr13.2.1 334 (by decide)) (Eq.trans (fr10.2.1 334 (by decide)) (Eq.trans (fr7.2.1 334 (by decide)) (Eq.trans (fr4.2.1 334 (by decide)) (Eq.trans (fr1.2.1 334 (by decide)) es334))))))))))))))))))))))))) (show 0 ≤ (u71.1 0 337).toInt ∧ (u71.1 0 337).toInt + 1 ≤ 7000000 from (om_5d3aa8083d zs pz1 pz4 pz7 pz10 pz13 pz16 pz19 pz22 pz25 pz28 pz31 pz34 pz37 pz40 pz43 pz46 pz49 pz52 pz55 pz58 pz61 pz64 pz67 pz70))) tw_678 tw_679 (by decide +kernel) rfl rfl ⟨Nat.le_of_ble_eq_true rfl, Nat.le_of_ble_eq_true rfl⟩ (List.range (cW ad pr N cI cR L1 L2 u71).length) (rg_map _) (nd_range _) 4 rfl rfl rfl rfl hl.1 rfl (Nat.le_of_ble_eq_true rfl) dX0_layOver_271 ⟨Nat.le_of_ble_eq_true rfl, Nat.le_of_ble_eq_true rfl⟩) hP hD hS hA (fun u74 H locs hw73 hP hD hS => ?_)
  obtain ⟨fr73, ex73, pz73, rs73⟩ := hw73
  have pz73 : (u74.1 0 337).toInt = (u71.1 0 337).toInt + 1 := pz73
  have rs73 : RS u71 u74 := rs73
  refine W.widen (k := 0) (n := 0) (Nat.le_refl _) (Nat.le_refl _) ?_
  exact W.vret hx hb hr (fun t ht9 hW => ⟨⟨u74, rfl, ⟨(FC.tr (FC.tr (FC.tr (FC.tr (FC.tr (FC.tr (FC.tr (FC.tr (FC.tr (FC.tr (FC.tr (FC.tr (FC.tr (FC.tr (FC.tr (FC.tr (FC.tr (FC.tr (FC.tr (FC.tr (FC.tr (FC.tr (FC.tr (FC.tr (FC.tr (FC.rf _) (FC.up fr1 (by decide) (by decide))) (FC.up fr4 (by decide) (by decide))) (FC.up fr7 (by decide) (by decide))) (FC.up fr10 (by decide) (by decide))) (FC.up fr13 (by decide) (by decide))) (FC.up fr16 (by decide) (by decide))) (FC.up fr19 (by decide) (by decide))) (FC.up fr22 (by decide) (by decide))) (FC.up fr25 (by decide) (by decide))) (FC.up fr28 (by decide) (by decide))) (FC.up fr31 (by decide) (by decide))) (FC.up fr34 (by decide) (by decide))) (FC.up fr37 (by decide) (by decide))) (FC.up fr40 (by decide) (by decide))) (FC.up fr43 (by decide) (by decide))) (FC.up fr46 (by decide) (by decide))) (FC.up fr49 (by decide) (by decide))) (FC.up fr52 (by decide) (by decide))) (FC.up fr55 (by decide) (by decide))) (FC.up fr58 (by decide) (by decide))) (FC.up fr61 (by decide) (by decide))) (FC.up fr64 (by decide) (by decide))) (FC.up fr67 (by decide) (by decide))) (FC.up fr70 (by decide) (by decide))) (FC.up fr73 (by decide) (by decide))), ⟨zs, u2, ex1, ⟨fr1, pz1, rs1⟩, u5, ex4, ⟨fr4, pz4, rs4⟩, u8, ex7, ⟨fr7, pz7, rs7⟩, u11, ex10, ⟨fr10, pz10, rs10⟩, u14, ex13, ⟨fr13, pz13, rs13⟩, u17, ex16, ⟨fr16, pz16, rs16⟩, u20, ex19, ⟨fr19, pz19, rs19⟩, u23, ex22, ⟨fr22, pz22, rs22⟩, u26, ex25, ⟨fr25, pz25, rs25⟩, u29, ex28, ⟨fr28, pz28, rs28⟩, u32, ex31, ⟨fr31, pz31, rs31⟩, u35, ex34, ⟨fr34, pz34, rs34⟩, u38, ex37, ⟨fr37, pz37, rs37⟩, u41, ex40, ⟨fr40, pz40, rs40⟩, u44, ex43, ⟨fr43, pz43, rs43⟩, u47, ex46, ⟨fr46, pz46, rs46⟩, u50, ex49, ⟨fr49, pz49, rs49⟩, u53, ex52, ⟨fr52, pz52, rs52⟩, u56, ex55, ⟨fr55, pz55, rs55⟩, u59, ex58, ⟨fr58, pz58, rs58⟩, u62, ex61, ⟨fr61, pz61, rs61⟩, u65, ex64, ⟨fr64, pz64, rs64⟩, u68, ex67, ⟨fr67, pz67, rs67⟩, u71, ex70, ⟨fr70, pz70, rs70⟩, u74, ex73, ⟨fr73, pz73, rs73⟩, rfl⟩, (show (u74.1 0 337).toInt = (v.1 0 337).toInt + 26 from (om_bda381dfce pz1 pz4 pz7 pz10 pz13 pz16 pz19 pz22 pz25 pz28 pz31 pz34 pz37 pz40 pz43 pz46 pz49 pz52 pz55 pz58 pz61 pz64 pz67 pz70 pz73)), (RS.tr (RS.tr (RS.tr (RS.tr (RS.tr (RS.tr (RS.tr (RS.tr (RS.tr (RS.tr (RS.tr (RS.tr (RS.tr (RS.tr (RS.tr (RS.tr (RS.tr (RS.tr (RS.tr (RS.tr (RS.tr (RS.tr (RS.tr (RS.tr (RS.tr RS.rf rs1) rs4) rs7) rs10) rs13) rs16) rs19) rs22) rs25) rs28) rs31) rs34) rs37) rs40) rs43) rs46) rs49) rs52) rs55) rs58) rs61) rs64) rs67) rs70) rs73)⟩, by rw [ht9]; exact hP, hD⟩, hS.F ht9⟩) hS.2.2 dX0_layOver_274
theorem om_4ae3c475ce {x0 x1 x2 : Int} (h0 : x0 = x1 + 1) (h1 : x2 = x0 + 1) : x1 ≤ x2 ∧ x2 ≤ x1 + 8 := by omega
theorem om_cd2dc79800 {x0 : Int} (h0 : 0 ≤ x0 ∧ x0 + 8 ≤ 7000000) : 0 ≤ x0 ∧ x0 + 8 ≤ 7000000 := by omega
theorem om_59cf375d92 {x0 x1 : Int} (h0 : x0 = x1 + 8) : x1 ≤ x0 ∧ x0 ≤ x1 + 8 := by omega
theorem om_52b950ac64 {x0 x1 : Int} (h0 : x0 = x1 + 1) : x1 ≤ x0 ∧ x0 ≤ x1 + 8 := by omega
theorem om_444f3d7702 {x0 : Int} : x0 ≤ x0 ∧ x0 ≤ x0 + 8 := by omega
set_option maxHeartbeats 4000000 in
set_option maxRecDepth 100000 in
theorem c_x_X0_layPlace (l : Launch) (dC : Nat → ClassId) (dI : Nat → Nat → Nat) (cI cB cZ cJ cR : ClassId) (tb : Nat → Nat) (sz : Nat) (ad : Nat → Nat) (pr : Int32 → Nat) (N : Nat) (L1 L2 : List Nat) (v : MS) (pa : Int32) (pb : Int32) (pc1 : Int32) (ps : Int32) (zNN : (N : Int) ≤ 4096) (hL1 : L1.length = 40) (hL2 : L2.length = 60) (rp : RP v) (hps : pr ps = ad 908) (es334 : (v.1 0 334) = ps) (zs : 0 ≤ (v.1 0 337).toInt ∧ (v.1 0 337).toInt + 8 ≤ 7000000) : Met l yX0_layPlace (Cond.code yX0_layPlace cX0_layPlace 5 none :: tw_W) ({ frames := 3, cells := 0, slots := 0, locals := 67 }) (pc_ (dC, dI) (tyS cI cB cZ cJ cR) tb (cW ad pr N cI cR L1 L2 v) sz [.ref (ad 904), .int pa, .int pb, .int pc1]) (qv_ (dC, dI) (cW ad pr N cI cR L1 L2 v) sz (fun (u : MS) => FC [337] [0, 382] v u ∧ (Q_x_X0_layPlace L1 L2 N v pa pb pc1 u) ∧ ((v.1 0 337).toInt ≤ (u.1 0 337).toInt ∧ (u.1 0 337).toInt ≤ (v.1 0 337).toInt + 8) ∧ (RS v u)) (fun (u : MS) => (cW ad pr N cI cR L1 L2 u))) 0 0 (va_A (cW ad pr N cI cR L1 L2 v) sz) := by
  refine Met.ofW (cc := cX0_layPlace) (maxL := 5) (ret := none) (by decide) rfl ?_
  intro p e s m args below meth c s₁ B hml hv
  obtain ⟨rfl, hsz, hP, hKK, hD0, hFx⟩ := hv
  have hK := hKK.1
  have hx := B.exec
  have hb := B.bytes
  have hr := B.returns
  have ht : ∀ w ∈ tw_W, w.before _ s = true := fun w h => atoms_spec (ws := Cond.code yX0_layPlace cX0_layPlace 5 none :: tw_W) B.pre w (List.mem_cons_of_mem _ h)
  have hown : s.vm.findClass RX0 = some m.cls := findClass_of_methodNamed B.named
  have hlocks := B.notSynchronized
  subst hsz
  unfold qv_
  have hD := hD0.self (sz := s.heap.size)
  generalize hAe : va_A (cW ad pr N cI cR L1 L2 v) s.heap.size = A at hD hFx ⊢
  have hA : ∀ q : Nat, s.heap.size ≤ q → A q := fun q h => by rw [← hAe]; exact Or.inr h
  have hS : va_S A s.heap s.heap [] := va_S.rf
  have hl := lv_entry ([.ref (ad 904), .int pa, .int pb, .int pc1]) (n := 5) (Nat.le_of_ble_eq_true rfl)
  rw [lg_entry_eq]
  generalize (lg_sl ([.ref (ad 904), .int pa, .int pb, .int pc1]) ++ List.replicate (5 - (lg_sl ([.ref (ad 904), .int pa, .int pb, .int pc1])).length) Slot.unset).toArray = ls at hl ⊢
  have hl : lv_has ls 5 [(0, .ref (ad 904)), (1, .int pa), (2, .int pb), (3, .int pc1)] := hl
  refine lv_aload_n hx hb dX0_layPlace_0 rfl (lv_at hl 0 rfl) ?_
  refine lv_iload_n hx hb dX0_layPlace_1 rfl (lv_at hl 2 rfl) ?_
  refine cu_i (rn_Vk (n := 1) (As := [.int pb]) (rest := []) hx hb hml hown ht hKK hFx hP hD hS hA (c_x_X0_addressOfGlobal l dC dI cI cB cZ cJ cR tb s.heap.size ad pr N L1 L2 v pb ps (show L1.length = 40 from hL1) (show L2.length = 60 from hL2) (show RP v from rp) (show pr ps = ad 908 from hps) (show (v.1 0 334) = ps from es334)) tw_710 tw_711 (by decide +kernel) rfl rfl ⟨Nat.le_of_ble_eq_true rfl, Nat.le_of_ble_eq_true rfl⟩ (List.range (cW ad pr N cI cR L1 L2 v).length) (rg_map _) (nd_range _) 4 rfl rfl rfl rfl hl.1 rfl (Nat.le_of_ble_eq_true rfl) dX0_layPlace_2 ⟨Nat.le_of_ble_eq_true rfl, Nat.le_of_ble_eq_true rfl⟩) hP hD hS hA (fun r3 u2 H locs hw1 hP hD hS => ?_)
  obtain ⟨rfl, ex1⟩ := hw1
  refine W.widen (k := 0) (n := 0) (Nat.le_refl _) (Nat.le_refl _) ?_
  refine lv_istore (lv' := [(4, .int r3), (0, .ref (ad 904)), (1, .int pa), (2, .int pb), (3, .int pc1)]) hx hb dX0_layPlace_5 hl (by decide) rfl (fun ls hl => ?_)
  refine lv_iload_n hx hb dX0_layPlace_7 rfl (lv_at hl 2 rfl) ?_
  by_cases h4 : pa = 5
  · refine lv_tableIn (off := 44) (tgt := 52) hx hb dX0_layPlace_8 (by rw [h4]; decide) (by rw [h4]; decide) (by rw [h4]; decide) (by decide) ?_
    refine lv_aload_n hx hb dX0_layPlace_52 rfl (lv_at hl 1 rfl) ?_
    refine lv_bipush (v := 6) hx hb dX0_layPlace_53 (by decide) ?_
    refine lv_iload hx hb dX0_layPlace_55 (lv_at hl 0 rfl) ?_
    refine cu_v (rn_Vk (n := 2) (As := [.int 6, .int r3]) (rest := []) hx hb hml hown ht hKK hFx hP hD hS hA (c_x_X0_upper l dC dI cI cB cZ cJ cR tb H.size ad pr N L1 L2 v (6 : Int32) r3 ps (show (N : Int) ≤ 4096 from (om_1c2c49c46c zNN)) (show pr ps = ad 908 from hps) (show (v.1 0 334) = ps from es334) (show 0 ≤ (v.1 0 337).toInt ∧ (v.1 0 337).toInt + 1 ≤ 7000000 from (om_de03119a61 zs))) tw_687 tw_688 (by decide +kernel) rfl rfl ⟨Nat.le_of_ble_eq_true rfl, Nat.le_of_ble_eq_true rfl⟩ (List.range (cW ad pr N cI cR L1 L2 v).length) (rg_map _) (nd_range _) 4 rfl rfl rfl rfl hl.1 rfl (Nat.le_of_ble_eq_true rfl) dX0_layPlace_57 ⟨Nat.le_of_ble_eq_true rfl, Nat.le_of_ble_eq_true rfl⟩) hP hD hS hA (fun u6 H locs hw5 hP hD hS => ?_)
    obtain ⟨fr5, ex5, pz5, rs5⟩ := hw5
    refine W.widen (k := 0) (n := 0) (Nat.le_refl _) (Nat.le_refl _) ?_
    refine lv_aload_n hx hb dX0_layPlace_60 rfl (lv_at hl 1 rfl) ?_
    refine lv_sipush (v := 8195) hx hb dX0_layPlace_61 (by decide) ?_
    refine lv_bipush (v := 10) hx hb dX0_layPlace_64 (by decide) ?_
    refine lv_bipush (v := 6) hx hb dX0_layPlace_66 (by decide) ?_
    refine lv_iload hx hb dX0_layPlace_68 (lv_at hl 0 rfl) ?_
    refine cu_s (nd_range _) (rn_S (n := 1) (As := [.int r3]) (rest := [.int 6, .int 10, .int 8195, .ref (ad 904)]) hx hb hml hown ht hKK hFx hP hD hS hA (c_x_X0_low l dC dI cI cB cZ cJ cR tb H.size r3 ) tw_689 tw_690 (by decide +kernel) rfl rfl ⟨Nat.le_of_ble_eq_true rfl, Nat.le_of_ble_eq_true rfl⟩ [] rfl rfl rfl hl.1 rfl (Nat.le_of_ble_eq_true rfl) dX0_layPlace_70 ⟨Nat.le_of_ble_eq_true rfl, Nat.le_of_ble_eq_true rfl⟩) hP hD hS hA (fun r11 H locs hw8 hP hD hS => ?_)
    have ex8 := hw8
    refine W.widen (k := 0) (n := 0) (Nat.le_refl _) (Nat.le_refl _) ?_
    refine cu_v (rn_Vk (n := 4) (As := [.int 8195, .int 10, .int 6, .int r11]) (rest := []) hx hb hml hown ht hKK hFx hP hD hS hA (c_x_X0_immediate l dC dI cI cB cZ cJ cR tb H.size ad pr N L1 L2 u6 (8195 : Int32) (10 : Int32) (6 : Int32) r11 ps (show (N : Int) ≤ 4096 from (om_1c2c49c46c zNN)) (show pr ps = ad 908 from hps) (show (u6.1 0 334) = ps from (Eq.trans (fr5.2.1 334 (by decide)) es334)) (show 0 ≤ (u6.1 0 337).toInt ∧ (u6.1 0 337).toInt + 1 ≤ 7000000 from (om_6b468904bd zs pz5))) tw_678 tw_679 (by decide +kernel) rfl rfl ⟨Nat.le_of_ble_eq_true rfl, Nat.le_of_ble_eq_true rfl⟩ (List.range (cW ad pr N cI cR L1 L2 u6).length) (rg_map _) (nd_range _) 4 rfl rfl rfl rfl hl.1 rfl (Nat.le_of_ble_eq_true rfl) dX0_layPlace_73 ⟨Nat.le_of_ble_eq_true rfl, Nat.le_of_ble_eq_true rfl⟩) hP hD hS hA (fun u13 H locs hw12 hP hD hS => ?_)
    obtain ⟨fr12, ex12, pz12, rs12⟩ := hw12
    have pz12 : (u13.1 0 337).toInt = (u6.1 0 337).toInt + 1 := pz12
    have rs12 : RS u6 u13 := rs12
    refine W.widen (k := 0) (n := 0) (Nat.le_refl _) (Nat.le_refl _) ?_
    refine lv_goto (tgt := 197) hx hb dX0_layPlace_76 (by decide) ?_
    exact W.vret hx hb hr (fun t ht9 hW => ⟨⟨u13, rfl, ⟨(FC.tr (FC.tr (FC.rf _) (FC.up fr5 (by decide) (by decide))) (FC.up fr12 (by decide) (by decide))), ⟨zs, r3, ex1, (Or.inl ⟨h4, u6, ex5, ⟨fr5, pz5, rs5⟩, r11, ex8, u13, ex12, ⟨fr12, pz12, rs12⟩, rfl⟩)⟩, (show (v.1 0 337).toInt ≤ (u13.1 0 337).toInt ∧ (u13.1 0 337).toInt ≤ (v.1 0 337).toInt + 8 from (om_4ae3c475ce pz5 pz12)), (RS.tr (RS.tr RS.rf rs5) rs12)⟩, by rw [ht9]; exact hP, hD⟩, hS.F ht9⟩) hS.2.2 dX0_layPlace_197
  ·
    by_cases h15 : pa = 6
    · refine lv_tableIn (off := 71) (tgt := 79) hx hb dX0_layPlace_8 (by rw [h15]; decide) (by rw [h15]; decide) (by rw [h15]; decide) (by decide) ?_
      refine lv_aload_n hx hb dX0_layPlace_79 rfl (lv_at hl 1 rfl) ?_
      refine lv_bipush (v := 6) hx hb dX0_layPlace_80 (by decide) ?_
      refine lv_iload hx hb dX0_layPlace_82 (lv_at hl 0 rfl) ?_
      refine cu_v (rn_Vk (n := 2) (As := [.int 6, .int r3]) (rest := []) hx hb hml hown ht hKK hFx hP hD hS hA (c_x_X0_upper l dC dI cI cB cZ cJ cR tb H.size ad pr N L1 L2 v (6 : Int32) r3 ps (show (N : Int) ≤ 4096 from (om_1c2c49c46c zNN)) (show pr ps = ad 908 from hps) (show (v.1 0 334) = ps from es334) (show 0 ≤ (v.1 0 337).toInt ∧ (v.1 0 337).toInt + 1 ≤ 7000000 from (om_de03119a61 zs))) tw_687 tw_688 (by decide +kernel) rfl rfl ⟨Nat.le_of_ble_eq_true rfl, Nat.le_of_ble_eq_true rfl⟩ (List.range (cW ad pr N cI cR L1 L2 v).length) (rg_map _) (nd_range _) 4 rfl rfl rfl rfl hl.1 rfl (Nat.le_of_ble_eq_true rfl) dX0_layPlace_84 ⟨Nat.le_of_ble_eq_true rfl, Nat.le_of_ble_eq_true rfl⟩) hP hD hS hA (fun u17 H locs hw16 hP hD hS => ?_)
      obtain ⟨fr16, ex16, pz16, rs16⟩ := hw16
      refine W.widen (k := 0) (n := 0) (Nat.le_refl _) (Nat.le_refl _) ?_
      refine lv_aload_n hx hb dX0_layPlace_87 rfl (lv_at hl 1 rfl) ?_
      refine lv_bipush (v := 10) hx hb dX0_layPlace_88 (by decide) ?_
      refine lv_iload hx hb dX0_layPlace_90 (lv_at hl 0 rfl) ?_
      refine cu_s (nd_range _) (rn_S (n := 1) (As := [.int r3]) (rest := [.int 10, .ref (ad 904)]) hx hb hml hown ht hKK hFx hP hD hS hA (c_x_X0_low l dC dI cI cB cZ cJ cR tb H.size r3 ) tw_689 tw_690 (by decide +kernel) rfl rfl ⟨Nat.le_of_ble_eq_true rfl, Nat.le_of_ble_eq_true rfl⟩ [] rfl rfl rfl hl.1 rfl (Nat.le_of_ble_eq_true rfl) dX0_layPlace_92 ⟨Nat.le_of_ble_eq_true rfl, Nat.le_of_ble_eq_true rfl⟩) hP hD hS hA (fun r21 H locs hw19 hP hD hS => ?_)
      have ex19 := hw19
      refine W.widen (k := 0) (n := 0) (Nat.le_refl _) (Nat.le_refl _) ?_
      refine lv_bipush (v := 6) hx hb dX0_layPlace_95 (by decide) ?_
      refine cu_v (rn_Vk (n := 3) (As := [.int 10, .int r21, .int 6]) (rest := []) hx hb hml hown ht hKK hFx hP hD hS hA (c_x_X0_storeWord l dC dI cI cB cZ cJ cR tb H.size ad pr N L1 L2 u17 (10 : Int32) r21 (6 : Int32) ps (show (N : Int) ≤ 4096 from (om_1c2c49c46c zNN)) (show pr ps = ad 908 from hps) (show (u17.1 0 334) = ps from (Eq.trans (fr16.2.1 334 (by decide)) es334)) (show 0 ≤ (u17.1 0 337).toInt ∧ (u17.1 0 337).toInt + 1 ≤ 7000000 from (om_6b468904bd zs pz16))) tw_683 tw_684 (by decide +kernel) rfl rfl ⟨Nat.le_of_ble_eq_true rfl, Nat.le_of_ble_eq_true rfl⟩ (List.range (cW ad pr N cI cR L1 L2 u17).length) (rg_map _) (nd_range _) 4 rfl rfl rfl rfl hl.1 rfl (Nat.le_of_ble_eq_true rfl) dX0_layPlace_97 ⟨Nat.le_of_ble_eq_true rfl, Nat.le_of_ble_eq_true rfl⟩) hP hD hS hA (fun u23 H locs hw22 hP hD hS => ?_)
      obtain ⟨fr22, ex22, pz22, rs22⟩ := hw22
      have pz22 : (u23.1 0 337).toInt = (u17.1 0 337).toInt + 1 := pz22
      have rs22 : RS u17 u23 := rs22
      refine W.widen (k := 0) (n := 0) (Nat.le_refl _) (Nat.le_refl _) ?_
      refine lv_goto (tgt := 197) hx hb dX0_layPlace_100 (by decide) ?_
      exact W.vret hx hb hr (fun t ht9 hW => ⟨⟨u23, rfl, ⟨(FC.tr (FC.tr (FC.rf _) (FC.up fr16 (by decide) (by decide))) (FC.up fr22 (by decide) (by decide))), ⟨zs, r3, ex1, (Or.inr (⟨h4, (Or.inl ⟨h15, u17, ex16, ⟨fr16, pz16, rs16⟩, r21, ex19, u23, ex22, ⟨fr22, pz22, rs22⟩, rfl⟩)⟩))⟩, (show (v.1 0 337).toInt ≤ (u23.1 0 337).toInt ∧ (u23.1 0 337).toInt ≤ (v.1 0 337).toInt + 8 from (om_4ae3c475ce pz16 pz22)), (RS.tr (RS.tr RS.rf rs16) rs22)⟩, by rw [ht9]; exact hP, hD⟩, hS.F ht9⟩) hS.2.2 dX0_layPlace_197
    ·
      by_cases h25 : pa = 7
      · refine lv_tableIn (off := 95) (tgt := 103) hx hb dX0_layPlace_8 (by rw [h25]; decide) (by rw [h25]; decide) (by rw [h25]; decide) (by decide) ?_
        refine lv_aload_n hx hb dX0_layPlace_103 rfl (lv_at hl 1 rfl) ?_
        refine lv_aload_n hx hb dX0_layPlace_104 rfl (lv_at hl 1 rfl) ?_
        refine va_get (D := (dC, dI)) (ci := 4) (fs := oF_X0 ad pr v) (v := .ref (pr (v.1 0 334))) (C := RX0) (T := TX0) (N := 9) hx hb ht itX0 hown hK hP 4 rfl rfl 0 (by decide) (ht _ tw_674) (fun _ h9 => h9) rfl dX0_layPlace_105 ?_
        refine lv_iload_n hx hb dX0_layPlace_108 rfl (lv_at hl 3 rfl) ?_
        refine lv_iconst (v := 0) hx hb dX0_layPlace_109 (by decide) ?_
        refine W.eq (g2 := F0 m 110 ls [.int 0, .int pb, .ref (ad 908), .ref (ad 904)]) (by rw [show pr (v.1 0 334) = (ad 908) from (by rw [show (v.1 0 334) = ps from es334]; exact hps)]) ?_
        refine cu_i (rn_Vk (n := 2) (As := [.int pb, .int 0]) (rest := [.ref (ad 904)]) hx hb hml hown ht hKK hFx hP hD hS hA (c_x_X7_globalFact l dC dI cI cB cZ cJ cR tb H.size ad pr N L1 L2 v pb (0 : Int32) (show L1.length = 40 from hL1) (show L2.length = 60 from hL2) (show RP v from rp)) tw_402 tw_685 (by decide +kernel) rfl rfl ⟨Nat.le_of_ble_eq_true rfl, Nat.le_of_ble_eq_true rfl⟩ (List.range (cW ad pr N cI cR L1 L2 v).length) (rg_map _) (nd_range _) 8 rfl rfl rfl rfl hl.1 rfl (Nat.le_of_ble_eq_true rfl) dX0_layPlace_110 ⟨Nat.le_of_ble_eq_true rfl, Nat.le_of_ble_eq_true rfl⟩) hP hD hS hA (fun r28 u27 H locs hw26 hP hD hS => ?_)
        obtain ⟨rfl, ex26, c26, d26⟩ := hw26
        have c26 : ((0 : Int) ≠ 0 ∨ r28.toInt ≤ 1000) := c26
        refine W.widen (k := 0) (n := 0) (Nat.le_refl _) (Nat.le_refl _) ?_
        refine lv_iload hx hb dX0_layPlace_113 (lv_at hl 0 rfl) ?_
        refine cu_v (rn_Vk (n := 2) (As := [.int r28, .int r3]) (rest := []) hx hb hml hown ht hKK hFx hP hD hS hA (c_x_X0_layIndex l dC dI cI cB cZ cJ cR tb H.size ad pr N L1 L2 v r28 r3 ps (show (N : Int) ≤ 4096 from (om_1c2c49c46c zNN)) (show pr ps = ad 908 from hps) (show (v.1 0 334) = ps from es334) (show 0 ≤ (v.1 0 337).toInt ∧ (v.1 0 337).toInt + 8 ≤ 7000000 from (om_cd2dc79800 zs))) tw_712 tw_713 (by decide +kernel) rfl rfl ⟨Nat.le_of_ble_eq_true rfl, Nat.le_of_ble_eq_true rfl⟩ (List.range (cW ad pr N cI cR L1 L2 v).length) (rg_map _) (nd_range _) 4 rfl rfl rfl rfl hl.1 rfl (Nat.le_of_ble_eq_true rfl) dX0_layPlace_115 ⟨Nat.le_of_ble_eq_true rfl, Nat.le_of_ble_eq_true rfl⟩) hP hD hS hA (fun u30 H locs hw29 hP hD hS => ?_)
        obtain ⟨fr29, ex29, pz29, rs29⟩ := hw29
        refine W.widen (k := 0) (n := 0) (Nat.le_refl _) (Nat.le_refl _) ?_
        refine lv_goto (tgt := 197) hx hb dX0_layPlace_118 (by decide) ?_
        exact W.vret hx hb hr (fun t ht9 hW => ⟨⟨u30, rfl, ⟨(FC.tr (FC.rf _) (FC.up fr29 (by decide) (by decide))), ⟨zs, r3, ex1, (Or.inr (⟨h4, (Or.inr (⟨h15, (Or.inl ⟨h25, r28, ex26, ⟨c26, d26⟩, u30, ex29, ⟨fr29, pz29, rs29⟩, rfl⟩)⟩))⟩))⟩, (show (v.1 0 337).toInt ≤ (u30.1 0 337).toInt ∧ (u30.1 0 337).toInt ≤ (v.1 0 337).toInt + 8 from (om_59cf375d92 pz29)), (RS.tr RS.rf rs29)⟩, by rw [ht9]; exact hP, hD⟩, hS.F ht9⟩) hS.2.2 dX0_layPlace_197
      ·
        by_cases h32 : pa = 8
        · refine lv_tableIn (off := 113) (tgt := 121) hx hb dX0_layPlace_8 (by rw [h32]; decide) (by rw [h32]; decide) (by rw [h32]; decide) (by decide) ?_
          refine lv_aload_n hx hb dX0_layPlace_121 rfl (lv_at hl 1 rfl) ?_
          refine lv_sipush (v := 8195) hx hb dX0_layPlace_122 (by decide) ?_
          refine lv_bipush (v := 10) hx hb dX0_layPlace_125 (by decide) ?_
          refine lv_bipush (v := 10) hx hb dX0_layPlace_127 (by decide) ?_
          refine lv_iload hx hb dX0_layPlace_129 (lv_at hl 0 rfl) ?_
          refine cu_s (nd_range _) (rn_S (n := 1) (As := [.int r3]) (rest := [.int 10, .int 10, .int 8195, .ref (ad 904)]) hx hb hml hown ht hKK hFx hP hD hS hA (c_x_X0_low l dC dI cI cB cZ cJ cR tb H.size r3 ) tw_689 tw_690 (by decide +kernel) rfl rfl ⟨Nat.le_of_ble_eq_true rfl, Nat.le_of_ble_eq_true rfl⟩ [] rfl rfl rfl hl.1 rfl (Nat.le_of_ble_eq_true rfl) dX0_layPlace_131 ⟨Nat.le_of_ble_eq_true rfl, Nat.le_of_ble_eq_true rfl⟩) hP hD hS hA (fun r35 H locs hw33 hP hD hS => ?_)
          have ex33 := hw33
          refine W.widen (k := 0) (n := 0) (Nat.le_refl _) (Nat.le_refl _) ?_
          refine cu_v (rn_Vk (n := 4) (As := [.int 8195, .int 10, .int 10, .int r35]) (rest := []) hx hb hml hown ht hKK hFx hP hD hS hA (c_x_X0_immediate l dC dI cI cB cZ cJ cR tb H.size ad pr N L1 L2 v (8195 : Int32) (10 : Int32) (10 : Int32) r35 ps (show (N : Int) ≤ 4096 from (om_1c2c49c46c zNN)) (show pr ps = ad 908 from hps) (show (v.1 0 334) = ps from es334) (show 0 ≤ (v.1 0 337).toInt ∧ (v.1 0 337).toInt + 1 ≤ 7000000 from (om_de03119a61 zs))) tw_678 tw_679 (by decide +kernel) rfl rfl ⟨Nat.le_of_ble_eq_true rfl, Nat.le_of_ble_eq_true rfl⟩ (List.range (cW ad pr N cI cR L1 L2 v).length) (rg_map _) (nd_range _) 4 rfl rfl rfl rfl hl.1 rfl (Nat.le_of_ble_eq_true rfl) dX0_layPlace_134 ⟨Nat.le_of_ble_eq_true rfl, Nat.le_of_ble_eq_true rfl⟩) hP hD hS hA (fun u37 H locs hw36 hP hD hS => ?_)
          obtain ⟨fr36, ex36, pz36, rs36⟩ := hw36
          refine W.widen (k := 0) (n := 0) (Nat.le_refl _) (Nat.le_refl _) ?_
          refine lv_goto (tgt := 197) hx hb dX0_layPlace_137 (by decide) ?_
          exact W.vret hx hb hr (fun t ht9 hW => ⟨⟨u37, rfl, ⟨(FC.tr (FC.rf _) (FC.up fr36 (by decide) (by decide))), ⟨zs, r3, ex1, (Or.inr (⟨h4, (Or.inr (⟨h15, (Or.inr (⟨h25, (Or.inl ⟨h32, r35, ex33, u37, ex36, ⟨fr36, pz36, rs36⟩, rfl⟩)⟩))⟩))⟩))⟩, (show (v.1 0 337).toInt ≤ (u37.1 0 337).toInt ∧ (u37.1 0 337).toInt ≤ (v.1 0 337).toInt + 8 from (om_52b950ac64 pz36)), (RS.tr RS.rf rs36)⟩, by rw [ht9]; exact hP, hD⟩, hS.F ht9⟩) hS.2.2 dX0_layPlace_197
        ·
          by_cases h39 : pa = 9
          · refine lv_tableIn (off := 132) (tgt := 140) hx hb dX0_layPlace_8 (by rw [h39]; decide) (by rw [h39]; decide) (by rw [h39]; decide) (by decide) ?_
            refine lv_aload_n hx hb dX0_layPlace_140 rfl (lv_at hl 1 rfl) ?_
            refine lv_bipush (v := 19) hx hb dX0_layPlace_141 (by decide) ?_
            refine lv_bipush (v := 10) hx hb dX0_layPlace_143 (by decide) ?_
            refine lv_bipush (v := 10) hx hb dX0_layPlace_145 (by decide) ?_
            refine lv_iload hx hb dX0_layPlace_147 (lv_at hl 0 rfl) ?_
            refine cu_s (nd_range _) (rn_S (n := 1) (As := [.int r3]) (rest := [.int 10, .int 10, .int 19, .ref (ad 904)]) hx hb hml hown ht hKK hFx hP hD hS hA (c_x_X0_low l dC dI cI cB cZ cJ cR tb H.size r3 ) tw_689 tw_690 (by decide +kernel) rfl rfl ⟨Nat.le_of_ble_eq_true rfl, Nat.le_of_ble_eq_true rfl⟩ [] rfl rfl rfl hl.1 rfl (Nat.le_of_ble_eq_true rfl) dX0_layPlace_149 ⟨Nat.le_of_ble_eq_true rfl, Nat.le_of_ble_eq_true rfl⟩) hP hD hS hA (fun r42 H locs hw40 hP hD hS => ?_)
            have ex40 := hw40
            refine W.widen (k := 0) (n := 0) (Nat.le_refl _) (Nat.le_refl _) ?_
            refine cu_v (rn_Vk (n := 4) (As := [.int 19, .int 10, .int 10, .int r42]) (rest := []) hx hb hml hown ht hKK hFx hP hD hS hA (c_x_X0_immediate l dC dI cI cB cZ cJ cR tb H.size ad pr N L1 L2 v (19 : Int32) (10 : Int32) (10 : Int32) r42 ps (show (N : Int) ≤ 4096 from (om_1c2c49c46c zNN)) (show pr ps = ad 908 from hps) (show (v.1 0 334) = ps from es334) (show 0 ≤ (v.1 0 337).toInt ∧ (v.1 0 337).toInt + 1 ≤ 7000000 from (om_de03119a61 zs))) tw_678 tw_679 (by decide +kernel) rfl rfl ⟨Nat.le_of_ble_eq_true rfl, Nat.le_of_ble_eq_true rfl⟩ (List.range (cW ad pr N cI cR L1 L2 v).length) (rg_map _) (nd_range _) 4 rfl rfl rfl rfl hl.1 rfl (Nat.le_of_ble_eq_true rfl) dX0_layPlace_152 ⟨Nat.le_of_ble_eq_true rfl, Nat.le_of_ble_eq_true rfl⟩) hP hD hS hA (fun u44 H locs hw43 hP hD hS => ?_)
            obtain ⟨fr43, ex43, pz43, rs43⟩ := hw43
            refine W.widen (k := 0) (n := 0) (Nat.le_refl _) (Nat.le_refl _) ?_
            refine lv_aload_n hx hb dX0_layPlace_155 rfl (lv_at hl 1 rfl) ?_
            refine lv_iload_n hx hb dX0_layPlace_156 rfl (lv_at hl 4 rfl) ?_
            refine cu_v (rn_Vk (n := 1) (As := [.int pc1]) (rest := []) hx hb hml hown ht hKK hFx hP hD hS hA (c_x_X0_storeSlot l dC dI cI cB cZ cJ cR tb H.size ad pr N L1 L2 u44 pc1 ps (show (N : Int) ≤ 4096 from (om_1c2c49c46c zNN)) (show pr ps = ad 908 from hps) (show (u44.1 0 334) = ps from (Eq.trans (fr43.2.1 334 (by decide)) es334)) (show 0 ≤ (u44.1 0 337).toInt ∧ (u44.1 0 337).toInt + 1 ≤ 7000000 from (om_6b468904bd zs pz43))) tw_714 tw_715 (by decide +kernel) rfl rfl ⟨Nat.le_of_ble_eq_true rfl, Nat.le_of_ble_eq_true rfl⟩ (List.range (cW ad pr N cI cR L1 L2 u44).length) (rg_map _) (nd_range _) 4 rfl rfl rfl rfl hl.1 rfl (Nat.le_of_ble_eq_true rfl) dX0_layPlace_157 ⟨Nat.le_of_ble_eq_true rfl, Nat.le_of_ble_eq_true rfl⟩) hP hD hS hA (fun u47 H locs hw46 hP hD hS => ?_)
            obtain ⟨fr46, ex46, pz46, rs46⟩ := hw46
            have pz46 : (u47.1 0 337).toInt = (u44.1 0 337).toInt + 1 := pz46
            have rs46 : RS u44 u47 := rs46
            refine W.widen (k := 0) (n := 0) (Nat.le_refl _) (Nat.le_refl _) ?_
            refine lv_goto (tgt := 197) hx hb dX0_layPlace_160 (by decide) ?_
            exact W.vret hx hb hr (fun t ht9 hW => ⟨⟨u47, rfl, ⟨(FC.tr (FC.tr (FC.rf _) (FC.up fr43 (by decide) (by decide))) (FC.up fr46 (by decide) (by decide))), ⟨zs, r3, ex1, (Or.inr (⟨h4, (Or.inr (⟨h15, (Or.inr (⟨h25, (Or.inr (⟨h32, (Or.inl ⟨h39, r42, ex40, u44, ex43, ⟨fr43, pz43, rs43⟩, u47, ex46, ⟨fr46, pz46, rs46⟩, rfl⟩)⟩))⟩))⟩))⟩))⟩, (show (v.1 0 337).toInt ≤ (u47.1 0 337).toInt ∧ (u47.1 0 337).toInt ≤ (v.1 0 337).toInt + 8 from (om_4ae3c475ce pz43 pz46)), (RS.tr (RS.tr RS.rf rs43) rs46)⟩, by rw [ht9]; exact hP, hD⟩, hS.F ht9⟩) hS.2.2 dX0_layPlace_197
          ·
            by_cases h49 : pa = 10
            · refine lv_tableIn (off := 155) (tgt := 163) hx hb dX0_layPlace_8 (by rw [h49]; decide) (by rw [h49]; decide) (by rw [h49]; decide) (by decide) ?_
              refine lv_aload_n hx hb dX0_layPlace_163 rfl (lv_at hl 1 rfl) ?_
              refine lv_sipush (v := 8195) hx hb dX0_layPlace_164 (by decide) ?_
              refine lv_bipush (v := 10) hx hb dX0_layPlace_167 (by decide) ?_
              refine lv_bipush (v := 10) hx hb dX0_layPlace_169 (by decide) ?_
              refine lv_iconst (v := 0) hx hb dX0_layPlace_171 (by decide) ?_
              refine cu_v (rn_Vk (n := 4) (As := [.int 8195, .int 10, .int 10, .int 0]) (rest := []) hx hb hml hown ht hKK hFx hP hD hS hA (c_x_X0_immediate l dC dI cI cB cZ cJ cR tb H.size ad pr N L1 L2 v (8195 : Int32) (10 : Int32) (10 : Int32) (0 : Int32) ps (show (N : Int) ≤ 4096 from (om_1c2c49c46c zNN)) (show pr ps = ad 908 from hps) (show (v.1 0 334) = ps from es334) (show 0 ≤ (v.1 0 337).toInt ∧ (v.1 0 337).toInt + 1 ≤ 7000000 from (om_de03119a61 zs))) tw_678 tw_679 (by decide +kernel) rfl rfl ⟨Nat.le_of_ble_eq_true rfl, Nat.le_of_ble_eq_true rfl⟩ (List.range (cW ad pr N cI cR L1 L2 v).length) (rg_map _) (nd_range _) 4 rfl rfl rfl rfl hl.1 rfl (Nat.le_of_ble_eq_true rfl) dX0_layPlace_172 ⟨Nat.le_of_ble_eq_true rfl, Nat.le_of_ble_eq_true rfl⟩) hP hD hS hA (fun u51 H locs hw50 hP hD hS => ?_)
              obtain ⟨fr50, ex50, pz50, rs50⟩ := hw50
              refine W.widen (k := 0) (n := 0) (Nat.le_refl _) (Nat.le_refl _) ?_
              refine lv_goto (tgt := 197) hx hb dX0_layPlace_175 (by decide) ?_
              exact W.vret hx hb hr (fun t ht9 hW => ⟨⟨u51, rfl, ⟨(FC.tr (FC.rf _) (FC.up fr50 (by decide) (by decide))), ⟨zs, r3, ex1, (Or.inr (⟨h4, (Or.inr (⟨h15, (Or.inr (⟨h25, (Or.inr (⟨h32, (Or.inr (⟨h39, (Or.inl ⟨h49, u51, ex50, ⟨fr50, pz50, rs50⟩, rfl⟩)⟩))⟩))⟩))⟩))⟩))⟩, (show (v.1 0 337).toInt ≤ (u51.1 0 337).toInt ∧ (u51.1 0 337).toInt ≤ (v.1 0 337).toInt + 8 from (om_52b950ac64 pz50)), (RS.tr RS.rf rs50)⟩, by rw [ht9]; exact hP, hD⟩, hS.F ht9⟩) hS.2.2 dX0_layPlace_197
            ·
              by_cases h53 : pa = 11
              · refine lv_tableIn (off := 170) (tgt := 178) hx hb dX0_layPlace_8 (by rw [h53]; decide) (by rw [h53]; decide) (by rw [h53]; decide) (by decide) ?_
                refine lv_aload_n hx hb dX0_layPlace_178 rfl (lv_at hl 1 rfl) ?_
                refine lv_bipush (v := 6) hx hb dX0_layPlace_179 (by decide) ?_
                refine lv_iload_n hx hb dX0_layPlace_181 rfl (lv_at hl 3 rfl) ?_
                refine cu_v (rn_Vk (n := 2) (As := [.int 6, .int pb]) (rest := []) hx hb hml hown ht hKK hFx hP hD hS hA (c_x_X0_loadSlot l dC dI cI cB cZ cJ cR tb H.size ad pr N L1 L2 v (6 : Int32) pb ps (show (N : Int) ≤ 4096 from (om_1c2c49c46c zNN)) (show pr ps = ad 908 from hps) (show (v.1 0 334) = ps from es334) (show 0 ≤ (v.1 0 337).toInt ∧ (v.1 0 337).toInt + 1 ≤ 7000000 from (om_de03119a61 zs))) tw_716 tw_717 (by decide +kernel) rfl rfl ⟨Nat.le_of_ble_eq_true rfl, Nat.le_of_ble_eq_true rfl⟩ (List.range (cW ad pr N cI cR L1 L2 v).length) (rg_map _) (nd_range _) 4 rfl rfl rfl rfl hl.1 rfl (Nat.le_of_ble_eq_true rfl) dX0_layPlace_182 ⟨Nat.le_of_ble_eq_true rfl, Nat.le_of_ble_eq_true rfl⟩) hP hD hS hA (fun u55 H locs hw54 hP hD hS => ?_)
                obtain ⟨fr54, ex54, pz54, rs54⟩ := hw54
                refine W.widen (k := 0) (n := 0) (Nat.le_refl _) (Nat.le_refl _) ?_
                refine lv_aload_n hx hb dX0_layPlace_185 rfl (lv_at hl 1 rfl) ?_
                refine lv_bipush (v := 10) hx hb dX0_layPlace_186 (by decide) ?_
                refine lv_iconst (v := 0) hx hb dX0_layPlace_188 (by decide) ?_
                refine lv_bipush (v := 6) hx hb dX0_layPlace_189 (by decide) ?_
                refine cu_v (rn_Vk (n := 3) (As := [.int 10, .int 0, .int 6]) (rest := []) hx hb hml hown ht hKK hFx hP hD hS hA (c_x_X0_storeWord l dC dI cI cB cZ cJ cR tb H.size ad pr N L1 L2 u55 (10 : Int32) (0 : Int32) (6 : Int32) ps (show (N : Int) ≤ 4096 from (om_1c2c49c46c zNN)) (show pr ps = ad 908 from hps) (show (u55.1 0 334) = ps from (Eq.trans (fr54.2.1 334 (by decide)) es334)) (show 0 ≤ (u55.1 0 337).toInt ∧ (u55.1 0 337).toInt + 1 ≤ 7000000 from (om_6b468904bd zs pz54))) tw_683 tw_684 (by decide +kernel) rfl rfl ⟨Nat.le_of_ble_eq_true rfl, Nat.le_of_ble_eq_true rfl⟩ (List.range (cW ad pr N cI cR L1 L2 u55).length) (rg_map _) (nd_range _) 4 rfl rfl rfl rfl hl.1 rfl (Nat.le_of_ble_eq_true rfl) dX0_layPlace_191 ⟨Nat.le_of_ble_eq_true rfl, Nat.le_of_ble_eq_true rfl⟩) hP hD hS hA (fun u58 H locs hw57 hP hD hS => ?_)
                obtain ⟨fr57, ex57, pz57, rs57⟩ := hw57
                have pz57 : (u58.1 0 337).toInt = (u55.1 0 337).toInt + 1 := pz57
                have rs57 : RS u55 u58 := rs57
                refine W.widen (k := 0) (n := 0) (Nat.le_refl _) (Nat.le_refl _) ?_
                refine lv_goto (tgt := 197) hx hb dX0_layPlace_194 (by decide) ?_
                exact W.vret hx hb hr (fun t ht9 hW => ⟨⟨u58, rfl, ⟨(FC.tr (FC.tr (FC.rf _) (FC.up fr54 (by decide) (by decide))) (FC.up fr57 (by decide) (by decide))), ⟨zs, r3, ex1, (Or.inr (⟨h4, (Or.inr (⟨h15, (Or.inr (⟨h25, (Or.inr (⟨h32, (Or.inr (⟨h39, (Or.inr (⟨h49, (Or.inl ⟨h53, u55, ex54, ⟨fr54, pz54, rs54⟩, u58, ex57, ⟨fr57, pz57, rs57⟩, rfl⟩)⟩))⟩))⟩))⟩))⟩))⟩))⟩, (show (v.1 0 337).toInt ≤ (u58.1 0 337).toInt ∧ (u58.1 0 337).toInt ≤ (v.1 0 337).toInt + 8 from (om_4ae3c475ce pz54 pz57)), (RS.tr (RS.tr RS.rf rs54) rs57)⟩, by rw [ht9]; exact hP, hD⟩, hS.F ht9⟩) hS.2.2 dX0_layPlace_197
              ·
                refine lv_tableOut (tgt := 197) hx hb dX0_layPlace_8 (by have := lv_neT h4 (a := 5) (by decide); have := lv_neT h15 (a := 6) (by decide); have := lv_neT h25 (a := 7) (by decide); have := lv_neT h32 (a := 8) (by decide); have := lv_neT h39 (a := 9) (by decide); have := lv_neT h49 (a := 10) (by decide); have := lv_neT h53 (a := 11) (by decide); omega) (by decide) ?_
                exact W.vret hx hb hr (fun t ht9 hW => ⟨⟨v, rfl, ⟨(FC.rf _), ⟨zs, r3, ex1, (Or.inr (⟨h4, (Or.inr (⟨h15, (Or.inr (⟨h25, (Or.inr (⟨h32, (Or.inr (⟨h39, (Or.inr (⟨h49, (Or.inr (⟨h53, rfl⟩))⟩))⟩))⟩))⟩))⟩))⟩))⟩, (show (v.1 0 337).toInt ≤ (v.1 0 337).toInt ∧ (v.1 0 337).toInt ≤ (v.1 0 337).toInt + 8 from om_444f3d7702), RS.rf⟩, by rw [ht9]; exact hP, hD⟩, hS.F ht9⟩) hS.2.2 dX0_layPlace_197
theorem om_98535bc042 {x0 : Int} (h0 : 0 ≤ x0 ∧ x0 + 2010 ≤ 7000000) : -2147483648 ≤ (4 : Int) * (x0) := by omega
theorem om_e6aecb80cb {x0 : Int} (h0 : 0 ≤ x0 ∧ x0 + 2010 ≤ 7000000) : (4 : Int) * (x0) < 2147483648 := by omega
theorem om_975f8fa04c {x0 : Int} : (1 : Int) ≠ 0 ∨ x0 ≤ 1000 := by omega
theorem om_8baa312307 {x0 x1 : Int} (h0 : 0 ≤ x0 ∧ x0 + 2010 ≤ 7000000) (h1 : x1 = x0) : 0 ≤ x1 ∧ x1 + 1 ≤ 7000000 := by omega
theorem om_99b730e72f {x0 x1 x2 : Int} (h0 : 0 ≤ x0 ∧ x0 + 2010 ≤ 7000000) (h1 : x1 = x0) (h2 : x2 = x1 + 1) : 0 ≤ x2 ∧ x2 + 1 ≤ 7000000 := by omega
theorem om_daac35076a {x0 x1 x2 x3 : Int} (h0 : 0 ≤ x0 ∧ x0 + 2010 ≤ 7000000) (h1 : x1 = x0) (h2 : x2 = x1 + 1) (h3 : x3 = x2 + 1) : 0 ≤ x3 ∧ x3 + 1 ≤ 7000000 := by omega
theorem om_56ef18f231 {x0 x1 x2 x3 x4 : Int} (h0 : 0 ≤ x0 ∧ x0 + 2010 ≤ 7000000) (h1 : x1 = x0) (h2 : x2 = x1 + 1) (h3 : x3 = x2 + 1) (h4 : x4 = x3 + 1) : 0 ≤ x4 ∧ x4 + 1 ≤ 7000000 := by omega
theorem om_252f2f4e4d {x0 x1 x2 x3 x4 x5 : Int} (h0 : 0 ≤ x0 ∧ x0 + 2010 ≤ 7000000) (h1 : x1 = x0) (h2 : x2 = x1 + 1) (h3 : x3 = x2 + 1) (h4 : x4 = x3 + 1) (h5 : x5 = x4 + 1) : 0 ≤ x5 ∧ x5 + 2 ≤ 7000000 := by omega
theorem om_121ada865a {x0 x1 x2 x3 x4 x5 x6 : Int} (h0 : 0 ≤ x0 ∧ x0 + 2010 ≤ 7000000) (h1 : x1 = x0) (h2 : x2 = x1 + 1) (h3 : x3 = x2 + 1) (h4 : x4 = x3 + 1) (h5 : x5 = x4 + 1) (h6 : x6 = x5 + 2) : 0 ≤ x6 ∧ x6 + 1 ≤ 7000000 := by omega
theorem om_008e99be00 {x0 x1 x2 x3 x4 x5 x6 x7 : Int} (h0 : 0 ≤ x0 ∧ x0 + 2010 ≤ 7000000) (h1 : x1 = x0) (h2 : x2 = x1 + 1) (h3 : x3 = x2 + 1) (h4 : x4 = x3 + 1) (h5 : x5 = x4 + 1) (h6 : x6 = x5 + 2) (h7 : x7 = x6 + 1) : 0 ≤ x7 ∧ x7 + 1 ≤ 7000000 := by omega
theorem om_a243bb06c1 {x0 x1 x2 x3 x4 x5 x6 x7 x8 : Int} (h0 : 0 ≤ x0 ∧ x0 + 2010 ≤ 7000000) (h1 : x1 = x0) (h2 : x2 = x1 + 1) (h3 : x3 = x2 + 1) (h4 : x4 = x3 + 1) (h5 : x5 = x4 + 1) (h6 : x6 = x5 + 2) (h7 : x7 = x6 + 1) (h8 : x8 = x7 + 1) : 0 ≤ x8 ∧ x8 + 1 ≤ 7000000 := by omega
theorem om_f3d64a281c : 0 ≤ (0 : Int) ∧ (0 : Int) ≤ 1000 := by omega
theorem om_45c63d3c88 {x0 x1 x2 x3 x4 x5 x6 x7 x8 x9 : Int} (h0 : x0 = x1) (h1 : x2 = x0 + 1) (h2 : x3 = x2 + 1) (h3 : x4 = x3 + 1) (h4 : x5 = x4 + 1) (h5 : x6 = x5 + 2) (h6 : x7 = x6 + 1) (h7 : x8 = x7 + 1) (h8 : x9 = x8 + 1) : x9 = x1 + 9 + 2 * (0 : Int) := by omega
theorem om_c83f26f7a4 {x0 x1 x2 : Int} (h0 : 0 ≤ x0 ∧ x0 ≤ 1000) (h1 : x1 = x2 + 9 + 2 * x0) : x2 ≤ x1 ∧ x1 ≤ x2 + 2010 := by omega
theorem om_594bfa55a9 {x0 : Int} (h0 : 0 ≤ x0 ∧ x0 ≤ 1000) : -2147483648 ≤ (-4 : Int) * x0 := by omega
theorem om_eebcd6feaa {x0 : Int} (h0 : 0 ≤ x0 ∧ x0 ≤ 1000) : (-4 : Int) * x0 < 2147483648 := by omega
theorem om_ce401a33d9 {x0 x1 x2 : Int} (h0 : 0 ≤ x0 ∧ x0 + 2010 ≤ 7000000) (h1 : 0 ≤ x1 ∧ x1 ≤ 1000) (h2 : x2 = x0 + 9 + 2 * x1) : 0 ≤ x2 ∧ x2 + 1 ≤ 7000000 := by omega
theorem om_6a178a6030 {x0 x1 x2 x3 x4 : Int} (h0 : 0 ≤ x0 ∧ x0 + 2010 ≤ 7000000) (h1 : 0 ≤ x1 ∧ x1 ≤ 1000) (h2 : x2 = x0 + 9 + 2 * x1) (h3 : ((0 : Int) ≠ 0 ∨ x3 ≤ 1000)) (h4 : x1 < x3) (h5 : x4 = x2 + 1) : 0 ≤ x4 ∧ x4 + 1 ≤ 7000000 := by omega
theorem om_179671e5d5 {x0 x1 x2 : Int} (h0 : 0 ≤ x0 ∧ x0 ≤ 1000) (h1 : ((0 : Int) ≠ 0 ∨ x1 ≤ 1000)) (h2 : x0 < x1) (h3 : x2 = x0 + 1) : 0 ≤ x2 ∧ x2 ≤ 1000 := by omega
theorem om_8a360dde76 {x0 x1 x2 x3 x4 x5 : Int} (h0 : x0 = x1 + 9 + 2 * x2) (h1 : x3 = x0 + 1) (h2 : x4 = x3 + 1) (h3 : x5 = x2 + 1) : x4 = x1 + 9 + 2 * x5 := by omega
theorem om_35972f02ef {x0 x1 : Int} (h0 : x0 = x1 + 1) : 1000 - x0 < 1000 - x1 := by omega
theorem om_4f94794187 {x0 x1 : Int} (h0 : ((0 : Int) ≠ 0 ∨ x0 ≤ 1000)) (h1 : x1 < x0) : 0 < 1000 - x1 := by omega
set_option maxHeartbeats 4000000 in
set_option maxRecDepth 100000 in
theorem c_x_X0_layEnter (l : Launch) (dC : Nat → ClassId) (dI : Nat → Nat → Nat) (cI cB cZ cJ cR : ClassId) (tb : Nat → Nat) (sz : Nat) (ad : Nat → Nat) (pr : Int32 → Nat) (N : Nat) (L1 L2 : List Nat) (v : MS) (pa : Int32) (ps : Int32) (zNN : (N : Int) ≤ 4096) (hL1 : L1.length = 40) (hL2 : L2.length = 60) (rp : RP v) (hps : pr ps = ad 908) (es334 : (v.1 0 334) = ps) (zs : 0 ≤ (v.1 0 337).toInt ∧ (v.1 0 337).toInt + 2010 ≤ 7000000) : Met l yX0_layEnter (Cond.code yX0_layEnter cX0_layEnter 4 none :: tw_W) ({ frames := 3, cells := 0, slots := 0, locals := 66 }) (pc_ (dC, dI) (tyS cI cB cZ cJ cR) tb (cW ad pr N cI cR L1 L2 v) sz [.ref (ad 904), .int pa]) (qv_ (dC, dI) (cW ad pr N cI cR L1 L2 v) sz (fun (u : MS) => FC [337] [0, 382] v u ∧ (Q_x_X0_layEnter L1 L2 N v pa u) ∧ ((v.1 0 337).toInt ≤ (u.1 0 337).toInt ∧ (u.1 0 337).toInt ≤ (v.1 0 337).toInt + 2010)) (fun (u : MS) => (cW ad pr N cI cR L1 L2 u))) 0 0 (va_A (cW ad pr N cI cR L1 L2 v) sz) := by
  refine Met.ofW (cc := cX0_layEnter) (maxL := 4) (ret := none) (by decide) rfl ?_
  intro p e s m args below meth c s₁ B hml hv
  obtain ⟨rfl, hsz, hP, hKK, hD0, hFx⟩ := hv
  have hK := hKK.1
  have hx := B.exec
  have hb := B.bytes
  have hr := B.returns
  have ht : ∀ w ∈ tw_W, w.before _ s = true := fun w h => atoms_spec (ws := Cond.code yX0_layEnter cX0_layEnter 4 none :: tw_W) B.pre w (List.mem_cons_of_mem _ h)
  have hown : s.vm.findClass RX0 = some m.cls := findClass_of_methodNamed B.named
  have hlocks := B.notSynchronized
  subst hsz
  unfold qv_
  have hD := hD0.self (sz := s.heap.size)
  generalize hAe : va_A (cW ad pr N cI cR L1 L2 v) s.heap.size = A at hD hFx ⊢
  have hA : ∀ q : Nat, s.heap.size ≤ q → A q := fun q h => by rw [← hAe]; exact Or.inr h
  have hS : va_S A s.heap s.heap [] := va_S.rf
  have hl := lv_entry ([.ref (ad 904), .int pa]) (n := 4) (Nat.le_of_ble_eq_true rfl)
  rw [lg_entry_eq]
  generalize (lg_sl ([.ref (ad 904), .int pa]) ++ List.replicate (4 - (lg_sl ([.ref (ad 904), .int pa])).length) Slot.unset).toArray = ls at hl ⊢
  have hl : lv_has ls 4 [(0, .ref (ad 904)), (1, .int pa)] := hl
  refine lv_aload_n hx hb dX0_layEnter_0 rfl (lv_at hl 0 rfl) ?_
  refine va_get (D := (dC, dI)) (ci := 4) (fs := oF_X0 ad pr v) (v := .ref (pr (v.1 0 334))) (C := RX0) (T := TX0) (N := 9) hx hb ht itX0 hown hK hP 4 rfl rfl 0 (by decide) (ht _ tw_674) (fun _ h9 => h9) rfl dX0_layEnter_1 ?_
  refine lv_iload_n hx hb dX0_layEnter_4 rfl (lv_at hl 1 rfl) ?_
  refine lv_iconst (v := 2) hx hb dX0_layEnter_5 (by decide) ?_
  refine W.eq (g2 := F0 m 6 ls [.int 2, .int pa, .ref (ad 908)]) (by rw [show pr (v.1 0 334) = (ad 908) from (by rw [show (v.1 0 334) = ps from es334]; exact hps)]) ?_
  refine cu_i (rn_Vk (n := 2) (As := [.int pa, .int 2]) (rest := []) hx hb hml hown ht hKK hFx hP hD hS hA (c_x_X7_functionFact l dC dI cI cB cZ cJ cR tb s.heap.size ad pr N L1 L2 v pa (2 : Int32) (show L1.length = 40 from hL1) (show L2.length = 60 from hL2) (show RP v from rp)) tw_398 tw_699 (by decide +kernel) rfl rfl ⟨Nat.le_of_ble_eq_true rfl, Nat.le_of_ble_eq_true rfl⟩ (List.range (cW ad pr N cI cR L1 L2 v).length) (rg_map _) (nd_range _) 8 rfl rfl rfl rfl hl.1 rfl (Nat.le_of_ble_eq_true rfl) dX0_layEnter_6 ⟨Nat.le_of_ble_eq_true rfl, Nat.le_of_ble_eq_true rfl⟩) hP hD hS hA (fun r3 u2 H locs hw1 hP hD hS => ?_)
  obtain ⟨rfl, ex1, c1, d1⟩ := hw1
  have c1 : ((2 : Int) ≠ 0 ∨ r3.toInt ≤ 1000) := c1
  refine W.widen (k := 0) (n := 0) (Nat.le_refl _) (Nat.le_refl _) ?_
  refine lv_istore_n (lv' := [(2, .int r3), (0, .ref (ad 904)), (1, .int pa)]) hx hb dX0_layEnter_9 rfl hl (by decide) rfl (fun ls hl => ?_)
  refine lv_aload_n hx hb dX0_layEnter_10 rfl (lv_at hl 1 rfl) ?_
  refine va_get (D := (dC, dI)) (ci := 4) (fs := oF_X0 ad pr v) (v := .ref (pr (v.1 0 334))) (C := RX0) (T := TX0) (N := 9) hx hb ht itX0 hown hK hP 4 rfl rfl 0 (by decide) (ht _ tw_674) (fun _ h9 => h9) rfl dX0_layEnter_11 ?_
  refine lv_iload_n hx hb dX0_layEnter_14 rfl (lv_at hl 2 rfl) ?_
  refine lv_iconst (v := 1) hx hb dX0_layEnter_15 (by decide) ?_
  refine lv_iconst (v := 4) hx hb dX0_layEnter_16 (by decide) ?_
  refine lv_aload_n hx hb dX0_layEnter_17 rfl (lv_at hl 1 rfl) ?_
  refine va_get (D := (dC, dI)) (ci := 4) (fs := oF_X0 ad pr v) (v := .int (v.1 0 337)) (C := RX0) (T := TX0) (N := 9) hx hb ht itX0 hown hK hP 4 rfl rfl 3 (by decide) (ht _ tw_673) (fun _ h9 => h9) rfl dX0_layEnter_18 ?_
  refine lv_imul hx hb dX0_layEnter_21 ?_
  have z4 : ((4 : Int32) * (v.1 0 337)).toInt = (4 : Int) * ((v.1 0 337).toInt) := mul_z (show (4 : Int32).toInt = (4 : Int) by decide) rfl (om_98535bc042 zs) (om_e6aecb80cb zs)
  refine W.eq (g2 := F0 m 22 ls [.int ((4 : Int32) * (v.1 0 337)), .int 1, .int pa, .ref (ad 908)]) (by rw [show pr (v.1 0 334) = (ad 908) from (by rw [show (v.1 0 334) = ps from es334]; exact hps)]) ?_
  refine cu_v (rn_Vk (n := 3) (As := [.int pa, .int 1, .int ((4 : Int32) * (v.1 0 337))]) (rest := []) hx hb hml hown ht hKK hFx hP hD hS hA (c_x_X7_changeFunction l dC dI cI cB cZ cJ cR tb H.size ad pr N L1 L2 v pa (1 : Int32) ((4 : Int32) * (v.1 0 337)) (show L1.length = 40 from hL1) (show L2.length = 60 from hL2) (show RP v from rp) (show (1 : Int) ≠ 0 ∨ ((4 : Int32) * (v.1 0 337)).toInt ≤ 1000 from om_975f8fa04c)) tw_645 tw_718 (by decide +kernel) rfl rfl ⟨Nat.le_of_ble_eq_true rfl, Nat.le_of_ble_eq_true rfl⟩ (List.range (cW ad pr N cI cR L1 L2 v).length) (rg_map _) (nd_range _) 8 rfl rfl rfl rfl hl.1 rfl (Nat.le_of_ble_eq_true rfl) dX0_layEnter_22 ⟨Nat.le_of_ble_eq_true rfl, Nat.le_of_ble_eq_true rfl⟩) hP hD hS hA (fun u6 H locs hw5 hP hD hS => ?_)
  obtain ⟨fr5, ex5⟩ := hw5
  refine W.widen (k := 0) (n := 0) (Nat.le_refl _) (Nat.le_refl _) ?_
  refine lv_aload_n hx hb dX0_layEnter_25 rfl (lv_at hl 1 rfl) ?_
  refine lv_bipush (v := 19) hx hb dX0_layEnter_26 (by decide) ?_
  refine lv_iconst (v := 2) hx hb dX0_layEnter_28 (by decide) ?_
  refine lv_iconst (v := 2) hx hb dX0_layEnter_29 (by decide) ?_
  refine lv_iload_n hx hb dX0_layEnter_30 rfl (lv_at hl 0 rfl) ?_
  refine lv_ineg hx hb dX0_layEnter_31 ?_
  have q8 : (u6.1 0 337).toInt = (v.1 0 337).toInt := congrArg Int32.toInt ((fr5.2.1 337 (by decide)).trans (show v.1 0 337 = (v.1 0 337) by rfl))
  refine cu_v (rn_Vk (n := 4) (As := [.int 19, .int 2, .int 2, .int (-r3)]) (rest := []) hx hb hml hown ht hKK hFx hP hD hS hA (c_x_X0_immediate l dC dI cI cB cZ cJ cR tb H.size ad pr N L1 L2 u6 (19 : Int32) (2 : Int32) (2 : Int32) (-r3) ps (show (N : Int) ≤ 4096 from (om_1c2c49c46c zNN)) (show pr ps = ad 908 from hps) (show (u6.1 0 334) = ps from (Eq.trans (fr5.2.1 334 (by decide)) es334)) (show 0 ≤ (u6.1 0 337).toInt ∧ (u6.1 0 337).toInt + 1 ≤ 7000000 from (om_8baa312307 zs q8))) tw_678 tw_679 (by decide +kernel) rfl rfl ⟨Nat.le_of_ble_eq_true rfl, Nat.le_of_ble_eq_true rfl⟩ (List.range (cW ad pr N cI cR L1 L2 u6).length) (rg_map _) (nd_range _) 4 rfl rfl rfl rfl hl.1 rfl (Nat.le_of_ble_eq_true rfl) dX0_layEnter_32 ⟨Nat.le_of_ble_eq_true rfl, Nat.le_of_ble_eq_true rfl⟩) hP hD hS hA (fun u10 H locs hw9 hP hD hS => ?_)
  obtain ⟨fr9, ex9, pz9, rs9⟩ := hw9
  have pz9 : (u10.1 0 337).toInt = (u6.1 0 337).toInt + 1 := pz9
  have rs9 : RS u6 u10 := rs9
  refine W.widen (k := 0) (n := 0) (Nat.le_refl _) (Nat.le_refl _) ?_
  refine lv_aload_n hx hb dX0_layEnter_35 rfl (lv_at hl 1 rfl) ?_
  refine lv_bipush (v := 6) hx hb dX0_layEnter_36 (by decide) ?_
  refine lv_aload_n hx hb dX0_layEnter_38 rfl (lv_at hl 1 rfl) ?_
  refine va_get (D := (dC, dI)) (ci := 4) (fs := oF_X0 ad pr u10) (v := .ref (pr (u10.1 0 334))) (C := RX0) (T := TX0) (N := 9) hx hb ht itX0 hown hK hP 4 rfl rfl 0 (by decide) (ht _ tw_674) (fun _ h9 => h9) rfl dX0_layEnter_39 ?_
  refine W.eq (g2 := F0 m 42 ls [.ref (ad 908), .int 6, .ref (ad 904)]) (by rw [show pr (u10.1 0 334) = (ad 908) from (by rw [show (u10.1 0 334) = ps from (Eq.trans (fr9.2.1 334 (by decide)) (Eq.trans (fr5.2.1 334 (by decide)) es334))]; exact hps)]) ?_
  refine va_get (D := (dC, dI)) (ci := 10) (fs := oF_X7 ad pr u10) (v := .int (u10.1 0 384)) (C := RX7) (T := TX7) (N := 13) hx hb ht itX7 hown hK hP 8 rfl rfl 12 (by decide) (ht _ tw_719) (fun _ h9 => h9) rfl dX0_layEnter_42 ?_
  refine cu_v (rn_Vk (n := 2) (As := [.int 6, .int (u10.1 0 384)]) (rest := []) hx hb hml hown ht hKK hFx hP hD hS hA (c_x_X0_upper l dC dI cI cB cZ cJ cR tb H.size ad pr N L1 L2 u10 (6 : Int32) (u10.1 0 384) ps (show (N : Int) ≤ 4096 from (om_1c2c49c46c zNN)) (show pr ps = ad 908 from hps) (show (u10.1 0 334) = ps from (Eq.trans (fr9.2.1 334 (by decide)) (Eq.trans (fr5.2.1 334 (by decide)) es334))) (show 0 ≤ (u10.1 0 337).toInt ∧ (u10.1 0 337).toInt + 1 ≤ 7000000 from (om_99b730e72f zs q8 pz9))) tw_687 tw_688 (by decide +kernel) rfl rfl ⟨Nat.le_of_ble_eq_true rfl, Nat.le_of_ble_eq_true rfl⟩ (List.range (cW ad pr N cI cR L1 L2 u10).length) (rg_map _) (nd_range _) 4 rfl rfl rfl rfl hl.1 rfl (Nat.le_of_ble_eq_true rfl) dX0_layEnter_45 ⟨Nat.le_of_ble_eq_true rfl, Nat.le_of_ble_eq_true rfl⟩) hP hD hS hA (fun u13 H locs hw12 hP hD hS => ?_)
  obtain ⟨fr12, ex12, pz12, rs12⟩ := hw12
  have pz12 : (u13.1 0 337).toInt = (u10.1 0 337).toInt + 1 := pz12
  have rs12 : RS u10 u13 := rs12
  refine W.widen (k := 0) (n := 0) (Nat.le_refl _) (Nat.le_refl _) ?_
  refine lv_aload_n hx hb dX0_layEnter_48 rfl (lv_at hl 1 rfl) ?_
  refine lv_bipush (v := 19) hx hb dX0_layEnter_49 (by decide) ?_
  refine lv_bipush (v := 6) hx hb dX0_layEnter_51 (by decide) ?_
  refine lv_bipush (v := 6) hx hb dX0_layEnter_53 (by decide) ?_
  refine lv_aload_n hx hb dX0_layEnter_55 rfl (lv_at hl 1 rfl) ?_
  refine va_get (D := (dC, dI)) (ci := 4) (fs := oF_X0 ad pr u13) (v := .ref (pr (u13.1 0 334))) (C := RX0) (T := TX0) (N := 9) hx hb ht itX0 hown hK hP 4 rfl rfl 0 (by decide) (ht _ tw_674) (fun _ h9 => h9) rfl dX0_layEnter_56 ?_
  refine W.eq (g2 := F0 m 59 ls [.ref (ad 908), .int 6, .int 6, .int 19, .ref (ad 904)]) (by rw [show pr (u13.1 0 334) = (ad 908) from (by rw [show (u13.1 0 334) = ps from (Eq.trans (fr12.2.1 334 (by decide)) (Eq.trans (fr9.2.1 334 (by decide)) (Eq.trans (fr5.2.1 334 (by decide)) es334)))]; exact hps)]) ?_
  refine va_get (D := (dC, dI)) (ci := 10) (fs := oF_X7 ad pr u13) (v := .int (u13.1 0 384)) (C := RX7) (T := TX7) (N := 13) hx hb ht itX7 hown hK hP 8 rfl rfl 12 (by decide) (ht _ tw_719) (fun _ h9 => h9) rfl dX0_layEnter_59 ?_
  refine cu_s (nd_range _) (rn_S (n := 1) (As := [.int (u13.1 0 384)]) (rest := [.int 6, .int 6, .int 19, .ref (ad 904)]) hx hb hml hown ht hKK hFx hP hD hS hA (c_x_X0_low l dC dI cI cB cZ cJ cR tb H.size (u13.1 0 384) ) tw_689 tw_690 (by decide +kernel) rfl rfl ⟨Nat.le_of_ble_eq_true rfl, Nat.le_of_ble_eq_true rfl⟩ [] rfl rfl rfl hl.1 rfl (Nat.le_of_ble_eq_true rfl) dX0_layEnter_62 ⟨Nat.le_of_ble_eq_true rfl, Nat.le_of_ble_eq_true rfl⟩) hP hD hS hA (fun r17 H locs hw15 hP hD hS => ?_)
  have ex15 := hw15
  refine W.widen (k := 0) (n := 0) (Nat.le_refl _) (Nat.le_refl _) ?_
  refine cu_v (rn_Vk (n := 4) (As := [.int 19, .int 6, .int 6, .int r17]) (rest := []) hx hb hml hown ht hKK hFx hP hD hS hA (c_x_X0_immediate l dC dI cI cB cZ cJ cR tb H.size ad pr N L1 L2 u13 (19 : Int32) (6 : Int32) (6 : Int32) r17 ps (show (N : Int) ≤ 4096 from (om_1c2c49c46c zNN)) (show pr ps = ad 908 from hps) (show (u13.1 0 334) = ps from (Eq.trans (fr12.2.1 334 (by decide)) (Eq.trans (fr9.2.1 334 (by decide)) (Eq.trans (fr5.2.1 334 (by decide)) es334)))) (show 0 ≤ (u13.1 0 337).toInt ∧ (u13.1 0 337).toInt + 1 ≤ 7000000 from (om_daac35076a zs q8 pz9 pz12))) tw_678 tw_679 (by decide +kernel) rfl rfl ⟨Nat.le_of_ble_eq_true rfl, Nat.le_of_ble_eq_true rfl⟩ (List.range (cW ad pr N cI cR L1 L2 u13).length) (rg_map _) (nd_range _) 4 rfl rfl rfl rfl hl.1 rfl (Nat.le_of_ble_eq_true rfl) dX0_layEnter_65 ⟨Nat.le_of_ble_eq_true rfl, Nat.le_of_ble_eq_true rfl⟩) hP hD hS hA (fun u19 H locs hw18 hP hD hS => ?_)
  obtain ⟨fr18, ex18, pz18, rs18⟩ := hw18
  have pz18 : (u19.1 0 337).toInt = (u13.1 0 337).toInt + 1 := pz18
  have rs18 : RS u13 u19 := rs18
  refine W.widen (k := 0) (n := 0) (Nat.le_refl _) (Nat.le_refl _) ?_
  refine lv_aload_n hx hb dX0_layEnter_68 rfl (lv_at hl 1 rfl) ?_
  refine lv_sipush (v := 20579) hx hb dX0_layEnter_69 (by decide) ?_
  refine lv_iconst (v := 2) hx hb dX0_layEnter_72 (by decide) ?_
  refine lv_bipush (v := 6) hx hb dX0_layEnter_73 (by decide) ?_
  refine lv_bipush (v := 12) hx hb dX0_layEnter_75 (by decide) ?_
  refine cu_v (rn_Vk (n := 4) (As := [.int 20579, .int 2, .int 6, .int 12]) (rest := []) hx hb hml hown ht hKK hFx hP hD hS hA (c_x_X0_branch l dC dI cI cB cZ cJ cR tb H.size ad pr N L1 L2 u19 (20579 : Int32) (2 : Int32) (6 : Int32) (12 : Int32) ps (show (N : Int) ≤ 4096 from (om_1c2c49c46c zNN)) (show pr ps = ad 908 from hps) (show (u19.1 0 334) = ps from (Eq.trans (fr18.2.1 334 (by decide)) (Eq.trans (fr12.2.1 334 (by decide)) (Eq.trans (fr9.2.1 334 (by decide)) (Eq.trans (fr5.2.1 334 (by decide)) es334))))) (show 0 ≤ (u19.1 0 337).toInt ∧ (u19.1 0 337).toInt + 1 ≤ 7000000 from (om_56ef18f231 zs q8 pz9 pz12 pz18))) tw_691 tw_692 (by decide +kernel) rfl rfl ⟨Nat.le_of_ble_eq_true rfl, Nat.le_of_ble_eq_true rfl⟩ (List.range (cW ad pr N cI cR L1 L2 u19).length) (rg_map _) (nd_range _) 4 rfl rfl rfl rfl hl.1 rfl (Nat.le_of_ble_eq_true rfl) dX0_layEnter_77 ⟨Nat.le_of_ble_eq_true rfl, Nat.le_of_ble_eq_true rfl⟩) hP hD hS hA (fun u22 H locs hw21 hP hD hS => ?_)
  obtain ⟨fr21, ex21, pz21, rs21⟩ := hw21
  have pz21 : (u22.1 0 337).toInt = (u19.1 0 337).toInt + 1 := pz21
  have rs21 : RS u19 u22 := rs21
  refine W.widen (k := 0) (n := 0) (Nat.le_refl _) (Nat.le_refl _) ?_
  refine lv_aload_n hx hb dX0_layEnter_80 rfl (lv_at hl 1 rfl) ?_
  refine lv_iconst (v := 1) hx hb dX0_layEnter_81 (by decide) ?_
  refine cu_v (rn_Vk (n := 1) (As := [.int 1]) (rest := []) hx hb hml hown ht hKK hFx hP hD hS hA (c_x_X0_halt l dC dI cI cB cZ cJ cR tb H.size ad pr N L1 L2 u22 (1 : Int32) ps (show (N : Int) ≤ 4096 from (om_1c2c49c46c zNN)) (show pr ps = ad 908 from hps) (show (u22.1 0 334) = ps from (Eq.trans (fr21.2.1 334 (by decide)) (Eq.trans (fr18.2.1 334 (by decide)) (Eq.trans (fr12.2.1 334 (by decide)) (Eq.trans (fr9.2.1 334 (by decide)) (Eq.trans (fr5.2.1 334 (by decide)) es334)))))) (show 0 ≤ (u22.1 0 337).toInt ∧ (u22.1 0 337).toInt + 2 ≤ 7000000 from (om_252f2f4e4d zs q8 pz9 pz12 pz18 pz21))) tw_708 tw_709 (by decide +kernel) rfl rfl ⟨Nat.le_of_ble_eq_true rfl, Nat.le_of_ble_eq_true rfl⟩ (List.range (cW ad pr N cI cR L1 L2 u22).length) (rg_map _) (nd_range _) 4 rfl rfl rfl rfl hl.1 rfl (Nat.le_of_ble_eq_true rfl) dX0_layEnter_82 ⟨Nat.le_of_ble_eq_true rfl, Nat.le_of_ble_eq_true rfl⟩) hP hD hS hA (fun u25 H locs hw24 hP hD hS => ?_)
  obtain ⟨fr24, ex24, pz24, rs24⟩ := hw24
  have pz24 : (u25.1 0 337).toInt = (u22.1 0 337).toInt + 2 := pz24
  have rs24 : RS u22 u25 := rs24
  refine W.widen (k := 0) (n := 0) (Nat.le_refl _) (Nat.le_refl _) ?_
  refine lv_aload_n hx hb dX0_layEnter_85 rfl (lv_at hl 1 rfl) ?_
  refine lv_iconst (v := 1) hx hb dX0_layEnter_86 (by decide) ?_
  refine lv_iload_n hx hb dX0_layEnter_87 rfl (lv_at hl 0 rfl) ?_
  refine lv_iconst (v := 4) hx hb dX0_layEnter_88 (by decide) ?_
  refine lv_isub hx hb dX0_layEnter_89 ?_
  refine lv_iconst (v := 2) hx hb dX0_layEnter_90 (by decide) ?_
  refine cu_v (rn_Vk (n := 3) (As := [.int 1, .int (r3 - (4 : Int32)), .int 2]) (rest := []) hx hb hml hown ht hKK hFx hP hD hS hA (c_x_X0_storeWord l dC dI cI cB cZ cJ cR tb H.size ad pr N L1 L2 u25 (1 : Int32) (r3 - (4 : Int32)) (2 : Int32) ps (show (N : Int) ≤ 4096 from (om_1c2c49c46c zNN)) (show pr ps = ad 908 from hps) (show (u25.1 0 334) = ps from (Eq.trans (fr24.2.1 334 (by decide)) (Eq.trans (fr21.2.1 334 (by decide)) (Eq.trans (fr18.2.1 334 (by decide)) (Eq.trans (fr12.2.1 334 (by decide)) (Eq.trans (fr9.2.1 334 (by decide)) (Eq.trans (fr5.2.1 334 (by decide)) es334))))))) (show 0 ≤ (u25.1 0 337).toInt ∧ (u25.1 0 337).toInt + 1 ≤ 7000000 from (om_121ada865a zs q8 pz9 pz12 pz18 pz21 pz24))) tw_683 tw_684 (by decide +kernel) rfl rfl ⟨Nat.le_of_ble_eq_true rfl, Nat.le_of_ble_eq_true rfl⟩ (List.range (cW ad pr N cI cR L1 L2 u25).length) (rg_map _) (nd_range _) 4 rfl rfl rfl rfl hl.1 rfl (Nat.le_of_ble_eq_true rfl) dX0_layEnter_91 ⟨Nat.le_of_ble_eq_true rfl, Nat.le_of_ble_eq_true rfl⟩) hP hD hS hA (fun u28 H locs hw27 hP hD hS => ?_)
  obtain ⟨fr27, ex27, pz27, rs27⟩ := hw27
  have pz27 : (u28.1 0 337).toInt = (u25.1 0 337).toInt + 1 := pz27
  have rs27 : RS u25 u28 := rs27
  refine W.widen (k := 0) (n := 0) (Nat.le_refl _) (Nat.le_refl _) ?_
  refine lv_aload_n hx hb dX0_layEnter_94 rfl (lv_at hl 1 rfl) ?_
  refine lv_bipush (v := 8) hx hb dX0_layEnter_95 (by decide) ?_
  refine lv_iload_n hx hb dX0_layEnter_97 rfl (lv_at hl 0 rfl) ?_
  refine lv_bipush (v := 8) hx hb dX0_layEnter_98 (by decide) ?_
  refine lv_isub hx hb dX0_layEnter_100 ?_
  refine lv_iconst (v := 2) hx hb dX0_layEnter_101 (by decide) ?_
  refine cu_v (rn_Vk (n := 3) (As := [.int 8, .int (r3 - (8 : Int32)), .int 2]) (rest := []) hx hb hml hown ht hKK hFx hP hD hS hA (c_x_X0_storeWord l dC dI cI cB cZ cJ cR tb H.size ad pr N L1 L2 u28 (8 : Int32) (r3 - (8 : Int32)) (2 : Int32) ps (show (N : Int) ≤ 4096 from (om_1c2c49c46c zNN)) (show pr ps = ad 908 from hps) (show (u28.1 0 334) = ps from (Eq.trans (fr27.2.1 334 (by decide)) (Eq.trans (fr24.2.1 334 (by decide)) (Eq.trans (fr21.2.1 334 (by decide)) (Eq.trans (fr18.2.1 334 (by decide)) (Eq.trans (fr12.2.1 334 (by decide)) (Eq.trans (fr9.2.1 334 (by decide)) (Eq.trans (fr5.2.1 334 (by decide)) es334)))))))) (show 0 ≤ (u28.1 0 337).toInt ∧ (u28.1 0 337).toInt + 1 ≤ 7000000 from (om_008e99be00 zs q8 pz9 pz12 pz18 pz21 pz24 pz27))) tw_683 tw_684 (by decide +kernel) rfl rfl ⟨Nat.le_of_ble_eq_true rfl, Nat.le_of_ble_eq_true rfl⟩ (List.range (cW ad pr N cI cR L1 L2 u28).length) (rg_map _) (nd_range _) 4 rfl rfl rfl rfl hl.1 rfl (Nat.le_of_ble_eq_true rfl) dX0_layEnter_102 ⟨Nat.le_of_ble_eq_true rfl, Nat.le_of_ble_eq_true rfl⟩) hP hD hS hA (fun u31 H locs hw30 hP hD hS => ?_)
  obtain ⟨fr30, ex30, pz30, rs30⟩ := hw30
  have pz30 : (u31.1 0 337).toInt = (u28.1 0 337).toInt + 1 := pz30
  have rs30 : RS u28 u31 := rs30
  refine W.widen (k := 0) (n := 0) (Nat.le_refl _) (Nat.le_refl _) ?_
  refine lv_aload_n hx hb dX0_layEnter_105 rfl (lv_at hl 1 rfl) ?_
  refine lv_bipush (v := 19) hx hb dX0_layEnter_106 (by decide) ?_
  refine lv_bipush (v := 8) hx hb dX0_layEnter_108 (by decide) ?_
  refine lv_iconst (v := 2) hx hb dX0_layEnter_110 (by decide) ?_
  refine lv_iload_n hx hb dX0_layEnter_111 rfl (lv_at hl 0 rfl) ?_
  refine cu_v (rn_Vk (n := 4) (As := [.int 19, .int 8, .int 2, .int r3]) (rest := []) hx hb hml hown ht hKK hFx hP hD hS hA (c_x_X0_immediate l dC dI cI cB cZ cJ cR tb H.size ad pr N L1 L2 u31 (19 : Int32) (8 : Int32) (2 : Int32) r3 ps (show (N : Int) ≤ 4096 from (om_1c2c49c46c zNN)) (show pr ps = ad 908 from hps) (show (u31.1 0 334) = ps from (Eq.trans (fr30.2.1 334 (by decide)) (Eq.trans (fr27.2.1 334 (by decide)) (Eq.trans (fr24.2.1 334 (by decide)) (Eq.trans (fr21.2.1 334 (by decide)) (Eq.trans (fr18.2.1 334 (by decide)) (Eq.trans (fr12.2.1 334 (by decide)) (Eq.trans (fr9.2.1 334 (by decide)) (Eq.trans (fr5.2.1 334 (by decide)) es334))))))))) (show 0 ≤ (u31.1 0 337).toInt ∧ (u31.1 0 337).toInt + 1 ≤ 7000000 from (om_a243bb06c1 zs q8 pz9 pz12 pz18 pz21 pz24 pz27 pz30))) tw_678 tw_679 (by decide +kernel) rfl rfl ⟨Nat.le_of_ble_eq_true rfl, Nat.le_of_ble_eq_true rfl⟩ (List.range (cW ad pr N cI cR L1 L2 u31).length) (rg_map _) (nd_range _) 4 rfl rfl rfl rfl hl.1 rfl (Nat.le_of_ble_eq_true rfl) dX0_layEnter_112 ⟨Nat.le_of_ble_eq_true rfl, Nat.le_of_ble_eq_true rfl⟩) hP hD hS hA (fun u34 H locs hw33 hP hD hS => ?_)
  obtain ⟨fr33, ex33, pz33, rs33⟩ := hw33
  have pz33 : (u34.1 0 337).toInt = (u31.1 0 337).toInt + 1 := pz33
  have rs33 : RS u31 u34 := rs33
  refine W.widen (k := 0) (n := 0) (Nat.le_refl _) (Nat.le_refl _) ?_
  refine lv_iconst (v := 0) hx hb dX0_layEnter_115 (by decide) ?_
  refine lv_istore_n (lv' := [(3, .int 0), (2, .int r3), (0, .ref (ad 904)), (1, .int pa)]) hx hb dX0_layEnter_116 rfl hl (by decide) rfl (fun ls hl => ?_)
  refine lpm_ (X := Int32 × MS) (P := (fun (x9 : Int32 × MS) (H : Heap) (locs : List Loc) (ls : Array Slot) => (FC [337] [0, 382] v x9.2) ∧ (0 ≤ x9.1.toInt ∧ x9.1.toInt ≤ 1000) ∧ ((x9.2.1 0 337).toInt = (v.1 0 337).toInt + 9 + 2 * x9.1.toInt) ∧ (RT (Q_x_X0_layEnter_L0 L1 L2 N v pa) (0, u34) (x9.1, x9.2)) ∧ va_P (dC, dI) vwCl (cW ad pr N cI cR L1 L2 x9.2) H ∧ va_D A (cW ad pr N cI cR L1 L2 x9.2) ∧ va_S A s.heap H locs ∧ lv_has ls 4 [(3, .int x9.1), (2, .int r3), (0, .ref (ad 904)), (1, .int pa)])) (fun x9 => (1000 - x9.1.toInt).toNat) 117 (fun x9 H locs ls hh ih117 => ?_) (0, u34) _ _ _ ⟨(show FC [337] [0, 382] v u34 from (FC.tr (FC.tr (FC.tr (FC.tr (FC.tr (FC.tr (FC.tr (FC.tr (FC.tr (FC.rf _) (FC.up fr5 (by decide) (by decide))) (FC.up fr9 (by decide) (by decide))) (FC.up fr12 (by decide) (by decide))) (FC.up fr18 (by decide) (by decide))) (FC.up fr21 (by decide) (by decide))) (FC.up fr24 (by decide) (by decide))) (FC.up fr27 (by decide) (by decide))) (FC.up fr30 (by decide) (by decide))) (FC.up fr33 (by decide) (by decide)))), (show 0 ≤ (0 : Int) ∧ (0 : Int) ≤ 1000 from om_f3d64a281c), (show (u34.1 0 337).toInt = (v.1 0 337).toInt + 9 + 2 * (0 : Int) from (om_45c63d3c88 q8 pz9 pz12 pz18 pz21 pz24 pz27 pz30 pz33)), RT.rf, hP, hD, hS, lv_sub hl [0, 1, 2, 3] rfl⟩
  obtain ⟨ka, w117⟩ := x9
  obtain ⟨fwL117, f1L117, f2L117, exL117, hP, hD, hS, hl⟩ := hh
  have fwL117 : FC [337] [0, 382] v w117 := fwL117
  have f1L117 : 0 ≤ ka.toInt ∧ ka.toInt ≤ 1000 := f1L117
  have f2L117 : (w117.1 0 337).toInt = (v.1 0 337).toInt + 9 + 2 * ka.toInt := f2L117
  have hP : va_P (dC, dI) vwCl (cW ad pr N cI cR L1 L2 w117) H := hP
  have hD : va_D A (cW ad pr N cI cR L1 L2 w117) := hD
  have hl : lv_has ls 4 [(3, .int ka), (2, .int r3), (0, .ref (ad 904)), (1, .int pa)] := hl
  refine lv_iload_n hx hb dX0_layEnter_117 rfl (lv_at hl 0 rfl) ?_
  refine lv_aload_n hx hb dX0_layEnter_118 rfl (lv_at hl 2 rfl) ?_
  refine va_get (D := (dC, dI)) (ci := 4) (fs := oF_X0 ad pr w117) (v := .ref (pr (w117.1 0 334))) (C := RX0) (T := TX0) (N := 9) hx hb ht itX0 hown hK hP 4 rfl rfl 0 (by decide) (ht _ tw_674) (fun _ h9 => h9) rfl dX0_layEnter_119 ?_
  refine lv_iload_n hx hb dX0_layEnter_122 rfl (lv_at hl 3 rfl) ?_
  refine lv_iconst (v := 0) hx hb dX0_layEnter_123 (by decide) ?_
  refine W.eq (g2 := F0 m 124 ls [.int 0, .int pa, .ref (ad 908), .int ka]) (by rw [show pr (w117.1 0 334) = (ad 908) from (by rw [show (w117.1 0 334) = ps from (Eq.trans (fwL117.2.1 334 (by decide)) es334)]; exact hps)]) ?_
  refine cu_i (rn_Vk (n := 2) (As := [.int pa, .int 0]) (rest := [.int ka]) hx hb hml hown ht hKK hFx hP hD hS hA (c_x_X7_functionFact l dC dI cI cB cZ cJ cR tb H.size ad pr N L1 L2 w117 pa (0 : Int32) (show L1.length = 40 from hL1) (show L2.length = 60 from hL2) (show RP w117 from ((show FC [337] [0, 382] v w117 from (FC.tr (FC.rf _) (FC.up fwL117 (by decide) (by decide)))).1 rp))) tw_398 tw_699 (by decide +kernel) rfl rfl ⟨Nat.le_of_ble_eq_true rfl, Nat.le_of_ble_eq_true rfl⟩ (List.range (cW ad pr N cI cR L1 L2 w117).length) (rg_map _) (nd_range _) 8 rfl rfl rfl rfl hl.1 rfl (Nat.le_of_ble_eq_true rfl) dX0_layEnter_124 ⟨Nat.le_of_ble_eq_true rfl, Nat.le_of_ble_eq_true rfl⟩) hP hD hS hA (fun r38 u37 H locs hw36 hP hD hS => ?_)
  obtain ⟨rfl, ex36, c36, d36⟩ := hw36
  have c36 : ((0 : Int) ≠ 0 ∨ r38.toInt ≤ 1000) := c36
  have d36 : (r38.toInt ≤ 2147483647) := d36
  refine W.widen (k := 0) (n := 0) (Nat.le_refl _) (Nat.le_refl _) ?_
  refine lv_icmp_ge (tgt := 162) hx hb dX0_layEnter_127 (by decide) (fun h39 => ?_) (fun h39 => ?_)
  · have z40 : r38.toInt ≤ ka.toInt := le_z rfl rfl h39
    exact W.vret hx hb hr (fun t ht9 hW => ⟨⟨w117, rfl, ⟨(FC.tr (FC.rf _) (FC.up fwL117 (by decide) (by decide))), ⟨zs, r3, ex1, ⟨c1, d1⟩, u6, ex5, fr5, u10, ex9, ⟨fr9, pz9, rs9⟩, u13, ex12, ⟨fr12, pz12, rs12⟩, r17, ex15, u19, ex18, ⟨fr18, pz18, rs18⟩, u22, ex21, ⟨fr21, pz21, rs21⟩, u25, ex24, ⟨fr24, pz24, rs24⟩, u28, ex27, ⟨fr27, pz27, rs27⟩, u31, ex30, ⟨fr30, pz30, rs30⟩, u34, ex33, ⟨fr33, pz33, rs33⟩, ka, w117, exL117, fwL117, f1L117, f2L117, r38, ex36, ⟨c36, d36⟩, z40, rfl⟩, (show (v.1 0 337).toInt ≤ (w117.1 0 337).toInt ∧ (w117.1 0 337).toInt ≤ (v.1 0 337).toInt + 2010 from (om_c83f26f7a4 f1L117 f2L117))⟩, by rw [ht9]; exact hP, hD⟩, hS.F ht9⟩) hS.2.2 dX0_layEnter_162
  · have z41 : ka.toInt < r38.toInt := nle_z rfl rfl h39
    refine lv_aload_n hx hb dX0_layEnter_130 rfl (lv_at hl 2 rfl) ?_
    refine lv_sipush (v := 8195) hx hb dX0_layEnter_131 (by decide) ?_
    refine lv_bipush (v := 6) hx hb dX0_layEnter_134 (by decide) ?_
    refine lv_iconst (v := 5) hx hb dX0_layEnter_136 (by decide) ?_
    refine lv_bipush (v := -4) hx hb dX0_layEnter_137 (by decide) ?_
    refine lv_iload_n hx hb dX0_layEnter_139 rfl (lv_at hl 0 rfl) ?_
    refine lv_imul hx hb dX0_layEnter_140 ?_
    have z42 : (((-4) : Int32) * ka).toInt = (-4 : Int) * ka.toInt := mul_z (show ((-4) : Int32).toInt = (-4 : Int) by decide) rfl (om_594bfa55a9 f1L117) (om_eebcd6feaa f1L117)
    refine cu_v (rn_Vk (n := 4) (As := [.int 8195, .int 6, .int 5, .int (((-4) : Int32) * ka)]) (rest := []) hx hb hml hown ht hKK hFx hP hD hS hA (c_x_X0_immediate l dC dI cI cB cZ cJ cR tb H.size ad pr N L1 L2 w117 (8195 : Int32) (6 : Int32) (5 : Int32) (((-4) : Int32) * ka) ps (show (N : Int) ≤ 4096 from (om_1c2c49c46c zNN)) (show pr ps = ad 908 from hps) (show (w117.1 0 334) = ps from (Eq.trans (fwL117.2.1 334 (by decide)) es334)) (show 0 ≤ (w117.1 0 337).toInt ∧ (w117.1 0 337).toInt + 1 ≤ 7000000 from (om_ce401a33d9 zs f1L117 f2L117))) tw_678 tw_679 (by decide +kernel) rfl rfl ⟨Nat.le_of_ble_eq_true rfl, Nat.le_of_ble_eq_true rfl⟩ (List.range (cW ad pr N cI cR L1 L2 w117).length) (rg_map _) (nd_range _) 4 rfl rfl rfl rfl hl.1 rfl (Nat.le_of_ble_eq_true rfl) dX0_layEnter_141 ⟨Nat.le_of_ble_eq_true rfl, Nat.le_of_ble_eq_true rfl⟩) hP hD hS hA (fun u44 H locs hw43 hP hD hS => ?_)
    obtain ⟨fr43, ex43, pz43, rs43⟩ := hw43
    have pz43 : (u44.1 0 337).toInt = (w117.1 0 337).toInt + 1 := pz43
    have rs43 : RS w117 u44 := rs43
    refine W.widen (k := 0) (n := 0) (Nat.le_refl _) (Nat.le_refl _) ?_
    refine lv_aload_n hx hb dX0_layEnter_144 rfl (lv_at hl 2 rfl) ?_
    refine lv_bipush (v := 6) hx hb dX0_layEnter_145 (by decide) ?_
    refine lv_iload_n hx hb dX0_layEnter_147 rfl (lv_at hl 0 rfl) ?_
    refine cu_s (nd_range _) (rn_S (n := 1) (As := [.int ka]) (rest := [.int 6, .ref (ad 904)]) hx hb hml hown ht hKK hFx hP hD hS hA (c_x_X0_fromFrame l dC dI cI cB cZ cJ cR tb H.size ka ) tw_681 tw_682 (by decide +kernel) rfl rfl ⟨Nat.le_of_ble_eq_true rfl, Nat.le_of_ble_eq_true rfl⟩ [] rfl rfl rfl hl.1 rfl (Nat.le_of_ble_eq_true rfl) dX0_layEnter_148 ⟨Nat.le_of_ble_eq_true rfl, Nat.le_of_ble_eq_true rfl⟩) hP hD hS hA (fun r48 H locs hw46 hP hD hS => ?_)
    have ex46 := hw46
    refine W.widen (k := 0) (n := 0) (Nat.le_refl _) (Nat.le_refl _) ?_
    refine lv_bipush (v := 8) hx hb dX0_layEnter_151 (by decide) ?_
    refine cu_v (rn_Vk (n := 3) (As := [.int 6, .int r48, .int 8]) (rest := []) hx hb hml hown ht hKK hFx hP hD hS hA (c_x_X0_storeWord l dC dI cI cB cZ cJ cR tb H.size ad pr N L1 L2 u44 (6 : Int32) r48 (8 : Int32) ps (show (N : Int) ≤ 4096 from (om_1c2c49c46c zNN)) (show pr ps = ad 908 from hps) (show (u44.1 0 334) = ps from (Eq.trans (fr43.2.1 334 (by decide)) (Eq.trans (fwL117.2.1 334 (by decide)) es334))) (show 0 ≤ (u44.1 0 337).toInt ∧ (u44.1 0 337).toInt + 1 ≤ 7000000 from (om_6a178a6030 zs f1L117 f2L117 c36 z41 pz43))) tw_683 tw_684 (by decide +kernel) rfl rfl ⟨Nat.le_of_ble_eq_true rfl, Nat.le_of_ble_eq_true rfl⟩ (List.range (cW ad pr N cI cR L1 L2 u44).length) (rg_map _) (nd_range _) 4 rfl rfl rfl rfl hl.1 rfl (Nat.le_of_ble_eq_true rfl) dX0_layEnter_153 ⟨Nat.le_of_ble_eq_true rfl, Nat.le_of_ble_eq_true rfl⟩) hP hD hS hA (fun u50 H locs hw49 hP hD hS => ?_)
    obtain ⟨fr49, ex49, pz49, rs49⟩ := hw49
    have pz49 : (u50.1 0 337).toInt = (u44.1 0 337).toInt + 1 := pz49
    have rs49 : RS u44 u50 := rs49
    refine W.widen (k := 0) (n := 0) (Nat.le_refl _) (Nat.le_refl _) ?_
    refine lv_iinc (v := (ka + (1 : Int32))) (lv' := [(3, .int (ka + (1 : Int32))), (2, .int r3), (0, .ref (ad 904)), (1, .int pa)]) hx hb dX0_layEnter_156 hl (k := 0) rfl (rfl) (by decide) rfl (fun ls hl => ?_)
    have z52 : (ka + (1 : Int32)).toInt = ka.toInt + 1 := inc_lt z41
    refine lv_goto (tgt := 117) hx hb dX0_layEnter_159 (by decide) ?_
    exact ih117 ((ka + (1 : Int32)), u50) _ _ _ (show (1000 - (ka + (1 : Int32)).toInt).toNat < (1000 - ka.toInt).toNat from tn_z (om_35972f02ef z52) (om_4f94794187 c36 z41)) ⟨(show FC [337] [0, 382] v u50 from (FC.tr (FC.tr (FC.tr (FC.rf _) (FC.up fwL117 (by decide) (by decide))) (FC.up fr43 (by decide) (by decide))) (FC.up fr49 (by decide) (by decide)))), (show 0 ≤ (ka + (1 : Int32)).toInt ∧ (ka + (1 : Int32)).toInt ≤ 1000 from (om_179671e5d5 f1L117 c36 z41 z52)), (show (u50.1 0 337).toInt = (v.1 0 337).toInt + 9 + 2 * (ka + (1 : Int32)).toInt from (om_8a360dde76 f2L117 pz43 pz49 z52)), (RT.st exL117 ⟨fwL117, f1L117, f2L117, r38, ex36, ⟨c36, d36⟩, z41, u44, ex43, ⟨fr43, pz43, rs43⟩, r48, ex46, u50, ex49, ⟨fr49, pz49, rs49⟩, rfl⟩), hP, hD, hS, lv_sub hl [0, 1, 2, 3] rfl⟩
