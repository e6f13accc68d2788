theorem dX13_byNumber_0 : decode cX13_byNumber 0 = .ok (.iload_n 1, 1) := by decide +kernel
theorem dX13_byNumber_1 : decode cX13_byNumber 1 = .ok (.bipush 20, 2) := by decide +kernel
theorem dX13_byNumber_3 : decode cX13_byNumber 3 = .ok (.ishr, 1) := by decide +kernel
theorem dX13_byNumber_4 : decode cX13_byNumber 4 = .ok (.istore 5, 2) := by decide +kernel
theorem dX13_byNumber_6 : decode cX13_byNumber 6 = .ok (.iload 5, 2) := by decide +kernel
theorem dX13_byNumber_8 : decode cX13_byNumber 8 = .ok (.bipush 31, 2) := by decide +kernel
theorem dX13_byNumber_10 : decode cX13_byNumber 10 = .ok (.iand, 1) := by decide +kernel
theorem dX13_byNumber_11 : decode cX13_byNumber 11 = .ok (.istore 6, 2) := by decide +kernel
theorem dX13_byNumber_13 : decode cX13_byNumber 13 = .ok (.iload_n 1, 1) := by decide +kernel
theorem dX13_byNumber_14 : decode cX13_byNumber 14 = .ok (.bipush 25, 2) := by decide +kernel
theorem dX13_byNumber_16 : decode cX13_byNumber 16 = .ok (.iushr, 1) := by decide +kernel
theorem dX13_byNumber_17 : decode cX13_byNumber 17 = .ok (.istore 7, 2) := by decide +kernel
theorem dX13_byNumber_19 : decode cX13_byNumber 19 = .ok (.iload_n 3, 1) := by decide +kernel
theorem dX13_byNumber_20 : decode cX13_byNumber 20 = .ok (.tableswitch 180 0 7 #[48, 154, 61, 84, 115, 180, 128, 141], 48) := by decide +kernel
theorem dX13_byNumber_68 : decode cX13_byNumber 68 = .ok (.aload_n 0, 1) := by decide +kernel
theorem dX13_byNumber_69 : decode cX13_byNumber 69 = .ok (.iload_n 2, 1) := by decide +kernel
theorem dX13_byNumber_70 : decode cX13_byNumber 70 = .ok (.iload 4, 2) := by decide +kernel
theorem dX13_byNumber_72 : decode cX13_byNumber 72 = .ok (.iload 5, 2) := by decide +kernel
theorem dX13_byNumber_74 : decode cX13_byNumber 74 = .ok (.iadd, 1) := by decide +kernel
theorem dX13_byNumber_75 : decode cX13_byNumber 75 = .ok (.invokevirtual 659, 3) := by decide +kernel
theorem dX13_byNumber_78 : decode cX13_byNumber 78 = .ok (.goto 165, 3) := by decide +kernel
theorem dX13_byNumber_243 : decode cX13_byNumber 243 = .ok (.return_, 1) := by decide +kernel
theorem dX13_byNumber_174 : decode cX13_byNumber 174 = .ok (.iload 7, 2) := by decide +kernel
theorem dX13_byNumber_176 : decode cX13_byNumber 176 = .ok (.ifCond .eq 11, 3) := by decide +kernel
theorem dX13_byNumber_187 : decode cX13_byNumber 187 = .ok (.aload_n 0, 1) := by decide +kernel
theorem dX13_byNumber_188 : decode cX13_byNumber 188 = .ok (.iload_n 2, 1) := by decide +kernel
theorem dX13_byNumber_189 : decode cX13_byNumber 189 = .ok (.iload 4, 2) := by decide +kernel
theorem dX13_byNumber_191 : decode cX13_byNumber 191 = .ok (.iload 6, 2) := by decide +kernel
theorem dX13_byNumber_193 : decode cX13_byNumber 193 = .ok (.ishl, 1) := by decide +kernel
theorem dX13_byNumber_194 : decode cX13_byNumber 194 = .ok (.invokevirtual 659, 3) := by decide +kernel
theorem dX13_byNumber_197 : decode cX13_byNumber 197 = .ok (.goto 46, 3) := by decide +kernel
theorem dX13_byNumber_179 : decode cX13_byNumber 179 = .ok (.aload_n 0, 1) := by decide +kernel
theorem dX13_byNumber_180 : decode cX13_byNumber 180 = .ok (.iconst 2, 1) := by decide +kernel
theorem dX13_byNumber_181 : decode cX13_byNumber 181 = .ok (.putfield 636, 3) := by decide +kernel
theorem dX13_byNumber_184 : decode cX13_byNumber 184 = .ok (.goto 59, 3) := by decide +kernel
theorem dX13_byNumber_81 : decode cX13_byNumber 81 = .ok (.aload_n 0, 1) := by decide +kernel
theorem dX13_byNumber_82 : decode cX13_byNumber 82 = .ok (.iload_n 2, 1) := by decide +kernel
theorem dX13_byNumber_83 : decode cX13_byNumber 83 = .ok (.iload 4, 2) := by decide +kernel
theorem dX13_byNumber_85 : decode cX13_byNumber 85 = .ok (.iload 5, 2) := by decide +kernel
theorem dX13_byNumber_87 : decode cX13_byNumber 87 = .ok (.if_icmp .ge 7, 3) := by decide +kernel
theorem dX13_byNumber_94 : decode cX13_byNumber 94 = .ok (.iconst 0, 1) := by decide +kernel
theorem dX13_byNumber_95 : decode cX13_byNumber 95 = .ok (.invokestatic 699, 3) := by decide +kernel
theorem tw_222 : (.code yX13_less cX13_less 1 (some .int) : Cond) ∈ tw_W := tw_in (t8_12 (List.mem_of_getElem? (i := 145) rfl)) rfl
theorem tw_223 : ∀ w ∈ ([.methodLink RX13 699 yX13_less, .static yX13_less, .initialized yX13_less.cls] : List Cond), w ∈ tw_W := al_c (tw_in (t8_12 (List.mem_of_getElem? (i := 143) rfl)) rfl) (al_c (tw_in (t8_12 (List.mem_of_getElem? (i := 144) rfl)) rfl) (al_c (tw_in (t8_1 (List.mem_of_getElem? (i := 23) rfl)) rfl) al_n))
theorem dX13_byNumber_98 : decode cX13_byNumber 98 = .ok (.invokevirtual 659, 3) := by decide +kernel
theorem dX13_byNumber_101 : decode cX13_byNumber 101 = .ok (.goto 142, 3) := by decide +kernel
theorem dX13_byNumber_90 : decode cX13_byNumber 90 = .ok (.iconst 1, 1) := by decide +kernel
theorem dX13_byNumber_91 : decode cX13_byNumber 91 = .ok (.goto 4, 3) := by decide +kernel
theorem dX13_byNumber_104 : decode cX13_byNumber 104 = .ok (.aload_n 0, 1) := by decide +kernel
theorem dX13_byNumber_105 : decode cX13_byNumber 105 = .ok (.iload_n 2, 1) := by decide +kernel
theorem dX13_byNumber_106 : decode cX13_byNumber 106 = .ok (.iload 4, 2) := by decide +kernel
theorem dX13_byNumber_108 : decode cX13_byNumber 108 = .ok (.ldc_w 689, 3) := by decide +kernel
theorem dX13_byNumber_111 : decode cX13_byNumber 111 = .ok (.iadd, 1) := by decide +kernel
theorem dX13_byNumber_112 : decode cX13_byNumber 112 = .ok (.iload 5, 2) := by decide +kernel
theorem dX13_byNumber_114 : decode cX13_byNumber 114 = .ok (.ldc_w 689, 3) := by decide +kernel
theorem dX13_byNumber_117 : decode cX13_byNumber 117 = .ok (.iadd, 1) := by decide +kernel
theorem dX13_byNumber_118 : decode cX13_byNumber 118 = .ok (.if_icmp .ge 7, 3) := by decide +kernel
theorem dX13_byNumber_125 : decode cX13_byNumber 125 = .ok (.iconst 0, 1) := by decide +kernel
theorem dX13_byNumber_126 : decode cX13_byNumber 126 = .ok (.invokestatic 699, 3) := by decide +kernel
theorem dX13_byNumber_129 : decode cX13_byNumber 129 = .ok (.invokevirtual 659, 3) := by decide +kernel
theorem dX13_byNumber_132 : decode cX13_byNumber 132 = .ok (.goto 111, 3) := by decide +kernel
theorem dX13_byNumber_121 : decode cX13_byNumber 121 = .ok (.iconst 1, 1) := by decide +kernel
theorem dX13_byNumber_122 : decode cX13_byNumber 122 = .ok (.goto 4, 3) := by decide +kernel
theorem dX13_byNumber_135 : decode cX13_byNumber 135 = .ok (.aload_n 0, 1) := by decide +kernel
theorem dX13_byNumber_136 : decode cX13_byNumber 136 = .ok (.iload_n 2, 1) := by decide +kernel
theorem dX13_byNumber_137 : decode cX13_byNumber 137 = .ok (.iload 4, 2) := by decide +kernel
theorem dX13_byNumber_139 : decode cX13_byNumber 139 = .ok (.iload 5, 2) := by decide +kernel
theorem dX13_byNumber_141 : decode cX13_byNumber 141 = .ok (.ixor, 1) := by decide +kernel
theorem dX13_byNumber_142 : decode cX13_byNumber 142 = .ok (.invokevirtual 659, 3) := by decide +kernel
theorem dX13_byNumber_145 : decode cX13_byNumber 145 = .ok (.goto 98, 3) := by decide +kernel
theorem dX13_byNumber_200 : decode cX13_byNumber 200 = .ok (.iload 7, 2) := by decide +kernel
theorem dX13_byNumber_202 : decode cX13_byNumber 202 = .ok (.ifCond .eq 18, 3) := by decide +kernel
theorem dX13_byNumber_220 : decode cX13_byNumber 220 = .ok (.aload_n 0, 1) := by decide +kernel
theorem dX13_byNumber_221 : decode cX13_byNumber 221 = .ok (.iload_n 2, 1) := by decide +kernel
theorem dX13_byNumber_222 : decode cX13_byNumber 222 = .ok (.iload 7, 2) := by decide +kernel
theorem dX13_byNumber_224 : decode cX13_byNumber 224 = .ok (.ifCond .ne 11, 3) := by decide +kernel
theorem dX13_byNumber_227 : decode cX13_byNumber 227 = .ok (.iload 4, 2) := by decide +kernel
theorem dX13_byNumber_229 : decode cX13_byNumber 229 = .ok (.iload 6, 2) := by decide +kernel
theorem dX13_byNumber_231 : decode cX13_byNumber 231 = .ok (.iushr, 1) := by decide +kernel
theorem dX13_byNumber_232 : decode cX13_byNumber 232 = .ok (.goto 8, 3) := by decide +kernel
theorem dX13_byNumber_240 : decode cX13_byNumber 240 = .ok (.invokevirtual 659, 3) := by decide +kernel
theorem dX13_byNumber_205 : decode cX13_byNumber 205 = .ok (.iload 7, 2) := by decide +kernel
theorem dX13_byNumber_207 : decode cX13_byNumber 207 = .ok (.bipush 32, 2) := by decide +kernel
theorem dX13_byNumber_209 : decode cX13_byNumber 209 = .ok (.if_icmp .eq 11, 3) := by decide +kernel
theorem dX13_byNumber_235 : decode cX13_byNumber 235 = .ok (.iload 4, 2) := by decide +kernel
theorem dX13_byNumber_237 : decode cX13_byNumber 237 = .ok (.iload 6, 2) := by decide +kernel
theorem dX13_byNumber_239 : decode cX13_byNumber 239 = .ok (.ishr, 1) := by decide +kernel
theorem dX13_byNumber_212 : decode cX13_byNumber 212 = .ok (.aload_n 0, 1) := by decide +kernel
theorem dX13_byNumber_213 : decode cX13_byNumber 213 = .ok (.iconst 2, 1) := by decide +kernel
theorem dX13_byNumber_214 : decode cX13_byNumber 214 = .ok (.putfield 636, 3) := by decide +kernel
theorem dX13_byNumber_217 : decode cX13_byNumber 217 = .ok (.goto 26, 3) := by decide +kernel
theorem dX13_byNumber_148 : decode cX13_byNumber 148 = .ok (.aload_n 0, 1) := by decide +kernel
theorem dX13_byNumber_149 : decode cX13_byNumber 149 = .ok (.iload_n 2, 1) := by decide +kernel
theorem dX13_byNumber_150 : decode cX13_byNumber 150 = .ok (.iload 4, 2) := by decide +kernel
theorem dX13_byNumber_152 : decode cX13_byNumber 152 = .ok (.iload 5, 2) := by decide +kernel
theorem dX13_byNumber_154 : decode cX13_byNumber 154 = .ok (.ior, 1) := by decide +kernel
theorem dX13_byNumber_155 : decode cX13_byNumber 155 = .ok (.invokevirtual 659, 3) := by decide +kernel
theorem dX13_byNumber_158 : decode cX13_byNumber 158 = .ok (.goto 85, 3) := by decide +kernel
theorem dX13_byNumber_161 : decode cX13_byNumber 161 = .ok (.aload_n 0, 1) := by decide +kernel
theorem dX13_byNumber_162 : decode cX13_byNumber 162 = .ok (.iload_n 2, 1) := by decide +kernel
theorem dX13_byNumber_163 : decode cX13_byNumber 163 = .ok (.iload 4, 2) := by decide +kernel
theorem dX13_byNumber_165 : decode cX13_byNumber 165 = .ok (.iload 5, 2) := by decide +kernel
theorem dX13_byNumber_167 : decode cX13_byNumber 167 = .ok (.iand, 1) := by decide +kernel
theorem dX13_byNumber_168 : decode cX13_byNumber 168 = .ok (.invokevirtual 659, 3) := by decide +kernel
theorem dX13_byNumber_171 : decode cX13_byNumber 171 = .ok (.goto 72, 3) := by decide +kernel
theorem dX13_byRegister_0 : decode cX13_byRegister 0 = .ok (.iload_n 1, 1) := by decide +kernel
theorem dX13_byRegister_1 : decode cX13_byRegister 1 = .ok (.bipush 25, 2) := by decide +kernel
theorem dX13_byRegister_3 : decode cX13_byRegister 3 = .ok (.iushr, 1) := by decide +kernel
theorem dX13_byRegister_4 : decode cX13_byRegister 4 = .ok (.istore 6, 2) := by decide +kernel
theorem dX13_byRegister_6 : decode cX13_byRegister 6 = .ok (.iload 6, 2) := by decide +kernel
theorem dX13_byRegister_8 : decode cX13_byRegister 8 = .ok (.bipush 32, 2) := by decide +kernel
theorem dX13_byRegister_10 : decode cX13_byRegister 10 = .ok (.if_icmp .ne 16, 3) := by decide +kernel
theorem dX13_byRegister_26 : decode cX13_byRegister 26 = .ok (.iconst 0, 1) := by decide +kernel
theorem dX13_byRegister_27 : decode cX13_byRegister 27 = .ok (.istore 7, 2) := by decide +kernel
theorem dX13_byRegister_29 : decode cX13_byRegister 29 = .ok (.iload 6, 2) := by decide +kernel
theorem dX13_byRegister_31 : decode cX13_byRegister 31 = .ok (.ifCond .eq 14, 3) := by decide +kernel
theorem dX13_byRegister_45 : decode cX13_byRegister 45 = .ok (.iload_n 3, 1) := by decide +kernel
theorem dX13_byRegister_46 : decode cX13_byRegister 46 = .ok (.tableswitch 196 0 6 #[42, 68, 84, 107, 138, 151, 183], 42) := by decide +kernel
theorem dX13_byRegister_88 : decode cX13_byRegister 88 = .ok (.aload_n 0, 1) := by decide +kernel
theorem dX13_byRegister_89 : decode cX13_byRegister 89 = .ok (.iload_n 2, 1) := by decide +kernel
theorem dX13_byRegister_90 : decode cX13_byRegister 90 = .ok (.iload 7, 2) := by decide +kernel
theorem dX13_byRegister_92 : decode cX13_byRegister 92 = .ok (.ifCond .eq 11, 3) := by decide +kernel
theorem dX13_byRegister_103 : decode cX13_byRegister 103 = .ok (.iload 4, 2) := by decide +kernel
theorem dX13_byRegister_105 : decode cX13_byRegister 105 = .ok (.iload 5, 2) := by decide +kernel
theorem dX13_byRegister_107 : decode cX13_byRegister 107 = .ok (.iadd, 1) := by decide +kernel
theorem dX13_byRegister_108 : decode cX13_byRegister 108 = .ok (.invokevirtual 659, 3) := by decide +kernel
theorem dX13_byRegister_111 : decode cX13_byRegister 111 = .ok (.goto 141, 3) := by decide +kernel
theorem dX13_byRegister_252 : decode cX13_byRegister 252 = .ok (.return_, 1) := by decide +kernel
theorem dX13_byRegister_114 : decode cX13_byRegister 114 = .ok (.aload_n 0, 1) := by decide +kernel
theorem dX13_byRegister_115 : decode cX13_byRegister 115 = .ok (.iload_n 2, 1) := by decide +kernel
theorem dX13_byRegister_116 : decode cX13_byRegister 116 = .ok (.iload 4, 2) := by decide +kernel
theorem dX13_byRegister_118 : decode cX13_byRegister 118 = .ok (.iload 5, 2) := by decide +kernel
theorem dX13_byRegister_120 : decode cX13_byRegister 120 = .ok (.bipush 31, 2) := by decide +kernel
theorem dX13_byRegister_122 : decode cX13_byRegister 122 = .ok (.iand, 1) := by decide +kernel
theorem dX13_byRegister_123 : decode cX13_byRegister 123 = .ok (.ishl, 1) := by decide +kernel
theorem dX13_byRegister_124 : decode cX13_byRegister 124 = .ok (.invokevirtual 659, 3) := by decide +kernel
theorem dX13_byRegister_127 : decode cX13_byRegister 127 = .ok (.goto 125, 3) := by decide +kernel
theorem dX13_byRegister_130 : decode cX13_byRegister 130 = .ok (.aload_n 0, 1) := by decide +kernel
theorem dX13_byRegister_131 : decode cX13_byRegister 131 = .ok (.iload_n 2, 1) := by decide +kernel
theorem dX13_byRegister_132 : decode cX13_byRegister 132 = .ok (.iload 4, 2) := by decide +kernel
theorem dX13_byRegister_134 : decode cX13_byRegister 134 = .ok (.iload 5, 2) := by decide +kernel
theorem dX13_byRegister_136 : decode cX13_byRegister 136 = .ok (.if_icmp .ge 7, 3) := by decide +kernel
theorem dX13_byRegister_143 : decode cX13_byRegister 143 = .ok (.iconst 0, 1) := by decide +kernel
theorem dX13_byRegister_144 : decode cX13_byRegister 144 = .ok (.invokestatic 699, 3) := by decide +kernel
theorem dX13_byRegister_147 : decode cX13_byRegister 147 = .ok (.invokevirtual 659, 3) := by decide +kernel
theorem dX13_byRegister_150 : decode cX13_byRegister 150 = .ok (.goto 102, 3) := by decide +kernel
theorem dX13_byRegister_139 : decode cX13_byRegister 139 = .ok (.iconst 1, 1) := by decide +kernel
theorem dX13_byRegister_140 : decode cX13_byRegister 140 = .ok (.goto 4, 3) := by decide +kernel
theorem dX13_byRegister_153 : decode cX13_byRegister 153 = .ok (.aload_n 0, 1) := by decide +kernel
theorem dX13_byRegister_154 : decode cX13_byRegister 154 = .ok (.iload_n 2, 1) := by decide +kernel
theorem dX13_byRegister_155 : decode cX13_byRegister 155 = .ok (.iload 4, 2) := by decide +kernel
theorem dX13_byRegister_157 : decode cX13_byRegister 157 = .ok (.ldc_w 689, 3) := by decide +kernel
theorem dX13_byRegister_160 : decode cX13_byRegister 160 = .ok (.iadd, 1) := by decide +kernel
theorem dX13_byRegister_161 : decode cX13_byRegister 161 = .ok (.iload 5, 2) := by decide +kernel
theorem dX13_byRegister_163 : decode cX13_byRegister 163 = .ok (.ldc_w 689, 3) := by decide +kernel
theorem dX13_byRegister_166 : decode cX13_byRegister 166 = .ok (.iadd, 1) := by decide +kernel
theorem dX13_byRegister_167 : decode cX13_byRegister 167 = .ok (.if_icmp .ge 7, 3) := by decide +kernel
theorem dX13_byRegister_174 : decode cX13_byRegister 174 = .ok (.iconst 0, 1) := by decide +kernel
theorem dX13_byRegister_175 : decode cX13_byRegister 175 = .ok (.invokestatic 699, 3) := by decide +kernel
theorem dX13_byRegister_178 : decode cX13_byRegister 178 = .ok (.invokevirtual 659, 3) := by decide +kernel
theorem dX13_byRegister_181 : decode cX13_byRegister 181 = .ok (.goto 71, 3) := by decide +kernel
theorem dX13_byRegister_170 : decode cX13_byRegister 170 = .ok (.iconst 1, 1) := by decide +kernel
theorem dX13_byRegister_171 : decode cX13_byRegister 171 = .ok (.goto 4, 3) := by decide +kernel
theorem dX13_byRegister_184 : decode cX13_byRegister 184 = .ok (.aload_n 0, 1) := by decide +kernel
theorem dX13_byRegister_185 : decode cX13_byRegister 185 = .ok (.iload_n 2, 1) := by decide +kernel
theorem dX13_byRegister_186 : decode cX13_byRegister 186 = .ok (.iload 4, 2) := by decide +kernel
theorem dX13_byRegister_188 : decode cX13_byRegister 188 = .ok (.iload 5, 2) := by decide +kernel
theorem dX13_byRegister_190 : decode cX13_byRegister 190 = .ok (.ixor, 1) := by decide +kernel
theorem dX13_byRegister_191 : decode cX13_byRegister 191 = .ok (.invokevirtual 659, 3) := by decide +kernel
theorem dX13_byRegister_194 : decode cX13_byRegister 194 = .ok (.goto 58, 3) := by decide +kernel
theorem dX13_byRegister_197 : decode cX13_byRegister 197 = .ok (.aload_n 0, 1) := by decide +kernel
theorem dX13_byRegister_198 : decode cX13_byRegister 198 = .ok (.iload_n 2, 1) := by decide +kernel
theorem dX13_byRegister_199 : decode cX13_byRegister 199 = .ok (.iload 7, 2) := by decide +kernel
theorem dX13_byRegister_201 : decode cX13_byRegister 201 = .ok (.ifCond .eq 14, 3) := by decide +kernel
theorem dX13_byRegister_215 : decode cX13_byRegister 215 = .ok (.iload 4, 2) := by decide +kernel
theorem dX13_byRegister_217 : decode cX13_byRegister 217 = .ok (.iload 5, 2) := by decide +kernel
theorem dX13_byRegister_219 : decode cX13_byRegister 219 = .ok (.bipush 31, 2) := by decide +kernel
theorem dX13_byRegister_221 : decode cX13_byRegister 221 = .ok (.iand, 1) := by decide +kernel
theorem dX13_byRegister_222 : decode cX13_byRegister 222 = .ok (.iushr, 1) := by decide +kernel
theorem dX13_byRegister_223 : decode cX13_byRegister 223 = .ok (.invokevirtual 659, 3) := by decide +kernel
theorem dX13_byRegister_226 : decode cX13_byRegister 226 = .ok (.goto 26, 3) := by decide +kernel
theorem dX13_byRegister_229 : decode cX13_byRegister 229 = .ok (.aload_n 0, 1) := by decide +kernel
theorem dX13_byRegister_230 : decode cX13_byRegister 230 = .ok (.iload_n 2, 1) := by decide +kernel
theorem dX13_byRegister_231 : decode cX13_byRegister 231 = .ok (.iload 4, 2) := by decide +kernel
theorem dX13_byRegister_233 : decode cX13_byRegister 233 = .ok (.iload 5, 2) := by decide +kernel
theorem dX13_byRegister_235 : decode cX13_byRegister 235 = .ok (.ior, 1) := by decide +kernel
theorem dX13_byRegister_236 : decode cX13_byRegister 236 = .ok (.invokevirtual 659, 3) := by decide +kernel
theorem dX13_byRegister_239 : decode cX13_byRegister 239 = .ok (.goto 13, 3) := by decide +kernel
theorem dX13_byRegister_242 : decode cX13_byRegister 242 = .ok (.aload_n 0, 1) := by decide +kernel
theorem dX13_byRegister_243 : decode cX13_byRegister 243 = .ok (.iload_n 2, 1) := by decide +kernel
theorem dX13_byRegister_244 : decode cX13_byRegister 244 = .ok (.iload 4, 2) := by decide +kernel
theorem dX13_byRegister_246 : decode cX13_byRegister 246 = .ok (.iload 5, 2) := by decide +kernel
theorem dX13_byRegister_248 : decode cX13_byRegister 248 = .ok (.iand, 1) := by decide +kernel
theorem dX13_byRegister_249 : decode cX13_byRegister 249 = .ok (.invokevirtual 659, 3) := by decide +kernel
theorem dX13_byRegister_34 : decode cX13_byRegister 34 = .ok (.iload 7, 2) := by decide +kernel
theorem dX13_byRegister_36 : decode cX13_byRegister 36 = .ok (.ifCond .ne 9, 3) := by decide +kernel
theorem dX13_byRegister_39 : decode cX13_byRegister 39 = .ok (.aload_n 0, 1) := by decide +kernel
theorem dX13_byRegister_40 : decode cX13_byRegister 40 = .ok (.iconst 2, 1) := by decide +kernel
theorem dX13_byRegister_41 : decode cX13_byRegister 41 = .ok (.putfield 636, 3) := by decide +kernel
theorem dX13_byRegister_44 : decode cX13_byRegister 44 = .ok (.return_, 1) := by decide +kernel
theorem dX13_byRegister_13 : decode cX13_byRegister 13 = .ok (.iload_n 3, 1) := by decide +kernel
theorem dX13_byRegister_14 : decode cX13_byRegister 14 = .ok (.ifCond .eq 8, 3) := by decide +kernel
theorem dX13_byRegister_22 : decode cX13_byRegister 22 = .ok (.iconst 1, 1) := by decide +kernel
theorem dX13_byRegister_23 : decode cX13_byRegister 23 = .ok (.goto 4, 3) := by decide +kernel
theorem dX13_byRegister_95 : decode cX13_byRegister 95 = .ok (.iload 4, 2) := by decide +kernel
theorem dX13_byRegister_97 : decode cX13_byRegister 97 = .ok (.iload 5, 2) := by decide +kernel
theorem dX13_byRegister_99 : decode cX13_byRegister 99 = .ok (.isub, 1) := by decide +kernel
theorem dX13_byRegister_100 : decode cX13_byRegister 100 = .ok (.goto 8, 3) := by decide +kernel
theorem dX13_byRegister_204 : decode cX13_byRegister 204 = .ok (.iload 4, 2) := by decide +kernel
theorem dX13_byRegister_206 : decode cX13_byRegister 206 = .ok (.iload 5, 2) := by decide +kernel
theorem dX13_byRegister_208 : decode cX13_byRegister 208 = .ok (.bipush 31, 2) := by decide +kernel
theorem dX13_byRegister_210 : decode cX13_byRegister 210 = .ok (.iand, 1) := by decide +kernel
theorem dX13_byRegister_211 : decode cX13_byRegister 211 = .ok (.ishr, 1) := by decide +kernel
theorem dX13_byRegister_212 : decode cX13_byRegister 212 = .ok (.goto 11, 3) := by decide +kernel
theorem dX13_byRegister_17 : decode cX13_byRegister 17 = .ok (.iload_n 3, 1) := by decide +kernel
theorem dX13_byRegister_18 : decode cX13_byRegister 18 = .ok (.iconst 5, 1) := by decide +kernel
theorem dX13_byRegister_19 : decode cX13_byRegister 19 = .ok (.if_icmp .ne 7, 3) := by decide +kernel
theorem om_5bc35a373d {x0 : Int} (h0 : x0 = (32 : Int)) (h1 : x0 = (0 : Int)) : False := by omega
set_option maxHeartbeats 4000000 in
set_option maxRecDepth 100000 in
theorem c_m_byNumber (l : Launch) (dC : Nat → ClassId) (dI : Nat → Nat → Nat) (cI cB cZ cJ cR : ClassId) (tb : Nat → Nat) (sz : Nat) (ad : Nat → Nat) (N : Nat) (v : MS) (pa : Int32) (pb : Int32) (pc1 : Int32) (pd : Int32) (zr : 0 ≤ pb.toInt ∧ pb.toInt < 32) : Met l yX13_byNumber (Cond.code yX13_byNumber cX13_byNumber 8 none :: tw_W) ({ frames := 1, cells := 0, slots := 0, locals := 22 }) (pc_ (dC, dI) (tyS cI cB cZ cJ cR) tb (mW ad N cI cZ cJ v) sz [.ref (ad 0), .int pa, .int pb, .int pc1, .int pd]) (qv_ (dC, dI) (mW ad N cI cZ cJ v) sz (fun (u : MS) => FG [98, 99] [0, 97] v u) (fun (u : MS) => (mW ad N cI cZ cJ u))) 0 0 (va_A (mW ad N cI cZ cJ v) sz) := by
  refine Met.ofW (cc := cX13_byNumber) (maxL := 8) (ret := none) (by decide) rfl ?_
  intro p e s m args below meth c s₁ B hml hv
  obtain ⟨rfl, hsz, hP, hKK, hD0, hFx⟩ := hv
  have hK := hKK.1
  have hx := B.exec
  have hb := B.bytes
  have hr := B.returns
  have ht : ∀ w ∈ tw_W, w.before _ s = true := fun w h => atoms_spec (ws := Cond.code yX13_byNumber cX13_byNumber 8 none :: tw_W) B.pre w (List.mem_cons_of_mem _ h)
  have hown : s.vm.findClass RX13 = some m.cls := findClass_of_methodNamed B.named
  have hlocks := B.notSynchronized
  subst hsz
  unfold qv_
  have hD := hD0.self (sz := s.heap.size)
  generalize hAe : va_A (mW ad N cI cZ cJ v) s.heap.size = A at hD hFx ⊢
  have hA : ∀ q : Nat, s.heap.size ≤ q → A q := fun q h => by rw [← hAe]; exact Or.inr h
  have hS : va_S A s.heap s.heap [] := va_S.rf
  have hl := lv_entry ([.ref (ad 0), .int pa, .int pb, .int pc1, .int pd]) (n := 8) (Nat.le_of_ble_eq_true rfl)
  rw [lg_entry_eq]
  generalize (lg_sl ([.ref (ad 0), .int pa, .int pb, .int pc1, .int pd]) ++ List.replicate (8 - (lg_sl ([.ref (ad 0), .int pa, .int pb, .int pc1, .int pd])).length) Slot.unset).toArray = ls at hl ⊢
  have hl : lv_has ls 8 [(0, .ref (ad 0)), (1, .int pa), (2, .int pb), (3, .int pc1), (4, .int pd)] := hl
  refine lv_iload_n hx hb dX13_byNumber_0 rfl (lv_at hl 1 rfl) ?_
  refine lv_bipush (v := 20) hx hb dX13_byNumber_1 (by decide) ?_
  refine lv_ishr hx hb dX13_byNumber_3 ?_
  refine lv_istore (lv' := [(5, .int (pa >>> ((20 : Int32) &&& 31))), (0, .ref (ad 0)), (1, .int pa), (2, .int pb), (3, .int pc1), (4, .int pd)]) hx hb dX13_byNumber_4 hl (by decide) rfl (fun ls hl => ?_)
  refine lv_iload hx hb dX13_byNumber_6 (lv_at hl 0 rfl) ?_
  refine lv_bipush (v := 31) hx hb dX13_byNumber_8 (by decide) ?_
  refine lv_iand hx hb dX13_byNumber_10 ?_
  refine lv_istore (lv' := [(6, .int ((pa >>> ((20 : Int32) &&& 31)) &&& (31 : Int32))), (5, .int (pa >>> ((20 : Int32) &&& 31))), (0, .ref (ad 0)), (1, .int pa), (2, .int pb), (3, .int pc1), (4, .int pd)]) hx hb dX13_byNumber_11 hl (by decide) rfl (fun ls hl => ?_)
  refine lv_iload_n hx hb dX13_byNumber_13 rfl (lv_at hl 3 rfl) ?_
  refine lv_bipush (v := 25) hx hb dX13_byNumber_14 (by decide) ?_
  refine lv_iushr hx hb dX13_byNumber_16 rfl ?_
  refine lv_istore (lv' := [(7, .int ((pa.toUInt32 >>> ((25 : Int32).toUInt32 &&& Int32.toUInt32 31)).toInt32)), (6, .int ((pa >>> ((20 : Int32) &&& 31)) &&& (31 : Int32))), (5, .int (pa >>> ((20 : Int32) &&& 31))), (0, .ref (ad 0)), (1, .int pa), (2, .int pb), (3, .int pc1), (4, .int pd)]) hx hb dX13_byNumber_17 hl (by decide) rfl (fun ls hl => ?_)
  refine lv_iload_n hx hb dX13_byNumber_19 rfl (lv_at hl 6 rfl) ?_
  by_cases h1 : pc1 = 0
  · refine lv_tableIn (off := 48) (tgt := 68) hx hb dX13_byNumber_20 (by rw [h1]; decide) (by rw [h1]; decide) (by rw [h1]; decide) (by decide) ?_
    refine lv_aload_n hx hb dX13_byNumber_68 rfl (lv_at hl 3 rfl) ?_
    refine lv_iload_n hx hb dX13_byNumber_69 rfl (lv_at hl 5 rfl) ?_
    refine lv_iload hx hb dX13_byNumber_70 (lv_at hl 7 rfl) ?_
    refine lv_iload hx hb dX13_byNumber_72 (lv_at hl 2 rfl) ?_
    refine lv_iadd hx hb dX13_byNumber_74 ?_
    refine cu_v (rn_V (n := 2) (As := [.int pb, .int (pd + (pa >>> ((20 : Int32) &&& 31)))]) (rest := []) hx hb hml hown ht hKK hFx hP hD hS hA (c_m_goes l dC dI cI cB cZ cJ cR tb s.heap.size ad N v pb (pd + (pa >>> ((20 : Int32) &&& 31))) (show 0 ≤ pb.toInt ∧ pb.toInt < 32 from (om_325f1a4150 zr))) tw_216 tw_217 (by decide +kernel) rfl rfl ⟨Nat.le_of_ble_eq_true rfl, Nat.le_of_ble_eq_true rfl⟩ (List.range (mW ad N cI cZ cJ v).length) (rg_map _) (mW_nd _ _ _ _ _ _) rfl rfl rfl rfl hl.1 rfl (Nat.le_of_ble_eq_true rfl) dX13_byNumber_75 ⟨Nat.le_of_ble_eq_true rfl, Nat.le_of_ble_eq_true rfl⟩) hP hD hS hA (fun u3 H locs hw2 hP hD hS => ?_)
    have fr2 := hw2
    refine W.widen (k := 0) (n := 0) (Nat.le_refl _) (Nat.le_refl _) ?_
    refine lv_goto (tgt := 243) hx hb dX13_byNumber_78 (by decide) ?_
    exact W.vret hx hb hr (fun t ht9 hW => ⟨⟨u3, rfl, (FG.tr (FG.rf _) (FG.up fr2 (by decide) (by decide))), by rw [ht9]; exact hP, hD⟩, hS.F ht9⟩) hS.2.2 dX13_byNumber_243
  ·
    by_cases h5 : pc1 = 1
    · refine lv_tableIn (off := 154) (tgt := 174) hx hb dX13_byNumber_20 (by rw [h5]; decide) (by rw [h5]; decide) (by rw [h5]; decide) (by decide) ?_
      refine lv_iload hx hb dX13_byNumber_174 (lv_at hl 0 rfl) ?_
      refine lv_if_eq (tgt := 187) hx hb dX13_byNumber_176 (by decide) (fun h6 => ?_) (fun h6 => ?_)
      · have z7 : ((pa.toUInt32 >>> ((25 : Int32).toUInt32 &&& Int32.toUInt32 31)).toInt32).toInt = (0 : Int) := eq_z rfl (show (0 : Int32).toInt = (0 : Int) by decide) h6
        refine lv_aload_n hx hb dX13_byNumber_187 rfl (lv_at hl 3 rfl) ?_
        refine lv_iload_n hx hb dX13_byNumber_188 rfl (lv_at hl 5 rfl) ?_
        refine lv_iload hx hb dX13_byNumber_189 (lv_at hl 7 rfl) ?_
        refine lv_iload hx hb dX13_byNumber_191 (lv_at hl 1 rfl) ?_
        refine lv_ishl hx hb dX13_byNumber_193 ?_
        refine cu_v (rn_V (n := 2) (As := [.int pb, .int (pd <<< (((pa >>> ((20 : Int32) &&& 31)) &&& (31 : Int32)) &&& 31))]) (rest := []) hx hb hml hown ht hKK hFx hP hD hS hA (c_m_goes l dC dI cI cB cZ cJ cR tb s.heap.size ad N v pb (pd <<< (((pa >>> ((20 : Int32) &&& 31)) &&& (31 : Int32)) &&& 31)) (show 0 ≤ pb.toInt ∧ pb.toInt < 32 from (om_325f1a4150 zr))) tw_216 tw_217 (by decide +kernel) rfl rfl ⟨Nat.le_of_ble_eq_true rfl, Nat.le_of_ble_eq_true rfl⟩ (List.range (mW ad N cI cZ cJ v).length) (rg_map _) (mW_nd _ _ _ _ _ _) rfl rfl rfl rfl hl.1 rfl (Nat.le_of_ble_eq_true rfl) dX13_byNumber_194 ⟨Nat.le_of_ble_eq_true rfl, Nat.le_of_ble_eq_true rfl⟩) hP hD hS hA (fun u10 H locs hw8 hP hD hS => ?_)
        have fr8 := hw8
        refine W.widen (k := 0) (n := 0) (Nat.le_refl _) (Nat.le_refl _) ?_
        refine lv_goto (tgt := 243) hx hb dX13_byNumber_197 (by decide) ?_
        exact W.vret hx hb hr (fun t ht9 hW => ⟨⟨u10, rfl, (FG.tr (FG.rf _) (FG.up fr8 (by decide) (by decide))), by rw [ht9]; exact hP, hD⟩, hS.F ht9⟩) hS.2.2 dX13_byNumber_243
      · have z12 : ((pa.toUInt32 >>> ((25 : Int32).toUInt32 &&& Int32.toUInt32 31)).toInt32).toInt ≠ (0 : Int) := ne_z rfl (show (0 : Int32).toInt = (0 : Int) by decide) h6
        refine lv_aload_n hx hb dX13_byNumber_179 rfl (lv_at hl 3 rfl) ?_
        refine lv_iconst (v := 2) hx hb dX13_byNumber_180 (by decide) ?_
        refine va_put (D := (dC, dI)) (ci := 16) (fs := mF ad v) (v := .int 2) (ty := .int) (C := RX13) (T := TX13) (N := 124) hx hb ht itX13 tyX13 tyX13_ok nmX13 hown hK hP hD hS 0 rfl rfl 99 (by decide) (ht _ tw_210) (fun _ h9 => h9) rfl (by decide +kernel) rfl rfl (Nat.le_of_ble_eq_true rfl) dX13_byNumber_181 (fun H locs hP hD hS => ?_)
        have hP := cP_ (mw_99 ad N cI cZ cJ v 2) hP
        have hD := cD_ (mw_99 ad N cI cZ cJ v 2) hD
        refine lv_goto (tgt := 243) hx hb dX13_byNumber_184 (by decide) ?_
        exact W.vret hx hb hr (fun t ht9 hW => ⟨⟨(wA v 0 99 2), rfl, (FG.f (FG.rf _) 2 (by decide)), by rw [ht9]; exact hP, hD⟩, hS.F ht9⟩) hS.2.2 dX13_byNumber_243
    ·
      by_cases h13 : pc1 = 2
      · refine lv_tableIn (off := 61) (tgt := 81) hx hb dX13_byNumber_20 (by rw [h13]; decide) (by rw [h13]; decide) (by rw [h13]; decide) (by decide) ?_
        refine lv_aload_n hx hb dX13_byNumber_81 rfl (lv_at hl 3 rfl) ?_
        refine lv_iload_n hx hb dX13_byNumber_82 rfl (lv_at hl 5 rfl) ?_
        refine lv_iload hx hb dX13_byNumber_83 (lv_at hl 7 rfl) ?_
        refine lv_iload hx hb dX13_byNumber_85 (lv_at hl 2 rfl) ?_
        refine lv_icmp_ge (tgt := 94) hx hb dX13_byNumber_87 (by decide) (fun h14 => ?_) (fun h14 => ?_)
        · have z15 : (pa >>> ((20 : Int32) &&& 31)).toInt ≤ pd.toInt := le_z rfl rfl h14
          refine lv_iconst (v := 0) hx hb dX13_byNumber_94 (by decide) ?_
          refine cu_s (mW_nd _ _ _ _ _ _) (rn_S (n := 1) (As := [.int 0]) (rest := [.int pb, .ref (ad 0)]) hx hb hml hown ht hKK hFx hP hD hS hA (c_m_less l dC dI cI cB cZ cJ cR tb s.heap.size (0 : Int32) ) tw_222 tw_223 (by decide +kernel) rfl rfl ⟨Nat.le_of_ble_eq_true rfl, Nat.le_of_ble_eq_true rfl⟩ [] rfl rfl rfl hl.1 rfl (Nat.le_of_ble_eq_true rfl) dX13_byNumber_95 ⟨Nat.le_of_ble_eq_true rfl, Nat.le_of_ble_eq_true rfl⟩) hP hD hS hA (fun r18 H locs hw16 hP hD hS => ?_)
          have ex16 := hw16
          refine W.widen (k := 0) (n := 0) (Nat.le_refl _) (Nat.le_refl _) ?_
          refine cu_v (rn_V (n := 2) (As := [.int pb, .int r18]) (rest := []) hx hb hml hown ht hKK hFx hP hD hS hA (c_m_goes l dC dI cI cB cZ cJ cR tb H.size ad N v pb r18 (show 0 ≤ pb.toInt ∧ pb.toInt < 32 from (om_325f1a4150 zr))) tw_216 tw_217 (by decide +kernel) rfl rfl ⟨Nat.le_of_ble_eq_true rfl, Nat.le_of_ble_eq_true rfl⟩ (List.range (mW ad N cI cZ cJ v).length) (rg_map _) (mW_nd _ _ _ _ _ _) rfl rfl rfl rfl hl.1 rfl (Nat.le_of_ble_eq_true rfl) dX13_byNumber_98 ⟨Nat.le_of_ble_eq_true rfl, Nat.le_of_ble_eq_true rfl⟩) hP hD hS hA (fun u20 H locs hw19 hP hD hS => ?_)
          have fr19 := hw19
          refine W.widen (k := 0) (n := 0) (Nat.le_refl _) (Nat.le_refl _) ?_
          refine lv_goto (tgt := 243) hx hb dX13_byNumber_101 (by decide) ?_
          exact W.vret hx hb hr (fun t ht9 hW => ⟨⟨u20, rfl, (FG.tr (FG.rf _) (FG.up fr19 (by decide) (by decide))), by rw [ht9]; exact hP, hD⟩, hS.F ht9⟩) hS.2.2 dX13_byNumber_243
        · have z22 : pd.toInt < (pa >>> ((20 : Int32) &&& 31)).toInt := nle_z rfl rfl h14
          refine lv_iconst (v := 1) hx hb dX13_byNumber_90 (by decide) ?_
          refine lv_goto (tgt := 95) hx hb dX13_byNumber_91 (by decide) ?_
          refine cu_s (mW_nd _ _ _ _ _ _) (rn_S (n := 1) (As := [.int 1]) (rest := [.int pb, .ref (ad 0)]) hx hb hml hown ht hKK hFx hP hD hS hA (c_m_less l dC dI cI cB cZ cJ cR tb s.heap.size (1 : Int32) ) tw_222 tw_223 (by decide +kernel) rfl rfl ⟨Nat.le_of_ble_eq_true rfl, Nat.le_of_ble_eq_true rfl⟩ [] rfl rfl rfl hl.1 rfl (Nat.le_of_ble_eq_true rfl) dX13_byNumber_95 ⟨Nat.le_of_ble_eq_true rfl, Nat.le_of_ble_eq_true rfl⟩) hP hD hS hA (fun r25 H locs hw23 hP hD hS => ?_)
          have ex23 := hw23
          refine W.widen (k := 0) (n := 0) (Nat.le_refl _) (Nat.le_refl _) ?_
          refine cu_v (rn_V (n := 2) (As := [.int pb, .int r25]) (rest := []) hx hb hml hown ht hKK hFx hP hD hS hA (c_m_goes l dC dI cI cB cZ cJ cR tb H.size ad N v pb r25 (show 0 ≤ pb.toInt ∧ pb.toInt < 32 from (om_325f1a4150 zr))) tw_216 tw_217 (by decide +kernel) rfl rfl ⟨Nat.le_of_ble_eq_true rfl, Nat.le_of_ble_eq_true rfl⟩ (List.range (mW ad N cI cZ cJ v).length) (rg_map _) (mW_nd _ _ _ _ _ _) rfl rfl rfl rfl hl.1 rfl (Nat.le_of_ble_eq_true rfl) dX13_byNumber_98 ⟨Nat.le_of_ble_eq_true rfl, Nat.le_of_ble_eq_true rfl⟩) hP hD hS hA (fun u27 H locs hw26 hP hD hS => ?_)
          have fr26 := hw26
          refine W.widen (k := 0) (n := 0) (Nat.le_refl _) (Nat.le_refl _) ?_
          refine lv_goto (tgt := 243) hx hb dX13_byNumber_101 (by decide) ?_
          exact W.vret hx hb hr (fun t ht9 hW => ⟨⟨u27, rfl, (FG.tr (FG.rf _) (FG.up fr26 (by decide) (by decide))), by rw [ht9]; exact hP, hD⟩, hS.F ht9⟩) hS.2.2 dX13_byNumber_243
      ·
        by_cases h29 : pc1 = 3
        · refine lv_tableIn (off := 84) (tgt := 104) hx hb dX13_byNumber_20 (by rw [h29]; decide) (by rw [h29]; decide) (by rw [h29]; decide) (by decide) ?_
          refine lv_aload_n hx hb dX13_byNumber_104 rfl (lv_at hl 3 rfl) ?_
          refine lv_iload_n hx hb dX13_byNumber_105 rfl (lv_at hl 5 rfl) ?_
          refine lv_iload hx hb dX13_byNumber_106 (lv_at hl 7 rfl) ?_
          refine lv_ldcw (v := -2147483648) hx hb hown (ht _ tw_211) dX13_byNumber_108 ?_
          refine lv_iadd hx hb dX13_byNumber_111 ?_
          refine lv_iload hx hb dX13_byNumber_112 (lv_at hl 2 rfl) ?_
          refine lv_ldcw (v := -2147483648) hx hb hown (ht _ tw_211) dX13_byNumber_114 ?_
          refine lv_iadd hx hb dX13_byNumber_117 ?_
          refine lv_icmp_ge (tgt := 125) hx hb dX13_byNumber_118 (by decide) (fun h30 => ?_) (fun h30 => ?_)
          · have z31 : ((pa >>> ((20 : Int32) &&& 31)) + ((-2147483648) : Int32)).toInt ≤ (pd + ((-2147483648) : Int32)).toInt := le_z rfl rfl h30
            refine lv_iconst (v := 0) hx hb dX13_byNumber_125 (by decide) ?_
            refine cu_s (mW_nd _ _ _ _ _ _) (rn_S (n := 1) (As := [.int 0]) (rest := [.int pb, .ref (ad 0)]) hx hb hml hown ht hKK hFx hP hD hS hA (c_m_less l dC dI cI cB cZ cJ cR tb s.heap.size (0 : Int32) ) tw_222 tw_223 (by decide +kernel) rfl rfl ⟨Nat.le_of_ble_eq_true rfl, Nat.le_of_ble_eq_true rfl⟩ [] rfl rfl rfl hl.1 rfl (Nat.le_of_ble_eq_true rfl) dX13_byNumber_126 ⟨Nat.le_of_ble_eq_true rfl, Nat.le_of_ble_eq_true rfl⟩) hP hD hS hA (fun r34 H locs hw32 hP hD hS => ?_)
            have ex32 := hw32
            refine W.widen (k := 0) (n := 0) (Nat.le_refl _) (Nat.le_refl _) ?_
            refine cu_v (rn_V (n := 2) (As := [.int pb, .int r34]) (rest := []) hx hb hml hown ht hKK hFx hP hD hS hA (c_m_goes l dC dI cI cB cZ cJ cR tb H.size ad N v pb r34 (show 0 ≤ pb.toInt ∧ pb.toInt < 32 from (om_325f1a4150 zr))) tw_216 tw_217 (by decide +kernel) rfl rfl ⟨Nat.le_of_ble_eq_true rfl, Nat.le_of_ble_eq_true rfl⟩ (List.range (mW ad N cI cZ cJ v).length) (rg_map _) (mW_nd _ _ _ _ _ _) rfl rfl rfl rfl hl.1 rfl (Nat.le_of_ble_eq_true rfl) dX13_byNumber_129 ⟨Nat.le_of_ble_eq_true rfl, Nat.le_of_ble_eq_true rfl⟩) hP hD hS hA (fun u36 H locs hw35 hP hD hS => ?_)
            have fr35 := hw35
            refine W.widen (k := 0) (n := 0) (Nat.le_refl _) (Nat.le_refl _) ?_
            refine lv_goto (tgt := 243) hx hb dX13_byNumber_132 (by decide) ?_
            exact W.vret hx hb hr (fun t ht9 hW => ⟨⟨u36, rfl, (FG.tr (FG.rf _) (FG.up fr35 (by decide) (by decide))), by rw [ht9]; exact hP, hD⟩, hS.F ht9⟩) hS.2.2 dX13_byNumber_243
          · have z38 : (pd + ((-2147483648) : Int32)).toInt < ((pa >>> ((20 : Int32) &&& 31)) + ((-2147483648) : Int32)).toInt := nle_z rfl rfl h30
            refine lv_iconst (v := 1) hx hb dX13_byNumber_121 (by decide) ?_
            refine lv_goto (tgt := 126) hx hb dX13_byNumber_122 (by decide) ?_
            refine cu_s (mW_nd _ _ _ _ _ _) (rn_S (n := 1) (As := [.int 1]) (rest := [.int pb, .ref (ad 0)]) hx hb hml hown ht hKK hFx hP hD hS hA (c_m_less l dC dI cI cB cZ cJ cR tb s.heap.size (1 : Int32) ) tw_222 tw_223 (by decide +kernel) rfl rfl ⟨Nat.le_of_ble_eq_true rfl, Nat.le_of_ble_eq_true rfl⟩ [] rfl rfl rfl hl.1 rfl (Nat.le_of_ble_eq_true rfl) dX13_byNumber_126 ⟨Nat.le_of_ble_eq_true rfl, Nat.le_of_ble_eq_true rfl⟩) hP hD hS hA (fun r41 H locs hw39 hP hD hS => ?_)
            have ex39 := hw39
            refine W.widen (k := 0) (n := 0) (Nat.le_refl _) (Nat.le_refl _) ?_
            refine cu_v (rn_V (n := 2) (As := [.int pb, .int r41]) (rest := []) hx hb hml hown ht hKK hFx hP hD hS hA (c_m_goes l dC dI cI cB cZ cJ cR tb H.size ad N v pb r41 (show 0 ≤ pb.toInt ∧ pb.toInt < 32 from (om_325f1a4150 zr))) tw_216 tw_217 (by decide +kernel) rfl rfl ⟨Nat.le_of_ble_eq_true rfl, Nat.le_of_ble_eq_true rfl⟩ (List.range (mW ad N cI cZ cJ v).length) (rg_map _) (mW_nd _ _ _ _ _ _) rfl rfl rfl rfl hl.1 rfl (Nat.le_of_ble_eq_true rfl) dX13_byNumber_129 ⟨Nat.le_of_ble_eq_true rfl, Nat.le_of_ble_eq_true rfl⟩) hP hD hS hA (fun u43 H locs hw42 hP hD hS => ?_)
            have fr42 := hw42
            refine W.widen (k := 0) (n := 0) (Nat.le_refl _) (Nat.le_refl _) ?_
            refine lv_goto (tgt := 243) hx hb dX13_byNumber_132 (by decide) ?_
            exact W.vret hx hb hr (fun t ht9 hW => ⟨⟨u43, rfl, (FG.tr (FG.rf _) (FG.up fr42 (by decide) (by decide))), by rw [ht9]; exact hP, hD⟩, hS.F ht9⟩) hS.2.2 dX13_byNumber_243
        ·
          by_cases h45 : pc1 = 4
          · refine lv_tableIn (off := 115) (tgt := 135) hx hb dX13_byNumber_20 (by rw [h45]; decide) (by rw [h45]; decide) (by rw [h45]; decide) (by decide) ?_
            refine lv_aload_n hx hb dX13_byNumber_135 rfl (lv_at hl 3 rfl) ?_
            refine lv_iload_n hx hb dX13_byNumber_136 rfl (lv_at hl 5 rfl) ?_
            refine lv_iload hx hb dX13_byNumber_137 (lv_at hl 7 rfl) ?_
            refine lv_iload hx hb dX13_byNumber_139 (lv_at hl 2 rfl) ?_
            refine lv_ixor hx hb dX13_byNumber_141 ?_
            refine cu_v (rn_V (n := 2) (As := [.int pb, .int (pd ^^^ (pa >>> ((20 : Int32) &&& 31)))]) (rest := []) hx hb hml hown ht hKK hFx hP hD hS hA (c_m_goes l dC dI cI cB cZ cJ cR tb s.heap.size ad N v pb (pd ^^^ (pa >>> ((20 : Int32) &&& 31))) (show 0 ≤ pb.toInt ∧ pb.toInt < 32 from (om_325f1a4150 zr))) tw_216 tw_217 (by decide +kernel) rfl rfl ⟨Nat.le_of_ble_eq_true rfl, Nat.le_of_ble_eq_true rfl⟩ (List.range (mW ad N cI cZ cJ v).length) (rg_map _) (mW_nd _ _ _ _ _ _) rfl rfl rfl rfl hl.1 rfl (Nat.le_of_ble_eq_true rfl) dX13_byNumber_142 ⟨Nat.le_of_ble_eq_true rfl, Nat.le_of_ble_eq_true rfl⟩) hP hD hS hA (fun u47 H locs hw46 hP hD hS => ?_)
            have fr46 := hw46
            refine W.widen (k := 0) (n := 0) (Nat.le_refl _) (Nat.le_refl _) ?_
            refine lv_goto (tgt := 243) hx hb dX13_byNumber_145 (by decide) ?_
            exact W.vret hx hb hr (fun t ht9 hW => ⟨⟨u47, rfl, (FG.tr (FG.rf _) (FG.up fr46 (by decide) (by decide))), by rw [ht9]; exact hP, hD⟩, hS.F ht9⟩) hS.2.2 dX13_byNumber_243
          ·
            by_cases h49 : pc1 = 5
            · refine lv_tableIn (off := 180) (tgt := 200) hx hb dX13_byNumber_20 (by rw [h49]; decide) (by rw [h49]; decide) (by rw [h49]; decide) (by decide) ?_
              refine lv_iload hx hb dX13_byNumber_200 (lv_at hl 0 rfl) ?_
              refine lv_if_eq (tgt := 220) hx hb dX13_byNumber_202 (by decide) (fun h50 => ?_) (fun h50 => ?_)
              · have z51 : ((pa.toUInt32 >>> ((25 : Int32).toUInt32 &&& Int32.toUInt32 31)).toInt32).toInt = (0 : Int) := eq_z rfl (show (0 : Int32).toInt = (0 : Int) by decide) h50
                refine lv_aload_n hx hb dX13_byNumber_220 rfl (lv_at hl 3 rfl) ?_
                refine lv_iload_n hx hb dX13_byNumber_221 rfl (lv_at hl 5 rfl) ?_
                refine lv_iload hx hb dX13_byNumber_222 (lv_at hl 0 rfl) ?_
                refine lv_if_ne (tgt := 235) hx hb dX13_byNumber_224 (by decide) (fun h52 => ?_) (fun h52 => ?_)
                · have z53 : ((pa.toUInt32 >>> ((25 : Int32).toUInt32 &&& Int32.toUInt32 31)).toInt32).toInt ≠ (0 : Int) := ne_z rfl (show (0 : Int32).toInt = (0 : Int) by decide) h52
                  exact False.elim (om_e92e9f8ce0 z51 z53)
                · have z54 : ((pa.toUInt32 >>> ((25 : Int32).toUInt32 &&& Int32.toUInt32 31)).toInt32).toInt = (0 : Int) := eq_z rfl (show (0 : Int32).toInt = (0 : Int) by decide) h52
                  refine lv_iload hx hb dX13_byNumber_227 (lv_at hl 7 rfl) ?_
                  refine lv_iload hx hb dX13_byNumber_229 (lv_at hl 1 rfl) ?_
                  refine lv_iushr hx hb dX13_byNumber_231 rfl ?_
                  refine lv_goto (tgt := 240) hx hb dX13_byNumber_232 (by decide) ?_
                  refine cu_v (rn_V (n := 2) (As := [.int pb, .int ((pd.toUInt32 >>> (((pa >>> ((20 : Int32) &&& 31)) &&& (31 : Int32)).toUInt32 &&& Int32.toUInt32 31)).toInt32)]) (rest := []) hx hb hml hown ht hKK hFx hP hD hS hA (c_m_goes l dC dI cI cB cZ cJ cR tb s.heap.size ad N v pb ((pd.toUInt32 >>> (((pa >>> ((20 : Int32) &&& 31)) &&& (31 : Int32)).toUInt32 &&& Int32.toUInt32 31)).toInt32) (show 0 ≤ pb.toInt ∧ pb.toInt < 32 from (om_325f1a4150 zr))) tw_216 tw_217 (by decide +kernel) rfl rfl ⟨Nat.le_of_ble_eq_true rfl, Nat.le_of_ble_eq_true rfl⟩ (List.range (mW ad N cI cZ cJ v).length) (rg_map _) (mW_nd _ _ _ _ _ _) rfl rfl rfl rfl hl.1 rfl (Nat.le_of_ble_eq_true rfl) dX13_byNumber_240 ⟨Nat.le_of_ble_eq_true rfl, Nat.le_of_ble_eq_true rfl⟩) hP hD hS hA (fun u56 H locs hw55 hP hD hS => ?_)
                  have fr55 := hw55
                  refine W.widen (k := 0) (n := 0) (Nat.le_refl _) (Nat.le_refl _) ?_
                  exact W.vret hx hb hr (fun t ht9 hW => ⟨⟨u56, rfl, (FG.tr (FG.rf _) (FG.up fr55 (by decide) (by decide))), by rw [ht9]; exact hP, hD⟩, hS.F ht9⟩) hS.2.2 dX13_byNumber_243
              · have z58 : ((pa.toUInt32 >>> ((25 : Int32).toUInt32 &&& Int32.toUInt32 31)).toInt32).toInt ≠ (0 : Int) := ne_z rfl (show (0 : Int32).toInt = (0 : Int) by decide) h50
                refine lv_iload hx hb dX13_byNumber_205 (lv_at hl 0 rfl) ?_
                refine lv_bipush (v := 32) hx hb dX13_byNumber_207 (by decide) ?_
                refine lv_icmp_eq (tgt := 220) hx hb dX13_byNumber_209 (by decide) (fun h59 => ?_) (fun h59 => ?_)
                · have z60 : ((pa.toUInt32 >>> ((25 : Int32).toUInt32 &&& Int32.toUInt32 31)).toInt32).toInt = (32 : Int) := eq_z rfl (show (32 : Int32).toInt = (32 : Int) by decide) h59
                  refine lv_aload_n hx hb dX13_byNumber_220 rfl (lv_at hl 3 rfl) ?_
                  refine lv_iload_n hx hb dX13_byNumber_221 rfl (lv_at hl 5 rfl) ?_
                  refine lv_iload hx hb dX13_byNumber_222 (lv_at hl 0 rfl) ?_
                  refine lv_if_ne (tgt := 235) hx hb dX13_byNumber_224 (by decide) (fun h61 => ?_) (fun h61 => ?_)
                  · have z62 : ((pa.toUInt32 >>> ((25 : Int32).toUInt32 &&& Int32.toUInt32 31)).toInt32).toInt ≠ (0 : Int) := ne_z rfl (show (0 : Int32).toInt = (0 : Int) by decide) h61
                    refine lv_iload hx hb dX13_byNumber_235 (lv_at hl 7 rfl) ?_
                    refine lv_iload hx hb dX13_byNumber_237 (lv_at hl 1 rfl) ?_
                    refine lv_ishr hx hb dX13_byNumber_239 ?_
                    refine cu_v (rn_V (n := 2) (As := [.int pb, .int (pd >>> (((pa >>> ((20 : Int32) &&& 31)) &&& (31 : Int32)) &&& 31))]) (rest := []) hx hb hml hown ht hKK hFx hP hD hS hA (c_m_goes l dC dI cI cB cZ cJ cR tb s.heap.size ad N v pb (pd >>> (((pa >>> ((20 : Int32) &&& 31)) &&& (31 : Int32)) &&& 31)) (show 0 ≤ pb.toInt ∧ pb.toInt < 32 from (om_325f1a4150 zr))) tw_216 tw_217 (by decide +kernel) rfl rfl ⟨Nat.le_of_ble_eq_true rfl, Nat.le_of_ble_eq_true rfl⟩ (List.range (mW ad N cI cZ cJ v).length) (rg_map _) (mW_nd _ _ _ _ _ _) rfl rfl rfl rfl hl.1 rfl (Nat.le_of_ble_eq_true rfl) dX13_byNumber_240 ⟨Nat.le_of_ble_eq_true rfl, Nat.le_of_ble_eq_true rfl⟩) hP hD hS hA (fun u64 H locs hw63 hP hD hS => ?_)
                    have fr63 := hw63
                    refine W.widen (k := 0) (n := 0) (Nat.le_refl _) (Nat.le_refl _) ?_
                    exact W.vret hx hb hr (fun t ht9 hW => ⟨⟨u64, rfl, (FG.tr (FG.rf _) (FG.up fr63 (by decide) (by decide))), by rw [ht9]; exact hP, hD⟩, hS.F ht9⟩) hS.2.2 dX13_byNumber_243
                  · have z66 : ((pa.toUInt32 >>> ((25 : Int32).toUInt32 &&& Int32.toUInt32 31)).toInt32).toInt = (0 : Int) := eq_z rfl (show (0 : Int32).toInt = (0 : Int) by decide) h61
                    exact False.elim (om_5bc35a373d z60 z66)
                · have z67 : ((pa.toUInt32 >>> ((25 : Int32).toUInt32 &&& Int32.toUInt32 31)).toInt32).toInt ≠ (32 : Int) := ne_z rfl (show (32 : Int32).toInt = (32 : Int) by decide) h59
                  refine lv_aload_n hx hb dX13_byNumber_212 rfl (lv_at hl 3 rfl) ?_
                  refine lv_iconst (v := 2) hx hb dX13_byNumber_213 (by decide) ?_
                  refine va_put (D := (dC, dI)) (ci := 16) (fs := mF ad v) (v := .int 2) (ty := .int) (C := RX13) (T := TX13) (N := 124) hx hb ht itX13 tyX13 tyX13_ok nmX13 hown hK hP hD hS 0 rfl rfl 99 (by decide) (ht _ tw_210) (fun _ h9 => h9) rfl (by decide +kernel) rfl rfl (Nat.le_of_ble_eq_true rfl) dX13_byNumber_214 (fun H locs hP hD hS => ?_)
                  have hP := cP_ (mw_99 ad N cI cZ cJ v 2) hP
                  have hD := cD_ (mw_99 ad N cI cZ cJ v 2) hD
                  refine lv_goto (tgt := 243) hx hb dX13_byNumber_217 (by decide) ?_
                  exact W.vret hx hb hr (fun t ht9 hW => ⟨⟨(wA v 0 99 2), rfl, (FG.f (FG.rf _) 2 (by decide)), by rw [ht9]; exact hP, hD⟩, hS.F ht9⟩) hS.2.2 dX13_byNumber_243
            ·
              by_cases h68 : pc1 = 6
              · refine lv_tableIn (off := 128) (tgt := 148) hx hb dX13_byNumber_20 (by rw [h68]; decide) (by rw [h68]; decide) (by rw [h68]; decide) (by decide) ?_
                refine lv_aload_n hx hb dX13_byNumber_148 rfl (lv_at hl 3 rfl) ?_
                refine lv_iload_n hx hb dX13_byNumber_149 rfl (lv_at hl 5 rfl) ?_
                refine lv_iload hx hb dX13_byNumber_150 (lv_at hl 7 rfl) ?_
                refine lv_iload hx hb dX13_byNumber_152 (lv_at hl 2 rfl) ?_
                refine lv_ior hx hb dX13_byNumber_154 ?_
                refine cu_v (rn_V (n := 2) (As := [.int pb, .int (pd ||| (pa >>> ((20 : Int32) &&& 31)))]) (rest := []) hx hb hml hown ht hKK hFx hP hD hS hA (c_m_goes l dC dI cI cB cZ cJ cR tb s.heap.size ad N v pb (pd ||| (pa >>> ((20 : Int32) &&& 31))) (show 0 ≤ pb.toInt ∧ pb.toInt < 32 from (om_325f1a4150 zr))) tw_216 tw_217 (by decide +kernel) rfl rfl ⟨Nat.le_of_ble_eq_true rfl, Nat.le_of_ble_eq_true rfl⟩ (List.range (mW ad N cI cZ cJ v).length) (rg_map _) (mW_nd _ _ _ _ _ _) rfl rfl rfl rfl hl.1 rfl (Nat.le_of_ble_eq_true rfl) dX13_byNumber_155 ⟨Nat.le_of_ble_eq_true rfl, Nat.le_of_ble_eq_true rfl⟩) hP hD hS hA (fun u70 H locs hw69 hP hD hS => ?_)
                have fr69 := hw69
                refine W.widen (k := 0) (n := 0) (Nat.le_refl _) (Nat.le_refl _) ?_
                refine lv_goto (tgt := 243) hx hb dX13_byNumber_158 (by decide) ?_
                exact W.vret hx hb hr (fun t ht9 hW => ⟨⟨u70, rfl, (FG.tr (FG.rf _) (FG.up fr69 (by decide) (by decide))), by rw [ht9]; exact hP, hD⟩, hS.F ht9⟩) hS.2.2 dX13_byNumber_243
              ·
                by_cases h72 : pc1 = 7
                · refine lv_tableIn (off := 141) (tgt := 161) hx hb dX13_byNumber_20 (by rw [h72]; decide) (by rw [h72]; decide) (by rw [h72]; decide) (by decide) ?_
                  refine lv_aload_n hx hb dX13_byNumber_161 rfl (lv_at hl 3 rfl) ?_
                  refine lv_iload_n hx hb dX13_byNumber_162 rfl (lv_at hl 5 rfl) ?_
                  refine lv_iload hx hb dX13_byNumber_163 (lv_at hl 7 rfl) ?_
                  refine lv_iload hx hb dX13_byNumber_165 (lv_at hl 2 rfl) ?_
                  refine lv_iand hx hb dX13_byNumber_167 ?_
                  refine cu_v (rn_V (n := 2) (As := [.int pb, .int (pd &&& (pa >>> ((20 : Int32) &&& 31)))]) (rest := []) hx hb hml hown ht hKK hFx hP hD hS hA (c_m_goes l dC dI cI cB cZ cJ cR tb s.heap.size ad N v pb (pd &&& (pa >>> ((20 : Int32) &&& 31))) (show 0 ≤ pb.toInt ∧ pb.toInt < 32 from (om_325f1a4150 zr))) tw_216 tw_217 (by decide +kernel) rfl rfl ⟨Nat.le_of_ble_eq_true rfl, Nat.le_of_ble_eq_true rfl⟩ (List.range (mW ad N cI cZ cJ v).length) (rg_map _) (mW_nd _ _ _ _ _ _) rfl rfl rfl rfl hl.1 rfl (Nat.le_of_ble_eq_true rfl) dX13_byNumber_168 ⟨Nat.le_of_ble_eq_true rfl, Nat.le_of_ble_eq_true rfl⟩) hP hD hS hA (fun u74 H locs hw73 hP hD hS => ?_)
                  have fr73 := hw73
                  refine W.widen (k := 0) (n := 0) (Nat.le_refl _) (Nat.le_refl _) ?_
                  refine lv_goto (tgt := 243) hx hb dX13_byNumber_171 (by decide) ?_
                  exact W.vret hx hb hr (fun t ht9 hW => ⟨⟨u74, rfl, (FG.tr (FG.rf _) (FG.up fr73 (by decide) (by decide))), by rw [ht9]; exact hP, hD⟩, hS.F ht9⟩) hS.2.2 dX13_byNumber_243
                ·
                  refine lv_tableOut (tgt := 200) hx hb dX13_byNumber_20 (by have := lv_neT h1 (a := 0) (by decide); have := lv_neT h5 (a := 1) (by decide); have := lv_neT h13 (a := 2) (by decide); have := lv_neT h29 (a := 3) (by decide); have := lv_neT h45 (a := 4) (by decide); have := lv_neT h49 (a := 5) (by decide); have := lv_neT h68 (a := 6) (by decide); have := lv_neT h72 (a := 7) (by decide); omega) (by decide) ?_
                  refine lv_iload hx hb dX13_byNumber_200 (lv_at hl 0 rfl) ?_
                  refine lv_if_eq (tgt := 220) hx hb dX13_byNumber_202 (by decide) (fun h76 => ?_) (fun h76 => ?_)
                  · have z77 : ((pa.toUInt32 >>> ((25 : Int32).toUInt32 &&& Int32.toUInt32 31)).toInt32).toInt = (0 : Int) := eq_z rfl (show (0 : Int32).toInt = (0 : Int) by decide) h76
                    refine lv_aload_n hx hb dX13_byNumber_220 rfl (lv_at hl 3 rfl) ?_
                    refine lv_iload_n hx hb dX13_byNumber_221 rfl (lv_at hl 5 rfl) ?_
                    refine lv_iload hx hb dX13_byNumber_222 (lv_at hl 0 rfl) ?_
                    refine lv_if_ne (tgt := 235) hx hb dX13_byNumber_224 (by decide) (fun h78 => ?_) (fun h78 => ?_)
                    · have z79 : ((pa.toUInt32 >>> ((25 : Int32).toUInt32 &&& Int32.toUInt32 31)).toInt32).toInt ≠ (0 : Int) := ne_z rfl (show (0 : Int32).toInt = (0 : Int) by decide) h78
                      exact False.elim (om_e92e9f8ce0 z77 z79)
                    · have z80 : ((pa.toUInt32 >>> ((25 : Int32).toUInt32 &&& Int32.toUInt32 31)).toInt32).toInt = (0 : Int) := eq_z rfl (show (0 : Int32).toInt = (0 : Int) by decide) h78
                      refine lv_iload hx hb dX13_byNumber_227 (lv_at hl 7 rfl) ?_
                      refine lv_iload hx hb dX13_byNumber_229 (lv_at hl 1 rfl) ?_
                      refine lv_iushr hx hb dX13_byNumber_231 rfl ?_
                      refine lv_goto (tgt := 240) hx hb dX13_byNumber_232 (by decide) ?_
                      refine cu_v (rn_V (n := 2) (As := [.int pb, .int ((pd.toUInt32 >>> (((pa >>> ((20 : Int32) &&& 31)) &&& (31 : Int32)).toUInt32 &&& Int32.toUInt32 31)).toInt32)]) (rest := []) hx hb hml hown ht hKK hFx hP hD hS hA (c_m_goes l dC dI cI cB cZ cJ cR tb s.heap.size ad N v pb ((pd.toUInt32 >>> (((pa >>> ((20 : Int32) &&& 31)) &&& (31 : Int32)).toUInt32 &&& Int32.toUInt32 31)).toInt32) (show 0 ≤ pb.toInt ∧ pb.toInt < 32 from (om_325f1a4150 zr))) tw_216 tw_217 (by decide +kernel) rfl rfl ⟨Nat.le_of_ble_eq_true rfl, Nat.le_of_ble_eq_true rfl⟩ (List.range (mW ad N cI cZ cJ v).length) (rg_map _) (mW_nd _ _ _ _ _ _) rfl rfl rfl rfl hl.1 rfl (Nat.le_of_ble_eq_true rfl) dX13_byNumber_240 ⟨Nat.le_of_ble_eq_true rfl, Nat.le_of_ble_eq_true rfl⟩) hP hD hS hA (fun u82 H locs hw81 hP hD hS => ?_)
                      have fr81 := hw81
                      refine W.widen (k := 0) (n := 0) (Nat.le_refl _) (Nat.le_refl _) ?_
                      exact W.vret hx hb hr (fun t ht9 hW => ⟨⟨u82, rfl, (FG.tr (FG.rf _) (FG.up fr81 (by decide) (by decide))), by rw [ht9]; exact hP, hD⟩, hS.F ht9⟩) hS.2.2 dX13_byNumber_243
                  · have z84 : ((pa.toUInt32 >>> ((25 : Int32).toUInt32 &&& Int32.toUInt32 31)).toInt32).toInt ≠ (0 : Int) := ne_z rfl (show (0 : Int32).toInt = (0 : Int) by decide) h76
                    refine lv_iload hx hb dX13_byNumber_205 (lv_at hl 0 rfl) ?_
                    refine lv_bipush (v := 32) hx hb dX13_byNumber_207 (by decide) ?_
                    refine lv_icmp_eq (tgt := 220) hx hb dX13_byNumber_209 (by decide) (fun h85 => ?_) (fun h85 => ?_)
                    · have z86 : ((pa.toUInt32 >>> ((25 : Int32).toUInt32 &&& Int32.toUInt32 31)).toInt32).toInt = (32 : Int) := eq_z rfl (show (32 : Int32).toInt = (32 : Int) by decide) h85
                      refine lv_aload_n hx hb dX13_byNumber_220 rfl (lv_at hl 3 rfl) ?_
                      refine lv_iload_n hx hb dX13_byNumber_221 rfl (lv_at hl 5 rfl) ?_
                      refine lv_iload hx hb dX13_byNumber_222 (lv_at hl 0 rfl) ?_
                      refine lv_if_ne (tgt := 235) hx hb dX13_byNumber_224 (by decide) (fun h87 => ?_) (fun h87 => ?_)
                      · have z88 : ((pa.toUInt32 >>> ((25 : Int32).toUInt32 &&& Int32.toUInt32 31)).toInt32).toInt ≠ (0 : Int) := ne_z rfl (show (0 : Int32).toInt = (0 : Int) by decide) h87
                        refine lv_iload hx hb dX13_byNumber_235 (lv_at hl 7 rfl) ?_
                        refine lv_iload hx hb dX13_byNumber_237 (lv_at hl 1 rfl) ?_
                        refine lv_ishr hx hb dX13_byNumber_239 ?_
                        refine cu_v (rn_V (n := 2) (As := [.int pb, .int (pd >>> (((pa >>> ((20 : Int32) &&& 31)) &&& (31 : Int32)) &&& 31))]) (rest := []) hx hb hml hown ht hKK hFx hP hD hS hA (c_m_goes l dC dI cI cB cZ cJ cR tb s.heap.size ad N v pb (pd >>> (((pa >>> ((20 : Int32) &&& 31)) &&& (31 : Int32)) &&& 31)) (show 0 ≤ pb.toInt ∧ pb.toInt < 32 from (om_325f1a4150 zr))) tw_216 tw_217 (by decide +kernel) rfl rfl ⟨Nat.le_of_ble_eq_true rfl, Nat.le_of_ble_eq_true rfl⟩ (List.range (mW ad N cI cZ cJ v).length) (rg_map _) (mW_nd _ _ _ _ _ _) rfl rfl rfl rfl hl.1 rfl (Nat.le_of_ble_eq_true rfl) dX13_byNumber_240 ⟨Nat.le_of_ble_eq_true rfl, Nat.le_of_ble_eq_true rfl⟩) hP hD hS hA (fun u90 H locs hw89 hP hD hS => ?_)
                        have fr89 := hw89
                        refine W.widen (k := 0) (n := 0) (Nat.le_refl _) (Nat.le_refl _) ?_
                        exact W.vret hx hb hr (fun t ht9 hW => ⟨⟨u90, rfl, (FG.tr (FG.rf _) (FG.up fr89 (by decide) (by decide))), by rw [ht9]; exact hP, hD⟩, hS.F ht9⟩) hS.2.2 dX13_byNumber_243
                      · have z92 : ((pa.toUInt32 >>> ((25 : Int32).toUInt32 &&& Int32.toUInt32 31)).toInt32).toInt = (0 : Int) := eq_z rfl (show (0 : Int32).toInt = (0 : Int) by decide) h87
                        exact False.elim (om_5bc35a373d z86 z92)
                    · have z93 : ((pa.toUInt32 >>> ((25 : Int32).toUInt32 &&& Int32.toUInt32 31)).toInt32).toInt ≠ (32 : Int) := ne_z rfl (show (32 : Int32).toInt = (32 : Int) by decide) h85
                      refine lv_aload_n hx hb dX13_byNumber_212 rfl (lv_at hl 3 rfl) ?_
                      refine lv_iconst (v := 2) hx hb dX13_byNumber_213 (by decide) ?_
                      refine va_put (D := (dC, dI)) (ci := 16) (fs := mF ad v) (v := .int 2) (ty := .int) (C := RX13) (T := TX13) (N := 124) hx hb ht itX13 tyX13 tyX13_ok nmX13 hown hK hP hD hS 0 rfl rfl 99 (by decide) (ht _ tw_210) (fun _ h9 => h9) rfl (by decide +kernel) rfl rfl (Nat.le_of_ble_eq_true rfl) dX13_byNumber_214 (fun H locs hP hD hS => ?_)
                      have hP := cP_ (mw_99 ad N cI cZ cJ v 2) hP
                      have hD := cD_ (mw_99 ad N cI cZ cJ v 2) hD
                      refine lv_goto (tgt := 243) hx hb dX13_byNumber_217 (by decide) ?_
                      exact W.vret hx hb hr (fun t ht9 hW => ⟨⟨(wA v 0 99 2), rfl, (FG.f (FG.rf _) 2 (by decide)), by rw [ht9]; exact hP, hD⟩, hS.F ht9⟩) hS.2.2 dX13_byNumber_243
set_option maxHeartbeats 4000000 in
set_option maxRecDepth 100000 in
theorem c_m_byRegister (l : Launch) (dC : Nat → ClassId) (dI : Nat → Nat → Nat) (cI cB cZ cJ cR : ClassId) (tb : Nat → Nat) (sz : Nat) (ad : Nat → Nat) (N : Nat) (v : MS) (pa : Int32) (pb : Int32) (pc1 : Int32) (pd : Int32) (pe : Int32) (zr : 0 ≤ pb.toInt ∧ pb.toInt < 32) : Met l yX13_byRegister (Cond.code yX13_byRegister cX13_byRegister 8 none :: tw_W) ({ frames := 1, cells := 0, slots := 0, locals := 22 }) (pc_ (dC, dI) (tyS cI cB cZ cJ cR) tb (mW ad N cI cZ cJ v) sz [.ref (ad 0), .int pa, .int pb, .int pc1, .int pd, .int pe]) (qv_ (dC, dI) (mW ad N cI cZ cJ v) sz (fun (u : MS) => FG [98, 99] [0, 97] v u) (fun (u : MS) => (mW ad N cI cZ cJ u))) 0 0 (va_A (mW ad N cI cZ cJ v) sz) := by
  refine Met.ofW (cc := cX13_byRegister) (maxL := 8) (ret := none) (by decide) rfl ?_
  intro p e s m args below meth c s₁ B hml hv
  obtain ⟨rfl, hsz, hP, hKK, hD0, hFx⟩ := hv
  have hK := hKK.1
  have hx := B.exec
  have hb := B.bytes
  have hr := B.returns
  have ht : ∀ w ∈ tw_W, w.before _ s = true := fun w h => atoms_spec (ws := Cond.code yX13_byRegister cX13_byRegister 8 none :: tw_W) B.pre w (List.mem_cons_of_mem _ h)
  have hown : s.vm.findClass RX13 = some m.cls := findClass_of_methodNamed B.named
  have hlocks := B.notSynchronized
  subst hsz
  unfold qv_
  have hD := hD0.self (sz := s.heap.size)
  generalize hAe : va_A (mW ad N cI cZ cJ v) s.heap.size = A at hD hFx ⊢
  have hA : ∀ q : Nat, s.heap.size ≤ q → A q := fun q h => by rw [← hAe]; exact Or.inr h
  have hS : va_S A s.heap s.heap [] := va_S.rf
  have hl := lv_entry ([.ref (ad 0), .int pa, .int pb, .int pc1, .int pd, .int pe]) (n := 8) (Nat.le_of_ble_eq_true rfl)
  rw [lg_entry_eq]
  generalize (lg_sl ([.ref (ad 0), .int pa, .int pb, .int pc1, .int pd, .int pe]) ++ List.replicate (8 - (lg_sl ([.ref (ad 0), .int pa, .int pb, .int pc1, .int pd, .int pe])).length) Slot.unset).toArray = ls at hl ⊢
  have hl : lv_has ls 8 [(0, .ref (ad 0)), (1, .int pa), (2, .int pb), (3, .int pc1), (4, .int pd), (5, .int pe)] := hl
  refine lv_iload_n hx hb dX13_byRegister_0 rfl (lv_at hl 1 rfl) ?_
  refine lv_bipush (v := 25) hx hb dX13_byRegister_1 (by decide) ?_
  refine lv_iushr hx hb dX13_byRegister_3 rfl ?_
  refine lv_istore (lv' := [(6, .int ((pa.toUInt32 >>> ((25 : Int32).toUInt32 &&& Int32.toUInt32 31)).toInt32)), (0, .ref (ad 0)), (1, .int pa), (2, .int pb), (3, .int pc1), (4, .int pd), (5, .int pe)]) hx hb dX13_byRegister_4 hl (by decide) rfl (fun ls hl => ?_)
  refine lv_iload hx hb dX13_byRegister_6 (lv_at hl 0 rfl) ?_
  refine lv_bipush (v := 32) hx hb dX13_byRegister_8 (by decide) ?_
  refine lv_icmp_ne (tgt := 26) hx hb dX13_byRegister_10 (by decide) (fun h1 => ?_) (fun h1 => ?_)
  · have z2 : ((pa.toUInt32 >>> ((25 : Int32).toUInt32 &&& Int32.toUInt32 31)).toInt32).toInt ≠ (32 : Int) := ne_z rfl (show (32 : Int32).toInt = (32 : Int) by decide) h1
    refine lv_iconst (v := 0) hx hb dX13_byRegister_26 (by decide) ?_
    refine lv_istore (lv' := [(7, .int 0), (6, .int ((pa.toUInt32 >>> ((25 : Int32).toUInt32 &&& Int32.toUInt32 31)).toInt32)), (0, .ref (ad 0)), (1, .int pa), (2, .int pb), (3, .int pc1), (4, .int pd), (5, .int pe)]) hx hb dX13_byRegister_27 hl (by decide) rfl (fun ls hl => ?_)
    refine lv_iload hx hb dX13_byRegister_29 (lv_at hl 1 rfl) ?_
    refine lv_if_eq (tgt := 45) hx hb dX13_byRegister_31 (by decide) (fun h3 => ?_) (fun h3 => ?_)
    · have z4 : ((pa.toUInt32 >>> ((25 : Int32).toUInt32 &&& Int32.toUInt32 31)).toInt32).toInt = (0 : Int) := eq_z rfl (show (0 : Int32).toInt = (0 : Int) by decide) h3
      refine lv_iload_n hx hb dX13_byRegister_45 rfl (lv_at hl 5 rfl) ?_
      by_cases h5 : pc1 = 0
      · refine lv_tableIn (off := 42) (tgt := 88) hx hb dX13_byRegister_46 (by rw [h5]; decide) (by rw [h5]; decide) (by rw [h5]; decide) (by decide) ?_
        refine lv_aload_n hx hb dX13_byRegister_88 rfl (lv_at hl 2 rfl) ?_
        refine lv_iload_n hx hb dX13_byRegister_89 rfl (lv_at hl 4 rfl) ?_
        refine lv_iload hx hb dX13_byRegister_90 (lv_at hl 0 rfl) ?_
        refine lv_if_eq (tgt := 103) hx hb dX13_byRegister_92 (by decide) (fun _ => ?_) (fun k6 => absurd k6 (by decide))
        refine lv_iload hx hb dX13_byRegister_103 (lv_at hl 6 rfl) ?_
        refine lv_iload hx hb dX13_byRegister_105 (lv_at hl 7 rfl) ?_
        refine lv_iadd hx hb dX13_byRegister_107 ?_
        refine cu_v (rn_V (n := 2) (As := [.int pb, .int (pd + pe)]) (rest := []) hx hb hml hown ht hKK hFx hP hD hS hA (c_m_goes l dC dI cI cB cZ cJ cR tb s.heap.size ad N v pb (pd + pe) (show 0 ≤ pb.toInt ∧ pb.toInt < 32 from (om_325f1a4150 zr))) tw_216 tw_217 (by decide +kernel) rfl rfl ⟨Nat.le_of_ble_eq_true rfl, Nat.le_of_ble_eq_true rfl⟩ (List.range (mW ad N cI cZ cJ v).length) (rg_map _) (mW_nd _ _ _ _ _ _) rfl rfl rfl rfl hl.1 rfl (Nat.le_of_ble_eq_true rfl) dX13_byRegister_108 ⟨Nat.le_of_ble_eq_true rfl, Nat.le_of_ble_eq_true rfl⟩) hP hD hS hA (fun u8 H locs hw7 hP hD hS => ?_)
        have fr7 := hw7
        refine W.widen (k := 0) (n := 0) (Nat.le_refl _) (Nat.le_refl _) ?_
        refine lv_goto (tgt := 252) hx hb dX13_byRegister_111 (by decide) ?_
        exact W.vret hx hb hr (fun t ht9 hW => ⟨⟨u8, rfl, (FG.tr (FG.rf _) (FG.up fr7 (by decide) (by decide))), by rw [ht9]; exact hP, hD⟩, hS.F ht9⟩) hS.2.2 dX13_byRegister_252
      ·
        by_cases h10 : pc1 = 1
        · refine lv_tableIn (off := 68) (tgt := 114) hx hb dX13_byRegister_46 (by rw [h10]; decide) (by rw [h10]; decide) (by rw [h10]; decide) (by decide) ?_
          refine lv_aload_n hx hb dX13_byRegister_114 rfl (lv_at hl 2 rfl) ?_
          refine lv_iload_n hx hb dX13_byRegister_115 rfl (lv_at hl 4 rfl) ?_
          refine lv_iload hx hb dX13_byRegister_116 (lv_at hl 6 rfl) ?_
          refine lv_iload hx hb dX13_byRegister_118 (lv_at hl 7 rfl) ?_
          refine lv_bipush (v := 31) hx hb dX13_byRegister_120 (by decide) ?_
          refine lv_iand hx hb dX13_byRegister_122 ?_
          refine lv_ishl hx hb dX13_byRegister_123 ?_
          refine cu_v (rn_V (n := 2) (As := [.int pb, .int (pd <<< ((pe &&& (31 : Int32)) &&& 31))]) (rest := []) hx hb hml hown ht hKK hFx hP hD hS hA (c_m_goes l dC dI cI cB cZ cJ cR tb s.heap.size ad N v pb (pd <<< ((pe &&& (31 : Int32)) &&& 31)) (show 0 ≤ pb.toInt ∧ pb.toInt < 32 from (om_325f1a4150 zr))) tw_216 tw_217 (by decide +kernel) rfl rfl ⟨Nat.le_of_ble_eq_true rfl, Nat.le_of_ble_eq_true rfl⟩ (List.range (mW ad N cI cZ cJ v).length) (rg_map _) (mW_nd _ _ _ _ _ _) rfl rfl rfl rfl hl.1 rfl (Nat.le_of_ble_eq_true rfl) dX13_byRegister_124 ⟨Nat.le_of_ble_eq_true rfl, Nat.le_of_ble_eq_true rfl⟩) hP hD hS hA (fun u12 H locs hw11 hP hD hS => ?_)
          have fr11 := hw11
          refine W.widen (k := 0) (n := 0) (Nat.le_refl _) (Nat.le_refl _) ?_
          refine lv_goto (tgt := 252) hx hb dX13_byRegister_127 (by decide) ?_
          exact W.vret hx hb hr (fun t ht9 hW => ⟨⟨u12, rfl, (FG.tr (FG.rf _) (FG.up fr11 (by decide) (by decide))), by rw [ht9]; exact hP, hD⟩, hS.F ht9⟩) hS.2.2 dX13_byRegister_252
        ·
          by_cases h14 : pc1 = 2
          · refine lv_tableIn (off := 84) (tgt := 130) hx hb dX13_byRegister_46 (by rw [h14]; decide) (by rw [h14]; decide) (by rw [h14]; decide) (by decide) ?_
            refine lv_aload_n hx hb dX13_byRegister_130 rfl (lv_at hl 2 rfl) ?_
            refine lv_iload_n hx hb dX13_byRegister_131 rfl (lv_at hl 4 rfl) ?_
            refine lv_iload hx hb dX13_byRegister_132 (lv_at hl 6 rfl) ?_
            refine lv_iload hx hb dX13_byRegister_134 (lv_at hl 7 rfl) ?_
            refine lv_icmp_ge (tgt := 143) hx hb dX13_byRegister_136 (by decide) (fun h15 => ?_) (fun h15 => ?_)
            · have z16 : pe.toInt ≤ pd.toInt := le_z rfl rfl h15
              refine lv_iconst (v := 0) hx hb dX13_byRegister_143 (by decide) ?_
              refine cu_s (mW_nd _ _ _ _ _ _) (rn_S (n := 1) (As := [.int 0]) (rest := [.int pb, .ref (ad 0)]) hx hb hml hown ht hKK hFx hP hD hS hA (c_m_less l dC dI cI cB cZ cJ cR tb s.heap.size (0 : Int32) ) tw_222 tw_223 (by decide +kernel) rfl rfl ⟨Nat.le_of_ble_eq_true rfl, Nat.le_of_ble_eq_true rfl⟩ [] rfl rfl rfl hl.1 rfl (Nat.le_of_ble_eq_true rfl) dX13_byRegister_144 ⟨Nat.le_of_ble_eq_true rfl, Nat.le_of_ble_eq_true rfl⟩) hP hD hS hA (fun r19 H locs hw17 hP hD hS => ?_)
              have ex17 := hw17
              refine W.widen (k := 0) (n := 0) (Nat.le_refl _) (Nat.le_refl _) ?_
              refine cu_v (rn_V (n := 2) (As := [.int pb, .int r19]) (rest := []) hx hb hml hown ht hKK hFx hP hD hS hA (c_m_goes l dC dI cI cB cZ cJ cR tb H.size ad N v pb r19 (show 0 ≤ pb.toInt ∧ pb.toInt < 32 from (om_325f1a4150 zr))) tw_216 tw_217 (by decide +kernel) rfl rfl ⟨Nat.le_of_ble_eq_true rfl, Nat.le_of_ble_eq_true rfl⟩ (List.range (mW ad N cI cZ cJ v).length) (rg_map _) (mW_nd _ _ _ _ _ _) rfl rfl rfl rfl hl.1 rfl (Nat.le_of_ble_eq_true rfl) dX13_byRegister_147 ⟨Nat.le_of_ble_eq_true rfl, Nat.le_of_ble_eq_true rfl⟩) hP hD hS hA (fun u21 H locs hw20 hP hD hS => ?_)
              have fr20 := hw20
              refine W.widen (k := 0) (n := 0) (Nat.le_refl _) (Nat.le_refl _) ?_
              refine lv_goto (tgt := 252) hx hb dX13_byRegister_150 (by decide) ?_
              exact W.vret hx hb hr (fun t ht9 hW => ⟨⟨u21, rfl, (FG.tr (FG.rf _) (FG.up fr20 (by decide) (by decide))), by rw [ht9]; exact hP, hD⟩, hS.F ht9⟩) hS.2.2 dX13_byRegister_252
            · have z23 : pd.toInt < pe.toInt := nle_z rfl rfl h15
              refine lv_iconst (v := 1) hx hb dX13_byRegister_139 (by decide) ?_
              refine lv_goto (tgt := 144) hx hb dX13_byRegister_140 (by decide) ?_
              refine cu_s (mW_nd _ _ _ _ _ _) (rn_S (n := 1) (As := [.int 1]) (rest := [.int pb, .ref (ad 0)]) hx hb hml hown ht hKK hFx hP hD hS hA (c_m_less l dC dI cI cB cZ cJ cR tb s.heap.size (1 : Int32) ) tw_222 tw_223 (by decide +kernel) rfl rfl ⟨Nat.le_of_ble_eq_true rfl, Nat.le_of_ble_eq_true rfl⟩ [] rfl rfl rfl hl.1 rfl (Nat.le_of_ble_eq_true rfl) dX13_byRegister_144 ⟨Nat.le_of_ble_eq_true rfl, Nat.le_of_ble_eq_true rfl⟩) hP hD hS hA (fun r26 H locs hw24 hP hD hS => ?_)
              have ex24 := hw24
              refine W.widen (k := 0) (n := 0) (Nat.le_refl _) (Nat.le_refl _) ?_
              refine cu_v (rn_V (n := 2) (As := [.int pb, .int r26]) (rest := []) hx hb hml hown ht hKK hFx hP hD hS hA (c_m_goes l dC dI cI cB cZ cJ cR tb H.size ad N v pb r26 (show 0 ≤ pb.toInt ∧ pb.toInt < 32 from (om_325f1a4150 zr))) tw_216 tw_217 (by decide +kernel) rfl rfl ⟨Nat.le_of_ble_eq_true rfl, Nat.le_of_ble_eq_true rfl⟩ (List.range (mW ad N cI cZ cJ v).length) (rg_map _) (mW_nd _ _ _ _ _ _) rfl rfl rfl rfl hl.1 rfl (Nat.le_of_ble_eq_true rfl) dX13_byRegister_147 ⟨Nat.le_of_ble_eq_true rfl, Nat.le_of_ble_eq_true rfl⟩) hP hD hS hA (fun u28 H locs hw27 hP hD hS => ?_)
              have fr27 := hw27
              refine W.widen (k := 0) (n := 0) (Nat.le_refl _) (Nat.le_refl _) ?_
              refine lv_goto (tgt := 252) hx hb dX13_byRegister_150 (by decide) ?_
              exact W.vret hx hb hr (fun t ht9 hW => ⟨⟨u28, rfl, (FG.tr (FG.rf _) (FG.up fr27 (by decide) (by decide))), by rw [ht9]; exact hP, hD⟩, hS.F ht9⟩) hS.2.2 dX13_byRegister_252
          ·
            by_cases h30 : pc1 = 3
            · refine lv_tableIn (off := 107) (tgt := 153) hx hb dX13_byRegister_46 (by rw [h30]; decide) (by rw [h30]; decide) (by rw [h30]; decide) (by decide) ?_
              refine lv_aload_n hx hb dX13_byRegister_153 rfl (lv_at hl 2 rfl) ?_
              refine lv_iload_n hx hb dX13_byRegister_154 rfl (lv_at hl 4 rfl) ?_
              refine lv_iload hx hb dX13_byRegister_155 (lv_at hl 6 rfl) ?_
              refine lv_ldcw (v := -2147483648) hx hb hown (ht _ tw_211) dX13_byRegister_157 ?_
              refine lv_iadd hx hb dX13_byRegister_160 ?_
              refine lv_iload hx hb dX13_byRegister_161 (lv_at hl 7 rfl) ?_
              refine lv_ldcw (v := -2147483648) hx hb hown (ht _ tw_211) dX13_byRegister_163 ?_
              refine lv_iadd hx hb dX13_byRegister_166 ?_
              refine lv_icmp_ge (tgt := 174) hx hb dX13_byRegister_167 (by decide) (fun h31 => ?_) (fun h31 => ?_)
              · have z32 : (pe + ((-2147483648) : Int32)).toInt ≤ (pd + ((-2147483648) : Int32)).toInt := le_z rfl rfl h31
                refine lv_iconst (v := 0) hx hb dX13_byRegister_174 (by decide) ?_
                refine cu_s (mW_nd _ _ _ _ _ _) (rn_S (n := 1) (As := [.int 0]) (rest := [.int pb, .ref (ad 0)]) hx hb hml hown ht hKK hFx hP hD hS hA (c_m_less l dC dI cI cB cZ cJ cR tb s.heap.size (0 : Int32) ) tw_222 tw_223 (by decide +kernel) rfl rfl ⟨Nat.le_of_ble_eq_true rfl, Nat.le_of_ble_eq_true rfl⟩ [] rfl rfl rfl hl.1 rfl (Nat.le_of_ble_eq_true rfl) dX13_byRegister_175 ⟨Nat.le_of_ble_eq_true rfl, Nat.le_of_ble_eq_true rfl⟩) hP hD hS hA (fun r35 H locs hw33 hP hD hS => ?_)
                have ex33 := hw33
                refine W.widen (k := 0) (n := 0) (Nat.le_refl _) (Nat.le_refl _) ?_
                refine cu_v (rn_V (n := 2) (As := [.int pb, .int r35]) (rest := []) hx hb hml hown ht hKK hFx hP hD hS hA (c_m_goes l dC dI cI cB cZ cJ cR tb H.size ad N v pb r35 (show 0 ≤ pb.toInt ∧ pb.toInt < 32 from (om_325f1a4150 zr))) tw_216 tw_217 (by decide +kernel) rfl rfl ⟨Nat.le_of_ble_eq_true rfl, Nat.le_of_ble_eq_true rfl⟩ (List.range (mW ad N cI cZ cJ v).length) (rg_map _) (mW_nd _ _ _ _ _ _) rfl rfl rfl rfl hl.1 rfl (Nat.le_of_ble_eq_true rfl) dX13_byRegister_178 ⟨Nat.le_of_ble_eq_true rfl, Nat.le_of_ble_eq_true rfl⟩) hP hD hS hA (fun u37 H locs hw36 hP hD hS => ?_)
                have fr36 := hw36
                refine W.widen (k := 0) (n := 0) (Nat.le_refl _) (Nat.le_refl _) ?_
                refine lv_goto (tgt := 252) hx hb dX13_byRegister_181 (by decide) ?_
                exact W.vret hx hb hr (fun t ht9 hW => ⟨⟨u37, rfl, (FG.tr (FG.rf _) (FG.up fr36 (by decide) (by decide))), by rw [ht9]; exact hP, hD⟩, hS.F ht9⟩) hS.2.2 dX13_byRegister_252
              · have z39 : (pd + ((-2147483648) : Int32)).toInt < (pe + ((-2147483648) : Int32)).toInt := nle_z rfl rfl h31
                refine lv_iconst (v := 1) hx hb dX13_byRegister_170 (by decide) ?_
                refine lv_goto (tgt := 175) hx hb dX13_byRegister_171 (by decide) ?_
                refine cu_s (mW_nd _ _ _ _ _ _) (rn_S (n := 1) (As := [.int 1]) (rest := [.int pb, .ref (ad 0)]) hx hb hml hown ht hKK hFx hP hD hS hA (c_m_less l dC dI cI cB cZ cJ cR tb s.heap.size (1 : Int32) ) tw_222 tw_223 (by decide +kernel) rfl rfl ⟨Nat.le_of_ble_eq_true rfl, Nat.le_of_ble_eq_true rfl⟩ [] rfl rfl rfl hl.1 rfl (Nat.le_of_ble_eq_true rfl) dX13_byRegister_175 ⟨Nat.le_of_ble_eq_true rfl, Nat.le_of_ble_eq_true rfl⟩) hP hD hS hA (fun r42 H locs hw40 hP hD hS => ?_)
                have ex40 := hw40
                refine W.widen (k := 0) (n := 0) (Nat.le_refl _) (Nat.le_refl _) ?_
                refine cu_v (rn_V (n := 2) (As := [.int pb, .int r42]) (rest := []) hx hb hml hown ht hKK hFx hP hD hS hA (c_m_goes l dC dI cI cB cZ cJ cR tb H.size ad N v pb r42 (show 0 ≤ pb.toInt ∧ pb.toInt < 32 from (om_325f1a4150 zr))) tw_216 tw_217 (by decide +kernel) rfl rfl ⟨Nat.le_of_ble_eq_true rfl, Nat.le_of_ble_eq_true rfl⟩ (List.range (mW ad N cI cZ cJ v).length) (rg_map _) (mW_nd _ _ _ _ _ _) rfl rfl rfl rfl hl.1 rfl (Nat.le_of_ble_eq_true rfl) dX13_byRegister_178 ⟨Nat.le_of_ble_eq_true rfl, Nat.le_of_ble_eq_true rfl⟩) hP hD hS hA (fun u44 H locs hw43 hP hD hS => ?_)
                have fr43 := hw43
                refine W.widen (k := 0) (n := 0) (Nat.le_refl _) (Nat.le_refl _) ?_
                refine lv_goto (tgt := 252) hx hb dX13_byRegister_181 (by decide) ?_
                exact W.vret hx hb hr (fun t ht9 hW => ⟨⟨u44, rfl, (FG.tr (FG.rf _) (FG.up fr43 (by decide) (by decide))), by rw [ht9]; exact hP, hD⟩, hS.F ht9⟩) hS.2.2 dX13_byRegister_252
            ·
              by_cases h46 : pc1 = 4
              · refine lv_tableIn (off := 138) (tgt := 184) hx hb dX13_byRegister_46 (by rw [h46]; decide) (by rw [h46]; decide) (by rw [h46]; decide) (by decide) ?_
                refine lv_aload_n hx hb dX13_byRegister_184 rfl (lv_at hl 2 rfl) ?_
                refine lv_iload_n hx hb dX13_byRegister_185 rfl (lv_at hl 4 rfl) ?_
                refine lv_iload hx hb dX13_byRegister_186 (lv_at hl 6 rfl) ?_
                refine lv_iload hx hb dX13_byRegister_188 (lv_at hl 7 rfl) ?_
                refine lv_ixor hx hb dX13_byRegister_190 ?_
                refine cu_v (rn_V (n := 2) (As := [.int pb, .int (pd ^^^ pe)]) (rest := []) hx hb hml hown ht hKK hFx hP hD hS hA (c_m_goes l dC dI cI cB cZ cJ cR tb s.heap.size ad N v pb (pd ^^^ pe) (show 0 ≤ pb.toInt ∧ pb.toInt < 32 from (om_325f1a4150 zr))) tw_216 tw_217 (by decide +kernel) rfl rfl ⟨Nat.le_of_ble_eq_true rfl, Nat.le_of_ble_eq_true rfl⟩ (List.range (mW ad N cI cZ cJ v).length) (rg_map _) (mW_nd _ _ _ _ _ _) rfl rfl rfl rfl hl.1 rfl (Nat.le_of_ble_eq_true rfl) dX13_byRegister_191 ⟨Nat.le_of_ble_eq_true rfl, Nat.le_of_ble_eq_true rfl⟩) hP hD hS hA (fun u48 H locs hw47 hP hD hS => ?_)
                have fr47 := hw47
                refine W.widen (k := 0) (n := 0) (Nat.le_refl _) (Nat.le_refl _) ?_
                refine lv_goto (tgt := 252) hx hb dX13_byRegister_194 (by decide) ?_
                exact W.vret hx hb hr (fun t ht9 hW => ⟨⟨u48, rfl, (FG.tr (FG.rf _) (FG.up fr47 (by decide) (by decide))), by rw [ht9]; exact hP, hD⟩, hS.F ht9⟩) hS.2.2 dX13_byRegister_252
              ·
                by_cases h50 : pc1 = 5
                · refine lv_tableIn (off := 151) (tgt := 197) hx hb dX13_byRegister_46 (by rw [h50]; decide) (by rw [h50]; decide) (by rw [h50]; decide) (by decide) ?_
                  refine lv_aload_n hx hb dX13_byRegister_197 rfl (lv_at hl 2 rfl) ?_
                  refine lv_iload_n hx hb dX13_byRegister_198 rfl (lv_at hl 4 rfl) ?_
                  refine lv_iload hx hb dX13_byRegister_199 (lv_at hl 0 rfl) ?_
                  refine lv_if_eq (tgt := 215) hx hb dX13_byRegister_201 (by decide) (fun _ => ?_) (fun k51 => absurd k51 (by decide))
                  refine lv_iload hx hb dX13_byRegister_215 (lv_at hl 6 rfl) ?_
                  refine lv_iload hx hb dX13_byRegister_217 (lv_at hl 7 rfl) ?_
                  refine lv_bipush (v := 31) hx hb dX13_byRegister_219 (by decide) ?_
                  refine lv_iand hx hb dX13_byRegister_221 ?_
                  refine lv_iushr hx hb dX13_byRegister_222 rfl ?_
                  refine cu_v (rn_V (n := 2) (As := [.int pb, .int ((pd.toUInt32 >>> ((pe &&& (31 : Int32)).toUInt32 &&& Int32.toUInt32 31)).toInt32)]) (rest := []) hx hb hml hown ht hKK hFx hP hD hS hA (c_m_goes l dC dI cI cB cZ cJ cR tb s.heap.size ad N v pb ((pd.toUInt32 >>> ((pe &&& (31 : Int32)).toUInt32 &&& Int32.toUInt32 31)).toInt32) (show 0 ≤ pb.toInt ∧ pb.toInt < 32 from (om_325f1a4150 zr))) tw_216 tw_217 (by decide +kernel) rfl rfl ⟨Nat.le_of_ble_eq_true rfl, Nat.le_of_ble_eq_true rfl⟩ (List.range (mW ad N cI cZ cJ v).length) (rg_map _) (mW_nd _ _ _ _ _ _) rfl rfl rfl rfl hl.1 rfl (Nat.le_of_ble_eq_true rfl) dX13_byRegister_223 ⟨Nat.le_of_ble_eq_true rfl, Nat.le_of_ble_eq_true rfl⟩) hP hD hS hA (fun u53 H locs hw52 hP hD hS => ?_)
                  have fr52 := hw52
                  refine W.widen (k := 0) (n := 0) (Nat.le_refl _) (Nat.le_refl _) ?_
                  refine lv_goto (tgt := 252) hx hb dX13_byRegister_226 (by decide) ?_
                  exact W.vret hx hb hr (fun t ht9 hW => ⟨⟨u53, rfl, (FG.tr (FG.rf _) (FG.up fr52 (by decide) (by decide))), by rw [ht9]; exact hP, hD⟩, hS.F ht9⟩) hS.2.2 dX13_byRegister_252
                ·
                  by_cases h55 : pc1 = 6
                  · refine lv_tableIn (off := 183) (tgt := 229) hx hb dX13_byRegister_46 (by rw [h55]; decide) (by rw [h55]; decide) (by rw [h55]; decide) (by decide) ?_
                    refine lv_aload_n hx hb dX13_byRegister_229 rfl (lv_at hl 2 rfl) ?_
                    refine lv_iload_n hx hb dX13_byRegister_230 rfl (lv_at hl 4 rfl) ?_
                    refine lv_iload hx hb dX13_byRegister_231 (lv_at hl 6 rfl) ?_
                    refine lv_iload hx hb dX13_byRegister_233 (lv_at hl 7 rfl) ?_
                    refine lv_ior hx hb dX13_byRegister_235 ?_
                    refine cu_v (rn_V (n := 2) (As := [.int pb, .int (pd ||| pe)]) (rest := []) hx hb hml hown ht hKK hFx hP hD hS hA (c_m_goes l dC dI cI cB cZ cJ cR tb s.heap.size ad N v pb (pd ||| pe) (show 0 ≤ pb.toInt ∧ pb.toInt < 32 from (om_325f1a4150 zr))) tw_216 tw_217 (by decide +kernel) rfl rfl ⟨Nat.le_of_ble_eq_true rfl, Nat.le_of_ble_eq_true rfl⟩ (List.range (mW ad N cI cZ cJ v).length) (rg_map _) (mW_nd _ _ _ _ _ _) rfl rfl rfl rfl hl.1 rfl (Nat.le_of_ble_eq_true rfl) dX13_byRegister_236 ⟨Nat.le_of_ble_eq_true rfl, Nat.le_of_ble_eq_true rfl⟩) hP hD hS hA (fun u57 H locs hw56 hP hD hS => ?_)
                    have fr56 := hw56
                    refine W.widen (k := 0) (n := 0) (Nat.le_refl _) (Nat.le_refl _) ?_
                    refine lv_goto (tgt := 252) hx hb dX13_byRegister_239 (by decide) ?_
                    exact W.vret hx hb hr (fun t ht9 hW => ⟨⟨u57, rfl, (FG.tr (FG.rf _) (FG.up fr56 (by decide) (by decide))), by rw [ht9]; exact hP, hD⟩, hS.F ht9⟩) hS.2.2 dX13_byRegister_252
                  ·
                    refine lv_tableOut (tgt := 242) hx hb dX13_byRegister_46 (by have := lv_neT h5 (a := 0) (by decide); have := lv_neT h10 (a := 1) (by decide); have := lv_neT h14 (a := 2) (by decide); have := lv_neT h30 (a := 3) (by decide); have := lv_neT h46 (a := 4) (by decide); have := lv_neT h50 (a := 5) (by decide); have := lv_neT h55 (a := 6) (by decide); omega) (by decide) ?_
                    refine lv_aload_n hx hb dX13_byRegister_242 rfl (lv_at hl 2 rfl) ?_
                    refine lv_iload_n hx hb dX13_byRegister_243 rfl (lv_at hl 4 rfl) ?_
                    refine lv_iload hx hb dX13_byRegister_244 (lv_at hl 6 rfl) ?_
                    refine lv_iload hx hb dX13_byRegister_246 (lv_at hl 7 rfl) ?_
                    refine lv_iand hx hb dX13_byRegister_248 ?_
                    refine cu_v (rn_V (n := 2) (As := [.int pb, .int (pd &&& pe)]) (rest := []) hx hb hml hown ht hKK hFx hP hD hS hA (c_m_goes l dC dI cI cB cZ cJ cR tb s.heap.size ad N v pb (pd &&& pe) (show 0 ≤ pb.toInt ∧ pb.toInt < 32 from (om_325f1a4150 zr))) tw_216 tw_217 (by decide +kernel) rfl rfl ⟨Nat.le_of_ble_eq_true rfl, Nat.le_of_ble_eq_true rfl⟩ (List.range (mW ad N cI cZ cJ v).length) (rg_map _) (mW_nd _ _ _ _ _ _) rfl rfl rfl rfl hl.1 rfl (Nat.le_of_ble_eq_true rfl) dX13_byRegister_249 ⟨Nat.le_of_ble_eq_true rfl, Nat.le_of_ble_eq_true rfl⟩) hP hD hS hA (fun u60 H locs hw59 hP hD hS => ?_)
                    have fr59 := hw59
                    refine W.widen (k := 0) (n := 0) (Nat.le_refl _) (Nat.le_refl _) ?_
                    exact W.vret hx hb hr (fun t ht9 hW => ⟨⟨u60, rfl, (FG.tr (FG.rf _) (FG.up fr59 (by decide) (by decide))), by rw [ht9]; exact hP, hD⟩, hS.F ht9⟩) hS.2.2 dX13_byRegister_252
    · have z62 : ((pa.toUInt32 >>> ((25 : Int32).toUInt32 &&& Int32.toUInt32 31)).toInt32).toInt ≠ (0 : Int) := ne_z rfl (show (0 : Int32).toInt = (0 : Int) by decide) h3
      refine lv_iload hx hb dX13_byRegister_34 (lv_at hl 0 rfl) ?_
      refine lv_if_ne (tgt := 45) hx hb dX13_byRegister_36 (by decide) (fun k63 => absurd k63 (by decide)) (fun _ => ?_)
      refine lv_aload_n hx hb dX13_byRegister_39 rfl (lv_at hl 2 rfl) ?_
      refine lv_iconst (v := 2) hx hb dX13_byRegister_40 (by decide) ?_
      refine va_put (D := (dC, dI)) (ci := 16) (fs := mF ad v) (v := .int 2) (ty := .int) (C := RX13) (T := TX13) (N := 124) hx hb ht itX13 tyX13 tyX13_ok nmX13 hown hK hP hD hS 0 rfl rfl 99 (by decide) (ht _ tw_210) (fun _ h9 => h9) rfl (by decide +kernel) rfl rfl (Nat.le_of_ble_eq_true rfl) dX13_byRegister_41 (fun H locs hP hD hS => ?_)
      have hP := cP_ (mw_99 ad N cI cZ cJ v 2) hP
      have hD := cD_ (mw_99 ad N cI cZ cJ v 2) hD
      exact W.vret hx hb hr (fun t ht9 hW => ⟨⟨(wA v 0 99 2), rfl, (FG.f (FG.rf _) 2 (by decide)), by rw [ht9]; exact hP, hD⟩, hS.F ht9⟩) hS.2.2 dX13_byRegister_44
  · have z64 : ((pa.toUInt32 >>> ((25 : Int32).toUInt32 &&& Int32.toUInt32 31)).toInt32).toInt = (32 : Int) := eq_z rfl (show (32 : Int32).toInt = (32 : Int) by decide) h1
    refine lv_iload_n hx hb dX13_byRegister_13 rfl (lv_at hl 4 rfl) ?_
    refine lv_if_eq (tgt := 22) hx hb dX13_byRegister_14 (by decide) (fun h65 => ?_) (fun h65 => ?_)
    · have z66 : pc1.toInt = (0 : Int) := eq_z rfl (show (0 : Int32).toInt = (0 : Int) by decide) h65
      refine lv_iconst (v := 1) hx hb dX13_byRegister_22 (by decide) ?_
      refine lv_goto (tgt := 27) hx hb dX13_byRegister_23 (by decide) ?_
      refine lv_istore (lv' := [(7, .int 1), (6, .int ((pa.toUInt32 >>> ((25 : Int32).toUInt32 &&& Int32.toUInt32 31)).toInt32)), (0, .ref (ad 0)), (1, .int pa), (2, .int pb), (3, .int pc1), (4, .int pd), (5, .int pe)]) hx hb dX13_byRegister_27 hl (by decide) rfl (fun ls hl => ?_)
      refine lv_iload hx hb dX13_byRegister_29 (lv_at hl 1 rfl) ?_
      refine lv_if_eq (tgt := 45) hx hb dX13_byRegister_31 (by decide) (fun h67 => ?_) (fun h67 => ?_)
      · have z68 : ((pa.toUInt32 >>> ((25 : Int32).toUInt32 &&& Int32.toUInt32 31)).toInt32).toInt = (0 : Int) := eq_z rfl (show (0 : Int32).toInt = (0 : Int) by decide) h67
        exact False.elim (om_5bc35a373d z64 z68)
      · have z69 : ((pa.toUInt32 >>> ((25 : Int32).toUInt32 &&& Int32.toUInt32 31)).toInt32).toInt ≠ (0 : Int) := ne_z rfl (show (0 : Int32).toInt = (0 : Int) by decide) h67
        refine lv_iload hx hb dX13_byRegister_34 (lv_at hl 0 rfl) ?_
        refine lv_if_ne (tgt := 45) hx hb dX13_byRegister_36 (by decide) (fun _ => ?_) (fun k70 => absurd k70 (by decide))
        refine lv_iload_n hx hb dX13_byRegister_45 rfl (lv_at hl 5 rfl) ?_
        by_cases h71 : pc1 = 0
        · refine lv_tableIn (off := 42) (tgt := 88) hx hb dX13_byRegister_46 (by rw [h71]; decide) (by rw [h71]; decide) (by rw [h71]; decide) (by decide) ?_
          refine lv_aload_n hx hb dX13_byRegister_88 rfl (lv_at hl 2 rfl) ?_
          refine lv_iload_n hx hb dX13_byRegister_89 rfl (lv_at hl 4 rfl) ?_
          refine lv_iload hx hb dX13_byRegister_90 (lv_at hl 0 rfl) ?_
          refine lv_if_eq (tgt := 103) hx hb dX13_byRegister_92 (by decide) (fun k72 => absurd k72 (by decide)) (fun _ => ?_)
          refine lv_iload hx hb dX13_byRegister_95 (lv_at hl 6 rfl) ?_
          refine lv_iload hx hb dX13_byRegister_97 (lv_at hl 7 rfl) ?_
          refine lv_isub hx hb dX13_byRegister_99 ?_
          refine lv_goto (tgt := 108) hx hb dX13_byRegister_100 (by decide) ?_
          refine cu_v (rn_V (n := 2) (As := [.int pb, .int (pd - pe)]) (rest := []) hx hb hml hown ht hKK hFx hP hD hS hA (c_m_goes l dC dI cI cB cZ cJ cR tb s.heap.size ad N v pb (pd - pe) (show 0 ≤ pb.toInt ∧ pb.toInt < 32 from (om_325f1a4150 zr))) tw_216 tw_217 (by decide +kernel) rfl rfl ⟨Nat.le_of_ble_eq_true rfl, Nat.le_of_ble_eq_true rfl⟩ (List.range (mW ad N cI cZ cJ v).length) (rg_map _) (mW_nd _ _ _ _ _ _) rfl rfl rfl rfl hl.1 rfl (Nat.le_of_ble_eq_true rfl) dX13_byRegister_108 ⟨Nat.le_of_ble_eq_true rfl, Nat.le_of_ble_eq_true rfl⟩) hP hD hS hA (fun u74 H locs hw73 hP hD hS => ?_)
          have fr73 := hw73
          refine W.widen (k := 0) (n := 0) (Nat.le_refl _) (Nat.le_refl _) ?_
          refine lv_goto (tgt := 252) hx hb dX13_byRegister_111 (by decide) ?_
          exact W.vret hx hb hr (fun t ht9 hW => ⟨⟨u74, rfl, (FG.tr (FG.rf _) (FG.up fr73 (by decide) (by decide))), by rw [ht9]; exact hP, hD⟩, hS.F ht9⟩) hS.2.2 dX13_byRegister_252
        ·
          by_cases h76 : pc1 = 1
          · refine lv_tableIn (off := 68) (tgt := 114) hx hb dX13_byRegister_46 (by rw [h76]; decide) (by rw [h76]; decide) (by rw [h76]; decide) (by decide) ?_
            refine lv_aload_n hx hb dX13_byRegister_114 rfl (lv_at hl 2 rfl) ?_
            refine lv_iload_n hx hb dX13_byRegister_115 rfl (lv_at hl 4 rfl) ?_
            refine lv_iload hx hb dX13_byRegister_116 (lv_at hl 6 rfl) ?_
            refine lv_iload hx hb dX13_byRegister_118 (lv_at hl 7 rfl) ?_
            refine lv_bipush (v := 31) hx hb dX13_byRegister_120 (by decide) ?_
            refine lv_iand hx hb dX13_byRegister_122 ?_
            refine lv_ishl hx hb dX13_byRegister_123 ?_
            refine cu_v (rn_V (n := 2) (As := [.int pb, .int (pd <<< ((pe &&& (31 : Int32)) &&& 31))]) (rest := []) hx hb hml hown ht hKK hFx hP hD hS hA (c_m_goes l dC dI cI cB cZ cJ cR tb s.heap.size ad N v pb (pd <<< ((pe &&& (31 : Int32)) &&& 31)) (show 0 ≤ pb.toInt ∧ pb.toInt < 32 from (om_325f1a4150 zr))) tw_216 tw_217 (by decide +kernel) rfl rfl ⟨Nat.le_of_ble_eq_true rfl, Nat.le_of_ble_eq_true rfl⟩ (List.range (mW ad N cI cZ cJ v).length) (rg_map _) (mW_nd _ _ _ _ _ _) rfl rfl rfl rfl hl.1 rfl (Nat.le_of_ble_eq_true rfl) dX13_byRegister_124 ⟨Nat.le_of_ble_eq_true rfl, Nat.le_of_ble_eq_true rfl⟩) hP hD hS hA (fun u78 H locs hw77 hP hD hS => ?_)
            have fr77 := hw77
            refine W.widen (k := 0) (n := 0) (Nat.le_refl _) (Nat.le_refl _) ?_
            refine lv_goto (tgt := 252) hx hb dX13_byRegister_127 (by decide) ?_
            exact W.vret hx hb hr (fun t ht9 hW => ⟨⟨u78, rfl, (FG.tr (FG.rf _) (FG.up fr77 (by decide) (by decide))), by rw [ht9]; exact hP, hD⟩, hS.F ht9⟩) hS.2.2 dX13_byRegister_252
          ·
            by_cases h80 : pc1 = 2
            · refine lv_tableIn (off := 84) (tgt := 130) hx hb dX13_byRegister_46 (by rw [h80]; decide) (by rw [h80]; decide) (by rw [h80]; decide) (by decide) ?_
              refine lv_aload_n hx hb dX13_byRegister_130 rfl (lv_at hl 2 rfl) ?_
              refine lv_iload_n hx hb dX13_byRegister_131 rfl (lv_at hl 4 rfl) ?_
              refine lv_iload hx hb dX13_byRegister_132 (lv_at hl 6 rfl) ?_
              refine lv_iload hx hb dX13_byRegister_134 (lv_at hl 7 rfl) ?_
              refine lv_icmp_ge (tgt := 143) hx hb dX13_byRegister_136 (by decide) (fun h81 => ?_) (fun h81 => ?_)
              · have z82 : pe.toInt ≤ pd.toInt := le_z rfl rfl h81
                refine lv_iconst (v := 0) hx hb dX13_byRegister_143 (by decide) ?_
                refine cu_s (mW_nd _ _ _ _ _ _) (rn_S (n := 1) (As := [.int 0]) (rest := [.int pb, .ref (ad 0)]) hx hb hml hown ht hKK hFx hP hD hS hA (c_m_less l dC dI cI cB cZ cJ cR tb s.heap.size (0 : Int32) ) tw_222 tw_223 (by decide +kernel) rfl rfl ⟨Nat.le_of_ble_eq_true rfl, Nat.le_of_ble_eq_true rfl⟩ [] rfl rfl rfl hl.1 rfl (Nat.le_of_ble_eq_true rfl) dX13_byRegister_144 ⟨Nat.le_of_ble_eq_true rfl, Nat.le_of_ble_eq_true rfl⟩) hP hD hS hA (fun r85 H locs hw83 hP hD hS => ?_)
                have ex83 := hw83
                refine W.widen (k := 0) (n := 0) (Nat.le_refl _) (Nat.le_refl _) ?_
                refine cu_v (rn_V (n := 2) (As := [.int pb, .int r85]) (rest := []) hx hb hml hown ht hKK hFx hP hD hS hA (c_m_goes l dC dI cI cB cZ cJ cR tb H.size ad N v pb r85 (show 0 ≤ pb.toInt ∧ pb.toInt < 32 from (om_325f1a4150 zr))) tw_216 tw_217 (by decide +kernel) rfl rfl ⟨Nat.le_of_ble_eq_true rfl, Nat.le_of_ble_eq_true rfl⟩ (List.range (mW ad N cI cZ cJ v).length) (rg_map _) (mW_nd _ _ _ _ _ _) rfl rfl rfl rfl hl.1 rfl (Nat.le_of_ble_eq_true rfl) dX13_byRegister_147 ⟨Nat.le_of_ble_eq_true rfl, Nat.le_of_ble_eq_true rfl⟩) hP hD hS hA (fun u87 H locs hw86 hP hD hS => ?_)
                have fr86 := hw86
                refine W.widen (k := 0) (n := 0) (Nat.le_refl _) (Nat.le_refl _) ?_
                refine lv_goto (tgt := 252) hx hb dX13_byRegister_150 (by decide) ?_
                exact W.vret hx hb hr (fun t ht9 hW => ⟨⟨u87, rfl, (FG.tr (FG.rf _) (FG.up fr86 (by decide) (by decide))), by rw [ht9]; exact hP, hD⟩, hS.F ht9⟩) hS.2.2 dX13_byRegister_252
              · have z89 : pd.toInt < pe.toInt := nle_z rfl rfl h81
                refine lv_iconst (v := 1) hx hb dX13_byRegister_139 (by decide) ?_
                refine lv_goto (tgt := 144) hx hb dX13_byRegister_140 (by decide) ?_
                refine cu_s (mW_nd _ _ _ _ _ _) (rn_S (n := 1) (As := [.int 1]) (rest := [.int pb, .ref (ad 0)]) hx hb hml hown ht hKK hFx hP hD hS hA (c_m_less l dC dI cI cB cZ cJ cR tb s.heap.size (1 : Int32) ) tw_222 tw_223 (by decide +kernel) rfl rfl ⟨Nat.le_of_ble_eq_true rfl, Nat.le_of_ble_eq_true rfl⟩ [] rfl rfl rfl hl.1 rfl (Nat.le_of_ble_eq_true rfl) dX13_byRegister_144 ⟨Nat.le_of_ble_eq_true rfl, Nat.le_of_ble_eq_true rfl⟩) hP hD hS hA (fun r92 H locs hw90 hP hD hS => ?_)
                have ex90 := hw90
                refine W.widen (k := 0) (n := 0) (Nat.le_refl _) (Nat.le_refl _) ?_
                refine cu_v (rn_V (n := 2) (As := [.int pb, .int r92]) (rest := []) hx hb hml hown ht hKK hFx hP hD hS hA (c_m_goes l dC dI cI cB cZ cJ cR tb H.size ad N v pb r92 (show 0 ≤ pb.toInt ∧ pb.toInt < 32 from (om_325f1a4150 zr))) tw_216 tw_217 (by decide +kernel) rfl rfl ⟨Nat.le_of_ble_eq_true rfl, Nat.le_of_ble_eq_true rfl⟩ (List.range (mW ad N cI cZ cJ v).length) (rg_map _) (mW_nd _ _ _ _ _ _) rfl rfl rfl rfl hl.1 rfl (Nat.le_of_ble_eq_true rfl) dX13_byRegister_147 ⟨Nat.le_of_ble_eq_true rfl, Nat.le_of_ble_eq_true rfl⟩) hP hD hS hA (fun u94 H locs hw93 hP hD hS => ?_)
                have fr93 := hw93
                refine W.widen (k := 0) (n := 0) (Nat.le_refl _) (Nat.le_refl _) ?_
                refine lv_goto (tgt := 252) hx hb dX13_byRegister_150 (by decide) ?_
                exact W.vret hx hb hr (fun t ht9 hW => ⟨⟨u94, rfl, (FG.tr (FG.rf _) (FG.up fr93 (by decide) (by decide))), by rw [ht9]; exact hP, hD⟩, hS.F ht9⟩) hS.2.2 dX13_byRegister_252
            ·
              by_cases h96 : pc1 = 3
              · refine lv_tableIn (off := 107) (tgt := 153) hx hb dX13_byRegister_46 (by rw [h96]; decide) (by rw [h96]; decide) (by rw [h96]; decide) (by decide) ?_
                refine lv_aload_n hx hb dX13_byRegister_153 rfl (lv_at hl 2 rfl) ?_
                refine lv_iload_n hx hb dX13_byRegister_154 rfl (lv_at hl 4 rfl) ?_
                refine lv_iload hx hb dX13_byRegister_155 (lv_at hl 6 rfl) ?_
                refine lv_ldcw (v := -2147483648) hx hb hown (ht _ tw_211) dX13_byRegister_157 ?_
                refine lv_iadd hx hb dX13_byRegister_160 ?_
                refine lv_iload hx hb dX13_byRegister_161 (lv_at hl 7 rfl) ?_
                refine lv_ldcw (v := -2147483648) hx hb hown (ht _ tw_211) dX13_byRegister_163 ?_
                refine lv_iadd hx hb dX13_byRegister_166 ?_
                refine lv_icmp_ge (tgt := 174) hx hb dX13_byRegister_167 (by decide) (fun h97 => ?_) (fun h97 => ?_)
                · have z98 : (pe + ((-2147483648) : Int32)).toInt ≤ (pd + ((-2147483648) : Int32)).toInt := le_z rfl rfl h97
                  refine lv_iconst (v := 0) hx hb dX13_byRegister_174 (by decide) ?_
                  refine cu_s (mW_nd _ _ _ _ _ _) (rn_S (n := 1) (As := [.int 0]) (rest := [.int pb, .ref (ad 0)]) hx hb hml hown ht hKK hFx hP hD hS hA (c_m_less l dC dI cI cB cZ cJ cR tb s.heap.size (0 : Int32) ) tw_222 tw_223 (by decide +kernel) rfl rfl ⟨Nat.le_of_ble_eq_true rfl, Nat.le_of_ble_eq_true rfl⟩ [] rfl rfl rfl hl.1 rfl (Nat.le_of_ble_eq_true rfl) dX13_byRegister_175 ⟨Nat.le_of_ble_eq_true rfl, Nat.le_of_ble_eq_true rfl⟩) hP hD hS hA (fun r101 H locs hw99 hP hD hS => ?_)
                  have ex99 := hw99
                  refine W.widen (k := 0) (n := 0) (Nat.le_refl _) (Nat.le_refl _) ?_
                  refine cu_v (rn_V (n := 2) (As := [.int pb, .int r101]) (rest := []) hx hb hml hown ht hKK hFx hP hD hS hA (c_m_goes l dC dI cI cB cZ cJ cR tb H.size ad N v pb r101 (show 0 ≤ pb.toInt ∧ pb.toInt < 32 from (om_325f1a4150 zr))) tw_216 tw_217 (by decide +kernel) rfl rfl ⟨Nat.le_of_ble_eq_true rfl, Nat.le_of_ble_eq_true rfl⟩ (List.range (mW ad N cI cZ cJ v).length) (rg_map _) (mW_nd _ _ _ _ _ _) rfl rfl rfl rfl hl.1 rfl (Nat.le_of_ble_eq_true rfl) dX13_byRegister_178 ⟨Nat.le_of_ble_eq_true rfl, Nat.le_of_ble_eq_true rfl⟩) hP hD hS hA (fun u103 H locs hw102 hP hD hS => ?_)
                  have fr102 := hw102
                  refine W.widen (k := 0) (n := 0) (Nat.le_refl _) (Nat.le_refl _) ?_
                  refine lv_goto (tgt := 252) hx hb dX13_byRegister_181 (by decide) ?_
                  exact W.vret hx hb hr (fun t ht9 hW => ⟨⟨u103, rfl, (FG.tr (FG.rf _) (FG.up fr102 (by decide) (by decide))), by rw [ht9]; exact hP, hD⟩, hS.F ht9⟩) hS.2.2 dX13_byRegister_252
                · have z105 : (pd + ((-2147483648) : Int32)).toInt < (pe + ((-2147483648) : Int32)).toInt := nle_z rfl rfl h97
                  refine lv_iconst (v := 1) hx hb dX13_byRegister_170 (by decide) ?_
                  refine lv_goto (tgt := 175) hx hb dX13_byRegister_171 (by decide) ?_
                  refine cu_s (mW_nd _ _ _ _ _ _) (rn_S (n := 1) (As := [.int 1]) (rest := [.int pb, .ref (ad 0)]) hx hb hml hown ht hKK hFx hP hD hS hA (c_m_less l dC dI cI cB cZ cJ cR tb s.heap.size (1 : Int32) ) tw_222 tw_223 (by decide +kernel) rfl rfl ⟨Nat.le_of_ble_eq_true rfl, Nat.le_of_ble_eq_true rfl⟩ [] rfl rfl rfl hl.1 rfl (Nat.le_of_ble_eq_true rfl) dX13_byRegister_175 ⟨Nat.le_of_ble_eq_true rfl, Nat.le_of_ble_eq_true rfl⟩) hP hD hS hA (fun r108 H locs hw106 hP hD hS => ?_)
                  have ex106 := hw106
                  refine W.widen (k := 0) (n := 0) (Nat.le_refl _) (Nat.le_refl _) ?_
                  refine cu_v (rn_V (n := 2) (As := [.int pb, .int r108]) (rest := []) hx hb hml hown ht hKK hFx hP hD hS hA (c_m_goes l dC dI cI cB cZ cJ cR tb H.size ad N v pb r108 (show 0 ≤ pb.toInt ∧ pb.toInt < 32 from (om_325f1a4150 zr))) tw_216 tw_217 (by decide +kernel) rfl rfl ⟨Nat.le_of_ble_eq_true rfl, Nat.le_of_ble_eq_true rfl⟩ (List.range (mW ad N cI cZ cJ v).length) (rg_map _) (mW_nd _ _ _ _ _ _) rfl rfl rfl rfl hl.1 rfl (Nat.le_of_ble_eq_true rfl) dX13_byRegister_178 ⟨Nat.le_of_ble_eq_true rfl, Nat.le_of_ble_eq_true rfl⟩) hP hD hS hA (fun u110 H locs hw109 hP hD hS => ?_)
                  have fr109 := hw109
                  refine W.widen (k := 0) (n := 0) (Nat.le_refl _) (Nat.le_refl _) ?_
                  refine lv_goto (tgt := 252) hx hb dX13_byRegister_181 (by decide) ?_
                  exact W.vret hx hb hr (fun t ht9 hW => ⟨⟨u110, rfl, (FG.tr (FG.rf _) (FG.up fr109 (by decide) (by decide))), by rw [ht9]; exact hP, hD⟩, hS.F ht9⟩) hS.2.2 dX13_byRegister_252
              ·
                by_cases h112 : pc1 = 4
                · refine lv_tableIn (off := 138) (tgt := 184) hx hb dX13_byRegister_46 (by rw [h112]; decide) (by rw [h112]; decide) (by rw [h112]; decide) (by decide) ?_
                  refine lv_aload_n hx hb dX13_byRegister_184 rfl (lv_at hl 2 rfl) ?_
                  refine lv_iload_n hx hb dX13_byRegister_185 rfl (lv_at hl 4 rfl) ?_
                  refine lv_iload hx hb dX13_byRegister_186 (lv_at hl 6 rfl) ?_
                  refine lv_iload hx hb dX13_byRegister_188 (lv_at hl 7 rfl) ?_
                  refine lv_ixor hx hb dX13_byRegister_190 ?_
                  refine cu_v (rn_V (n := 2) (As := [.int pb, .int (pd ^^^ pe)]) (rest := []) hx hb hml hown ht hKK hFx hP hD hS hA (c_m_goes l dC dI cI cB cZ cJ cR tb s.heap.size ad N v pb (pd ^^^ pe) (show 0 ≤ pb.toInt ∧ pb.toInt < 32 from (om_325f1a4150 zr))) tw_216 tw_217 (by decide +kernel) rfl rfl ⟨Nat.le_of_ble_eq_true rfl, Nat.le_of_ble_eq_true rfl⟩ (List.range (mW ad N cI cZ cJ v).length) (rg_map _) (mW_nd _ _ _ _ _ _) rfl rfl rfl rfl hl.1 rfl (Nat.le_of_ble_eq_true rfl) dX13_byRegister_191 ⟨Nat.le_of_ble_eq_true rfl, Nat.le_of_ble_eq_true rfl⟩) hP hD hS hA (fun u114 H locs hw113 hP hD hS => ?_)
                  have fr113 := hw113
                  refine W.widen (k := 0) (n := 0) (Nat.le_refl _) (Nat.le_refl _) ?_
                  refine lv_goto (tgt := 252) hx hb dX13_byRegister_194 (by decide) ?_
                  exact W.vret hx hb hr (fun t ht9 hW => ⟨⟨u114, rfl, (FG.tr (FG.rf _) (FG.up fr113 (by decide) (by decide))), by rw [ht9]; exact hP, hD⟩, hS.F ht9⟩) hS.2.2 dX13_byRegister_252
                ·
                  by_cases h116 : pc1 = 5
                  · refine lv_tableIn (off := 151) (tgt := 197) hx hb dX13_byRegister_46 (by rw [h116]; decide) (by rw [h116]; decide) (by rw [h116]; decide) (by decide) ?_
                    refine lv_aload_n hx hb dX13_byRegister_197 rfl (lv_at hl 2 rfl) ?_
                    refine lv_iload_n hx hb dX13_byRegister_198 rfl (lv_at hl 4 rfl) ?_
                    refine lv_iload hx hb dX13_byRegister_199 (lv_at hl 0 rfl) ?_
                    refine lv_if_eq (tgt := 215) hx hb dX13_byRegister_201 (by decide) (fun k117 => absurd k117 (by decide)) (fun _ => ?_)
                    refine lv_iload hx hb dX13_byRegister_204 (lv_at hl 6 rfl) ?_
                    refine lv_iload hx hb dX13_byRegister_206 (lv_at hl 7 rfl) ?_
                    refine lv_bipush (v := 31) hx hb dX13_byRegister_208 (by decide) ?_
                    refine lv_iand hx hb dX13_byRegister_210 ?_
                    refine lv_ishr hx hb dX13_byRegister_211 ?_
                    refine lv_goto (tgt := 223) hx hb dX13_byRegister_212 (by decide) ?_
                    refine cu_v (rn_V (n := 2) (As := [.int pb, .int (pd >>> ((pe &&& (31 : Int32)) &&& 31))]) (rest := []) hx hb hml hown ht hKK hFx hP hD hS hA (c_m_goes l dC dI cI cB cZ cJ cR tb s.heap.size ad N v pb (pd >>> ((pe &&& (31 : Int32)) &&& 31)) (show 0 ≤ pb.toInt ∧ pb.toInt < 32 from (om_325f1a4150 zr))) tw_216 tw_217 (by decide +kernel) rfl rfl ⟨Nat.le_of_ble_eq_true rfl, Nat.le_of_ble_eq_true rfl⟩ (List.range (mW ad N cI cZ cJ v).length) (rg_map _) (mW_nd _ _ _ _ _ _) rfl rfl rfl rfl hl.1 rfl (Nat.le_of_ble_eq_true rfl) dX13_byRegister_223 ⟨Nat.le_of_ble_eq_true rfl, Nat.le_of_ble_eq_true rfl⟩) hP hD hS hA (fun u119 H locs hw118 hP hD hS => ?_)
                    have fr118 := hw118
                    refine W.widen (k := 0) (n := 0) (Nat.le_refl _) (Nat.le_refl _) ?_
                    refine lv_goto (tgt := 252) hx hb dX13_byRegister_226 (by decide) ?_
                    exact W.vret hx hb hr (fun t ht9 hW => ⟨⟨u119, rfl, (FG.tr (FG.rf _) (FG.up fr118 (by decide) (by decide))), by rw [ht9]; exact hP, hD⟩, hS.F ht9⟩) hS.2.2 dX13_byRegister_252
                  ·
                    by_cases h121 : pc1 = 6
                    · refine lv_tableIn (off := 183) (tgt := 229) hx hb dX13_byRegister_46 (by rw [h121]; decide) (by rw [h121]; decide) (by rw [h121]; decide) (by decide) ?_
                      refine lv_aload_n hx hb dX13_byRegister_229 rfl (lv_at hl 2 rfl) ?_
                      refine lv_iload_n hx hb dX13_byRegister_230 rfl (lv_at hl 4 rfl) ?_
                      refine lv_iload hx hb dX13_byRegister_231 (lv_at hl 6 rfl) ?_
                      refine lv_iload hx hb dX13_byRegister_233 (lv_at hl 7 rfl) ?_
                      refine lv_ior hx hb dX13_byRegister_235 ?_
                      refine cu_v (rn_V (n := 2) (As := [.int pb, .int (pd ||| pe)]) (rest := []) hx hb hml hown ht hKK hFx hP hD hS hA (c_m_goes l dC dI cI cB cZ cJ cR tb s.heap.size ad N v pb (pd ||| pe) (show 0 ≤ pb.toInt ∧ pb.toInt < 32 from (om_325f1a4150 zr))) tw_216 tw_217 (by decide +kernel) rfl rfl ⟨Nat.le_of_ble_eq_true rfl, Nat.le_of_ble_eq_true rfl⟩ (List.range (mW ad N cI cZ cJ v).length) (rg_map _) (mW_nd _ _ _ _ _ _) rfl rfl rfl rfl hl.1 rfl (Nat.le_of_ble_eq_true rfl) dX13_byRegister_236 ⟨Nat.le_of_ble_eq_true rfl, Nat.le_of_ble_eq_true rfl⟩) hP hD hS hA (fun u123 H locs hw122 hP hD hS => ?_)
                      have fr122 := hw122
                      refine W.widen (k := 0) (n := 0) (Nat.le_refl _) (Nat.le_refl _) ?_
                      refine lv_goto (tgt := 252) hx hb dX13_byRegister_239 (by decide) ?_
                      exact W.vret hx hb hr (fun t ht9 hW => ⟨⟨u123, rfl, (FG.tr (FG.rf _) (FG.up fr122 (by decide) (by decide))), by rw [ht9]; exact hP, hD⟩, hS.F ht9⟩) hS.2.2 dX13_byRegister_252
                    ·
                      refine lv_tableOut (tgt := 242) hx hb dX13_byRegister_46 (by have := lv_neT h71 (a := 0) (by decide); have := lv_neT h76 (a := 1) (by decide); have := lv_neT h80 (a := 2) (by decide); have := lv_neT h96 (a := 3) (by decide); have := lv_neT h112 (a := 4) (by decide); have := lv_neT h116 (a := 5) (by decide); have := lv_neT h121 (a := 6) (by decide); omega) (by decide) ?_
                      refine lv_aload_n hx hb dX13_byRegister_242 rfl (lv_at hl 2 rfl) ?_
                      refine lv_iload_n hx hb dX13_byRegister_243 rfl (lv_at hl 4 rfl) ?_
                      refine lv_iload hx hb dX13_byRegister_244 (lv_at hl 6 rfl) ?_
                      refine lv_iload hx hb dX13_byRegister_246 (lv_at hl 7 rfl) ?_
                      refine lv_iand hx hb dX13_byRegister_248 ?_
                      refine cu_v (rn_V (n := 2) (As := [.int pb, .int (pd &&& pe)]) (rest := []) hx hb hml hown ht hKK hFx hP hD hS hA (c_m_goes l dC dI cI cB cZ cJ cR tb s.heap.size ad N v pb (pd &&& pe) (show 0 ≤ pb.toInt ∧ pb.toInt < 32 from (om_325f1a4150 zr))) tw_216 tw_217 (by decide +kernel) rfl rfl ⟨Nat.le_of_ble_eq_true rfl, Nat.le_of_ble_eq_true rfl⟩ (List.range (mW ad N cI cZ cJ v).length) (rg_map _) (mW_nd _ _ _ _ _ _) rfl rfl rfl rfl hl.1 rfl (Nat.le_of_ble_eq_true rfl) dX13_byRegister_249 ⟨Nat.le_of_ble_eq_true rfl, Nat.le_of_ble_eq_true rfl⟩) hP hD hS hA (fun u126 H locs hw125 hP hD hS => ?_)
                      have fr125 := hw125
                      refine W.widen (k := 0) (n := 0) (Nat.le_refl _) (Nat.le_refl _) ?_
                      exact W.vret hx hb hr (fun t ht9 hW => ⟨⟨u126, rfl, (FG.tr (FG.rf _) (FG.up fr125 (by decide) (by decide))), by rw [ht9]; exact hP, hD⟩, hS.F ht9⟩) hS.2.2 dX13_byRegister_252
    · have z128 : pc1.toInt ≠ (0 : Int) := ne_z rfl (show (0 : Int32).toInt = (0 : Int) by decide) h65
      refine lv_iload_n hx hb dX13_byRegister_17 rfl (lv_at hl 4 rfl) ?_
      refine lv_iconst (v := 5) hx hb dX13_byRegister_18 (by decide) ?_
      refine lv_icmp_ne (tgt := 26) hx hb dX13_byRegister_19 (by decide) (fun h129 => ?_) (fun h129 => ?_)
      · have z130 : pc1.toInt ≠ (5 : Int) := ne_z rfl (show (5 : Int32).toInt = (5 : Int) by decide) h129
        refine lv_iconst (v := 0) hx hb dX13_byRegister_26 (by decide) ?_
        refine lv_istore (lv' := [(7, .int 0), (6, .int ((pa.toUInt32 >>> ((25 : Int32).toUInt32 &&& Int32.toUInt32 31)).toInt32)), (0, .ref (ad 0)), (1, .int pa), (2, .int pb), (3, .int pc1), (4, .int pd), (5, .int pe)]) hx hb dX13_byRegister_27 hl (by decide) rfl (fun ls hl => ?_)
        refine lv_iload hx hb dX13_byRegister_29 (lv_at hl 1 rfl) ?_
        refine lv_if_eq (tgt := 45) hx hb dX13_byRegister_31 (by decide) (fun h131 => ?_) (fun h131 => ?_)
        · have z132 : ((pa.toUInt32 >>> ((25 : Int32).toUInt32 &&& Int32.toUInt32 31)).toInt32).toInt = (0 : Int) := eq_z rfl (show (0 : Int32).toInt = (0 : Int) by decide) h131
          exact False.elim (om_5bc35a373d z64 z132)
        · have z133 : ((pa.toUInt32 >>> ((25 : Int32).toUInt32 &&& Int32.toUInt32 31)).toInt32).toInt ≠ (0 : Int) := ne_z rfl (show (0 : Int32).toInt = (0 : Int) by decide) h131
          refine lv_iload hx hb dX13_byRegister_34 (lv_at hl 0 rfl) ?_
          refine lv_if_ne (tgt := 45) hx hb dX13_byRegister_36 (by decide) (fun k134 => absurd k134 (by decide)) (fun _ => ?_)
          refine lv_aload_n hx hb dX13_byRegister_39 rfl (lv_at hl 2 rfl) ?_
          refine lv_iconst (v := 2) hx hb dX13_byRegister_40 (by decide) ?_
          refine va_put (D := (dC, dI)) (ci := 16) (fs := mF ad v) (v := .int 2) (ty := .int) (C := RX13) (T := TX13) (N := 124) hx hb ht itX13 tyX13 tyX13_ok nmX13 hown hK hP hD hS 0 rfl rfl 99 (by decide) (ht _ tw_210) (fun _ h9 => h9) rfl (by decide +kernel) rfl rfl (Nat.le_of_ble_eq_true rfl) dX13_byRegister_41 (fun H locs hP hD hS => ?_)
          have hP := cP_ (mw_99 ad N cI cZ cJ v 2) hP
          have hD := cD_ (mw_99 ad N cI cZ cJ v 2) hD
          exact W.vret hx hb hr (fun t ht9 hW => ⟨⟨(wA v 0 99 2), rfl, (FG.f (FG.rf _) 2 (by decide)), by rw [ht9]; exact hP, hD⟩, hS.F ht9⟩) hS.2.2 dX13_byRegister_44
      · have z135 : pc1.toInt = (5 : Int) := eq_z rfl (show (5 : Int32).toInt = (5 : Int) by decide) h129
        refine lv_iconst (v := 1) hx hb dX13_byRegister_22 (by decide) ?_
        refine lv_goto (tgt := 27) hx hb dX13_byRegister_23 (by decide) ?_
        refine lv_istore (lv' := [(7, .int 1), (6, .int ((pa.toUInt32 >>> ((25 : Int32).toUInt32 &&& Int32.toUInt32 31)).toInt32)), (0, .ref (ad 0)), (1, .int pa), (2, .int pb), (3, .int pc1), (4, .int pd), (5, .int pe)]) hx hb dX13_byRegister_27 hl (by decide) rfl (fun ls hl => ?_)
        refine lv_iload hx hb dX13_byRegister_29 (lv_at hl 1 rfl) ?_
        refine lv_if_eq (tgt := 45) hx hb dX13_byRegister_31 (by decide) (fun h136 => ?_) (fun h136 => ?_)
        · have z137 : ((pa.toUInt32 >>> ((25 : Int32).toUInt32 &&& Int32.toUInt32 31)).toInt32).toInt = (0 : Int) := eq_z rfl (show (0 : Int32).toInt = (0 : Int) by decide) h136
          exact False.elim (om_5bc35a373d z64 z137)
        · have z138 : ((pa.toUInt32 >>> ((25 : Int32).toUInt32 &&& Int32.toUInt32 31)).toInt32).toInt ≠ (0 : Int) := ne_z rfl (show (0 : Int32).toInt = (0 : Int) by decide) h136
          refine lv_iload hx hb dX13_byRegister_34 (lv_at hl 0 rfl) ?_
          refine lv_if_ne (tgt := 45) hx hb dX13_byRegister_36 (by decide) (fun _ => ?_) (fun k139 => absurd k139 (by decide))
          refine lv_iload_n hx hb dX13_byRegister_45 rfl (lv_at hl 5 rfl) ?_
          by_cases h140 : pc1 = 0
          · refine lv_tableIn (off := 42) (tgt := 88) hx hb dX13_byRegister_46 (by rw [h140]; decide) (by rw [h140]; decide) (by rw [h140]; decide) (by decide) ?_
            refine lv_aload_n hx hb dX13_byRegister_88 rfl (lv_at hl 2 rfl) ?_
            refine lv_iload_n hx hb dX13_byRegister_89 rfl (lv_at hl 4 rfl) ?_
            refine lv_iload hx hb dX13_byRegister_90 (lv_at hl 0 rfl) ?_
            refine lv_if_eq (tgt := 103) hx hb dX13_byRegister_92 (by decide) (fun k141 => absurd k141 (by decide)) (fun _ => ?_)
            refine lv_iload hx hb dX13_byRegister_95 (lv_at hl 6 rfl) ?_
            refine lv_iload hx hb dX13_byRegister_97 (lv_at hl 7 rfl) ?_
            refine lv_isub hx hb dX13_byRegister_99 ?_
            refine lv_goto (tgt := 108) hx hb dX13_byRegister_100 (by decide) ?_
            refine cu_v (rn_V (n := 2) (As := [.int pb, .int (pd - pe)]) (rest := []) hx hb hml hown ht hKK hFx hP hD hS hA (c_m_goes l dC dI cI cB cZ cJ cR tb s.heap.size ad N v pb (pd - pe) (show 0 ≤ pb.toInt ∧ pb.toInt < 32 from (om_325f1a4150 zr))) tw_216 tw_217 (by decide +kernel) rfl rfl ⟨Nat.le_of_ble_eq_true rfl, Nat.le_of_ble_eq_true rfl⟩ (List.range (mW ad N cI cZ cJ v).length) (rg_map _) (mW_nd _ _ _ _ _ _) rfl rfl rfl rfl hl.1 rfl (Nat.le_of_ble_eq_true rfl) dX13_byRegister_108 ⟨Nat.le_of_ble_eq_true rfl, Nat.le_of_ble_eq_true rfl⟩) hP hD hS hA (fun u143 H locs hw142 hP hD hS => ?_)
            have fr142 := hw142
            refine W.widen (k := 0) (n := 0) (Nat.le_refl _) (Nat.le_refl _) ?_
            refine lv_goto (tgt := 252) hx hb dX13_byRegister_111 (by decide) ?_
            exact W.vret hx hb hr (fun t ht9 hW => ⟨⟨u143, rfl, (FG.tr (FG.rf _) (FG.up fr142 (by decide) (by decide))), by rw [ht9]; exact hP, hD⟩, hS.F ht9⟩) hS.2.2 dX13_byRegister_252
          ·
            by_cases h145 : pc1 = 1
            · refine lv_tableIn (off := 68) (tgt := 114) hx hb dX13_byRegister_46 (by rw [h145]; decide) (by rw [h145]; decide) (by rw [h145]; decide) (by decide) ?_
              refine lv_aload_n hx hb dX13_byRegister_114 rfl (lv_at hl 2 rfl) ?_
              refine lv_iload_n hx hb dX13_byRegister_115 rfl (lv_at hl 4 rfl) ?_
              refine lv_iload hx hb dX13_byRegister_116 (lv_at hl 6 rfl) ?_
              refine lv_iload hx hb dX13_byRegister_118 (lv_at hl 7 rfl) ?_
              refine lv_bipush (v := 31) hx hb dX13_byRegister_120 (by decide) ?_
              refine lv_iand hx hb dX13_byRegister_122 ?_
              refine lv_ishl hx hb dX13_byRegister_123 ?_
              refine cu_v (rn_V (n := 2) (As := [.int pb, .int (pd <<< ((pe &&& (31 : Int32)) &&& 31))]) (rest := []) hx hb hml hown ht hKK hFx hP hD hS hA (c_m_goes l dC dI cI cB cZ cJ cR tb s.heap.size ad N v pb (pd <<< ((pe &&& (31 : Int32)) &&& 31)) (show 0 ≤ pb.toInt ∧ pb.toInt < 32 from (om_325f1a4150 zr))) tw_216 tw_217 (by decide +kernel) rfl rfl ⟨Nat.le_of_ble_eq_true rfl, Nat.le_of_ble_eq_true rfl⟩ (List.range (mW ad N cI cZ cJ v).length) (rg_map _) (mW_nd _ _ _ _ _ _) rfl rfl rfl rfl hl.1 rfl (Nat.le_of_ble_eq_true rfl) dX13_byRegister_124 ⟨Nat.le_of_ble_eq_true rfl, Nat.le_of_ble_eq_true rfl⟩) hP hD hS hA (fun u147 H locs hw146 hP hD hS => ?_)
              have fr146 := hw146
              refine W.widen (k := 0) (n := 0) (Nat.le_refl _) (Nat.le_refl _) ?_
              refine lv_goto (tgt := 252) hx hb dX13_byRegister_127 (by decide) ?_
              exact W.vret hx hb hr (fun t ht9 hW => ⟨⟨u147, rfl, (FG.tr (FG.rf _) (FG.up fr146 (by decide) (by decide))), by rw [ht9]; exact hP, hD⟩, hS.F ht9⟩) hS.2.2 dX13_byRegister_252
            ·
              by_cases h149 : pc1 = 2
              · refine lv_tableIn (off := 84) (tgt := 130) hx hb dX13_byRegister_46 (by rw [h149]; decide) (by rw [h149]; decide) (by rw [h149]; decide) (by decide) ?_
                refine lv_aload_n hx hb dX13_byRegister_130 rfl (lv_at hl 2 rfl) ?_
                refine lv_iload_n hx hb dX13_byRegister_131 rfl (lv_at hl 4 rfl) ?_
                refine lv_iload hx hb dX13_byRegister_132 (lv_at hl 6 rfl) ?_
                refine lv_iload hx hb dX13_byRegister_134 (lv_at hl 7 rfl) ?_
                refine lv_icmp_ge (tgt := 143) hx hb dX13_byRegister_136 (by decide) (fun h150 => ?_) (fun h150 => ?_)
                · have z151 : pe.toInt ≤ pd.toInt := le_z rfl rfl h150
                  refine lv_iconst (v := 0) hx hb dX13_byRegister_143 (by decide) ?_
                  refine cu_s (mW_nd _ _ _ _ _ _) (rn_S (n := 1) (As := [.int 0]) (rest := [.int pb, .ref (ad 0)]) hx hb hml hown ht hKK hFx hP hD hS hA (c_m_less l dC dI cI cB cZ cJ cR tb s.heap.size (0 : Int32) ) tw_222 tw_223 (by decide +kernel) rfl rfl ⟨Nat.le_of_ble_eq_true rfl, Nat.le_of_ble_eq_true rfl⟩ [] rfl rfl rfl hl.1 rfl (Nat.le_of_ble_eq_true rfl) dX13_byRegister_144 ⟨Nat.le_of_ble_eq_true rfl, Nat.le_of_ble_eq_true rfl⟩) hP hD hS hA (fun r154 H locs hw152 hP hD hS => ?_)
                  have ex152 := hw152
                  refine W.widen (k := 0) (n := 0) (Nat.le_refl _) (Nat.le_refl _) ?_
                  refine cu_v (rn_V (n := 2) (As := [.int pb, .int r154]) (rest := []) hx hb hml hown ht hKK hFx hP hD hS hA (c_m_goes l dC dI cI cB cZ cJ cR tb H.size ad N v pb r154 (show 0 ≤ pb.toInt ∧ pb.toInt < 32 from (om_325f1a4150 zr))) tw_216 tw_217 (by decide +kernel) rfl rfl ⟨Nat.le_of_ble_eq_true rfl, Nat.le_of_ble_eq_true rfl⟩ (List.range (mW ad N cI cZ cJ v).length) (rg_map _) (mW_nd _ _ _ _ _ _) rfl rfl rfl rfl hl.1 rfl (Nat.le_of_ble_eq_true rfl) dX13_byRegister_147 ⟨Nat.le_of_ble_eq_true rfl, Nat.le_of_ble_eq_true rfl⟩) hP hD hS hA (fun u156 H locs hw155 hP hD hS => ?_)
                  have fr155 := hw155
                  refine W.widen (k := 0) (n := 0) (Nat.le_refl _) (Nat.le_refl _) ?_
                  refine lv_goto (tgt := 252) hx hb dX13_byRegister_150 (by decide) ?_
                  exact W.vret hx hb hr (fun t ht9 hW => ⟨⟨u156, rfl, (FG.tr (FG.rf _) (FG.up fr155 (by decide) (by decide))), by rw [ht9]; exact hP, hD⟩, hS.F ht9⟩) hS.2.2 dX13_byRegister_252
                · have z158 : pd.toInt < pe.toInt := nle_z rfl rfl h150
                  refine lv_iconst (v := 1) hx hb dX13_byRegister_139 (by decide) ?_
                  refine lv_goto (tgt := 144) hx hb dX13_byRegister_140 (by decide) ?_
                  refine cu_s (mW_nd _ _ _ _ _ _) (rn_S (n := 1) (As := [.int 1]) (rest := [.int pb, .ref (ad 0)]) hx hb hml hown ht hKK hFx hP hD hS hA (c_m_less l dC dI cI cB cZ cJ cR tb s.heap.size (1 : Int32) ) tw_222 tw_223 (by decide +kernel) rfl rfl ⟨Nat.le_of_ble_eq_true rfl, Nat.le_of_ble_eq_true rfl⟩ [] rfl rfl rfl hl.1 rfl (Nat.le_of_ble_eq_true rfl) dX13_byRegister_144 ⟨Nat.le_of_ble_eq_true rfl, Nat.le_of_ble_eq_true rfl⟩) hP hD hS hA (fun r161 H locs hw159 hP hD hS => ?_)
                  have ex159 := hw159
                  refine W.widen (k := 0) (n := 0) (Nat.le_refl _) (Nat.le_refl _) ?_
                  refine cu_v (rn_V (n := 2) (As := [.int pb, .int r161]) (rest := []) hx hb hml hown ht hKK hFx hP hD hS hA (c_m_goes l dC dI cI cB cZ cJ cR tb H.size ad N v pb r161 (show 0 ≤ pb.toInt ∧ pb.toInt < 32 from (om_325f1a4150 zr))) tw_216 tw_217 (by decide +kernel) rfl rfl ⟨Nat.le_of_ble_eq_true rfl, Nat.le_of_ble_eq_true rfl⟩ (List.range (mW ad N cI cZ cJ v).length) (rg_map _) (mW_nd _ _ _ _ _ _) rfl rfl rfl rfl hl.1 rfl (Nat.le_of_ble_eq_true rfl) dX13_byRegister_147 ⟨Nat.le_of_ble_eq_true rfl, Nat.le_of_ble_eq_true rfl⟩) hP hD hS hA (fun u163 H locs hw162 hP hD hS => ?_)
                  have fr162 := hw162
                  refine W.widen (k := 0) (n := 0) (Nat.le_refl _) (Nat.le_refl _) ?_
                  refine lv_goto (tgt := 252) hx hb dX13_byRegister_150 (by decide) ?_
                  exact W.vret hx hb hr (fun t ht9 hW => ⟨⟨u163, rfl, (FG.tr (FG.rf _) (FG.up fr162 (by decide) (by decide))), by rw [ht9]; exact hP, hD⟩, hS.F ht9⟩) hS.2.2 dX13_byRegister_252
              ·
                by_cases h165 : pc1 = 3
                · refine lv_tableIn (off := 107) (tgt := 153) hx hb dX13_byRegister_46 (by rw [h165]; decide) (by rw [h165]; decide) (by rw [h165]; decide) (by decide) ?_
                  refine lv_aload_n hx hb dX13_byRegister_153 rfl (lv_at hl 2 rfl) ?_
                  refine lv_iload_n hx hb dX13_byRegister_154 rfl (lv_at hl 4 rfl) ?_
                  refine lv_iload hx hb dX13_byRegister_155 (lv_at hl 6 rfl) ?_
                  refine lv_ldcw (v := -2147483648) hx hb hown (ht _ tw_211) dX13_byRegister_157 ?_
                  refine lv_iadd hx hb dX13_byRegister_160 ?_
                  refine lv_iload hx hb dX13_byRegister_161 (lv_at hl 7 rfl) ?_
                  refine lv_ldcw (v := -2147483648) hx hb hown (ht _ tw_211) dX13_byRegister_163 ?_
                  refine lv_iadd hx hb dX13_byRegister_166 ?_
                  refine lv_icmp_ge (tgt := 174) hx hb dX13_byRegister_167 (by decide) (fun h166 => ?_) (fun h166 => ?_)
                  · have z167 : (pe + ((-2147483648) : Int32)).toInt ≤ (pd + ((-2147483648) : Int32)).toInt := le_z rfl rfl h166
                    refine lv_iconst (v := 0) hx hb dX13_byRegister_174 (by decide) ?_
                    refine cu_s (mW_nd _ _ _ _ _ _) (rn_S (n := 1) (As := [.int 0]) (rest := [.int pb, .ref (ad 0)]) hx hb hml hown ht hKK hFx hP hD hS hA (c_m_less l dC dI cI cB cZ cJ cR tb s.heap.size (0 : Int32) ) tw_222 tw_223 (by decide +kernel) rfl rfl ⟨Nat.le_of_ble_eq_true rfl, Nat.le_of_ble_eq_true rfl⟩ [] rfl rfl rfl hl.1 rfl (Nat.le_of_ble_eq_true rfl) dX13_byRegister_175 ⟨Nat.le_of_ble_eq_true rfl, Nat.le_of_ble_eq_true rfl⟩) hP hD hS hA (fun r170 H locs hw168 hP hD hS => ?_)
                    have ex168 := hw168
                    refine W.widen (k := 0) (n := 0) (Nat.le_refl _) (Nat.le_refl _) ?_
                    refine cu_v (rn_V (n := 2) (As := [.int pb, .int r170]) (rest := []) hx hb hml hown ht hKK hFx hP hD hS hA (c_m_goes l dC dI cI cB cZ cJ cR tb H.size ad N v pb r170 (show 0 ≤ pb.toInt ∧ pb.toInt < 32 from (om_325f1a4150 zr))) tw_216 tw_217 (by decide +kernel) rfl rfl ⟨Nat.le_of_ble_eq_true rfl, Nat.le_of_ble_eq_true rfl⟩ (List.range (mW ad N cI cZ cJ v).length) (rg_map _) (mW_nd _ _ _ _ _ _) rfl rfl rfl rfl hl.1 rfl (Nat.le_of_ble_eq_true rfl) dX13_byRegister_178 ⟨Nat.le_of_ble_eq_true rfl, Nat.le_of_ble_eq_true rfl⟩) hP hD hS hA (fun u172 H locs hw171 hP hD hS => ?_)
                    have fr171 := hw171
                    refine W.widen (k := 0) (n := 0) (Nat.le_refl _) (Nat.le_refl _) ?_
                    refine lv_goto (tgt := 252) hx hb dX13_byRegister_181 (by decide) ?_
                    exact W.vret hx hb hr (fun t ht9 hW => ⟨⟨u172, rfl, (FG.tr (FG.rf _) (FG.up fr171 (by decide) (by decide))), by rw [ht9]; exact hP, hD⟩, hS.F ht9⟩) hS.2.2 dX13_byRegister_252
                  · have z174 : (pd + ((-2147483648) : Int32)).toInt < (pe + ((-2147483648) : Int32)).toInt := nle_z rfl rfl h166
                    refine lv_iconst (v := 1) hx hb dX13_byRegister_170 (by decide) ?_
                    refine lv_goto (tgt := 175) hx hb dX13_byRegister_171 (by decide) ?_
                    refine cu_s (mW_nd _ _ _ _ _ _) (rn_S (n := 1) (As := [.int 1]) (rest := [.int pb, .ref (ad 0)]) hx hb hml hown ht hKK hFx hP hD hS hA (c_m_less l dC dI cI cB cZ cJ cR tb s.heap.size (1 : Int32) ) tw_222 tw_223 (by decide +kernel) rfl rfl ⟨Nat.le_of_ble_eq_true rfl, Nat.le_of_ble_eq_true rfl⟩ [] rfl rfl rfl hl.1 rfl (Nat.le_of_ble_eq_true rfl) dX13_byRegister_175 ⟨Nat.le_of_ble_eq_true rfl, Nat.le_of_ble_eq_true rfl⟩) hP hD hS hA (fun r177 H locs hw175 hP hD hS => ?_)
                    have ex175 := hw175
                    refine W.widen (k := 0) (n := 0) (Nat.le_refl _) (Nat.le_refl _) ?_
                    refine cu_v (rn_V (n := 2) (As := [.int pb, .int r177]) (rest := []) hx hb hml hown ht hKK hFx hP hD hS hA (c_m_goes l dC dI cI cB cZ cJ cR tb H.size ad N v pb r177 (show 0 ≤ pb.toInt ∧ pb.toInt < 32 from (om_325f1a4150 zr))) tw_216 tw_217 (by decide +kernel) rfl rfl ⟨Nat.le_of_ble_eq_true rfl, Nat.le_of_ble_eq_true rfl⟩ (List.range (mW ad N cI cZ cJ v).length) (rg_map _) (mW_nd _ _ _ _ _ _) rfl rfl rfl rfl hl.1 rfl (Nat.le_of_ble_eq_true rfl) dX13_byRegister_178 ⟨Nat.le_of_ble_eq_true rfl, Nat.le_of_ble_eq_true rfl⟩) hP hD hS hA (fun u179 H locs hw178 hP hD hS => ?_)
                    have fr178 := hw178
                    refine W.widen (k := 0) (n := 0) (Nat.le_refl _) (Nat.le_refl _) ?_
                    refine lv_goto (tgt := 252) hx hb dX13_byRegister_181 (by decide) ?_
                    exact W.vret hx hb hr (fun t ht9 hW => ⟨⟨u179, rfl, (FG.tr (FG.rf _) (FG.up fr178 (by decide) (by decide))), by rw [ht9]; exact hP, hD⟩, hS.F ht9⟩) hS.2.2 dX13_byRegister_252
                ·
                  by_cases h181 : pc1 = 4
                  · refine lv_tableIn (off := 138) (tgt := 184) hx hb dX13_byRegister_46 (by rw [h181]; decide) (by rw [h181]; decide) (by rw [h181]; decide) (by decide) ?_
                    refine lv_aload_n hx hb dX13_byRegister_184 rfl (lv_at hl 2 rfl) ?_
                    refine lv_iload_n hx hb dX13_byRegister_185 rfl (lv_at hl 4 rfl) ?_
                    refine lv_iload hx hb dX13_byRegister_186 (lv_at hl 6 rfl) ?_
                    refine lv_iload hx hb dX13_byRegister_188 (lv_at hl 7 rfl) ?_
                    refine lv_ixor hx hb dX13_byRegister_190 ?_
                    refine cu_v (rn_V (n := 2) (As := [.int pb, .int (pd ^^^ pe)]) (rest := []) hx hb hml hown ht hKK hFx hP hD hS hA (c_m_goes l dC dI cI cB cZ cJ cR tb s.heap.size ad N v pb (pd ^^^ pe) (show 0 ≤ pb.toInt ∧ pb.toInt < 32 from (om_325f1a4150 zr))) tw_216 tw_217 (by decide +kernel) rfl rfl ⟨Nat.le_of_ble_eq_true rfl, Nat.le_of_ble_eq_true rfl⟩ (List.range (mW ad N cI cZ cJ v).length) (rg_map _) (mW_nd _ _ _ _ _ _) rfl rfl rfl rfl hl.1 rfl (Nat.le_of_ble_eq_true rfl) dX13_byRegister_191 ⟨Nat.le_of_ble_eq_true rfl, Nat.le_of_ble_eq_true rfl⟩) hP hD hS hA (fun u183 H locs hw182 hP hD hS => ?_)
                    have fr182 := hw182
                    refine W.widen (k := 0) (n := 0) (Nat.le_refl _) (Nat.le_refl _) ?_
                    refine lv_goto (tgt := 252) hx hb dX13_byRegister_194 (by decide) ?_
                    exact W.vret hx hb hr (fun t ht9 hW => ⟨⟨u183, rfl, (FG.tr (FG.rf _) (FG.up fr182 (by decide) (by decide))), by rw [ht9]; exact hP, hD⟩, hS.F ht9⟩) hS.2.2 dX13_byRegister_252
                  ·
                    by_cases h185 : pc1 = 5
                    · refine lv_tableIn (off := 151) (tgt := 197) hx hb dX13_byRegister_46 (by rw [h185]; decide) (by rw [h185]; decide) (by rw [h185]; decide) (by decide) ?_
                      refine lv_aload_n hx hb dX13_byRegister_197 rfl (lv_at hl 2 rfl) ?_
                      refine lv_iload_n hx hb dX13_byRegister_198 rfl (lv_at hl 4 rfl) ?_
                      refine lv_iload hx hb dX13_byRegister_199 (lv_at hl 0 rfl) ?_
                      refine lv_if_eq (tgt := 215) hx hb dX13_byRegister_201 (by decide) (fun k186 => absurd k186 (by decide)) (fun _ => ?_)
                      refine lv_iload hx hb dX13_byRegister_204 (lv_at hl 6 rfl) ?_
                      refine lv_iload hx hb dX13_byRegister_206 (lv_at hl 7 rfl) ?_
                      refine lv_bipush (v := 31) hx hb dX13_byRegister_208 (by decide) ?_
                      refine lv_iand hx hb dX13_byRegister_210 ?_
                      refine lv_ishr hx hb dX13_byRegister_211 ?_
                      refine lv_goto (tgt := 223) hx hb dX13_byRegister_212 (by decide) ?_
                      refine cu_v (rn_V (n := 2) (As := [.int pb, .int (pd >>> ((pe &&& (31 : Int32)) &&& 31))]) (rest := []) hx hb hml hown ht hKK hFx hP hD hS hA (c_m_goes l dC dI cI cB cZ cJ cR tb s.heap.size ad N v pb (pd >>> ((pe &&& (31 : Int32)) &&& 31)) (show 0 ≤ pb.toInt ∧ pb.toInt < 32 from (om_325f1a4150 zr))) tw_216 tw_217 (by decide +kernel) rfl rfl ⟨Nat.le_of_ble_eq_true rfl, Nat.le_of_ble_eq_true rfl⟩ (List.range (mW ad N cI cZ cJ v).length) (rg_map _) (mW_nd _ _ _ _ _ _) rfl rfl rfl rfl hl.1 rfl (Nat.le_of_ble_eq_true rfl) dX13_byRegister_223 ⟨Nat.le_of_ble_eq_true rfl, Nat.le_of_ble_eq_true rfl⟩) hP hD hS hA (fun u188 H locs hw187 hP hD hS => ?_)
                      have fr187 := hw187
                      refine W.widen (k := 0) (n := 0) (Nat.le_refl _) (Nat.le_refl _) ?_
                      refine lv_goto (tgt := 252) hx hb dX13_byRegister_226 (by decide) ?_
                      exact W.vret hx hb hr (fun t ht9 hW => ⟨⟨u188, rfl, (FG.tr (FG.rf _) (FG.up fr187 (by decide) (by decide))), by rw [ht9]; exact hP, hD⟩, hS.F ht9⟩) hS.2.2 dX13_byRegister_252
                    ·
                      by_cases h190 : pc1 = 6
                      · refine lv_tableIn (off := 183) (tgt := 229) hx hb dX13_byRegister_46 (by rw [h190]; decide) (by rw [h190]; decide) (by rw [h190]; decide) (by decide) ?_
                        refine lv_aload_n hx hb dX13_byRegister_229 rfl (lv_at hl 2 rfl) ?_
                        refine lv_iload_n hx hb dX13_byRegister_230 rfl (lv_at hl 4 rfl) ?_
                        refine lv_iload hx hb dX13_byRegister_231 (lv_at hl 6 rfl) ?_
                        refine lv_iload hx hb dX13_byRegister_233 (lv_at hl 7 rfl) ?_
                        refine lv_ior hx hb dX13_byRegister_235 ?_
                        refine cu_v (rn_V (n := 2) (As := [.int pb, .int (pd ||| pe)]) (rest := []) hx hb hml hown ht hKK hFx hP hD hS hA (c_m_goes l dC dI cI cB cZ cJ cR tb s.heap.size ad N v pb (pd ||| pe) (show 0 ≤ pb.toInt ∧ pb.toInt < 32 from (om_325f1a4150 zr))) tw_216 tw_217 (by decide +kernel) rfl rfl ⟨Nat.le_of_ble_eq_true rfl, Nat.le_of_ble_eq_true rfl⟩ (List.range (mW ad N cI cZ cJ v).length) (rg_map _) (mW_nd _ _ _ _ _ _) rfl rfl rfl rfl hl.1 rfl (Nat.le_of_ble_eq_true rfl) dX13_byRegister_236 ⟨Nat.le_of_ble_eq_true rfl, Nat.le_of_ble_eq_true rfl⟩) hP hD hS hA (fun u192 H locs hw191 hP hD hS => ?_)
                        have fr191 := hw191
                        refine W.widen (k := 0) (n := 0) (Nat.le_refl _) (Nat.le_refl _) ?_
                        refine lv_goto (tgt := 252) hx hb dX13_byRegister_239 (by decide) ?_
                        exact W.vret hx hb hr (fun t ht9 hW => ⟨⟨u192, rfl, (FG.tr (FG.rf _) (FG.up fr191 (by decide) (by decide))), by rw [ht9]; exact hP, hD⟩, hS.F ht9⟩) hS.2.2 dX13_byRegister_252
                      ·
                        refine lv_tableOut (tgt := 242) hx hb dX13_byRegister_46 (by have := lv_neT h140 (a := 0) (by decide); have := lv_neT h145 (a := 1) (by decide); have := lv_neT h149 (a := 2) (by decide); have := lv_neT h165 (a := 3) (by decide); have := lv_neT h181 (a := 4) (by decide); have := lv_neT h185 (a := 5) (by decide); have := lv_neT h190 (a := 6) (by decide); omega) (by decide) ?_
                        refine lv_aload_n hx hb dX13_byRegister_242 rfl (lv_at hl 2 rfl) ?_
                        refine lv_iload_n hx hb dX13_byRegister_243 rfl (lv_at hl 4 rfl) ?_
                        refine lv_iload hx hb dX13_byRegister_244 (lv_at hl 6 rfl) ?_
                        refine lv_iload hx hb dX13_byRegister_246 (lv_at hl 7 rfl) ?_
                        refine lv_iand hx hb dX13_byRegister_248 ?_
                        refine cu_v (rn_V (n := 2) (As := [.int pb, .int (pd &&& pe)]) (rest := []) hx hb hml hown ht hKK hFx hP hD hS hA (c_m_goes l dC dI cI cB cZ cJ cR tb s.heap.size ad N v pb (pd &&& pe) (show 0 ≤ pb.toInt ∧ pb.toInt < 32 from (om_325f1a4150 zr))) tw_216 tw_217 (by decide +kernel) rfl rfl ⟨Nat.le_of_ble_eq_true rfl, Nat.le_of_ble_eq_true rfl⟩ (List.range (mW ad N cI cZ cJ v).length) (rg_map _) (mW_nd _ _ _ _ _ _) rfl rfl rfl rfl hl.1 rfl (Nat.le_of_ble_eq_true rfl) dX13_byRegister_249 ⟨Nat.le_of_ble_eq_true rfl, Nat.le_of_ble_eq_true rfl⟩) hP hD hS hA (fun u195 H locs hw194 hP hD hS => ?_)
                        have fr194 := hw194
                        refine W.widen (k := 0) (n := 0) (Nat.le_refl _) (Nat.le_refl _) ?_
                        exact W.vret hx hb hr (fun t ht9 hW => ⟨⟨u195, rfl, (FG.tr (FG.rf _) (FG.up fr194 (by decide) (by decide))), by rw [ht9]; exact hP, hD⟩, hS.F ht9⟩) hS.2.2 dX13_byRegister_252
