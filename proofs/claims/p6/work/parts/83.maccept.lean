theorem dX13_accept_0 : decode cX13_accept 0 = .ok (.aload_n 0, 1) := by decide +kernel
theorem dX13_accept_1 : decode cX13_accept 1 = .ok (.aload_n 0, 1) := by decide +kernel
theorem dX13_accept_2 : decode cX13_accept 2 = .ok (.getfield 104, 3) := by decide +kernel
theorem dX13_accept_5 : decode cX13_accept 5 = .ok (.putfield 606, 3) := by decide +kernel
theorem dX13_accept_8 : decode cX13_accept 8 = .ok (.aload_n 0, 1) := by decide +kernel
theorem dX13_accept_9 : decode cX13_accept 9 = .ok (.aload_n 0, 1) := by decide +kernel
theorem dX13_accept_10 : decode cX13_accept 10 = .ok (.getfield 192, 3) := by decide +kernel
theorem dX13_accept_13 : decode cX13_accept 13 = .ok (.putfield 609, 3) := by decide +kernel
theorem dX13_accept_16 : decode cX13_accept 16 = .ok (.aload_n 0, 1) := by decide +kernel
theorem dX13_accept_17 : decode cX13_accept 17 = .ok (.aload_n 0, 1) := by decide +kernel
theorem dX13_accept_18 : decode cX13_accept 18 = .ok (.getfield 186, 3) := by decide +kernel
theorem dX13_accept_21 : decode cX13_accept 21 = .ok (.putfield 612, 3) := by decide +kernel
theorem dX13_accept_24 : decode cX13_accept 24 = .ok (.aload_n 0, 1) := by decide +kernel
theorem dX13_accept_25 : decode cX13_accept 25 = .ok (.aload_n 0, 1) := by decide +kernel
theorem dX13_accept_26 : decode cX13_accept 26 = .ok (.getfield 463, 3) := by decide +kernel
theorem dX13_accept_29 : decode cX13_accept 29 = .ok (.putfield 615, 3) := by decide +kernel
theorem tw_269 : (.fieldLink RX13 615 "PocketCompilerModel" "bNumbers" "I" : Cond) ∈ tw_W := tw_in (t8_10 (List.mem_of_getElem? (i := 233) rfl)) rfl
theorem dX13_accept_32 : decode cX13_accept 32 = .ok (.aload_n 0, 1) := by decide +kernel
theorem dX13_accept_33 : decode cX13_accept 33 = .ok (.aload_n 0, 1) := by decide +kernel
theorem dX13_accept_34 : decode cX13_accept 34 = .ok (.getfield 490, 3) := by decide +kernel
theorem dX13_accept_37 : decode cX13_accept 37 = .ok (.putfield 618, 3) := by decide +kernel
theorem tw_270 : (.fieldLink RX13 618 "PocketCompilerModel" "bLimit" "I" : Cond) ∈ tw_W := tw_in (t8_10 (List.mem_of_getElem? (i := 234) rfl)) rfl
theorem dX13_accept_40 : decode cX13_accept 40 = .ok (.iconst 0, 1) := by decide +kernel
theorem dX13_accept_41 : decode cX13_accept 41 = .ok (.istore_n 1, 1) := by decide +kernel
theorem dX13_accept_42 : decode cX13_accept 42 = .ok (.iload_n 1, 1) := by decide +kernel
theorem dX13_accept_43 : decode cX13_accept 43 = .ok (.aload_n 0, 1) := by decide +kernel
theorem dX13_accept_44 : decode cX13_accept 44 = .ok (.getfield 104, 3) := by decide +kernel
theorem dX13_accept_47 : decode cX13_accept 47 = .ok (.if_icmp .ge 21, 3) := by decide +kernel
theorem dX13_accept_68 : decode cX13_accept 68 = .ok (.iconst 0, 1) := by decide +kernel
theorem dX13_accept_69 : decode cX13_accept 69 = .ok (.istore_n 1, 1) := by decide +kernel
theorem dX13_accept_70 : decode cX13_accept 70 = .ok (.iload_n 1, 1) := by decide +kernel
theorem dX13_accept_71 : decode cX13_accept 71 = .ok (.aload_n 0, 1) := by decide +kernel
theorem dX13_accept_72 : decode cX13_accept 72 = .ok (.getfield 121, 3) := by decide +kernel
theorem dX13_accept_75 : decode cX13_accept 75 = .ok (.if_icmp .ge 33, 3) := by decide +kernel
theorem dX13_accept_108 : decode cX13_accept 108 = .ok (.iconst 0, 1) := by decide +kernel
theorem dX13_accept_109 : decode cX13_accept 109 = .ok (.istore_n 1, 1) := by decide +kernel
theorem dX13_accept_110 : decode cX13_accept 110 = .ok (.iload_n 1, 1) := by decide +kernel
theorem dX13_accept_111 : decode cX13_accept 111 = .ok (.aload_n 0, 1) := by decide +kernel
theorem dX13_accept_112 : decode cX13_accept 112 = .ok (.getfield 192, 3) := by decide +kernel
theorem dX13_accept_115 : decode cX13_accept 115 = .ok (.if_icmp .ge 105, 3) := by decide +kernel
theorem dX13_accept_220 : decode cX13_accept 220 = .ok (.iconst 0, 1) := by decide +kernel
theorem dX13_accept_221 : decode cX13_accept 221 = .ok (.istore_n 1, 1) := by decide +kernel
theorem dX13_accept_222 : decode cX13_accept 222 = .ok (.iload_n 1, 1) := by decide +kernel
theorem dX13_accept_223 : decode cX13_accept 223 = .ok (.aload_n 0, 1) := by decide +kernel
theorem dX13_accept_224 : decode cX13_accept 224 = .ok (.getfield 186, 3) := by decide +kernel
theorem dX13_accept_227 : decode cX13_accept 227 = .ok (.if_icmp .ge 79, 3) := by decide +kernel
theorem dX13_accept_306 : decode cX13_accept 306 = .ok (.iconst 0, 1) := by decide +kernel
theorem dX13_accept_307 : decode cX13_accept 307 = .ok (.istore_n 1, 1) := by decide +kernel
theorem dX13_accept_308 : decode cX13_accept 308 = .ok (.iload_n 1, 1) := by decide +kernel
theorem dX13_accept_309 : decode cX13_accept 309 = .ok (.aload_n 0, 1) := by decide +kernel
theorem dX13_accept_310 : decode cX13_accept 310 = .ok (.getfield 18, 3) := by decide +kernel
theorem tw_271 : (.fieldLink RX13 18 "PocketCompilerModel" "size" "I" : Cond) ∈ tw_W := tw_in (t8_10 (List.mem_of_getElem? (i := 161) rfl)) rfl
theorem dX13_accept_313 : decode cX13_accept 313 = .ok (.if_icmp .ge 21, 3) := by decide +kernel
theorem dX13_accept_334 : decode cX13_accept 334 = .ok (.aload_n 0, 1) := by decide +kernel
theorem dX13_accept_335 : decode cX13_accept 335 = .ok (.iconst 0, 1) := by decide +kernel
theorem dX13_accept_336 : decode cX13_accept 336 = .ok (.putfield 621, 3) := by decide +kernel
theorem tw_272 : (.fieldLink RX13 621 "PocketCompilerModel" "isWorked" "Z" : Cond) ∈ tw_W := tw_in (t8_11 (List.mem_of_getElem? (i := 40) rfl)) rfl
theorem dX13_accept_339 : decode cX13_accept 339 = .ok (.return_, 1) := by decide +kernel
theorem dX13_accept_316 : decode cX13_accept 316 = .ok (.aload_n 0, 1) := by decide +kernel
theorem dX13_accept_317 : decode cX13_accept 317 = .ok (.getfield 561, 3) := by decide +kernel
theorem dX13_accept_320 : decode cX13_accept 320 = .ok (.iload_n 1, 1) := by decide +kernel
theorem dX13_accept_321 : decode cX13_accept 321 = .ok (.aload_n 0, 1) := by decide +kernel
theorem dX13_accept_322 : decode cX13_accept 322 = .ok (.getfield 21, 3) := by decide +kernel
theorem dX13_accept_325 : decode cX13_accept 325 = .ok (.iload_n 1, 1) := by decide +kernel
theorem dX13_accept_326 : decode cX13_accept 326 = .ok (.iaload, 1) := by decide +kernel
theorem dX13_accept_327 : decode cX13_accept 327 = .ok (.iastore, 1) := by decide +kernel
theorem dX13_accept_328 : decode cX13_accept 328 = .ok (.iinc 1 1, 3) := by decide +kernel
theorem dX13_accept_331 : decode cX13_accept 331 = .ok (.goto (-23), 3) := by decide +kernel
theorem dX13_accept_230 : decode cX13_accept 230 = .ok (.aload_n 0, 1) := by decide +kernel
theorem dX13_accept_231 : decode cX13_accept 231 = .ok (.getfield 546, 3) := by decide +kernel
theorem dX13_accept_234 : decode cX13_accept 234 = .ok (.iload_n 1, 1) := by decide +kernel
theorem dX13_accept_235 : decode cX13_accept 235 = .ok (.aload_n 0, 1) := by decide +kernel
theorem dX13_accept_236 : decode cX13_accept 236 = .ok (.getfield 290, 3) := by decide +kernel
theorem dX13_accept_239 : decode cX13_accept 239 = .ok (.iload_n 1, 1) := by decide +kernel
theorem dX13_accept_240 : decode cX13_accept 240 = .ok (.iaload, 1) := by decide +kernel
theorem dX13_accept_241 : decode cX13_accept 241 = .ok (.iastore, 1) := by decide +kernel
theorem dX13_accept_242 : decode cX13_accept 242 = .ok (.aload_n 0, 1) := by decide +kernel
theorem dX13_accept_243 : decode cX13_accept 243 = .ok (.getfield 549, 3) := by decide +kernel
theorem dX13_accept_246 : decode cX13_accept 246 = .ok (.iload_n 1, 1) := by decide +kernel
theorem dX13_accept_247 : decode cX13_accept 247 = .ok (.aload_n 0, 1) := by decide +kernel
theorem dX13_accept_248 : decode cX13_accept 248 = .ok (.getfield 275, 3) := by decide +kernel
theorem dX13_accept_251 : decode cX13_accept 251 = .ok (.iload_n 1, 1) := by decide +kernel
theorem dX13_accept_252 : decode cX13_accept 252 = .ok (.iaload, 1) := by decide +kernel
theorem dX13_accept_253 : decode cX13_accept 253 = .ok (.iastore, 1) := by decide +kernel
theorem dX13_accept_254 : decode cX13_accept 254 = .ok (.aload_n 0, 1) := by decide +kernel
theorem dX13_accept_255 : decode cX13_accept 255 = .ok (.getfield 558, 3) := by decide +kernel
theorem dX13_accept_258 : decode cX13_accept 258 = .ok (.iload_n 1, 1) := by decide +kernel
theorem dX13_accept_259 : decode cX13_accept 259 = .ok (.aload_n 0, 1) := by decide +kernel
theorem dX13_accept_260 : decode cX13_accept 260 = .ok (.getfield 252, 3) := by decide +kernel
theorem dX13_accept_263 : decode cX13_accept 263 = .ok (.iload_n 1, 1) := by decide +kernel
theorem dX13_accept_264 : decode cX13_accept 264 = .ok (.baload, 1) := by decide +kernel
theorem dX13_accept_265 : decode cX13_accept 265 = .ok (.bastore, 1) := by decide +kernel
theorem dX13_accept_266 : decode cX13_accept 266 = .ok (.aload_n 0, 1) := by decide +kernel
theorem dX13_accept_267 : decode cX13_accept 267 = .ok (.getfield 552, 3) := by decide +kernel
theorem dX13_accept_270 : decode cX13_accept 270 = .ok (.iload_n 1, 1) := by decide +kernel
theorem dX13_accept_271 : decode cX13_accept 271 = .ok (.aload_n 0, 1) := by decide +kernel
theorem dX13_accept_272 : decode cX13_accept 272 = .ok (.getfield 38, 3) := by decide +kernel
theorem dX13_accept_275 : decode cX13_accept 275 = .ok (.aload_n 0, 1) := by decide +kernel
theorem dX13_accept_276 : decode cX13_accept 276 = .ok (.getfield 189, 3) := by decide +kernel
theorem dX13_accept_279 : decode cX13_accept 279 = .ok (.iload_n 1, 1) := by decide +kernel
theorem dX13_accept_280 : decode cX13_accept 280 = .ok (.iaload, 1) := by decide +kernel
theorem dX13_accept_281 : decode cX13_accept 281 = .ok (.iaload, 1) := by decide +kernel
theorem dX13_accept_282 : decode cX13_accept 282 = .ok (.iastore, 1) := by decide +kernel
theorem dX13_accept_283 : decode cX13_accept 283 = .ok (.aload_n 0, 1) := by decide +kernel
theorem dX13_accept_284 : decode cX13_accept 284 = .ok (.getfield 555, 3) := by decide +kernel
theorem tw_273 : (.fieldLink RX13 555 "PocketCompilerModel" "dEnd" "[I" : Cond) ∈ tw_W := tw_in (t8_11 (List.mem_of_getElem? (i := 5) rfl)) rfl
theorem dX13_accept_287 : decode cX13_accept 287 = .ok (.iload_n 1, 1) := by decide +kernel
theorem dX13_accept_288 : decode cX13_accept 288 = .ok (.aload_n 0, 1) := by decide +kernel
theorem dX13_accept_289 : decode cX13_accept 289 = .ok (.getfield 47, 3) := by decide +kernel
theorem dX13_accept_292 : decode cX13_accept 292 = .ok (.aload_n 0, 1) := by decide +kernel
theorem dX13_accept_293 : decode cX13_accept 293 = .ok (.getfield 189, 3) := by decide +kernel
theorem dX13_accept_296 : decode cX13_accept 296 = .ok (.iload_n 1, 1) := by decide +kernel
theorem dX13_accept_297 : decode cX13_accept 297 = .ok (.iaload, 1) := by decide +kernel
theorem dX13_accept_298 : decode cX13_accept 298 = .ok (.iaload, 1) := by decide +kernel
theorem dX13_accept_299 : decode cX13_accept 299 = .ok (.iastore, 1) := by decide +kernel
theorem dX13_accept_300 : decode cX13_accept 300 = .ok (.iinc 1 1, 3) := by decide +kernel
theorem dX13_accept_303 : decode cX13_accept 303 = .ok (.goto (-81), 3) := by decide +kernel
theorem dX13_accept_118 : decode cX13_accept 118 = .ok (.aload_n 0, 1) := by decide +kernel
theorem dX13_accept_119 : decode cX13_accept 119 = .ok (.getfield 525, 3) := by decide +kernel
theorem dX13_accept_122 : decode cX13_accept 122 = .ok (.iload_n 1, 1) := by decide +kernel
theorem dX13_accept_123 : decode cX13_accept 123 = .ok (.aload_n 0, 1) := by decide +kernel
theorem dX13_accept_124 : decode cX13_accept 124 = .ok (.getfield 466, 3) := by decide +kernel
theorem dX13_accept_127 : decode cX13_accept 127 = .ok (.iload_n 1, 1) := by decide +kernel
theorem dX13_accept_128 : decode cX13_accept 128 = .ok (.iaload, 1) := by decide +kernel
theorem dX13_accept_129 : decode cX13_accept 129 = .ok (.iastore, 1) := by decide +kernel
theorem dX13_accept_130 : decode cX13_accept 130 = .ok (.aload_n 0, 1) := by decide +kernel
theorem dX13_accept_131 : decode cX13_accept 131 = .ok (.getfield 528, 3) := by decide +kernel
theorem dX13_accept_134 : decode cX13_accept 134 = .ok (.iload_n 1, 1) := by decide +kernel
theorem dX13_accept_135 : decode cX13_accept 135 = .ok (.aload_n 0, 1) := by decide +kernel
theorem dX13_accept_136 : decode cX13_accept 136 = .ok (.getfield 478, 3) := by decide +kernel
theorem dX13_accept_139 : decode cX13_accept 139 = .ok (.iload_n 1, 1) := by decide +kernel
theorem dX13_accept_140 : decode cX13_accept 140 = .ok (.iaload, 1) := by decide +kernel
theorem dX13_accept_141 : decode cX13_accept 141 = .ok (.iastore, 1) := by decide +kernel
theorem dX13_accept_142 : decode cX13_accept 142 = .ok (.aload_n 0, 1) := by decide +kernel
theorem dX13_accept_143 : decode cX13_accept 143 = .ok (.getfield 531, 3) := by decide +kernel
theorem dX13_accept_146 : decode cX13_accept 146 = .ok (.iload_n 1, 1) := by decide +kernel
theorem dX13_accept_147 : decode cX13_accept 147 = .ok (.iconst 4, 1) := by decide +kernel
theorem dX13_accept_148 : decode cX13_accept 148 = .ok (.aload_n 0, 1) := by decide +kernel
theorem dX13_accept_149 : decode cX13_accept 149 = .ok (.getfield 469, 3) := by decide +kernel
theorem dX13_accept_152 : decode cX13_accept 152 = .ok (.iload_n 1, 1) := by decide +kernel
theorem dX13_accept_153 : decode cX13_accept 153 = .ok (.iaload, 1) := by decide +kernel
theorem dX13_accept_154 : decode cX13_accept 154 = .ok (.imul, 1) := by decide +kernel
theorem dX13_accept_155 : decode cX13_accept 155 = .ok (.iastore, 1) := by decide +kernel
theorem dX13_accept_156 : decode cX13_accept 156 = .ok (.aload_n 0, 1) := by decide +kernel
theorem dX13_accept_157 : decode cX13_accept 157 = .ok (.getfield 534, 3) := by decide +kernel
theorem tw_274 : (.fieldLink RX13 534 "PocketCompilerModel" "bGo" "[I" : Cond) ∈ tw_W := tw_in (t8_10 (List.mem_of_getElem? (i := 238) rfl)) rfl
theorem dX13_accept_160 : decode cX13_accept 160 = .ok (.iload_n 1, 1) := by decide +kernel
theorem dX13_accept_161 : decode cX13_accept 161 = .ok (.aload_n 0, 1) := by decide +kernel
theorem dX13_accept_162 : decode cX13_accept 162 = .ok (.getfield 472, 3) := by decide +kernel
theorem dX13_accept_165 : decode cX13_accept 165 = .ok (.iload_n 1, 1) := by decide +kernel
theorem dX13_accept_166 : decode cX13_accept 166 = .ok (.iaload, 1) := by decide +kernel
theorem dX13_accept_167 : decode cX13_accept 167 = .ok (.iastore, 1) := by decide +kernel
theorem dX13_accept_168 : decode cX13_accept 168 = .ok (.aload_n 0, 1) := by decide +kernel
theorem dX13_accept_169 : decode cX13_accept 169 = .ok (.getfield 537, 3) := by decide +kernel
theorem tw_275 : (.fieldLink RX13 537 "PocketCompilerModel" "bLocals" "[I" : Cond) ∈ tw_W := tw_in (t8_10 (List.mem_of_getElem? (i := 239) rfl)) rfl
theorem dX13_accept_172 : decode cX13_accept 172 = .ok (.iload_n 1, 1) := by decide +kernel
theorem dX13_accept_173 : decode cX13_accept 173 = .ok (.aload_n 0, 1) := by decide +kernel
theorem dX13_accept_174 : decode cX13_accept 174 = .ok (.getfield 481, 3) := by decide +kernel
theorem dX13_accept_177 : decode cX13_accept 177 = .ok (.iload_n 1, 1) := by decide +kernel
theorem dX13_accept_178 : decode cX13_accept 178 = .ok (.iaload, 1) := by decide +kernel
theorem dX13_accept_179 : decode cX13_accept 179 = .ok (.iastore, 1) := by decide +kernel
theorem dX13_accept_180 : decode cX13_accept 180 = .ok (.aload_n 0, 1) := by decide +kernel
theorem dX13_accept_181 : decode cX13_accept 181 = .ok (.getfield 540, 3) := by decide +kernel
theorem dX13_accept_184 : decode cX13_accept 184 = .ok (.iload_n 1, 1) := by decide +kernel
theorem dX13_accept_185 : decode cX13_accept 185 = .ok (.aload_n 0, 1) := by decide +kernel
theorem dX13_accept_186 : decode cX13_accept 186 = .ok (.getfield 38, 3) := by decide +kernel
theorem dX13_accept_189 : decode cX13_accept 189 = .ok (.aload_n 0, 1) := by decide +kernel
theorem dX13_accept_190 : decode cX13_accept 190 = .ok (.getfield 195, 3) := by decide +kernel
theorem dX13_accept_193 : decode cX13_accept 193 = .ok (.iload_n 1, 1) := by decide +kernel
theorem dX13_accept_194 : decode cX13_accept 194 = .ok (.iaload, 1) := by decide +kernel
theorem dX13_accept_195 : decode cX13_accept 195 = .ok (.iaload, 1) := by decide +kernel
theorem dX13_accept_196 : decode cX13_accept 196 = .ok (.iastore, 1) := by decide +kernel
theorem dX13_accept_197 : decode cX13_accept 197 = .ok (.aload_n 0, 1) := by decide +kernel
theorem dX13_accept_198 : decode cX13_accept 198 = .ok (.getfield 543, 3) := by decide +kernel
theorem tw_276 : (.fieldLink RX13 543 "PocketCompilerModel" "bEnd" "[I" : Cond) ∈ tw_W := tw_in (t8_11 (List.mem_of_getElem? (i := 1) rfl)) rfl
theorem dX13_accept_201 : decode cX13_accept 201 = .ok (.iload_n 1, 1) := by decide +kernel
theorem dX13_accept_202 : decode cX13_accept 202 = .ok (.aload_n 0, 1) := by decide +kernel
theorem dX13_accept_203 : decode cX13_accept 203 = .ok (.getfield 47, 3) := by decide +kernel
theorem dX13_accept_206 : decode cX13_accept 206 = .ok (.aload_n 0, 1) := by decide +kernel
theorem dX13_accept_207 : decode cX13_accept 207 = .ok (.getfield 195, 3) := by decide +kernel
theorem dX13_accept_210 : decode cX13_accept 210 = .ok (.iload_n 1, 1) := by decide +kernel
theorem dX13_accept_211 : decode cX13_accept 211 = .ok (.iaload, 1) := by decide +kernel
theorem dX13_accept_212 : decode cX13_accept 212 = .ok (.iaload, 1) := by decide +kernel
theorem dX13_accept_213 : decode cX13_accept 213 = .ok (.iastore, 1) := by decide +kernel
theorem dX13_accept_214 : decode cX13_accept 214 = .ok (.iinc 1 1, 3) := by decide +kernel
theorem dX13_accept_217 : decode cX13_accept 217 = .ok (.goto (-107), 3) := by decide +kernel
theorem dX13_accept_78 : decode cX13_accept 78 = .ok (.aload_n 0, 1) := by decide +kernel
theorem dX13_accept_79 : decode cX13_accept 79 = .ok (.getfield 519, 3) := by decide +kernel
theorem tw_277 : (.fieldLink RX13 519 "PocketCompilerModel" "bOrder" "[I" : Cond) ∈ tw_W := tw_in (t8_10 (List.mem_of_getElem? (i := 228) rfl)) rfl
theorem dX13_accept_82 : decode cX13_accept 82 = .ok (.iload_n 1, 1) := by decide +kernel
theorem dX13_accept_83 : decode cX13_accept 83 = .ok (.aload_n 0, 1) := by decide +kernel
theorem dX13_accept_84 : decode cX13_accept 84 = .ok (.getfield 118, 3) := by decide +kernel
theorem dX13_accept_87 : decode cX13_accept 87 = .ok (.iload_n 1, 1) := by decide +kernel
theorem dX13_accept_88 : decode cX13_accept 88 = .ok (.iaload, 1) := by decide +kernel
theorem dX13_accept_89 : decode cX13_accept 89 = .ok (.iastore, 1) := by decide +kernel
theorem dX13_accept_90 : decode cX13_accept 90 = .ok (.aload_n 0, 1) := by decide +kernel
theorem dX13_accept_91 : decode cX13_accept 91 = .ok (.getfield 522, 3) := by decide +kernel
theorem tw_278 : (.fieldLink RX13 522 "PocketCompilerModel" "bArgument" "[I" : Cond) ∈ tw_W := tw_in (t8_10 (List.mem_of_getElem? (i := 229) rfl)) rfl
theorem dX13_accept_94 : decode cX13_accept 94 = .ok (.iload_n 1, 1) := by decide +kernel
theorem dX13_accept_95 : decode cX13_accept 95 = .ok (.aload_n 0, 1) := by decide +kernel
theorem dX13_accept_96 : decode cX13_accept 96 = .ok (.getfield 124, 3) := by decide +kernel
theorem dX13_accept_99 : decode cX13_accept 99 = .ok (.iload_n 1, 1) := by decide +kernel
theorem dX13_accept_100 : decode cX13_accept 100 = .ok (.iaload, 1) := by decide +kernel
theorem dX13_accept_101 : decode cX13_accept 101 = .ok (.iastore, 1) := by decide +kernel
theorem dX13_accept_102 : decode cX13_accept 102 = .ok (.iinc 1 1, 3) := by decide +kernel
theorem dX13_accept_105 : decode cX13_accept 105 = .ok (.goto (-35), 3) := by decide +kernel
theorem dX13_accept_50 : decode cX13_accept 50 = .ok (.aload_n 0, 1) := by decide +kernel
theorem dX13_accept_51 : decode cX13_accept 51 = .ok (.getfield 516, 3) := by decide +kernel
theorem dX13_accept_54 : decode cX13_accept 54 = .ok (.iload_n 1, 1) := by decide +kernel
theorem dX13_accept_55 : decode cX13_accept 55 = .ok (.aload_n 0, 1) := by decide +kernel
theorem dX13_accept_56 : decode cX13_accept 56 = .ok (.getfield 101, 3) := by decide +kernel
theorem dX13_accept_59 : decode cX13_accept 59 = .ok (.iload_n 1, 1) := by decide +kernel
theorem dX13_accept_60 : decode cX13_accept 60 = .ok (.iaload, 1) := by decide +kernel
theorem dX13_accept_61 : decode cX13_accept 61 = .ok (.iastore, 1) := by decide +kernel
theorem dX13_accept_62 : decode cX13_accept 62 = .ok (.iinc 1 1, 3) := by decide +kernel
theorem dX13_accept_65 : decode cX13_accept 65 = .ok (.goto (-23), 3) := by decide +kernel
theorem om_ac99ef5a20 {x0 x1 : Int} (h0 : 0 ≤ x0 ∧ x0 ≤ 16000) (h1 : x1 = x0) : 0 ≤ (0 : Int) ∧ (0 : Int) ≤ x1 := by omega
theorem om_b66f1aee2b {x0 x1 x2 : Int} (h0 : 0 ≤ x0 ∧ x0 ≤ 40) (h1 : x1 = x0) (h2 : x2 = x1) : 0 ≤ (0 : Int) ∧ (0 : Int) ≤ x2 := by omega
theorem om_e464289c7a {x0 x1 x2 x3 : Int} (h0 : 0 ≤ x0 ∧ x0 ≤ 60) (h1 : x1 = x0) (h2 : x2 = x1) (h3 : x3 = x2) : 0 ≤ (0 : Int) ∧ (0 : Int) ≤ x3 := by omega
theorem om_f827b65078 {x0 x1 x2 x3 x4 : Int} (h0 : 0 ≤ x0 ∧ x0 ≤ 4000) (h1 : x1 = x0) (h2 : x2 = x1) (h3 : x3 = x2) (h4 : x4 = x3) : 0 ≤ (0 : Int) ∧ (0 : Int) ≤ x4 := by omega
theorem om_c45228c43d {x0 : Int} (h0 : 0 ≤ x0 ∧ x0 ≤ 16000) : x0 ≤ 16000 := by omega
theorem om_855c2ad4ac {x0 x1 x2 x3 : Int} {n4 : Nat} (h0 : x0 = x1) (h1 : x2 = x0) (h2 : x2 ≤ x3) (h3 : (n4 : Int) < x1) : (n4 : Int) < x3 := by omega
theorem om_327f6983de {x0 x1 x2 x3 x4 : Int} {n5 : Nat} (h0 : x0 = x1) (h1 : x2 = x0) (h2 : x3 = x2) (h3 : x3 ≤ x4) (h4 : (n5 : Int) < x1) : (n5 : Int) < x4 := by omega
theorem om_0b0a720901 {x0 x1 x2 x3 x4 x5 : Int} {n6 : Nat} (h0 : x0 = x1) (h1 : x2 = x0) (h2 : x3 = x2) (h3 : x4 = x3) (h4 : x4 ≤ x5) (h5 : (n6 : Int) < x1) : (n6 : Int) < x5 := by omega
theorem om_c43859447e {x0 x1 x2 x3 x4 x5 x6 : Int} (h0 : 0 ≤ x0 ∧ x0 ≤ 4000) (h1 : x1 = x0) (h2 : x2 = x1) (h3 : x3 = x2) (h4 : x4 = x3) (h5 : x5 = x4) (h6 : x6 < x5) : x6 < 4000 := by omega
theorem om_3bfa5b3928 {x0 x1 x2 x3 x4 x5 : Int} (h0 : 0 ≤ x0 ∧ x0 ≤ 4000) (h1 : x1 = x0) (h2 : x2 = x1) (h3 : x3 = x2) (h4 : x4 = x3) (h5 : 0 ≤ x5 ∧ x5 ≤ x4) : x5 + (1 : Int) < 2147483648 := by omega
theorem om_d557c47456 {x0 x1 x2 x3 x4 x5 x6 : Int} (h0 : x0 = x1) (h1 : x2 = x0) (h2 : x3 = x2) (h3 : x4 = x3) (h4 : x5 = x4) (h5 : x6 < x5) : 0 < x1 - x6 := by omega
theorem om_27a15918c6 {x0 x1 x2 x3 x4 x5 : Int} (h0 : 0 ≤ x0 ∧ x0 ≤ 60) (h1 : x1 = x0) (h2 : x2 = x1) (h3 : x3 = x2) (h4 : x4 = x3) (h5 : x5 < x4) : x5 < 60 := by omega
theorem om_9fcda715cc {x0 x1 x2 x3 x4 : Int} (h0 : 0 ≤ x0 ∧ x0 ≤ 60) (h1 : x1 = x0) (h2 : x2 = x1) (h3 : x3 = x2) (h4 : 0 ≤ x4 ∧ x4 ≤ x3) : x4 + (1 : Int) < 2147483648 := by omega
theorem om_c1f2a59f68 {x0 : Int} (h0 : 0 ≤ x0 ∧ x0 ≤ 1000) : 0 ≤ x0 ∧ x0 ≤ 1000 := by omega
theorem om_09b5035969 {x0 : Int} (h0 : 0 ≤ x0 ∧ x0 ≤ 60000) : 0 ≤ x0 ∧ x0 ≤ 60000 := by omega
theorem om_e9fede9dc8 {x0 x1 : Int} (h0 : 0 ≤ x0 ∧ x0 ≤ 4000 ∧ 0 ≤ x1 ∧ x1 ≤ 4000) : 0 ≤ x0 ∧ x0 ≤ 4000 := by omega
theorem om_0c82d4925c {x0 x1 : Int} (h0 : 0 ≤ x0 ∧ x0 ≤ 4000 ∧ 0 ≤ x1 ∧ x1 ≤ 4000) : 0 ≤ x1 ∧ x1 ≤ 4000 := by omega
theorem om_381163e004 {x0 x1 x2 x3 x4 x5 : Int} (h0 : x0 = x1) (h1 : x2 = x0) (h2 : x3 = x2) (h3 : x4 = x3) (h4 : x5 < x4) : 0 < x1 - x5 := by omega
theorem om_ae06e9a251 {x0 x1 x2 x3 x4 : Int} (h0 : 0 ≤ x0 ∧ x0 ≤ 40) (h1 : x1 = x0) (h2 : x2 = x1) (h3 : x3 = x2) (h4 : x4 < x3) : x4 < 40 := by omega
theorem om_bfbb4a4455 {x0 : Int} (h0 : 0 ≤ x0 ∧ x0 ≤ 23900) : -2147483648 ≤ (4 : Int) * (x0) := by omega
theorem om_db2ed782dc {x0 : Int} (h0 : 0 ≤ x0 ∧ x0 ≤ 23900) : (4 : Int) * (x0) < 2147483648 := by omega
theorem om_5596a0f16e {x0 x1 x2 x3 : Int} (h0 : 0 ≤ x0 ∧ x0 ≤ 40) (h1 : x1 = x0) (h2 : x2 = x1) (h3 : 0 ≤ x3 ∧ x3 ≤ x2) : x3 + (1 : Int) < 2147483648 := by omega
theorem om_6833f83d3e {x0 : Int} (h0 : 0 ≤ x0 ∧ x0 ≤ 8) : 0 ≤ x0 ∧ x0 ≤ 8 := by omega
theorem om_06bb8562c3 {x0 : Int} (h0 : 0 ≤ x0 ∧ x0 ≤ 2008) : 0 ≤ x0 ∧ x0 ≤ 2008 := by omega
theorem om_738aa4d0ad {x0 x1 : Int} (h0 : 0 ≤ x0 ∧ x0 ≤ 23900) (h1 : x1 = (4 : Int) * (x0)) : 0 ≤ x1 ∧ x1 ≤ 96000 := by omega
theorem om_f629908a4a {x0 : Int} (h0 : 0 ≤ x0 ∧ x0 ≤ 15999) : 0 ≤ x0 ∧ x0 ≤ 15999 := by omega
theorem om_728f746819 {x0 x1 x2 x3 x4 : Int} (h0 : x0 = x1) (h1 : x2 = x0) (h2 : x3 = x2) (h3 : x4 < x3) : 0 < x1 - x4 := by omega
theorem om_e689b00416 {x0 x1 x2 x3 : Int} (h0 : 0 ≤ x0 ∧ x0 ≤ 16000) (h1 : x1 = x0) (h2 : x2 = x1) (h3 : x3 < x2) : x3 < 16000 := by omega
theorem om_eb196a3645 {x0 x1 x2 : Int} (h0 : 0 ≤ x0 ∧ x0 ≤ 16000) (h1 : x1 = x0) (h2 : 0 ≤ x2 ∧ x2 ≤ x1) : x2 + (1 : Int) < 2147483648 := by omega
set_option maxHeartbeats 4000000 in
set_option maxRecDepth 100000 in
theorem c_m_accept (l : Launch) (dC : Nat → ClassId) (dI : Nat → Nat → Nat) (cI cB cZ cJ cR : ClassId) (tb : Nat → Nat) (sz : Nat) (ad : Nat → Nat) (N : Nat) (v : MS)  (pg2 : PG2 v) (gf : GF v) (zw : 0 ≤ (v.1 0 12).toInt ∧ (v.1 0 12).toInt ≤ 24000) (zo : 0 ≤ (v.1 0 15).toInt ∧ (v.1 0 15).toInt ≤ 16000) (zf : 0 ≤ (v.1 0 22).toInt ∧ (v.1 0 22).toInt ≤ 40) (zg : 0 ≤ (v.1 0 27).toInt ∧ (v.1 0 27).toInt ≤ 60) (zs : 0 ≤ (v.1 0 4).toInt ∧ (v.1 0 4).toInt ≤ 4000) (hT : TI v) (a16 : AR 16 0 1500 v) (a17 : AR 17 0 8 v) (a18 : AR 18 0 2008 v) (a19 : AR 19 0 23900 v) (a20 : AR 20 0 15999 v) (a21 : AR 21 0 500 v) (a23 : AR 23 0 1500 v) (a24 : AR 24 0 1000 v) (a25 : AR 25 0 60000 v) (a78 : AR 78 0 8 v) (a79 : AR 79 0 2008 v) (a80 : AR 80 0 96000 v) (a81 : AR 81 0 15999 v) (a82 : AR 82 0 500 v) (a83 : AR 83 0 4000 v) (a84 : AR 84 0 4000 v) (a85 : AR 85 0 1000 v) (a86 : AR 86 0 60000 v) (a87 : AR 87 0 4000 v) (a88 : AR 88 0 4000 v) : Met l yX13_accept (Cond.code yX13_accept cX13_accept 2 none :: tw_W) ({ frames := 0, cells := 0, slots := 0, locals := 0 }) (pc_ (dC, dI) (tyS cI cB cZ cJ cR) tb (mW ad N cI cZ cJ v) sz [.ref (ad 0)]) (qv_ (dC, dI) (mW ad N cI cZ cJ v) sz (fun (u : MS) => FG [73, 74, 75, 76, 77, 123] [0, 70, 71, 72, 78, 79, 80, 81, 82, 83, 84, 85, 86, 87, 88, 89, 90] v u ∧ (Q_m_accept v u) ∧ ((u.1 0 73).toInt = (v.1 0 12).toInt) ∧ ((u.1 0 74).toInt = (v.1 0 22).toInt) ∧ ((u.1 0 75).toInt = (v.1 0 27).toInt) ∧ ((u.1 0 76).toInt = (v.1 0 28).toInt) ∧ ((u.1 0 77).toInt = (v.1 0 69).toInt) ∧ ((u.1 0 123).toInt = 0) ∧ (AR 78 0 8 u) ∧ (AR 79 0 2008 u) ∧ (AR 80 0 96000 u) ∧ (AR 81 0 15999 u) ∧ (AR 82 0 500 u) ∧ (AR 83 0 4000 u) ∧ (AR 84 0 4000 u) ∧ (AR 85 0 1000 u) ∧ (AR 86 0 60000 u) ∧ (AR 87 0 4000 u) ∧ (AR 88 0 4000 u) ∧ (BG u) ∧ (BF u)) (fun (u : MS) => (mW ad N cI cZ cJ u))) 0 0 (va_A (mW ad N cI cZ cJ v) sz) := by
  refine Met.ofW (cc := cX13_accept) (maxL := 2) (ret := none) (by decide) rfl ?_
  intro p e s m args below meth c s₁ B hml hv
  obtain ⟨rfl, hsz, hP, hKK, hD0, hFx⟩ := hv
  have hK := hKK.1
  have hx := B.exec
  have hb := B.bytes
  have hr := B.returns
  have ht : ∀ w ∈ tw_W, w.before _ s = true := fun w h => atoms_spec (ws := Cond.code yX13_accept cX13_accept 2 none :: tw_W) B.pre w (List.mem_cons_of_mem _ h)
  have hown : s.vm.findClass RX13 = some m.cls := findClass_of_methodNamed B.named
  have hlocks := B.notSynchronized
  subst hsz
  unfold qv_
  have hD := hD0.self (sz := s.heap.size)
  generalize hAe : va_A (mW ad N cI cZ cJ v) s.heap.size = A at hD hFx ⊢
  have hA : ∀ q : Nat, s.heap.size ≤ q → A q := fun q h => by rw [← hAe]; exact Or.inr h
  have hS : va_S A s.heap s.heap [] := va_S.rf
  have hl := lv_entry ([.ref (ad 0)]) (n := 2) (Nat.le_of_ble_eq_true rfl)
  rw [lg_entry_eq]
  generalize (lg_sl ([.ref (ad 0)]) ++ List.replicate (2 - (lg_sl ([.ref (ad 0)])).length) Slot.unset).toArray = ls at hl ⊢
  have hl : lv_has ls 2 [(0, .ref (ad 0))] := hl
  refine lv_aload_n hx hb dX13_accept_0 rfl (lv_at hl 0 rfl) ?_
  refine lv_aload_n hx hb dX13_accept_1 rfl (lv_at hl 0 rfl) ?_
  refine va_get (D := (dC, dI)) (ci := 16) (fs := mF ad v) (v := .int (v.1 0 12)) (C := RX13) (T := TX13) (N := 124) hx hb ht itX13 hown hK hP 0 rfl rfl 12 (by decide) (ht _ tw_7) (fun _ h9 => h9) rfl dX13_accept_2 ?_
  refine va_put (D := (dC, dI)) (ci := 16) (fs := mF ad v) (v := .int (v.1 0 12)) (ty := .int) (C := RX13) (T := TX13) (N := 124) hx hb ht itX13 tyX13 tyX13_ok nmX13 hown hK hP hD hS 0 rfl rfl 73 (by decide) (ht _ tw_256) (fun _ h9 => h9) rfl (by decide +kernel) rfl rfl (Nat.le_of_ble_eq_true rfl) dX13_accept_5 (fun H locs hP hD hS => ?_)
  have hP := cP_ (mw_73 ad N cI cZ cJ v (v.1 0 12)) hP
  have hD := cD_ (mw_73 ad N cI cZ cJ v (v.1 0 12)) hD
  refine lv_aload_n hx hb dX13_accept_8 rfl (lv_at hl 0 rfl) ?_
  refine lv_aload_n hx hb dX13_accept_9 rfl (lv_at hl 0 rfl) ?_
  refine va_get (D := (dC, dI)) (ci := 16) (fs := mF ad (wA v 0 73 (v.1 0 12))) (v := .int (v.1 0 22)) (C := RX13) (T := TX13) (N := 124) hx hb ht itX13 hown hK hP 0 rfl rfl 22 (by decide) (ht _ tw_50) (fun _ h9 => h9) rfl dX13_accept_10 ?_
  refine va_put (D := (dC, dI)) (ci := 16) (fs := mF ad (wA v 0 73 (v.1 0 12))) (v := .int (v.1 0 22)) (ty := .int) (C := RX13) (T := TX13) (N := 124) hx hb ht itX13 tyX13 tyX13_ok nmX13 hown hK hP hD hS 0 rfl rfl 74 (by decide) (ht _ tw_258) (fun _ h9 => h9) rfl (by decide +kernel) rfl rfl (Nat.le_of_ble_eq_true rfl) dX13_accept_13 (fun H locs hP hD hS => ?_)
  have hP := cP_ (mw_74 ad N cI cZ cJ (wA v 0 73 (v.1 0 12)) (v.1 0 22)) hP
  have hD := cD_ (mw_74 ad N cI cZ cJ (wA v 0 73 (v.1 0 12)) (v.1 0 22)) hD
  refine lv_aload_n hx hb dX13_accept_16 rfl (lv_at hl 0 rfl) ?_
  refine lv_aload_n hx hb dX13_accept_17 rfl (lv_at hl 0 rfl) ?_
  refine va_get (D := (dC, dI)) (ci := 16) (fs := mF ad (wA (wA v 0 73 (v.1 0 12)) 0 74 (v.1 0 22))) (v := .int (v.1 0 27)) (C := RX13) (T := TX13) (N := 124) hx hb ht itX13 hown hK hP 0 rfl rfl 27 (by decide) (ht _ tw_48) (fun _ h9 => h9) rfl dX13_accept_18 ?_
  refine va_put (D := (dC, dI)) (ci := 16) (fs := mF ad (wA (wA v 0 73 (v.1 0 12)) 0 74 (v.1 0 22))) (v := .int (v.1 0 27)) (ty := .int) (C := RX13) (T := TX13) (N := 124) hx hb ht itX13 tyX13 tyX13_ok nmX13 hown hK hP hD hS 0 rfl rfl 75 (by decide) (ht _ tw_263) (fun _ h9 => h9) rfl (by decide +kernel) rfl rfl (Nat.le_of_ble_eq_true rfl) dX13_accept_21 (fun H locs hP hD hS => ?_)
  have hP := cP_ (mw_75 ad N cI cZ cJ (wA (wA v 0 73 (v.1 0 12)) 0 74 (v.1 0 22)) (v.1 0 27)) hP
  have hD := cD_ (mw_75 ad N cI cZ cJ (wA (wA v 0 73 (v.1 0 12)) 0 74 (v.1 0 22)) (v.1 0 27)) hD
  refine lv_aload_n hx hb dX13_accept_24 rfl (lv_at hl 0 rfl) ?_
  refine lv_aload_n hx hb dX13_accept_25 rfl (lv_at hl 0 rfl) ?_
  refine va_get (D := (dC, dI)) (ci := 16) (fs := mF ad (wA (wA (wA v 0 73 (v.1 0 12)) 0 74 (v.1 0 22)) 0 75 (v.1 0 27))) (v := .int (v.1 0 28)) (C := RX13) (T := TX13) (N := 124) hx hb ht itX13 hown hK hP 0 rfl rfl 28 (by decide) (ht _ tw_198) (fun _ h9 => h9) rfl dX13_accept_26 ?_
  refine va_put (D := (dC, dI)) (ci := 16) (fs := mF ad (wA (wA (wA v 0 73 (v.1 0 12)) 0 74 (v.1 0 22)) 0 75 (v.1 0 27))) (v := .int (v.1 0 28)) (ty := .int) (C := RX13) (T := TX13) (N := 124) hx hb ht itX13 tyX13 tyX13_ok nmX13 hown hK hP hD hS 0 rfl rfl 76 (by decide) (ht _ tw_269) (fun _ h9 => h9) rfl (by decide +kernel) rfl rfl (Nat.le_of_ble_eq_true rfl) dX13_accept_29 (fun H locs hP hD hS => ?_)
  have hP := cP_ (mw_76 ad N cI cZ cJ (wA (wA (wA v 0 73 (v.1 0 12)) 0 74 (v.1 0 22)) 0 75 (v.1 0 27)) (v.1 0 28)) hP
  have hD := cD_ (mw_76 ad N cI cZ cJ (wA (wA (wA v 0 73 (v.1 0 12)) 0 74 (v.1 0 22)) 0 75 (v.1 0 27)) (v.1 0 28)) hD
  refine lv_aload_n hx hb dX13_accept_32 rfl (lv_at hl 0 rfl) ?_
  refine lv_aload_n hx hb dX13_accept_33 rfl (lv_at hl 0 rfl) ?_
  refine va_get (D := (dC, dI)) (ci := 16) (fs := mF ad (wA (wA (wA (wA v 0 73 (v.1 0 12)) 0 74 (v.1 0 22)) 0 75 (v.1 0 27)) 0 76 (v.1 0 28))) (v := .int (v.1 0 69)) (C := RX13) (T := TX13) (N := 124) hx hb ht itX13 hown hK hP 0 rfl rfl 69 (by decide) (ht _ tw_204) (fun _ h9 => h9) rfl dX13_accept_34 ?_
  refine va_put (D := (dC, dI)) (ci := 16) (fs := mF ad (wA (wA (wA (wA v 0 73 (v.1 0 12)) 0 74 (v.1 0 22)) 0 75 (v.1 0 27)) 0 76 (v.1 0 28))) (v := .int (v.1 0 69)) (ty := .int) (C := RX13) (T := TX13) (N := 124) hx hb ht itX13 tyX13 tyX13_ok nmX13 hown hK hP hD hS 0 rfl rfl 77 (by decide) (ht _ tw_270) (fun _ h9 => h9) rfl (by decide +kernel) rfl rfl (Nat.le_of_ble_eq_true rfl) dX13_accept_37 (fun H locs hP hD hS => ?_)
  have hP := cP_ (mw_77 ad N cI cZ cJ (wA (wA (wA (wA v 0 73 (v.1 0 12)) 0 74 (v.1 0 22)) 0 75 (v.1 0 27)) 0 76 (v.1 0 28)) (v.1 0 69)) hP
  have hD := cD_ (mw_77 ad N cI cZ cJ (wA (wA (wA (wA v 0 73 (v.1 0 12)) 0 74 (v.1 0 22)) 0 75 (v.1 0 27)) 0 76 (v.1 0 28)) (v.1 0 69)) hD
  refine lv_iconst (v := 0) hx hb dX13_accept_40 (by decide) ?_
  refine lv_istore_n (lv' := [(1, .int 0), (0, .ref (ad 0))]) hx hb dX13_accept_41 rfl hl (by decide) rfl (fun ls hl => ?_)
  refine lpm_ (X := Int32 × MS) (P := (fun (x9 : Int32 × MS) (H : Heap) (locs : List Loc) (ls : Array Slot) => (FG [] [70] (wA (wA (wA (wA (wA v 0 73 (v.1 0 12)) 0 74 (v.1 0 22)) 0 75 (v.1 0 27)) 0 76 (v.1 0 28)) 0 77 (v.1 0 69)) x9.2) ∧ (0 ≤ x9.1.toInt ∧ x9.1.toInt ≤ (v.1 0 12).toInt) ∧ (∀ j : Nat, (j : Int) < x9.1.toInt → (x9.2.1 70) j = (v.1 11) j) ∧ (RT (Q_m_accept_L0 v) (0, (wA (wA (wA (wA (wA v 0 73 (v.1 0 12)) 0 74 (v.1 0 22)) 0 75 (v.1 0 27)) 0 76 (v.1 0 28)) 0 77 (v.1 0 69))) (x9.1, x9.2)) ∧ va_P (dC, dI) vwCl (mW ad N cI cZ cJ x9.2) H ∧ va_D A (mW ad N cI cZ cJ x9.2) ∧ va_S A s.heap H locs ∧ lv_has ls 2 [(1, .int x9.1), (0, .ref (ad 0))])) (fun x9 => ((v.1 0 12).toInt - x9.1.toInt).toNat) 42 (fun x9 H locs ls hh ih42 => ?_) (0, (wA (wA (wA (wA (wA v 0 73 (v.1 0 12)) 0 74 (v.1 0 22)) 0 75 (v.1 0 27)) 0 76 (v.1 0 28)) 0 77 (v.1 0 69))) _ _ _ ⟨(show FG [] [70] (wA (wA (wA (wA (wA v 0 73 (v.1 0 12)) 0 74 (v.1 0 22)) 0 75 (v.1 0 27)) 0 76 (v.1 0 28)) 0 77 (v.1 0 69)) (wA (wA (wA (wA (wA v 0 73 (v.1 0 12)) 0 74 (v.1 0 22)) 0 75 (v.1 0 27)) 0 76 (v.1 0 28)) 0 77 (v.1 0 69)) from (FG.rf _)), (show 0 ≤ (0 : Int) ∧ (0 : Int) ≤ (v.1 0 12).toInt from (om_3eaedb8a3d zw)), (show ∀ j : Nat, (j : Int) < (0 : Int) → (v.1 70) j = (v.1 11) j from (fun j9 h9 => (cp0 h9).elim)), RT.rf, hP, hD, hS, lv_sub hl [0, 1] rfl⟩
  obtain ⟨ka, w42⟩ := x9
  obtain ⟨fwL42, e1L42, c70L42, exL42, hP, hD, hS, hl⟩ := hh
  have fwL42 : FG [] [70] (wA (wA (wA (wA (wA v 0 73 (v.1 0 12)) 0 74 (v.1 0 22)) 0 75 (v.1 0 27)) 0 76 (v.1 0 28)) 0 77 (v.1 0 69)) w42 := fwL42
  have e1L42 : 0 ≤ ka.toInt ∧ ka.toInt ≤ (v.1 0 12).toInt := e1L42
  have c70L42 : ∀ j : Nat, (j : Int) < ka.toInt → (w42.1 70) j = (v.1 11) j := c70L42
  have hP : va_P (dC, dI) vwCl (mW ad N cI cZ cJ w42) H := hP
  have hD : va_D A (mW ad N cI cZ cJ w42) := hD
  have hl : lv_has ls 2 [(1, .int ka), (0, .ref (ad 0))] := hl
  refine lv_iload_n hx hb dX13_accept_42 rfl (lv_at hl 0 rfl) ?_
  refine lv_aload_n hx hb dX13_accept_43 rfl (lv_at hl 1 rfl) ?_
  refine va_get (D := (dC, dI)) (ci := 16) (fs := mF ad w42) (v := .int (w42.1 0 12)) (C := RX13) (T := TX13) (N := 124) hx hb ht itX13 hown hK hP 0 rfl rfl 12 (by decide) (ht _ tw_7) (fun _ h9 => h9) rfl dX13_accept_44 ?_
  refine lv_icmp_ge (tgt := 68) hx hb dX13_accept_47 (by decide) (fun h1 => ?_) (fun h1 => ?_)
  · have z2 : (w42.1 0 12).toInt ≤ ka.toInt := le_z rfl rfl h1
    refine lv_iconst (v := 0) hx hb dX13_accept_68 (by decide) ?_
    refine lv_istore_n (lv' := [(1, .int 0), (0, .ref (ad 0))]) hx hb dX13_accept_69 rfl hl (by decide) rfl (fun ls hl => ?_)
    have q3 : (w42.1 0 15).toInt = (v.1 0 15).toInt := congrArg Int32.toInt ((fwL42.2.1 15 (by decide)).trans (show (wA (wA (wA (wA (wA v 0 73 (v.1 0 12)) 0 74 (v.1 0 22)) 0 75 (v.1 0 27)) 0 76 (v.1 0 28)) 0 77 (v.1 0 69)).1 0 15 = (v.1 0 15) by rfl))
    refine lpm_ (X := Int32 × MS) (P := (fun (x9 : Int32 × MS) (H : Heap) (locs : List Loc) (ls : Array Slot) => (FG [] [71, 72] w42 x9.2) ∧ (0 ≤ x9.1.toInt ∧ x9.1.toInt ≤ (w42.1 0 15).toInt) ∧ (∀ j : Nat, (j : Int) < x9.1.toInt → (x9.2.1 71) j = (w42.1 13) j) ∧ (∀ j : Nat, (j : Int) < x9.1.toInt → (x9.2.1 72) j = (w42.1 14) j) ∧ (RT (Q_m_accept_L1 w42) (0, w42) (x9.1, x9.2)) ∧ va_P (dC, dI) vwCl (mW ad N cI cZ cJ x9.2) H ∧ va_D A (mW ad N cI cZ cJ x9.2) ∧ va_S A s.heap H locs ∧ lv_has ls 2 [(1, .int x9.1), (0, .ref (ad 0))])) (fun x9 => ((v.1 0 15).toInt - x9.1.toInt).toNat) 70 (fun x9 H locs ls hh ih70 => ?_) (0, w42) _ _ _ ⟨(show FG [] [71, 72] w42 w42 from (FG.rf _)), (show 0 ≤ (0 : Int) ∧ (0 : Int) ≤ (w42.1 0 15).toInt from (om_ac99ef5a20 zo q3)), (show ∀ j : Nat, (j : Int) < (0 : Int) → (w42.1 71) j = (w42.1 13) j from (fun j9 h9 => (cp0 h9).elim)), (show ∀ j : Nat, (j : Int) < (0 : Int) → (w42.1 72) j = (w42.1 14) j from (fun j9 h9 => (cp0 h9).elim)), RT.rf, hP, hD, hS, lv_sub hl [0, 1] rfl⟩
    obtain ⟨kb, w70⟩ := x9
    obtain ⟨fwL70, e1L70, c71L70, c72L70, exL70, hP, hD, hS, hl⟩ := hh
    have fwL70 : FG [] [71, 72] w42 w70 := fwL70
    have e1L70 : 0 ≤ kb.toInt ∧ kb.toInt ≤ (w42.1 0 15).toInt := e1L70
    have c71L70 : ∀ j : Nat, (j : Int) < kb.toInt → (w70.1 71) j = (w42.1 13) j := c71L70
    have c72L70 : ∀ j : Nat, (j : Int) < kb.toInt → (w70.1 72) j = (w42.1 14) j := c72L70
    have hP : va_P (dC, dI) vwCl (mW ad N cI cZ cJ w70) H := hP
    have hD : va_D A (mW ad N cI cZ cJ w70) := hD
    have hl : lv_has ls 2 [(1, .int kb), (0, .ref (ad 0))] := hl
    refine lv_iload_n hx hb dX13_accept_70 rfl (lv_at hl 0 rfl) ?_
    refine lv_aload_n hx hb dX13_accept_71 rfl (lv_at hl 1 rfl) ?_
    refine va_get (D := (dC, dI)) (ci := 16) (fs := mF ad w70) (v := .int (w70.1 0 15)) (C := RX13) (T := TX13) (N := 124) hx hb ht itX13 hown hK hP 0 rfl rfl 15 (by decide) (ht _ tw_11) (fun _ h9 => h9) rfl dX13_accept_72 ?_
    refine lv_icmp_ge (tgt := 108) hx hb dX13_accept_75 (by decide) (fun h4 => ?_) (fun h4 => ?_)
    · have z5 : (w70.1 0 15).toInt ≤ kb.toInt := le_z rfl rfl h4
      refine lv_iconst (v := 0) hx hb dX13_accept_108 (by decide) ?_
      refine lv_istore_n (lv' := [(1, .int 0), (0, .ref (ad 0))]) hx hb dX13_accept_109 rfl hl (by decide) rfl (fun ls hl => ?_)
      have q6 : (w42.1 0 22).toInt = (v.1 0 22).toInt := congrArg Int32.toInt ((fwL42.2.1 22 (by decide)).trans (show (wA (wA (wA (wA (wA v 0 73 (v.1 0 12)) 0 74 (v.1 0 22)) 0 75 (v.1 0 27)) 0 76 (v.1 0 28)) 0 77 (v.1 0 69)).1 0 22 = (v.1 0 22) by rfl))
      have q7 : (w70.1 0 22).toInt = (w42.1 0 22).toInt := congrArg Int32.toInt ((fwL70.2.1 22 (by decide)).trans (show w42.1 0 22 = (w42.1 0 22) by rfl))
      refine lpm_ (X := Int32 × MS) (P := (fun (x9 : Int32 × MS) (H : Heap) (locs : List Loc) (ls : Array Slot) => (FG [] [78, 79, 80, 81, 82, 83, 84] w70 x9.2) ∧ (0 ≤ x9.1.toInt ∧ x9.1.toInt ≤ (w70.1 0 22).toInt) ∧ (∀ j : Nat, (j : Int) < x9.1.toInt → (x9.2.1 78) j = (w70.1 17) j) ∧ (∀ j : Nat, (j : Int) < x9.1.toInt → (x9.2.1 79) j = (w70.1 18) j) ∧ (∀ j : Nat, (j : Int) < x9.1.toInt → (x9.2.1 81) j = (w70.1 20) j) ∧ (∀ j : Nat, (j : Int) < x9.1.toInt → (x9.2.1 82) j = (w70.1 21) j) ∧ (AR 78 0 8 x9.2) ∧ (AR 79 0 2008 x9.2) ∧ (AR 80 0 96000 x9.2) ∧ (AR 81 0 15999 x9.2) ∧ (AR 82 0 500 x9.2) ∧ (AR 83 0 4000 x9.2) ∧ (AR 84 0 4000 x9.2) ∧ (RT (Q_m_accept_L2 w70) (0, w70) (x9.1, x9.2)) ∧ va_P (dC, dI) vwCl (mW ad N cI cZ cJ x9.2) H ∧ va_D A (mW ad N cI cZ cJ x9.2) ∧ va_S A s.heap H locs ∧ lv_has ls 2 [(1, .int x9.1), (0, .ref (ad 0))])) (fun x9 => ((v.1 0 22).toInt - x9.1.toInt).toNat) 110 (fun x9 H locs ls hh ih110 => ?_) (0, w70) _ _ _ ⟨(show FG [] [78, 79, 80, 81, 82, 83, 84] w70 w70 from (FG.rf _)), (show 0 ≤ (0 : Int) ∧ (0 : Int) ≤ (w70.1 0 22).toInt from (om_b66f1aee2b zf q6 q7)), (show ∀ j : Nat, (j : Int) < (0 : Int) → (w70.1 78) j = (w70.1 17) j from (fun j9 h9 => (cp0 h9).elim)), (show ∀ j : Nat, (j : Int) < (0 : Int) → (w70.1 79) j = (w70.1 18) j from (fun j9 h9 => (cp0 h9).elim)), (show ∀ j : Nat, (j : Int) < (0 : Int) → (w70.1 81) j = (w70.1 20) j from (fun j9 h9 => (cp0 h9).elim)), (show ∀ j : Nat, (j : Int) < (0 : Int) → (w70.1 82) j = (w70.1 21) j from (fun j9 h9 => (cp0 h9).elim)), (show AR 78 0 8 w70 from (show AR 78 0 8 w70 from AR.fr (fl := []) (al := [71, 72]) fwL70 (by decide) (show AR 78 0 8 w42 from AR.fr (fl := []) (al := [70]) fwL42 (by decide) (AR.o (AR.o (AR.o (AR.o (AR.o a78 (by decide)) (by decide)) (by decide)) (by decide)) (by decide))))), (show AR 79 0 2008 w70 from (show AR 79 0 2008 w70 from AR.fr (fl := []) (al := [71, 72]) fwL70 (by decide) (show AR 79 0 2008 w42 from AR.fr (fl := []) (al := [70]) fwL42 (by decide) (AR.o (AR.o (AR.o (AR.o (AR.o a79 (by decide)) (by decide)) (by decide)) (by decide)) (by decide))))), (show AR 80 0 96000 w70 from (show AR 80 0 96000 w70 from AR.fr (fl := []) (al := [71, 72]) fwL70 (by decide) (show AR 80 0 96000 w42 from AR.fr (fl := []) (al := [70]) fwL42 (by decide) (AR.o (AR.o (AR.o (AR.o (AR.o a80 (by decide)) (by decide)) (by decide)) (by decide)) (by decide))))), (show AR 81 0 15999 w70 from (show AR 81 0 15999 w70 from AR.fr (fl := []) (al := [71, 72]) fwL70 (by decide) (show AR 81 0 15999 w42 from AR.fr (fl := []) (al := [70]) fwL42 (by decide) (AR.o (AR.o (AR.o (AR.o (AR.o a81 (by decide)) (by decide)) (by decide)) (by decide)) (by decide))))), (show AR 82 0 500 w70 from (show AR 82 0 500 w70 from AR.fr (fl := []) (al := [71, 72]) fwL70 (by decide) (show AR 82 0 500 w42 from AR.fr (fl := []) (al := [70]) fwL42 (by decide) (AR.o (AR.o (AR.o (AR.o (AR.o a82 (by decide)) (by decide)) (by decide)) (by decide)) (by decide))))), (show AR 83 0 4000 w70 from (show AR 83 0 4000 w70 from AR.fr (fl := []) (al := [71, 72]) fwL70 (by decide) (show AR 83 0 4000 w42 from AR.fr (fl := []) (al := [70]) fwL42 (by decide) (AR.o (AR.o (AR.o (AR.o (AR.o a83 (by decide)) (by decide)) (by decide)) (by decide)) (by decide))))), (show AR 84 0 4000 w70 from (show AR 84 0 4000 w70 from AR.fr (fl := []) (al := [71, 72]) fwL70 (by decide) (show AR 84 0 4000 w42 from AR.fr (fl := []) (al := [70]) fwL42 (by decide) (AR.o (AR.o (AR.o (AR.o (AR.o a84 (by decide)) (by decide)) (by decide)) (by decide)) (by decide))))), RT.rf, hP, hD, hS, lv_sub hl [0, 1] rfl⟩
      obtain ⟨kc, w110⟩ := x9
      obtain ⟨fwL110, e1L110, c78L110, c79L110, c81L110, c82L110, a78L110, a79L110, a80L110, a81L110, a82L110, a83L110, a84L110, exL110, hP, hD, hS, hl⟩ := hh
      have fwL110 : FG [] [78, 79, 80, 81, 82, 83, 84] w70 w110 := fwL110
      have e1L110 : 0 ≤ kc.toInt ∧ kc.toInt ≤ (w70.1 0 22).toInt := e1L110
      have c78L110 : ∀ j : Nat, (j : Int) < kc.toInt → (w110.1 78) j = (w70.1 17) j := c78L110
      have c79L110 : ∀ j : Nat, (j : Int) < kc.toInt → (w110.1 79) j = (w70.1 18) j := c79L110
      have c81L110 : ∀ j : Nat, (j : Int) < kc.toInt → (w110.1 81) j = (w70.1 20) j := c81L110
      have c82L110 : ∀ j : Nat, (j : Int) < kc.toInt → (w110.1 82) j = (w70.1 21) j := c82L110
      have a78L110 : AR 78 0 8 w110 := a78L110
      have a79L110 : AR 79 0 2008 w110 := a79L110
      have a80L110 : AR 80 0 96000 w110 := a80L110
      have a81L110 : AR 81 0 15999 w110 := a81L110
      have a82L110 : AR 82 0 500 w110 := a82L110
      have a83L110 : AR 83 0 4000 w110 := a83L110
      have a84L110 : AR 84 0 4000 w110 := a84L110
      have hP : va_P (dC, dI) vwCl (mW ad N cI cZ cJ w110) H := hP
      have hD : va_D A (mW ad N cI cZ cJ w110) := hD
      have hl : lv_has ls 2 [(1, .int kc), (0, .ref (ad 0))] := hl
      refine lv_iload_n hx hb dX13_accept_110 rfl (lv_at hl 0 rfl) ?_
      refine lv_aload_n hx hb dX13_accept_111 rfl (lv_at hl 1 rfl) ?_
      refine va_get (D := (dC, dI)) (ci := 16) (fs := mF ad w110) (v := .int (w110.1 0 22)) (C := RX13) (T := TX13) (N := 124) hx hb ht itX13 hown hK hP 0 rfl rfl 22 (by decide) (ht _ tw_50) (fun _ h9 => h9) rfl dX13_accept_112 ?_
      refine lv_icmp_ge (tgt := 220) hx hb dX13_accept_115 (by decide) (fun h8 => ?_) (fun h8 => ?_)
      · have z9 : (w110.1 0 22).toInt ≤ kc.toInt := le_z rfl rfl h8
        refine lv_iconst (v := 0) hx hb dX13_accept_220 (by decide) ?_
        refine lv_istore_n (lv' := [(1, .int 0), (0, .ref (ad 0))]) hx hb dX13_accept_221 rfl hl (by decide) rfl (fun ls hl => ?_)
        have q10 : (w42.1 0 27).toInt = (v.1 0 27).toInt := congrArg Int32.toInt ((fwL42.2.1 27 (by decide)).trans (show (wA (wA (wA (wA (wA v 0 73 (v.1 0 12)) 0 74 (v.1 0 22)) 0 75 (v.1 0 27)) 0 76 (v.1 0 28)) 0 77 (v.1 0 69)).1 0 27 = (v.1 0 27) by rfl))
        have q11 : (w70.1 0 27).toInt = (w42.1 0 27).toInt := congrArg Int32.toInt ((fwL70.2.1 27 (by decide)).trans (show w42.1 0 27 = (w42.1 0 27) by rfl))
        have q12 : (w110.1 0 27).toInt = (w70.1 0 27).toInt := congrArg Int32.toInt ((fwL110.2.1 27 (by decide)).trans (show w70.1 0 27 = (w70.1 0 27) by rfl))
        refine lpm_ (X := Int32 × MS) (P := (fun (x9 : Int32 × MS) (H : Heap) (locs : List Loc) (ls : Array Slot) => (FG [] [85, 86, 87, 88, 89] w110 x9.2) ∧ (0 ≤ x9.1.toInt ∧ x9.1.toInt ≤ (w110.1 0 27).toInt) ∧ (∀ j : Nat, (j : Int) < x9.1.toInt → (x9.2.1 85) j = (w110.1 24) j) ∧ (∀ j : Nat, (j : Int) < x9.1.toInt → (x9.2.1 86) j = (w110.1 25) j) ∧ (AR 85 0 1000 x9.2) ∧ (AR 86 0 60000 x9.2) ∧ (AR 87 0 4000 x9.2) ∧ (AR 88 0 4000 x9.2) ∧ (RT (Q_m_accept_L3 w110) (0, w110) (x9.1, x9.2)) ∧ va_P (dC, dI) vwCl (mW ad N cI cZ cJ x9.2) H ∧ va_D A (mW ad N cI cZ cJ x9.2) ∧ va_S A s.heap H locs ∧ lv_has ls 2 [(1, .int x9.1), (0, .ref (ad 0))])) (fun x9 => ((v.1 0 27).toInt - x9.1.toInt).toNat) 222 (fun x9 H locs ls hh ih222 => ?_) (0, w110) _ _ _ ⟨(show FG [] [85, 86, 87, 88, 89] w110 w110 from (FG.rf _)), (show 0 ≤ (0 : Int) ∧ (0 : Int) ≤ (w110.1 0 27).toInt from (om_e464289c7a zg q10 q11 q12)), (show ∀ j : Nat, (j : Int) < (0 : Int) → (w110.1 85) j = (w110.1 24) j from (fun j9 h9 => (cp0 h9).elim)), (show ∀ j : Nat, (j : Int) < (0 : Int) → (w110.1 86) j = (w110.1 25) j from (fun j9 h9 => (cp0 h9).elim)), (show AR 85 0 1000 w110 from (show AR 85 0 1000 w110 from AR.fr (fl := []) (al := [78, 79, 80, 81, 82, 83, 84]) fwL110 (by decide) (show AR 85 0 1000 w70 from AR.fr (fl := []) (al := [71, 72]) fwL70 (by decide) (show AR 85 0 1000 w42 from AR.fr (fl := []) (al := [70]) fwL42 (by decide) (AR.o (AR.o (AR.o (AR.o (AR.o a85 (by decide)) (by decide)) (by decide)) (by decide)) (by decide)))))), (show AR 86 0 60000 w110 from (show AR 86 0 60000 w110 from AR.fr (fl := []) (al := [78, 79, 80, 81, 82, 83, 84]) fwL110 (by decide) (show AR 86 0 60000 w70 from AR.fr (fl := []) (al := [71, 72]) fwL70 (by decide) (show AR 86 0 60000 w42 from AR.fr (fl := []) (al := [70]) fwL42 (by decide) (AR.o (AR.o (AR.o (AR.o (AR.o a86 (by decide)) (by decide)) (by decide)) (by decide)) (by decide)))))), (show AR 87 0 4000 w110 from (show AR 87 0 4000 w110 from AR.fr (fl := []) (al := [78, 79, 80, 81, 82, 83, 84]) fwL110 (by decide) (show AR 87 0 4000 w70 from AR.fr (fl := []) (al := [71, 72]) fwL70 (by decide) (show AR 87 0 4000 w42 from AR.fr (fl := []) (al := [70]) fwL42 (by decide) (AR.o (AR.o (AR.o (AR.o (AR.o a87 (by decide)) (by decide)) (by decide)) (by decide)) (by decide)))))), (show AR 88 0 4000 w110 from (show AR 88 0 4000 w110 from AR.fr (fl := []) (al := [78, 79, 80, 81, 82, 83, 84]) fwL110 (by decide) (show AR 88 0 4000 w70 from AR.fr (fl := []) (al := [71, 72]) fwL70 (by decide) (show AR 88 0 4000 w42 from AR.fr (fl := []) (al := [70]) fwL42 (by decide) (AR.o (AR.o (AR.o (AR.o (AR.o a88 (by decide)) (by decide)) (by decide)) (by decide)) (by decide)))))), RT.rf, hP, hD, hS, lv_sub hl [0, 1] rfl⟩
        obtain ⟨kd, w222⟩ := x9
        obtain ⟨fwL222, e1L222, c85L222, c86L222, a85L222, a86L222, a87L222, a88L222, exL222, hP, hD, hS, hl⟩ := hh
        have fwL222 : FG [] [85, 86, 87, 88, 89] w110 w222 := fwL222
        have e1L222 : 0 ≤ kd.toInt ∧ kd.toInt ≤ (w110.1 0 27).toInt := e1L222
        have c85L222 : ∀ j : Nat, (j : Int) < kd.toInt → (w222.1 85) j = (w110.1 24) j := c85L222
        have c86L222 : ∀ j : Nat, (j : Int) < kd.toInt → (w222.1 86) j = (w110.1 25) j := c86L222
        have a85L222 : AR 85 0 1000 w222 := a85L222
        have a86L222 : AR 86 0 60000 w222 := a86L222
        have a87L222 : AR 87 0 4000 w222 := a87L222
        have a88L222 : AR 88 0 4000 w222 := a88L222
        have hP : va_P (dC, dI) vwCl (mW ad N cI cZ cJ w222) H := hP
        have hD : va_D A (mW ad N cI cZ cJ w222) := hD
        have hl : lv_has ls 2 [(1, .int kd), (0, .ref (ad 0))] := hl
        refine lv_iload_n hx hb dX13_accept_222 rfl (lv_at hl 0 rfl) ?_
        refine lv_aload_n hx hb dX13_accept_223 rfl (lv_at hl 1 rfl) ?_
        refine va_get (D := (dC, dI)) (ci := 16) (fs := mF ad w222) (v := .int (w222.1 0 27)) (C := RX13) (T := TX13) (N := 124) hx hb ht itX13 hown hK hP 0 rfl rfl 27 (by decide) (ht _ tw_48) (fun _ h9 => h9) rfl dX13_accept_224 ?_
        refine lv_icmp_ge (tgt := 306) hx hb dX13_accept_227 (by decide) (fun h13 => ?_) (fun h13 => ?_)
        · have z14 : (w222.1 0 27).toInt ≤ kd.toInt := le_z rfl rfl h13
          refine lv_iconst (v := 0) hx hb dX13_accept_306 (by decide) ?_
          refine lv_istore_n (lv' := [(1, .int 0), (0, .ref (ad 0))]) hx hb dX13_accept_307 rfl hl (by decide) rfl (fun ls hl => ?_)
          have q15 : (w42.1 0 4).toInt = (v.1 0 4).toInt := congrArg Int32.toInt ((fwL42.2.1 4 (by decide)).trans (show (wA (wA (wA (wA (wA v 0 73 (v.1 0 12)) 0 74 (v.1 0 22)) 0 75 (v.1 0 27)) 0 76 (v.1 0 28)) 0 77 (v.1 0 69)).1 0 4 = (v.1 0 4) by rfl))
          have q16 : (w70.1 0 4).toInt = (w42.1 0 4).toInt := congrArg Int32.toInt ((fwL70.2.1 4 (by decide)).trans (show w42.1 0 4 = (w42.1 0 4) by rfl))
          have q17 : (w110.1 0 4).toInt = (w70.1 0 4).toInt := congrArg Int32.toInt ((fwL110.2.1 4 (by decide)).trans (show w70.1 0 4 = (w70.1 0 4) by rfl))
          have q18 : (w222.1 0 4).toInt = (w110.1 0 4).toInt := congrArg Int32.toInt ((fwL222.2.1 4 (by decide)).trans (show w110.1 0 4 = (w110.1 0 4) by rfl))
          refine lpm_ (X := Int32 × MS) (P := (fun (x9 : Int32 × MS) (H : Heap) (locs : List Loc) (ls : Array Slot) => (FG [] [90] w222 x9.2) ∧ (0 ≤ x9.1.toInt ∧ x9.1.toInt ≤ (w222.1 0 4).toInt) ∧ (RT (Q_m_accept_L4 w222) (0, w222) (x9.1, x9.2)) ∧ va_P (dC, dI) vwCl (mW ad N cI cZ cJ x9.2) H ∧ va_D A (mW ad N cI cZ cJ x9.2) ∧ va_S A s.heap H locs ∧ lv_has ls 2 [(1, .int x9.1), (0, .ref (ad 0))])) (fun x9 => ((v.1 0 4).toInt - x9.1.toInt).toNat) 308 (fun x9 H locs ls hh ih308 => ?_) (0, w222) _ _ _ ⟨(show FG [] [90] w222 w222 from (FG.rf _)), (show 0 ≤ (0 : Int) ∧ (0 : Int) ≤ (w222.1 0 4).toInt from (om_f827b65078 zs q15 q16 q17 q18)), RT.rf, hP, hD, hS, lv_sub hl [0, 1] rfl⟩
          obtain ⟨ke, w308⟩ := x9
          obtain ⟨fwL308, e1L308, exL308, hP, hD, hS, hl⟩ := hh
          have fwL308 : FG [] [90] w222 w308 := fwL308
          have e1L308 : 0 ≤ ke.toInt ∧ ke.toInt ≤ (w222.1 0 4).toInt := e1L308
          have hP : va_P (dC, dI) vwCl (mW ad N cI cZ cJ w308) H := hP
          have hD : va_D A (mW ad N cI cZ cJ w308) := hD
          have hl : lv_has ls 2 [(1, .int ke), (0, .ref (ad 0))] := hl
          refine lv_iload_n hx hb dX13_accept_308 rfl (lv_at hl 0 rfl) ?_
          refine lv_aload_n hx hb dX13_accept_309 rfl (lv_at hl 1 rfl) ?_
          refine va_get (D := (dC, dI)) (ci := 16) (fs := mF ad w308) (v := .int (w308.1 0 4)) (C := RX13) (T := TX13) (N := 124) hx hb ht itX13 hown hK hP 0 rfl rfl 4 (by decide) (ht _ tw_271) (fun _ h9 => h9) rfl dX13_accept_310 ?_
          refine lv_icmp_ge (tgt := 334) hx hb dX13_accept_313 (by decide) (fun h19 => ?_) (fun h19 => ?_)
          · have z20 : (w308.1 0 4).toInt ≤ ke.toInt := le_z rfl rfl h19
            refine lv_aload_n hx hb dX13_accept_334 rfl (lv_at hl 1 rfl) ?_
            refine lv_iconst (v := 0) hx hb dX13_accept_335 (by decide) ?_
            refine va_put (D := (dC, dI)) (ci := 16) (fs := mF ad w308) (v := .int 0) (ty := .boolean) (C := RX13) (T := TX13) (N := 124) hx hb ht itX13 tyX13 tyX13_ok nmX13 hown hK hP hD hS 0 rfl rfl 123 (by decide) (ht _ tw_272) (fun _ h9 => h9) rfl (by decide +kernel) rfl rfl (Nat.le_of_ble_eq_true rfl) dX13_accept_336 (fun H locs hP hD hS => ?_)
            have hP := cP_ (mw_123 ad N cI cZ cJ w308 0) hP
            have hD := cD_ (mw_123 ad N cI cZ cJ w308 0) hD
            have q21 : (w42.1 0 73).toInt = (v.1 0 12).toInt := congrArg Int32.toInt ((fwL42.2.1 73 (by decide)).trans (show (wA (wA (wA (wA (wA v 0 73 (v.1 0 12)) 0 74 (v.1 0 22)) 0 75 (v.1 0 27)) 0 76 (v.1 0 28)) 0 77 (v.1 0 69)).1 0 73 = (v.1 0 12) by rfl))
            have q22 : (w70.1 0 73).toInt = (w42.1 0 73).toInt := congrArg Int32.toInt ((fwL70.2.1 73 (by decide)).trans (show w42.1 0 73 = (w42.1 0 73) by rfl))
            have q23 : (w110.1 0 73).toInt = (w70.1 0 73).toInt := congrArg Int32.toInt ((fwL110.2.1 73 (by decide)).trans (show w70.1 0 73 = (w70.1 0 73) by rfl))
            have q24 : (w222.1 0 73).toInt = (w110.1 0 73).toInt := congrArg Int32.toInt ((fwL222.2.1 73 (by decide)).trans (show w110.1 0 73 = (w110.1 0 73) by rfl))
            have q25 : (w308.1 0 73).toInt = (w222.1 0 73).toInt := congrArg Int32.toInt ((fwL308.2.1 73 (by decide)).trans (show w222.1 0 73 = (w222.1 0 73) by rfl))
            have q26 : (w42.1 0 74).toInt = (v.1 0 22).toInt := congrArg Int32.toInt ((fwL42.2.1 74 (by decide)).trans (show (wA (wA (wA (wA (wA v 0 73 (v.1 0 12)) 0 74 (v.1 0 22)) 0 75 (v.1 0 27)) 0 76 (v.1 0 28)) 0 77 (v.1 0 69)).1 0 74 = (v.1 0 22) by rfl))
            have q27 : (w70.1 0 74).toInt = (w42.1 0 74).toInt := congrArg Int32.toInt ((fwL70.2.1 74 (by decide)).trans (show w42.1 0 74 = (w42.1 0 74) by rfl))
            have q28 : (w110.1 0 74).toInt = (w70.1 0 74).toInt := congrArg Int32.toInt ((fwL110.2.1 74 (by decide)).trans (show w70.1 0 74 = (w70.1 0 74) by rfl))
            have q29 : (w222.1 0 74).toInt = (w110.1 0 74).toInt := congrArg Int32.toInt ((fwL222.2.1 74 (by decide)).trans (show w110.1 0 74 = (w110.1 0 74) by rfl))
            have q30 : (w308.1 0 74).toInt = (w222.1 0 74).toInt := congrArg Int32.toInt ((fwL308.2.1 74 (by decide)).trans (show w222.1 0 74 = (w222.1 0 74) by rfl))
            have q31 : (w42.1 0 75).toInt = (v.1 0 27).toInt := congrArg Int32.toInt ((fwL42.2.1 75 (by decide)).trans (show (wA (wA (wA (wA (wA v 0 73 (v.1 0 12)) 0 74 (v.1 0 22)) 0 75 (v.1 0 27)) 0 76 (v.1 0 28)) 0 77 (v.1 0 69)).1 0 75 = (v.1 0 27) by rfl))
            have q32 : (w70.1 0 75).toInt = (w42.1 0 75).toInt := congrArg Int32.toInt ((fwL70.2.1 75 (by decide)).trans (show w42.1 0 75 = (w42.1 0 75) by rfl))
            have q33 : (w110.1 0 75).toInt = (w70.1 0 75).toInt := congrArg Int32.toInt ((fwL110.2.1 75 (by decide)).trans (show w70.1 0 75 = (w70.1 0 75) by rfl))
            have q34 : (w222.1 0 75).toInt = (w110.1 0 75).toInt := congrArg Int32.toInt ((fwL222.2.1 75 (by decide)).trans (show w110.1 0 75 = (w110.1 0 75) by rfl))
            have q35 : (w308.1 0 75).toInt = (w222.1 0 75).toInt := congrArg Int32.toInt ((fwL308.2.1 75 (by decide)).trans (show w222.1 0 75 = (w222.1 0 75) by rfl))
            have q36 : (w42.1 0 76).toInt = (v.1 0 28).toInt := congrArg Int32.toInt ((fwL42.2.1 76 (by decide)).trans (show (wA (wA (wA (wA (wA v 0 73 (v.1 0 12)) 0 74 (v.1 0 22)) 0 75 (v.1 0 27)) 0 76 (v.1 0 28)) 0 77 (v.1 0 69)).1 0 76 = (v.1 0 28) by rfl))
            have q37 : (w70.1 0 76).toInt = (w42.1 0 76).toInt := congrArg Int32.toInt ((fwL70.2.1 76 (by decide)).trans (show w42.1 0 76 = (w42.1 0 76) by rfl))
            have q38 : (w110.1 0 76).toInt = (w70.1 0 76).toInt := congrArg Int32.toInt ((fwL110.2.1 76 (by decide)).trans (show w70.1 0 76 = (w70.1 0 76) by rfl))
            have q39 : (w222.1 0 76).toInt = (w110.1 0 76).toInt := congrArg Int32.toInt ((fwL222.2.1 76 (by decide)).trans (show w110.1 0 76 = (w110.1 0 76) by rfl))
            have q40 : (w308.1 0 76).toInt = (w222.1 0 76).toInt := congrArg Int32.toInt ((fwL308.2.1 76 (by decide)).trans (show w222.1 0 76 = (w222.1 0 76) by rfl))
            have q41 : (w42.1 0 77).toInt = (v.1 0 69).toInt := congrArg Int32.toInt ((fwL42.2.1 77 (by decide)).trans (show (wA (wA (wA (wA (wA v 0 73 (v.1 0 12)) 0 74 (v.1 0 22)) 0 75 (v.1 0 27)) 0 76 (v.1 0 28)) 0 77 (v.1 0 69)).1 0 77 = (v.1 0 69) by rfl))
            have q42 : (w70.1 0 77).toInt = (w42.1 0 77).toInt := congrArg Int32.toInt ((fwL70.2.1 77 (by decide)).trans (show w42.1 0 77 = (w42.1 0 77) by rfl))
            have q43 : (w110.1 0 77).toInt = (w70.1 0 77).toInt := congrArg Int32.toInt ((fwL110.2.1 77 (by decide)).trans (show w70.1 0 77 = (w70.1 0 77) by rfl))
            have q44 : (w222.1 0 77).toInt = (w110.1 0 77).toInt := congrArg Int32.toInt ((fwL222.2.1 77 (by decide)).trans (show w110.1 0 77 = (w110.1 0 77) by rfl))
            have q45 : (w308.1 0 77).toInt = (w222.1 0 77).toInt := congrArg Int32.toInt ((fwL308.2.1 77 (by decide)).trans (show w222.1 0 77 = (w222.1 0 77) by rfl))
            have q46 : (w70.1 0 15).toInt = (w42.1 0 15).toInt := congrArg Int32.toInt ((fwL70.2.1 15 (by decide)).trans (show w42.1 0 15 = (w42.1 0 15) by rfl))
            have q47 : (w110.1 0 22).toInt = (w70.1 0 22).toInt := congrArg Int32.toInt ((fwL110.2.1 22 (by decide)).trans (show w70.1 0 22 = (w70.1 0 22) by rfl))
            have q48 : (w222.1 0 27).toInt = (w110.1 0 27).toInt := congrArg Int32.toInt ((fwL222.2.1 27 (by decide)).trans (show w110.1 0 27 = (w110.1 0 27) by rfl))
            exact W.vret hx hb hr (fun t ht9 hW => ⟨⟨(wA w308 0 123 0), rfl, ⟨(FG.f (FG.tr (FG.tr (FG.tr (FG.tr (FG.tr (FG.f (FG.f (FG.f (FG.f (FG.f (FG.rf _) (v.1 0 12) (by decide)) (v.1 0 22) (by decide)) (v.1 0 27) (by decide)) (v.1 0 28) (by decide)) (v.1 0 69) (by decide)) (FG.up fwL42 (by decide) (by decide))) (FG.up fwL70 (by decide) (by decide))) (FG.up fwL110 (by decide) (by decide))) (FG.up fwL222 (by decide) (by decide))) (FG.up fwL308 (by decide) (by decide))) 0 (by decide)), ⟨zw, zo, zf, zg, zs, ka, w42, exL42, fwL42, e1L42, z2, kb, w70, exL70, fwL70, e1L70, z5, kc, w110, exL110, fwL110, e1L110, z9, kd, w222, exL222, fwL222, e1L222, z14, ke, w308, exL308, fwL308, e1L308, z20, rfl⟩, (show (w308.1 0 73).toInt = (v.1 0 12).toInt from (om_8cd1b813ff q21 q22 q23 q24 q25)), (show (w308.1 0 74).toInt = (v.1 0 22).toInt from (om_8cd1b813ff q26 q27 q28 q29 q30)), (show (w308.1 0 75).toInt = (v.1 0 27).toInt from (om_8cd1b813ff q31 q32 q33 q34 q35)), (show (w308.1 0 76).toInt = (v.1 0 28).toInt from (om_8cd1b813ff q36 q37 q38 q39 q40)), (show (w308.1 0 77).toInt = (v.1 0 69).toInt from (om_8cd1b813ff q41 q42 q43 q44 q45)), (show (0 : Int) = 0 from om_3ff73904e8), (AR.o (show AR 78 0 8 w308 from AR.fr (fl := []) (al := [90]) fwL308 (by decide) (show AR 78 0 8 w222 from AR.fr (fl := []) (al := [85, 86, 87, 88, 89]) fwL222 (by decide) a78L110)) (by decide)), (AR.o (show AR 79 0 2008 w308 from AR.fr (fl := []) (al := [90]) fwL308 (by decide) (show AR 79 0 2008 w222 from AR.fr (fl := []) (al := [85, 86, 87, 88, 89]) fwL222 (by decide) a79L110)) (by decide)), (AR.o (show AR 80 0 96000 w308 from AR.fr (fl := []) (al := [90]) fwL308 (by decide) (show AR 80 0 96000 w222 from AR.fr (fl := []) (al := [85, 86, 87, 88, 89]) fwL222 (by decide) a80L110)) (by decide)), (AR.o (show AR 81 0 15999 w308 from AR.fr (fl := []) (al := [90]) fwL308 (by decide) (show AR 81 0 15999 w222 from AR.fr (fl := []) (al := [85, 86, 87, 88, 89]) fwL222 (by decide) a81L110)) (by decide)), (AR.o (show AR 82 0 500 w308 from AR.fr (fl := []) (al := [90]) fwL308 (by decide) (show AR 82 0 500 w222 from AR.fr (fl := []) (al := [85, 86, 87, 88, 89]) fwL222 (by decide) a82L110)) (by decide)), (AR.o (show AR 83 0 4000 w308 from AR.fr (fl := []) (al := [90]) fwL308 (by decide) (show AR 83 0 4000 w222 from AR.fr (fl := []) (al := [85, 86, 87, 88, 89]) fwL222 (by decide) a83L110)) (by decide)), (AR.o (show AR 84 0 4000 w308 from AR.fr (fl := []) (al := [90]) fwL308 (by decide) (show AR 84 0 4000 w222 from AR.fr (fl := []) (al := [85, 86, 87, 88, 89]) fwL222 (by decide) a84L110)) (by decide)), (AR.o (show AR 85 0 1000 w308 from AR.fr (fl := []) (al := [90]) fwL308 (by decide) a85L222) (by decide)), (AR.o (show AR 86 0 60000 w308 from AR.fr (fl := []) (al := [90]) fwL308 (by decide) a86L222) (by decide)), (AR.o (show AR 87 0 4000 w308 from AR.fr (fl := []) (al := [90]) fwL308 (by decide) a87L222) (by decide)), (AR.o (show AR 88 0 4000 w308 from AR.fr (fl := []) (al := [90]) fwL308 (by decide) a88L222) (by decide)), (BG.of (u := (wA w308 0 123 0)) pg2 (show (w308.1 0 74).toInt = (v.1 0 22).toInt from (om_8cd1b813ff q26 q27 q28 q29 q30)) (show (w308.1 0 75).toInt = (v.1 0 27).toInt from (om_8cd1b813ff q31 q32 q33 q34 q35)) (show (w308.1 0 76).toInt = (v.1 0 28).toInt from (om_8cd1b813ff q36 q37 q38 q39 q40)) (show (v.1 0 15).toInt ≤ 16000 from (om_c45228c43d zo)) (fun (j9 : Nat) hj9 => (Eq.trans (congrFun (fwL308.2.2 71 (by decide)) j9) (Eq.trans (congrFun (fwL222.2.2 71 (by decide)) j9) (Eq.trans (congrFun (fwL110.2.2 71 (by decide)) j9) (Eq.trans (c71L70 j9 (om_855c2ad4ac q3 q46 z5 hj9)) (congrFun (fwL42.2.2 13 (by decide)) j9)))))) (fun (j9 : Nat) hj9 => (Eq.trans (congrFun (fwL308.2.2 72 (by decide)) j9) (Eq.trans (congrFun (fwL222.2.2 72 (by decide)) j9) (Eq.trans (congrFun (fwL110.2.2 72 (by decide)) j9) (Eq.trans (c72L70 j9 (om_855c2ad4ac q3 q46 z5 hj9)) (congrFun (fwL42.2.2 14 (by decide)) j9)))))) (fun (j9 : Nat) hj9 => (Eq.trans (congrFun (fwL308.2.2 78 (by decide)) j9) (Eq.trans (congrFun (fwL222.2.2 78 (by decide)) j9) (Eq.trans (c78L110 j9 (om_327f6983de q6 q7 q47 z9 hj9)) (Eq.trans (congrFun (fwL70.2.2 17 (by decide)) j9) (congrFun (fwL42.2.2 17 (by decide)) j9)))))) (fun (j9 : Nat) hj9 => (Eq.trans (congrFun (fwL308.2.2 79 (by decide)) j9) (Eq.trans (congrFun (fwL222.2.2 79 (by decide)) j9) (Eq.trans (c79L110 j9 (om_327f6983de q6 q7 q47 z9 hj9)) (Eq.trans (congrFun (fwL70.2.2 18 (by decide)) j9) (congrFun (fwL42.2.2 18 (by decide)) j9)))))) (fun (j9 : Nat) hj9 => (Eq.trans (congrFun (fwL308.2.2 81 (by decide)) j9) (Eq.trans (congrFun (fwL222.2.2 81 (by decide)) j9) (Eq.trans (c81L110 j9 (om_327f6983de q6 q7 q47 z9 hj9)) (Eq.trans (congrFun (fwL70.2.2 20 (by decide)) j9) (congrFun (fwL42.2.2 20 (by decide)) j9)))))) (fun (j9 : Nat) hj9 => (Eq.trans (congrFun (fwL308.2.2 82 (by decide)) j9) (Eq.trans (congrFun (fwL222.2.2 82 (by decide)) j9) (Eq.trans (c82L110 j9 (om_327f6983de q6 q7 q47 z9 hj9)) (Eq.trans (congrFun (fwL70.2.2 21 (by decide)) j9) (congrFun (fwL42.2.2 21 (by decide)) j9))))))), (BF.of (u := (wA w308 0 123 0)) gf (show (w308.1 0 75).toInt = (v.1 0 27).toInt from (om_8cd1b813ff q31 q32 q33 q34 q35)) (show (w308.1 0 76).toInt = (v.1 0 28).toInt from (om_8cd1b813ff q36 q37 q38 q39 q40)) (fun (j9 : Nat) hj9 => (Eq.trans (congrFun (fwL308.2.2 85 (by decide)) j9) (Eq.trans (c85L222 j9 (om_0b0a720901 q10 q11 q12 q48 z14 hj9)) (Eq.trans (congrFun (fwL110.2.2 24 (by decide)) j9) (Eq.trans (congrFun (fwL70.2.2 24 (by decide)) j9) (congrFun (fwL42.2.2 24 (by decide)) j9)))))) (fun (j9 : Nat) hj9 => (Eq.trans (congrFun (fwL308.2.2 86 (by decide)) j9) (Eq.trans (c86L222 j9 (om_0b0a720901 q10 q11 q12 q48 z14 hj9)) (Eq.trans (congrFun (fwL110.2.2 25 (by decide)) j9) (Eq.trans (congrFun (fwL70.2.2 25 (by decide)) j9) (congrFun (fwL42.2.2 25 (by decide)) j9)))))))⟩, by rw [ht9]; exact hP, hD⟩, hS.F ht9⟩) hS.2.2 dX13_accept_339
          · have z49 : ke.toInt < (w308.1 0 4).toInt := nle_z rfl rfl h19
            refine lv_aload_n hx hb dX13_accept_316 rfl (lv_at hl 1 rfl) ?_
            refine va_get (D := (dC, dI)) (ci := 16) (fs := mF ad w308) (v := .ref (ad 90)) (C := RX13) (T := TX13) (N := 124) hx hb ht itX13 hown hK hP 0 rfl rfl 90 (by decide) (ht _ tw_268) (fun _ h9 => h9) rfl dX13_accept_317 ?_
            refine lv_iload_n hx hb dX13_accept_320 rfl (lv_at hl 0 rfl) ?_
            refine lv_aload_n hx hb dX13_accept_321 rfl (lv_at hl 1 rfl) ?_
            refine va_get (D := (dC, dI)) (ci := 16) (fs := mF ad w308) (v := .ref (ad 3)) (C := RX13) (T := TX13) (N := 124) hx hb ht itX13 hown hK hP 0 rfl rfl 3 (by decide) (ht _ tw_43) (fun _ h9 => h9) rfl dX13_accept_322 ?_
            refine lv_iload_n hx hb dX13_accept_325 rfl (lv_at hl 0 rfl) ?_
            have q50 : (w308.1 0 4).toInt = (w222.1 0 4).toInt := congrArg Int32.toInt ((fwL308.2.1 4 (by decide)).trans (show w222.1 0 4 = (w222.1 0 4) by rfl))
            refine va_iald (D := (dC, dI)) (f := (w308.1 3)) hx hb hK hP 2 0 rfl rfl (in_y (a := ke.toInt) (b := 4000) rfl (om_ac00129bfc e1L308) (om_c43859447e zs q15 q16 q17 q18 q50 z49) rfl) dX13_accept_326 ?_
            refine va_iast (D := (dC, dI)) (f := (w308.1 90)) hx hb hK hP hD hS 50 0 rfl rfl (in_y (a := ke.toInt) (b := 4000) rfl (om_ac00129bfc e1L308) (om_c43859447e zs q15 q16 q17 q18 q50 z49) rfl) dX13_accept_327 (fun H locs hP hD hS => ?_)
            have hP := cP_ (ma_90 ad N cI cZ cJ w308 ke.toNatClampNeg ((w308.1 3) ke.toNatClampNeg)) hP
            have hD := cD_ (ma_90 ad N cI cZ cJ w308 ke.toNatClampNeg ((w308.1 3) ke.toNatClampNeg)) hD
            refine lv_iinc (v := (ke + (1 : Int32))) (lv' := [(1, .int (ke + (1 : Int32))), (0, .ref (ad 0))]) hx hb dX13_accept_328 hl (k := 0) rfl (rfl) (by decide) rfl (fun ls hl => ?_)
            have z51 : (ke + (1 : Int32)).toInt = ke.toInt + (1 : Int) := add_z rfl (show (1 : Int32).toInt = (1 : Int) by decide) (om_a8944c555e e1L308) (om_3bfa5b3928 zs q15 q16 q17 q18 e1L308)
            refine lv_goto (tgt := 308) hx hb dX13_accept_331 (by decide) ?_
            exact ih308 ((ke + (1 : Int32)), (wA w308 90 ke.toNatClampNeg ((w308.1 3) ke.toNatClampNeg))) _ _ _ (show ((v.1 0 4).toInt - (ke + (1 : Int32)).toInt).toNat < ((v.1 0 4).toInt - ke.toInt).toNat from tn_z (om_6a7d95371f z51) (om_d557c47456 q15 q16 q17 q18 q50 z49)) ⟨(show FG [] [90] w222 (wA w308 90 ke.toNatClampNeg ((w308.1 3) ke.toNatClampNeg)) from (FG.a (FG.tr (FG.rf _) (FG.up fwL308 (by decide) (by decide))) ke.toNatClampNeg ((w308.1 3) ke.toNatClampNeg) (by decide) (by decide))), (show 0 ≤ (ke + (1 : Int32)).toInt ∧ (ke + (1 : Int32)).toInt ≤ (w222.1 0 4).toInt from (om_fc66311bc4 e1L308 q50 z49 z51)), (RT.st exL308 ⟨fwL308, e1L308, z49, rfl⟩), hP, hD, hS, lv_sub hl [0, 1] rfl⟩
        · have z52 : kd.toInt < (w222.1 0 27).toInt := nle_z rfl rfl h13
          refine lv_aload_n hx hb dX13_accept_230 rfl (lv_at hl 1 rfl) ?_
          refine va_get (D := (dC, dI)) (ci := 16) (fs := mF ad w222) (v := .ref (ad 85)) (C := RX13) (T := TX13) (N := 124) hx hb ht itX13 hown hK hP 0 rfl rfl 85 (by decide) (ht _ tw_267) (fun _ h9 => h9) rfl dX13_accept_231 ?_
          refine lv_iload_n hx hb dX13_accept_234 rfl (lv_at hl 0 rfl) ?_
          refine lv_aload_n hx hb dX13_accept_235 rfl (lv_at hl 1 rfl) ?_
          refine va_get (D := (dC, dI)) (ci := 16) (fs := mF ad w222) (v := .ref (ad 24)) (C := RX13) (T := TX13) (N := 124) hx hb ht itX13 hown hK hP 0 rfl rfl 24 (by decide) (ht _ tw_84) (fun _ h9 => h9) rfl dX13_accept_236 ?_
          refine lv_iload_n hx hb dX13_accept_239 rfl (lv_at hl 0 rfl) ?_
          have q53 : (w222.1 0 27).toInt = (w110.1 0 27).toInt := congrArg Int32.toInt ((fwL222.2.1 27 (by decide)).trans (show w110.1 0 27 = (w110.1 0 27) by rfl))
          refine va_iald (D := (dC, dI)) (f := (w222.1 24)) hx hb hK hP 18 0 rfl rfl (in_y (a := kd.toInt) (b := 60) rfl (om_ac00129bfc e1L222) (om_27a15918c6 zg q10 q11 q12 q53 z52) rfl) dX13_accept_240 ?_
          refine va_iast (D := (dC, dI)) (f := (w222.1 85)) hx hb hK hP hD hS 45 0 rfl rfl (in_y (a := kd.toInt) (b := 60) rfl (om_ac00129bfc e1L222) (om_27a15918c6 zg q10 q11 q12 q53 z52) rfl) dX13_accept_241 (fun H locs hP hD hS => ?_)
          have hP := cP_ (ma_85 ad N cI cZ cJ w222 kd.toNatClampNeg ((w222.1 24) kd.toNatClampNeg)) hP
          have hD := cD_ (ma_85 ad N cI cZ cJ w222 kd.toNatClampNeg ((w222.1 24) kd.toNatClampNeg)) hD
          refine lv_aload_n hx hb dX13_accept_242 rfl (lv_at hl 1 rfl) ?_
          refine va_get (D := (dC, dI)) (ci := 16) (fs := mF ad (wA w222 85 kd.toNatClampNeg ((w222.1 24) kd.toNatClampNeg))) (v := .ref (ad 86)) (C := RX13) (T := TX13) (N := 124) hx hb ht itX13 hown hK hP 0 rfl rfl 86 (by decide) (ht _ tw_266) (fun _ h9 => h9) rfl dX13_accept_243 ?_
          refine lv_iload_n hx hb dX13_accept_246 rfl (lv_at hl 0 rfl) ?_
          refine lv_aload_n hx hb dX13_accept_247 rfl (lv_at hl 1 rfl) ?_
          refine va_get (D := (dC, dI)) (ci := 16) (fs := mF ad (wA w222 85 kd.toNatClampNeg ((w222.1 24) kd.toNatClampNeg))) (v := .ref (ad 25)) (C := RX13) (T := TX13) (N := 124) hx hb ht itX13 hown hK hP 0 rfl rfl 25 (by decide) (ht _ tw_73) (fun _ h9 => h9) rfl dX13_accept_248 ?_
          refine lv_iload_n hx hb dX13_accept_251 rfl (lv_at hl 0 rfl) ?_
          refine va_iald (D := (dC, dI)) (f := (w222.1 25)) hx hb hK hP 19 0 rfl rfl (in_y (a := kd.toInt) (b := 60) rfl (om_ac00129bfc e1L222) (om_27a15918c6 zg q10 q11 q12 q53 z52) rfl) dX13_accept_252 ?_
          refine va_iast (D := (dC, dI)) (f := (w222.1 86)) hx hb hK hP hD hS 46 0 rfl rfl (in_y (a := kd.toInt) (b := 60) rfl (om_ac00129bfc e1L222) (om_27a15918c6 zg q10 q11 q12 q53 z52) rfl) dX13_accept_253 (fun H locs hP hD hS => ?_)
          have hP := cP_ (ma_86 ad N cI cZ cJ (wA w222 85 kd.toNatClampNeg ((w222.1 24) kd.toNatClampNeg)) kd.toNatClampNeg ((w222.1 25) kd.toNatClampNeg)) hP
          have hD := cD_ (ma_86 ad N cI cZ cJ (wA w222 85 kd.toNatClampNeg ((w222.1 24) kd.toNatClampNeg)) kd.toNatClampNeg ((w222.1 25) kd.toNatClampNeg)) hD
          refine lv_aload_n hx hb dX13_accept_254 rfl (lv_at hl 1 rfl) ?_
          refine va_get (D := (dC, dI)) (ci := 16) (fs := mF ad (wA (wA w222 85 kd.toNatClampNeg ((w222.1 24) kd.toNatClampNeg)) 86 kd.toNatClampNeg ((w222.1 25) kd.toNatClampNeg))) (v := .ref (ad 89)) (C := RX13) (T := TX13) (N := 124) hx hb ht itX13 hown hK hP 0 rfl rfl 89 (by decide) (ht _ tw_265) (fun _ h9 => h9) rfl dX13_accept_255 ?_
          refine lv_iload_n hx hb dX13_accept_258 rfl (lv_at hl 0 rfl) ?_
          refine lv_aload_n hx hb dX13_accept_259 rfl (lv_at hl 1 rfl) ?_
          refine va_get (D := (dC, dI)) (ci := 16) (fs := mF ad (wA (wA w222 85 kd.toNatClampNeg ((w222.1 24) kd.toNatClampNeg)) 86 kd.toNatClampNeg ((w222.1 25) kd.toNatClampNeg))) (v := .ref (ad 26)) (C := RX13) (T := TX13) (N := 124) hx hb ht itX13 hown hK hP 0 rfl rfl 26 (by decide) (ht _ tw_102) (fun _ h9 => h9) rfl dX13_accept_260 ?_
          refine lv_iload_n hx hb dX13_accept_263 rfl (lv_at hl 0 rfl) ?_
          refine va_zald (D := (dC, dI)) (f := (w222.1 26)) hx hb hK hP 20 2 rfl rfl (in_y (a := kd.toInt) (b := 60) rfl (om_ac00129bfc e1L222) (om_27a15918c6 zg q10 q11 q12 q53 z52) rfl) dX13_accept_264 ?_
          refine va_zast (D := (dC, dI)) (f := (w222.1 89)) hx hb hK hP hD hS 49 2 rfl rfl (in_y (a := kd.toInt) (b := 60) rfl (om_ac00129bfc e1L222) (om_27a15918c6 zg q10 q11 q12 q53 z52) rfl) dX13_accept_265 (fun H locs hP hD hS => ?_)
          have hP := cP_ (ma_89 ad N cI cZ cJ (wA (wA w222 85 kd.toNatClampNeg ((w222.1 24) kd.toNatClampNeg)) 86 kd.toNatClampNeg ((w222.1 25) kd.toNatClampNeg)) kd.toNatClampNeg (vp_nar .boolean ((w222.1 26) kd.toNatClampNeg))) hP
          have hD := cD_ (ma_89 ad N cI cZ cJ (wA (wA w222 85 kd.toNatClampNeg ((w222.1 24) kd.toNatClampNeg)) 86 kd.toNatClampNeg ((w222.1 25) kd.toNatClampNeg)) kd.toNatClampNeg (vp_nar .boolean ((w222.1 26) kd.toNatClampNeg))) hD
          refine lv_aload_n hx hb dX13_accept_266 rfl (lv_at hl 1 rfl) ?_
          refine va_get (D := (dC, dI)) (ci := 16) (fs := mF ad (wA (wA (wA w222 85 kd.toNatClampNeg ((w222.1 24) kd.toNatClampNeg)) 86 kd.toNatClampNeg ((w222.1 25) kd.toNatClampNeg)) 89 kd.toNatClampNeg (vp_nar .boolean ((w222.1 26) kd.toNatClampNeg)))) (v := .ref (ad 87)) (C := RX13) (T := TX13) (N := 124) hx hb ht itX13 hown hK hP 0 rfl rfl 87 (by decide) (ht _ tw_264) (fun _ h9 => h9) rfl dX13_accept_267 ?_
          refine lv_iload_n hx hb dX13_accept_270 rfl (lv_at hl 0 rfl) ?_
          refine lv_aload_n hx hb dX13_accept_271 rfl (lv_at hl 1 rfl) ?_
          refine va_get (D := (dC, dI)) (ci := 16) (fs := mF ad (wA (wA (wA w222 85 kd.toNatClampNeg ((w222.1 24) kd.toNatClampNeg)) 86 kd.toNatClampNeg ((w222.1 25) kd.toNatClampNeg)) 89 kd.toNatClampNeg (vp_nar .boolean ((w222.1 26) kd.toNatClampNeg)))) (v := .ref (ad 7)) (C := RX13) (T := TX13) (N := 124) hx hb ht itX13 hown hK hP 0 rfl rfl 7 (by decide) (ht _ tw_20) (fun _ h9 => h9) rfl dX13_accept_272 ?_
          refine lv_aload_n hx hb dX13_accept_275 rfl (lv_at hl 1 rfl) ?_
          refine va_get (D := (dC, dI)) (ci := 16) (fs := mF ad (wA (wA (wA w222 85 kd.toNatClampNeg ((w222.1 24) kd.toNatClampNeg)) 86 kd.toNatClampNeg ((w222.1 25) kd.toNatClampNeg)) 89 kd.toNatClampNeg (vp_nar .boolean ((w222.1 26) kd.toNatClampNeg)))) (v := .ref (ad 23)) (C := RX13) (T := TX13) (N := 124) hx hb ht itX13 hown hK hP 0 rfl rfl 23 (by decide) (ht _ tw_49) (fun _ h9 => h9) rfl dX13_accept_276 ?_
          refine lv_iload_n hx hb dX13_accept_279 rfl (lv_at hl 0 rfl) ?_
          refine va_iald (D := (dC, dI)) (f := (w222.1 23)) hx hb hK hP 17 0 rfl rfl (in_y (a := kd.toInt) (b := 60) rfl (om_ac00129bfc e1L222) (om_27a15918c6 zg q10 q11 q12 q53 z52) rfl) dX13_accept_280 ?_
          have q54 : 0 ≤ ((w222.1 23) kd.toNatClampNeg).toInt ∧ ((w222.1 23) kd.toNatClampNeg).toInt ≤ 1500 := (show AR 23 0 1500 (wA (wA (wA w222 85 kd.toNatClampNeg ((w222.1 24) kd.toNatClampNeg)) 86 kd.toNatClampNeg ((w222.1 25) kd.toNatClampNeg)) 89 kd.toNatClampNeg (vp_nar .boolean ((w222.1 26) kd.toNatClampNeg))) from (AR.o (AR.o (AR.o (show AR 23 0 1500 w222 from AR.fr (fl := []) (al := [85, 86, 87, 88, 89]) fwL222 (by decide) (show AR 23 0 1500 w110 from AR.fr (fl := []) (al := [78, 79, 80, 81, 82, 83, 84]) fwL110 (by decide) (show AR 23 0 1500 w70 from AR.fr (fl := []) (al := [71, 72]) fwL70 (by decide) (show AR 23 0 1500 w42 from AR.fr (fl := []) (al := [70]) fwL42 (by decide) (AR.o (AR.o (AR.o (AR.o (AR.o a23 (by decide)) (by decide)) (by decide)) (by decide)) (by decide)))))) (by decide)) (by decide)) (by decide))) kd.toNatClampNeg
          refine va_iald (D := (dC, dI)) (f := (w222.1 7)) hx hb hK hP 4 0 rfl rfl (in_y (a := ((w222.1 23) kd.toNatClampNeg).toInt) (b := 4002) rfl (om_0ea0e431d3 q54) (om_449eb7e9bb q54) rfl) dX13_accept_281 ?_
          refine va_iast (D := (dC, dI)) (f := (w222.1 87)) hx hb hK hP hD hS 47 0 rfl rfl (in_y (a := kd.toInt) (b := 60) rfl (om_ac00129bfc e1L222) (om_27a15918c6 zg q10 q11 q12 q53 z52) rfl) dX13_accept_282 (fun H locs hP hD hS => ?_)
          have hP := cP_ (ma_87 ad N cI cZ cJ (wA (wA (wA w222 85 kd.toNatClampNeg ((w222.1 24) kd.toNatClampNeg)) 86 kd.toNatClampNeg ((w222.1 25) kd.toNatClampNeg)) 89 kd.toNatClampNeg (vp_nar .boolean ((w222.1 26) kd.toNatClampNeg))) kd.toNatClampNeg ((w222.1 7) ((w222.1 23) kd.toNatClampNeg).toNatClampNeg)) hP
          have hD := cD_ (ma_87 ad N cI cZ cJ (wA (wA (wA w222 85 kd.toNatClampNeg ((w222.1 24) kd.toNatClampNeg)) 86 kd.toNatClampNeg ((w222.1 25) kd.toNatClampNeg)) 89 kd.toNatClampNeg (vp_nar .boolean ((w222.1 26) kd.toNatClampNeg))) kd.toNatClampNeg ((w222.1 7) ((w222.1 23) kd.toNatClampNeg).toNatClampNeg)) hD
          refine lv_aload_n hx hb dX13_accept_283 rfl (lv_at hl 1 rfl) ?_
          refine va_get (D := (dC, dI)) (ci := 16) (fs := mF ad (wA (wA (wA (wA w222 85 kd.toNatClampNeg ((w222.1 24) kd.toNatClampNeg)) 86 kd.toNatClampNeg ((w222.1 25) kd.toNatClampNeg)) 89 kd.toNatClampNeg (vp_nar .boolean ((w222.1 26) kd.toNatClampNeg))) 87 kd.toNatClampNeg ((w222.1 7) ((w222.1 23) kd.toNatClampNeg).toNatClampNeg))) (v := .ref (ad 88)) (C := RX13) (T := TX13) (N := 124) hx hb ht itX13 hown hK hP 0 rfl rfl 88 (by decide) (ht _ tw_273) (fun _ h9 => h9) rfl dX13_accept_284 ?_
          refine lv_iload_n hx hb dX13_accept_287 rfl (lv_at hl 0 rfl) ?_
          refine lv_aload_n hx hb dX13_accept_288 rfl (lv_at hl 1 rfl) ?_
          refine va_get (D := (dC, dI)) (ci := 16) (fs := mF ad (wA (wA (wA (wA w222 85 kd.toNatClampNeg ((w222.1 24) kd.toNatClampNeg)) 86 kd.toNatClampNeg ((w222.1 25) kd.toNatClampNeg)) 89 kd.toNatClampNeg (vp_nar .boolean ((w222.1 26) kd.toNatClampNeg))) 87 kd.toNatClampNeg ((w222.1 7) ((w222.1 23) kd.toNatClampNeg).toNatClampNeg))) (v := .ref (ad 8)) (C := RX13) (T := TX13) (N := 124) hx hb ht itX13 hown hK hP 0 rfl rfl 8 (by decide) (ht _ tw_42) (fun _ h9 => h9) rfl dX13_accept_289 ?_
          refine lv_aload_n hx hb dX13_accept_292 rfl (lv_at hl 1 rfl) ?_
          refine va_get (D := (dC, dI)) (ci := 16) (fs := mF ad (wA (wA (wA (wA w222 85 kd.toNatClampNeg ((w222.1 24) kd.toNatClampNeg)) 86 kd.toNatClampNeg ((w222.1 25) kd.toNatClampNeg)) 89 kd.toNatClampNeg (vp_nar .boolean ((w222.1 26) kd.toNatClampNeg))) 87 kd.toNatClampNeg ((w222.1 7) ((w222.1 23) kd.toNatClampNeg).toNatClampNeg))) (v := .ref (ad 23)) (C := RX13) (T := TX13) (N := 124) hx hb ht itX13 hown hK hP 0 rfl rfl 23 (by decide) (ht _ tw_49) (fun _ h9 => h9) rfl dX13_accept_293 ?_
          refine lv_iload_n hx hb dX13_accept_296 rfl (lv_at hl 0 rfl) ?_
          refine va_iald (D := (dC, dI)) (f := (w222.1 23)) hx hb hK hP 17 0 rfl rfl (in_y (a := kd.toInt) (b := 60) rfl (om_ac00129bfc e1L222) (om_27a15918c6 zg q10 q11 q12 q53 z52) rfl) dX13_accept_297 ?_
          refine va_iald (D := (dC, dI)) (f := (w222.1 8)) hx hb hK hP 5 0 rfl rfl (in_y (a := ((w222.1 23) kd.toNatClampNeg).toInt) (b := 4002) rfl (om_0ea0e431d3 q54) (om_449eb7e9bb q54) rfl) dX13_accept_298 ?_
          refine va_iast (D := (dC, dI)) (f := (w222.1 88)) hx hb hK hP hD hS 48 0 rfl rfl (in_y (a := kd.toInt) (b := 60) rfl (om_ac00129bfc e1L222) (om_27a15918c6 zg q10 q11 q12 q53 z52) rfl) dX13_accept_299 (fun H locs hP hD hS => ?_)
          have hP := cP_ (ma_88 ad N cI cZ cJ (wA (wA (wA (wA w222 85 kd.toNatClampNeg ((w222.1 24) kd.toNatClampNeg)) 86 kd.toNatClampNeg ((w222.1 25) kd.toNatClampNeg)) 89 kd.toNatClampNeg (vp_nar .boolean ((w222.1 26) kd.toNatClampNeg))) 87 kd.toNatClampNeg ((w222.1 7) ((w222.1 23) kd.toNatClampNeg).toNatClampNeg)) kd.toNatClampNeg ((w222.1 8) ((w222.1 23) kd.toNatClampNeg).toNatClampNeg)) hP
          have hD := cD_ (ma_88 ad N cI cZ cJ (wA (wA (wA (wA w222 85 kd.toNatClampNeg ((w222.1 24) kd.toNatClampNeg)) 86 kd.toNatClampNeg ((w222.1 25) kd.toNatClampNeg)) 89 kd.toNatClampNeg (vp_nar .boolean ((w222.1 26) kd.toNatClampNeg))) 87 kd.toNatClampNeg ((w222.1 7) ((w222.1 23) kd.toNatClampNeg).toNatClampNeg)) kd.toNatClampNeg ((w222.1 8) ((w222.1 23) kd.toNatClampNeg).toNatClampNeg)) hD
          refine lv_iinc (v := (kd + (1 : Int32))) (lv' := [(1, .int (kd + (1 : Int32))), (0, .ref (ad 0))]) hx hb dX13_accept_300 hl (k := 0) rfl (rfl) (by decide) rfl (fun ls hl => ?_)
          have z55 : (kd + (1 : Int32)).toInt = kd.toInt + (1 : Int) := add_z rfl (show (1 : Int32).toInt = (1 : Int) by decide) (om_a8944c555e e1L222) (om_9fcda715cc zg q10 q11 q12 e1L222)
          refine lv_goto (tgt := 222) hx hb dX13_accept_303 (by decide) ?_
          have q56 : 0 ≤ ((w222.1 24) kd.toNatClampNeg).toInt ∧ ((w222.1 24) kd.toNatClampNeg).toInt ≤ 1000 := (show AR 24 0 1000 w222 from (show AR 24 0 1000 w222 from AR.fr (fl := []) (al := [85, 86, 87, 88, 89]) fwL222 (by decide) (show AR 24 0 1000 w110 from AR.fr (fl := []) (al := [78, 79, 80, 81, 82, 83, 84]) fwL110 (by decide) (show AR 24 0 1000 w70 from AR.fr (fl := []) (al := [71, 72]) fwL70 (by decide) (show AR 24 0 1000 w42 from AR.fr (fl := []) (al := [70]) fwL42 (by decide) (AR.o (AR.o (AR.o (AR.o (AR.o a24 (by decide)) (by decide)) (by decide)) (by decide)) (by decide))))))) kd.toNatClampNeg
          have q57 : 0 ≤ ((w222.1 25) kd.toNatClampNeg).toInt ∧ ((w222.1 25) kd.toNatClampNeg).toInt ≤ 60000 := (show AR 25 0 60000 (wA w222 85 kd.toNatClampNeg ((w222.1 24) kd.toNatClampNeg)) from (AR.o (show AR 25 0 60000 w222 from AR.fr (fl := []) (al := [85, 86, 87, 88, 89]) fwL222 (by decide) (show AR 25 0 60000 w110 from AR.fr (fl := []) (al := [78, 79, 80, 81, 82, 83, 84]) fwL110 (by decide) (show AR 25 0 60000 w70 from AR.fr (fl := []) (al := [71, 72]) fwL70 (by decide) (show AR 25 0 60000 w42 from AR.fr (fl := []) (al := [70]) fwL42 (by decide) (AR.o (AR.o (AR.o (AR.o (AR.o a25 (by decide)) (by decide)) (by decide)) (by decide)) (by decide)))))) (by decide))) kd.toNatClampNeg
          have q58 : 0 ≤ ((w222.1 7) ((w222.1 23) kd.toNatClampNeg).toNatClampNeg).toInt ∧ ((w222.1 7) ((w222.1 23) kd.toNatClampNeg).toNatClampNeg).toInt ≤ 4000 ∧ 0 ≤ ((w222.1 8) ((w222.1 23) kd.toNatClampNeg).toNatClampNeg).toInt ∧ ((w222.1 8) ((w222.1 23) kd.toNatClampNeg).toNatClampNeg).toInt ≤ 4000 := (show TI (wA (wA (wA w222 85 kd.toNatClampNeg ((w222.1 24) kd.toNatClampNeg)) 86 kd.toNatClampNeg ((w222.1 25) kd.toNatClampNeg)) 89 kd.toNatClampNeg (vp_nar .boolean ((w222.1 26) kd.toNatClampNeg))) from (TI.o (TI.o (TI.o (FG.ti (fl := []) (al := [85, 86, 87, 88, 89]) fwL222 (by decide) (by decide) (FG.ti (fl := []) (al := [78, 79, 80, 81, 82, 83, 84]) fwL110 (by decide) (by decide) (FG.ti (fl := []) (al := [71, 72]) fwL70 (by decide) (by decide) (FG.ti (fl := []) (al := [70]) fwL42 (by decide) (by decide) (TI.o (TI.o (TI.o (TI.o (TI.o hT (by decide)) (by decide)) (by decide)) (by decide)) (by decide)))))) (by decide)) (by decide)) (by decide))) (((w222.1 23) kd.toNatClampNeg).toNatClampNeg)
          exact ih222 ((kd + (1 : Int32)), (wA (wA (wA (wA (wA w222 85 kd.toNatClampNeg ((w222.1 24) kd.toNatClampNeg)) 86 kd.toNatClampNeg ((w222.1 25) kd.toNatClampNeg)) 89 kd.toNatClampNeg (vp_nar .boolean ((w222.1 26) kd.toNatClampNeg))) 87 kd.toNatClampNeg ((w222.1 7) ((w222.1 23) kd.toNatClampNeg).toNatClampNeg)) 88 kd.toNatClampNeg ((w222.1 8) ((w222.1 23) kd.toNatClampNeg).toNatClampNeg))) _ _ _ (show ((v.1 0 27).toInt - (kd + (1 : Int32)).toInt).toNat < ((v.1 0 27).toInt - kd.toInt).toNat from tn_z (om_6a7d95371f z55) (om_381163e004 q10 q11 q12 q53 z52)) ⟨(show FG [] [85, 86, 87, 88, 89] w110 (wA (wA (wA (wA (wA w222 85 kd.toNatClampNeg ((w222.1 24) kd.toNatClampNeg)) 86 kd.toNatClampNeg ((w222.1 25) kd.toNatClampNeg)) 89 kd.toNatClampNeg (vp_nar .boolean ((w222.1 26) kd.toNatClampNeg))) 87 kd.toNatClampNeg ((w222.1 7) ((w222.1 23) kd.toNatClampNeg).toNatClampNeg)) 88 kd.toNatClampNeg ((w222.1 8) ((w222.1 23) kd.toNatClampNeg).toNatClampNeg)) from (FG.a (FG.a (FG.a (FG.a (FG.a (FG.tr (FG.rf _) (FG.up fwL222 (by decide) (by decide))) kd.toNatClampNeg ((w222.1 24) kd.toNatClampNeg) (by decide) (by decide)) kd.toNatClampNeg ((w222.1 25) kd.toNatClampNeg) (by decide) (by decide)) kd.toNatClampNeg (vp_nar .boolean ((w222.1 26) kd.toNatClampNeg)) (by decide) (by decide)) kd.toNatClampNeg ((w222.1 7) ((w222.1 23) kd.toNatClampNeg).toNatClampNeg) (by decide) (by decide)) kd.toNatClampNeg ((w222.1 8) ((w222.1 23) kd.toNatClampNeg).toNatClampNeg) (by decide) (by decide))), (show 0 ≤ (kd + (1 : Int32)).toInt ∧ (kd + (1 : Int32)).toInt ≤ (w110.1 0 27).toInt from (om_fc66311bc4 e1L222 q53 z52 z55)), (show ∀ j : Nat, (j : Int) < (kd + (1 : Int32)).toInt → (upd (w222.1 85) kd.toNatClampNeg ((w222.1 24) kd.toNatClampNeg)) j = (w110.1 24) j from (cp_step c85L222 (fun _ => congrFun (fwL222.2.2 24 (by decide)) _) (om_ac00129bfc e1L222) (om_b19948bd4f z55))), (show ∀ j : Nat, (j : Int) < (kd + (1 : Int32)).toInt → (upd (w222.1 86) kd.toNatClampNeg ((w222.1 25) kd.toNatClampNeg)) j = (w110.1 25) j from (cp_step c86L222 (fun _ => congrFun (fwL222.2.2 25 (by decide)) _) (om_ac00129bfc e1L222) (om_b19948bd4f z55))), (show AR 85 0 1000 (wA (wA (wA (wA (wA w222 85 kd.toNatClampNeg ((w222.1 24) kd.toNatClampNeg)) 86 kd.toNatClampNeg ((w222.1 25) kd.toNatClampNeg)) 89 kd.toNatClampNeg (vp_nar .boolean ((w222.1 26) kd.toNatClampNeg))) 87 kd.toNatClampNeg ((w222.1 7) ((w222.1 23) kd.toNatClampNeg).toNatClampNeg)) 88 kd.toNatClampNeg ((w222.1 8) ((w222.1 23) kd.toNatClampNeg).toNatClampNeg)) from (AR.o (AR.o (AR.o (AR.o (AR.w a85L222 (show 0 ≤ ((w222.1 24) kd.toNatClampNeg).toInt ∧ ((w222.1 24) kd.toNatClampNeg).toInt ≤ 1000 from (om_c1f2a59f68 q56))) (by decide)) (by decide)) (by decide)) (by decide))), (show AR 86 0 60000 (wA (wA (wA (wA (wA w222 85 kd.toNatClampNeg ((w222.1 24) kd.toNatClampNeg)) 86 kd.toNatClampNeg ((w222.1 25) kd.toNatClampNeg)) 89 kd.toNatClampNeg (vp_nar .boolean ((w222.1 26) kd.toNatClampNeg))) 87 kd.toNatClampNeg ((w222.1 7) ((w222.1 23) kd.toNatClampNeg).toNatClampNeg)) 88 kd.toNatClampNeg ((w222.1 8) ((w222.1 23) kd.toNatClampNeg).toNatClampNeg)) from (AR.o (AR.o (AR.o (AR.w (AR.o a86L222 (by decide)) (show 0 ≤ ((w222.1 25) kd.toNatClampNeg).toInt ∧ ((w222.1 25) kd.toNatClampNeg).toInt ≤ 60000 from (om_09b5035969 q57))) (by decide)) (by decide)) (by decide))), (show AR 87 0 4000 (wA (wA (wA (wA (wA w222 85 kd.toNatClampNeg ((w222.1 24) kd.toNatClampNeg)) 86 kd.toNatClampNeg ((w222.1 25) kd.toNatClampNeg)) 89 kd.toNatClampNeg (vp_nar .boolean ((w222.1 26) kd.toNatClampNeg))) 87 kd.toNatClampNeg ((w222.1 7) ((w222.1 23) kd.toNatClampNeg).toNatClampNeg)) 88 kd.toNatClampNeg ((w222.1 8) ((w222.1 23) kd.toNatClampNeg).toNatClampNeg)) from (AR.o (AR.w (AR.o (AR.o (AR.o a87L222 (by decide)) (by decide)) (by decide)) (show 0 ≤ ((w222.1 7) ((w222.1 23) kd.toNatClampNeg).toNatClampNeg).toInt ∧ ((w222.1 7) ((w222.1 23) kd.toNatClampNeg).toNatClampNeg).toInt ≤ 4000 from (om_e9fede9dc8 q58))) (by decide))), (show AR 88 0 4000 (wA (wA (wA (wA (wA w222 85 kd.toNatClampNeg ((w222.1 24) kd.toNatClampNeg)) 86 kd.toNatClampNeg ((w222.1 25) kd.toNatClampNeg)) 89 kd.toNatClampNeg (vp_nar .boolean ((w222.1 26) kd.toNatClampNeg))) 87 kd.toNatClampNeg ((w222.1 7) ((w222.1 23) kd.toNatClampNeg).toNatClampNeg)) 88 kd.toNatClampNeg ((w222.1 8) ((w222.1 23) kd.toNatClampNeg).toNatClampNeg)) from (AR.w (AR.o (AR.o (AR.o (AR.o a88L222 (by decide)) (by decide)) (by decide)) (by decide)) (show 0 ≤ ((w222.1 8) ((w222.1 23) kd.toNatClampNeg).toNatClampNeg).toInt ∧ ((w222.1 8) ((w222.1 23) kd.toNatClampNeg).toNatClampNeg).toInt ≤ 4000 from (om_0c82d4925c q58)))), (RT.st exL222 ⟨fwL222, e1L222, z52, rfl⟩), hP, hD, hS, lv_sub hl [0, 1] rfl⟩
      · have z59 : kc.toInt < (w110.1 0 22).toInt := nle_z rfl rfl h8
        refine lv_aload_n hx hb dX13_accept_118 rfl (lv_at hl 1 rfl) ?_
        refine va_get (D := (dC, dI)) (ci := 16) (fs := mF ad w110) (v := .ref (ad 78)) (C := RX13) (T := TX13) (N := 124) hx hb ht itX13 hown hK hP 0 rfl rfl 78 (by decide) (ht _ tw_262) (fun _ h9 => h9) rfl dX13_accept_119 ?_
        refine lv_iload_n hx hb dX13_accept_122 rfl (lv_at hl 0 rfl) ?_
        refine lv_aload_n hx hb dX13_accept_123 rfl (lv_at hl 1 rfl) ?_
        refine va_get (D := (dC, dI)) (ci := 16) (fs := mF ad w110) (v := .ref (ad 17)) (C := RX13) (T := TX13) (N := 124) hx hb ht itX13 hown hK hP 0 rfl rfl 17 (by decide) (ht _ tw_189) (fun _ h9 => h9) rfl dX13_accept_124 ?_
        refine lv_iload_n hx hb dX13_accept_127 rfl (lv_at hl 0 rfl) ?_
        have q60 : (w110.1 0 22).toInt = (w70.1 0 22).toInt := congrArg Int32.toInt ((fwL110.2.1 22 (by decide)).trans (show w70.1 0 22 = (w70.1 0 22) by rfl))
        refine va_iald (D := (dC, dI)) (f := (w110.1 17)) hx hb hK hP 12 0 rfl rfl (in_y (a := kc.toInt) (b := 40) rfl (om_ac00129bfc e1L110) (om_ae06e9a251 zf q6 q7 q60 z59) rfl) dX13_accept_128 ?_
        refine va_iast (D := (dC, dI)) (f := (w110.1 78)) hx hb hK hP hD hS 38 0 rfl rfl (in_y (a := kc.toInt) (b := 40) rfl (om_ac00129bfc e1L110) (om_ae06e9a251 zf q6 q7 q60 z59) rfl) dX13_accept_129 (fun H locs hP hD hS => ?_)
        have hP := cP_ (ma_78 ad N cI cZ cJ w110 kc.toNatClampNeg ((w110.1 17) kc.toNatClampNeg)) hP
        have hD := cD_ (ma_78 ad N cI cZ cJ w110 kc.toNatClampNeg ((w110.1 17) kc.toNatClampNeg)) hD
        refine lv_aload_n hx hb dX13_accept_130 rfl (lv_at hl 1 rfl) ?_
        refine va_get (D := (dC, dI)) (ci := 16) (fs := mF ad (wA w110 78 kc.toNatClampNeg ((w110.1 17) kc.toNatClampNeg))) (v := .ref (ad 79)) (C := RX13) (T := TX13) (N := 124) hx hb ht itX13 hown hK hP 0 rfl rfl 79 (by decide) (ht _ tw_260) (fun _ h9 => h9) rfl dX13_accept_131 ?_
        refine lv_iload_n hx hb dX13_accept_134 rfl (lv_at hl 0 rfl) ?_
        refine lv_aload_n hx hb dX13_accept_135 rfl (lv_at hl 1 rfl) ?_
        refine va_get (D := (dC, dI)) (ci := 16) (fs := mF ad (wA w110 78 kc.toNatClampNeg ((w110.1 17) kc.toNatClampNeg))) (v := .ref (ad 18)) (C := RX13) (T := TX13) (N := 124) hx hb ht itX13 hown hK hP 0 rfl rfl 18 (by decide) (ht _ tw_194) (fun _ h9 => h9) rfl dX13_accept_136 ?_
        refine lv_iload_n hx hb dX13_accept_139 rfl (lv_at hl 0 rfl) ?_
        refine va_iald (D := (dC, dI)) (f := (w110.1 18)) hx hb hK hP 13 0 rfl rfl (in_y (a := kc.toInt) (b := 40) rfl (om_ac00129bfc e1L110) (om_ae06e9a251 zf q6 q7 q60 z59) rfl) dX13_accept_140 ?_
        refine va_iast (D := (dC, dI)) (f := (w110.1 79)) hx hb hK hP hD hS 39 0 rfl rfl (in_y (a := kc.toInt) (b := 40) rfl (om_ac00129bfc e1L110) (om_ae06e9a251 zf q6 q7 q60 z59) rfl) dX13_accept_141 (fun H locs hP hD hS => ?_)
        have hP := cP_ (ma_79 ad N cI cZ cJ (wA w110 78 kc.toNatClampNeg ((w110.1 17) kc.toNatClampNeg)) kc.toNatClampNeg ((w110.1 18) kc.toNatClampNeg)) hP
        have hD := cD_ (ma_79 ad N cI cZ cJ (wA w110 78 kc.toNatClampNeg ((w110.1 17) kc.toNatClampNeg)) kc.toNatClampNeg ((w110.1 18) kc.toNatClampNeg)) hD
        refine lv_aload_n hx hb dX13_accept_142 rfl (lv_at hl 1 rfl) ?_
        refine va_get (D := (dC, dI)) (ci := 16) (fs := mF ad (wA (wA w110 78 kc.toNatClampNeg ((w110.1 17) kc.toNatClampNeg)) 79 kc.toNatClampNeg ((w110.1 18) kc.toNatClampNeg))) (v := .ref (ad 80)) (C := RX13) (T := TX13) (N := 124) hx hb ht itX13 hown hK hP 0 rfl rfl 80 (by decide) (ht _ tw_261) (fun _ h9 => h9) rfl dX13_accept_143 ?_
        refine lv_iload_n hx hb dX13_accept_146 rfl (lv_at hl 0 rfl) ?_
        refine lv_iconst (v := 4) hx hb dX13_accept_147 (by decide) ?_
        refine lv_aload_n hx hb dX13_accept_148 rfl (lv_at hl 1 rfl) ?_
        refine va_get (D := (dC, dI)) (ci := 16) (fs := mF ad (wA (wA w110 78 kc.toNatClampNeg ((w110.1 17) kc.toNatClampNeg)) 79 kc.toNatClampNeg ((w110.1 18) kc.toNatClampNeg))) (v := .ref (ad 19)) (C := RX13) (T := TX13) (N := 124) hx hb ht itX13 hown hK hP 0 rfl rfl 19 (by decide) (ht _ tw_190) (fun _ h9 => h9) rfl dX13_accept_149 ?_
        refine lv_iload_n hx hb dX13_accept_152 rfl (lv_at hl 0 rfl) ?_
        refine va_iald (D := (dC, dI)) (f := (w110.1 19)) hx hb hK hP 14 0 rfl rfl (in_y (a := kc.toInt) (b := 40) rfl (om_ac00129bfc e1L110) (om_ae06e9a251 zf q6 q7 q60 z59) rfl) dX13_accept_153 ?_
        refine lv_imul hx hb dX13_accept_154 ?_
        have q61 : 0 ≤ ((w110.1 19) kc.toNatClampNeg).toInt ∧ ((w110.1 19) kc.toNatClampNeg).toInt ≤ 23900 := (show AR 19 0 23900 (wA (wA w110 78 kc.toNatClampNeg ((w110.1 17) kc.toNatClampNeg)) 79 kc.toNatClampNeg ((w110.1 18) kc.toNatClampNeg)) from (AR.o (AR.o (show AR 19 0 23900 w110 from AR.fr (fl := []) (al := [78, 79, 80, 81, 82, 83, 84]) fwL110 (by decide) (show AR 19 0 23900 w70 from AR.fr (fl := []) (al := [71, 72]) fwL70 (by decide) (show AR 19 0 23900 w42 from AR.fr (fl := []) (al := [70]) fwL42 (by decide) (AR.o (AR.o (AR.o (AR.o (AR.o a19 (by decide)) (by decide)) (by decide)) (by decide)) (by decide))))) (by decide)) (by decide))) kc.toNatClampNeg
        have z62 : ((4 : Int32) * ((w110.1 19) kc.toNatClampNeg)).toInt = (4 : Int) * (((w110.1 19) kc.toNatClampNeg).toInt) := mul_z (show (4 : Int32).toInt = (4 : Int) by decide) rfl (om_bfbb4a4455 q61) (om_db2ed782dc q61)
        refine va_iast (D := (dC, dI)) (f := (w110.1 80)) hx hb hK hP hD hS 40 0 rfl rfl (in_y (a := kc.toInt) (b := 40) rfl (om_ac00129bfc e1L110) (om_ae06e9a251 zf q6 q7 q60 z59) rfl) dX13_accept_155 (fun H locs hP hD hS => ?_)
        have hP := cP_ (ma_80 ad N cI cZ cJ (wA (wA w110 78 kc.toNatClampNeg ((w110.1 17) kc.toNatClampNeg)) 79 kc.toNatClampNeg ((w110.1 18) kc.toNatClampNeg)) kc.toNatClampNeg ((4 : Int32) * ((w110.1 19) kc.toNatClampNeg))) hP
        have hD := cD_ (ma_80 ad N cI cZ cJ (wA (wA w110 78 kc.toNatClampNeg ((w110.1 17) kc.toNatClampNeg)) 79 kc.toNatClampNeg ((w110.1 18) kc.toNatClampNeg)) kc.toNatClampNeg ((4 : Int32) * ((w110.1 19) kc.toNatClampNeg))) hD
        refine lv_aload_n hx hb dX13_accept_156 rfl (lv_at hl 1 rfl) ?_
        refine va_get (D := (dC, dI)) (ci := 16) (fs := mF ad (wA (wA (wA w110 78 kc.toNatClampNeg ((w110.1 17) kc.toNatClampNeg)) 79 kc.toNatClampNeg ((w110.1 18) kc.toNatClampNeg)) 80 kc.toNatClampNeg ((4 : Int32) * ((w110.1 19) kc.toNatClampNeg)))) (v := .ref (ad 81)) (C := RX13) (T := TX13) (N := 124) hx hb ht itX13 hown hK hP 0 rfl rfl 81 (by decide) (ht _ tw_274) (fun _ h9 => h9) rfl dX13_accept_157 ?_
        refine lv_iload_n hx hb dX13_accept_160 rfl (lv_at hl 0 rfl) ?_
        refine lv_aload_n hx hb dX13_accept_161 rfl (lv_at hl 1 rfl) ?_
        refine va_get (D := (dC, dI)) (ci := 16) (fs := mF ad (wA (wA (wA w110 78 kc.toNatClampNeg ((w110.1 17) kc.toNatClampNeg)) 79 kc.toNatClampNeg ((w110.1 18) kc.toNatClampNeg)) 80 kc.toNatClampNeg ((4 : Int32) * ((w110.1 19) kc.toNatClampNeg)))) (v := .ref (ad 20)) (C := RX13) (T := TX13) (N := 124) hx hb ht itX13 hown hK hP 0 rfl rfl 20 (by decide) (ht _ tw_191) (fun _ h9 => h9) rfl dX13_accept_162 ?_
        refine lv_iload_n hx hb dX13_accept_165 rfl (lv_at hl 0 rfl) ?_
        refine va_iald (D := (dC, dI)) (f := (w110.1 20)) hx hb hK hP 15 0 rfl rfl (in_y (a := kc.toInt) (b := 40) rfl (om_ac00129bfc e1L110) (om_ae06e9a251 zf q6 q7 q60 z59) rfl) dX13_accept_166 ?_
        refine va_iast (D := (dC, dI)) (f := (w110.1 81)) hx hb hK hP hD hS 41 0 rfl rfl (in_y (a := kc.toInt) (b := 40) rfl (om_ac00129bfc e1L110) (om_ae06e9a251 zf q6 q7 q60 z59) rfl) dX13_accept_167 (fun H locs hP hD hS => ?_)
        have hP := cP_ (ma_81 ad N cI cZ cJ (wA (wA (wA w110 78 kc.toNatClampNeg ((w110.1 17) kc.toNatClampNeg)) 79 kc.toNatClampNeg ((w110.1 18) kc.toNatClampNeg)) 80 kc.toNatClampNeg ((4 : Int32) * ((w110.1 19) kc.toNatClampNeg))) kc.toNatClampNeg ((w110.1 20) kc.toNatClampNeg)) hP
        have hD := cD_ (ma_81 ad N cI cZ cJ (wA (wA (wA w110 78 kc.toNatClampNeg ((w110.1 17) kc.toNatClampNeg)) 79 kc.toNatClampNeg ((w110.1 18) kc.toNatClampNeg)) 80 kc.toNatClampNeg ((4 : Int32) * ((w110.1 19) kc.toNatClampNeg))) kc.toNatClampNeg ((w110.1 20) kc.toNatClampNeg)) hD
        refine lv_aload_n hx hb dX13_accept_168 rfl (lv_at hl 1 rfl) ?_
        refine va_get (D := (dC, dI)) (ci := 16) (fs := mF ad (wA (wA (wA (wA w110 78 kc.toNatClampNeg ((w110.1 17) kc.toNatClampNeg)) 79 kc.toNatClampNeg ((w110.1 18) kc.toNatClampNeg)) 80 kc.toNatClampNeg ((4 : Int32) * ((w110.1 19) kc.toNatClampNeg))) 81 kc.toNatClampNeg ((w110.1 20) kc.toNatClampNeg))) (v := .ref (ad 82)) (C := RX13) (T := TX13) (N := 124) hx hb ht itX13 hown hK hP 0 rfl rfl 82 (by decide) (ht _ tw_275) (fun _ h9 => h9) rfl dX13_accept_169 ?_
        refine lv_iload_n hx hb dX13_accept_172 rfl (lv_at hl 0 rfl) ?_
        refine lv_aload_n hx hb dX13_accept_173 rfl (lv_at hl 1 rfl) ?_
        refine va_get (D := (dC, dI)) (ci := 16) (fs := mF ad (wA (wA (wA (wA w110 78 kc.toNatClampNeg ((w110.1 17) kc.toNatClampNeg)) 79 kc.toNatClampNeg ((w110.1 18) kc.toNatClampNeg)) 80 kc.toNatClampNeg ((4 : Int32) * ((w110.1 19) kc.toNatClampNeg))) 81 kc.toNatClampNeg ((w110.1 20) kc.toNatClampNeg))) (v := .ref (ad 21)) (C := RX13) (T := TX13) (N := 124) hx hb ht itX13 hown hK hP 0 rfl rfl 21 (by decide) (ht _ tw_195) (fun _ h9 => h9) rfl dX13_accept_174 ?_
        refine lv_iload_n hx hb dX13_accept_177 rfl (lv_at hl 0 rfl) ?_
        refine va_iald (D := (dC, dI)) (f := (w110.1 21)) hx hb hK hP 16 0 rfl rfl (in_y (a := kc.toInt) (b := 40) rfl (om_ac00129bfc e1L110) (om_ae06e9a251 zf q6 q7 q60 z59) rfl) dX13_accept_178 ?_
        refine va_iast (D := (dC, dI)) (f := (w110.1 82)) hx hb hK hP hD hS 42 0 rfl rfl (in_y (a := kc.toInt) (b := 40) rfl (om_ac00129bfc e1L110) (om_ae06e9a251 zf q6 q7 q60 z59) rfl) dX13_accept_179 (fun H locs hP hD hS => ?_)
        have hP := cP_ (ma_82 ad N cI cZ cJ (wA (wA (wA (wA w110 78 kc.toNatClampNeg ((w110.1 17) kc.toNatClampNeg)) 79 kc.toNatClampNeg ((w110.1 18) kc.toNatClampNeg)) 80 kc.toNatClampNeg ((4 : Int32) * ((w110.1 19) kc.toNatClampNeg))) 81 kc.toNatClampNeg ((w110.1 20) kc.toNatClampNeg)) kc.toNatClampNeg ((w110.1 21) kc.toNatClampNeg)) hP
        have hD := cD_ (ma_82 ad N cI cZ cJ (wA (wA (wA (wA w110 78 kc.toNatClampNeg ((w110.1 17) kc.toNatClampNeg)) 79 kc.toNatClampNeg ((w110.1 18) kc.toNatClampNeg)) 80 kc.toNatClampNeg ((4 : Int32) * ((w110.1 19) kc.toNatClampNeg))) 81 kc.toNatClampNeg ((w110.1 20) kc.toNatClampNeg)) kc.toNatClampNeg ((w110.1 21) kc.toNatClampNeg)) hD
        refine lv_aload_n hx hb dX13_accept_180 rfl (lv_at hl 1 rfl) ?_
        refine va_get (D := (dC, dI)) (ci := 16) (fs := mF ad (wA (wA (wA (wA (wA w110 78 kc.toNatClampNeg ((w110.1 17) kc.toNatClampNeg)) 79 kc.toNatClampNeg ((w110.1 18) kc.toNatClampNeg)) 80 kc.toNatClampNeg ((4 : Int32) * ((w110.1 19) kc.toNatClampNeg))) 81 kc.toNatClampNeg ((w110.1 20) kc.toNatClampNeg)) 82 kc.toNatClampNeg ((w110.1 21) kc.toNatClampNeg))) (v := .ref (ad 83)) (C := RX13) (T := TX13) (N := 124) hx hb ht itX13 hown hK hP 0 rfl rfl 83 (by decide) (ht _ tw_259) (fun _ h9 => h9) rfl dX13_accept_181 ?_
        refine lv_iload_n hx hb dX13_accept_184 rfl (lv_at hl 0 rfl) ?_
        refine lv_aload_n hx hb dX13_accept_185 rfl (lv_at hl 1 rfl) ?_
        refine va_get (D := (dC, dI)) (ci := 16) (fs := mF ad (wA (wA (wA (wA (wA w110 78 kc.toNatClampNeg ((w110.1 17) kc.toNatClampNeg)) 79 kc.toNatClampNeg ((w110.1 18) kc.toNatClampNeg)) 80 kc.toNatClampNeg ((4 : Int32) * ((w110.1 19) kc.toNatClampNeg))) 81 kc.toNatClampNeg ((w110.1 20) kc.toNatClampNeg)) 82 kc.toNatClampNeg ((w110.1 21) kc.toNatClampNeg))) (v := .ref (ad 7)) (C := RX13) (T := TX13) (N := 124) hx hb ht itX13 hown hK hP 0 rfl rfl 7 (by decide) (ht _ tw_20) (fun _ h9 => h9) rfl dX13_accept_186 ?_
        refine lv_aload_n hx hb dX13_accept_189 rfl (lv_at hl 1 rfl) ?_
        refine va_get (D := (dC, dI)) (ci := 16) (fs := mF ad (wA (wA (wA (wA (wA w110 78 kc.toNatClampNeg ((w110.1 17) kc.toNatClampNeg)) 79 kc.toNatClampNeg ((w110.1 18) kc.toNatClampNeg)) 80 kc.toNatClampNeg ((4 : Int32) * ((w110.1 19) kc.toNatClampNeg))) 81 kc.toNatClampNeg ((w110.1 20) kc.toNatClampNeg)) 82 kc.toNatClampNeg ((w110.1 21) kc.toNatClampNeg))) (v := .ref (ad 16)) (C := RX13) (T := TX13) (N := 124) hx hb ht itX13 hown hK hP 0 rfl rfl 16 (by decide) (ht _ tw_51) (fun _ h9 => h9) rfl dX13_accept_190 ?_
        refine lv_iload_n hx hb dX13_accept_193 rfl (lv_at hl 0 rfl) ?_
        refine va_iald (D := (dC, dI)) (f := (w110.1 16)) hx hb hK hP 11 0 rfl rfl (in_y (a := kc.toInt) (b := 40) rfl (om_ac00129bfc e1L110) (om_ae06e9a251 zf q6 q7 q60 z59) rfl) dX13_accept_194 ?_
        have q63 : 0 ≤ ((w110.1 16) kc.toNatClampNeg).toInt ∧ ((w110.1 16) kc.toNatClampNeg).toInt ≤ 1500 := (show AR 16 0 1500 (wA (wA (wA (wA (wA w110 78 kc.toNatClampNeg ((w110.1 17) kc.toNatClampNeg)) 79 kc.toNatClampNeg ((w110.1 18) kc.toNatClampNeg)) 80 kc.toNatClampNeg ((4 : Int32) * ((w110.1 19) kc.toNatClampNeg))) 81 kc.toNatClampNeg ((w110.1 20) kc.toNatClampNeg)) 82 kc.toNatClampNeg ((w110.1 21) kc.toNatClampNeg)) from (AR.o (AR.o (AR.o (AR.o (AR.o (show AR 16 0 1500 w110 from AR.fr (fl := []) (al := [78, 79, 80, 81, 82, 83, 84]) fwL110 (by decide) (show AR 16 0 1500 w70 from AR.fr (fl := []) (al := [71, 72]) fwL70 (by decide) (show AR 16 0 1500 w42 from AR.fr (fl := []) (al := [70]) fwL42 (by decide) (AR.o (AR.o (AR.o (AR.o (AR.o a16 (by decide)) (by decide)) (by decide)) (by decide)) (by decide))))) (by decide)) (by decide)) (by decide)) (by decide)) (by decide))) kc.toNatClampNeg
        refine va_iald (D := (dC, dI)) (f := (w110.1 7)) hx hb hK hP 4 0 rfl rfl (in_y (a := ((w110.1 16) kc.toNatClampNeg).toInt) (b := 4002) rfl (om_0ea0e431d3 q63) (om_449eb7e9bb q63) rfl) dX13_accept_195 ?_
        refine va_iast (D := (dC, dI)) (f := (w110.1 83)) hx hb hK hP hD hS 43 0 rfl rfl (in_y (a := kc.toInt) (b := 40) rfl (om_ac00129bfc e1L110) (om_ae06e9a251 zf q6 q7 q60 z59) rfl) dX13_accept_196 (fun H locs hP hD hS => ?_)
        have hP := cP_ (ma_83 ad N cI cZ cJ (wA (wA (wA (wA (wA w110 78 kc.toNatClampNeg ((w110.1 17) kc.toNatClampNeg)) 79 kc.toNatClampNeg ((w110.1 18) kc.toNatClampNeg)) 80 kc.toNatClampNeg ((4 : Int32) * ((w110.1 19) kc.toNatClampNeg))) 81 kc.toNatClampNeg ((w110.1 20) kc.toNatClampNeg)) 82 kc.toNatClampNeg ((w110.1 21) kc.toNatClampNeg)) kc.toNatClampNeg ((w110.1 7) ((w110.1 16) kc.toNatClampNeg).toNatClampNeg)) hP
        have hD := cD_ (ma_83 ad N cI cZ cJ (wA (wA (wA (wA (wA w110 78 kc.toNatClampNeg ((w110.1 17) kc.toNatClampNeg)) 79 kc.toNatClampNeg ((w110.1 18) kc.toNatClampNeg)) 80 kc.toNatClampNeg ((4 : Int32) * ((w110.1 19) kc.toNatClampNeg))) 81 kc.toNatClampNeg ((w110.1 20) kc.toNatClampNeg)) 82 kc.toNatClampNeg ((w110.1 21) kc.toNatClampNeg)) kc.toNatClampNeg ((w110.1 7) ((w110.1 16) kc.toNatClampNeg).toNatClampNeg)) hD
        refine lv_aload_n hx hb dX13_accept_197 rfl (lv_at hl 1 rfl) ?_
        refine va_get (D := (dC, dI)) (ci := 16) (fs := mF ad (wA (wA (wA (wA (wA (wA w110 78 kc.toNatClampNeg ((w110.1 17) kc.toNatClampNeg)) 79 kc.toNatClampNeg ((w110.1 18) kc.toNatClampNeg)) 80 kc.toNatClampNeg ((4 : Int32) * ((w110.1 19) kc.toNatClampNeg))) 81 kc.toNatClampNeg ((w110.1 20) kc.toNatClampNeg)) 82 kc.toNatClampNeg ((w110.1 21) kc.toNatClampNeg)) 83 kc.toNatClampNeg ((w110.1 7) ((w110.1 16) kc.toNatClampNeg).toNatClampNeg))) (v := .ref (ad 84)) (C := RX13) (T := TX13) (N := 124) hx hb ht itX13 hown hK hP 0 rfl rfl 84 (by decide) (ht _ tw_276) (fun _ h9 => h9) rfl dX13_accept_198 ?_
        refine lv_iload_n hx hb dX13_accept_201 rfl (lv_at hl 0 rfl) ?_
        refine lv_aload_n hx hb dX13_accept_202 rfl (lv_at hl 1 rfl) ?_
        refine va_get (D := (dC, dI)) (ci := 16) (fs := mF ad (wA (wA (wA (wA (wA (wA w110 78 kc.toNatClampNeg ((w110.1 17) kc.toNatClampNeg)) 79 kc.toNatClampNeg ((w110.1 18) kc.toNatClampNeg)) 80 kc.toNatClampNeg ((4 : Int32) * ((w110.1 19) kc.toNatClampNeg))) 81 kc.toNatClampNeg ((w110.1 20) kc.toNatClampNeg)) 82 kc.toNatClampNeg ((w110.1 21) kc.toNatClampNeg)) 83 kc.toNatClampNeg ((w110.1 7) ((w110.1 16) kc.toNatClampNeg).toNatClampNeg))) (v := .ref (ad 8)) (C := RX13) (T := TX13) (N := 124) hx hb ht itX13 hown hK hP 0 rfl rfl 8 (by decide) (ht _ tw_42) (fun _ h9 => h9) rfl dX13_accept_203 ?_
        refine lv_aload_n hx hb dX13_accept_206 rfl (lv_at hl 1 rfl) ?_
        refine va_get (D := (dC, dI)) (ci := 16) (fs := mF ad (wA (wA (wA (wA (wA (wA w110 78 kc.toNatClampNeg ((w110.1 17) kc.toNatClampNeg)) 79 kc.toNatClampNeg ((w110.1 18) kc.toNatClampNeg)) 80 kc.toNatClampNeg ((4 : Int32) * ((w110.1 19) kc.toNatClampNeg))) 81 kc.toNatClampNeg ((w110.1 20) kc.toNatClampNeg)) 82 kc.toNatClampNeg ((w110.1 21) kc.toNatClampNeg)) 83 kc.toNatClampNeg ((w110.1 7) ((w110.1 16) kc.toNatClampNeg).toNatClampNeg))) (v := .ref (ad 16)) (C := RX13) (T := TX13) (N := 124) hx hb ht itX13 hown hK hP 0 rfl rfl 16 (by decide) (ht _ tw_51) (fun _ h9 => h9) rfl dX13_accept_207 ?_
        refine lv_iload_n hx hb dX13_accept_210 rfl (lv_at hl 0 rfl) ?_
        refine va_iald (D := (dC, dI)) (f := (w110.1 16)) hx hb hK hP 11 0 rfl rfl (in_y (a := kc.toInt) (b := 40) rfl (om_ac00129bfc e1L110) (om_ae06e9a251 zf q6 q7 q60 z59) rfl) dX13_accept_211 ?_
        refine va_iald (D := (dC, dI)) (f := (w110.1 8)) hx hb hK hP 5 0 rfl rfl (in_y (a := ((w110.1 16) kc.toNatClampNeg).toInt) (b := 4002) rfl (om_0ea0e431d3 q63) (om_449eb7e9bb q63) rfl) dX13_accept_212 ?_
        refine va_iast (D := (dC, dI)) (f := (w110.1 84)) hx hb hK hP hD hS 44 0 rfl rfl (in_y (a := kc.toInt) (b := 40) rfl (om_ac00129bfc e1L110) (om_ae06e9a251 zf q6 q7 q60 z59) rfl) dX13_accept_213 (fun H locs hP hD hS => ?_)
        have hP := cP_ (ma_84 ad N cI cZ cJ (wA (wA (wA (wA (wA (wA w110 78 kc.toNatClampNeg ((w110.1 17) kc.toNatClampNeg)) 79 kc.toNatClampNeg ((w110.1 18) kc.toNatClampNeg)) 80 kc.toNatClampNeg ((4 : Int32) * ((w110.1 19) kc.toNatClampNeg))) 81 kc.toNatClampNeg ((w110.1 20) kc.toNatClampNeg)) 82 kc.toNatClampNeg ((w110.1 21) kc.toNatClampNeg)) 83 kc.toNatClampNeg ((w110.1 7) ((w110.1 16) kc.toNatClampNeg).toNatClampNeg)) kc.toNatClampNeg ((w110.1 8) ((w110.1 16) kc.toNatClampNeg).toNatClampNeg)) hP
        have hD := cD_ (ma_84 ad N cI cZ cJ (wA (wA (wA (wA (wA (wA w110 78 kc.toNatClampNeg ((w110.1 17) kc.toNatClampNeg)) 79 kc.toNatClampNeg ((w110.1 18) kc.toNatClampNeg)) 80 kc.toNatClampNeg ((4 : Int32) * ((w110.1 19) kc.toNatClampNeg))) 81 kc.toNatClampNeg ((w110.1 20) kc.toNatClampNeg)) 82 kc.toNatClampNeg ((w110.1 21) kc.toNatClampNeg)) 83 kc.toNatClampNeg ((w110.1 7) ((w110.1 16) kc.toNatClampNeg).toNatClampNeg)) kc.toNatClampNeg ((w110.1 8) ((w110.1 16) kc.toNatClampNeg).toNatClampNeg)) hD
        refine lv_iinc (v := (kc + (1 : Int32))) (lv' := [(1, .int (kc + (1 : Int32))), (0, .ref (ad 0))]) hx hb dX13_accept_214 hl (k := 0) rfl (rfl) (by decide) rfl (fun ls hl => ?_)
        have z64 : (kc + (1 : Int32)).toInt = kc.toInt + (1 : Int) := add_z rfl (show (1 : Int32).toInt = (1 : Int) by decide) (om_a8944c555e e1L110) (om_5596a0f16e zf q6 q7 e1L110)
        refine lv_goto (tgt := 110) hx hb dX13_accept_217 (by decide) ?_
        have q65 : 0 ≤ ((w110.1 17) kc.toNatClampNeg).toInt ∧ ((w110.1 17) kc.toNatClampNeg).toInt ≤ 8 := (show AR 17 0 8 w110 from (show AR 17 0 8 w110 from AR.fr (fl := []) (al := [78, 79, 80, 81, 82, 83, 84]) fwL110 (by decide) (show AR 17 0 8 w70 from AR.fr (fl := []) (al := [71, 72]) fwL70 (by decide) (show AR 17 0 8 w42 from AR.fr (fl := []) (al := [70]) fwL42 (by decide) (AR.o (AR.o (AR.o (AR.o (AR.o a17 (by decide)) (by decide)) (by decide)) (by decide)) (by decide)))))) kc.toNatClampNeg
        have q66 : 0 ≤ ((w110.1 18) kc.toNatClampNeg).toInt ∧ ((w110.1 18) kc.toNatClampNeg).toInt ≤ 2008 := (show AR 18 0 2008 (wA w110 78 kc.toNatClampNeg ((w110.1 17) kc.toNatClampNeg)) from (AR.o (show AR 18 0 2008 w110 from AR.fr (fl := []) (al := [78, 79, 80, 81, 82, 83, 84]) fwL110 (by decide) (show AR 18 0 2008 w70 from AR.fr (fl := []) (al := [71, 72]) fwL70 (by decide) (show AR 18 0 2008 w42 from AR.fr (fl := []) (al := [70]) fwL42 (by decide) (AR.o (AR.o (AR.o (AR.o (AR.o a18 (by decide)) (by decide)) (by decide)) (by decide)) (by decide))))) (by decide))) kc.toNatClampNeg
        have q67 : 0 ≤ ((w110.1 20) kc.toNatClampNeg).toInt ∧ ((w110.1 20) kc.toNatClampNeg).toInt ≤ 15999 := (show AR 20 0 15999 (wA (wA (wA w110 78 kc.toNatClampNeg ((w110.1 17) kc.toNatClampNeg)) 79 kc.toNatClampNeg ((w110.1 18) kc.toNatClampNeg)) 80 kc.toNatClampNeg ((4 : Int32) * ((w110.1 19) kc.toNatClampNeg))) from (AR.o (AR.o (AR.o (show AR 20 0 15999 w110 from AR.fr (fl := []) (al := [78, 79, 80, 81, 82, 83, 84]) fwL110 (by decide) (show AR 20 0 15999 w70 from AR.fr (fl := []) (al := [71, 72]) fwL70 (by decide) (show AR 20 0 15999 w42 from AR.fr (fl := []) (al := [70]) fwL42 (by decide) (AR.o (AR.o (AR.o (AR.o (AR.o a20 (by decide)) (by decide)) (by decide)) (by decide)) (by decide))))) (by decide)) (by decide)) (by decide))) kc.toNatClampNeg
        have q68 : 0 ≤ ((w110.1 21) kc.toNatClampNeg).toInt ∧ ((w110.1 21) kc.toNatClampNeg).toInt ≤ 500 := (show AR 21 0 500 (wA (wA (wA (wA w110 78 kc.toNatClampNeg ((w110.1 17) kc.toNatClampNeg)) 79 kc.toNatClampNeg ((w110.1 18) kc.toNatClampNeg)) 80 kc.toNatClampNeg ((4 : Int32) * ((w110.1 19) kc.toNatClampNeg))) 81 kc.toNatClampNeg ((w110.1 20) kc.toNatClampNeg)) from (AR.o (AR.o (AR.o (AR.o (show AR 21 0 500 w110 from AR.fr (fl := []) (al := [78, 79, 80, 81, 82, 83, 84]) fwL110 (by decide) (show AR 21 0 500 w70 from AR.fr (fl := []) (al := [71, 72]) fwL70 (by decide) (show AR 21 0 500 w42 from AR.fr (fl := []) (al := [70]) fwL42 (by decide) (AR.o (AR.o (AR.o (AR.o (AR.o a21 (by decide)) (by decide)) (by decide)) (by decide)) (by decide))))) (by decide)) (by decide)) (by decide)) (by decide))) kc.toNatClampNeg
        have q69 : 0 ≤ ((w110.1 7) ((w110.1 16) kc.toNatClampNeg).toNatClampNeg).toInt ∧ ((w110.1 7) ((w110.1 16) kc.toNatClampNeg).toNatClampNeg).toInt ≤ 4000 ∧ 0 ≤ ((w110.1 8) ((w110.1 16) kc.toNatClampNeg).toNatClampNeg).toInt ∧ ((w110.1 8) ((w110.1 16) kc.toNatClampNeg).toNatClampNeg).toInt ≤ 4000 := (show TI (wA (wA (wA (wA (wA w110 78 kc.toNatClampNeg ((w110.1 17) kc.toNatClampNeg)) 79 kc.toNatClampNeg ((w110.1 18) kc.toNatClampNeg)) 80 kc.toNatClampNeg ((4 : Int32) * ((w110.1 19) kc.toNatClampNeg))) 81 kc.toNatClampNeg ((w110.1 20) kc.toNatClampNeg)) 82 kc.toNatClampNeg ((w110.1 21) kc.toNatClampNeg)) from (TI.o (TI.o (TI.o (TI.o (TI.o (FG.ti (fl := []) (al := [78, 79, 80, 81, 82, 83, 84]) fwL110 (by decide) (by decide) (FG.ti (fl := []) (al := [71, 72]) fwL70 (by decide) (by decide) (FG.ti (fl := []) (al := [70]) fwL42 (by decide) (by decide) (TI.o (TI.o (TI.o (TI.o (TI.o hT (by decide)) (by decide)) (by decide)) (by decide)) (by decide))))) (by decide)) (by decide)) (by decide)) (by decide)) (by decide))) (((w110.1 16) kc.toNatClampNeg).toNatClampNeg)
        exact ih110 ((kc + (1 : Int32)), (wA (wA (wA (wA (wA (wA (wA w110 78 kc.toNatClampNeg ((w110.1 17) kc.toNatClampNeg)) 79 kc.toNatClampNeg ((w110.1 18) kc.toNatClampNeg)) 80 kc.toNatClampNeg ((4 : Int32) * ((w110.1 19) kc.toNatClampNeg))) 81 kc.toNatClampNeg ((w110.1 20) kc.toNatClampNeg)) 82 kc.toNatClampNeg ((w110.1 21) kc.toNatClampNeg)) 83 kc.toNatClampNeg ((w110.1 7) ((w110.1 16) kc.toNatClampNeg).toNatClampNeg)) 84 kc.toNatClampNeg ((w110.1 8) ((w110.1 16) kc.toNatClampNeg).toNatClampNeg))) _ _ _ (show ((v.1 0 22).toInt - (kc + (1 : Int32)).toInt).toNat < ((v.1 0 22).toInt - kc.toInt).toNat from tn_z (om_6a7d95371f z64) (om_728f746819 q6 q7 q60 z59)) ⟨(show FG [] [78, 79, 80, 81, 82, 83, 84] w70 (wA (wA (wA (wA (wA (wA (wA w110 78 kc.toNatClampNeg ((w110.1 17) kc.toNatClampNeg)) 79 kc.toNatClampNeg ((w110.1 18) kc.toNatClampNeg)) 80 kc.toNatClampNeg ((4 : Int32) * ((w110.1 19) kc.toNatClampNeg))) 81 kc.toNatClampNeg ((w110.1 20) kc.toNatClampNeg)) 82 kc.toNatClampNeg ((w110.1 21) kc.toNatClampNeg)) 83 kc.toNatClampNeg ((w110.1 7) ((w110.1 16) kc.toNatClampNeg).toNatClampNeg)) 84 kc.toNatClampNeg ((w110.1 8) ((w110.1 16) kc.toNatClampNeg).toNatClampNeg)) from (FG.a (FG.a (FG.a (FG.a (FG.a (FG.a (FG.a (FG.tr (FG.rf _) (FG.up fwL110 (by decide) (by decide))) kc.toNatClampNeg ((w110.1 17) kc.toNatClampNeg) (by decide) (by decide)) kc.toNatClampNeg ((w110.1 18) kc.toNatClampNeg) (by decide) (by decide)) kc.toNatClampNeg ((4 : Int32) * ((w110.1 19) kc.toNatClampNeg)) (by decide) (by decide)) kc.toNatClampNeg ((w110.1 20) kc.toNatClampNeg) (by decide) (by decide)) kc.toNatClampNeg ((w110.1 21) kc.toNatClampNeg) (by decide) (by decide)) kc.toNatClampNeg ((w110.1 7) ((w110.1 16) kc.toNatClampNeg).toNatClampNeg) (by decide) (by decide)) kc.toNatClampNeg ((w110.1 8) ((w110.1 16) kc.toNatClampNeg).toNatClampNeg) (by decide) (by decide))), (show 0 ≤ (kc + (1 : Int32)).toInt ∧ (kc + (1 : Int32)).toInt ≤ (w70.1 0 22).toInt from (om_fc66311bc4 e1L110 q60 z59 z64)), (show ∀ j : Nat, (j : Int) < (kc + (1 : Int32)).toInt → (upd (w110.1 78) kc.toNatClampNeg ((w110.1 17) kc.toNatClampNeg)) j = (w70.1 17) j from (cp_step c78L110 (fun _ => congrFun (fwL110.2.2 17 (by decide)) _) (om_ac00129bfc e1L110) (om_b19948bd4f z64))), (show ∀ j : Nat, (j : Int) < (kc + (1 : Int32)).toInt → (upd (w110.1 79) kc.toNatClampNeg ((w110.1 18) kc.toNatClampNeg)) j = (w70.1 18) j from (cp_step c79L110 (fun _ => congrFun (fwL110.2.2 18 (by decide)) _) (om_ac00129bfc e1L110) (om_b19948bd4f z64))), (show ∀ j : Nat, (j : Int) < (kc + (1 : Int32)).toInt → (upd (w110.1 81) kc.toNatClampNeg ((w110.1 20) kc.toNatClampNeg)) j = (w70.1 20) j from (cp_step c81L110 (fun _ => congrFun (fwL110.2.2 20 (by decide)) _) (om_ac00129bfc e1L110) (om_b19948bd4f z64))), (show ∀ j : Nat, (j : Int) < (kc + (1 : Int32)).toInt → (upd (w110.1 82) kc.toNatClampNeg ((w110.1 21) kc.toNatClampNeg)) j = (w70.1 21) j from (cp_step c82L110 (fun _ => congrFun (fwL110.2.2 21 (by decide)) _) (om_ac00129bfc e1L110) (om_b19948bd4f z64))), (show AR 78 0 8 (wA (wA (wA (wA (wA (wA (wA w110 78 kc.toNatClampNeg ((w110.1 17) kc.toNatClampNeg)) 79 kc.toNatClampNeg ((w110.1 18) kc.toNatClampNeg)) 80 kc.toNatClampNeg ((4 : Int32) * ((w110.1 19) kc.toNatClampNeg))) 81 kc.toNatClampNeg ((w110.1 20) kc.toNatClampNeg)) 82 kc.toNatClampNeg ((w110.1 21) kc.toNatClampNeg)) 83 kc.toNatClampNeg ((w110.1 7) ((w110.1 16) kc.toNatClampNeg).toNatClampNeg)) 84 kc.toNatClampNeg ((w110.1 8) ((w110.1 16) kc.toNatClampNeg).toNatClampNeg)) from (AR.o (AR.o (AR.o (AR.o (AR.o (AR.o (AR.w a78L110 (show 0 ≤ ((w110.1 17) kc.toNatClampNeg).toInt ∧ ((w110.1 17) kc.toNatClampNeg).toInt ≤ 8 from (om_6833f83d3e q65))) (by decide)) (by decide)) (by decide)) (by decide)) (by decide)) (by decide))), (show AR 79 0 2008 (wA (wA (wA (wA (wA (wA (wA w110 78 kc.toNatClampNeg ((w110.1 17) kc.toNatClampNeg)) 79 kc.toNatClampNeg ((w110.1 18) kc.toNatClampNeg)) 80 kc.toNatClampNeg ((4 : Int32) * ((w110.1 19) kc.toNatClampNeg))) 81 kc.toNatClampNeg ((w110.1 20) kc.toNatClampNeg)) 82 kc.toNatClampNeg ((w110.1 21) kc.toNatClampNeg)) 83 kc.toNatClampNeg ((w110.1 7) ((w110.1 16) kc.toNatClampNeg).toNatClampNeg)) 84 kc.toNatClampNeg ((w110.1 8) ((w110.1 16) kc.toNatClampNeg).toNatClampNeg)) from (AR.o (AR.o (AR.o (AR.o (AR.o (AR.w (AR.o a79L110 (by decide)) (show 0 ≤ ((w110.1 18) kc.toNatClampNeg).toInt ∧ ((w110.1 18) kc.toNatClampNeg).toInt ≤ 2008 from (om_06bb8562c3 q66))) (by decide)) (by decide)) (by decide)) (by decide)) (by decide))), (show AR 80 0 96000 (wA (wA (wA (wA (wA (wA (wA w110 78 kc.toNatClampNeg ((w110.1 17) kc.toNatClampNeg)) 79 kc.toNatClampNeg ((w110.1 18) kc.toNatClampNeg)) 80 kc.toNatClampNeg ((4 : Int32) * ((w110.1 19) kc.toNatClampNeg))) 81 kc.toNatClampNeg ((w110.1 20) kc.toNatClampNeg)) 82 kc.toNatClampNeg ((w110.1 21) kc.toNatClampNeg)) 83 kc.toNatClampNeg ((w110.1 7) ((w110.1 16) kc.toNatClampNeg).toNatClampNeg)) 84 kc.toNatClampNeg ((w110.1 8) ((w110.1 16) kc.toNatClampNeg).toNatClampNeg)) from (AR.o (AR.o (AR.o (AR.o (AR.w (AR.o (AR.o a80L110 (by decide)) (by decide)) (show 0 ≤ ((4 : Int32) * ((w110.1 19) kc.toNatClampNeg)).toInt ∧ ((4 : Int32) * ((w110.1 19) kc.toNatClampNeg)).toInt ≤ 96000 from (om_738aa4d0ad q61 z62))) (by decide)) (by decide)) (by decide)) (by decide))), (show AR 81 0 15999 (wA (wA (wA (wA (wA (wA (wA w110 78 kc.toNatClampNeg ((w110.1 17) kc.toNatClampNeg)) 79 kc.toNatClampNeg ((w110.1 18) kc.toNatClampNeg)) 80 kc.toNatClampNeg ((4 : Int32) * ((w110.1 19) kc.toNatClampNeg))) 81 kc.toNatClampNeg ((w110.1 20) kc.toNatClampNeg)) 82 kc.toNatClampNeg ((w110.1 21) kc.toNatClampNeg)) 83 kc.toNatClampNeg ((w110.1 7) ((w110.1 16) kc.toNatClampNeg).toNatClampNeg)) 84 kc.toNatClampNeg ((w110.1 8) ((w110.1 16) kc.toNatClampNeg).toNatClampNeg)) from (AR.o (AR.o (AR.o (AR.w (AR.o (AR.o (AR.o a81L110 (by decide)) (by decide)) (by decide)) (show 0 ≤ ((w110.1 20) kc.toNatClampNeg).toInt ∧ ((w110.1 20) kc.toNatClampNeg).toInt ≤ 15999 from (om_f629908a4a q67))) (by decide)) (by decide)) (by decide))), (show AR 82 0 500 (wA (wA (wA (wA (wA (wA (wA w110 78 kc.toNatClampNeg ((w110.1 17) kc.toNatClampNeg)) 79 kc.toNatClampNeg ((w110.1 18) kc.toNatClampNeg)) 80 kc.toNatClampNeg ((4 : Int32) * ((w110.1 19) kc.toNatClampNeg))) 81 kc.toNatClampNeg ((w110.1 20) kc.toNatClampNeg)) 82 kc.toNatClampNeg ((w110.1 21) kc.toNatClampNeg)) 83 kc.toNatClampNeg ((w110.1 7) ((w110.1 16) kc.toNatClampNeg).toNatClampNeg)) 84 kc.toNatClampNeg ((w110.1 8) ((w110.1 16) kc.toNatClampNeg).toNatClampNeg)) from (AR.o (AR.o (AR.w (AR.o (AR.o (AR.o (AR.o a82L110 (by decide)) (by decide)) (by decide)) (by decide)) (show 0 ≤ ((w110.1 21) kc.toNatClampNeg).toInt ∧ ((w110.1 21) kc.toNatClampNeg).toInt ≤ 500 from (om_9861e69da5 q68))) (by decide)) (by decide))), (show AR 83 0 4000 (wA (wA (wA (wA (wA (wA (wA w110 78 kc.toNatClampNeg ((w110.1 17) kc.toNatClampNeg)) 79 kc.toNatClampNeg ((w110.1 18) kc.toNatClampNeg)) 80 kc.toNatClampNeg ((4 : Int32) * ((w110.1 19) kc.toNatClampNeg))) 81 kc.toNatClampNeg ((w110.1 20) kc.toNatClampNeg)) 82 kc.toNatClampNeg ((w110.1 21) kc.toNatClampNeg)) 83 kc.toNatClampNeg ((w110.1 7) ((w110.1 16) kc.toNatClampNeg).toNatClampNeg)) 84 kc.toNatClampNeg ((w110.1 8) ((w110.1 16) kc.toNatClampNeg).toNatClampNeg)) from (AR.o (AR.w (AR.o (AR.o (AR.o (AR.o (AR.o a83L110 (by decide)) (by decide)) (by decide)) (by decide)) (by decide)) (show 0 ≤ ((w110.1 7) ((w110.1 16) kc.toNatClampNeg).toNatClampNeg).toInt ∧ ((w110.1 7) ((w110.1 16) kc.toNatClampNeg).toNatClampNeg).toInt ≤ 4000 from (om_e9fede9dc8 q69))) (by decide))), (show AR 84 0 4000 (wA (wA (wA (wA (wA (wA (wA w110 78 kc.toNatClampNeg ((w110.1 17) kc.toNatClampNeg)) 79 kc.toNatClampNeg ((w110.1 18) kc.toNatClampNeg)) 80 kc.toNatClampNeg ((4 : Int32) * ((w110.1 19) kc.toNatClampNeg))) 81 kc.toNatClampNeg ((w110.1 20) kc.toNatClampNeg)) 82 kc.toNatClampNeg ((w110.1 21) kc.toNatClampNeg)) 83 kc.toNatClampNeg ((w110.1 7) ((w110.1 16) kc.toNatClampNeg).toNatClampNeg)) 84 kc.toNatClampNeg ((w110.1 8) ((w110.1 16) kc.toNatClampNeg).toNatClampNeg)) from (AR.w (AR.o (AR.o (AR.o (AR.o (AR.o (AR.o a84L110 (by decide)) (by decide)) (by decide)) (by decide)) (by decide)) (by decide)) (show 0 ≤ ((w110.1 8) ((w110.1 16) kc.toNatClampNeg).toNatClampNeg).toInt ∧ ((w110.1 8) ((w110.1 16) kc.toNatClampNeg).toNatClampNeg).toInt ≤ 4000 from (om_0c82d4925c q69)))), (RT.st exL110 ⟨fwL110, e1L110, z59, rfl⟩), hP, hD, hS, lv_sub hl [0, 1] rfl⟩
    · have z70 : kb.toInt < (w70.1 0 15).toInt := nle_z rfl rfl h4
      refine lv_aload_n hx hb dX13_accept_78 rfl (lv_at hl 1 rfl) ?_
      refine va_get (D := (dC, dI)) (ci := 16) (fs := mF ad w70) (v := .ref (ad 71)) (C := RX13) (T := TX13) (N := 124) hx hb ht itX13 hown hK hP 0 rfl rfl 71 (by decide) (ht _ tw_277) (fun _ h9 => h9) rfl dX13_accept_79 ?_
      refine lv_iload_n hx hb dX13_accept_82 rfl (lv_at hl 0 rfl) ?_
      refine lv_aload_n hx hb dX13_accept_83 rfl (lv_at hl 1 rfl) ?_
      refine va_get (D := (dC, dI)) (ci := 16) (fs := mF ad w70) (v := .ref (ad 13)) (C := RX13) (T := TX13) (N := 124) hx hb ht itX13 hown hK hP 0 rfl rfl 13 (by decide) (ht _ tw_10) (fun _ h9 => h9) rfl dX13_accept_84 ?_
      refine lv_iload_n hx hb dX13_accept_87 rfl (lv_at hl 0 rfl) ?_
      have q71 : (w70.1 0 15).toInt = (w42.1 0 15).toInt := congrArg Int32.toInt ((fwL70.2.1 15 (by decide)).trans (show w42.1 0 15 = (w42.1 0 15) by rfl))
      refine va_iald (D := (dC, dI)) (f := (w70.1 13)) hx hb hK hP 9 0 rfl rfl (in_y (a := kb.toInt) (b := 16000) rfl (om_ac00129bfc e1L70) (om_e689b00416 zo q3 q71 z70) rfl) dX13_accept_88 ?_
      refine va_iast (D := (dC, dI)) (f := (w70.1 71)) hx hb hK hP hD hS 36 0 rfl rfl (in_y (a := kb.toInt) (b := 16000) rfl (om_ac00129bfc e1L70) (om_e689b00416 zo q3 q71 z70) rfl) dX13_accept_89 (fun H locs hP hD hS => ?_)
      have hP := cP_ (ma_71 ad N cI cZ cJ w70 kb.toNatClampNeg ((w70.1 13) kb.toNatClampNeg)) hP
      have hD := cD_ (ma_71 ad N cI cZ cJ w70 kb.toNatClampNeg ((w70.1 13) kb.toNatClampNeg)) hD
      refine lv_aload_n hx hb dX13_accept_90 rfl (lv_at hl 1 rfl) ?_
      refine va_get (D := (dC, dI)) (ci := 16) (fs := mF ad (wA w70 71 kb.toNatClampNeg ((w70.1 13) kb.toNatClampNeg))) (v := .ref (ad 72)) (C := RX13) (T := TX13) (N := 124) hx hb ht itX13 hown hK hP 0 rfl rfl 72 (by decide) (ht _ tw_278) (fun _ h9 => h9) rfl dX13_accept_91 ?_
      refine lv_iload_n hx hb dX13_accept_94 rfl (lv_at hl 0 rfl) ?_
      refine lv_aload_n hx hb dX13_accept_95 rfl (lv_at hl 1 rfl) ?_
      refine va_get (D := (dC, dI)) (ci := 16) (fs := mF ad (wA w70 71 kb.toNatClampNeg ((w70.1 13) kb.toNatClampNeg))) (v := .ref (ad 14)) (C := RX13) (T := TX13) (N := 124) hx hb ht itX13 hown hK hP 0 rfl rfl 14 (by decide) (ht _ tw_12) (fun _ h9 => h9) rfl dX13_accept_96 ?_
      refine lv_iload_n hx hb dX13_accept_99 rfl (lv_at hl 0 rfl) ?_
      refine va_iald (D := (dC, dI)) (f := (w70.1 14)) hx hb hK hP 10 0 rfl rfl (in_y (a := kb.toInt) (b := 16000) rfl (om_ac00129bfc e1L70) (om_e689b00416 zo q3 q71 z70) rfl) dX13_accept_100 ?_
      refine va_iast (D := (dC, dI)) (f := (w70.1 72)) hx hb hK hP hD hS 37 0 rfl rfl (in_y (a := kb.toInt) (b := 16000) rfl (om_ac00129bfc e1L70) (om_e689b00416 zo q3 q71 z70) rfl) dX13_accept_101 (fun H locs hP hD hS => ?_)
      have hP := cP_ (ma_72 ad N cI cZ cJ (wA w70 71 kb.toNatClampNeg ((w70.1 13) kb.toNatClampNeg)) kb.toNatClampNeg ((w70.1 14) kb.toNatClampNeg)) hP
      have hD := cD_ (ma_72 ad N cI cZ cJ (wA w70 71 kb.toNatClampNeg ((w70.1 13) kb.toNatClampNeg)) kb.toNatClampNeg ((w70.1 14) kb.toNatClampNeg)) hD
      refine lv_iinc (v := (kb + (1 : Int32))) (lv' := [(1, .int (kb + (1 : Int32))), (0, .ref (ad 0))]) hx hb dX13_accept_102 hl (k := 0) rfl (rfl) (by decide) rfl (fun ls hl => ?_)
      have z72 : (kb + (1 : Int32)).toInt = kb.toInt + (1 : Int) := add_z rfl (show (1 : Int32).toInt = (1 : Int) by decide) (om_a8944c555e e1L70) (om_eb196a3645 zo q3 e1L70)
      refine lv_goto (tgt := 70) hx hb dX13_accept_105 (by decide) ?_
      exact ih70 ((kb + (1 : Int32)), (wA (wA w70 71 kb.toNatClampNeg ((w70.1 13) kb.toNatClampNeg)) 72 kb.toNatClampNeg ((w70.1 14) kb.toNatClampNeg))) _ _ _ (show ((v.1 0 15).toInt - (kb + (1 : Int32)).toInt).toNat < ((v.1 0 15).toInt - kb.toInt).toNat from tn_z (om_6a7d95371f z72) (om_d402639af7 q3 q71 z70)) ⟨(show FG [] [71, 72] w42 (wA (wA w70 71 kb.toNatClampNeg ((w70.1 13) kb.toNatClampNeg)) 72 kb.toNatClampNeg ((w70.1 14) kb.toNatClampNeg)) from (FG.a (FG.a (FG.tr (FG.rf _) (FG.up fwL70 (by decide) (by decide))) kb.toNatClampNeg ((w70.1 13) kb.toNatClampNeg) (by decide) (by decide)) kb.toNatClampNeg ((w70.1 14) kb.toNatClampNeg) (by decide) (by decide))), (show 0 ≤ (kb + (1 : Int32)).toInt ∧ (kb + (1 : Int32)).toInt ≤ (w42.1 0 15).toInt from (om_fc66311bc4 e1L70 q71 z70 z72)), (show ∀ j : Nat, (j : Int) < (kb + (1 : Int32)).toInt → (upd (w70.1 71) kb.toNatClampNeg ((w70.1 13) kb.toNatClampNeg)) j = (w42.1 13) j from (cp_step c71L70 (fun _ => congrFun (fwL70.2.2 13 (by decide)) _) (om_ac00129bfc e1L70) (om_b19948bd4f z72))), (show ∀ j : Nat, (j : Int) < (kb + (1 : Int32)).toInt → (upd (w70.1 72) kb.toNatClampNeg ((w70.1 14) kb.toNatClampNeg)) j = (w42.1 14) j from (cp_step c72L70 (fun _ => congrFun (fwL70.2.2 14 (by decide)) _) (om_ac00129bfc e1L70) (om_b19948bd4f z72))), (RT.st exL70 ⟨fwL70, e1L70, z70, rfl⟩), hP, hD, hS, lv_sub hl [0, 1] rfl⟩
  · have z73 : ka.toInt < (w42.1 0 12).toInt := nle_z rfl rfl h1
    refine lv_aload_n hx hb dX13_accept_50 rfl (lv_at hl 1 rfl) ?_
    refine va_get (D := (dC, dI)) (ci := 16) (fs := mF ad w42) (v := .ref (ad 70)) (C := RX13) (T := TX13) (N := 124) hx hb ht itX13 hown hK hP 0 rfl rfl 70 (by decide) (ht _ tw_257) (fun _ h9 => h9) rfl dX13_accept_51 ?_
    refine lv_iload_n hx hb dX13_accept_54 rfl (lv_at hl 0 rfl) ?_
    refine lv_aload_n hx hb dX13_accept_55 rfl (lv_at hl 1 rfl) ?_
    refine va_get (D := (dC, dI)) (ci := 16) (fs := mF ad w42) (v := .ref (ad 11)) (C := RX13) (T := TX13) (N := 124) hx hb ht itX13 hown hK hP 0 rfl rfl 11 (by decide) (ht _ tw_6) (fun _ h9 => h9) rfl dX13_accept_56 ?_
    refine lv_iload_n hx hb dX13_accept_59 rfl (lv_at hl 0 rfl) ?_
    have q74 : (w42.1 0 12).toInt = (v.1 0 12).toInt := congrArg Int32.toInt ((fwL42.2.1 12 (by decide)).trans (show (wA (wA (wA (wA (wA v 0 73 (v.1 0 12)) 0 74 (v.1 0 22)) 0 75 (v.1 0 27)) 0 76 (v.1 0 28)) 0 77 (v.1 0 69)).1 0 12 = (v.1 0 12) by rfl))
    refine va_iald (D := (dC, dI)) (f := (w42.1 11)) hx hb hK hP 8 0 rfl rfl (in_y (a := ka.toInt) (b := 24000) rfl (om_ac00129bfc e1L42) (om_c86b58f68a zw q74 z73) rfl) dX13_accept_60 ?_
    refine va_iast (D := (dC, dI)) (f := (w42.1 70)) hx hb hK hP hD hS 35 0 rfl rfl (in_y (a := ka.toInt) (b := 24000) rfl (om_ac00129bfc e1L42) (om_c86b58f68a zw q74 z73) rfl) dX13_accept_61 (fun H locs hP hD hS => ?_)
    have hP := cP_ (ma_70 ad N cI cZ cJ w42 ka.toNatClampNeg ((w42.1 11) ka.toNatClampNeg)) hP
    have hD := cD_ (ma_70 ad N cI cZ cJ w42 ka.toNatClampNeg ((w42.1 11) ka.toNatClampNeg)) hD
    refine lv_iinc (v := (ka + (1 : Int32))) (lv' := [(1, .int (ka + (1 : Int32))), (0, .ref (ad 0))]) hx hb dX13_accept_62 hl (k := 0) rfl (rfl) (by decide) rfl (fun ls hl => ?_)
    have z75 : (ka + (1 : Int32)).toInt = ka.toInt + (1 : Int) := add_z rfl (show (1 : Int32).toInt = (1 : Int) by decide) (om_a8944c555e e1L42) (om_dca2dcfd0c zw e1L42)
    refine lv_goto (tgt := 42) hx hb dX13_accept_65 (by decide) ?_
    exact ih42 ((ka + (1 : Int32)), (wA w42 70 ka.toNatClampNeg ((w42.1 11) ka.toNatClampNeg))) _ _ _ (show ((v.1 0 12).toInt - (ka + (1 : Int32)).toInt).toNat < ((v.1 0 12).toInt - ka.toInt).toNat from tn_z (om_6a7d95371f z75) (om_6b3904b74d q74 z73)) ⟨(show FG [] [70] (wA (wA (wA (wA (wA v 0 73 (v.1 0 12)) 0 74 (v.1 0 22)) 0 75 (v.1 0 27)) 0 76 (v.1 0 28)) 0 77 (v.1 0 69)) (wA w42 70 ka.toNatClampNeg ((w42.1 11) ka.toNatClampNeg)) from (FG.a (FG.tr (FG.rf _) (FG.up fwL42 (by decide) (by decide))) ka.toNatClampNeg ((w42.1 11) ka.toNatClampNeg) (by decide) (by decide))), (show 0 ≤ (ka + (1 : Int32)).toInt ∧ (ka + (1 : Int32)).toInt ≤ (v.1 0 12).toInt from (om_fc66311bc4 e1L42 q74 z73 z75)), (show ∀ j : Nat, (j : Int) < (ka + (1 : Int32)).toInt → (upd (w42.1 70) ka.toNatClampNeg ((w42.1 11) ka.toNatClampNeg)) j = (v.1 11) j from (cp_step c70L42 (fun _ => congrFun (fwL42.2.2 11 (by decide)) _) (om_ac00129bfc e1L42) (om_b19948bd4f z75))), (RT.st exL42 ⟨fwL42, e1L42, z73, rfl⟩), hP, hD, hS, lv_sub hl [0, 1] rfl⟩
