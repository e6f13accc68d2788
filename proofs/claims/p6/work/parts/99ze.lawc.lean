theorem dL_law_168 : decode cL_law 168 = .ok (.aload_n 1, 1) := by decide +kernel
theorem dL_law_169 : decode cL_law 169 = .ok (.aload_n 0, 1) := by decide +kernel
theorem dL_law_170 : decode cL_law 170 = .ok (.iload 4, 2) := by decide +kernel
theorem dL_law_172 : decode cL_law 172 = .ok (.iconst 1, 1) := by decide +kernel
theorem dL_law_173 : decode cL_law 173 = .ok (.iadd, 1) := by decide +kernel
theorem dL_law_174 : decode cL_law 174 = .ok (.iaload, 1) := by decide +kernel
theorem dL_law_175 : decode cL_law 175 = .ok (.aload_n 0, 1) := by decide +kernel
theorem dL_law_176 : decode cL_law 176 = .ok (.iload 4, 2) := by decide +kernel
theorem dL_law_178 : decode cL_law 178 = .ok (.iconst 2, 1) := by decide +kernel
theorem dL_law_179 : decode cL_law 179 = .ok (.iadd, 1) := by decide +kernel
theorem dL_law_180 : decode cL_law 180 = .ok (.iaload, 1) := by decide +kernel
theorem dL_law_181 : decode cL_law 181 = .ok (.aload_n 0, 1) := by decide +kernel
theorem dL_law_182 : decode cL_law 182 = .ok (.iload 4, 2) := by decide +kernel
theorem dL_law_184 : decode cL_law 184 = .ok (.iconst 3, 1) := by decide +kernel
theorem dL_law_185 : decode cL_law 185 = .ok (.iadd, 1) := by decide +kernel
theorem dL_law_186 : decode cL_law 186 = .ok (.iaload, 1) := by decide +kernel
theorem dL_law_187 : decode cL_law 187 = .ok (.aload_n 0, 1) := by decide +kernel
theorem dL_law_188 : decode cL_law 188 = .ok (.iload 4, 2) := by decide +kernel
theorem dL_law_190 : decode cL_law 190 = .ok (.iconst 4, 1) := by decide +kernel
theorem dL_law_191 : decode cL_law 191 = .ok (.iadd, 1) := by decide +kernel
theorem dL_law_192 : decode cL_law 192 = .ok (.iaload, 1) := by decide +kernel
theorem dL_law_193 : decode cL_law 193 = .ok (.aload_n 0, 1) := by decide +kernel
theorem dL_law_194 : decode cL_law 194 = .ok (.iload 4, 2) := by decide +kernel
theorem dL_law_196 : decode cL_law 196 = .ok (.iconst 5, 1) := by decide +kernel
theorem dL_law_197 : decode cL_law 197 = .ok (.iadd, 1) := by decide +kernel
theorem dL_law_198 : decode cL_law 198 = .ok (.iaload, 1) := by decide +kernel
theorem dL_law_199 : decode cL_law 199 = .ok (.invokevirtual 64, 3) := by decide +kernel
theorem tw_1105 : (.code yX11_feed cX11_feed 6 (some .boolean) : Cond) ∈ tw_W := tw_in (t8_5 (List.mem_of_getElem? (i := 189) rfl)) rfl
theorem tw_1106 : ∀ w ∈ ([.methodLink RL 64 yX11_feed, .instanceMethod yX11_feed, .selects RX11 yX11_feed yX11_feed, .initialized RX11] : List Cond), w ∈ tw_W := al_c (tw_in (t8_5 (List.mem_of_getElem? (i := 186) rfl)) rfl) (al_c (tw_in (t8_5 (List.mem_of_getElem? (i := 187) rfl)) rfl) (al_c (tw_in (t8_5 (List.mem_of_getElem? (i := 188) rfl)) rfl) (al_c (tw_in (t8_1 (List.mem_of_getElem? (i := 1) rfl)) rfl) al_n)))
theorem dL_law_202 : decode cL_law 202 = .ok (.pop, 1) := by decide +kernel
theorem dL_law_203 : decode cL_law 203 = .ok (.aload_n 2, 1) := by decide +kernel
theorem dL_law_204 : decode cL_law 204 = .ok (.aload_n 0, 1) := by decide +kernel
theorem dL_law_205 : decode cL_law 205 = .ok (.iload 4, 2) := by decide +kernel
theorem dL_law_207 : decode cL_law 207 = .ok (.iconst 1, 1) := by decide +kernel
theorem dL_law_208 : decode cL_law 208 = .ok (.iadd, 1) := by decide +kernel
theorem dL_law_209 : decode cL_law 209 = .ok (.iaload, 1) := by decide +kernel
theorem dL_law_210 : decode cL_law 210 = .ok (.aload_n 0, 1) := by decide +kernel
theorem dL_law_211 : decode cL_law 211 = .ok (.iload 4, 2) := by decide +kernel
theorem dL_law_213 : decode cL_law 213 = .ok (.iconst 2, 1) := by decide +kernel
theorem dL_law_214 : decode cL_law 214 = .ok (.iadd, 1) := by decide +kernel
theorem dL_law_215 : decode cL_law 215 = .ok (.iaload, 1) := by decide +kernel
theorem dL_law_216 : decode cL_law 216 = .ok (.aload_n 0, 1) := by decide +kernel
theorem dL_law_217 : decode cL_law 217 = .ok (.iload 4, 2) := by decide +kernel
theorem dL_law_219 : decode cL_law 219 = .ok (.iconst 3, 1) := by decide +kernel
theorem dL_law_220 : decode cL_law 220 = .ok (.iadd, 1) := by decide +kernel
theorem dL_law_221 : decode cL_law 221 = .ok (.iaload, 1) := by decide +kernel
theorem dL_law_222 : decode cL_law 222 = .ok (.aload_n 0, 1) := by decide +kernel
theorem dL_law_223 : decode cL_law 223 = .ok (.iload 4, 2) := by decide +kernel
theorem dL_law_225 : decode cL_law 225 = .ok (.iconst 4, 1) := by decide +kernel
theorem dL_law_226 : decode cL_law 226 = .ok (.iadd, 1) := by decide +kernel
theorem dL_law_227 : decode cL_law 227 = .ok (.iaload, 1) := by decide +kernel
theorem dL_law_228 : decode cL_law 228 = .ok (.aload_n 0, 1) := by decide +kernel
theorem dL_law_229 : decode cL_law 229 = .ok (.iload 4, 2) := by decide +kernel
theorem dL_law_231 : decode cL_law 231 = .ok (.iconst 5, 1) := by decide +kernel
theorem dL_law_232 : decode cL_law 232 = .ok (.iadd, 1) := by decide +kernel
theorem dL_law_233 : decode cL_law 233 = .ok (.iaload, 1) := by decide +kernel
theorem dL_law_234 : decode cL_law 234 = .ok (.invokevirtual 68, 3) := by decide +kernel
theorem tw_1107 : (.code yX13_feed cX13_feed 6 (some .boolean) : Cond) ∈ tw_W := tw_in (t8_9 (List.mem_of_getElem? (i := 31) rfl)) rfl
theorem tw_1108 : ∀ w ∈ ([.methodLink RL 68 yX13_feed, .instanceMethod yX13_feed, .selects RX13 yX13_feed yX13_feed, .initialized RX13] : List Cond), w ∈ tw_W := al_c (tw_in (t8_9 (List.mem_of_getElem? (i := 28) rfl)) rfl) (al_c (tw_in (t8_9 (List.mem_of_getElem? (i := 29) rfl)) rfl) (al_c (tw_in (t8_9 (List.mem_of_getElem? (i := 30) rfl)) rfl) (al_c (tw_in (t8_1 (List.mem_of_getElem? (i := 23) rfl)) rfl) al_n)))
theorem dL_law_237 : decode cL_law 237 = .ok (.pop, 1) := by decide +kernel
theorem dL_law_238 : decode cL_law 238 = .ok (.goto 755, 3) := by decide +kernel
theorem dL_law_241 : decode cL_law 241 = .ok (.aload_n 1, 1) := by decide +kernel
theorem dL_law_242 : decode cL_law 242 = .ok (.aload_n 0, 1) := by decide +kernel
theorem dL_law_243 : decode cL_law 243 = .ok (.iload 4, 2) := by decide +kernel
theorem dL_law_245 : decode cL_law 245 = .ok (.iconst 1, 1) := by decide +kernel
theorem dL_law_246 : decode cL_law 246 = .ok (.iadd, 1) := by decide +kernel
theorem dL_law_247 : decode cL_law 247 = .ok (.iaload, 1) := by decide +kernel
theorem dL_law_248 : decode cL_law 248 = .ok (.invokevirtual 69, 3) := by decide +kernel
theorem tw_1109 : (.code yX11_end cX11_end 2 (some .boolean) : Cond) ∈ tw_W := tw_in (t8_5 (List.mem_of_getElem? (i := 197) rfl)) rfl
theorem tw_1110 : ∀ w ∈ ([.methodLink RL 69 yX11_end, .instanceMethod yX11_end, .selects RX11 yX11_end yX11_end, .initialized RX11] : List Cond), w ∈ tw_W := al_c (tw_in (t8_5 (List.mem_of_getElem? (i := 194) rfl)) rfl) (al_c (tw_in (t8_5 (List.mem_of_getElem? (i := 195) rfl)) rfl) (al_c (tw_in (t8_5 (List.mem_of_getElem? (i := 196) rfl)) rfl) (al_c (tw_in (t8_1 (List.mem_of_getElem? (i := 1) rfl)) rfl) al_n)))
theorem dL_law_251 : decode cL_law 251 = .ok (.pop, 1) := by decide +kernel
theorem dL_law_252 : decode cL_law 252 = .ok (.aload_n 2, 1) := by decide +kernel
theorem dL_law_253 : decode cL_law 253 = .ok (.aload_n 0, 1) := by decide +kernel
theorem dL_law_254 : decode cL_law 254 = .ok (.iload 4, 2) := by decide +kernel
theorem dL_law_256 : decode cL_law 256 = .ok (.iconst 1, 1) := by decide +kernel
theorem dL_law_257 : decode cL_law 257 = .ok (.iadd, 1) := by decide +kernel
theorem dL_law_258 : decode cL_law 258 = .ok (.iaload, 1) := by decide +kernel
theorem dL_law_259 : decode cL_law 259 = .ok (.invokevirtual 73, 3) := by decide +kernel
theorem tw_1111 : (.code yX13_end cX13_end 2 (some .boolean) : Cond) ∈ tw_W := tw_in (t8_9 (List.mem_of_getElem? (i := 40) rfl)) rfl
theorem tw_1112 : ∀ w ∈ ([.methodLink RL 73 yX13_end, .instanceMethod yX13_end, .selects RX13 yX13_end yX13_end, .initialized RX13] : List Cond), w ∈ tw_W := al_c (tw_in (t8_9 (List.mem_of_getElem? (i := 37) rfl)) rfl) (al_c (tw_in (t8_9 (List.mem_of_getElem? (i := 38) rfl)) rfl) (al_c (tw_in (t8_9 (List.mem_of_getElem? (i := 39) rfl)) rfl) (al_c (tw_in (t8_1 (List.mem_of_getElem? (i := 23) rfl)) rfl) al_n)))
theorem dL_law_262 : decode cL_law 262 = .ok (.pop, 1) := by decide +kernel
theorem dL_law_263 : decode cL_law 263 = .ok (.goto 730, 3) := by decide +kernel
theorem dL_law_266 : decode cL_law 266 = .ok (.aload_n 1, 1) := by decide +kernel
theorem dL_law_267 : decode cL_law 267 = .ok (.invokevirtual 74, 3) := by decide +kernel
theorem tw_1113 : (.codeWith yX11_load cX11_load 2 (some .int) [(30, 41, 44, 99)] : Cond) ∈ tw_W := tw_in (t8_5 (List.mem_of_getElem? (i := 201) rfl)) rfl
theorem tw_1114 : ∀ w ∈ ([.methodLink RL 74 yX11_load, .instanceMethod yX11_load, .selects RX11 yX11_load yX11_load, .initialized RX11] : List Cond), w ∈ tw_W := al_c (tw_in (t8_5 (List.mem_of_getElem? (i := 198) rfl)) rfl) (al_c (tw_in (t8_5 (List.mem_of_getElem? (i := 199) rfl)) rfl) (al_c (tw_in (t8_5 (List.mem_of_getElem? (i := 200) rfl)) rfl) (al_c (tw_in (t8_1 (List.mem_of_getElem? (i := 1) rfl)) rfl) al_n)))
theorem dL_law_270 : decode cL_law 270 = .ok (.pop, 1) := by decide +kernel
theorem dL_law_271 : decode cL_law 271 = .ok (.aload_n 2, 1) := by decide +kernel
theorem dL_law_272 : decode cL_law 272 = .ok (.invokevirtual 78, 3) := by decide +kernel
theorem tw_1115 : (.codeWith yX13_load cX13_load 2 (some .int) [(60, 68, 71, 513)] : Cond) ∈ tw_W := tw_in (t8_12 (List.mem_of_getElem? (i := 53) rfl)) rfl
theorem tw_1116 : ∀ w ∈ ([.methodLink RL 78 yX13_load, .instanceMethod yX13_load, .selects RX13 yX13_load yX13_load, .initialized RX13] : List Cond), w ∈ tw_W := al_c (tw_in (t8_12 (List.mem_of_getElem? (i := 50) rfl)) rfl) (al_c (tw_in (t8_12 (List.mem_of_getElem? (i := 51) rfl)) rfl) (al_c (tw_in (t8_12 (List.mem_of_getElem? (i := 52) rfl)) rfl) (al_c (tw_in (t8_1 (List.mem_of_getElem? (i := 23) rfl)) rfl) al_n)))
theorem dL_law_275 : decode cL_law 275 = .ok (.pop, 1) := by decide +kernel
theorem dL_law_276 : decode cL_law 276 = .ok (.goto 717, 3) := by decide +kernel
theorem dL_law_279 : decode cL_law 279 = .ok (.aload_n 1, 1) := by decide +kernel
theorem dL_law_280 : decode cL_law 280 = .ok (.aload_n 0, 1) := by decide +kernel
theorem dL_law_281 : decode cL_law 281 = .ok (.iload 4, 2) := by decide +kernel
theorem dL_law_283 : decode cL_law 283 = .ok (.iconst 1, 1) := by decide +kernel
theorem dL_law_284 : decode cL_law 284 = .ok (.iadd, 1) := by decide +kernel
theorem dL_law_285 : decode cL_law 285 = .ok (.iaload, 1) := by decide +kernel
theorem dL_law_286 : decode cL_law 286 = .ok (.invokevirtual 79, 3) := by decide +kernel
theorem tw_1117 : (.code yX11_fault cX11_fault 2 (some .int) : Cond) ∈ tw_W := tw_in (t8_5 (List.mem_of_getElem? (i := 217) rfl)) rfl
theorem tw_1118 : ∀ w ∈ ([.methodLink RL 79 yX11_fault, .instanceMethod yX11_fault, .selects RX11 yX11_fault yX11_fault, .initialized RX11] : List Cond), w ∈ tw_W := al_c (tw_in (t8_5 (List.mem_of_getElem? (i := 214) rfl)) rfl) (al_c (tw_in (t8_5 (List.mem_of_getElem? (i := 215) rfl)) rfl) (al_c (tw_in (t8_5 (List.mem_of_getElem? (i := 216) rfl)) rfl) (al_c (tw_in (t8_1 (List.mem_of_getElem? (i := 1) rfl)) rfl) al_n)))
theorem dL_law_289 : decode cL_law 289 = .ok (.pop, 1) := by decide +kernel
theorem dL_law_290 : decode cL_law 290 = .ok (.aload_n 2, 1) := by decide +kernel
theorem dL_law_291 : decode cL_law 291 = .ok (.aload_n 0, 1) := by decide +kernel
theorem dL_law_292 : decode cL_law 292 = .ok (.iload 4, 2) := by decide +kernel
theorem dL_law_294 : decode cL_law 294 = .ok (.iconst 1, 1) := by decide +kernel
theorem dL_law_295 : decode cL_law 295 = .ok (.iadd, 1) := by decide +kernel
theorem dL_law_296 : decode cL_law 296 = .ok (.iaload, 1) := by decide +kernel
theorem dL_law_297 : decode cL_law 297 = .ok (.invokevirtual 82, 3) := by decide +kernel
theorem tw_1119 : (.code yX13_fault cX13_fault 2 (some .int) : Cond) ∈ tw_W := tw_in (t8_12 (List.mem_of_getElem? (i := 57) rfl)) rfl
theorem tw_1120 : ∀ w ∈ ([.methodLink RL 82 yX13_fault, .instanceMethod yX13_fault, .selects RX13 yX13_fault yX13_fault, .initialized RX13] : List Cond), w ∈ tw_W := al_c (tw_in (t8_12 (List.mem_of_getElem? (i := 54) rfl)) rfl) (al_c (tw_in (t8_12 (List.mem_of_getElem? (i := 55) rfl)) rfl) (al_c (tw_in (t8_12 (List.mem_of_getElem? (i := 56) rfl)) rfl) (al_c (tw_in (t8_1 (List.mem_of_getElem? (i := 23) rfl)) rfl) al_n)))
theorem dL_law_300 : decode cL_law 300 = .ok (.pop, 1) := by decide +kernel
theorem dL_law_301 : decode cL_law 301 = .ok (.goto 692, 3) := by decide +kernel
theorem dL_law_304 : decode cL_law 304 = .ok (.aload_n 1, 1) := by decide +kernel
theorem dL_law_305 : decode cL_law 305 = .ok (.aload_n 0, 1) := by decide +kernel
theorem dL_law_306 : decode cL_law 306 = .ok (.iload 4, 2) := by decide +kernel
theorem dL_law_308 : decode cL_law 308 = .ok (.iconst 1, 1) := by decide +kernel
theorem dL_law_309 : decode cL_law 309 = .ok (.iadd, 1) := by decide +kernel
theorem dL_law_310 : decode cL_law 310 = .ok (.iaload, 1) := by decide +kernel
theorem dL_law_311 : decode cL_law 311 = .ok (.aload_n 3, 1) := by decide +kernel
theorem dL_law_312 : decode cL_law 312 = .ok (.invokestatic 83, 3) := by decide +kernel
theorem tw_1121 : (.codeWith yL_code cL_code 4 (some .int) [(0, 9, 12, 13)] : Cond) ∈ tw_W := tw_in (t8_8 (List.mem_of_getElem? (i := 29) rfl)) rfl
theorem tw_1122 : ∀ w ∈ ([.methodLink RL 83 yL_code, .static yL_code, .initialized yL_code.cls] : List Cond), w ∈ tw_W := al_c (tw_in (t8_8 (List.mem_of_getElem? (i := 27) rfl)) rfl) (al_c (tw_in (t8_8 (List.mem_of_getElem? (i := 28) rfl)) rfl) (al_c (tw_in (t8_1 (List.mem_of_getElem? (i := 0) rfl)) rfl) al_n))
theorem dL_law_315 : decode cL_law 315 = .ok (.istore 5, 2) := by decide +kernel
theorem dL_law_317 : decode cL_law 317 = .ok (.aload_n 2, 1) := by decide +kernel
theorem dL_law_318 : decode cL_law 318 = .ok (.aload_n 0, 1) := by decide +kernel
theorem dL_law_319 : decode cL_law 319 = .ok (.iload 4, 2) := by decide +kernel
theorem dL_law_321 : decode cL_law 321 = .ok (.iconst 1, 1) := by decide +kernel
theorem dL_law_322 : decode cL_law 322 = .ok (.iadd, 1) := by decide +kernel
theorem dL_law_323 : decode cL_law 323 = .ok (.iaload, 1) := by decide +kernel
theorem dL_law_324 : decode cL_law 324 = .ok (.invokevirtual 86, 3) := by decide +kernel
theorem tw_1123 : (.code yX13_code cX13_code 2 (some .int) : Cond) ∈ tw_W := tw_in (t8_12 (List.mem_of_getElem? (i := 61) rfl)) rfl
theorem tw_1124 : ∀ w ∈ ([.methodLink RL 86 yX13_code, .instanceMethod yX13_code, .selects RX13 yX13_code yX13_code, .initialized RX13] : List Cond), w ∈ tw_W := al_c (tw_in (t8_12 (List.mem_of_getElem? (i := 58) rfl)) rfl) (al_c (tw_in (t8_12 (List.mem_of_getElem? (i := 59) rfl)) rfl) (al_c (tw_in (t8_12 (List.mem_of_getElem? (i := 60) rfl)) rfl) (al_c (tw_in (t8_1 (List.mem_of_getElem? (i := 23) rfl)) rfl) al_n)))
theorem dL_law_327 : decode cL_law 327 = .ok (.istore 6, 2) := by decide +kernel
theorem dL_law_329 : decode cL_law 329 = .ok (.aload_n 2, 1) := by decide +kernel
theorem dL_law_330 : decode cL_law 330 = .ok (.invokevirtual 87, 3) := by decide +kernel
theorem tw_1125 : (.code yX13_thrown cX13_thrown 1 (some .int) : Cond) ∈ tw_W := tw_in (t8_9 (List.mem_of_getElem? (i := 27) rfl)) rfl
theorem tw_1126 : ∀ w ∈ ([.methodLink RL 87 yX13_thrown, .instanceMethod yX13_thrown, .selects RX13 yX13_thrown yX13_thrown, .initialized RX13] : List Cond), w ∈ tw_W := al_c (tw_in (t8_9 (List.mem_of_getElem? (i := 24) rfl)) rfl) (al_c (tw_in (t8_9 (List.mem_of_getElem? (i := 25) rfl)) rfl) (al_c (tw_in (t8_9 (List.mem_of_getElem? (i := 26) rfl)) rfl) (al_c (tw_in (t8_1 (List.mem_of_getElem? (i := 23) rfl)) rfl) al_n)))
theorem dL_law_333 : decode cL_law 333 = .ok (.iload 5, 2) := by decide +kernel
theorem dL_law_335 : decode cL_law 335 = .ok (.if_icmp .eq 5, 3) := by decide +kernel
theorem dL_law_340 : decode cL_law 340 = .ok (.iload 5, 2) := by decide +kernel
theorem dL_law_342 : decode cL_law 342 = .ok (.ifCond .ne 15, 3) := by decide +kernel
theorem dL_law_357 : decode cL_law 357 = .ok (.goto 636, 3) := by decide +kernel
theorem dL_law_345 : decode cL_law 345 = .ok (.aload_n 3, 1) := by decide +kernel
theorem dL_law_346 : decode cL_law 346 = .ok (.iconst 0, 1) := by decide +kernel
theorem dL_law_347 : decode cL_law 347 = .ok (.laload, 1) := by decide +kernel
theorem dL_law_348 : decode cL_law 348 = .ok (.iload 6, 2) := by decide +kernel
theorem dL_law_350 : decode cL_law 350 = .ok (.i2l, 1) := by decide +kernel
theorem dL_law_351 : decode cL_law 351 = .ok (.lcmp, 1) := by decide +kernel
theorem dL_law_352 : decode cL_law 352 = .ok (.ifCond .eq 5, 3) := by decide +kernel
theorem dL_law_360 : decode cL_law 360 = .ok (.aload_n 1, 1) := by decide +kernel
theorem dL_law_361 : decode cL_law 361 = .ok (.aload_n 0, 1) := by decide +kernel
theorem dL_law_362 : decode cL_law 362 = .ok (.iload 4, 2) := by decide +kernel
theorem dL_law_364 : decode cL_law 364 = .ok (.iconst 1, 1) := by decide +kernel
theorem dL_law_365 : decode cL_law 365 = .ok (.iadd, 1) := by decide +kernel
theorem dL_law_366 : decode cL_law 366 = .ok (.iaload, 1) := by decide +kernel
theorem dL_law_367 : decode cL_law 367 = .ok (.aload_n 0, 1) := by decide +kernel
theorem dL_law_368 : decode cL_law 368 = .ok (.iload 4, 2) := by decide +kernel
theorem dL_law_370 : decode cL_law 370 = .ok (.iconst 2, 1) := by decide +kernel
theorem dL_law_371 : decode cL_law 371 = .ok (.iadd, 1) := by decide +kernel
theorem dL_law_372 : decode cL_law 372 = .ok (.iaload, 1) := by decide +kernel
theorem dL_law_373 : decode cL_law 373 = .ok (.invokevirtual 90, 3) := by decide +kernel
theorem tw_1127 : (.code yX11_function cX11_function 3 (some .int) : Cond) ∈ tw_W := tw_in (t8_5 (List.mem_of_getElem? (i := 221) rfl)) rfl
theorem tw_1128 : ∀ w ∈ ([.methodLink RL 90 yX11_function, .instanceMethod yX11_function, .selects RX11 yX11_function yX11_function, .initialized RX11] : List Cond), w ∈ tw_W := al_c (tw_in (t8_5 (List.mem_of_getElem? (i := 218) rfl)) rfl) (al_c (tw_in (t8_5 (List.mem_of_getElem? (i := 219) rfl)) rfl) (al_c (tw_in (t8_5 (List.mem_of_getElem? (i := 220) rfl)) rfl) (al_c (tw_in (t8_1 (List.mem_of_getElem? (i := 1) rfl)) rfl) al_n)))
theorem dL_law_376 : decode cL_law 376 = .ok (.pop, 1) := by decide +kernel
theorem dL_law_377 : decode cL_law 377 = .ok (.aload_n 2, 1) := by decide +kernel
theorem dL_law_378 : decode cL_law 378 = .ok (.aload_n 0, 1) := by decide +kernel
theorem dL_law_379 : decode cL_law 379 = .ok (.iload 4, 2) := by decide +kernel
theorem dL_law_381 : decode cL_law 381 = .ok (.iconst 1, 1) := by decide +kernel
theorem dL_law_382 : decode cL_law 382 = .ok (.iadd, 1) := by decide +kernel
theorem dL_law_383 : decode cL_law 383 = .ok (.iaload, 1) := by decide +kernel
theorem dL_law_384 : decode cL_law 384 = .ok (.aload_n 0, 1) := by decide +kernel
theorem dL_law_385 : decode cL_law 385 = .ok (.iload 4, 2) := by decide +kernel
theorem dL_law_387 : decode cL_law 387 = .ok (.iconst 2, 1) := by decide +kernel
theorem dL_law_388 : decode cL_law 388 = .ok (.iadd, 1) := by decide +kernel
theorem dL_law_389 : decode cL_law 389 = .ok (.iaload, 1) := by decide +kernel
theorem dL_law_390 : decode cL_law 390 = .ok (.invokevirtual 93, 3) := by decide +kernel
theorem tw_1129 : (.code yX13_function cX13_function 3 (some .int) : Cond) ∈ tw_W := tw_in (t8_12 (List.mem_of_getElem? (i := 65) rfl)) rfl
theorem tw_1130 : ∀ w ∈ ([.methodLink RL 93 yX13_function, .instanceMethod yX13_function, .selects RX13 yX13_function yX13_function, .initialized RX13] : List Cond), w ∈ tw_W := al_c (tw_in (t8_12 (List.mem_of_getElem? (i := 62) rfl)) rfl) (al_c (tw_in (t8_12 (List.mem_of_getElem? (i := 63) rfl)) rfl) (al_c (tw_in (t8_12 (List.mem_of_getElem? (i := 64) rfl)) rfl) (al_c (tw_in (t8_1 (List.mem_of_getElem? (i := 23) rfl)) rfl) al_n)))
theorem dL_law_393 : decode cL_law 393 = .ok (.pop, 1) := by decide +kernel
theorem dL_law_394 : decode cL_law 394 = .ok (.goto 599, 3) := by decide +kernel
theorem dL_law_397 : decode cL_law 397 = .ok (.aload_n 1, 1) := by decide +kernel
theorem dL_law_398 : decode cL_law 398 = .ok (.aload_n 0, 1) := by decide +kernel
theorem dL_law_399 : decode cL_law 399 = .ok (.iload 4, 2) := by decide +kernel
theorem dL_law_401 : decode cL_law 401 = .ok (.iconst 1, 1) := by decide +kernel
theorem dL_law_402 : decode cL_law 402 = .ok (.iadd, 1) := by decide +kernel
theorem dL_law_403 : decode cL_law 403 = .ok (.iaload, 1) := by decide +kernel
theorem dL_law_404 : decode cL_law 404 = .ok (.aload_n 0, 1) := by decide +kernel
theorem dL_law_405 : decode cL_law 405 = .ok (.iload 4, 2) := by decide +kernel
theorem dL_law_407 : decode cL_law 407 = .ok (.iconst 2, 1) := by decide +kernel
theorem dL_law_408 : decode cL_law 408 = .ok (.iadd, 1) := by decide +kernel
theorem dL_law_409 : decode cL_law 409 = .ok (.iaload, 1) := by decide +kernel
theorem dL_law_410 : decode cL_law 410 = .ok (.invokevirtual 94, 3) := by decide +kernel
theorem tw_1131 : (.code yX11_global cX11_global 3 (some .int) : Cond) ∈ tw_W := tw_in (t8_5 (List.mem_of_getElem? (i := 226) rfl)) rfl
theorem tw_1132 : ∀ w ∈ ([.methodLink RL 94 yX11_global, .instanceMethod yX11_global, .selects RX11 yX11_global yX11_global, .initialized RX11] : List Cond), w ∈ tw_W := al_c (tw_in (t8_5 (List.mem_of_getElem? (i := 223) rfl)) rfl) (al_c (tw_in (t8_5 (List.mem_of_getElem? (i := 224) rfl)) rfl) (al_c (tw_in (t8_5 (List.mem_of_getElem? (i := 225) rfl)) rfl) (al_c (tw_in (t8_1 (List.mem_of_getElem? (i := 1) rfl)) rfl) al_n)))
theorem dL_law_413 : decode cL_law 413 = .ok (.pop, 1) := by decide +kernel
theorem dL_law_414 : decode cL_law 414 = .ok (.aload_n 2, 1) := by decide +kernel
theorem dL_law_415 : decode cL_law 415 = .ok (.aload_n 0, 1) := by decide +kernel
theorem dL_law_416 : decode cL_law 416 = .ok (.iload 4, 2) := by decide +kernel
theorem dL_law_418 : decode cL_law 418 = .ok (.iconst 1, 1) := by decide +kernel
theorem dL_law_419 : decode cL_law 419 = .ok (.iadd, 1) := by decide +kernel
theorem dL_law_420 : decode cL_law 420 = .ok (.iaload, 1) := by decide +kernel
theorem dL_law_421 : decode cL_law 421 = .ok (.aload_n 0, 1) := by decide +kernel
theorem dL_law_422 : decode cL_law 422 = .ok (.iload 4, 2) := by decide +kernel
theorem dL_law_424 : decode cL_law 424 = .ok (.iconst 2, 1) := by decide +kernel
theorem dL_law_425 : decode cL_law 425 = .ok (.iadd, 1) := by decide +kernel
theorem dL_law_426 : decode cL_law 426 = .ok (.iaload, 1) := by decide +kernel
theorem dL_law_427 : decode cL_law 427 = .ok (.invokevirtual 97, 3) := by decide +kernel
theorem tw_1133 : (.code yX13_global cX13_global 3 (some .int) : Cond) ∈ tw_W := tw_in (t8_12 (List.mem_of_getElem? (i := 69) rfl)) rfl
theorem tw_1134 : ∀ w ∈ ([.methodLink RL 97 yX13_global, .instanceMethod yX13_global, .selects RX13 yX13_global yX13_global, .initialized RX13] : List Cond), w ∈ tw_W := al_c (tw_in (t8_12 (List.mem_of_getElem? (i := 66) rfl)) rfl) (al_c (tw_in (t8_12 (List.mem_of_getElem? (i := 67) rfl)) rfl) (al_c (tw_in (t8_12 (List.mem_of_getElem? (i := 68) rfl)) rfl) (al_c (tw_in (t8_1 (List.mem_of_getElem? (i := 23) rfl)) rfl) al_n)))
theorem dL_law_430 : decode cL_law 430 = .ok (.pop, 1) := by decide +kernel
theorem dL_law_431 : decode cL_law 431 = .ok (.goto 562, 3) := by decide +kernel
theorem dL_law_434 : decode cL_law 434 = .ok (.aload_n 1, 1) := by decide +kernel
theorem dL_law_435 : decode cL_law 435 = .ok (.aload_n 0, 1) := by decide +kernel
theorem dL_law_436 : decode cL_law 436 = .ok (.iload 4, 2) := by decide +kernel
theorem dL_law_438 : decode cL_law 438 = .ok (.iconst 1, 1) := by decide +kernel
theorem dL_law_439 : decode cL_law 439 = .ok (.iadd, 1) := by decide +kernel
theorem dL_law_440 : decode cL_law 440 = .ok (.iaload, 1) := by decide +kernel
theorem dL_law_441 : decode cL_law 441 = .ok (.aload_n 3, 1) := by decide +kernel
theorem dL_law_442 : decode cL_law 442 = .ok (.invokestatic 98, 3) := by decide +kernel
theorem tw_1135 : (.codeWith yL_find cL_find 4 (some .int) [(0, 9, 12, 18)] : Cond) ∈ tw_W := tw_in (t8_8 (List.mem_of_getElem? (i := 51) rfl)) rfl
theorem tw_1136 : ∀ w ∈ ([.methodLink RL 98 yL_find, .static yL_find, .initialized yL_find.cls] : List Cond), w ∈ tw_W := al_c (tw_in (t8_8 (List.mem_of_getElem? (i := 49) rfl)) rfl) (al_c (tw_in (t8_8 (List.mem_of_getElem? (i := 50) rfl)) rfl) (al_c (tw_in (t8_1 (List.mem_of_getElem? (i := 0) rfl)) rfl) al_n))
theorem dL_law_445 : decode cL_law 445 = .ok (.istore 5, 2) := by decide +kernel
theorem dL_law_447 : decode cL_law 447 = .ok (.aload_n 2, 1) := by decide +kernel
theorem dL_law_448 : decode cL_law 448 = .ok (.aload_n 0, 1) := by decide +kernel
theorem dL_law_449 : decode cL_law 449 = .ok (.iload 4, 2) := by decide +kernel
theorem dL_law_451 : decode cL_law 451 = .ok (.iconst 1, 1) := by decide +kernel
theorem dL_law_452 : decode cL_law 452 = .ok (.iadd, 1) := by decide +kernel
theorem dL_law_453 : decode cL_law 453 = .ok (.iaload, 1) := by decide +kernel
theorem dL_law_454 : decode cL_law 454 = .ok (.invokevirtual 100, 3) := by decide +kernel
theorem tw_1137 : (.code yX13_find cX13_find 3 (some .int) : Cond) ∈ tw_W := tw_in (t8_12 (List.mem_of_getElem? (i := 73) rfl)) rfl
theorem tw_1138 : ∀ w ∈ ([.methodLink RL 100 yX13_find, .instanceMethod yX13_find, .selects RX13 yX13_find yX13_find, .initialized RX13] : List Cond), w ∈ tw_W := al_c (tw_in (t8_12 (List.mem_of_getElem? (i := 70) rfl)) rfl) (al_c (tw_in (t8_12 (List.mem_of_getElem? (i := 71) rfl)) rfl) (al_c (tw_in (t8_12 (List.mem_of_getElem? (i := 72) rfl)) rfl) (al_c (tw_in (t8_1 (List.mem_of_getElem? (i := 23) rfl)) rfl) al_n)))
theorem dL_law_457 : decode cL_law 457 = .ok (.istore 6, 2) := by decide +kernel
theorem dL_law_459 : decode cL_law 459 = .ok (.goto 534, 3) := by decide +kernel
theorem dL_law_462 : decode cL_law 462 = .ok (.aload_n 1, 1) := by decide +kernel
theorem dL_law_463 : decode cL_law 463 = .ok (.aload_n 0, 1) := by decide +kernel
theorem dL_law_464 : decode cL_law 464 = .ok (.iload 4, 2) := by decide +kernel
theorem dL_law_466 : decode cL_law 466 = .ok (.iconst 1, 1) := by decide +kernel
theorem dL_law_467 : decode cL_law 467 = .ok (.iadd, 1) := by decide +kernel
theorem dL_law_468 : decode cL_law 468 = .ok (.iaload, 1) := by decide +kernel
theorem dL_law_469 : decode cL_law 469 = .ok (.invokevirtual 101, 3) := by decide +kernel
theorem tw_1139 : (.code yX11_give cX11_give 2 (some .int) : Cond) ∈ tw_W := tw_in (t8_5 (List.mem_of_getElem? (i := 231) rfl)) rfl
theorem tw_1140 : ∀ w ∈ ([.methodLink RL 101 yX11_give, .instanceMethod yX11_give, .selects RX11 yX11_give yX11_give, .initialized RX11] : List Cond), w ∈ tw_W := al_c (tw_in (t8_5 (List.mem_of_getElem? (i := 228) rfl)) rfl) (al_c (tw_in (t8_5 (List.mem_of_getElem? (i := 229) rfl)) rfl) (al_c (tw_in (t8_5 (List.mem_of_getElem? (i := 230) rfl)) rfl) (al_c (tw_in (t8_1 (List.mem_of_getElem? (i := 1) rfl)) rfl) al_n)))
theorem dL_law_472 : decode cL_law 472 = .ok (.pop, 1) := by decide +kernel
theorem dL_law_473 : decode cL_law 473 = .ok (.aload_n 2, 1) := by decide +kernel
theorem dL_law_474 : decode cL_law 474 = .ok (.aload_n 0, 1) := by decide +kernel
theorem dL_law_475 : decode cL_law 475 = .ok (.iload 4, 2) := by decide +kernel
theorem dL_law_477 : decode cL_law 477 = .ok (.iconst 1, 1) := by decide +kernel
theorem dL_law_478 : decode cL_law 478 = .ok (.iadd, 1) := by decide +kernel
theorem dL_law_479 : decode cL_law 479 = .ok (.iaload, 1) := by decide +kernel
theorem dL_law_480 : decode cL_law 480 = .ok (.invokevirtual 104, 3) := by decide +kernel
theorem tw_1141 : (.code yX13_give cX13_give 2 (some .int) : Cond) ∈ tw_W := tw_in (t8_12 (List.mem_of_getElem? (i := 81) rfl)) rfl
theorem tw_1142 : ∀ w ∈ ([.methodLink RL 104 yX13_give, .instanceMethod yX13_give, .selects RX13 yX13_give yX13_give, .initialized RX13] : List Cond), w ∈ tw_W := al_c (tw_in (t8_12 (List.mem_of_getElem? (i := 78) rfl)) rfl) (al_c (tw_in (t8_12 (List.mem_of_getElem? (i := 79) rfl)) rfl) (al_c (tw_in (t8_12 (List.mem_of_getElem? (i := 80) rfl)) rfl) (al_c (tw_in (t8_1 (List.mem_of_getElem? (i := 23) rfl)) rfl) al_n)))
theorem dL_law_483 : decode cL_law 483 = .ok (.pop, 1) := by decide +kernel
theorem dL_law_484 : decode cL_law 484 = .ok (.goto 509, 3) := by decide +kernel
theorem dL_law_487 : decode cL_law 487 = .ok (.aload_n 1, 1) := by decide +kernel
theorem dL_law_488 : decode cL_law 488 = .ok (.invokevirtual 105, 3) := by decide +kernel
theorem tw_1143 : (.code yX11_forget cX11_forget 1 (some .int) : Cond) ∈ tw_W := tw_in (t8_5 (List.mem_of_getElem? (i := 239) rfl)) rfl
theorem tw_1144 : ∀ w ∈ ([.methodLink RL 105 yX11_forget, .instanceMethod yX11_forget, .selects RX11 yX11_forget yX11_forget, .initialized RX11] : List Cond), w ∈ tw_W := al_c (tw_in (t8_5 (List.mem_of_getElem? (i := 236) rfl)) rfl) (al_c (tw_in (t8_5 (List.mem_of_getElem? (i := 237) rfl)) rfl) (al_c (tw_in (t8_5 (List.mem_of_getElem? (i := 238) rfl)) rfl) (al_c (tw_in (t8_1 (List.mem_of_getElem? (i := 1) rfl)) rfl) al_n)))
theorem dL_law_491 : decode cL_law 491 = .ok (.pop, 1) := by decide +kernel
theorem dL_law_492 : decode cL_law 492 = .ok (.aload_n 2, 1) := by decide +kernel
theorem dL_law_493 : decode cL_law 493 = .ok (.invokevirtual 108, 3) := by decide +kernel
theorem tw_1145 : (.code yX13_forget cX13_forget 2 (some .int) : Cond) ∈ tw_W := tw_in (t8_12 (List.mem_of_getElem? (i := 85) rfl)) rfl
theorem tw_1146 : ∀ w ∈ ([.methodLink RL 108 yX13_forget, .instanceMethod yX13_forget, .selects RX13 yX13_forget yX13_forget, .initialized RX13] : List Cond), w ∈ tw_W := al_c (tw_in (t8_12 (List.mem_of_getElem? (i := 82) rfl)) rfl) (al_c (tw_in (t8_12 (List.mem_of_getElem? (i := 83) rfl)) rfl) (al_c (tw_in (t8_12 (List.mem_of_getElem? (i := 84) rfl)) rfl) (al_c (tw_in (t8_1 (List.mem_of_getElem? (i := 23) rfl)) rfl) al_n)))
theorem dL_law_496 : decode cL_law 496 = .ok (.pop, 1) := by decide +kernel
theorem dL_law_497 : decode cL_law 497 = .ok (.goto 496, 3) := by decide +kernel
theorem dL_law_500 : decode cL_law 500 = .ok (.aload_n 1, 1) := by decide +kernel
theorem dL_law_501 : decode cL_law 501 = .ok (.aload_n 0, 1) := by decide +kernel
theorem dL_law_502 : decode cL_law 502 = .ok (.iload 4, 2) := by decide +kernel
theorem dL_law_504 : decode cL_law 504 = .ok (.iconst 1, 1) := by decide +kernel
theorem dL_law_505 : decode cL_law 505 = .ok (.iadd, 1) := by decide +kernel
theorem dL_law_506 : decode cL_law 506 = .ok (.iaload, 1) := by decide +kernel
theorem dL_law_507 : decode cL_law 507 = .ok (.aload_n 0, 1) := by decide +kernel
theorem dL_law_508 : decode cL_law 508 = .ok (.iload 4, 2) := by decide +kernel
theorem dL_law_510 : decode cL_law 510 = .ok (.iconst 2, 1) := by decide +kernel
theorem dL_law_511 : decode cL_law 511 = .ok (.iadd, 1) := by decide +kernel
theorem dL_law_512 : decode cL_law 512 = .ok (.iaload, 1) := by decide +kernel
theorem dL_law_513 : decode cL_law 513 = .ok (.aload_n 0, 1) := by decide +kernel
theorem dL_law_514 : decode cL_law 514 = .ok (.iload 4, 2) := by decide +kernel
theorem dL_law_516 : decode cL_law 516 = .ok (.iconst 3, 1) := by decide +kernel
theorem dL_law_517 : decode cL_law 517 = .ok (.iadd, 1) := by decide +kernel
theorem dL_law_518 : decode cL_law 518 = .ok (.iaload, 1) := by decide +kernel
theorem dL_law_519 : decode cL_law 519 = .ok (.invokevirtual 109, 3) := by decide +kernel
theorem tw_1147 : (.code yX11_start cX11_start 5 (some .boolean) : Cond) ∈ tw_W := tw_in (t8_6 (List.mem_of_getElem? (i := 7) rfl)) rfl
theorem tw_1148 : ∀ w ∈ ([.methodLink RL 109 yX11_start, .instanceMethod yX11_start, .selects RX11 yX11_start yX11_start, .initialized RX11] : List Cond), w ∈ tw_W := al_c (tw_in (t8_6 (List.mem_of_getElem? (i := 4) rfl)) rfl) (al_c (tw_in (t8_6 (List.mem_of_getElem? (i := 5) rfl)) rfl) (al_c (tw_in (t8_6 (List.mem_of_getElem? (i := 6) rfl)) rfl) (al_c (tw_in (t8_1 (List.mem_of_getElem? (i := 1) rfl)) rfl) al_n)))
theorem dL_law_522 : decode cL_law 522 = .ok (.pop, 1) := by decide +kernel
theorem dL_law_523 : decode cL_law 523 = .ok (.aload_n 2, 1) := by decide +kernel
theorem dL_law_524 : decode cL_law 524 = .ok (.aload_n 0, 1) := by decide +kernel
theorem dL_law_525 : decode cL_law 525 = .ok (.iload 4, 2) := by decide +kernel
theorem dL_law_527 : decode cL_law 527 = .ok (.iconst 1, 1) := by decide +kernel
theorem dL_law_528 : decode cL_law 528 = .ok (.iadd, 1) := by decide +kernel
theorem dL_law_529 : decode cL_law 529 = .ok (.iaload, 1) := by decide +kernel
theorem dL_law_530 : decode cL_law 530 = .ok (.aload_n 0, 1) := by decide +kernel
theorem dL_law_531 : decode cL_law 531 = .ok (.iload 4, 2) := by decide +kernel
theorem dL_law_533 : decode cL_law 533 = .ok (.iconst 2, 1) := by decide +kernel
theorem dL_law_534 : decode cL_law 534 = .ok (.iadd, 1) := by decide +kernel
theorem dL_law_535 : decode cL_law 535 = .ok (.iaload, 1) := by decide +kernel
theorem dL_law_536 : decode cL_law 536 = .ok (.aload_n 0, 1) := by decide +kernel
theorem dL_law_537 : decode cL_law 537 = .ok (.iload 4, 2) := by decide +kernel
theorem dL_law_539 : decode cL_law 539 = .ok (.iconst 3, 1) := by decide +kernel
theorem dL_law_540 : decode cL_law 540 = .ok (.iadd, 1) := by decide +kernel
theorem dL_law_541 : decode cL_law 541 = .ok (.iaload, 1) := by decide +kernel
theorem dL_law_542 : decode cL_law 542 = .ok (.invokevirtual 113, 3) := by decide +kernel
theorem tw_1149 : (.code yX13_start cX13_start 6 (some .boolean) : Cond) ∈ tw_W := tw_in (t8_12 (List.mem_of_getElem? (i := 89) rfl)) rfl
theorem tw_1150 : ∀ w ∈ ([.methodLink RL 113 yX13_start, .instanceMethod yX13_start, .selects RX13 yX13_start yX13_start, .initialized RX13] : List Cond), w ∈ tw_W := al_c (tw_in (t8_12 (List.mem_of_getElem? (i := 86) rfl)) rfl) (al_c (tw_in (t8_12 (List.mem_of_getElem? (i := 87) rfl)) rfl) (al_c (tw_in (t8_12 (List.mem_of_getElem? (i := 88) rfl)) rfl) (al_c (tw_in (t8_1 (List.mem_of_getElem? (i := 23) rfl)) rfl) al_n)))
theorem dL_law_545 : decode cL_law 545 = .ok (.pop, 1) := by decide +kernel
theorem dL_law_546 : decode cL_law 546 = .ok (.goto 447, 3) := by decide +kernel
theorem dL_law_549 : decode cL_law 549 = .ok (.aload_n 1, 1) := by decide +kernel
theorem dL_law_550 : decode cL_law 550 = .ok (.invokevirtual 114, 3) := by decide +kernel
theorem tw_1151 : (.code yX11_step cX11_step 1 (some .int) : Cond) ∈ tw_W := tw_in (t8_6 (List.mem_of_getElem? (i := 34) rfl)) rfl
theorem tw_1152 : ∀ w ∈ ([.methodLink RL 114 yX11_step, .instanceMethod yX11_step, .selects RX11 yX11_step yX11_step, .initialized RX11] : List Cond), w ∈ tw_W := al_c (tw_in (t8_6 (List.mem_of_getElem? (i := 31) rfl)) rfl) (al_c (tw_in (t8_6 (List.mem_of_getElem? (i := 32) rfl)) rfl) (al_c (tw_in (t8_6 (List.mem_of_getElem? (i := 33) rfl)) rfl) (al_c (tw_in (t8_1 (List.mem_of_getElem? (i := 1) rfl)) rfl) al_n)))
theorem dL_law_553 : decode cL_law 553 = .ok (.pop, 1) := by decide +kernel
theorem dL_law_554 : decode cL_law 554 = .ok (.aload_n 2, 1) := by decide +kernel
theorem dL_law_555 : decode cL_law 555 = .ok (.invokevirtual 117, 3) := by decide +kernel
theorem tw_1153 : (.code yX13_step cX13_step 1 (some .int) : Cond) ∈ tw_W := tw_in (t8_12 (List.mem_of_getElem? (i := 93) rfl)) rfl
theorem tw_1154 : ∀ w ∈ ([.methodLink RL 117 yX13_step, .instanceMethod yX13_step, .selects RX13 yX13_step yX13_step, .initialized RX13] : List Cond), w ∈ tw_W := al_c (tw_in (t8_12 (List.mem_of_getElem? (i := 90) rfl)) rfl) (al_c (tw_in (t8_12 (List.mem_of_getElem? (i := 91) rfl)) rfl) (al_c (tw_in (t8_12 (List.mem_of_getElem? (i := 92) rfl)) rfl) (al_c (tw_in (t8_1 (List.mem_of_getElem? (i := 23) rfl)) rfl) al_n)))
theorem dL_law_558 : decode cL_law 558 = .ok (.pop, 1) := by decide +kernel
theorem dL_law_559 : decode cL_law 559 = .ok (.goto 434, 3) := by decide +kernel
theorem dL_law_562 : decode cL_law 562 = .ok (.aload_n 1, 1) := by decide +kernel
theorem dL_law_563 : decode cL_law 563 = .ok (.aload_n 0, 1) := by decide +kernel
theorem dL_law_564 : decode cL_law 564 = .ok (.iload 4, 2) := by decide +kernel
theorem dL_law_566 : decode cL_law 566 = .ok (.iconst 1, 1) := by decide +kernel
theorem dL_law_567 : decode cL_law 567 = .ok (.iadd, 1) := by decide +kernel
theorem dL_law_568 : decode cL_law 568 = .ok (.iaload, 1) := by decide +kernel
theorem dL_law_569 : decode cL_law 569 = .ok (.aload_n 3, 1) := by decide +kernel
theorem dL_law_570 : decode cL_law 570 = .ok (.invokestatic 118, 3) := by decide +kernel
theorem tw_1155 : (.codeWith yL_run cL_run 4 (some .int) [(0, 9, 12, 18)] : Cond) ∈ tw_W := tw_in (t8_8 (List.mem_of_getElem? (i := 67) rfl)) rfl
theorem tw_1156 : ∀ w ∈ ([.methodLink RL 118 yL_run, .static yL_run, .initialized yL_run.cls] : List Cond), w ∈ tw_W := al_c (tw_in (t8_8 (List.mem_of_getElem? (i := 65) rfl)) rfl) (al_c (tw_in (t8_8 (List.mem_of_getElem? (i := 66) rfl)) rfl) (al_c (tw_in (t8_1 (List.mem_of_getElem? (i := 0) rfl)) rfl) al_n))
theorem dL_law_573 : decode cL_law 573 = .ok (.istore 5, 2) := by decide +kernel
theorem dL_law_575 : decode cL_law 575 = .ok (.aload_n 2, 1) := by decide +kernel
theorem dL_law_576 : decode cL_law 576 = .ok (.aload_n 0, 1) := by decide +kernel
theorem dL_law_577 : decode cL_law 577 = .ok (.iload 4, 2) := by decide +kernel
theorem dL_law_579 : decode cL_law 579 = .ok (.iconst 1, 1) := by decide +kernel
theorem dL_law_580 : decode cL_law 580 = .ok (.iadd, 1) := by decide +kernel
theorem dL_law_581 : decode cL_law 581 = .ok (.iaload, 1) := by decide +kernel
theorem dL_law_582 : decode cL_law 582 = .ok (.invokevirtual 120, 3) := by decide +kernel
theorem tw_1157 : (.code yX13_run cX13_run 3 (some .int) : Cond) ∈ tw_W := tw_in (t8_12 (List.mem_of_getElem? (i := 157) rfl)) rfl
theorem tw_1158 : ∀ w ∈ ([.methodLink RL 120 yX13_run, .instanceMethod yX13_run, .selects RX13 yX13_run yX13_run, .initialized RX13] : List Cond), w ∈ tw_W := al_c (tw_in (t8_12 (List.mem_of_getElem? (i := 154) rfl)) rfl) (al_c (tw_in (t8_12 (List.mem_of_getElem? (i := 155) rfl)) rfl) (al_c (tw_in (t8_12 (List.mem_of_getElem? (i := 156) rfl)) rfl) (al_c (tw_in (t8_1 (List.mem_of_getElem? (i := 23) rfl)) rfl) al_n)))
theorem dL_law_585 : decode cL_law 585 = .ok (.istore 6, 2) := by decide +kernel
theorem dL_law_587 : decode cL_law 587 = .ok (.goto 406, 3) := by decide +kernel
theorem dL_law_590 : decode cL_law 590 = .ok (.aload_n 1, 1) := by decide +kernel
theorem dL_law_591 : decode cL_law 591 = .ok (.invokevirtual 121, 3) := by decide +kernel
theorem tw_1159 : (.code yX11_result cX11_result 1 (some .int) : Cond) ∈ tw_W := tw_in (t8_6 (List.mem_of_getElem? (i := 146) rfl)) rfl
theorem tw_1160 : ∀ w ∈ ([.methodLink RL 121 yX11_result, .instanceMethod yX11_result, .selects RX11 yX11_result yX11_result, .initialized RX11] : List Cond), w ∈ tw_W := al_c (tw_in (t8_6 (List.mem_of_getElem? (i := 143) rfl)) rfl) (al_c (tw_in (t8_6 (List.mem_of_getElem? (i := 144) rfl)) rfl) (al_c (tw_in (t8_6 (List.mem_of_getElem? (i := 145) rfl)) rfl) (al_c (tw_in (t8_1 (List.mem_of_getElem? (i := 1) rfl)) rfl) al_n)))
theorem dL_law_594 : decode cL_law 594 = .ok (.pop, 1) := by decide +kernel
theorem dL_law_595 : decode cL_law 595 = .ok (.aload_n 2, 1) := by decide +kernel
theorem dL_law_596 : decode cL_law 596 = .ok (.invokevirtual 124, 3) := by decide +kernel
theorem tw_1161 : (.code yX13_result cX13_result 1 (some .int) : Cond) ∈ tw_W := tw_in (t8_12 (List.mem_of_getElem? (i := 162) rfl)) rfl
theorem tw_1162 : ∀ w ∈ ([.methodLink RL 124 yX13_result, .instanceMethod yX13_result, .selects RX13 yX13_result yX13_result, .initialized RX13] : List Cond), w ∈ tw_W := al_c (tw_in (t8_12 (List.mem_of_getElem? (i := 159) rfl)) rfl) (al_c (tw_in (t8_12 (List.mem_of_getElem? (i := 160) rfl)) rfl) (al_c (tw_in (t8_12 (List.mem_of_getElem? (i := 161) rfl)) rfl) (al_c (tw_in (t8_1 (List.mem_of_getElem? (i := 23) rfl)) rfl) al_n)))
theorem dL_law_599 : decode cL_law 599 = .ok (.pop, 1) := by decide +kernel
theorem dL_law_600 : decode cL_law 600 = .ok (.goto 393, 3) := by decide +kernel
theorem dL_law_603 : decode cL_law 603 = .ok (.aload_n 1, 1) := by decide +kernel
theorem dL_law_604 : decode cL_law 604 = .ok (.aload_n 0, 1) := by decide +kernel
theorem dL_law_605 : decode cL_law 605 = .ok (.iload 4, 2) := by decide +kernel
theorem dL_law_607 : decode cL_law 607 = .ok (.iconst 1, 1) := by decide +kernel
theorem dL_law_608 : decode cL_law 608 = .ok (.iadd, 1) := by decide +kernel
theorem dL_law_609 : decode cL_law 609 = .ok (.iaload, 1) := by decide +kernel
theorem dL_law_610 : decode cL_law 610 = .ok (.aload_n 3, 1) := by decide +kernel
theorem dL_law_611 : decode cL_law 611 = .ok (.invokestatic 125, 3) := by decide +kernel
theorem tw_1163 : (.codeWith yL_register cL_register 4 (some .int) [(0, 9, 12, 13)] : Cond) ∈ tw_W := tw_in (t8_8 (List.mem_of_getElem? (i := 81) rfl)) rfl
theorem tw_1164 : ∀ w ∈ ([.methodLink RL 125 yL_register, .static yL_register, .initialized yL_register.cls] : List Cond), w ∈ tw_W := al_c (tw_in (t8_8 (List.mem_of_getElem? (i := 79) rfl)) rfl) (al_c (tw_in (t8_8 (List.mem_of_getElem? (i := 80) rfl)) rfl) (al_c (tw_in (t8_1 (List.mem_of_getElem? (i := 0) rfl)) rfl) al_n))
theorem dL_law_614 : decode cL_law 614 = .ok (.istore 5, 2) := by decide +kernel
theorem dL_law_616 : decode cL_law 616 = .ok (.aload_n 2, 1) := by decide +kernel
theorem dL_law_617 : decode cL_law 617 = .ok (.aload_n 0, 1) := by decide +kernel
theorem dL_law_618 : decode cL_law 618 = .ok (.iload 4, 2) := by decide +kernel
theorem dL_law_620 : decode cL_law 620 = .ok (.iconst 1, 1) := by decide +kernel
theorem dL_law_621 : decode cL_law 621 = .ok (.iadd, 1) := by decide +kernel
theorem dL_law_622 : decode cL_law 622 = .ok (.iaload, 1) := by decide +kernel
theorem dL_law_623 : decode cL_law 623 = .ok (.invokevirtual 127, 3) := by decide +kernel
theorem tw_1165 : (.code yX13_register cX13_register 2 (some .int) : Cond) ∈ tw_W := tw_in (t8_12 (List.mem_of_getElem? (i := 166) rfl)) rfl
theorem tw_1166 : ∀ w ∈ ([.methodLink RL 127 yX13_register, .instanceMethod yX13_register, .selects RX13 yX13_register yX13_register, .initialized RX13] : List Cond), w ∈ tw_W := al_c (tw_in (t8_12 (List.mem_of_getElem? (i := 163) rfl)) rfl) (al_c (tw_in (t8_12 (List.mem_of_getElem? (i := 164) rfl)) rfl) (al_c (tw_in (t8_12 (List.mem_of_getElem? (i := 165) rfl)) rfl) (al_c (tw_in (t8_1 (List.mem_of_getElem? (i := 23) rfl)) rfl) al_n)))
theorem dL_law_626 : decode cL_law 626 = .ok (.istore 6, 2) := by decide +kernel
theorem dL_law_628 : decode cL_law 628 = .ok (.goto 365, 3) := by decide +kernel
theorem dL_law_631 : decode cL_law 631 = .ok (.aload_n 1, 1) := by decide +kernel
theorem dL_law_632 : decode cL_law 632 = .ok (.aload_n 0, 1) := by decide +kernel
theorem dL_law_633 : decode cL_law 633 = .ok (.iload 4, 2) := by decide +kernel
theorem dL_law_635 : decode cL_law 635 = .ok (.iconst 1, 1) := by decide +kernel
theorem dL_law_636 : decode cL_law 636 = .ok (.iadd, 1) := by decide +kernel
theorem dL_law_637 : decode cL_law 637 = .ok (.iaload, 1) := by decide +kernel
theorem dL_law_638 : decode cL_law 638 = .ok (.aload_n 0, 1) := by decide +kernel
theorem dL_law_639 : decode cL_law 639 = .ok (.iload 4, 2) := by decide +kernel
theorem dL_law_641 : decode cL_law 641 = .ok (.iconst 2, 1) := by decide +kernel
theorem dL_law_642 : decode cL_law 642 = .ok (.iadd, 1) := by decide +kernel
theorem dL_law_643 : decode cL_law 643 = .ok (.iaload, 1) := by decide +kernel
theorem dL_law_644 : decode cL_law 644 = .ok (.invokestatic 128, 3) := by decide +kernel
theorem tw_1167 : (.codeWith yL_set cL_set 4 (some .int) [(0, 6, 9, 13)] : Cond) ∈ tw_W := tw_in (t8_8 (List.mem_of_getElem? (i := 89) rfl)) rfl
theorem tw_1168 : ∀ w ∈ ([.methodLink RL 128 yL_set, .static yL_set, .initialized yL_set.cls] : List Cond), w ∈ tw_W := al_c (tw_in (t8_8 (List.mem_of_getElem? (i := 87) rfl)) rfl) (al_c (tw_in (t8_8 (List.mem_of_getElem? (i := 88) rfl)) rfl) (al_c (tw_in (t8_1 (List.mem_of_getElem? (i := 0) rfl)) rfl) al_n))
theorem dL_law_647 : decode cL_law 647 = .ok (.istore 5, 2) := by decide +kernel
theorem dL_law_649 : decode cL_law 649 = .ok (.aload_n 2, 1) := by decide +kernel
theorem dL_law_650 : decode cL_law 650 = .ok (.aload_n 0, 1) := by decide +kernel
theorem dL_law_651 : decode cL_law 651 = .ok (.iload 4, 2) := by decide +kernel
theorem dL_law_653 : decode cL_law 653 = .ok (.iconst 1, 1) := by decide +kernel
theorem dL_law_654 : decode cL_law 654 = .ok (.iadd, 1) := by decide +kernel
theorem dL_law_655 : decode cL_law 655 = .ok (.iaload, 1) := by decide +kernel
theorem dL_law_656 : decode cL_law 656 = .ok (.aload_n 0, 1) := by decide +kernel
theorem dL_law_657 : decode cL_law 657 = .ok (.iload 4, 2) := by decide +kernel
theorem dL_law_659 : decode cL_law 659 = .ok (.iconst 2, 1) := by decide +kernel
theorem dL_law_660 : decode cL_law 660 = .ok (.iadd, 1) := by decide +kernel
theorem dL_law_661 : decode cL_law 661 = .ok (.iaload, 1) := by decide +kernel
theorem dL_law_662 : decode cL_law 662 = .ok (.invokevirtual 131, 3) := by decide +kernel
theorem tw_1169 : (.code yX13_set cX13_set 3 none : Cond) ∈ tw_W := tw_in (t8_12 (List.mem_of_getElem? (i := 170) rfl)) rfl
theorem tw_1170 : ∀ w ∈ ([.methodLink RL 131 yX13_set, .instanceMethod yX13_set, .selects RX13 yX13_set yX13_set, .initialized RX13] : List Cond), w ∈ tw_W := al_c (tw_in (t8_12 (List.mem_of_getElem? (i := 167) rfl)) rfl) (al_c (tw_in (t8_12 (List.mem_of_getElem? (i := 168) rfl)) rfl) (al_c (tw_in (t8_12 (List.mem_of_getElem? (i := 169) rfl)) rfl) (al_c (tw_in (t8_1 (List.mem_of_getElem? (i := 23) rfl)) rfl) al_n)))
theorem dL_law_665 : decode cL_law 665 = .ok (.goto 328, 3) := by decide +kernel
theorem dL_law_668 : decode cL_law 668 = .ok (.aload_n 1, 1) := by decide +kernel
theorem dL_law_669 : decode cL_law 669 = .ok (.aload_n 0, 1) := by decide +kernel
theorem dL_law_670 : decode cL_law 670 = .ok (.iload 4, 2) := by decide +kernel
theorem dL_law_672 : decode cL_law 672 = .ok (.iconst 1, 1) := by decide +kernel
theorem dL_law_673 : decode cL_law 673 = .ok (.iadd, 1) := by decide +kernel
theorem dL_law_674 : decode cL_law 674 = .ok (.iaload, 1) := by decide +kernel
theorem dL_law_675 : decode cL_law 675 = .ok (.aload_n 3, 1) := by decide +kernel
theorem dL_law_676 : decode cL_law 676 = .ok (.invokestatic 132, 3) := by decide +kernel
theorem tw_1171 : (.codeWith yL_word cL_word 4 (some .int) [(0, 9, 12, 18), (0, 9, 15, 13)] : Cond) ∈ tw_W := tw_in (t8_8 (List.mem_of_getElem? (i := 100) rfl)) rfl
theorem tw_1172 : ∀ w ∈ ([.methodLink RL 132 yL_word, .static yL_word, .initialized yL_word.cls] : List Cond), w ∈ tw_W := al_c (tw_in (t8_8 (List.mem_of_getElem? (i := 98) rfl)) rfl) (al_c (tw_in (t8_8 (List.mem_of_getElem? (i := 99) rfl)) rfl) (al_c (tw_in (t8_1 (List.mem_of_getElem? (i := 0) rfl)) rfl) al_n))
theorem dL_law_679 : decode cL_law 679 = .ok (.istore 5, 2) := by decide +kernel
theorem dL_law_681 : decode cL_law 681 = .ok (.aload_n 2, 1) := by decide +kernel
theorem dL_law_682 : decode cL_law 682 = .ok (.aload_n 0, 1) := by decide +kernel
theorem dL_law_683 : decode cL_law 683 = .ok (.iload 4, 2) := by decide +kernel
theorem dL_law_685 : decode cL_law 685 = .ok (.iconst 1, 1) := by decide +kernel
theorem dL_law_686 : decode cL_law 686 = .ok (.iadd, 1) := by decide +kernel
theorem dL_law_687 : decode cL_law 687 = .ok (.iaload, 1) := by decide +kernel
theorem dL_law_688 : decode cL_law 688 = .ok (.invokevirtual 134, 3) := by decide +kernel
theorem tw_1173 : (.code yX13_word cX13_word 2 (some .int) : Cond) ∈ tw_W := tw_in (t8_12 (List.mem_of_getElem? (i := 174) rfl)) rfl
theorem tw_1174 : ∀ w ∈ ([.methodLink RL 134 yX13_word, .instanceMethod yX13_word, .selects RX13 yX13_word yX13_word, .initialized RX13] : List Cond), w ∈ tw_W := al_c (tw_in (t8_12 (List.mem_of_getElem? (i := 171) rfl)) rfl) (al_c (tw_in (t8_12 (List.mem_of_getElem? (i := 172) rfl)) rfl) (al_c (tw_in (t8_12 (List.mem_of_getElem? (i := 173) rfl)) rfl) (al_c (tw_in (t8_1 (List.mem_of_getElem? (i := 23) rfl)) rfl) al_n)))
theorem dL_law_691 : decode cL_law 691 = .ok (.istore 6, 2) := by decide +kernel
theorem dL_law_693 : decode cL_law 693 = .ok (.goto 300, 3) := by decide +kernel
theorem dL_law_696 : decode cL_law 696 = .ok (.aload_n 1, 1) := by decide +kernel
theorem dL_law_697 : decode cL_law 697 = .ok (.aload_n 0, 1) := by decide +kernel
theorem dL_law_698 : decode cL_law 698 = .ok (.iload 4, 2) := by decide +kernel
theorem dL_law_700 : decode cL_law 700 = .ok (.iconst 1, 1) := by decide +kernel
theorem dL_law_701 : decode cL_law 701 = .ok (.iadd, 1) := by decide +kernel
theorem dL_law_702 : decode cL_law 702 = .ok (.iaload, 1) := by decide +kernel
theorem dL_law_703 : decode cL_law 703 = .ok (.aload_n 0, 1) := by decide +kernel
theorem dL_law_704 : decode cL_law 704 = .ok (.iload 4, 2) := by decide +kernel
theorem dL_law_706 : decode cL_law 706 = .ok (.iconst 2, 1) := by decide +kernel
theorem dL_law_707 : decode cL_law 707 = .ok (.iadd, 1) := by decide +kernel
theorem dL_law_708 : decode cL_law 708 = .ok (.iaload, 1) := by decide +kernel
theorem dL_law_709 : decode cL_law 709 = .ok (.invokestatic 135, 3) := by decide +kernel
theorem tw_1175 : (.codeWith yL_poke cL_poke 4 (some .int) [(0, 6, 9, 18), (0, 6, 12, 13)] : Cond) ∈ tw_W := tw_in (t8_8 (List.mem_of_getElem? (i := 115) rfl)) rfl
theorem tw_1176 : ∀ w ∈ ([.methodLink RL 135 yL_poke, .static yL_poke, .initialized yL_poke.cls] : List Cond), w ∈ tw_W := al_c (tw_in (t8_8 (List.mem_of_getElem? (i := 113) rfl)) rfl) (al_c (tw_in (t8_8 (List.mem_of_getElem? (i := 114) rfl)) rfl) (al_c (tw_in (t8_1 (List.mem_of_getElem? (i := 0) rfl)) rfl) al_n))
theorem dL_law_712 : decode cL_law 712 = .ok (.istore 5, 2) := by decide +kernel
theorem dL_law_714 : decode cL_law 714 = .ok (.aload_n 2, 1) := by decide +kernel
theorem dL_law_715 : decode cL_law 715 = .ok (.aload_n 0, 1) := by decide +kernel
theorem dL_law_716 : decode cL_law 716 = .ok (.iload 4, 2) := by decide +kernel
theorem dL_law_718 : decode cL_law 718 = .ok (.iconst 1, 1) := by decide +kernel
theorem dL_law_719 : decode cL_law 719 = .ok (.iadd, 1) := by decide +kernel
theorem dL_law_720 : decode cL_law 720 = .ok (.iaload, 1) := by decide +kernel
theorem dL_law_721 : decode cL_law 721 = .ok (.aload_n 0, 1) := by decide +kernel
theorem dL_law_722 : decode cL_law 722 = .ok (.iload 4, 2) := by decide +kernel
theorem dL_law_724 : decode cL_law 724 = .ok (.iconst 2, 1) := by decide +kernel
theorem dL_law_725 : decode cL_law 725 = .ok (.iadd, 1) := by decide +kernel
theorem dL_law_726 : decode cL_law 726 = .ok (.iaload, 1) := by decide +kernel
theorem dL_law_727 : decode cL_law 727 = .ok (.invokevirtual 137, 3) := by decide +kernel
theorem tw_1177 : (.code yX13_poke cX13_poke 3 none : Cond) ∈ tw_W := tw_in (t8_12 (List.mem_of_getElem? (i := 178) rfl)) rfl
theorem tw_1178 : ∀ w ∈ ([.methodLink RL 137 yX13_poke, .instanceMethod yX13_poke, .selects RX13 yX13_poke yX13_poke, .initialized RX13] : List Cond), w ∈ tw_W := al_c (tw_in (t8_12 (List.mem_of_getElem? (i := 175) rfl)) rfl) (al_c (tw_in (t8_12 (List.mem_of_getElem? (i := 176) rfl)) rfl) (al_c (tw_in (t8_12 (List.mem_of_getElem? (i := 177) rfl)) rfl) (al_c (tw_in (t8_1 (List.mem_of_getElem? (i := 23) rfl)) rfl) al_n)))
theorem dL_law_730 : decode cL_law 730 = .ok (.goto 263, 3) := by decide +kernel
theorem dL_law_733 : decode cL_law 733 = .ok (.aload_n 1, 1) := by decide +kernel
theorem dL_law_734 : decode cL_law 734 = .ok (.aload_n 0, 1) := by decide +kernel
theorem dL_law_735 : decode cL_law 735 = .ok (.iload 4, 2) := by decide +kernel
theorem dL_law_737 : decode cL_law 737 = .ok (.iconst 1, 1) := by decide +kernel
theorem dL_law_738 : decode cL_law 738 = .ok (.iadd, 1) := by decide +kernel
theorem dL_law_739 : decode cL_law 739 = .ok (.iaload, 1) := by decide +kernel
theorem dL_law_740 : decode cL_law 740 = .ok (.aload_n 3, 1) := by decide +kernel
theorem dL_law_741 : decode cL_law 741 = .ok (.invokestatic 138, 3) := by decide +kernel
theorem tw_1179 : (.codeWith yL_put cL_put 4 (some .int) [(0, 9, 12, 39)] : Cond) ∈ tw_W := tw_in (t8_8 (List.mem_of_getElem? (i := 123) rfl)) rfl
theorem tw_1180 : ∀ w ∈ ([.methodLink RL 138 yL_put, .static yL_put, .initialized yL_put.cls] : List Cond), w ∈ tw_W := al_c (tw_in (t8_8 (List.mem_of_getElem? (i := 121) rfl)) rfl) (al_c (tw_in (t8_8 (List.mem_of_getElem? (i := 122) rfl)) rfl) (al_c (tw_in (t8_1 (List.mem_of_getElem? (i := 0) rfl)) rfl) al_n))
theorem dL_law_744 : decode cL_law 744 = .ok (.istore 5, 2) := by decide +kernel
theorem dL_law_746 : decode cL_law 746 = .ok (.aload_n 2, 1) := by decide +kernel
theorem dL_law_747 : decode cL_law 747 = .ok (.aload_n 0, 1) := by decide +kernel
theorem dL_law_748 : decode cL_law 748 = .ok (.iload 4, 2) := by decide +kernel
theorem dL_law_750 : decode cL_law 750 = .ok (.iconst 1, 1) := by decide +kernel
theorem dL_law_751 : decode cL_law 751 = .ok (.iadd, 1) := by decide +kernel
theorem dL_law_752 : decode cL_law 752 = .ok (.iaload, 1) := by decide +kernel
theorem dL_law_753 : decode cL_law 753 = .ok (.invokevirtual 140, 3) := by decide +kernel
theorem tw_1181 : (.code yX13_put cX13_put 2 (some .int) : Cond) ∈ tw_W := tw_in (t8_12 (List.mem_of_getElem? (i := 182) rfl)) rfl
theorem tw_1182 : ∀ w ∈ ([.methodLink RL 140 yX13_put, .instanceMethod yX13_put, .selects RX13 yX13_put yX13_put, .initialized RX13] : List Cond), w ∈ tw_W := al_c (tw_in (t8_12 (List.mem_of_getElem? (i := 179) rfl)) rfl) (al_c (tw_in (t8_12 (List.mem_of_getElem? (i := 180) rfl)) rfl) (al_c (tw_in (t8_12 (List.mem_of_getElem? (i := 181) rfl)) rfl) (al_c (tw_in (t8_1 (List.mem_of_getElem? (i := 23) rfl)) rfl) al_n)))
theorem dL_law_756 : decode cL_law 756 = .ok (.istore 6, 2) := by decide +kernel
theorem dL_law_758 : decode cL_law 758 = .ok (.goto 235, 3) := by decide +kernel
theorem dL_law_761 : decode cL_law 761 = .ok (.aload_n 1, 1) := by decide +kernel
theorem dL_law_762 : decode cL_law 762 = .ok (.aload_n 0, 1) := by decide +kernel
theorem dL_law_763 : decode cL_law 763 = .ok (.iload 4, 2) := by decide +kernel
theorem dL_law_765 : decode cL_law 765 = .ok (.iconst 1, 1) := by decide +kernel
theorem dL_law_766 : decode cL_law 766 = .ok (.iadd, 1) := by decide +kernel
theorem dL_law_767 : decode cL_law 767 = .ok (.iaload, 1) := by decide +kernel
theorem dL_law_768 : decode cL_law 768 = .ok (.invokevirtual 141, 3) := by decide +kernel
theorem tw_1183 : (.code yX11_show cX11_show 2 (some .int) : Cond) ∈ tw_W := tw_in (t8_6 (List.mem_of_getElem? (i := 151) rfl)) rfl
theorem tw_1184 : ∀ w ∈ ([.methodLink RL 141 yX11_show, .instanceMethod yX11_show, .selects RX11 yX11_show yX11_show, .initialized RX11] : List Cond), w ∈ tw_W := al_c (tw_in (t8_6 (List.mem_of_getElem? (i := 148) rfl)) rfl) (al_c (tw_in (t8_6 (List.mem_of_getElem? (i := 149) rfl)) rfl) (al_c (tw_in (t8_6 (List.mem_of_getElem? (i := 150) rfl)) rfl) (al_c (tw_in (t8_1 (List.mem_of_getElem? (i := 1) rfl)) rfl) al_n)))
theorem dL_law_771 : decode cL_law 771 = .ok (.pop, 1) := by decide +kernel
theorem dL_law_772 : decode cL_law 772 = .ok (.aload_n 2, 1) := by decide +kernel
theorem dL_law_773 : decode cL_law 773 = .ok (.aload_n 0, 1) := by decide +kernel
theorem dL_law_774 : decode cL_law 774 = .ok (.iload 4, 2) := by decide +kernel
theorem dL_law_776 : decode cL_law 776 = .ok (.iconst 1, 1) := by decide +kernel
theorem dL_law_777 : decode cL_law 777 = .ok (.iadd, 1) := by decide +kernel
theorem dL_law_778 : decode cL_law 778 = .ok (.iaload, 1) := by decide +kernel
theorem dL_law_779 : decode cL_law 779 = .ok (.invokevirtual 144, 3) := by decide +kernel
theorem tw_1185 : (.code yX13_show cX13_show 8 (some .int) : Cond) ∈ tw_W := tw_in (t8_12 (List.mem_of_getElem? (i := 186) rfl)) rfl
theorem tw_1186 : ∀ w ∈ ([.methodLink RL 144 yX13_show, .instanceMethod yX13_show, .selects RX13 yX13_show yX13_show, .initialized RX13] : List Cond), w ∈ tw_W := al_c (tw_in (t8_12 (List.mem_of_getElem? (i := 183) rfl)) rfl) (al_c (tw_in (t8_12 (List.mem_of_getElem? (i := 184) rfl)) rfl) (al_c (tw_in (t8_12 (List.mem_of_getElem? (i := 185) rfl)) rfl) (al_c (tw_in (t8_1 (List.mem_of_getElem? (i := 23) rfl)) rfl) al_n)))
theorem dL_law_782 : decode cL_law 782 = .ok (.pop, 1) := by decide +kernel
theorem dL_law_783 : decode cL_law 783 = .ok (.goto 210, 3) := by decide +kernel
theorem dL_law_786 : decode cL_law 786 = .ok (.aload_n 1, 1) := by decide +kernel
theorem dL_law_787 : decode cL_law 787 = .ok (.aload_n 0, 1) := by decide +kernel
theorem dL_law_788 : decode cL_law 788 = .ok (.iload 4, 2) := by decide +kernel
theorem dL_law_790 : decode cL_law 790 = .ok (.iconst 1, 1) := by decide +kernel
theorem dL_law_791 : decode cL_law 791 = .ok (.iadd, 1) := by decide +kernel
theorem dL_law_792 : decode cL_law 792 = .ok (.iaload, 1) := by decide +kernel
theorem dL_law_793 : decode cL_law 793 = .ok (.invokevirtual 145, 3) := by decide +kernel
theorem tw_1187 : (.code yX11_octet cX11_octet 2 (some .int) : Cond) ∈ tw_W := tw_in (t8_7 (List.mem_of_getElem? (i := 233) rfl)) rfl
theorem tw_1188 : ∀ w ∈ ([.methodLink RL 145 yX11_octet, .instanceMethod yX11_octet, .selects RX11 yX11_octet yX11_octet, .initialized RX11] : List Cond), w ∈ tw_W := al_c (tw_in (t8_7 (List.mem_of_getElem? (i := 230) rfl)) rfl) (al_c (tw_in (t8_7 (List.mem_of_getElem? (i := 231) rfl)) rfl) (al_c (tw_in (t8_7 (List.mem_of_getElem? (i := 232) rfl)) rfl) (al_c (tw_in (t8_1 (List.mem_of_getElem? (i := 1) rfl)) rfl) al_n)))
theorem dL_law_796 : decode cL_law 796 = .ok (.pop, 1) := by decide +kernel
theorem dL_law_797 : decode cL_law 797 = .ok (.aload_n 2, 1) := by decide +kernel
theorem dL_law_798 : decode cL_law 798 = .ok (.aload_n 0, 1) := by decide +kernel
theorem dL_law_799 : decode cL_law 799 = .ok (.iload 4, 2) := by decide +kernel
theorem dL_law_801 : decode cL_law 801 = .ok (.iconst 1, 1) := by decide +kernel
theorem dL_law_802 : decode cL_law 802 = .ok (.iadd, 1) := by decide +kernel
theorem dL_law_803 : decode cL_law 803 = .ok (.iaload, 1) := by decide +kernel
theorem dL_law_804 : decode cL_law 804 = .ok (.invokevirtual 148, 3) := by decide +kernel
theorem tw_1189 : (.code yX13_octet cX13_octet 2 (some .int) : Cond) ∈ tw_W := tw_in (t8_13 (List.mem_of_getElem? (i := 25) rfl)) rfl
theorem tw_1190 : ∀ w ∈ ([.methodLink RL 148 yX13_octet, .instanceMethod yX13_octet, .selects RX13 yX13_octet yX13_octet, .initialized RX13] : List Cond), w ∈ tw_W := al_c (tw_in (t8_13 (List.mem_of_getElem? (i := 22) rfl)) rfl) (al_c (tw_in (t8_13 (List.mem_of_getElem? (i := 23) rfl)) rfl) (al_c (tw_in (t8_13 (List.mem_of_getElem? (i := 24) rfl)) rfl) (al_c (tw_in (t8_1 (List.mem_of_getElem? (i := 23) rfl)) rfl) al_n)))
theorem dL_law_807 : decode cL_law 807 = .ok (.pop, 1) := by decide +kernel
theorem dL_law_808 : decode cL_law 808 = .ok (.goto 185, 3) := by decide +kernel
theorem dL_law_811 : decode cL_law 811 = .ok (.aload_n 1, 1) := by decide +kernel
theorem dL_law_812 : decode cL_law 812 = .ok (.aload_n 0, 1) := by decide +kernel
theorem dL_law_813 : decode cL_law 813 = .ok (.iload 4, 2) := by decide +kernel
theorem dL_law_815 : decode cL_law 815 = .ok (.iconst 1, 1) := by decide +kernel
theorem dL_law_816 : decode cL_law 816 = .ok (.iadd, 1) := by decide +kernel
theorem dL_law_817 : decode cL_law 817 = .ok (.iaload, 1) := by decide +kernel
theorem dL_law_818 : decode cL_law 818 = .ok (.aload_n 0, 1) := by decide +kernel
theorem dL_law_819 : decode cL_law 819 = .ok (.iload 4, 2) := by decide +kernel
theorem dL_law_821 : decode cL_law 821 = .ok (.iconst 2, 1) := by decide +kernel
theorem dL_law_822 : decode cL_law 822 = .ok (.iadd, 1) := by decide +kernel
theorem dL_law_823 : decode cL_law 823 = .ok (.iaload, 1) := by decide +kernel
theorem dL_law_824 : decode cL_law 824 = .ok (.aload_n 0, 1) := by decide +kernel
theorem dL_law_825 : decode cL_law 825 = .ok (.iload 4, 2) := by decide +kernel
theorem dL_law_827 : decode cL_law 827 = .ok (.iconst 3, 1) := by decide +kernel
theorem dL_law_828 : decode cL_law 828 = .ok (.iadd, 1) := by decide +kernel
theorem dL_law_829 : decode cL_law 829 = .ok (.iaload, 1) := by decide +kernel
theorem dL_law_830 : decode cL_law 830 = .ok (.aload_n 0, 1) := by decide +kernel
theorem dL_law_831 : decode cL_law 831 = .ok (.iload 4, 2) := by decide +kernel
theorem dL_law_833 : decode cL_law 833 = .ok (.iconst 4, 1) := by decide +kernel
theorem dL_law_834 : decode cL_law 834 = .ok (.iadd, 1) := by decide +kernel
theorem dL_law_835 : decode cL_law 835 = .ok (.iaload, 1) := by decide +kernel
theorem dL_law_836 : decode cL_law 836 = .ok (.aload_n 3, 1) := by decide +kernel
theorem dL_law_837 : decode cL_law 837 = .ok (.invokestatic 149, 3) := by decide +kernel
theorem tw_1191 : (.codeWith yL_work cL_work 7 (some .int) [(0, 14, 17, 39), (0, 14, 21, 18)] : Cond) ∈ tw_W := tw_in (t8_8 (List.mem_of_getElem? (i := 147) rfl)) rfl
theorem tw_1192 : ∀ w ∈ ([.methodLink RL 149 yL_work, .static yL_work, .initialized yL_work.cls] : List Cond), w ∈ tw_W := al_c (tw_in (t8_8 (List.mem_of_getElem? (i := 145) rfl)) rfl) (al_c (tw_in (t8_8 (List.mem_of_getElem? (i := 146) rfl)) rfl) (al_c (tw_in (t8_1 (List.mem_of_getElem? (i := 0) rfl)) rfl) al_n))
theorem dL_law_840 : decode cL_law 840 = .ok (.istore 5, 2) := by decide +kernel
theorem dL_law_842 : decode cL_law 842 = .ok (.aload_n 2, 1) := by decide +kernel
theorem dL_law_843 : decode cL_law 843 = .ok (.aload_n 0, 1) := by decide +kernel
theorem dL_law_844 : decode cL_law 844 = .ok (.iload 4, 2) := by decide +kernel
theorem dL_law_846 : decode cL_law 846 = .ok (.iconst 1, 1) := by decide +kernel
theorem dL_law_847 : decode cL_law 847 = .ok (.iadd, 1) := by decide +kernel
theorem dL_law_848 : decode cL_law 848 = .ok (.iaload, 1) := by decide +kernel
theorem dL_law_849 : decode cL_law 849 = .ok (.aload_n 0, 1) := by decide +kernel
theorem dL_law_850 : decode cL_law 850 = .ok (.iload 4, 2) := by decide +kernel
theorem dL_law_852 : decode cL_law 852 = .ok (.iconst 2, 1) := by decide +kernel
theorem dL_law_853 : decode cL_law 853 = .ok (.iadd, 1) := by decide +kernel
theorem dL_law_854 : decode cL_law 854 = .ok (.iaload, 1) := by decide +kernel
theorem dL_law_855 : decode cL_law 855 = .ok (.aload_n 0, 1) := by decide +kernel
theorem dL_law_856 : decode cL_law 856 = .ok (.iload 4, 2) := by decide +kernel
theorem dL_law_858 : decode cL_law 858 = .ok (.iconst 3, 1) := by decide +kernel
theorem dL_law_859 : decode cL_law 859 = .ok (.iadd, 1) := by decide +kernel
theorem dL_law_860 : decode cL_law 860 = .ok (.iaload, 1) := by decide +kernel
theorem dL_law_861 : decode cL_law 861 = .ok (.aload_n 0, 1) := by decide +kernel
theorem dL_law_862 : decode cL_law 862 = .ok (.iload 4, 2) := by decide +kernel
theorem dL_law_864 : decode cL_law 864 = .ok (.iconst 4, 1) := by decide +kernel
theorem dL_law_865 : decode cL_law 865 = .ok (.iadd, 1) := by decide +kernel
theorem dL_law_866 : decode cL_law 866 = .ok (.iaload, 1) := by decide +kernel
theorem dL_law_867 : decode cL_law 867 = .ok (.invokevirtual 152, 3) := by decide +kernel
theorem tw_1193 : (.code yX13_work cX13_work 6 (some .int) : Cond) ∈ tw_W := tw_in (t8_13 (List.mem_of_getElem? (i := 29) rfl)) rfl
theorem tw_1194 : ∀ w ∈ ([.methodLink RL 152 yX13_work, .instanceMethod yX13_work, .selects RX13 yX13_work yX13_work, .initialized RX13] : List Cond), w ∈ tw_W := al_c (tw_in (t8_13 (List.mem_of_getElem? (i := 26) rfl)) rfl) (al_c (tw_in (t8_13 (List.mem_of_getElem? (i := 27) rfl)) rfl) (al_c (tw_in (t8_13 (List.mem_of_getElem? (i := 28) rfl)) rfl) (al_c (tw_in (t8_1 (List.mem_of_getElem? (i := 23) rfl)) rfl) al_n)))
theorem dL_law_870 : decode cL_law 870 = .ok (.istore 6, 2) := by decide +kernel
theorem dL_law_872 : decode cL_law 872 = .ok (.goto 121, 3) := by decide +kernel
theorem dL_law_875 : decode cL_law 875 = .ok (.aload_n 1, 1) := by decide +kernel
theorem dL_law_876 : decode cL_law 876 = .ok (.aload_n 0, 1) := by decide +kernel
theorem dL_law_877 : decode cL_law 877 = .ok (.iload 4, 2) := by decide +kernel
theorem dL_law_879 : decode cL_law 879 = .ok (.iconst 1, 1) := by decide +kernel
theorem dL_law_880 : decode cL_law 880 = .ok (.iadd, 1) := by decide +kernel
theorem dL_law_881 : decode cL_law 881 = .ok (.iaload, 1) := by decide +kernel
theorem dL_law_882 : decode cL_law 882 = .ok (.invokevirtual 153, 3) := by decide +kernel
theorem tw_1195 : (.code yX11_told cX11_told 2 (some .int) : Cond) ∈ tw_W := tw_in (t8_8 (List.mem_of_getElem? (i := 11) rfl)) rfl
theorem tw_1196 : ∀ w ∈ ([.methodLink RL 153 yX11_told, .instanceMethod yX11_told, .selects RX11 yX11_told yX11_told, .initialized RX11] : List Cond), w ∈ tw_W := al_c (tw_in (t8_8 (List.mem_of_getElem? (i := 8) rfl)) rfl) (al_c (tw_in (t8_8 (List.mem_of_getElem? (i := 9) rfl)) rfl) (al_c (tw_in (t8_8 (List.mem_of_getElem? (i := 10) rfl)) rfl) (al_c (tw_in (t8_1 (List.mem_of_getElem? (i := 1) rfl)) rfl) al_n)))
theorem dL_law_885 : decode cL_law 885 = .ok (.pop, 1) := by decide +kernel
theorem dL_law_886 : decode cL_law 886 = .ok (.aload_n 2, 1) := by decide +kernel
theorem dL_law_887 : decode cL_law 887 = .ok (.aload_n 0, 1) := by decide +kernel
theorem dL_law_888 : decode cL_law 888 = .ok (.iload 4, 2) := by decide +kernel
theorem dL_law_890 : decode cL_law 890 = .ok (.iconst 1, 1) := by decide +kernel
theorem dL_law_891 : decode cL_law 891 = .ok (.iadd, 1) := by decide +kernel
theorem dL_law_892 : decode cL_law 892 = .ok (.iaload, 1) := by decide +kernel
theorem dL_law_893 : decode cL_law 893 = .ok (.invokevirtual 156, 3) := by decide +kernel
theorem tw_1197 : (.code yX13_told cX13_told 2 (some .int) : Cond) ∈ tw_W := tw_in (t8_13 (List.mem_of_getElem? (i := 68) rfl)) rfl
theorem tw_1198 : ∀ w ∈ ([.methodLink RL 156 yX13_told, .instanceMethod yX13_told, .selects RX13 yX13_told yX13_told, .initialized RX13] : List Cond), w ∈ tw_W := al_c (tw_in (t8_13 (List.mem_of_getElem? (i := 65) rfl)) rfl) (al_c (tw_in (t8_13 (List.mem_of_getElem? (i := 66) rfl)) rfl) (al_c (tw_in (t8_13 (List.mem_of_getElem? (i := 67) rfl)) rfl) (al_c (tw_in (t8_1 (List.mem_of_getElem? (i := 23) rfl)) rfl) al_n)))
theorem dL_law_896 : decode cL_law 896 = .ok (.pop, 1) := by decide +kernel
theorem dL_law_897 : decode cL_law 897 = .ok (.goto 96, 3) := by decide +kernel
theorem dL_law_900 : decode cL_law 900 = .ok (.aload_n 1, 1) := by decide +kernel
theorem dL_law_901 : decode cL_law 901 = .ok (.aload_n 0, 1) := by decide +kernel
theorem dL_law_902 : decode cL_law 902 = .ok (.iload 4, 2) := by decide +kernel
theorem dL_law_904 : decode cL_law 904 = .ok (.iconst 1, 1) := by decide +kernel
theorem dL_law_905 : decode cL_law 905 = .ok (.iadd, 1) := by decide +kernel
theorem dL_law_906 : decode cL_law 906 = .ok (.iaload, 1) := by decide +kernel
theorem dL_law_907 : decode cL_law 907 = .ok (.aload_n 3, 1) := by decide +kernel
theorem dL_law_908 : decode cL_law 908 = .ok (.invokestatic 157, 3) := by decide +kernel
theorem tw_1199 : (.codeWith yL_worked cL_worked 4 (some .int) [(0, 9, 12, 39)] : Cond) ∈ tw_W := tw_in (t8_9 (List.mem_of_getElem? (i := 9) rfl)) rfl
theorem tw_1200 : ∀ w ∈ ([.methodLink RL 157 yL_worked, .static yL_worked, .initialized yL_worked.cls] : List Cond), w ∈ tw_W := al_c (tw_in (t8_9 (List.mem_of_getElem? (i := 7) rfl)) rfl) (al_c (tw_in (t8_9 (List.mem_of_getElem? (i := 8) rfl)) rfl) (al_c (tw_in (t8_1 (List.mem_of_getElem? (i := 0) rfl)) rfl) al_n))
theorem dL_law_911 : decode cL_law 911 = .ok (.istore 5, 2) := by decide +kernel
theorem dL_law_913 : decode cL_law 913 = .ok (.aload_n 2, 1) := by decide +kernel
theorem dL_law_914 : decode cL_law 914 = .ok (.aload_n 0, 1) := by decide +kernel
theorem dL_law_915 : decode cL_law 915 = .ok (.iload 4, 2) := by decide +kernel
theorem dL_law_917 : decode cL_law 917 = .ok (.iconst 1, 1) := by decide +kernel
theorem dL_law_918 : decode cL_law 918 = .ok (.iadd, 1) := by decide +kernel
theorem dL_law_919 : decode cL_law 919 = .ok (.iaload, 1) := by decide +kernel
theorem dL_law_920 : decode cL_law 920 = .ok (.invokevirtual 159, 3) := by decide +kernel
theorem tw_1201 : (.code yX13_worked_ cX13_worked_ 2 (some .int) : Cond) ∈ tw_W := tw_in (t8_13 (List.mem_of_getElem? (i := 72) rfl)) rfl
theorem tw_1202 : ∀ w ∈ ([.methodLink RL 159 yX13_worked_, .instanceMethod yX13_worked_, .selects RX13 yX13_worked_ yX13_worked_, .initialized RX13] : List Cond), w ∈ tw_W := al_c (tw_in (t8_13 (List.mem_of_getElem? (i := 69) rfl)) rfl) (al_c (tw_in (t8_13 (List.mem_of_getElem? (i := 70) rfl)) rfl) (al_c (tw_in (t8_13 (List.mem_of_getElem? (i := 71) rfl)) rfl) (al_c (tw_in (t8_1 (List.mem_of_getElem? (i := 23) rfl)) rfl) al_n)))
theorem dL_law_923 : decode cL_law 923 = .ok (.istore 6, 2) := by decide +kernel
theorem dL_law_925 : decode cL_law 925 = .ok (.goto 68, 3) := by decide +kernel
theorem dL_law_928 : decode cL_law 928 = .ok (.aload_n 1, 1) := by decide +kernel
theorem dL_law_929 : decode cL_law 929 = .ok (.aload_n 0, 1) := by decide +kernel
theorem dL_law_930 : decode cL_law 930 = .ok (.iload 4, 2) := by decide +kernel
theorem dL_law_932 : decode cL_law 932 = .ok (.iconst 1, 1) := by decide +kernel
theorem dL_law_933 : decode cL_law 933 = .ok (.iadd, 1) := by decide +kernel
theorem dL_law_934 : decode cL_law 934 = .ok (.iaload, 1) := by decide +kernel
theorem dL_law_935 : decode cL_law 935 = .ok (.aload_n 0, 1) := by decide +kernel
theorem dL_law_936 : decode cL_law 936 = .ok (.iload 4, 2) := by decide +kernel
theorem dL_law_938 : decode cL_law 938 = .ok (.iconst 2, 1) := by decide +kernel
theorem dL_law_939 : decode cL_law 939 = .ok (.iadd, 1) := by decide +kernel
theorem dL_law_940 : decode cL_law 940 = .ok (.iaload, 1) := by decide +kernel
theorem dL_law_941 : decode cL_law 941 = .ok (.aload_n 3, 1) := by decide +kernel
theorem dL_law_942 : decode cL_law 942 = .ok (.invokestatic 160, 3) := by decide +kernel
theorem tw_1203 : (.codeWith yL_left cL_left 5 (some .int) [(0, 10, 13, 39)] : Cond) ∈ tw_W := tw_in (t8_9 (List.mem_of_getElem? (i := 16) rfl)) rfl
theorem tw_1204 : ∀ w ∈ ([.methodLink RL 160 yL_left, .static yL_left, .initialized yL_left.cls] : List Cond), w ∈ tw_W := al_c (tw_in (t8_9 (List.mem_of_getElem? (i := 14) rfl)) rfl) (al_c (tw_in (t8_9 (List.mem_of_getElem? (i := 15) rfl)) rfl) (al_c (tw_in (t8_1 (List.mem_of_getElem? (i := 0) rfl)) rfl) al_n))
theorem dL_law_945 : decode cL_law 945 = .ok (.istore 5, 2) := by decide +kernel
theorem dL_law_947 : decode cL_law 947 = .ok (.aload_n 2, 1) := by decide +kernel
theorem dL_law_948 : decode cL_law 948 = .ok (.aload_n 0, 1) := by decide +kernel
theorem dL_law_949 : decode cL_law 949 = .ok (.iload 4, 2) := by decide +kernel
theorem dL_law_951 : decode cL_law 951 = .ok (.iconst 1, 1) := by decide +kernel
theorem dL_law_952 : decode cL_law 952 = .ok (.iadd, 1) := by decide +kernel
theorem dL_law_953 : decode cL_law 953 = .ok (.iaload, 1) := by decide +kernel
theorem dL_law_954 : decode cL_law 954 = .ok (.aload_n 0, 1) := by decide +kernel
theorem dL_law_955 : decode cL_law 955 = .ok (.iload 4, 2) := by decide +kernel
theorem dL_law_957 : decode cL_law 957 = .ok (.iconst 2, 1) := by decide +kernel
theorem dL_law_958 : decode cL_law 958 = .ok (.iadd, 1) := by decide +kernel
theorem dL_law_959 : decode cL_law 959 = .ok (.iaload, 1) := by decide +kernel
theorem dL_law_960 : decode cL_law 960 = .ok (.invokevirtual 163, 3) := by decide +kernel
theorem tw_1205 : (.code yX13_left cX13_left 3 (some .int) : Cond) ∈ tw_W := tw_in (t8_13 (List.mem_of_getElem? (i := 76) rfl)) rfl
theorem tw_1206 : ∀ w ∈ ([.methodLink RL 163 yX13_left, .instanceMethod yX13_left, .selects RX13 yX13_left yX13_left, .initialized RX13] : List Cond), w ∈ tw_W := al_c (tw_in (t8_13 (List.mem_of_getElem? (i := 73) rfl)) rfl) (al_c (tw_in (t8_13 (List.mem_of_getElem? (i := 74) rfl)) rfl) (al_c (tw_in (t8_13 (List.mem_of_getElem? (i := 75) rfl)) rfl) (al_c (tw_in (t8_1 (List.mem_of_getElem? (i := 23) rfl)) rfl) al_n)))
theorem dL_law_963 : decode cL_law 963 = .ok (.istore 6, 2) := by decide +kernel
theorem dL_law_965 : decode cL_law 965 = .ok (.goto 28, 3) := by decide +kernel
theorem dL_law_968 : decode cL_law 968 = .ok (.aload_n 1, 1) := by decide +kernel
theorem dL_law_969 : decode cL_law 969 = .ok (.aload_n 0, 1) := by decide +kernel
theorem dL_law_970 : decode cL_law 970 = .ok (.iload 4, 2) := by decide +kernel
theorem dL_law_972 : decode cL_law 972 = .ok (.iconst 1, 1) := by decide +kernel
theorem dL_law_973 : decode cL_law 973 = .ok (.iadd, 1) := by decide +kernel
theorem dL_law_974 : decode cL_law 974 = .ok (.iaload, 1) := by decide +kernel
theorem dL_law_975 : decode cL_law 975 = .ok (.invokevirtual 164, 3) := by decide +kernel
theorem tw_1207 : (.code yX11_count cX11_count 2 (some .int) : Cond) ∈ tw_W := tw_in (t8_8 (List.mem_of_getElem? (i := 19) rfl)) rfl
theorem tw_1208 : ∀ w ∈ ([.methodLink RL 164 yX11_count, .instanceMethod yX11_count, .selects RX11 yX11_count yX11_count, .initialized RX11] : List Cond), w ∈ tw_W := al_c (tw_in (t8_8 (List.mem_of_getElem? (i := 16) rfl)) rfl) (al_c (tw_in (t8_8 (List.mem_of_getElem? (i := 17) rfl)) rfl) (al_c (tw_in (t8_8 (List.mem_of_getElem? (i := 18) rfl)) rfl) (al_c (tw_in (t8_1 (List.mem_of_getElem? (i := 1) rfl)) rfl) al_n)))
theorem dL_law_978 : decode cL_law 978 = .ok (.pop, 1) := by decide +kernel
theorem dL_law_979 : decode cL_law 979 = .ok (.aload_n 2, 1) := by decide +kernel
theorem dL_law_980 : decode cL_law 980 = .ok (.aload_n 0, 1) := by decide +kernel
theorem dL_law_981 : decode cL_law 981 = .ok (.iload 4, 2) := by decide +kernel
theorem dL_law_983 : decode cL_law 983 = .ok (.iconst 1, 1) := by decide +kernel
theorem dL_law_984 : decode cL_law 984 = .ok (.iadd, 1) := by decide +kernel
theorem dL_law_985 : decode cL_law 985 = .ok (.iaload, 1) := by decide +kernel
theorem dL_law_986 : decode cL_law 986 = .ok (.invokevirtual 167, 3) := by decide +kernel
theorem tw_1209 : (.code yX13_count cX13_count 2 (some .int) : Cond) ∈ tw_W := tw_in (t8_13 (List.mem_of_getElem? (i := 80) rfl)) rfl
theorem tw_1210 : ∀ w ∈ ([.methodLink RL 167 yX13_count, .instanceMethod yX13_count, .selects RX13 yX13_count yX13_count, .initialized RX13] : List Cond), w ∈ tw_W := al_c (tw_in (t8_13 (List.mem_of_getElem? (i := 77) rfl)) rfl) (al_c (tw_in (t8_13 (List.mem_of_getElem? (i := 78) rfl)) rfl) (al_c (tw_in (t8_13 (List.mem_of_getElem? (i := 79) rfl)) rfl) (al_c (tw_in (t8_1 (List.mem_of_getElem? (i := 23) rfl)) rfl) al_n)))
theorem dL_law_989 : decode cL_law 989 = .ok (.pop, 1) := by decide +kernel
theorem dL_law_990 : decode cL_law 990 = .ok (.goto 3, 3) := by decide +kernel
section LWB
variable {p : Program} {l : Launch} {e : Env} {R : Room} {s : State} {m : MethodId} {args : Array Value} {below : List Frame} {meth : Method} {c : Code} {H H0 : Heap} {locs : List Loc} {cells slots : Nat} {Q : State → Prop}
variable {cc bytes : ByteArray} {pc nL maxL mc ms n index ci b k0 : Nat} {ls : Array Slot} {rest st0 As fs : List Value} {D : va_G} {A : Nat → Prop} {tys : List (ClassId × FieldType)} {ws Wc A0 Z : va_W} {own C : String} {y : MethodName} {ret : Option FieldType} {rm : Room} {q : vw_C} {S : Type} {tb : Nat → Nat}
theorem rn_VkW {hh : List (Nat × Nat × Nat × Nat)} {Qc : Array Value → State → Outcome → State → Prop} (hx : p.tables.exec = Jvm.exec) (hb : c.code = cc) (hml : c.maxLocals = nL) (hown : s.vm.findClass own = some m.cls) (ht : ∀ w ∈ tw_W, w.before args s = true) (hK : kk_ D tys tb s) (hF : fx_ tb A s s.heap) (hP : va_P D vwCl ws H) (hD : va_D A ws) (hS : va_S A s.heap H locs) (hA : ∀ q, s.heap.size ≤ q → A q)
    (hM : Met l y (Cond.codeWith y bytes maxL ret hh :: tw_W) rm (pc_ D tys tb Wc H.size (.ref b :: As)) Qc mc ms (va_A Wc H.size)) (hcw : Cond.codeWith y bytes maxL ret hh ∈ tw_W) (hws : ∀ w ∈ ([.methodLink own index y, .instanceMethod y, .selects C y y, .initialized C] : List Cond), w ∈ tw_W)
    (hd : y.cls = C ∧ y.cls ≠ "java/lang/invoke/MethodHandle" ∧ y.cls ≠ "java/lang/invoke/VarHandle" ∧ (parseMethodDescriptor y.desc).map (fun d => d.parameters.length) = some n) (hrc : rm.cells = mc) (hrs : rm.slots = ms) (hR : rm.frames + 1 ≤ R.frames ∧ 8 + (maxL + 11) + rm.locals ≤ R.locals)
    (isC : List Nat) (hC : isC.map (fun i => ws[i]?) = Wc.map some) (hnC : va_nd isC = true) (k0 : Nat) (hrecv : Wc[k0]? = some (b, .inr (ci, fs))) (hc : vwCl[ci]? = some q) (hq : q.1 = C)
    (hnA : As.length = n) (hls : ls.size = nL) (hst : st0 = As.reverse ++ .ref b :: rest) (hW : (rest.map fun v => v.category).sum ≤ 8) (hdg : decode cc pc = .ok (.invokevirtual index, 3)) (hf : cells + mc ≤ R.cells ∧ slots + ms ≤ R.slots) :
    va_Run p l e R s m args below meth c H locs cells slots mc ms (F0 m pc ls st0) rest (Qc (Value.ref b :: As).toArray) (va_A Wc H.size) := by
  subst hq
  exact vx_runVW ⟨hx, hb, hml, hown, ht⟩ hM (vx_cwVW n ht (tw_V hcw hws) rfl hrc hrs hd hR) ⟨pc_blind, va_recv hK.1 (hP.sub isC (is_fm hC)) hc hrecv, pc_at hK hF hP hD hS hA hnC hC⟩ rfl hnA hls hst (lv_room hW) hdg hf
theorem cD_i {post : Int32 → S → Prop} {Wf : S → va_W} {a : Array Value} (hr : va_Run p l e R s m args below meth c H locs cells slots mc ms (F0 m pc ls st0) rest (qi_ D A0 H.size post Wf a) (va_A A0 H.size)) (hP : va_P D vwCl (A0 ++ Z) H) (hD : va_D A (A0 ++ Z)) (hS : va_S A H0 H locs) (hA : ∀ q, H0.size ≤ q → A q)
    (kk : ∀ (r : Int32) (u : S) (H1 : Heap) (locs1 : List Loc), post r u → va_P D vwCl (Wf u ++ Z) H1 → va_D A (Wf u ++ Z) → va_S A H0 H1 locs1 → W p l e R s m args below meth c H1 locs1 (cells + mc) (slots + ms) Q (F0 m (pc + 3) ls (.int r :: rest))) : W p l e R s m args below meth c H locs cells slots Q (F0 m pc ls st0) :=
  ca_i (wr := Z) hr hP hD hS hA (isC := List.range A0.length) (isR := (List.range Z.length).map (fun i => i + A0.length)) (ixA_map A0 Z) (ixB_map A0 Z) (ixB_nd _ _) (ixB_dis _ _) (fun r u H1 locs1 hp h1 h2 h3 => kk r u H1 locs1 hp (h1.perm List.perm_append_comm) (h2.perm List.perm_append_comm) h3)
end LWB
theorem lg_cmp_self (x : Int64) : lg_cmp x x = 0 := by
  unfold lg_cmp
  rw [if_neg Int64.lt_irrefl, if_pos rfl]
theorem MIW.mono {N : Nat} {B B' : Int} {m0 : Nat} {cI cZ cJ : ClassId} {tz gz : Int} {xz : ZG} {U : va_W} (h : MIW N B m0 cI cZ cJ tz gz xz U) (hb : B ≤ B') : MIW N B' m0 cI cZ cJ tz gz xz U := by
  obtain ⟨ad, v, h1, h2, ⟨c1, c2, c3, c4, c5, c6⟩, h4⟩ := h
  exact ⟨ad, v, h1, h2, ⟨c1, c2, c3, ⟨c4.1, Int.le_trans c4.2 hb⟩, ⟨c5.1, Int.le_trans c5.2 hb⟩, c6⟩, h4⟩
set_option maxHeartbeats 4000000 in
set_option maxRecDepth 100000 in
theorem lawc_0 {p : Program} {e : Env} {s : State} {m : MethodId} {below : List Frame} {meth : Method} {c : Code} (l : Launch) (hst : l.stackTraces = false) {b L : Nat} {xs : Nat → Int32} {Q : State → Prop} (hx : p.tables.exec = Jvm.exec) (hb : c.code = cL_law) (hml : c.maxLocals = 7) (hown : s.vm.findClass RL = some m.cls) (ht : ∀ w ∈ tw_W, w.before #[Value.ref b] s = true) (hX : va_X b L xs s s.heap) (hbl : b < s.heap.size) {dC : Nat → ClassId} {dI : Nat → Nat → Nat} {cI cB cZ cJ cR : ClassId} {tb : Nat → Nat} {A : Nat → Prop} (hbA : ¬ A b) (hKK : kk_ (dC, dI) (tyS cI cB cZ cJ cR) tb s) (hFx : fx_ tb A s s.heap) (hA : ∀ q, s.heap.size ≤ q → A q) {N : Nat} (hN1 : 256 ≤ N) (hN2 : N ≤ 4096) {B : Int} (hB0 : 0 ≤ B) (hB : B + 50000 ≤ 200000000) {x0 m0 o0 : Nat} {U V : va_W} {g : Nat → Int64} {tz gz : Int} {xz : ZG} (hU : KI N B x0 cI cB cR tz gz xz U) (hV : MIW N B m0 cI cZ cJ tz gz xz V) (hJ : GJz N xz.dt xz.cs xz.ms) {H : Heap} {locs : List Loc} {ls : Array Slot} {cells slots : Nat} (hce : cells + 13 ≤ 601024) (hsl : slots + 338 ≤ 7293000) {iN : Nat} (hi : iN + 6 ≤ L) (hL : L ≤ 3073) (hP : va_P (dC, dI) vwCl ((o0, .inl (cJ, 1, .inr (.inl g))) :: (U ++ V)) H) (hD : va_D A ((o0, .inl (cJ, 1, .inr (.inl g))) :: (U ++ V))) (hS : va_S A s.heap H locs) (hl : lv_has ls 7 [(0, .ref b), (1, .ref x0), (2, .ref m0), (3, .ref o0), (4, .int (nI iN))])
    (key : ∀ (t9 z9 : Int) (x9 : ZG) (g9 : Nat → Int64) (U9 V9 : va_W) (H : Heap) (locs : List Loc) (ls : Array Slot), KI N (B + 50000) x0 cI cB cR t9 z9 x9 U9 → MIW N (B + 50000) m0 cI cZ cJ t9 z9 x9 V9 → GJz N x9.dt x9.cs x9.ms → va_P (dC, dI) vwCl ((o0, .inl (cJ, 1, .inr (.inl g9))) :: (U9 ++ V9)) H → va_D A ((o0, .inl (cJ, 1, .inr (.inl g9))) :: (U9 ++ V9)) → va_S A s.heap H locs → lv_has ls 7 [(0, .ref b), (1, .ref x0), (2, .ref m0), (3, .ref o0), (4, .int (nI iN))] → W p l e room_1 s m #[Value.ref b] below meth c H locs (cells + 13) (slots + 338) Q (F0 m 993 ls [])) : W p l e room_1 s m #[Value.ref b] below meth c H locs cells slots Q (F0 m 168 ls []) := by
  have hK := hKK.1
  refine lv_aload_n hx hb dL_law_168 rfl (lv_at hl 1 rfl) ?_
  refine lv_aload_n hx hb dL_law_169 rfl (lv_at hl 0 rfl) ?_
  refine lv_iload hx hb dL_law_170 (lv_at hl 4 rfl) ?_
  refine lv_iconst (v := 1) hx hb dL_law_172 (by decide) ?_
  refine lv_iadd hx hb dL_law_173 ?_
  refine tp_i (y := nI (iN + 1)) (nI_add iN 1) ?_
  refine va_sld hx hb hX hbl hbA hS (i := nI (iN + 1)) (vp_in_nI (by omega) (by omega)) dL_law_174 ?_
  refine lv_aload_n hx hb dL_law_175 rfl (lv_at hl 0 rfl) ?_
  refine lv_iload hx hb dL_law_176 (lv_at hl 4 rfl) ?_
  refine lv_iconst (v := 2) hx hb dL_law_178 (by decide) ?_
  refine lv_iadd hx hb dL_law_179 ?_
  refine tp_i (y := nI (iN + 2)) (nI_add iN 2) ?_
  refine va_sld hx hb hX hbl hbA hS (i := nI (iN + 2)) (vp_in_nI (by omega) (by omega)) dL_law_180 ?_
  refine lv_aload_n hx hb dL_law_181 rfl (lv_at hl 0 rfl) ?_
  refine lv_iload hx hb dL_law_182 (lv_at hl 4 rfl) ?_
  refine lv_iconst (v := 3) hx hb dL_law_184 (by decide) ?_
  refine lv_iadd hx hb dL_law_185 ?_
  refine tp_i (y := nI (iN + 3)) (nI_add iN 3) ?_
  refine va_sld hx hb hX hbl hbA hS (i := nI (iN + 3)) (vp_in_nI (by omega) (by omega)) dL_law_186 ?_
  refine lv_aload_n hx hb dL_law_187 rfl (lv_at hl 0 rfl) ?_
  refine lv_iload hx hb dL_law_188 (lv_at hl 4 rfl) ?_
  refine lv_iconst (v := 4) hx hb dL_law_190 (by decide) ?_
  refine lv_iadd hx hb dL_law_191 ?_
  refine tp_i (y := nI (iN + 4)) (nI_add iN 4) ?_
  refine va_sld hx hb hX hbl hbA hS (i := nI (iN + 4)) (vp_in_nI (by omega) (by omega)) dL_law_192 ?_
  refine lv_aload_n hx hb dL_law_193 rfl (lv_at hl 0 rfl) ?_
  refine lv_iload hx hb dL_law_194 (lv_at hl 4 rfl) ?_
  refine lv_iconst (v := 5) hx hb dL_law_196 (by decide) ?_
  refine lv_iadd hx hb dL_law_197 ?_
  refine tp_i (y := nI (iN + 5)) (nI_add iN 5) ?_
  refine va_sld hx hb hX hbl hbA hS (i := nI (iN + 5)) (vp_in_nI (by omega) (by omega)) dL_law_198 ?_
  obtain ⟨kr1, fs1, hrc1⟩ := KI.recv hU
  refine cA_i (rn_Vk (n := 5) (As := [.int (xs (nI (iN + 1)).toNatClampNeg), .int (xs (nI (iN + 2)).toNatClampNeg), .int (xs (nI (iN + 3)).toNatClampNeg), .int (xs (nI (iN + 4)).toNatClampNeg), .int (xs (nI (iN + 5)).toNatClampNeg)]) (rest := []) hx hb hml hown ht hKK hFx hP hD hS hA (kl_feed l dC dI cI cB cZ cJ cR tb hst H.size x0 N B U hN2 hB tz gz xz hU (xs (nI (iN + 1)).toNatClampNeg) (xs (nI (iN + 2)).toNatClampNeg) (xs (nI (iN + 3)).toNatClampNeg) (xs (nI (iN + 4)).toNatClampNeg) (xs (nI (iN + 5)).toNatClampNeg)) tw_1105 tw_1106 (by decide +kernel) rfl rfl ⟨Nat.le_of_ble_eq_true rfl, Nat.le_of_ble_eq_true rfl⟩ (ixC U.length) (ixC_map _ _ _) (ixC_nd _) kr1 hrc1 rfl rfl rfl hl.1 rfl (Nat.le_of_ble_eq_true rfl) dL_law_199 ⟨by show _ ≤ 601024; omega, by show _ ≤ 7293000; omega⟩) hP hD hS hA (fun r1 u1 H locs hw1 hP hD hS => ?_)
  obtain ⟨t1, z1, hU1, hr1⟩ := hw1
  have hP : va_P (dC, dI) vwCl ((o0, .inl (cJ, 1, .inr (.inl g))) :: (u1 ++ V)) H := hP
  have hD : va_D A ((o0, .inl (cJ, 1, .inr (.inl g))) :: (u1 ++ V)) := hD
  refine W.widen (k := cells + 0) (n := slots + 0) (by omega) (by omega) ?_
  refine lv_pop hx hb dL_law_202 rfl ?_
  refine lv_aload_n hx hb dL_law_203 rfl (lv_at hl 2 rfl) ?_
  refine lv_aload_n hx hb dL_law_204 rfl (lv_at hl 0 rfl) ?_
  refine lv_iload hx hb dL_law_205 (lv_at hl 4 rfl) ?_
  refine lv_iconst (v := 1) hx hb dL_law_207 (by decide) ?_
  refine lv_iadd hx hb dL_law_208 ?_
  refine tp_i (y := nI (iN + 1)) (nI_add iN 1) ?_
  refine va_sld hx hb hX hbl hbA hS (i := nI (iN + 1)) (vp_in_nI (by omega) (by omega)) dL_law_209 ?_
  refine lv_aload_n hx hb dL_law_210 rfl (lv_at hl 0 rfl) ?_
  refine lv_iload hx hb dL_law_211 (lv_at hl 4 rfl) ?_
  refine lv_iconst (v := 2) hx hb dL_law_213 (by decide) ?_
  refine lv_iadd hx hb dL_law_214 ?_
  refine tp_i (y := nI (iN + 2)) (nI_add iN 2) ?_
  refine va_sld hx hb hX hbl hbA hS (i := nI (iN + 2)) (vp_in_nI (by omega) (by omega)) dL_law_215 ?_
  refine lv_aload_n hx hb dL_law_216 rfl (lv_at hl 0 rfl) ?_
  refine lv_iload hx hb dL_law_217 (lv_at hl 4 rfl) ?_
  refine lv_iconst (v := 3) hx hb dL_law_219 (by decide) ?_
  refine lv_iadd hx hb dL_law_220 ?_
  refine tp_i (y := nI (iN + 3)) (nI_add iN 3) ?_
  refine va_sld hx hb hX hbl hbA hS (i := nI (iN + 3)) (vp_in_nI (by omega) (by omega)) dL_law_221 ?_
  refine lv_aload_n hx hb dL_law_222 rfl (lv_at hl 0 rfl) ?_
  refine lv_iload hx hb dL_law_223 (lv_at hl 4 rfl) ?_
  refine lv_iconst (v := 4) hx hb dL_law_225 (by decide) ?_
  refine lv_iadd hx hb dL_law_226 ?_
  refine tp_i (y := nI (iN + 4)) (nI_add iN 4) ?_
  refine va_sld hx hb hX hbl hbA hS (i := nI (iN + 4)) (vp_in_nI (by omega) (by omega)) dL_law_227 ?_
  refine lv_aload_n hx hb dL_law_228 rfl (lv_at hl 0 rfl) ?_
  refine lv_iload hx hb dL_law_229 (lv_at hl 4 rfl) ?_
  refine lv_iconst (v := 5) hx hb dL_law_231 (by decide) ?_
  refine lv_iadd hx hb dL_law_232 ?_
  refine tp_i (y := nI (iN + 5)) (nI_add iN 5) ?_
  refine va_sld hx hb hX hbl hbA hS (i := nI (iN + 5)) (vp_in_nI (by omega) (by omega)) dL_law_233 ?_
  obtain ⟨kr2, fs2, hrc2⟩ := MIW.recv hV
  have hP := va_P.perm hP (List.Perm.cons _ List.perm_append_comm)
  have hD := va_D.perm hD (List.Perm.cons _ List.perm_append_comm)
  refine cA_i (rn_Vk (n := 5) (As := [.int (xs (nI (iN + 1)).toNatClampNeg), .int (xs (nI (iN + 2)).toNatClampNeg), .int (xs (nI (iN + 3)).toNatClampNeg), .int (xs (nI (iN + 4)).toNatClampNeg), .int (xs (nI (iN + 5)).toNatClampNeg)]) (rest := []) hx hb hml hown ht hKK hFx hP hD hS hA (rl_feed l dC dI cI cB cZ cJ cR tb H.size m0 N B V hN1 hN2 hB0 hB tz gz xz hV (xs (nI (iN + 1)).toNatClampNeg) (xs (nI (iN + 2)).toNatClampNeg) (xs (nI (iN + 3)).toNatClampNeg) (xs (nI (iN + 4)).toNatClampNeg) (xs (nI (iN + 5)).toNatClampNeg)) tw_1107 tw_1108 (by decide +kernel) rfl rfl ⟨Nat.le_of_ble_eq_true rfl, Nat.le_of_ble_eq_true rfl⟩ (ixC V.length) (ixC_map _ _ _) (ixC_nd _) kr2 hrc2 rfl rfl rfl hl.1 rfl (Nat.le_of_ble_eq_true rfl) dL_law_234 ⟨by show _ ≤ 601024; omega, by show _ ≤ 7293000; omega⟩) hP hD hS hA (fun r2 u2 H locs hw2 hP hD hS => ?_)
  have hP := va_P.perm hP (List.Perm.cons _ List.perm_append_comm)
  have hD := va_D.perm hD (List.Perm.cons _ List.perm_append_comm)
  obtain ⟨t2, z2, hV2, hr2⟩ := hw2
  rw [show t2 = t1 by omega, show z2 = z1 by omega] at hV2
  have hP : va_P (dC, dI) vwCl ((o0, .inl (cJ, 1, .inr (.inl g))) :: (u1 ++ u2)) H := hP
  have hD : va_D A ((o0, .inl (cJ, 1, .inr (.inl g))) :: (u1 ++ u2)) := hD
  refine W.widen (k := cells + 0) (n := slots + 0) (by omega) (by omega) ?_
  refine lv_pop hx hb dL_law_237 rfl ?_
  refine lv_goto (tgt := 993) hx hb dL_law_238 (by decide) ?_
  refine W.widen (k := cells + 13) (n := slots + 338) (by omega) (by omega) ?_
  exact key t1 z1 (xz.fd tz (xs (nI (iN + 1)).toNatClampNeg) (xs (nI (iN + 2)).toNatClampNeg) (xs (nI (iN + 3)).toNatClampNeg) (xs (nI (iN + 4)).toNatClampNeg) (xs (nI (iN + 5)).toNatClampNeg)) g u1 u2 H locs ls hU1 hV2 hJ hP hD hS (lv_sub hl [0, 1, 2, 3, 4] rfl)
set_option maxHeartbeats 4000000 in
set_option maxRecDepth 100000 in
theorem lawc_1 {p : Program} {e : Env} {s : State} {m : MethodId} {below : List Frame} {meth : Method} {c : Code} (l : Launch) (hst : l.stackTraces = false) {b L : Nat} {xs : Nat → Int32} {Q : State → Prop} (hx : p.tables.exec = Jvm.exec) (hb : c.code = cL_law) (hml : c.maxLocals = 7) (hown : s.vm.findClass RL = some m.cls) (ht : ∀ w ∈ tw_W, w.before #[Value.ref b] s = true) (hX : va_X b L xs s s.heap) (hbl : b < s.heap.size) {dC : Nat → ClassId} {dI : Nat → Nat → Nat} {cI cB cZ cJ cR : ClassId} {tb : Nat → Nat} {A : Nat → Prop} (hbA : ¬ A b) (hKK : kk_ (dC, dI) (tyS cI cB cZ cJ cR) tb s) (hFx : fx_ tb A s s.heap) (hA : ∀ q, s.heap.size ≤ q → A q) {N : Nat} (hN1 : 256 ≤ N) (hN2 : N ≤ 4096) {B : Int} (hB0 : 0 ≤ B) (hB : B + 50000 ≤ 200000000) {x0 m0 o0 : Nat} {U V : va_W} {g : Nat → Int64} {tz gz : Int} {xz : ZG} (hU : KI N B x0 cI cB cR tz gz xz U) (hV : MIW N B m0 cI cZ cJ tz gz xz V) (hJ : GJz N xz.dt xz.cs xz.ms) {H : Heap} {locs : List Loc} {ls : Array Slot} {cells slots : Nat} (hce : cells + 13 ≤ 601024) (hsl : slots + 338 ≤ 7293000) {iN : Nat} (hi : iN + 6 ≤ L) (hL : L ≤ 3073) (hP : va_P (dC, dI) vwCl ((o0, .inl (cJ, 1, .inr (.inl g))) :: (U ++ V)) H) (hD : va_D A ((o0, .inl (cJ, 1, .inr (.inl g))) :: (U ++ V))) (hS : va_S A s.heap H locs) (hl : lv_has ls 7 [(0, .ref b), (1, .ref x0), (2, .ref m0), (3, .ref o0), (4, .int (nI iN))])
    (key : ∀ (t9 z9 : Int) (x9 : ZG) (g9 : Nat → Int64) (U9 V9 : va_W) (H : Heap) (locs : List Loc) (ls : Array Slot), KI N (B + 50000) x0 cI cB cR t9 z9 x9 U9 → MIW N (B + 50000) m0 cI cZ cJ t9 z9 x9 V9 → GJz N x9.dt x9.cs x9.ms → va_P (dC, dI) vwCl ((o0, .inl (cJ, 1, .inr (.inl g9))) :: (U9 ++ V9)) H → va_D A ((o0, .inl (cJ, 1, .inr (.inl g9))) :: (U9 ++ V9)) → va_S A s.heap H locs → lv_has ls 7 [(0, .ref b), (1, .ref x0), (2, .ref m0), (3, .ref o0), (4, .int (nI iN))] → W p l e room_1 s m #[Value.ref b] below meth c H locs (cells + 13) (slots + 338) Q (F0 m 993 ls [])) : W p l e room_1 s m #[Value.ref b] below meth c H locs cells slots Q (F0 m 241 ls []) := by
  have hK := hKK.1
  refine lv_aload_n hx hb dL_law_241 rfl (lv_at hl 1 rfl) ?_
  refine lv_aload_n hx hb dL_law_242 rfl (lv_at hl 0 rfl) ?_
  refine lv_iload hx hb dL_law_243 (lv_at hl 4 rfl) ?_
  refine lv_iconst (v := 1) hx hb dL_law_245 (by decide) ?_
  refine lv_iadd hx hb dL_law_246 ?_
  refine tp_i (y := nI (iN + 1)) (nI_add iN 1) ?_
  refine va_sld hx hb hX hbl hbA hS (i := nI (iN + 1)) (vp_in_nI (by omega) (by omega)) dL_law_247 ?_
  obtain ⟨kr1, fs1, hrc1⟩ := KI.recv hU
  refine cA_i (rn_Vk (n := 1) (As := [.int (xs (nI (iN + 1)).toNatClampNeg)]) (rest := []) hx hb hml hown ht hKK hFx hP hD hS hA (kl_end l dC dI cI cB cZ cJ cR tb hst H.size x0 N B U hN2 hB tz gz xz hU (xs (nI (iN + 1)).toNatClampNeg)) tw_1109 tw_1110 (by decide +kernel) rfl rfl ⟨Nat.le_of_ble_eq_true rfl, Nat.le_of_ble_eq_true rfl⟩ (ixC U.length) (ixC_map _ _ _) (ixC_nd _) kr1 hrc1 rfl rfl rfl hl.1 rfl (Nat.le_of_ble_eq_true rfl) dL_law_248 ⟨by show _ ≤ 601024; omega, by show _ ≤ 7293000; omega⟩) hP hD hS hA (fun r1 u1 H locs hw1 hP hD hS => ?_)
  obtain ⟨t1, z1, hU1, hr1⟩ := hw1
  have hP : va_P (dC, dI) vwCl ((o0, .inl (cJ, 1, .inr (.inl g))) :: (u1 ++ V)) H := hP
  have hD : va_D A ((o0, .inl (cJ, 1, .inr (.inl g))) :: (u1 ++ V)) := hD
  refine W.widen (k := cells + 0) (n := slots + 0) (by omega) (by omega) ?_
  refine lv_pop hx hb dL_law_251 rfl ?_
  refine lv_aload_n hx hb dL_law_252 rfl (lv_at hl 2 rfl) ?_
  refine lv_aload_n hx hb dL_law_253 rfl (lv_at hl 0 rfl) ?_
  refine lv_iload hx hb dL_law_254 (lv_at hl 4 rfl) ?_
  refine lv_iconst (v := 1) hx hb dL_law_256 (by decide) ?_
  refine lv_iadd hx hb dL_law_257 ?_
  refine tp_i (y := nI (iN + 1)) (nI_add iN 1) ?_
  refine va_sld hx hb hX hbl hbA hS (i := nI (iN + 1)) (vp_in_nI (by omega) (by omega)) dL_law_258 ?_
  obtain ⟨kr2, fs2, hrc2⟩ := MIW.recv hV
  have hP := va_P.perm hP (List.Perm.cons _ List.perm_append_comm)
  have hD := va_D.perm hD (List.Perm.cons _ List.perm_append_comm)
  refine cA_i (rn_Vk (n := 1) (As := [.int (xs (nI (iN + 1)).toNatClampNeg)]) (rest := []) hx hb hml hown ht hKK hFx hP hD hS hA (rl_end l dC dI cI cB cZ cJ cR tb H.size m0 N B V hN1 hN2 hB0 hB tz gz xz hV (xs (nI (iN + 1)).toNatClampNeg)) tw_1111 tw_1112 (by decide +kernel) rfl rfl ⟨Nat.le_of_ble_eq_true rfl, Nat.le_of_ble_eq_true rfl⟩ (ixC V.length) (ixC_map _ _ _) (ixC_nd _) kr2 hrc2 rfl rfl rfl hl.1 rfl (Nat.le_of_ble_eq_true rfl) dL_law_259 ⟨by show _ ≤ 601024; omega, by show _ ≤ 7293000; omega⟩) hP hD hS hA (fun r2 u2 H locs hw2 hP hD hS => ?_)
  have hP := va_P.perm hP (List.Perm.cons _ List.perm_append_comm)
  have hD := va_D.perm hD (List.Perm.cons _ List.perm_append_comm)
  obtain ⟨t2, z2, hV2, hr2⟩ := hw2
  rw [show t2 = t1 by omega, show z2 = z1 by omega] at hV2
  have hP : va_P (dC, dI) vwCl ((o0, .inl (cJ, 1, .inr (.inl g))) :: (u1 ++ u2)) H := hP
  have hD : va_D A ((o0, .inl (cJ, 1, .inr (.inl g))) :: (u1 ++ u2)) := hD
  refine W.widen (k := cells + 0) (n := slots + 0) (by omega) (by omega) ?_
  refine lv_pop hx hb dL_law_262 rfl ?_
  refine lv_goto (tgt := 993) hx hb dL_law_263 (by decide) ?_
  refine W.widen (k := cells + 13) (n := slots + 338) (by omega) (by omega) ?_
  exact key t1 z1 xz g u1 u2 H locs ls hU1 hV2 hJ hP hD hS (lv_sub hl [0, 1, 2, 3, 4] rfl)
set_option maxHeartbeats 4000000 in
set_option maxRecDepth 100000 in
theorem lawc_2 {p : Program} {e : Env} {s : State} {m : MethodId} {below : List Frame} {meth : Method} {c : Code} (l : Launch) (hst : l.stackTraces = false) {b L : Nat} {xs : Nat → Int32} {Q : State → Prop} (hx : p.tables.exec = Jvm.exec) (hb : c.code = cL_law) (hml : c.maxLocals = 7) (hown : s.vm.findClass RL = some m.cls) (ht : ∀ w ∈ tw_W, w.before #[Value.ref b] s = true) (hX : va_X b L xs s s.heap) (hbl : b < s.heap.size) {dC : Nat → ClassId} {dI : Nat → Nat → Nat} {cI cB cZ cJ cR : ClassId} {tb : Nat → Nat} {A : Nat → Prop} (hbA : ¬ A b) (hKK : kk_ (dC, dI) (tyS cI cB cZ cJ cR) tb s) (hFx : fx_ tb A s s.heap) (hA : ∀ q, s.heap.size ≤ q → A q) {N : Nat} (hN1 : 256 ≤ N) (hN2 : N ≤ 4096) {B : Int} (hB0 : 0 ≤ B) (hB : B + 50000 ≤ 200000000) {x0 m0 o0 : Nat} {U V : va_W} {g : Nat → Int64} {tz gz : Int} {xz : ZG} (hU : KI N B x0 cI cB cR tz gz xz U) (hV : MIW N B m0 cI cZ cJ tz gz xz V) (hJ : GJz N xz.dt xz.cs xz.ms) {H : Heap} {locs : List Loc} {ls : Array Slot} {cells slots : Nat} (hce : cells + 13 ≤ 601024) (hsl : slots + 338 ≤ 7293000) {iN : Nat} (hi : iN + 6 ≤ L) (hL : L ≤ 3073) (hP : va_P (dC, dI) vwCl ((o0, .inl (cJ, 1, .inr (.inl g))) :: (U ++ V)) H) (hD : va_D A ((o0, .inl (cJ, 1, .inr (.inl g))) :: (U ++ V))) (hS : va_S A s.heap H locs) (hl : lv_has ls 7 [(0, .ref b), (1, .ref x0), (2, .ref m0), (3, .ref o0), (4, .int (nI iN))])
    (key : ∀ (t9 z9 : Int) (x9 : ZG) (g9 : Nat → Int64) (U9 V9 : va_W) (H : Heap) (locs : List Loc) (ls : Array Slot), KI N (B + 50000) x0 cI cB cR t9 z9 x9 U9 → MIW N (B + 50000) m0 cI cZ cJ t9 z9 x9 V9 → GJz N x9.dt x9.cs x9.ms → va_P (dC, dI) vwCl ((o0, .inl (cJ, 1, .inr (.inl g9))) :: (U9 ++ V9)) H → va_D A ((o0, .inl (cJ, 1, .inr (.inl g9))) :: (U9 ++ V9)) → va_S A s.heap H locs → lv_has ls 7 [(0, .ref b), (1, .ref x0), (2, .ref m0), (3, .ref o0), (4, .int (nI iN))] → W p l e room_1 s m #[Value.ref b] below meth c H locs (cells + 13) (slots + 338) Q (F0 m 993 ls [])) : W p l e room_1 s m #[Value.ref b] below meth c H locs cells slots Q (F0 m 266 ls []) := by
  have hK := hKK.1
  refine lv_aload_n hx hb dL_law_266 rfl (lv_at hl 1 rfl) ?_
  obtain ⟨kr1, fs1, hrc1⟩ := KI.recv hU
  refine cA_i (rn_VkW (n := 0) (As := []) (rest := []) hx hb hml hown ht hKK hFx hP hD hS hA (kl_load l dC dI cI cB cZ cJ cR tb hst H.size x0 N B U hN2 hB tz gz xz hU ) tw_1113 tw_1114 (by decide +kernel) rfl rfl ⟨Nat.le_of_ble_eq_true rfl, Nat.le_of_ble_eq_true rfl⟩ (ixC U.length) (ixC_map _ _ _) (ixC_nd _) kr1 hrc1 rfl rfl rfl hl.1 rfl (Nat.le_of_ble_eq_true rfl) dL_law_267 ⟨by show _ ≤ 601024; omega, by show _ ≤ 7293000; omega⟩) hP hD hS hA (fun r1 u1 H locs hw1 hP hD hS => ?_)
  obtain ⟨t1, z1, hr1, hlc⟩ := hw1
  have hP : va_P (dC, dI) vwCl ((o0, .inl (cJ, 1, .inr (.inl g))) :: (u1 ++ V)) H := hP
  have hD : va_D A ((o0, .inl (cJ, 1, .inr (.inl g))) :: (u1 ++ V)) := hD
  refine W.widen (k := cells + 1) (n := slots + 6) (by omega) (by omega) ?_
  refine lv_pop hx hb dL_law_270 rfl ?_
  refine lv_aload_n hx hb dL_law_271 rfl (lv_at hl 2 rfl) ?_
  obtain ⟨kr2, fs2, hrc2⟩ := MIW.recv hV
  have hP := va_P.perm hP (List.Perm.cons _ List.perm_append_comm)
  have hD := va_D.perm hD (List.Perm.cons _ List.perm_append_comm)
  refine cA_i (rn_VkW (n := 0) (As := []) (rest := []) hx hb hml hown ht hKK hFx hP hD hS hA (rl_load l dC dI cI cB cZ cJ cR tb H.size m0 N B V hN1 hN2 hB0 hB tz gz xz hV ) tw_1115 tw_1116 (by decide +kernel) rfl rfl ⟨Nat.le_of_ble_eq_true rfl, Nat.le_of_ble_eq_true rfl⟩ (ixC V.length) (ixC_map _ _ _) (ixC_nd _) kr2 hrc2 rfl rfl rfl hl.1 rfl (Nat.le_of_ble_eq_true rfl) dL_law_272 ⟨by show _ ≤ 601024; omega, by show _ ≤ 7293000; omega⟩) hP hD hS hA (fun r2 u2 H locs hw2 hP hD hS => ?_)
  have hP := va_P.perm hP (List.Perm.cons _ List.perm_append_comm)
  have hD := va_D.perm hD (List.Perm.cons _ List.perm_append_comm)
  obtain ⟨t2, z2, hr2, hlm⟩ := hw2
  rw [show t2 = t1 by omega, show z2 = z1 by omega] at hlm
  obtain ⟨hlj, x1, hU1, hV2, hJ2⟩ := loadZ hN2 hJ hlc hlm
  have hlj := congrArg Int32.toInt hlj
  have hU1 : KI N (B + 50000) x0 cI cB cR t1 z1 x1 u1 := hU1
  have hV2 : MIW N (B + 50000) m0 cI cZ cJ t1 z1 x1 u2 := hV2
  have hP : va_P (dC, dI) vwCl ((o0, .inl (cJ, 1, .inr (.inl g))) :: (u1 ++ u2)) H := hP
  have hD : va_D A ((o0, .inl (cJ, 1, .inr (.inl g))) :: (u1 ++ u2)) := hD
  refine W.widen (k := cells + 1) (n := slots + 6) (by omega) (by omega) ?_
  refine lv_pop hx hb dL_law_275 rfl ?_
  refine lv_goto (tgt := 993) hx hb dL_law_276 (by decide) ?_
  refine W.widen (k := cells + 13) (n := slots + 338) (by omega) (by omega) ?_
  exact key t1 z1 x1 g u1 u2 H locs ls hU1 hV2 hJ2 hP hD hS (lv_sub hl [0, 1, 2, 3, 4] rfl)
set_option maxHeartbeats 4000000 in
set_option maxRecDepth 100000 in
theorem lawc_3 {p : Program} {e : Env} {s : State} {m : MethodId} {below : List Frame} {meth : Method} {c : Code} (l : Launch) (hst : l.stackTraces = false) {b L : Nat} {xs : Nat → Int32} {Q : State → Prop} (hx : p.tables.exec = Jvm.exec) (hb : c.code = cL_law) (hml : c.maxLocals = 7) (hown : s.vm.findClass RL = some m.cls) (ht : ∀ w ∈ tw_W, w.before #[Value.ref b] s = true) (hX : va_X b L xs s s.heap) (hbl : b < s.heap.size) {dC : Nat → ClassId} {dI : Nat → Nat → Nat} {cI cB cZ cJ cR : ClassId} {tb : Nat → Nat} {A : Nat → Prop} (hbA : ¬ A b) (hKK : kk_ (dC, dI) (tyS cI cB cZ cJ cR) tb s) (hFx : fx_ tb A s s.heap) (hA : ∀ q, s.heap.size ≤ q → A q) {N : Nat} (hN1 : 256 ≤ N) (hN2 : N ≤ 4096) {B : Int} (hB0 : 0 ≤ B) (hB : B + 50000 ≤ 200000000) {x0 m0 o0 : Nat} {U V : va_W} {g : Nat → Int64} {tz gz : Int} {xz : ZG} (hU : KI N B x0 cI cB cR tz gz xz U) (hV : MIW N B m0 cI cZ cJ tz gz xz V) (hJ : GJz N xz.dt xz.cs xz.ms) {H : Heap} {locs : List Loc} {ls : Array Slot} {cells slots : Nat} (hce : cells + 13 ≤ 601024) (hsl : slots + 338 ≤ 7293000) {iN : Nat} (hi : iN + 6 ≤ L) (hL : L ≤ 3073) (hP : va_P (dC, dI) vwCl ((o0, .inl (cJ, 1, .inr (.inl g))) :: (U ++ V)) H) (hD : va_D A ((o0, .inl (cJ, 1, .inr (.inl g))) :: (U ++ V))) (hS : va_S A s.heap H locs) (hl : lv_has ls 7 [(0, .ref b), (1, .ref x0), (2, .ref m0), (3, .ref o0), (4, .int (nI iN))])
    (key : ∀ (t9 z9 : Int) (x9 : ZG) (g9 : Nat → Int64) (U9 V9 : va_W) (H : Heap) (locs : List Loc) (ls : Array Slot), KI N (B + 50000) x0 cI cB cR t9 z9 x9 U9 → MIW N (B + 50000) m0 cI cZ cJ t9 z9 x9 V9 → GJz N x9.dt x9.cs x9.ms → va_P (dC, dI) vwCl ((o0, .inl (cJ, 1, .inr (.inl g9))) :: (U9 ++ V9)) H → va_D A ((o0, .inl (cJ, 1, .inr (.inl g9))) :: (U9 ++ V9)) → va_S A s.heap H locs → lv_has ls 7 [(0, .ref b), (1, .ref x0), (2, .ref m0), (3, .ref o0), (4, .int (nI iN))] → W p l e room_1 s m #[Value.ref b] below meth c H locs (cells + 13) (slots + 338) Q (F0 m 993 ls [])) : W p l e room_1 s m #[Value.ref b] below meth c H locs cells slots Q (F0 m 279 ls []) := by
  have hK := hKK.1
  refine lv_aload_n hx hb dL_law_279 rfl (lv_at hl 1 rfl) ?_
  refine lv_aload_n hx hb dL_law_280 rfl (lv_at hl 0 rfl) ?_
  refine lv_iload hx hb dL_law_281 (lv_at hl 4 rfl) ?_
  refine lv_iconst (v := 1) hx hb dL_law_283 (by decide) ?_
  refine lv_iadd hx hb dL_law_284 ?_
  refine tp_i (y := nI (iN + 1)) (nI_add iN 1) ?_
  refine va_sld hx hb hX hbl hbA hS (i := nI (iN + 1)) (vp_in_nI (by omega) (by omega)) dL_law_285 ?_
  obtain ⟨kr1, fs1, hrc1⟩ := KI.recv hU
  refine cA_i (rn_Vk (n := 1) (As := [.int (xs (nI (iN + 1)).toNatClampNeg)]) (rest := []) hx hb hml hown ht hKK hFx hP hD hS hA (kl_fault l dC dI cI cB cZ cJ cR tb hst H.size x0 N B U hN2 hB tz gz xz hU (xs (nI (iN + 1)).toNatClampNeg)) tw_1117 tw_1118 (by decide +kernel) rfl rfl ⟨Nat.le_of_ble_eq_true rfl, Nat.le_of_ble_eq_true rfl⟩ (ixC U.length) (ixC_map _ _ _) (ixC_nd _) kr1 hrc1 rfl rfl rfl hl.1 rfl (Nat.le_of_ble_eq_true rfl) dL_law_286 ⟨by show _ ≤ 601024; omega, by show _ ≤ 7293000; omega⟩) hP hD hS hA (fun r1 u1 H locs hw1 hP hD hS => ?_)
  obtain ⟨hU1, hr1⟩ := hw1
  have hP : va_P (dC, dI) vwCl ((o0, .inl (cJ, 1, .inr (.inl g))) :: (u1 ++ V)) H := hP
  have hD : va_D A ((o0, .inl (cJ, 1, .inr (.inl g))) :: (u1 ++ V)) := hD
  refine W.widen (k := cells + 0) (n := slots + 0) (by omega) (by omega) ?_
  refine lv_pop hx hb dL_law_289 rfl ?_
  refine lv_aload_n hx hb dL_law_290 rfl (lv_at hl 2 rfl) ?_
  refine lv_aload_n hx hb dL_law_291 rfl (lv_at hl 0 rfl) ?_
  refine lv_iload hx hb dL_law_292 (lv_at hl 4 rfl) ?_
  refine lv_iconst (v := 1) hx hb dL_law_294 (by decide) ?_
  refine lv_iadd hx hb dL_law_295 ?_
  refine tp_i (y := nI (iN + 1)) (nI_add iN 1) ?_
  refine va_sld hx hb hX hbl hbA hS (i := nI (iN + 1)) (vp_in_nI (by omega) (by omega)) dL_law_296 ?_
  obtain ⟨kr2, fs2, hrc2⟩ := MIW.recv hV
  have hP := va_P.perm hP (List.Perm.cons _ List.perm_append_comm)
  have hD := va_D.perm hD (List.Perm.cons _ List.perm_append_comm)
  refine cA_i (rn_Vk (n := 1) (As := [.int (xs (nI (iN + 1)).toNatClampNeg)]) (rest := []) hx hb hml hown ht hKK hFx hP hD hS hA (rl_fault l dC dI cI cB cZ cJ cR tb H.size m0 N B V hN1 hN2 hB0 hB tz gz xz hV (xs (nI (iN + 1)).toNatClampNeg)) tw_1119 tw_1120 (by decide +kernel) rfl rfl ⟨Nat.le_of_ble_eq_true rfl, Nat.le_of_ble_eq_true rfl⟩ (ixC V.length) (ixC_map _ _ _) (ixC_nd _) kr2 hrc2 rfl rfl rfl hl.1 rfl (Nat.le_of_ble_eq_true rfl) dL_law_297 ⟨by show _ ≤ 601024; omega, by show _ ≤ 7293000; omega⟩) hP hD hS hA (fun r2 u2 H locs hw2 hP hD hS => ?_)
  have hP := va_P.perm hP (List.Perm.cons _ List.perm_append_comm)
  have hD := va_D.perm hD (List.Perm.cons _ List.perm_append_comm)
  obtain ⟨hV2, hr2⟩ := hw2
  have hP : va_P (dC, dI) vwCl ((o0, .inl (cJ, 1, .inr (.inl g))) :: (u1 ++ u2)) H := hP
  have hD : va_D A ((o0, .inl (cJ, 1, .inr (.inl g))) :: (u1 ++ u2)) := hD
  refine W.widen (k := cells + 0) (n := slots + 0) (by omega) (by omega) ?_
  refine lv_pop hx hb dL_law_300 rfl ?_
  refine lv_goto (tgt := 993) hx hb dL_law_301 (by decide) ?_
  refine W.widen (k := cells + 13) (n := slots + 338) (by omega) (by omega) ?_
  exact key tz gz xz g u1 u2 H locs ls hU1 hV2 hJ hP hD hS (lv_sub hl [0, 1, 2, 3, 4] rfl)
set_option maxHeartbeats 4000000 in
set_option maxRecDepth 100000 in
theorem lawc_4 {p : Program} {e : Env} {s : State} {m : MethodId} {below : List Frame} {meth : Method} {c : Code} (l : Launch) (hst : l.stackTraces = false) {b L : Nat} {xs : Nat → Int32} {Q : State → Prop} (hx : p.tables.exec = Jvm.exec) (hb : c.code = cL_law) (hml : c.maxLocals = 7) (hown : s.vm.findClass RL = some m.cls) (ht : ∀ w ∈ tw_W, w.before #[Value.ref b] s = true) (hX : va_X b L xs s s.heap) (hbl : b < s.heap.size) {dC : Nat → ClassId} {dI : Nat → Nat → Nat} {cI cB cZ cJ cR : ClassId} {tb : Nat → Nat} {A : Nat → Prop} (hbA : ¬ A b) (hKK : kk_ (dC, dI) (tyS cI cB cZ cJ cR) tb s) (hFx : fx_ tb A s s.heap) (hA : ∀ q, s.heap.size ≤ q → A q) {N : Nat} (hN1 : 256 ≤ N) (hN2 : N ≤ 4096) {B : Int} (hB0 : 0 ≤ B) (hB : B + 50000 ≤ 200000000) {x0 m0 o0 : Nat} {U V : va_W} {g : Nat → Int64} {tz gz : Int} {xz : ZG} (hU : KI N B x0 cI cB cR tz gz xz U) (hV : MIW N B m0 cI cZ cJ tz gz xz V) (hJ : GJz N xz.dt xz.cs xz.ms) {H : Heap} {locs : List Loc} {ls : Array Slot} {cells slots : Nat} (hce : cells + 13 ≤ 601024) (hsl : slots + 338 ≤ 7293000) {iN : Nat} (hi : iN + 6 ≤ L) (hL : L ≤ 3073) (hP : va_P (dC, dI) vwCl ((o0, .inl (cJ, 1, .inr (.inl g))) :: (U ++ V)) H) (hD : va_D A ((o0, .inl (cJ, 1, .inr (.inl g))) :: (U ++ V))) (hS : va_S A s.heap H locs) (hl : lv_has ls 7 [(0, .ref b), (1, .ref x0), (2, .ref m0), (3, .ref o0), (4, .int (nI iN))])
    (key : ∀ (t9 z9 : Int) (x9 : ZG) (g9 : Nat → Int64) (U9 V9 : va_W) (H : Heap) (locs : List Loc) (ls : Array Slot), KI N (B + 50000) x0 cI cB cR t9 z9 x9 U9 → MIW N (B + 50000) m0 cI cZ cJ t9 z9 x9 V9 → GJz N x9.dt x9.cs x9.ms → va_P (dC, dI) vwCl ((o0, .inl (cJ, 1, .inr (.inl g9))) :: (U9 ++ V9)) H → va_D A ((o0, .inl (cJ, 1, .inr (.inl g9))) :: (U9 ++ V9)) → va_S A s.heap H locs → lv_has ls 7 [(0, .ref b), (1, .ref x0), (2, .ref m0), (3, .ref o0), (4, .int (nI iN))] → W p l e room_1 s m #[Value.ref b] below meth c H locs (cells + 13) (slots + 338) Q (F0 m 993 ls [])) : W p l e room_1 s m #[Value.ref b] below meth c H locs cells slots Q (F0 m 304 ls []) := by
  have hK := hKK.1
  refine lv_aload_n hx hb dL_law_304 rfl (lv_at hl 1 rfl) ?_
  refine lv_aload_n hx hb dL_law_305 rfl (lv_at hl 0 rfl) ?_
  refine lv_iload hx hb dL_law_306 (lv_at hl 4 rfl) ?_
  refine lv_iconst (v := 1) hx hb dL_law_308 (by decide) ?_
  refine lv_iadd hx hb dL_law_309 ?_
  refine tp_i (y := nI (iN + 1)) (nI_add iN 1) ?_
  refine va_sld hx hb hX hbl hbA hS (i := nI (iN + 1)) (vp_in_nI (by omega) (by omega)) dL_law_310 ?_
  refine lv_aload_n hx hb dL_law_311 rfl (lv_at hl 3 rfl) ?_
  refine cD_i (A0 := (o0, .inl (cJ, 1, .inr (.inl g))) :: U) (Z := V) (rn_SW (n := 3) (As := [.ref x0, .int (xs (nI (iN + 1)).toNatClampNeg), .ref o0]) (rest := []) hx hb hml hown ht hKK hFx hP hD hS hA (hl_code l dC dI cI cB cZ cJ cR tb hst H.size x0 o0 N B U g hN2 hB tz gz xz hU (xs (nI (iN + 1)).toNatClampNeg)) tw_1121 tw_1122 (by decide +kernel) rfl rfl ⟨Nat.le_of_ble_eq_true rfl, Nat.le_of_ble_eq_true rfl⟩ (List.range ((o0, .inl (cJ, 1, .inr (.inl g))) :: U).length) (ixA_map ((o0, .inl (cJ, 1, .inr (.inl g))) :: U) V) (nd_range _) rfl hl.1 rfl (Nat.le_of_ble_eq_true rfl) dL_law_312 ⟨by show _ ≤ 601024; omega, by show _ ≤ 7293000; omega⟩) hP hD hS hA (fun r1 u1 H locs hw hP hD hS => ?_)
  obtain ⟨g1, U1, hu1, hU1, hcx⟩ := hw
  have hu1 : u1 = (o0, .inl (cJ, 1, .inr (.inl g1))) :: U1 := hu1
  subst hu1
  have hcx : HCc N xz (xs (nI (iN + 1)).toNatClampNeg) r1.toInt (g1 0) := hcx
  have hP : va_P (dC, dI) vwCl ((o0, .inl (cJ, 1, .inr (.inl g1))) :: (U1 ++ V)) H := hP
  have hD : va_D A ((o0, .inl (cJ, 1, .inr (.inl g1))) :: (U1 ++ V)) := hD
  refine W.widen (k := cells + 1) (n := slots + 6) (by omega) (by omega) ?_
  refine lv_istore (lv' := [(5, .int r1), (0, .ref b), (1, .ref x0), (2, .ref m0), (3, .ref o0), (4, .int (nI iN))]) hx hb dL_law_315 hl (by decide) rfl (fun ls hl => ?_)
  refine lv_aload_n hx hb dL_law_317 rfl (lv_at hl 3 rfl) ?_
  refine lv_aload_n hx hb dL_law_318 rfl (lv_at hl 1 rfl) ?_
  refine lv_iload hx hb dL_law_319 (lv_at hl 5 rfl) ?_
  refine lv_iconst (v := 1) hx hb dL_law_321 (by decide) ?_
  refine lv_iadd hx hb dL_law_322 ?_
  refine tp_i (y := nI (iN + 1)) (nI_add iN 1) ?_
  refine va_sld hx hb hX hbl hbA hS (i := nI (iN + 1)) (vp_in_nI (by omega) (by omega)) dL_law_323 ?_
  obtain ⟨kr2, fs2, hrc2⟩ := MIW.recv hV
  have hP := va_P.perm hP (List.Perm.cons _ List.perm_append_comm)
  have hD := va_D.perm hD (List.Perm.cons _ List.perm_append_comm)
  refine cA_i (rn_Vk (n := 1) (As := [.int (xs (nI (iN + 1)).toNatClampNeg)]) (rest := []) hx hb hml hown ht hKK hFx hP hD hS hA (rl_code l dC dI cI cB cZ cJ cR tb H.size m0 N B V hN1 hN2 hB0 hB tz gz xz hV (xs (nI (iN + 1)).toNatClampNeg)) tw_1123 tw_1124 (by decide +kernel) rfl rfl ⟨Nat.le_of_ble_eq_true rfl, Nat.le_of_ble_eq_true rfl⟩ (ixC V.length) (ixC_map _ _ _) (ixC_nd _) kr2 hrc2 rfl rfl rfl hl.1 rfl (Nat.le_of_ble_eq_true rfl) dL_law_324 ⟨by show _ ≤ 601024; omega, by show _ ≤ 7293000; omega⟩) hP hD hS hA (fun r2 u2 H locs hw2 hP hD hS => ?_)
  have hP := va_P.perm hP (List.Perm.cons _ List.perm_append_comm)
  have hD := va_D.perm hD (List.Perm.cons _ List.perm_append_comm)
  have hP : va_P (dC, dI) vwCl ((o0, .inl (cJ, 1, .inr (.inl g1))) :: (U1 ++ u2)) H := hP
  have hD : va_D A ((o0, .inl (cJ, 1, .inr (.inl g1))) :: (U1 ++ u2)) := hD
  refine W.widen (k := cells + 1) (n := slots + 6) (by omega) (by omega) ?_
  refine lv_istore (lv' := [(6, .int r2), (5, .int r1), (0, .ref b), (1, .ref x0), (2, .ref m0), (3, .ref o0), (4, .int (nI iN))]) hx hb dL_law_327 hl (by decide) rfl (fun ls hl => ?_)
  refine lv_aload_n hx hb dL_law_329 rfl (lv_at hl 4 rfl) ?_
  obtain ⟨kr3, fs3, hrc3⟩ := MIT.recv hw2
  have hP := va_P.perm hP (List.Perm.cons _ List.perm_append_comm)
  have hD := va_D.perm hD (List.Perm.cons _ List.perm_append_comm)
  refine cA_i (rn_Vk (n := 0) (As := []) (rest := []) hx hb hml hown ht hKK hFx hP hD hS hA (rl_thrown l dC dI cI cB cZ cJ cR tb H.size m0 N (B + 50000) tz gz xz _ u2 hw2) tw_1125 tw_1126 (by decide +kernel) rfl rfl ⟨Nat.le_of_ble_eq_true rfl, Nat.le_of_ble_eq_true rfl⟩ (ixC u2.length) (ixC_map _ _ _) (ixC_nd _) kr3 hrc3 rfl rfl rfl hl.1 rfl (Nat.le_of_ble_eq_true rfl) dL_law_330 ⟨by show _ ≤ 601024; omega, by show _ ≤ 7293000; omega⟩) hP hD hS hA (fun r3 u3 H locs hw3 hP hD hS => ?_)
  have hP := va_P.perm hP (List.Perm.cons _ List.perm_append_comm)
  have hD := va_D.perm hD (List.Perm.cons _ List.perm_append_comm)
  obtain ⟨hV3, htx⟩ := hw3
  have htx : HMc xz (xs (nI (iN + 1)).toNatClampNeg) r3.toInt r2 := htx
  obtain ⟨hxe, hqe⟩ := codeZ hN2 hJ hcx htx
  have hP : va_P (dC, dI) vwCl ((o0, .inl (cJ, 1, .inr (.inl g1))) :: (U1 ++ u3)) H := hP
  have hD : va_D A ((o0, .inl (cJ, 1, .inr (.inl g1))) :: (U1 ++ u3)) := hD
  refine W.widen (k := cells + 1) (n := slots + 6) (by omega) (by omega) ?_
  refine lv_iload hx hb dL_law_333 (lv_at hl 1 rfl) ?_
  have heq : r3 = r1 := Int32.toInt_inj.mp (by omega)
  refine lv_icmp_eq (tgt := 340) hx hb dL_law_335 (by decide) (fun _ => ?_) (fun h9 => absurd heq h9)
  refine lv_iload hx hb dL_law_340 (lv_at hl 1 rfl) ?_
  refine lv_if_ne (tgt := 357) hx hb dL_law_342 (by decide) (fun h9 => ?_) (fun h9 => ?_)
  · refine lv_goto (tgt := 993) hx hb dL_law_357 (by decide) ?_
    refine W.widen (k := cells + 13) (n := slots + 338) (by omega) (by omega) ?_
    exact key tz gz xz g1 U1 u3 H locs ls hU1 hV3 hJ hP hD hS (lv_sub hl [2, 3, 4, 5, 6] rfl)
  · refine lv_aload_n hx hb dL_law_345 rfl (lv_at hl 5 rfl) ?_
    refine lv_iconst (v := 0) hx hb dL_law_346 (by decide) ?_
    refine va_lald (D := (dC, dI)) hx hb hK hP 0 3 rfl rfl (vp_in_iff.mpr (by decide)) dL_law_347 ?_
    refine lv_iload hx hb dL_law_348 (lv_at hl 0 rfl) ?_
    refine lv_i2l hx hb dL_law_350 rfl ?_
    have heqL : (g1 (0 : Int32).toNatClampNeg) = (r2).toInt64 := by
      have h8 : r1.toInt = 0 := by rw [h9]; decide
      have h7 := congrArg Int32.toInt heq
      rw [show (0 : Int32).toNatClampNeg = 0 by decide]
      exact hqe h8
    refine W.lcmp hx hb dL_law_351 ?_
    refine tp_i (y := 0) (by rw [heqL]; exact lg_cmp_self _) ?_
    refine lv_if_eq (tgt := 357) hx hb dL_law_352 (by decide) (fun _ => ?_) (fun h9 => absurd rfl h9)
    refine lv_goto (tgt := 993) hx hb dL_law_357 (by decide) ?_
    refine W.widen (k := cells + 13) (n := slots + 338) (by omega) (by omega) ?_
    exact key tz gz xz g1 U1 u3 H locs ls hU1 hV3 hJ hP hD hS (lv_sub hl [2, 3, 4, 5, 6] rfl)
set_option maxHeartbeats 4000000 in
set_option maxRecDepth 100000 in
theorem lawc_5 {p : Program} {e : Env} {s : State} {m : MethodId} {below : List Frame} {meth : Method} {c : Code} (l : Launch) (hst : l.stackTraces = false) {b L : Nat} {xs : Nat → Int32} {Q : State → Prop} (hx : p.tables.exec = Jvm.exec) (hb : c.code = cL_law) (hml : c.maxLocals = 7) (hown : s.vm.findClass RL = some m.cls) (ht : ∀ w ∈ tw_W, w.before #[Value.ref b] s = true) (hX : va_X b L xs s s.heap) (hbl : b < s.heap.size) {dC : Nat → ClassId} {dI : Nat → Nat → Nat} {cI cB cZ cJ cR : ClassId} {tb : Nat → Nat} {A : Nat → Prop} (hbA : ¬ A b) (hKK : kk_ (dC, dI) (tyS cI cB cZ cJ cR) tb s) (hFx : fx_ tb A s s.heap) (hA : ∀ q, s.heap.size ≤ q → A q) {N : Nat} (hN1 : 256 ≤ N) (hN2 : N ≤ 4096) {B : Int} (hB0 : 0 ≤ B) (hB : B + 50000 ≤ 200000000) {x0 m0 o0 : Nat} {U V : va_W} {g : Nat → Int64} {tz gz : Int} {xz : ZG} (hU : KI N B x0 cI cB cR tz gz xz U) (hV : MIW N B m0 cI cZ cJ tz gz xz V) (hJ : GJz N xz.dt xz.cs xz.ms) {H : Heap} {locs : List Loc} {ls : Array Slot} {cells slots : Nat} (hce : cells + 13 ≤ 601024) (hsl : slots + 338 ≤ 7293000) {iN : Nat} (hi : iN + 6 ≤ L) (hL : L ≤ 3073) (hP : va_P (dC, dI) vwCl ((o0, .inl (cJ, 1, .inr (.inl g))) :: (U ++ V)) H) (hD : va_D A ((o0, .inl (cJ, 1, .inr (.inl g))) :: (U ++ V))) (hS : va_S A s.heap H locs) (hl : lv_has ls 7 [(0, .ref b), (1, .ref x0), (2, .ref m0), (3, .ref o0), (4, .int (nI iN))])
    (key : ∀ (t9 z9 : Int) (x9 : ZG) (g9 : Nat → Int64) (U9 V9 : va_W) (H : Heap) (locs : List Loc) (ls : Array Slot), KI N (B + 50000) x0 cI cB cR t9 z9 x9 U9 → MIW N (B + 50000) m0 cI cZ cJ t9 z9 x9 V9 → GJz N x9.dt x9.cs x9.ms → va_P (dC, dI) vwCl ((o0, .inl (cJ, 1, .inr (.inl g9))) :: (U9 ++ V9)) H → va_D A ((o0, .inl (cJ, 1, .inr (.inl g9))) :: (U9 ++ V9)) → va_S A s.heap H locs → lv_has ls 7 [(0, .ref b), (1, .ref x0), (2, .ref m0), (3, .ref o0), (4, .int (nI iN))] → W p l e room_1 s m #[Value.ref b] below meth c H locs (cells + 13) (slots + 338) Q (F0 m 993 ls [])) : W p l e room_1 s m #[Value.ref b] below meth c H locs cells slots Q (F0 m 360 ls []) := by
  have hK := hKK.1
  refine lv_aload_n hx hb dL_law_360 rfl (lv_at hl 1 rfl) ?_
  refine lv_aload_n hx hb dL_law_361 rfl (lv_at hl 0 rfl) ?_
  refine lv_iload hx hb dL_law_362 (lv_at hl 4 rfl) ?_
  refine lv_iconst (v := 1) hx hb dL_law_364 (by decide) ?_
  refine lv_iadd hx hb dL_law_365 ?_
  refine tp_i (y := nI (iN + 1)) (nI_add iN 1) ?_
  refine va_sld hx hb hX hbl hbA hS (i := nI (iN + 1)) (vp_in_nI (by omega) (by omega)) dL_law_366 ?_
  refine lv_aload_n hx hb dL_law_367 rfl (lv_at hl 0 rfl) ?_
  refine lv_iload hx hb dL_law_368 (lv_at hl 4 rfl) ?_
  refine lv_iconst (v := 2) hx hb dL_law_370 (by decide) ?_
  refine lv_iadd hx hb dL_law_371 ?_
  refine tp_i (y := nI (iN + 2)) (nI_add iN 2) ?_
  refine va_sld hx hb hX hbl hbA hS (i := nI (iN + 2)) (vp_in_nI (by omega) (by omega)) dL_law_372 ?_
  obtain ⟨kr1, fs1, hrc1⟩ := KI.recv hU
  refine cA_i (rn_Vk (n := 2) (As := [.int (xs (nI (iN + 1)).toNatClampNeg), .int (xs (nI (iN + 2)).toNatClampNeg)]) (rest := []) hx hb hml hown ht hKK hFx hP hD hS hA (kl_function l dC dI cI cB cZ cJ cR tb hst H.size x0 N B U hN2 hB tz gz xz hU (xs (nI (iN + 1)).toNatClampNeg) (xs (nI (iN + 2)).toNatClampNeg)) tw_1127 tw_1128 (by decide +kernel) rfl rfl ⟨Nat.le_of_ble_eq_true rfl, Nat.le_of_ble_eq_true rfl⟩ (ixC U.length) (ixC_map _ _ _) (ixC_nd _) kr1 hrc1 rfl rfl rfl hl.1 rfl (Nat.le_of_ble_eq_true rfl) dL_law_373 ⟨by show _ ≤ 601024; omega, by show _ ≤ 7293000; omega⟩) hP hD hS hA (fun r1 u1 H locs hw1 hP hD hS => ?_)
  obtain ⟨hU1, hr1⟩ := hw1
  have hP : va_P (dC, dI) vwCl ((o0, .inl (cJ, 1, .inr (.inl g))) :: (u1 ++ V)) H := hP
  have hD : va_D A ((o0, .inl (cJ, 1, .inr (.inl g))) :: (u1 ++ V)) := hD
  refine W.widen (k := cells + 0) (n := slots + 0) (by omega) (by omega) ?_
  refine lv_pop hx hb dL_law_376 rfl ?_
  refine lv_aload_n hx hb dL_law_377 rfl (lv_at hl 2 rfl) ?_
  refine lv_aload_n hx hb dL_law_378 rfl (lv_at hl 0 rfl) ?_
  refine lv_iload hx hb dL_law_379 (lv_at hl 4 rfl) ?_
  refine lv_iconst (v := 1) hx hb dL_law_381 (by decide) ?_
  refine lv_iadd hx hb dL_law_382 ?_
  refine tp_i (y := nI (iN + 1)) (nI_add iN 1) ?_
  refine va_sld hx hb hX hbl hbA hS (i := nI (iN + 1)) (vp_in_nI (by omega) (by omega)) dL_law_383 ?_
  refine lv_aload_n hx hb dL_law_384 rfl (lv_at hl 0 rfl) ?_
  refine lv_iload hx hb dL_law_385 (lv_at hl 4 rfl) ?_
  refine lv_iconst (v := 2) hx hb dL_law_387 (by decide) ?_
  refine lv_iadd hx hb dL_law_388 ?_
  refine tp_i (y := nI (iN + 2)) (nI_add iN 2) ?_
  refine va_sld hx hb hX hbl hbA hS (i := nI (iN + 2)) (vp_in_nI (by omega) (by omega)) dL_law_389 ?_
  obtain ⟨kr2, fs2, hrc2⟩ := MIW.recv hV
  have hP := va_P.perm hP (List.Perm.cons _ List.perm_append_comm)
  have hD := va_D.perm hD (List.Perm.cons _ List.perm_append_comm)
  refine cA_i (rn_Vk (n := 2) (As := [.int (xs (nI (iN + 1)).toNatClampNeg), .int (xs (nI (iN + 2)).toNatClampNeg)]) (rest := []) hx hb hml hown ht hKK hFx hP hD hS hA (rl_function l dC dI cI cB cZ cJ cR tb H.size m0 N B V hN1 hN2 hB0 hB tz gz xz hV (xs (nI (iN + 1)).toNatClampNeg) (xs (nI (iN + 2)).toNatClampNeg)) tw_1129 tw_1130 (by decide +kernel) rfl rfl ⟨Nat.le_of_ble_eq_true rfl, Nat.le_of_ble_eq_true rfl⟩ (ixC V.length) (ixC_map _ _ _) (ixC_nd _) kr2 hrc2 rfl rfl rfl hl.1 rfl (Nat.le_of_ble_eq_true rfl) dL_law_390 ⟨by show _ ≤ 601024; omega, by show _ ≤ 7293000; omega⟩) hP hD hS hA (fun r2 u2 H locs hw2 hP hD hS => ?_)
  have hP := va_P.perm hP (List.Perm.cons _ List.perm_append_comm)
  have hD := va_D.perm hD (List.Perm.cons _ List.perm_append_comm)
  obtain ⟨hV2, hr2⟩ := hw2
  have hP : va_P (dC, dI) vwCl ((o0, .inl (cJ, 1, .inr (.inl g))) :: (u1 ++ u2)) H := hP
  have hD : va_D A ((o0, .inl (cJ, 1, .inr (.inl g))) :: (u1 ++ u2)) := hD
  refine W.widen (k := cells + 0) (n := slots + 0) (by omega) (by omega) ?_
  refine lv_pop hx hb dL_law_393 rfl ?_
  refine lv_goto (tgt := 993) hx hb dL_law_394 (by decide) ?_
  refine W.widen (k := cells + 13) (n := slots + 338) (by omega) (by omega) ?_
  exact key tz gz xz g u1 u2 H locs ls hU1 hV2 hJ hP hD hS (lv_sub hl [0, 1, 2, 3, 4] rfl)
set_option maxHeartbeats 4000000 in
set_option maxRecDepth 100000 in
theorem lawc_6 {p : Program} {e : Env} {s : State} {m : MethodId} {below : List Frame} {meth : Method} {c : Code} (l : Launch) (hst : l.stackTraces = false) {b L : Nat} {xs : Nat → Int32} {Q : State → Prop} (hx : p.tables.exec = Jvm.exec) (hb : c.code = cL_law) (hml : c.maxLocals = 7) (hown : s.vm.findClass RL = some m.cls) (ht : ∀ w ∈ tw_W, w.before #[Value.ref b] s = true) (hX : va_X b L xs s s.heap) (hbl : b < s.heap.size) {dC : Nat → ClassId} {dI : Nat → Nat → Nat} {cI cB cZ cJ cR : ClassId} {tb : Nat → Nat} {A : Nat → Prop} (hbA : ¬ A b) (hKK : kk_ (dC, dI) (tyS cI cB cZ cJ cR) tb s) (hFx : fx_ tb A s s.heap) (hA : ∀ q, s.heap.size ≤ q → A q) {N : Nat} (hN1 : 256 ≤ N) (hN2 : N ≤ 4096) {B : Int} (hB0 : 0 ≤ B) (hB : B + 50000 ≤ 200000000) {x0 m0 o0 : Nat} {U V : va_W} {g : Nat → Int64} {tz gz : Int} {xz : ZG} (hU : KI N B x0 cI cB cR tz gz xz U) (hV : MIW N B m0 cI cZ cJ tz gz xz V) (hJ : GJz N xz.dt xz.cs xz.ms) {H : Heap} {locs : List Loc} {ls : Array Slot} {cells slots : Nat} (hce : cells + 13 ≤ 601024) (hsl : slots + 338 ≤ 7293000) {iN : Nat} (hi : iN + 6 ≤ L) (hL : L ≤ 3073) (hP : va_P (dC, dI) vwCl ((o0, .inl (cJ, 1, .inr (.inl g))) :: (U ++ V)) H) (hD : va_D A ((o0, .inl (cJ, 1, .inr (.inl g))) :: (U ++ V))) (hS : va_S A s.heap H locs) (hl : lv_has ls 7 [(0, .ref b), (1, .ref x0), (2, .ref m0), (3, .ref o0), (4, .int (nI iN))])
    (key : ∀ (t9 z9 : Int) (x9 : ZG) (g9 : Nat → Int64) (U9 V9 : va_W) (H : Heap) (locs : List Loc) (ls : Array Slot), KI N (B + 50000) x0 cI cB cR t9 z9 x9 U9 → MIW N (B + 50000) m0 cI cZ cJ t9 z9 x9 V9 → GJz N x9.dt x9.cs x9.ms → va_P (dC, dI) vwCl ((o0, .inl (cJ, 1, .inr (.inl g9))) :: (U9 ++ V9)) H → va_D A ((o0, .inl (cJ, 1, .inr (.inl g9))) :: (U9 ++ V9)) → va_S A s.heap H locs → lv_has ls 7 [(0, .ref b), (1, .ref x0), (2, .ref m0), (3, .ref o0), (4, .int (nI iN))] → W p l e room_1 s m #[Value.ref b] below meth c H locs (cells + 13) (slots + 338) Q (F0 m 993 ls [])) : W p l e room_1 s m #[Value.ref b] below meth c H locs cells slots Q (F0 m 397 ls []) := by
  have hK := hKK.1
  refine lv_aload_n hx hb dL_law_397 rfl (lv_at hl 1 rfl) ?_
  refine lv_aload_n hx hb dL_law_398 rfl (lv_at hl 0 rfl) ?_
  refine lv_iload hx hb dL_law_399 (lv_at hl 4 rfl) ?_
  refine lv_iconst (v := 1) hx hb dL_law_401 (by decide) ?_
  refine lv_iadd hx hb dL_law_402 ?_
  refine tp_i (y := nI (iN + 1)) (nI_add iN 1) ?_
  refine va_sld hx hb hX hbl hbA hS (i := nI (iN + 1)) (vp_in_nI (by omega) (by omega)) dL_law_403 ?_
  refine lv_aload_n hx hb dL_law_404 rfl (lv_at hl 0 rfl) ?_
  refine lv_iload hx hb dL_law_405 (lv_at hl 4 rfl) ?_
  refine lv_iconst (v := 2) hx hb dL_law_407 (by decide) ?_
  refine lv_iadd hx hb dL_law_408 ?_
  refine tp_i (y := nI (iN + 2)) (nI_add iN 2) ?_
  refine va_sld hx hb hX hbl hbA hS (i := nI (iN + 2)) (vp_in_nI (by omega) (by omega)) dL_law_409 ?_
  obtain ⟨kr1, fs1, hrc1⟩ := KI.recv hU
  refine cA_i (rn_Vk (n := 2) (As := [.int (xs (nI (iN + 1)).toNatClampNeg), .int (xs (nI (iN + 2)).toNatClampNeg)]) (rest := []) hx hb hml hown ht hKK hFx hP hD hS hA (kl_global l dC dI cI cB cZ cJ cR tb hst H.size x0 N B U hN2 hB tz gz xz hU (xs (nI (iN + 1)).toNatClampNeg) (xs (nI (iN + 2)).toNatClampNeg)) tw_1131 tw_1132 (by decide +kernel) rfl rfl ⟨Nat.le_of_ble_eq_true rfl, Nat.le_of_ble_eq_true rfl⟩ (ixC U.length) (ixC_map _ _ _) (ixC_nd _) kr1 hrc1 rfl rfl rfl hl.1 rfl (Nat.le_of_ble_eq_true rfl) dL_law_410 ⟨by show _ ≤ 601024; omega, by show _ ≤ 7293000; omega⟩) hP hD hS hA (fun r1 u1 H locs hw1 hP hD hS => ?_)
  obtain ⟨hU1, hr1⟩ := hw1
  have hP : va_P (dC, dI) vwCl ((o0, .inl (cJ, 1, .inr (.inl g))) :: (u1 ++ V)) H := hP
  have hD : va_D A ((o0, .inl (cJ, 1, .inr (.inl g))) :: (u1 ++ V)) := hD
  refine W.widen (k := cells + 0) (n := slots + 0) (by omega) (by omega) ?_
  refine lv_pop hx hb dL_law_413 rfl ?_
  refine lv_aload_n hx hb dL_law_414 rfl (lv_at hl 2 rfl) ?_
  refine lv_aload_n hx hb dL_law_415 rfl (lv_at hl 0 rfl) ?_
  refine lv_iload hx hb dL_law_416 (lv_at hl 4 rfl) ?_
  refine lv_iconst (v := 1) hx hb dL_law_418 (by decide) ?_
  refine lv_iadd hx hb dL_law_419 ?_
  refine tp_i (y := nI (iN + 1)) (nI_add iN 1) ?_
  refine va_sld hx hb hX hbl hbA hS (i := nI (iN + 1)) (vp_in_nI (by omega) (by omega)) dL_law_420 ?_
  refine lv_aload_n hx hb dL_law_421 rfl (lv_at hl 0 rfl) ?_
  refine lv_iload hx hb dL_law_422 (lv_at hl 4 rfl) ?_
  refine lv_iconst (v := 2) hx hb dL_law_424 (by decide) ?_
  refine lv_iadd hx hb dL_law_425 ?_
  refine tp_i (y := nI (iN + 2)) (nI_add iN 2) ?_
  refine va_sld hx hb hX hbl hbA hS (i := nI (iN + 2)) (vp_in_nI (by omega) (by omega)) dL_law_426 ?_
  obtain ⟨kr2, fs2, hrc2⟩ := MIW.recv hV
  have hP := va_P.perm hP (List.Perm.cons _ List.perm_append_comm)
  have hD := va_D.perm hD (List.Perm.cons _ List.perm_append_comm)
  refine cA_i (rn_Vk (n := 2) (As := [.int (xs (nI (iN + 1)).toNatClampNeg), .int (xs (nI (iN + 2)).toNatClampNeg)]) (rest := []) hx hb hml hown ht hKK hFx hP hD hS hA (rl_global l dC dI cI cB cZ cJ cR tb H.size m0 N B V hN1 hN2 hB0 hB tz gz xz hV (xs (nI (iN + 1)).toNatClampNeg) (xs (nI (iN + 2)).toNatClampNeg)) tw_1133 tw_1134 (by decide +kernel) rfl rfl ⟨Nat.le_of_ble_eq_true rfl, Nat.le_of_ble_eq_true rfl⟩ (ixC V.length) (ixC_map _ _ _) (ixC_nd _) kr2 hrc2 rfl rfl rfl hl.1 rfl (Nat.le_of_ble_eq_true rfl) dL_law_427 ⟨by show _ ≤ 601024; omega, by show _ ≤ 7293000; omega⟩) hP hD hS hA (fun r2 u2 H locs hw2 hP hD hS => ?_)
  have hP := va_P.perm hP (List.Perm.cons _ List.perm_append_comm)
  have hD := va_D.perm hD (List.Perm.cons _ List.perm_append_comm)
  obtain ⟨hV2, hr2⟩ := hw2
  have hP : va_P (dC, dI) vwCl ((o0, .inl (cJ, 1, .inr (.inl g))) :: (u1 ++ u2)) H := hP
  have hD : va_D A ((o0, .inl (cJ, 1, .inr (.inl g))) :: (u1 ++ u2)) := hD
  refine W.widen (k := cells + 0) (n := slots + 0) (by omega) (by omega) ?_
  refine lv_pop hx hb dL_law_430 rfl ?_
  refine lv_goto (tgt := 993) hx hb dL_law_431 (by decide) ?_
  refine W.widen (k := cells + 13) (n := slots + 338) (by omega) (by omega) ?_
  exact key tz gz xz g u1 u2 H locs ls hU1 hV2 hJ hP hD hS (lv_sub hl [0, 1, 2, 3, 4] rfl)
set_option maxHeartbeats 4000000 in
set_option maxRecDepth 100000 in
theorem lawc_7 {p : Program} {e : Env} {s : State} {m : MethodId} {below : List Frame} {meth : Method} {c : Code} (l : Launch) (hst : l.stackTraces = false) {b L : Nat} {xs : Nat → Int32} {Q : State → Prop} (hx : p.tables.exec = Jvm.exec) (hb : c.code = cL_law) (hml : c.maxLocals = 7) (hown : s.vm.findClass RL = some m.cls) (ht : ∀ w ∈ tw_W, w.before #[Value.ref b] s = true) (hX : va_X b L xs s s.heap) (hbl : b < s.heap.size) {dC : Nat → ClassId} {dI : Nat → Nat → Nat} {cI cB cZ cJ cR : ClassId} {tb : Nat → Nat} {A : Nat → Prop} (hbA : ¬ A b) (hKK : kk_ (dC, dI) (tyS cI cB cZ cJ cR) tb s) (hFx : fx_ tb A s s.heap) (hA : ∀ q, s.heap.size ≤ q → A q) {N : Nat} (hN1 : 256 ≤ N) (hN2 : N ≤ 4096) {B : Int} (hB0 : 0 ≤ B) (hB : B + 50000 ≤ 200000000) {x0 m0 o0 : Nat} {U V : va_W} {g : Nat → Int64} {tz gz : Int} {xz : ZG} (hU : KI N B x0 cI cB cR tz gz xz U) (hV : MIW N B m0 cI cZ cJ tz gz xz V) (hJ : GJz N xz.dt xz.cs xz.ms) {H : Heap} {locs : List Loc} {ls : Array Slot} {cells slots : Nat} (hce : cells + 13 ≤ 601024) (hsl : slots + 338 ≤ 7293000) {iN : Nat} (hi : iN + 6 ≤ L) (hL : L ≤ 3073) (hP : va_P (dC, dI) vwCl ((o0, .inl (cJ, 1, .inr (.inl g))) :: (U ++ V)) H) (hD : va_D A ((o0, .inl (cJ, 1, .inr (.inl g))) :: (U ++ V))) (hS : va_S A s.heap H locs) (hl : lv_has ls 7 [(0, .ref b), (1, .ref x0), (2, .ref m0), (3, .ref o0), (4, .int (nI iN))])
    (key : ∀ (t9 z9 : Int) (x9 : ZG) (g9 : Nat → Int64) (U9 V9 : va_W) (H : Heap) (locs : List Loc) (ls : Array Slot), KI N (B + 50000) x0 cI cB cR t9 z9 x9 U9 → MIW N (B + 50000) m0 cI cZ cJ t9 z9 x9 V9 → GJz N x9.dt x9.cs x9.ms → va_P (dC, dI) vwCl ((o0, .inl (cJ, 1, .inr (.inl g9))) :: (U9 ++ V9)) H → va_D A ((o0, .inl (cJ, 1, .inr (.inl g9))) :: (U9 ++ V9)) → va_S A s.heap H locs → lv_has ls 7 [(0, .ref b), (1, .ref x0), (2, .ref m0), (3, .ref o0), (4, .int (nI iN))] → W p l e room_1 s m #[Value.ref b] below meth c H locs (cells + 13) (slots + 338) Q (F0 m 993 ls [])) : W p l e room_1 s m #[Value.ref b] below meth c H locs cells slots Q (F0 m 434 ls []) := by
  have hK := hKK.1
  refine lv_aload_n hx hb dL_law_434 rfl (lv_at hl 1 rfl) ?_
  refine lv_aload_n hx hb dL_law_435 rfl (lv_at hl 0 rfl) ?_
  refine lv_iload hx hb dL_law_436 (lv_at hl 4 rfl) ?_
  refine lv_iconst (v := 1) hx hb dL_law_438 (by decide) ?_
  refine lv_iadd hx hb dL_law_439 ?_
  refine tp_i (y := nI (iN + 1)) (nI_add iN 1) ?_
  refine va_sld hx hb hX hbl hbA hS (i := nI (iN + 1)) (vp_in_nI (by omega) (by omega)) dL_law_440 ?_
  refine lv_aload_n hx hb dL_law_441 rfl (lv_at hl 3 rfl) ?_
  refine cD_i (A0 := (o0, .inl (cJ, 1, .inr (.inl g))) :: U) (Z := V) (rn_SW (n := 3) (As := [.ref x0, .int (xs (nI (iN + 1)).toNatClampNeg), .ref o0]) (rest := []) hx hb hml hown ht hKK hFx hP hD hS hA (hl_find l dC dI cI cB cZ cJ cR tb hst H.size x0 o0 N B U g hN2 hB tz gz xz hU (xs (nI (iN + 1)).toNatClampNeg)) tw_1135 tw_1136 (by decide +kernel) rfl rfl ⟨Nat.le_of_ble_eq_true rfl, Nat.le_of_ble_eq_true rfl⟩ (List.range ((o0, .inl (cJ, 1, .inr (.inl g))) :: U).length) (ixA_map ((o0, .inl (cJ, 1, .inr (.inl g))) :: U) V) (nd_range _) rfl hl.1 rfl (Nat.le_of_ble_eq_true rfl) dL_law_442 ⟨by show _ ≤ 601024; omega, by show _ ≤ 7293000; omega⟩) hP hD hS hA (fun r1 u1 H locs hw hP hD hS => ?_)
  obtain ⟨g1, U1, hu1, hU1, hcx⟩ := hw
  have hu1 : u1 = (o0, .inl (cJ, 1, .inr (.inl g1))) :: U1 := hu1
  subst hu1
  have hcx : ((r1.toInt = 0 ∧ ∃ q9 : Int32, g1 0 = q9.toInt64 ∧ fiR xz.dt xz.tb tz (xs (nI (iN + 1)).toNatClampNeg) q9) ∨ (r1.toInt = 1 ∧ (xs (nI (iN + 1)).toNatClampNeg).toInt ≠ 0 ∧ (xs (nI (iN + 1)).toNatClampNeg).toInt ≠ 1)) := hcx
  have hka : ((r1.toInt = 0 ∧ ((xs (nI (iN + 1)).toNatClampNeg).toInt = 0 ∨ (xs (nI (iN + 1)).toNatClampNeg).toInt = 1)) ∨ (r1.toInt = 1 ∧ (xs (nI (iN + 1)).toNatClampNeg).toInt ≠ 0 ∧ (xs (nI (iN + 1)).toNatClampNeg).toInt ≠ 1)) := hcx.elim (fun z => Or.inl ⟨z.1, z.2.elim (fun _ y => fiR.pa y.2)⟩) Or.inr
  have hP : va_P (dC, dI) vwCl ((o0, .inl (cJ, 1, .inr (.inl g1))) :: (U1 ++ V)) H := hP
  have hD : va_D A ((o0, .inl (cJ, 1, .inr (.inl g1))) :: (U1 ++ V)) := hD
  refine W.widen (k := cells + 1) (n := slots + 6) (by omega) (by omega) ?_
  refine lv_istore (lv' := [(5, .int r1), (0, .ref b), (1, .ref x0), (2, .ref m0), (3, .ref o0), (4, .int (nI iN))]) hx hb dL_law_445 hl (by decide) rfl (fun ls hl => ?_)
  refine lv_aload_n hx hb dL_law_447 rfl (lv_at hl 3 rfl) ?_
  refine lv_aload_n hx hb dL_law_448 rfl (lv_at hl 1 rfl) ?_
  refine lv_iload hx hb dL_law_449 (lv_at hl 5 rfl) ?_
  refine lv_iconst (v := 1) hx hb dL_law_451 (by decide) ?_
  refine lv_iadd hx hb dL_law_452 ?_
  refine tp_i (y := nI (iN + 1)) (nI_add iN 1) ?_
  refine va_sld hx hb hX hbl hbA hS (i := nI (iN + 1)) (vp_in_nI (by omega) (by omega)) dL_law_453 ?_
  obtain ⟨kr2, fs2, hrc2⟩ := MIW.recv hV
  have hP := va_P.perm hP (List.Perm.cons _ List.perm_append_comm)
  have hD := va_D.perm hD (List.Perm.cons _ List.perm_append_comm)
  refine cA_i (rn_Vk (n := 1) (As := [.int (xs (nI (iN + 1)).toNatClampNeg)]) (rest := []) hx hb hml hown ht hKK hFx hP hD hS hA (rl_find l dC dI cI cB cZ cJ cR tb H.size m0 N B V hN1 hN2 hB0 hB tz gz xz hV (xs (nI (iN + 1)).toNatClampNeg)) tw_1137 tw_1138 (by decide +kernel) rfl rfl ⟨Nat.le_of_ble_eq_true rfl, Nat.le_of_ble_eq_true rfl⟩ (ixC V.length) (ixC_map _ _ _) (ixC_nd _) kr2 hrc2 rfl rfl rfl hl.1 rfl (Nat.le_of_ble_eq_true rfl) dL_law_454 ⟨by show _ ≤ 601024; omega, by show _ ≤ 7293000; omega⟩) hP hD hS hA (fun r2 u2 H locs hw2 hP hD hS => ?_)
  have hP := va_P.perm hP (List.Perm.cons _ List.perm_append_comm)
  have hD := va_D.perm hD (List.Perm.cons _ List.perm_append_comm)
  have hP : va_P (dC, dI) vwCl ((o0, .inl (cJ, 1, .inr (.inl g1))) :: (U1 ++ u2)) H := hP
  have hD : va_D A ((o0, .inl (cJ, 1, .inr (.inl g1))) :: (U1 ++ u2)) := hD
  refine W.widen (k := cells + 1) (n := slots + 6) (by omega) (by omega) ?_
  refine lv_istore (lv' := [(6, .int r2), (5, .int r1), (0, .ref b), (1, .ref x0), (2, .ref m0), (3, .ref o0), (4, .int (nI iN))]) hx hb dL_law_457 hl (by decide) rfl (fun ls hl => ?_)
  refine lv_goto (tgt := 993) hx hb dL_law_459 (by decide) ?_
  refine W.widen (k := cells + 13) (n := slots + 338) (by omega) (by omega) ?_
  exact key tz gz xz g1 U1 u2 H locs ls hU1 hw2.w hJ hP hD hS (lv_sub hl [2, 3, 4, 5, 6] rfl)
set_option maxHeartbeats 4000000 in
set_option maxRecDepth 100000 in
theorem lawc_8 {p : Program} {e : Env} {s : State} {m : MethodId} {below : List Frame} {meth : Method} {c : Code} (l : Launch) (hst : l.stackTraces = false) {b L : Nat} {xs : Nat → Int32} {Q : State → Prop} (hx : p.tables.exec = Jvm.exec) (hb : c.code = cL_law) (hml : c.maxLocals = 7) (hown : s.vm.findClass RL = some m.cls) (ht : ∀ w ∈ tw_W, w.before #[Value.ref b] s = true) (hX : va_X b L xs s s.heap) (hbl : b < s.heap.size) {dC : Nat → ClassId} {dI : Nat → Nat → Nat} {cI cB cZ cJ cR : ClassId} {tb : Nat → Nat} {A : Nat → Prop} (hbA : ¬ A b) (hKK : kk_ (dC, dI) (tyS cI cB cZ cJ cR) tb s) (hFx : fx_ tb A s s.heap) (hA : ∀ q, s.heap.size ≤ q → A q) {N : Nat} (hN1 : 256 ≤ N) (hN2 : N ≤ 4096) {B : Int} (hB0 : 0 ≤ B) (hB : B + 50000 ≤ 200000000) {x0 m0 o0 : Nat} {U V : va_W} {g : Nat → Int64} {tz gz : Int} {xz : ZG} (hU : KI N B x0 cI cB cR tz gz xz U) (hV : MIW N B m0 cI cZ cJ tz gz xz V) (hJ : GJz N xz.dt xz.cs xz.ms) {H : Heap} {locs : List Loc} {ls : Array Slot} {cells slots : Nat} (hce : cells + 13 ≤ 601024) (hsl : slots + 338 ≤ 7293000) {iN : Nat} (hi : iN + 6 ≤ L) (hL : L ≤ 3073) (hP : va_P (dC, dI) vwCl ((o0, .inl (cJ, 1, .inr (.inl g))) :: (U ++ V)) H) (hD : va_D A ((o0, .inl (cJ, 1, .inr (.inl g))) :: (U ++ V))) (hS : va_S A s.heap H locs) (hl : lv_has ls 7 [(0, .ref b), (1, .ref x0), (2, .ref m0), (3, .ref o0), (4, .int (nI iN))])
    (key : ∀ (t9 z9 : Int) (x9 : ZG) (g9 : Nat → Int64) (U9 V9 : va_W) (H : Heap) (locs : List Loc) (ls : Array Slot), KI N (B + 50000) x0 cI cB cR t9 z9 x9 U9 → MIW N (B + 50000) m0 cI cZ cJ t9 z9 x9 V9 → GJz N x9.dt x9.cs x9.ms → va_P (dC, dI) vwCl ((o0, .inl (cJ, 1, .inr (.inl g9))) :: (U9 ++ V9)) H → va_D A ((o0, .inl (cJ, 1, .inr (.inl g9))) :: (U9 ++ V9)) → va_S A s.heap H locs → lv_has ls 7 [(0, .ref b), (1, .ref x0), (2, .ref m0), (3, .ref o0), (4, .int (nI iN))] → W p l e room_1 s m #[Value.ref b] below meth c H locs (cells + 13) (slots + 338) Q (F0 m 993 ls [])) : W p l e room_1 s m #[Value.ref b] below meth c H locs cells slots Q (F0 m 462 ls []) := by
  have hK := hKK.1
  refine lv_aload_n hx hb dL_law_462 rfl (lv_at hl 1 rfl) ?_
  refine lv_aload_n hx hb dL_law_463 rfl (lv_at hl 0 rfl) ?_
  refine lv_iload hx hb dL_law_464 (lv_at hl 4 rfl) ?_
  refine lv_iconst (v := 1) hx hb dL_law_466 (by decide) ?_
  refine lv_iadd hx hb dL_law_467 ?_
  refine tp_i (y := nI (iN + 1)) (nI_add iN 1) ?_
  refine va_sld hx hb hX hbl hbA hS (i := nI (iN + 1)) (vp_in_nI (by omega) (by omega)) dL_law_468 ?_
  obtain ⟨kr1, fs1, hrc1⟩ := KI.recv hU
  refine cA_i (rn_Vk (n := 1) (As := [.int (xs (nI (iN + 1)).toNatClampNeg)]) (rest := []) hx hb hml hown ht hKK hFx hP hD hS hA (kl_give l dC dI cI cB cZ cJ cR tb hst H.size x0 N B U hN2 hB tz gz xz hU (xs (nI (iN + 1)).toNatClampNeg)) tw_1139 tw_1140 (by decide +kernel) rfl rfl ⟨Nat.le_of_ble_eq_true rfl, Nat.le_of_ble_eq_true rfl⟩ (ixC U.length) (ixC_map _ _ _) (ixC_nd _) kr1 hrc1 rfl rfl rfl hl.1 rfl (Nat.le_of_ble_eq_true rfl) dL_law_469 ⟨by show _ ≤ 601024; omega, by show _ ≤ 7293000; omega⟩) hP hD hS hA (fun r1 u1 H locs hw1 hP hD hS => ?_)
  obtain ⟨t1, z1, hU1, hr1⟩ := hw1
  have hP : va_P (dC, dI) vwCl ((o0, .inl (cJ, 1, .inr (.inl g))) :: (u1 ++ V)) H := hP
  have hD : va_D A ((o0, .inl (cJ, 1, .inr (.inl g))) :: (u1 ++ V)) := hD
  refine W.widen (k := cells + 0) (n := slots + 0) (by omega) (by omega) ?_
  refine lv_pop hx hb dL_law_472 rfl ?_
  refine lv_aload_n hx hb dL_law_473 rfl (lv_at hl 2 rfl) ?_
  refine lv_aload_n hx hb dL_law_474 rfl (lv_at hl 0 rfl) ?_
  refine lv_iload hx hb dL_law_475 (lv_at hl 4 rfl) ?_
  refine lv_iconst (v := 1) hx hb dL_law_477 (by decide) ?_
  refine lv_iadd hx hb dL_law_478 ?_
  refine tp_i (y := nI (iN + 1)) (nI_add iN 1) ?_
  refine va_sld hx hb hX hbl hbA hS (i := nI (iN + 1)) (vp_in_nI (by omega) (by omega)) dL_law_479 ?_
  obtain ⟨kr2, fs2, hrc2⟩ := MIW.recv hV
  have hP := va_P.perm hP (List.Perm.cons _ List.perm_append_comm)
  have hD := va_D.perm hD (List.Perm.cons _ List.perm_append_comm)
  refine cA_i (rn_Vk (n := 1) (As := [.int (xs (nI (iN + 1)).toNatClampNeg)]) (rest := []) hx hb hml hown ht hKK hFx hP hD hS hA (rl_give l dC dI cI cB cZ cJ cR tb H.size m0 N B V hN1 hN2 hB0 hB tz gz xz hV (xs (nI (iN + 1)).toNatClampNeg)) tw_1141 tw_1142 (by decide +kernel) rfl rfl ⟨Nat.le_of_ble_eq_true rfl, Nat.le_of_ble_eq_true rfl⟩ (ixC V.length) (ixC_map _ _ _) (ixC_nd _) kr2 hrc2 rfl rfl rfl hl.1 rfl (Nat.le_of_ble_eq_true rfl) dL_law_480 ⟨by show _ ≤ 601024; omega, by show _ ≤ 7293000; omega⟩) hP hD hS hA (fun r2 u2 H locs hw2 hP hD hS => ?_)
  have hP := va_P.perm hP (List.Perm.cons _ List.perm_append_comm)
  have hD := va_D.perm hD (List.Perm.cons _ List.perm_append_comm)
  obtain ⟨t2, z2, hV2, hr2⟩ := hw2
  rw [show t2 = t1 by omega, show z2 = z1 by omega] at hV2
  have hP : va_P (dC, dI) vwCl ((o0, .inl (cJ, 1, .inr (.inl g))) :: (u1 ++ u2)) H := hP
  have hD : va_D A ((o0, .inl (cJ, 1, .inr (.inl g))) :: (u1 ++ u2)) := hD
  refine W.widen (k := cells + 0) (n := slots + 0) (by omega) (by omega) ?_
  refine lv_pop hx hb dL_law_483 rfl ?_
  refine lv_goto (tgt := 993) hx hb dL_law_484 (by decide) ?_
  refine W.widen (k := cells + 13) (n := slots + 338) (by omega) (by omega) ?_
  exact key t1 z1 (xz.gi gz (xs (nI (iN + 1)).toNatClampNeg)) g u1 u2 H locs ls hU1 hV2 hJ hP hD hS (lv_sub hl [0, 1, 2, 3, 4] rfl)
set_option maxHeartbeats 4000000 in
set_option maxRecDepth 100000 in
theorem lawc_9 {p : Program} {e : Env} {s : State} {m : MethodId} {below : List Frame} {meth : Method} {c : Code} (l : Launch) (hst : l.stackTraces = false) {b L : Nat} {xs : Nat → Int32} {Q : State → Prop} (hx : p.tables.exec = Jvm.exec) (hb : c.code = cL_law) (hml : c.maxLocals = 7) (hown : s.vm.findClass RL = some m.cls) (ht : ∀ w ∈ tw_W, w.before #[Value.ref b] s = true) (hX : va_X b L xs s s.heap) (hbl : b < s.heap.size) {dC : Nat → ClassId} {dI : Nat → Nat → Nat} {cI cB cZ cJ cR : ClassId} {tb : Nat → Nat} {A : Nat → Prop} (hbA : ¬ A b) (hKK : kk_ (dC, dI) (tyS cI cB cZ cJ cR) tb s) (hFx : fx_ tb A s s.heap) (hA : ∀ q, s.heap.size ≤ q → A q) {N : Nat} (hN1 : 256 ≤ N) (hN2 : N ≤ 4096) {B : Int} (hB0 : 0 ≤ B) (hB : B + 50000 ≤ 200000000) {x0 m0 o0 : Nat} {U V : va_W} {g : Nat → Int64} {tz gz : Int} {xz : ZG} (hU : KI N B x0 cI cB cR tz gz xz U) (hV : MIW N B m0 cI cZ cJ tz gz xz V) (hJ : GJz N xz.dt xz.cs xz.ms) {H : Heap} {locs : List Loc} {ls : Array Slot} {cells slots : Nat} (hce : cells + 13 ≤ 601024) (hsl : slots + 338 ≤ 7293000) {iN : Nat} (hi : iN + 6 ≤ L) (hL : L ≤ 3073) (hP : va_P (dC, dI) vwCl ((o0, .inl (cJ, 1, .inr (.inl g))) :: (U ++ V)) H) (hD : va_D A ((o0, .inl (cJ, 1, .inr (.inl g))) :: (U ++ V))) (hS : va_S A s.heap H locs) (hl : lv_has ls 7 [(0, .ref b), (1, .ref x0), (2, .ref m0), (3, .ref o0), (4, .int (nI iN))])
    (key : ∀ (t9 z9 : Int) (x9 : ZG) (g9 : Nat → Int64) (U9 V9 : va_W) (H : Heap) (locs : List Loc) (ls : Array Slot), KI N (B + 50000) x0 cI cB cR t9 z9 x9 U9 → MIW N (B + 50000) m0 cI cZ cJ t9 z9 x9 V9 → GJz N x9.dt x9.cs x9.ms → va_P (dC, dI) vwCl ((o0, .inl (cJ, 1, .inr (.inl g9))) :: (U9 ++ V9)) H → va_D A ((o0, .inl (cJ, 1, .inr (.inl g9))) :: (U9 ++ V9)) → va_S A s.heap H locs → lv_has ls 7 [(0, .ref b), (1, .ref x0), (2, .ref m0), (3, .ref o0), (4, .int (nI iN))] → W p l e room_1 s m #[Value.ref b] below meth c H locs (cells + 13) (slots + 338) Q (F0 m 993 ls [])) : W p l e room_1 s m #[Value.ref b] below meth c H locs cells slots Q (F0 m 487 ls []) := by
  have hK := hKK.1
  refine lv_aload_n hx hb dL_law_487 rfl (lv_at hl 1 rfl) ?_
  obtain ⟨kr1, fs1, hrc1⟩ := KI.recv hU
  refine cA_i (rn_Vk (n := 0) (As := []) (rest := []) hx hb hml hown ht hKK hFx hP hD hS hA (kl_forget l dC dI cI cB cZ cJ cR tb hst H.size x0 N B U hN2 hB tz gz xz hU ) tw_1143 tw_1144 (by decide +kernel) rfl rfl ⟨Nat.le_of_ble_eq_true rfl, Nat.le_of_ble_eq_true rfl⟩ (ixC U.length) (ixC_map _ _ _) (ixC_nd _) kr1 hrc1 rfl rfl rfl hl.1 rfl (Nat.le_of_ble_eq_true rfl) dL_law_488 ⟨by show _ ≤ 601024; omega, by show _ ≤ 7293000; omega⟩) hP hD hS hA (fun r1 u1 H locs hw1 hP hD hS => ?_)
  obtain ⟨t1, z1, hU1, hr1⟩ := hw1
  have hP : va_P (dC, dI) vwCl ((o0, .inl (cJ, 1, .inr (.inl g))) :: (u1 ++ V)) H := hP
  have hD : va_D A ((o0, .inl (cJ, 1, .inr (.inl g))) :: (u1 ++ V)) := hD
  refine W.widen (k := cells + 0) (n := slots + 0) (by omega) (by omega) ?_
  refine lv_pop hx hb dL_law_491 rfl ?_
  refine lv_aload_n hx hb dL_law_492 rfl (lv_at hl 2 rfl) ?_
  obtain ⟨kr2, fs2, hrc2⟩ := MIW.recv hV
  have hP := va_P.perm hP (List.Perm.cons _ List.perm_append_comm)
  have hD := va_D.perm hD (List.Perm.cons _ List.perm_append_comm)
  refine cA_i (rn_Vk (n := 0) (As := []) (rest := []) hx hb hml hown ht hKK hFx hP hD hS hA (rl_forget l dC dI cI cB cZ cJ cR tb H.size m0 N B V hN1 hN2 hB0 hB tz gz xz hV ) tw_1145 tw_1146 (by decide +kernel) rfl rfl ⟨Nat.le_of_ble_eq_true rfl, Nat.le_of_ble_eq_true rfl⟩ (ixC V.length) (ixC_map _ _ _) (ixC_nd _) kr2 hrc2 rfl rfl rfl hl.1 rfl (Nat.le_of_ble_eq_true rfl) dL_law_493 ⟨by show _ ≤ 601024; omega, by show _ ≤ 7293000; omega⟩) hP hD hS hA (fun r2 u2 H locs hw2 hP hD hS => ?_)
  have hP := va_P.perm hP (List.Perm.cons _ List.perm_append_comm)
  have hD := va_D.perm hD (List.Perm.cons _ List.perm_append_comm)
  obtain ⟨t2, z2, hV2, hr2⟩ := hw2
  rw [show t2 = t1 by omega, show z2 = z1 by omega] at hV2
  have hP : va_P (dC, dI) vwCl ((o0, .inl (cJ, 1, .inr (.inl g))) :: (u1 ++ u2)) H := hP
  have hD : va_D A ((o0, .inl (cJ, 1, .inr (.inl g))) :: (u1 ++ u2)) := hD
  refine W.widen (k := cells + 0) (n := slots + 0) (by omega) (by omega) ?_
  refine lv_pop hx hb dL_law_496 rfl ?_
  refine lv_goto (tgt := 993) hx hb dL_law_497 (by decide) ?_
  refine W.widen (k := cells + 13) (n := slots + 338) (by omega) (by omega) ?_
  exact key t1 z1 xz g u1 u2 H locs ls hU1 hV2 hJ hP hD hS (lv_sub hl [0, 1, 2, 3, 4] rfl)
set_option maxHeartbeats 4000000 in
set_option maxRecDepth 100000 in
theorem lawc_10 {p : Program} {e : Env} {s : State} {m : MethodId} {below : List Frame} {meth : Method} {c : Code} (l : Launch) (hst : l.stackTraces = false) {b L : Nat} {xs : Nat → Int32} {Q : State → Prop} (hx : p.tables.exec = Jvm.exec) (hb : c.code = cL_law) (hml : c.maxLocals = 7) (hown : s.vm.findClass RL = some m.cls) (ht : ∀ w ∈ tw_W, w.before #[Value.ref b] s = true) (hX : va_X b L xs s s.heap) (hbl : b < s.heap.size) {dC : Nat → ClassId} {dI : Nat → Nat → Nat} {cI cB cZ cJ cR : ClassId} {tb : Nat → Nat} {A : Nat → Prop} (hbA : ¬ A b) (hKK : kk_ (dC, dI) (tyS cI cB cZ cJ cR) tb s) (hFx : fx_ tb A s s.heap) (hA : ∀ q, s.heap.size ≤ q → A q) {N : Nat} (hN1 : 256 ≤ N) (hN2 : N ≤ 4096) {B : Int} (hB0 : 0 ≤ B) (hB : B + 50000 ≤ 200000000) {x0 m0 o0 : Nat} {U V : va_W} {g : Nat → Int64} {tz gz : Int} {xz : ZG} (hU : KI N B x0 cI cB cR tz gz xz U) (hV : MIW N B m0 cI cZ cJ tz gz xz V) (hJ : GJz N xz.dt xz.cs xz.ms) {H : Heap} {locs : List Loc} {ls : Array Slot} {cells slots : Nat} (hce : cells + 13 ≤ 601024) (hsl : slots + 338 ≤ 7293000) {iN : Nat} (hi : iN + 6 ≤ L) (hL : L ≤ 3073) (hP : va_P (dC, dI) vwCl ((o0, .inl (cJ, 1, .inr (.inl g))) :: (U ++ V)) H) (hD : va_D A ((o0, .inl (cJ, 1, .inr (.inl g))) :: (U ++ V))) (hS : va_S A s.heap H locs) (hl : lv_has ls 7 [(0, .ref b), (1, .ref x0), (2, .ref m0), (3, .ref o0), (4, .int (nI iN))])
    (key : ∀ (t9 z9 : Int) (x9 : ZG) (g9 : Nat → Int64) (U9 V9 : va_W) (H : Heap) (locs : List Loc) (ls : Array Slot), KI N (B + 50000) x0 cI cB cR t9 z9 x9 U9 → MIW N (B + 50000) m0 cI cZ cJ t9 z9 x9 V9 → GJz N x9.dt x9.cs x9.ms → va_P (dC, dI) vwCl ((o0, .inl (cJ, 1, .inr (.inl g9))) :: (U9 ++ V9)) H → va_D A ((o0, .inl (cJ, 1, .inr (.inl g9))) :: (U9 ++ V9)) → va_S A s.heap H locs → lv_has ls 7 [(0, .ref b), (1, .ref x0), (2, .ref m0), (3, .ref o0), (4, .int (nI iN))] → W p l e room_1 s m #[Value.ref b] below meth c H locs (cells + 13) (slots + 338) Q (F0 m 993 ls [])) : W p l e room_1 s m #[Value.ref b] below meth c H locs cells slots Q (F0 m 500 ls []) := by
  have hK := hKK.1
  refine lv_aload_n hx hb dL_law_500 rfl (lv_at hl 1 rfl) ?_
  refine lv_aload_n hx hb dL_law_501 rfl (lv_at hl 0 rfl) ?_
  refine lv_iload hx hb dL_law_502 (lv_at hl 4 rfl) ?_
  refine lv_iconst (v := 1) hx hb dL_law_504 (by decide) ?_
  refine lv_iadd hx hb dL_law_505 ?_
  refine tp_i (y := nI (iN + 1)) (nI_add iN 1) ?_
  refine va_sld hx hb hX hbl hbA hS (i := nI (iN + 1)) (vp_in_nI (by omega) (by omega)) dL_law_506 ?_
  refine lv_aload_n hx hb dL_law_507 rfl (lv_at hl 0 rfl) ?_
  refine lv_iload hx hb dL_law_508 (lv_at hl 4 rfl) ?_
  refine lv_iconst (v := 2) hx hb dL_law_510 (by decide) ?_
  refine lv_iadd hx hb dL_law_511 ?_
  refine tp_i (y := nI (iN + 2)) (nI_add iN 2) ?_
  refine va_sld hx hb hX hbl hbA hS (i := nI (iN + 2)) (vp_in_nI (by omega) (by omega)) dL_law_512 ?_
  refine lv_aload_n hx hb dL_law_513 rfl (lv_at hl 0 rfl) ?_
  refine lv_iload hx hb dL_law_514 (lv_at hl 4 rfl) ?_
  refine lv_iconst (v := 3) hx hb dL_law_516 (by decide) ?_
  refine lv_iadd hx hb dL_law_517 ?_
  refine tp_i (y := nI (iN + 3)) (nI_add iN 3) ?_
  refine va_sld hx hb hX hbl hbA hS (i := nI (iN + 3)) (vp_in_nI (by omega) (by omega)) dL_law_518 ?_
  obtain ⟨kr1, fs1, hrc1⟩ := KI.recv hU
  refine cA_i (rn_Vk (n := 3) (As := [.int (xs (nI (iN + 1)).toNatClampNeg), .int (xs (nI (iN + 2)).toNatClampNeg), .int (xs (nI (iN + 3)).toNatClampNeg)]) (rest := []) hx hb hml hown ht hKK hFx hP hD hS hA (kl_start l dC dI cI cB cZ cJ cR tb hst H.size x0 N B U hN2 hB tz gz xz hU (xs (nI (iN + 1)).toNatClampNeg) (xs (nI (iN + 2)).toNatClampNeg) (xs (nI (iN + 3)).toNatClampNeg)) tw_1147 tw_1148 (by decide +kernel) rfl rfl ⟨Nat.le_of_ble_eq_true rfl, Nat.le_of_ble_eq_true rfl⟩ (ixC U.length) (ixC_map _ _ _) (ixC_nd _) kr1 hrc1 rfl rfl rfl hl.1 rfl (Nat.le_of_ble_eq_true rfl) dL_law_519 ⟨by show _ ≤ 601024; omega, by show _ ≤ 7293000; omega⟩) hP hD hS hA (fun r1 u1 H locs hw1 hP hD hS => ?_)
  obtain ⟨hU1, hr1⟩ := hw1
  have hP : va_P (dC, dI) vwCl ((o0, .inl (cJ, 1, .inr (.inl g))) :: (u1 ++ V)) H := hP
  have hD : va_D A ((o0, .inl (cJ, 1, .inr (.inl g))) :: (u1 ++ V)) := hD
  refine W.widen (k := cells + 0) (n := slots + 0) (by omega) (by omega) ?_
  refine lv_pop hx hb dL_law_522 rfl ?_
  refine lv_aload_n hx hb dL_law_523 rfl (lv_at hl 2 rfl) ?_
  refine lv_aload_n hx hb dL_law_524 rfl (lv_at hl 0 rfl) ?_
  refine lv_iload hx hb dL_law_525 (lv_at hl 4 rfl) ?_
  refine lv_iconst (v := 1) hx hb dL_law_527 (by decide) ?_
  refine lv_iadd hx hb dL_law_528 ?_
  refine tp_i (y := nI (iN + 1)) (nI_add iN 1) ?_
  refine va_sld hx hb hX hbl hbA hS (i := nI (iN + 1)) (vp_in_nI (by omega) (by omega)) dL_law_529 ?_
  refine lv_aload_n hx hb dL_law_530 rfl (lv_at hl 0 rfl) ?_
  refine lv_iload hx hb dL_law_531 (lv_at hl 4 rfl) ?_
  refine lv_iconst (v := 2) hx hb dL_law_533 (by decide) ?_
  refine lv_iadd hx hb dL_law_534 ?_
  refine tp_i (y := nI (iN + 2)) (nI_add iN 2) ?_
  refine va_sld hx hb hX hbl hbA hS (i := nI (iN + 2)) (vp_in_nI (by omega) (by omega)) dL_law_535 ?_
  refine lv_aload_n hx hb dL_law_536 rfl (lv_at hl 0 rfl) ?_
  refine lv_iload hx hb dL_law_537 (lv_at hl 4 rfl) ?_
  refine lv_iconst (v := 3) hx hb dL_law_539 (by decide) ?_
  refine lv_iadd hx hb dL_law_540 ?_
  refine tp_i (y := nI (iN + 3)) (nI_add iN 3) ?_
  refine va_sld hx hb hX hbl hbA hS (i := nI (iN + 3)) (vp_in_nI (by omega) (by omega)) dL_law_541 ?_
  obtain ⟨kr2, fs2, hrc2⟩ := MIW.recv hV
  have hP := va_P.perm hP (List.Perm.cons _ List.perm_append_comm)
  have hD := va_D.perm hD (List.Perm.cons _ List.perm_append_comm)
  refine cA_i (rn_Vk (n := 3) (As := [.int (xs (nI (iN + 1)).toNatClampNeg), .int (xs (nI (iN + 2)).toNatClampNeg), .int (xs (nI (iN + 3)).toNatClampNeg)]) (rest := []) hx hb hml hown ht hKK hFx hP hD hS hA (rl_start l dC dI cI cB cZ cJ cR tb H.size m0 N B V hN1 hN2 hB0 hB tz gz xz hV (xs (nI (iN + 1)).toNatClampNeg) (xs (nI (iN + 2)).toNatClampNeg) (xs (nI (iN + 3)).toNatClampNeg)) tw_1149 tw_1150 (by decide +kernel) rfl rfl ⟨Nat.le_of_ble_eq_true rfl, Nat.le_of_ble_eq_true rfl⟩ (ixC V.length) (ixC_map _ _ _) (ixC_nd _) kr2 hrc2 rfl rfl rfl hl.1 rfl (Nat.le_of_ble_eq_true rfl) dL_law_542 ⟨by show _ ≤ 601024; omega, by show _ ≤ 7293000; omega⟩) hP hD hS hA (fun r2 u2 H locs hw2 hP hD hS => ?_)
  have hP := va_P.perm hP (List.Perm.cons _ List.perm_append_comm)
  have hD := va_D.perm hD (List.Perm.cons _ List.perm_append_comm)
  obtain ⟨hV2, hr2⟩ := hw2
  have hP : va_P (dC, dI) vwCl ((o0, .inl (cJ, 1, .inr (.inl g))) :: (u1 ++ u2)) H := hP
  have hD : va_D A ((o0, .inl (cJ, 1, .inr (.inl g))) :: (u1 ++ u2)) := hD
  refine W.widen (k := cells + 0) (n := slots + 0) (by omega) (by omega) ?_
  refine lv_pop hx hb dL_law_545 rfl ?_
  refine lv_goto (tgt := 993) hx hb dL_law_546 (by decide) ?_
  refine W.widen (k := cells + 13) (n := slots + 338) (by omega) (by omega) ?_
  exact key tz gz xz g u1 u2 H locs ls hU1 hV2 hJ hP hD hS (lv_sub hl [0, 1, 2, 3, 4] rfl)
set_option maxHeartbeats 4000000 in
set_option maxRecDepth 100000 in
theorem lawc_11 {p : Program} {e : Env} {s : State} {m : MethodId} {below : List Frame} {meth : Method} {c : Code} (l : Launch) (hst : l.stackTraces = false) {b L : Nat} {xs : Nat → Int32} {Q : State → Prop} (hx : p.tables.exec = Jvm.exec) (hb : c.code = cL_law) (hml : c.maxLocals = 7) (hown : s.vm.findClass RL = some m.cls) (ht : ∀ w ∈ tw_W, w.before #[Value.ref b] s = true) (hX : va_X b L xs s s.heap) (hbl : b < s.heap.size) {dC : Nat → ClassId} {dI : Nat → Nat → Nat} {cI cB cZ cJ cR : ClassId} {tb : Nat → Nat} {A : Nat → Prop} (hbA : ¬ A b) (hKK : kk_ (dC, dI) (tyS cI cB cZ cJ cR) tb s) (hFx : fx_ tb A s s.heap) (hA : ∀ q, s.heap.size ≤ q → A q) {N : Nat} (hN1 : 256 ≤ N) (hN2 : N ≤ 4096) {B : Int} (hB0 : 0 ≤ B) (hB : B + 50000 ≤ 200000000) {x0 m0 o0 : Nat} {U V : va_W} {g : Nat → Int64} {tz gz : Int} {xz : ZG} (hU : KI N B x0 cI cB cR tz gz xz U) (hV : MIW N B m0 cI cZ cJ tz gz xz V) (hJ : GJz N xz.dt xz.cs xz.ms) {H : Heap} {locs : List Loc} {ls : Array Slot} {cells slots : Nat} (hce : cells + 13 ≤ 601024) (hsl : slots + 338 ≤ 7293000) {iN : Nat} (hi : iN + 6 ≤ L) (hL : L ≤ 3073) (hP : va_P (dC, dI) vwCl ((o0, .inl (cJ, 1, .inr (.inl g))) :: (U ++ V)) H) (hD : va_D A ((o0, .inl (cJ, 1, .inr (.inl g))) :: (U ++ V))) (hS : va_S A s.heap H locs) (hl : lv_has ls 7 [(0, .ref b), (1, .ref x0), (2, .ref m0), (3, .ref o0), (4, .int (nI iN))])
    (key : ∀ (t9 z9 : Int) (x9 : ZG) (g9 : Nat → Int64) (U9 V9 : va_W) (H : Heap) (locs : List Loc) (ls : Array Slot), KI N (B + 50000) x0 cI cB cR t9 z9 x9 U9 → MIW N (B + 50000) m0 cI cZ cJ t9 z9 x9 V9 → GJz N x9.dt x9.cs x9.ms → va_P (dC, dI) vwCl ((o0, .inl (cJ, 1, .inr (.inl g9))) :: (U9 ++ V9)) H → va_D A ((o0, .inl (cJ, 1, .inr (.inl g9))) :: (U9 ++ V9)) → va_S A s.heap H locs → lv_has ls 7 [(0, .ref b), (1, .ref x0), (2, .ref m0), (3, .ref o0), (4, .int (nI iN))] → W p l e room_1 s m #[Value.ref b] below meth c H locs (cells + 13) (slots + 338) Q (F0 m 993 ls [])) : W p l e room_1 s m #[Value.ref b] below meth c H locs cells slots Q (F0 m 549 ls []) := by
  have hK := hKK.1
  refine lv_aload_n hx hb dL_law_549 rfl (lv_at hl 1 rfl) ?_
  obtain ⟨kr1, fs1, hrc1⟩ := KI.recv hU
  refine cA_i (rn_Vk (n := 0) (As := []) (rest := []) hx hb hml hown ht hKK hFx hP hD hS hA (kl_step l dC dI cI cB cZ cJ cR tb hst H.size x0 N B U hN2 hB tz gz xz hU ) tw_1151 tw_1152 (by decide +kernel) rfl rfl ⟨Nat.le_of_ble_eq_true rfl, Nat.le_of_ble_eq_true rfl⟩ (ixC U.length) (ixC_map _ _ _) (ixC_nd _) kr1 hrc1 rfl rfl rfl hl.1 rfl (Nat.le_of_ble_eq_true rfl) dL_law_550 ⟨by show _ ≤ 601024; omega, by show _ ≤ 7293000; omega⟩) hP hD hS hA (fun r1 u1 H locs hw1 hP hD hS => ?_)
  have hP : va_P (dC, dI) vwCl ((o0, .inl (cJ, 1, .inr (.inl g))) :: (u1 ++ V)) H := hP
  have hD : va_D A ((o0, .inl (cJ, 1, .inr (.inl g))) :: (u1 ++ V)) := hD
  refine W.widen (k := cells + 0) (n := slots + 0) (by omega) (by omega) ?_
  refine lv_pop hx hb dL_law_553 rfl ?_
  refine lv_aload_n hx hb dL_law_554 rfl (lv_at hl 2 rfl) ?_
  obtain ⟨kr2, fs2, hrc2⟩ := MIW.recv hV
  have hP := va_P.perm hP (List.Perm.cons _ List.perm_append_comm)
  have hD := va_D.perm hD (List.Perm.cons _ List.perm_append_comm)
  refine cA_i (rn_Vk (n := 0) (As := []) (rest := []) hx hb hml hown ht hKK hFx hP hD hS hA (rl_step l dC dI cI cB cZ cJ cR tb H.size m0 N B V hN1 hN2 hB0 hB tz gz xz hV ) tw_1153 tw_1154 (by decide +kernel) rfl rfl ⟨Nat.le_of_ble_eq_true rfl, Nat.le_of_ble_eq_true rfl⟩ (ixC V.length) (ixC_map _ _ _) (ixC_nd _) kr2 hrc2 rfl rfl rfl hl.1 rfl (Nat.le_of_ble_eq_true rfl) dL_law_555 ⟨by show _ ≤ 601024; omega, by show _ ≤ 7293000; omega⟩) hP hD hS hA (fun r2 u2 H locs hw2 hP hD hS => ?_)
  have hP := va_P.perm hP (List.Perm.cons _ List.perm_append_comm)
  have hD := va_D.perm hD (List.Perm.cons _ List.perm_append_comm)
  have hP : va_P (dC, dI) vwCl ((o0, .inl (cJ, 1, .inr (.inl g))) :: (u1 ++ u2)) H := hP
  have hD : va_D A ((o0, .inl (cJ, 1, .inr (.inl g))) :: (u1 ++ u2)) := hD
  refine W.widen (k := cells + 0) (n := slots + 0) (by omega) (by omega) ?_
  refine lv_pop hx hb dL_law_558 rfl ?_
  refine lv_goto (tgt := 993) hx hb dL_law_559 (by decide) ?_
  refine W.widen (k := cells + 13) (n := slots + 338) (by omega) (by omega) ?_
  exact key tz gz xz g u1 u2 H locs ls hw1 hw2 hJ hP hD hS (lv_sub hl [0, 1, 2, 3, 4] rfl)
set_option maxHeartbeats 4000000 in
set_option maxRecDepth 100000 in
theorem lawc_12 {p : Program} {e : Env} {s : State} {m : MethodId} {below : List Frame} {meth : Method} {c : Code} (l : Launch) (hst : l.stackTraces = false) {b L : Nat} {xs : Nat → Int32} {Q : State → Prop} (hx : p.tables.exec = Jvm.exec) (hb : c.code = cL_law) (hml : c.maxLocals = 7) (hown : s.vm.findClass RL = some m.cls) (ht : ∀ w ∈ tw_W, w.before #[Value.ref b] s = true) (hX : va_X b L xs s s.heap) (hbl : b < s.heap.size) {dC : Nat → ClassId} {dI : Nat → Nat → Nat} {cI cB cZ cJ cR : ClassId} {tb : Nat → Nat} {A : Nat → Prop} (hbA : ¬ A b) (hKK : kk_ (dC, dI) (tyS cI cB cZ cJ cR) tb s) (hFx : fx_ tb A s s.heap) (hA : ∀ q, s.heap.size ≤ q → A q) {N : Nat} (hN1 : 256 ≤ N) (hN2 : N ≤ 4096) {B : Int} (hB0 : 0 ≤ B) (hB : B + 50000 ≤ 200000000) {x0 m0 o0 : Nat} {U V : va_W} {g : Nat → Int64} {tz gz : Int} {xz : ZG} (hU : KI N B x0 cI cB cR tz gz xz U) (hV : MIW N B m0 cI cZ cJ tz gz xz V) (hJ : GJz N xz.dt xz.cs xz.ms) {H : Heap} {locs : List Loc} {ls : Array Slot} {cells slots : Nat} (hce : cells + 13 ≤ 601024) (hsl : slots + 338 ≤ 7293000) {iN : Nat} (hi : iN + 6 ≤ L) (hL : L ≤ 3073) (hP : va_P (dC, dI) vwCl ((o0, .inl (cJ, 1, .inr (.inl g))) :: (U ++ V)) H) (hD : va_D A ((o0, .inl (cJ, 1, .inr (.inl g))) :: (U ++ V))) (hS : va_S A s.heap H locs) (hl : lv_has ls 7 [(0, .ref b), (1, .ref x0), (2, .ref m0), (3, .ref o0), (4, .int (nI iN))])
    (key : ∀ (t9 z9 : Int) (x9 : ZG) (g9 : Nat → Int64) (U9 V9 : va_W) (H : Heap) (locs : List Loc) (ls : Array Slot), KI N (B + 50000) x0 cI cB cR t9 z9 x9 U9 → MIW N (B + 50000) m0 cI cZ cJ t9 z9 x9 V9 → GJz N x9.dt x9.cs x9.ms → va_P (dC, dI) vwCl ((o0, .inl (cJ, 1, .inr (.inl g9))) :: (U9 ++ V9)) H → va_D A ((o0, .inl (cJ, 1, .inr (.inl g9))) :: (U9 ++ V9)) → va_S A s.heap H locs → lv_has ls 7 [(0, .ref b), (1, .ref x0), (2, .ref m0), (3, .ref o0), (4, .int (nI iN))] → W p l e room_1 s m #[Value.ref b] below meth c H locs (cells + 13) (slots + 338) Q (F0 m 993 ls [])) : W p l e room_1 s m #[Value.ref b] below meth c H locs cells slots Q (F0 m 562 ls []) := by
  have hK := hKK.1
  refine lv_aload_n hx hb dL_law_562 rfl (lv_at hl 1 rfl) ?_
  refine lv_aload_n hx hb dL_law_563 rfl (lv_at hl 0 rfl) ?_
  refine lv_iload hx hb dL_law_564 (lv_at hl 4 rfl) ?_
  refine lv_iconst (v := 1) hx hb dL_law_566 (by decide) ?_
  refine lv_iadd hx hb dL_law_567 ?_
  refine tp_i (y := nI (iN + 1)) (nI_add iN 1) ?_
  refine va_sld hx hb hX hbl hbA hS (i := nI (iN + 1)) (vp_in_nI (by omega) (by omega)) dL_law_568 ?_
  refine lv_aload_n hx hb dL_law_569 rfl (lv_at hl 3 rfl) ?_
  refine cD_i (A0 := (o0, .inl (cJ, 1, .inr (.inl g))) :: U) (Z := V) (rn_SW (n := 3) (As := [.ref x0, .int (xs (nI (iN + 1)).toNatClampNeg), .ref o0]) (rest := []) hx hb hml hown ht hKK hFx hP hD hS hA (hl_run l dC dI cI cB cZ cJ cR tb hst H.size x0 o0 N B U g hN2 hB tz gz xz hU (xs (nI (iN + 1)).toNatClampNeg)) tw_1155 tw_1156 (by decide +kernel) rfl rfl ⟨Nat.le_of_ble_eq_true rfl, Nat.le_of_ble_eq_true rfl⟩ (List.range ((o0, .inl (cJ, 1, .inr (.inl g))) :: U).length) (ixA_map ((o0, .inl (cJ, 1, .inr (.inl g))) :: U) V) (nd_range _) rfl hl.1 rfl (Nat.le_of_ble_eq_true rfl) dL_law_570 ⟨by show _ ≤ 601024; omega, by show _ ≤ 7293000; omega⟩) hP hD hS hA (fun r1 u1 H locs hw hP hD hS => ?_)
  obtain ⟨g1, U1, hu1, hU1⟩ := hw
  have hu1 : u1 = (o0, .inl (cJ, 1, .inr (.inl g1))) :: U1 := hu1
  subst hu1
  have hP : va_P (dC, dI) vwCl ((o0, .inl (cJ, 1, .inr (.inl g1))) :: (U1 ++ V)) H := hP
  have hD : va_D A ((o0, .inl (cJ, 1, .inr (.inl g1))) :: (U1 ++ V)) := hD
  refine W.widen (k := cells + 1) (n := slots + 6) (by omega) (by omega) ?_
  refine lv_istore (lv' := [(5, .int r1), (0, .ref b), (1, .ref x0), (2, .ref m0), (3, .ref o0), (4, .int (nI iN))]) hx hb dL_law_573 hl (by decide) rfl (fun ls hl => ?_)
  refine lv_aload_n hx hb dL_law_575 rfl (lv_at hl 3 rfl) ?_
  refine lv_aload_n hx hb dL_law_576 rfl (lv_at hl 1 rfl) ?_
  refine lv_iload hx hb dL_law_577 (lv_at hl 5 rfl) ?_
  refine lv_iconst (v := 1) hx hb dL_law_579 (by decide) ?_
  refine lv_iadd hx hb dL_law_580 ?_
  refine tp_i (y := nI (iN + 1)) (nI_add iN 1) ?_
  refine va_sld hx hb hX hbl hbA hS (i := nI (iN + 1)) (vp_in_nI (by omega) (by omega)) dL_law_581 ?_
  obtain ⟨kr2, fs2, hrc2⟩ := MIW.recv hV
  have hP := va_P.perm hP (List.Perm.cons _ List.perm_append_comm)
  have hD := va_D.perm hD (List.Perm.cons _ List.perm_append_comm)
  refine cA_i (rn_Vk (n := 1) (As := [.int (xs (nI (iN + 1)).toNatClampNeg)]) (rest := []) hx hb hml hown ht hKK hFx hP hD hS hA (rl_run l dC dI cI cB cZ cJ cR tb H.size m0 N B V hN1 hN2 hB0 hB tz gz xz hV (xs (nI (iN + 1)).toNatClampNeg)) tw_1157 tw_1158 (by decide +kernel) rfl rfl ⟨Nat.le_of_ble_eq_true rfl, Nat.le_of_ble_eq_true rfl⟩ (ixC V.length) (ixC_map _ _ _) (ixC_nd _) kr2 hrc2 rfl rfl rfl hl.1 rfl (Nat.le_of_ble_eq_true rfl) dL_law_582 ⟨by show _ ≤ 601024; omega, by show _ ≤ 7293000; omega⟩) hP hD hS hA (fun r2 u2 H locs hw2 hP hD hS => ?_)
  have hP := va_P.perm hP (List.Perm.cons _ List.perm_append_comm)
  have hD := va_D.perm hD (List.Perm.cons _ List.perm_append_comm)
  have hP : va_P (dC, dI) vwCl ((o0, .inl (cJ, 1, .inr (.inl g1))) :: (U1 ++ u2)) H := hP
  have hD : va_D A ((o0, .inl (cJ, 1, .inr (.inl g1))) :: (U1 ++ u2)) := hD
  refine W.widen (k := cells + 1) (n := slots + 6) (by omega) (by omega) ?_
  refine lv_istore (lv' := [(6, .int r2), (5, .int r1), (0, .ref b), (1, .ref x0), (2, .ref m0), (3, .ref o0), (4, .int (nI iN))]) hx hb dL_law_585 hl (by decide) rfl (fun ls hl => ?_)
  refine lv_goto (tgt := 993) hx hb dL_law_587 (by decide) ?_
  refine W.widen (k := cells + 13) (n := slots + 338) (by omega) (by omega) ?_
  exact key tz gz xz g1 U1 u2 H locs ls hU1 hw2 hJ hP hD hS (lv_sub hl [2, 3, 4, 5, 6] rfl)
set_option maxHeartbeats 4000000 in
set_option maxRecDepth 100000 in
theorem lawc_13 {p : Program} {e : Env} {s : State} {m : MethodId} {below : List Frame} {meth : Method} {c : Code} (l : Launch) (hst : l.stackTraces = false) {b L : Nat} {xs : Nat → Int32} {Q : State → Prop} (hx : p.tables.exec = Jvm.exec) (hb : c.code = cL_law) (hml : c.maxLocals = 7) (hown : s.vm.findClass RL = some m.cls) (ht : ∀ w ∈ tw_W, w.before #[Value.ref b] s = true) (hX : va_X b L xs s s.heap) (hbl : b < s.heap.size) {dC : Nat → ClassId} {dI : Nat → Nat → Nat} {cI cB cZ cJ cR : ClassId} {tb : Nat → Nat} {A : Nat → Prop} (hbA : ¬ A b) (hKK : kk_ (dC, dI) (tyS cI cB cZ cJ cR) tb s) (hFx : fx_ tb A s s.heap) (hA : ∀ q, s.heap.size ≤ q → A q) {N : Nat} (hN1 : 256 ≤ N) (hN2 : N ≤ 4096) {B : Int} (hB0 : 0 ≤ B) (hB : B + 50000 ≤ 200000000) {x0 m0 o0 : Nat} {U V : va_W} {g : Nat → Int64} {tz gz : Int} {xz : ZG} (hU : KI N B x0 cI cB cR tz gz xz U) (hV : MIW N B m0 cI cZ cJ tz gz xz V) (hJ : GJz N xz.dt xz.cs xz.ms) {H : Heap} {locs : List Loc} {ls : Array Slot} {cells slots : Nat} (hce : cells + 13 ≤ 601024) (hsl : slots + 338 ≤ 7293000) {iN : Nat} (hi : iN + 6 ≤ L) (hL : L ≤ 3073) (hP : va_P (dC, dI) vwCl ((o0, .inl (cJ, 1, .inr (.inl g))) :: (U ++ V)) H) (hD : va_D A ((o0, .inl (cJ, 1, .inr (.inl g))) :: (U ++ V))) (hS : va_S A s.heap H locs) (hl : lv_has ls 7 [(0, .ref b), (1, .ref x0), (2, .ref m0), (3, .ref o0), (4, .int (nI iN))])
    (key : ∀ (t9 z9 : Int) (x9 : ZG) (g9 : Nat → Int64) (U9 V9 : va_W) (H : Heap) (locs : List Loc) (ls : Array Slot), KI N (B + 50000) x0 cI cB cR t9 z9 x9 U9 → MIW N (B + 50000) m0 cI cZ cJ t9 z9 x9 V9 → GJz N x9.dt x9.cs x9.ms → va_P (dC, dI) vwCl ((o0, .inl (cJ, 1, .inr (.inl g9))) :: (U9 ++ V9)) H → va_D A ((o0, .inl (cJ, 1, .inr (.inl g9))) :: (U9 ++ V9)) → va_S A s.heap H locs → lv_has ls 7 [(0, .ref b), (1, .ref x0), (2, .ref m0), (3, .ref o0), (4, .int (nI iN))] → W p l e room_1 s m #[Value.ref b] below meth c H locs (cells + 13) (slots + 338) Q (F0 m 993 ls [])) : W p l e room_1 s m #[Value.ref b] below meth c H locs cells slots Q (F0 m 590 ls []) := by
  have hK := hKK.1
  refine lv_aload_n hx hb dL_law_590 rfl (lv_at hl 1 rfl) ?_
  obtain ⟨kr1, fs1, hrc1⟩ := KI.recv hU
  refine cA_i (rn_Vk (n := 0) (As := []) (rest := []) hx hb hml hown ht hKK hFx hP hD hS hA (kl_result l dC dI cI cB cZ cJ cR tb hst H.size x0 N B U hN2 hB tz gz xz hU ) tw_1159 tw_1160 (by decide +kernel) rfl rfl ⟨Nat.le_of_ble_eq_true rfl, Nat.le_of_ble_eq_true rfl⟩ (ixC U.length) (ixC_map _ _ _) (ixC_nd _) kr1 hrc1 rfl rfl rfl hl.1 rfl (Nat.le_of_ble_eq_true rfl) dL_law_591 ⟨by show _ ≤ 601024; omega, by show _ ≤ 7293000; omega⟩) hP hD hS hA (fun r1 u1 H locs hw1 hP hD hS => ?_)
  have hP : va_P (dC, dI) vwCl ((o0, .inl (cJ, 1, .inr (.inl g))) :: (u1 ++ V)) H := hP
  have hD : va_D A ((o0, .inl (cJ, 1, .inr (.inl g))) :: (u1 ++ V)) := hD
  refine W.widen (k := cells + 0) (n := slots + 0) (by omega) (by omega) ?_
  refine lv_pop hx hb dL_law_594 rfl ?_
  refine lv_aload_n hx hb dL_law_595 rfl (lv_at hl 2 rfl) ?_
  obtain ⟨kr2, fs2, hrc2⟩ := MIW.recv hV
  have hP := va_P.perm hP (List.Perm.cons _ List.perm_append_comm)
  have hD := va_D.perm hD (List.Perm.cons _ List.perm_append_comm)
  refine cA_i (rn_Vk (n := 0) (As := []) (rest := []) hx hb hml hown ht hKK hFx hP hD hS hA (rl_result l dC dI cI cB cZ cJ cR tb H.size m0 N B V hN1 hN2 hB0 hB tz gz xz hV ) tw_1161 tw_1162 (by decide +kernel) rfl rfl ⟨Nat.le_of_ble_eq_true rfl, Nat.le_of_ble_eq_true rfl⟩ (ixC V.length) (ixC_map _ _ _) (ixC_nd _) kr2 hrc2 rfl rfl rfl hl.1 rfl (Nat.le_of_ble_eq_true rfl) dL_law_596 ⟨by show _ ≤ 601024; omega, by show _ ≤ 7293000; omega⟩) hP hD hS hA (fun r2 u2 H locs hw2 hP hD hS => ?_)
  have hP := va_P.perm hP (List.Perm.cons _ List.perm_append_comm)
  have hD := va_D.perm hD (List.Perm.cons _ List.perm_append_comm)
  have hP : va_P (dC, dI) vwCl ((o0, .inl (cJ, 1, .inr (.inl g))) :: (u1 ++ u2)) H := hP
  have hD : va_D A ((o0, .inl (cJ, 1, .inr (.inl g))) :: (u1 ++ u2)) := hD
  refine W.widen (k := cells + 0) (n := slots + 0) (by omega) (by omega) ?_
  refine lv_pop hx hb dL_law_599 rfl ?_
  refine lv_goto (tgt := 993) hx hb dL_law_600 (by decide) ?_
  refine W.widen (k := cells + 13) (n := slots + 338) (by omega) (by omega) ?_
  exact key tz gz xz g u1 u2 H locs ls hw1 hw2 hJ hP hD hS (lv_sub hl [0, 1, 2, 3, 4] rfl)
set_option maxHeartbeats 4000000 in
set_option maxRecDepth 100000 in
theorem lawc_14 {p : Program} {e : Env} {s : State} {m : MethodId} {below : List Frame} {meth : Method} {c : Code} (l : Launch) (hst : l.stackTraces = false) {b L : Nat} {xs : Nat → Int32} {Q : State → Prop} (hx : p.tables.exec = Jvm.exec) (hb : c.code = cL_law) (hml : c.maxLocals = 7) (hown : s.vm.findClass RL = some m.cls) (ht : ∀ w ∈ tw_W, w.before #[Value.ref b] s = true) (hX : va_X b L xs s s.heap) (hbl : b < s.heap.size) {dC : Nat → ClassId} {dI : Nat → Nat → Nat} {cI cB cZ cJ cR : ClassId} {tb : Nat → Nat} {A : Nat → Prop} (hbA : ¬ A b) (hKK : kk_ (dC, dI) (tyS cI cB cZ cJ cR) tb s) (hFx : fx_ tb A s s.heap) (hA : ∀ q, s.heap.size ≤ q → A q) {N : Nat} (hN1 : 256 ≤ N) (hN2 : N ≤ 4096) {B : Int} (hB0 : 0 ≤ B) (hB : B + 50000 ≤ 200000000) {x0 m0 o0 : Nat} {U V : va_W} {g : Nat → Int64} {tz gz : Int} {xz : ZG} (hU : KI N B x0 cI cB cR tz gz xz U) (hV : MIW N B m0 cI cZ cJ tz gz xz V) (hJ : GJz N xz.dt xz.cs xz.ms) {H : Heap} {locs : List Loc} {ls : Array Slot} {cells slots : Nat} (hce : cells + 13 ≤ 601024) (hsl : slots + 338 ≤ 7293000) {iN : Nat} (hi : iN + 6 ≤ L) (hL : L ≤ 3073) (hP : va_P (dC, dI) vwCl ((o0, .inl (cJ, 1, .inr (.inl g))) :: (U ++ V)) H) (hD : va_D A ((o0, .inl (cJ, 1, .inr (.inl g))) :: (U ++ V))) (hS : va_S A s.heap H locs) (hl : lv_has ls 7 [(0, .ref b), (1, .ref x0), (2, .ref m0), (3, .ref o0), (4, .int (nI iN))])
    (key : ∀ (t9 z9 : Int) (x9 : ZG) (g9 : Nat → Int64) (U9 V9 : va_W) (H : Heap) (locs : List Loc) (ls : Array Slot), KI N (B + 50000) x0 cI cB cR t9 z9 x9 U9 → MIW N (B + 50000) m0 cI cZ cJ t9 z9 x9 V9 → GJz N x9.dt x9.cs x9.ms → va_P (dC, dI) vwCl ((o0, .inl (cJ, 1, .inr (.inl g9))) :: (U9 ++ V9)) H → va_D A ((o0, .inl (cJ, 1, .inr (.inl g9))) :: (U9 ++ V9)) → va_S A s.heap H locs → lv_has ls 7 [(0, .ref b), (1, .ref x0), (2, .ref m0), (3, .ref o0), (4, .int (nI iN))] → W p l e room_1 s m #[Value.ref b] below meth c H locs (cells + 13) (slots + 338) Q (F0 m 993 ls [])) : W p l e room_1 s m #[Value.ref b] below meth c H locs cells slots Q (F0 m 603 ls []) := by
  have hK := hKK.1
  refine lv_aload_n hx hb dL_law_603 rfl (lv_at hl 1 rfl) ?_
  refine lv_aload_n hx hb dL_law_604 rfl (lv_at hl 0 rfl) ?_
  refine lv_iload hx hb dL_law_605 (lv_at hl 4 rfl) ?_
  refine lv_iconst (v := 1) hx hb dL_law_607 (by decide) ?_
  refine lv_iadd hx hb dL_law_608 ?_
  refine tp_i (y := nI (iN + 1)) (nI_add iN 1) ?_
  refine va_sld hx hb hX hbl hbA hS (i := nI (iN + 1)) (vp_in_nI (by omega) (by omega)) dL_law_609 ?_
  refine lv_aload_n hx hb dL_law_610 rfl (lv_at hl 3 rfl) ?_
  refine cD_i (A0 := (o0, .inl (cJ, 1, .inr (.inl g))) :: U) (Z := V) (rn_SW (n := 3) (As := [.ref x0, .int (xs (nI (iN + 1)).toNatClampNeg), .ref o0]) (rest := []) hx hb hml hown ht hKK hFx hP hD hS hA (hl_register l dC dI cI cB cZ cJ cR tb hst H.size x0 o0 N B U g hN2 hB tz gz xz hU (xs (nI (iN + 1)).toNatClampNeg)) tw_1163 tw_1164 (by decide +kernel) rfl rfl ⟨Nat.le_of_ble_eq_true rfl, Nat.le_of_ble_eq_true rfl⟩ (List.range ((o0, .inl (cJ, 1, .inr (.inl g))) :: U).length) (ixA_map ((o0, .inl (cJ, 1, .inr (.inl g))) :: U) V) (nd_range _) rfl hl.1 rfl (Nat.le_of_ble_eq_true rfl) dL_law_611 ⟨by show _ ≤ 601024; omega, by show _ ≤ 7293000; omega⟩) hP hD hS hA (fun r1 u1 H locs hw hP hD hS => ?_)
  obtain ⟨g1, U1, hu1, hU1⟩ := hw
  have hu1 : u1 = (o0, .inl (cJ, 1, .inr (.inl g1))) :: U1 := hu1
  subst hu1
  have hP : va_P (dC, dI) vwCl ((o0, .inl (cJ, 1, .inr (.inl g1))) :: (U1 ++ V)) H := hP
  have hD : va_D A ((o0, .inl (cJ, 1, .inr (.inl g1))) :: (U1 ++ V)) := hD
  refine W.widen (k := cells + 1) (n := slots + 6) (by omega) (by omega) ?_
  refine lv_istore (lv' := [(5, .int r1), (0, .ref b), (1, .ref x0), (2, .ref m0), (3, .ref o0), (4, .int (nI iN))]) hx hb dL_law_614 hl (by decide) rfl (fun ls hl => ?_)
  refine lv_aload_n hx hb dL_law_616 rfl (lv_at hl 3 rfl) ?_
  refine lv_aload_n hx hb dL_law_617 rfl (lv_at hl 1 rfl) ?_
  refine lv_iload hx hb dL_law_618 (lv_at hl 5 rfl) ?_
  refine lv_iconst (v := 1) hx hb dL_law_620 (by decide) ?_
  refine lv_iadd hx hb dL_law_621 ?_
  refine tp_i (y := nI (iN + 1)) (nI_add iN 1) ?_
  refine va_sld hx hb hX hbl hbA hS (i := nI (iN + 1)) (vp_in_nI (by omega) (by omega)) dL_law_622 ?_
  obtain ⟨kr2, fs2, hrc2⟩ := MIW.recv hV
  have hP := va_P.perm hP (List.Perm.cons _ List.perm_append_comm)
  have hD := va_D.perm hD (List.Perm.cons _ List.perm_append_comm)
  refine cA_i (rn_Vk (n := 1) (As := [.int (xs (nI (iN + 1)).toNatClampNeg)]) (rest := []) hx hb hml hown ht hKK hFx hP hD hS hA (rl_register l dC dI cI cB cZ cJ cR tb H.size m0 N B V hN1 hN2 hB0 hB tz gz xz hV (xs (nI (iN + 1)).toNatClampNeg)) tw_1165 tw_1166 (by decide +kernel) rfl rfl ⟨Nat.le_of_ble_eq_true rfl, Nat.le_of_ble_eq_true rfl⟩ (ixC V.length) (ixC_map _ _ _) (ixC_nd _) kr2 hrc2 rfl rfl rfl hl.1 rfl (Nat.le_of_ble_eq_true rfl) dL_law_623 ⟨by show _ ≤ 601024; omega, by show _ ≤ 7293000; omega⟩) hP hD hS hA (fun r2 u2 H locs hw2 hP hD hS => ?_)
  have hP := va_P.perm hP (List.Perm.cons _ List.perm_append_comm)
  have hD := va_D.perm hD (List.Perm.cons _ List.perm_append_comm)
  have hP : va_P (dC, dI) vwCl ((o0, .inl (cJ, 1, .inr (.inl g1))) :: (U1 ++ u2)) H := hP
  have hD : va_D A ((o0, .inl (cJ, 1, .inr (.inl g1))) :: (U1 ++ u2)) := hD
  refine W.widen (k := cells + 1) (n := slots + 6) (by omega) (by omega) ?_
  refine lv_istore (lv' := [(6, .int r2), (5, .int r1), (0, .ref b), (1, .ref x0), (2, .ref m0), (3, .ref o0), (4, .int (nI iN))]) hx hb dL_law_626 hl (by decide) rfl (fun ls hl => ?_)
  refine lv_goto (tgt := 993) hx hb dL_law_628 (by decide) ?_
  refine W.widen (k := cells + 13) (n := slots + 338) (by omega) (by omega) ?_
  exact key tz gz xz g1 U1 u2 H locs ls hU1 hw2 hJ hP hD hS (lv_sub hl [2, 3, 4, 5, 6] rfl)
set_option maxHeartbeats 4000000 in
set_option maxRecDepth 100000 in
theorem lawc_15 {p : Program} {e : Env} {s : State} {m : MethodId} {below : List Frame} {meth : Method} {c : Code} (l : Launch) (hst : l.stackTraces = false) {b L : Nat} {xs : Nat → Int32} {Q : State → Prop} (hx : p.tables.exec = Jvm.exec) (hb : c.code = cL_law) (hml : c.maxLocals = 7) (hown : s.vm.findClass RL = some m.cls) (ht : ∀ w ∈ tw_W, w.before #[Value.ref b] s = true) (hX : va_X b L xs s s.heap) (hbl : b < s.heap.size) {dC : Nat → ClassId} {dI : Nat → Nat → Nat} {cI cB cZ cJ cR : ClassId} {tb : Nat → Nat} {A : Nat → Prop} (hbA : ¬ A b) (hKK : kk_ (dC, dI) (tyS cI cB cZ cJ cR) tb s) (hFx : fx_ tb A s s.heap) (hA : ∀ q, s.heap.size ≤ q → A q) {N : Nat} (hN1 : 256 ≤ N) (hN2 : N ≤ 4096) {B : Int} (hB0 : 0 ≤ B) (hB : B + 50000 ≤ 200000000) {x0 m0 o0 : Nat} {U V : va_W} {g : Nat → Int64} {tz gz : Int} {xz : ZG} (hU : KI N B x0 cI cB cR tz gz xz U) (hV : MIW N B m0 cI cZ cJ tz gz xz V) (hJ : GJz N xz.dt xz.cs xz.ms) {H : Heap} {locs : List Loc} {ls : Array Slot} {cells slots : Nat} (hce : cells + 13 ≤ 601024) (hsl : slots + 338 ≤ 7293000) {iN : Nat} (hi : iN + 6 ≤ L) (hL : L ≤ 3073) (hP : va_P (dC, dI) vwCl ((o0, .inl (cJ, 1, .inr (.inl g))) :: (U ++ V)) H) (hD : va_D A ((o0, .inl (cJ, 1, .inr (.inl g))) :: (U ++ V))) (hS : va_S A s.heap H locs) (hl : lv_has ls 7 [(0, .ref b), (1, .ref x0), (2, .ref m0), (3, .ref o0), (4, .int (nI iN))])
    (key : ∀ (t9 z9 : Int) (x9 : ZG) (g9 : Nat → Int64) (U9 V9 : va_W) (H : Heap) (locs : List Loc) (ls : Array Slot), KI N (B + 50000) x0 cI cB cR t9 z9 x9 U9 → MIW N (B + 50000) m0 cI cZ cJ t9 z9 x9 V9 → GJz N x9.dt x9.cs x9.ms → va_P (dC, dI) vwCl ((o0, .inl (cJ, 1, .inr (.inl g9))) :: (U9 ++ V9)) H → va_D A ((o0, .inl (cJ, 1, .inr (.inl g9))) :: (U9 ++ V9)) → va_S A s.heap H locs → lv_has ls 7 [(0, .ref b), (1, .ref x0), (2, .ref m0), (3, .ref o0), (4, .int (nI iN))] → W p l e room_1 s m #[Value.ref b] below meth c H locs (cells + 13) (slots + 338) Q (F0 m 993 ls [])) : W p l e room_1 s m #[Value.ref b] below meth c H locs cells slots Q (F0 m 631 ls []) := by
  have hK := hKK.1
  refine lv_aload_n hx hb dL_law_631 rfl (lv_at hl 1 rfl) ?_
  refine lv_aload_n hx hb dL_law_632 rfl (lv_at hl 0 rfl) ?_
  refine lv_iload hx hb dL_law_633 (lv_at hl 4 rfl) ?_
  refine lv_iconst (v := 1) hx hb dL_law_635 (by decide) ?_
  refine lv_iadd hx hb dL_law_636 ?_
  refine tp_i (y := nI (iN + 1)) (nI_add iN 1) ?_
  refine va_sld hx hb hX hbl hbA hS (i := nI (iN + 1)) (vp_in_nI (by omega) (by omega)) dL_law_637 ?_
  refine lv_aload_n hx hb dL_law_638 rfl (lv_at hl 0 rfl) ?_
  refine lv_iload hx hb dL_law_639 (lv_at hl 4 rfl) ?_
  refine lv_iconst (v := 2) hx hb dL_law_641 (by decide) ?_
  refine lv_iadd hx hb dL_law_642 ?_
  refine tp_i (y := nI (iN + 2)) (nI_add iN 2) ?_
  refine va_sld hx hb hX hbl hbA hS (i := nI (iN + 2)) (vp_in_nI (by omega) (by omega)) dL_law_643 ?_
  refine cA_i (rn_SW (n := 3) (As := [.ref x0, .int (xs (nI (iN + 1)).toNatClampNeg), .int (xs (nI (iN + 2)).toNatClampNeg)]) (rest := []) hx hb hml hown ht hKK hFx hP hD hS hA (hl_set l dC dI cI cB cZ cJ cR tb hst H.size x0 o0 N B U g hN2 hB tz gz xz hU (xs (nI (iN + 1)).toNatClampNeg) (xs (nI (iN + 2)).toNatClampNeg)) tw_1167 tw_1168 (by decide +kernel) rfl rfl ⟨Nat.le_of_ble_eq_true rfl, Nat.le_of_ble_eq_true rfl⟩ (ixC U.length) (ixC_map _ _ _) (ixC_nd _) rfl hl.1 rfl (Nat.le_of_ble_eq_true rfl) dL_law_644 ⟨by show _ ≤ 601024; omega, by show _ ≤ 7293000; omega⟩) hP hD hS hA (fun r1 u1 H locs hw hP hD hS => ?_)
  obtain ⟨g1, U1, hu1, hU1, hcx⟩ := hw
  have hu1 : u1 = U1 := hu1
  subst hu1
  have hP : va_P (dC, dI) vwCl ((o0, .inl (cJ, 1, .inr (.inl g))) :: (u1 ++ V)) H := hP
  have hD : va_D A ((o0, .inl (cJ, 1, .inr (.inl g))) :: (u1 ++ V)) := hD
  refine W.widen (k := cells + 1) (n := slots + 6) (by omega) (by omega) ?_
  refine lv_istore (lv' := [(5, .int r1), (0, .ref b), (1, .ref x0), (2, .ref m0), (3, .ref o0), (4, .int (nI iN))]) hx hb dL_law_647 hl (by decide) rfl (fun ls hl => ?_)
  refine lv_aload_n hx hb dL_law_649 rfl (lv_at hl 3 rfl) ?_
  refine lv_aload_n hx hb dL_law_650 rfl (lv_at hl 1 rfl) ?_
  refine lv_iload hx hb dL_law_651 (lv_at hl 5 rfl) ?_
  refine lv_iconst (v := 1) hx hb dL_law_653 (by decide) ?_
  refine lv_iadd hx hb dL_law_654 ?_
  refine tp_i (y := nI (iN + 1)) (nI_add iN 1) ?_
  refine va_sld hx hb hX hbl hbA hS (i := nI (iN + 1)) (vp_in_nI (by omega) (by omega)) dL_law_655 ?_
  refine lv_aload_n hx hb dL_law_656 rfl (lv_at hl 1 rfl) ?_
  refine lv_iload hx hb dL_law_657 (lv_at hl 5 rfl) ?_
  refine lv_iconst (v := 2) hx hb dL_law_659 (by decide) ?_
  refine lv_iadd hx hb dL_law_660 ?_
  refine tp_i (y := nI (iN + 2)) (nI_add iN 2) ?_
  refine va_sld hx hb hX hbl hbA hS (i := nI (iN + 2)) (vp_in_nI (by omega) (by omega)) dL_law_661 ?_
  obtain ⟨kr2, fs2, hrc2⟩ := MIW.recv hV
  have hP := va_P.perm hP (List.Perm.cons _ List.perm_append_comm)
  have hD := va_D.perm hD (List.Perm.cons _ List.perm_append_comm)
  refine cA_v (rn_Vk (n := 2) (As := [.int (xs (nI (iN + 1)).toNatClampNeg), .int (xs (nI (iN + 2)).toNatClampNeg)]) (rest := []) hx hb hml hown ht hKK hFx hP hD hS hA (rl_set l dC dI cI cB cZ cJ cR tb H.size m0 N B V hN1 hN2 hB0 hB tz gz xz hV (xs (nI (iN + 1)).toNatClampNeg) (xs (nI (iN + 2)).toNatClampNeg)) tw_1169 tw_1170 (by decide +kernel) rfl rfl ⟨Nat.le_of_ble_eq_true rfl, Nat.le_of_ble_eq_true rfl⟩ (ixC V.length) (ixC_map _ _ _) (ixC_nd _) kr2 hrc2 rfl rfl rfl hl.1 rfl (Nat.le_of_ble_eq_true rfl) dL_law_662 ⟨by show _ ≤ 601024; omega, by show _ ≤ 7293000; omega⟩) hP hD hS hA (fun u2 H locs hw2 hP hD hS => ?_)
  have hP := va_P.perm hP (List.Perm.cons _ List.perm_append_comm)
  have hD := va_D.perm hD (List.Perm.cons _ List.perm_append_comm)
  have hP : va_P (dC, dI) vwCl ((o0, .inl (cJ, 1, .inr (.inl g))) :: (u1 ++ u2)) H := hP
  have hD : va_D A ((o0, .inl (cJ, 1, .inr (.inl g))) :: (u1 ++ u2)) := hD
  refine W.widen (k := cells + 1) (n := slots + 6) (by omega) (by omega) ?_
  refine lv_goto (tgt := 993) hx hb dL_law_665 (by decide) ?_
  refine W.widen (k := cells + 13) (n := slots + 338) (by omega) (by omega) ?_
  exact key tz gz xz g u1 u2 H locs ls hU1 hw2.w hJ hP hD hS (lv_sub hl [1, 2, 3, 4, 5] rfl)
set_option maxHeartbeats 4000000 in
set_option maxRecDepth 100000 in
theorem lawc_16 {p : Program} {e : Env} {s : State} {m : MethodId} {below : List Frame} {meth : Method} {c : Code} (l : Launch) (hst : l.stackTraces = false) {b L : Nat} {xs : Nat → Int32} {Q : State → Prop} (hx : p.tables.exec = Jvm.exec) (hb : c.code = cL_law) (hml : c.maxLocals = 7) (hown : s.vm.findClass RL = some m.cls) (ht : ∀ w ∈ tw_W, w.before #[Value.ref b] s = true) (hX : va_X b L xs s s.heap) (hbl : b < s.heap.size) {dC : Nat → ClassId} {dI : Nat → Nat → Nat} {cI cB cZ cJ cR : ClassId} {tb : Nat → Nat} {A : Nat → Prop} (hbA : ¬ A b) (hKK : kk_ (dC, dI) (tyS cI cB cZ cJ cR) tb s) (hFx : fx_ tb A s s.heap) (hA : ∀ q, s.heap.size ≤ q → A q) {N : Nat} (hN1 : 256 ≤ N) (hN2 : N ≤ 4096) {B : Int} (hB0 : 0 ≤ B) (hB : B + 50000 ≤ 200000000) {x0 m0 o0 : Nat} {U V : va_W} {g : Nat → Int64} {tz gz : Int} {xz : ZG} (hU : KI N B x0 cI cB cR tz gz xz U) (hV : MIW N B m0 cI cZ cJ tz gz xz V) (hJ : GJz N xz.dt xz.cs xz.ms) {H : Heap} {locs : List Loc} {ls : Array Slot} {cells slots : Nat} (hce : cells + 13 ≤ 601024) (hsl : slots + 338 ≤ 7293000) {iN : Nat} (hi : iN + 6 ≤ L) (hL : L ≤ 3073) (hP : va_P (dC, dI) vwCl ((o0, .inl (cJ, 1, .inr (.inl g))) :: (U ++ V)) H) (hD : va_D A ((o0, .inl (cJ, 1, .inr (.inl g))) :: (U ++ V))) (hS : va_S A s.heap H locs) (hl : lv_has ls 7 [(0, .ref b), (1, .ref x0), (2, .ref m0), (3, .ref o0), (4, .int (nI iN))])
    (key : ∀ (t9 z9 : Int) (x9 : ZG) (g9 : Nat → Int64) (U9 V9 : va_W) (H : Heap) (locs : List Loc) (ls : Array Slot), KI N (B + 50000) x0 cI cB cR t9 z9 x9 U9 → MIW N (B + 50000) m0 cI cZ cJ t9 z9 x9 V9 → GJz N x9.dt x9.cs x9.ms → va_P (dC, dI) vwCl ((o0, .inl (cJ, 1, .inr (.inl g9))) :: (U9 ++ V9)) H → va_D A ((o0, .inl (cJ, 1, .inr (.inl g9))) :: (U9 ++ V9)) → va_S A s.heap H locs → lv_has ls 7 [(0, .ref b), (1, .ref x0), (2, .ref m0), (3, .ref o0), (4, .int (nI iN))] → W p l e room_1 s m #[Value.ref b] below meth c H locs (cells + 13) (slots + 338) Q (F0 m 993 ls [])) : W p l e room_1 s m #[Value.ref b] below meth c H locs cells slots Q (F0 m 668 ls []) := by
  have hK := hKK.1
  refine lv_aload_n hx hb dL_law_668 rfl (lv_at hl 1 rfl) ?_
  refine lv_aload_n hx hb dL_law_669 rfl (lv_at hl 0 rfl) ?_
  refine lv_iload hx hb dL_law_670 (lv_at hl 4 rfl) ?_
  refine lv_iconst (v := 1) hx hb dL_law_672 (by decide) ?_
  refine lv_iadd hx hb dL_law_673 ?_
  refine tp_i (y := nI (iN + 1)) (nI_add iN 1) ?_
  refine va_sld hx hb hX hbl hbA hS (i := nI (iN + 1)) (vp_in_nI (by omega) (by omega)) dL_law_674 ?_
  refine lv_aload_n hx hb dL_law_675 rfl (lv_at hl 3 rfl) ?_
  refine cD_i (A0 := (o0, .inl (cJ, 1, .inr (.inl g))) :: U) (Z := V) (rn_SW (n := 3) (As := [.ref x0, .int (xs (nI (iN + 1)).toNatClampNeg), .ref o0]) (rest := []) hx hb hml hown ht hKK hFx hP hD hS hA (hl_word l dC dI cI cB cZ cJ cR tb hst H.size x0 o0 N B U g hN2 hB tz gz xz hU (xs (nI (iN + 1)).toNatClampNeg)) tw_1171 tw_1172 (by decide +kernel) rfl rfl ⟨Nat.le_of_ble_eq_true rfl, Nat.le_of_ble_eq_true rfl⟩ (List.range ((o0, .inl (cJ, 1, .inr (.inl g))) :: U).length) (ixA_map ((o0, .inl (cJ, 1, .inr (.inl g))) :: U) V) (nd_range _) rfl hl.1 rfl (Nat.le_of_ble_eq_true rfl) dL_law_676 ⟨by show _ ≤ 601024; omega, by show _ ≤ 7293000; omega⟩) hP hD hS hA (fun r1 u1 H locs hw hP hD hS => ?_)
  obtain ⟨g1, U1, hu1, hU1⟩ := hw
  have hu1 : u1 = (o0, .inl (cJ, 1, .inr (.inl g1))) :: U1 := hu1
  subst hu1
  have hP : va_P (dC, dI) vwCl ((o0, .inl (cJ, 1, .inr (.inl g1))) :: (U1 ++ V)) H := hP
  have hD : va_D A ((o0, .inl (cJ, 1, .inr (.inl g1))) :: (U1 ++ V)) := hD
  refine W.widen (k := cells + 1) (n := slots + 6) (by omega) (by omega) ?_
  refine lv_istore (lv' := [(5, .int r1), (0, .ref b), (1, .ref x0), (2, .ref m0), (3, .ref o0), (4, .int (nI iN))]) hx hb dL_law_679 hl (by decide) rfl (fun ls hl => ?_)
  refine lv_aload_n hx hb dL_law_681 rfl (lv_at hl 3 rfl) ?_
  refine lv_aload_n hx hb dL_law_682 rfl (lv_at hl 1 rfl) ?_
  refine lv_iload hx hb dL_law_683 (lv_at hl 5 rfl) ?_
  refine lv_iconst (v := 1) hx hb dL_law_685 (by decide) ?_
  refine lv_iadd hx hb dL_law_686 ?_
  refine tp_i (y := nI (iN + 1)) (nI_add iN 1) ?_
  refine va_sld hx hb hX hbl hbA hS (i := nI (iN + 1)) (vp_in_nI (by omega) (by omega)) dL_law_687 ?_
  obtain ⟨kr2, fs2, hrc2⟩ := MIW.recv hV
  have hP := va_P.perm hP (List.Perm.cons _ List.perm_append_comm)
  have hD := va_D.perm hD (List.Perm.cons _ List.perm_append_comm)
  refine cA_i (rn_Vk (n := 1) (As := [.int (xs (nI (iN + 1)).toNatClampNeg)]) (rest := []) hx hb hml hown ht hKK hFx hP hD hS hA (rl_word l dC dI cI cB cZ cJ cR tb H.size m0 N B V hN1 hN2 hB0 hB tz gz xz hV (xs (nI (iN + 1)).toNatClampNeg)) tw_1173 tw_1174 (by decide +kernel) rfl rfl ⟨Nat.le_of_ble_eq_true rfl, Nat.le_of_ble_eq_true rfl⟩ (ixC V.length) (ixC_map _ _ _) (ixC_nd _) kr2 hrc2 rfl rfl rfl hl.1 rfl (Nat.le_of_ble_eq_true rfl) dL_law_688 ⟨by show _ ≤ 601024; omega, by show _ ≤ 7293000; omega⟩) hP hD hS hA (fun r2 u2 H locs hw2 hP hD hS => ?_)
  have hP := va_P.perm hP (List.Perm.cons _ List.perm_append_comm)
  have hD := va_D.perm hD (List.Perm.cons _ List.perm_append_comm)
  have hP : va_P (dC, dI) vwCl ((o0, .inl (cJ, 1, .inr (.inl g1))) :: (U1 ++ u2)) H := hP
  have hD : va_D A ((o0, .inl (cJ, 1, .inr (.inl g1))) :: (U1 ++ u2)) := hD
  refine W.widen (k := cells + 1) (n := slots + 6) (by omega) (by omega) ?_
  refine lv_istore (lv' := [(6, .int r2), (5, .int r1), (0, .ref b), (1, .ref x0), (2, .ref m0), (3, .ref o0), (4, .int (nI iN))]) hx hb dL_law_691 hl (by decide) rfl (fun ls hl => ?_)
  refine lv_goto (tgt := 993) hx hb dL_law_693 (by decide) ?_
  refine W.widen (k := cells + 13) (n := slots + 338) (by omega) (by omega) ?_
  exact key tz gz xz g1 U1 u2 H locs ls hU1 hw2 hJ hP hD hS (lv_sub hl [2, 3, 4, 5, 6] rfl)
set_option maxHeartbeats 4000000 in
set_option maxRecDepth 100000 in
theorem lawc_17 {p : Program} {e : Env} {s : State} {m : MethodId} {below : List Frame} {meth : Method} {c : Code} (l : Launch) (hst : l.stackTraces = false) {b L : Nat} {xs : Nat → Int32} {Q : State → Prop} (hx : p.tables.exec = Jvm.exec) (hb : c.code = cL_law) (hml : c.maxLocals = 7) (hown : s.vm.findClass RL = some m.cls) (ht : ∀ w ∈ tw_W, w.before #[Value.ref b] s = true) (hX : va_X b L xs s s.heap) (hbl : b < s.heap.size) {dC : Nat → ClassId} {dI : Nat → Nat → Nat} {cI cB cZ cJ cR : ClassId} {tb : Nat → Nat} {A : Nat → Prop} (hbA : ¬ A b) (hKK : kk_ (dC, dI) (tyS cI cB cZ cJ cR) tb s) (hFx : fx_ tb A s s.heap) (hA : ∀ q, s.heap.size ≤ q → A q) {N : Nat} (hN1 : 256 ≤ N) (hN2 : N ≤ 4096) {B : Int} (hB0 : 0 ≤ B) (hB : B + 50000 ≤ 200000000) {x0 m0 o0 : Nat} {U V : va_W} {g : Nat → Int64} {tz gz : Int} {xz : ZG} (hU : KI N B x0 cI cB cR tz gz xz U) (hV : MIW N B m0 cI cZ cJ tz gz xz V) (hJ : GJz N xz.dt xz.cs xz.ms) {H : Heap} {locs : List Loc} {ls : Array Slot} {cells slots : Nat} (hce : cells + 13 ≤ 601024) (hsl : slots + 338 ≤ 7293000) {iN : Nat} (hi : iN + 6 ≤ L) (hL : L ≤ 3073) (hP : va_P (dC, dI) vwCl ((o0, .inl (cJ, 1, .inr (.inl g))) :: (U ++ V)) H) (hD : va_D A ((o0, .inl (cJ, 1, .inr (.inl g))) :: (U ++ V))) (hS : va_S A s.heap H locs) (hl : lv_has ls 7 [(0, .ref b), (1, .ref x0), (2, .ref m0), (3, .ref o0), (4, .int (nI iN))])
    (key : ∀ (t9 z9 : Int) (x9 : ZG) (g9 : Nat → Int64) (U9 V9 : va_W) (H : Heap) (locs : List Loc) (ls : Array Slot), KI N (B + 50000) x0 cI cB cR t9 z9 x9 U9 → MIW N (B + 50000) m0 cI cZ cJ t9 z9 x9 V9 → GJz N x9.dt x9.cs x9.ms → va_P (dC, dI) vwCl ((o0, .inl (cJ, 1, .inr (.inl g9))) :: (U9 ++ V9)) H → va_D A ((o0, .inl (cJ, 1, .inr (.inl g9))) :: (U9 ++ V9)) → va_S A s.heap H locs → lv_has ls 7 [(0, .ref b), (1, .ref x0), (2, .ref m0), (3, .ref o0), (4, .int (nI iN))] → W p l e room_1 s m #[Value.ref b] below meth c H locs (cells + 13) (slots + 338) Q (F0 m 993 ls [])) : W p l e room_1 s m #[Value.ref b] below meth c H locs cells slots Q (F0 m 696 ls []) := by
  have hK := hKK.1
  refine lv_aload_n hx hb dL_law_696 rfl (lv_at hl 1 rfl) ?_
  refine lv_aload_n hx hb dL_law_697 rfl (lv_at hl 0 rfl) ?_
  refine lv_iload hx hb dL_law_698 (lv_at hl 4 rfl) ?_
  refine lv_iconst (v := 1) hx hb dL_law_700 (by decide) ?_
  refine lv_iadd hx hb dL_law_701 ?_
  refine tp_i (y := nI (iN + 1)) (nI_add iN 1) ?_
  refine va_sld hx hb hX hbl hbA hS (i := nI (iN + 1)) (vp_in_nI (by omega) (by omega)) dL_law_702 ?_
  refine lv_aload_n hx hb dL_law_703 rfl (lv_at hl 0 rfl) ?_
  refine lv_iload hx hb dL_law_704 (lv_at hl 4 rfl) ?_
  refine lv_iconst (v := 2) hx hb dL_law_706 (by decide) ?_
  refine lv_iadd hx hb dL_law_707 ?_
  refine tp_i (y := nI (iN + 2)) (nI_add iN 2) ?_
  refine va_sld hx hb hX hbl hbA hS (i := nI (iN + 2)) (vp_in_nI (by omega) (by omega)) dL_law_708 ?_
  refine cA_i (rn_SW (n := 3) (As := [.ref x0, .int (xs (nI (iN + 1)).toNatClampNeg), .int (xs (nI (iN + 2)).toNatClampNeg)]) (rest := []) hx hb hml hown ht hKK hFx hP hD hS hA (hl_poke l dC dI cI cB cZ cJ cR tb hst H.size x0 o0 N B U g hN2 hB tz gz xz hU (xs (nI (iN + 1)).toNatClampNeg) (xs (nI (iN + 2)).toNatClampNeg)) tw_1175 tw_1176 (by decide +kernel) rfl rfl ⟨Nat.le_of_ble_eq_true rfl, Nat.le_of_ble_eq_true rfl⟩ (ixC U.length) (ixC_map _ _ _) (ixC_nd _) rfl hl.1 rfl (Nat.le_of_ble_eq_true rfl) dL_law_709 ⟨by show _ ≤ 601024; omega, by show _ ≤ 7293000; omega⟩) hP hD hS hA (fun r1 u1 H locs hw hP hD hS => ?_)
  obtain ⟨g1, U1, hu1, hU1, hcx⟩ := hw
  have hu1 : u1 = U1 := hu1
  subst hu1
  have hP : va_P (dC, dI) vwCl ((o0, .inl (cJ, 1, .inr (.inl g))) :: (u1 ++ V)) H := hP
  have hD : va_D A ((o0, .inl (cJ, 1, .inr (.inl g))) :: (u1 ++ V)) := hD
  refine W.widen (k := cells + 1) (n := slots + 6) (by omega) (by omega) ?_
  refine lv_istore (lv' := [(5, .int r1), (0, .ref b), (1, .ref x0), (2, .ref m0), (3, .ref o0), (4, .int (nI iN))]) hx hb dL_law_712 hl (by decide) rfl (fun ls hl => ?_)
  refine lv_aload_n hx hb dL_law_714 rfl (lv_at hl 3 rfl) ?_
  refine lv_aload_n hx hb dL_law_715 rfl (lv_at hl 1 rfl) ?_
  refine lv_iload hx hb dL_law_716 (lv_at hl 5 rfl) ?_
  refine lv_iconst (v := 1) hx hb dL_law_718 (by decide) ?_
  refine lv_iadd hx hb dL_law_719 ?_
  refine tp_i (y := nI (iN + 1)) (nI_add iN 1) ?_
  refine va_sld hx hb hX hbl hbA hS (i := nI (iN + 1)) (vp_in_nI (by omega) (by omega)) dL_law_720 ?_
  refine lv_aload_n hx hb dL_law_721 rfl (lv_at hl 1 rfl) ?_
  refine lv_iload hx hb dL_law_722 (lv_at hl 5 rfl) ?_
  refine lv_iconst (v := 2) hx hb dL_law_724 (by decide) ?_
  refine lv_iadd hx hb dL_law_725 ?_
  refine tp_i (y := nI (iN + 2)) (nI_add iN 2) ?_
  refine va_sld hx hb hX hbl hbA hS (i := nI (iN + 2)) (vp_in_nI (by omega) (by omega)) dL_law_726 ?_
  obtain ⟨kr2, fs2, hrc2⟩ := MIW.recv hV
  have hP := va_P.perm hP (List.Perm.cons _ List.perm_append_comm)
  have hD := va_D.perm hD (List.Perm.cons _ List.perm_append_comm)
  refine cA_v (rn_Vk (n := 2) (As := [.int (xs (nI (iN + 1)).toNatClampNeg), .int (xs (nI (iN + 2)).toNatClampNeg)]) (rest := []) hx hb hml hown ht hKK hFx hP hD hS hA (rl_poke l dC dI cI cB cZ cJ cR tb H.size m0 N B V hN1 hN2 hB0 hB tz gz xz hV (xs (nI (iN + 1)).toNatClampNeg) (xs (nI (iN + 2)).toNatClampNeg)) tw_1177 tw_1178 (by decide +kernel) rfl rfl ⟨Nat.le_of_ble_eq_true rfl, Nat.le_of_ble_eq_true rfl⟩ (ixC V.length) (ixC_map _ _ _) (ixC_nd _) kr2 hrc2 rfl rfl rfl hl.1 rfl (Nat.le_of_ble_eq_true rfl) dL_law_727 ⟨by show _ ≤ 601024; omega, by show _ ≤ 7293000; omega⟩) hP hD hS hA (fun u2 H locs hw2 hP hD hS => ?_)
  have hP := va_P.perm hP (List.Perm.cons _ List.perm_append_comm)
  have hD := va_D.perm hD (List.Perm.cons _ List.perm_append_comm)
  have hP : va_P (dC, dI) vwCl ((o0, .inl (cJ, 1, .inr (.inl g))) :: (u1 ++ u2)) H := hP
  have hD : va_D A ((o0, .inl (cJ, 1, .inr (.inl g))) :: (u1 ++ u2)) := hD
  refine W.widen (k := cells + 1) (n := slots + 6) (by omega) (by omega) ?_
  refine lv_goto (tgt := 993) hx hb dL_law_730 (by decide) ?_
  refine W.widen (k := cells + 13) (n := slots + 338) (by omega) (by omega) ?_
  exact key tz gz xz g u1 u2 H locs ls hU1 hw2.w hJ hP hD hS (lv_sub hl [1, 2, 3, 4, 5] rfl)
set_option maxHeartbeats 4000000 in
set_option maxRecDepth 100000 in
theorem lawc_18 {p : Program} {e : Env} {s : State} {m : MethodId} {below : List Frame} {meth : Method} {c : Code} (l : Launch) (hst : l.stackTraces = false) {b L : Nat} {xs : Nat → Int32} {Q : State → Prop} (hx : p.tables.exec = Jvm.exec) (hb : c.code = cL_law) (hml : c.maxLocals = 7) (hown : s.vm.findClass RL = some m.cls) (ht : ∀ w ∈ tw_W, w.before #[Value.ref b] s = true) (hX : va_X b L xs s s.heap) (hbl : b < s.heap.size) {dC : Nat → ClassId} {dI : Nat → Nat → Nat} {cI cB cZ cJ cR : ClassId} {tb : Nat → Nat} {A : Nat → Prop} (hbA : ¬ A b) (hKK : kk_ (dC, dI) (tyS cI cB cZ cJ cR) tb s) (hFx : fx_ tb A s s.heap) (hA : ∀ q, s.heap.size ≤ q → A q) {N : Nat} (hN1 : 256 ≤ N) (hN2 : N ≤ 4096) {B : Int} (hB0 : 0 ≤ B) (hB : B + 50000 ≤ 200000000) {x0 m0 o0 : Nat} {U V : va_W} {g : Nat → Int64} {tz gz : Int} {xz : ZG} (hU : KI N B x0 cI cB cR tz gz xz U) (hV : MIW N B m0 cI cZ cJ tz gz xz V) (hJ : GJz N xz.dt xz.cs xz.ms) {H : Heap} {locs : List Loc} {ls : Array Slot} {cells slots : Nat} (hce : cells + 13 ≤ 601024) (hsl : slots + 338 ≤ 7293000) {iN : Nat} (hi : iN + 6 ≤ L) (hL : L ≤ 3073) (hP : va_P (dC, dI) vwCl ((o0, .inl (cJ, 1, .inr (.inl g))) :: (U ++ V)) H) (hD : va_D A ((o0, .inl (cJ, 1, .inr (.inl g))) :: (U ++ V))) (hS : va_S A s.heap H locs) (hl : lv_has ls 7 [(0, .ref b), (1, .ref x0), (2, .ref m0), (3, .ref o0), (4, .int (nI iN))])
    (key : ∀ (t9 z9 : Int) (x9 : ZG) (g9 : Nat → Int64) (U9 V9 : va_W) (H : Heap) (locs : List Loc) (ls : Array Slot), KI N (B + 50000) x0 cI cB cR t9 z9 x9 U9 → MIW N (B + 50000) m0 cI cZ cJ t9 z9 x9 V9 → GJz N x9.dt x9.cs x9.ms → va_P (dC, dI) vwCl ((o0, .inl (cJ, 1, .inr (.inl g9))) :: (U9 ++ V9)) H → va_D A ((o0, .inl (cJ, 1, .inr (.inl g9))) :: (U9 ++ V9)) → va_S A s.heap H locs → lv_has ls 7 [(0, .ref b), (1, .ref x0), (2, .ref m0), (3, .ref o0), (4, .int (nI iN))] → W p l e room_1 s m #[Value.ref b] below meth c H locs (cells + 13) (slots + 338) Q (F0 m 993 ls [])) : W p l e room_1 s m #[Value.ref b] below meth c H locs cells slots Q (F0 m 733 ls []) := by
  have hK := hKK.1
  refine lv_aload_n hx hb dL_law_733 rfl (lv_at hl 1 rfl) ?_
  refine lv_aload_n hx hb dL_law_734 rfl (lv_at hl 0 rfl) ?_
  refine lv_iload hx hb dL_law_735 (lv_at hl 4 rfl) ?_
  refine lv_iconst (v := 1) hx hb dL_law_737 (by decide) ?_
  refine lv_iadd hx hb dL_law_738 ?_
  refine tp_i (y := nI (iN + 1)) (nI_add iN 1) ?_
  refine va_sld hx hb hX hbl hbA hS (i := nI (iN + 1)) (vp_in_nI (by omega) (by omega)) dL_law_739 ?_
  refine lv_aload_n hx hb dL_law_740 rfl (lv_at hl 3 rfl) ?_
  refine cD_i (A0 := (o0, .inl (cJ, 1, .inr (.inl g))) :: U) (Z := V) (rn_SW (n := 3) (As := [.ref x0, .int (xs (nI (iN + 1)).toNatClampNeg), .ref o0]) (rest := []) hx hb hml hown ht hKK hFx hP hD hS hA (hl_put l dC dI cI cB cZ cJ cR tb hst H.size x0 o0 N B U g hN2 hB tz gz xz hU (xs (nI (iN + 1)).toNatClampNeg)) tw_1179 tw_1180 (by decide +kernel) rfl rfl ⟨Nat.le_of_ble_eq_true rfl, Nat.le_of_ble_eq_true rfl⟩ (List.range ((o0, .inl (cJ, 1, .inr (.inl g))) :: U).length) (ixA_map ((o0, .inl (cJ, 1, .inr (.inl g))) :: U) V) (nd_range _) rfl hl.1 rfl (Nat.le_of_ble_eq_true rfl) dL_law_741 ⟨by show _ ≤ 601024; omega, by show _ ≤ 7293000; omega⟩) hP hD hS hA (fun r1 u1 H locs hw hP hD hS => ?_)
  obtain ⟨g1, U1, hu1, hU1⟩ := hw
  have hu1 : u1 = (o0, .inl (cJ, 1, .inr (.inl g1))) :: U1 := hu1
  subst hu1
  have hP : va_P (dC, dI) vwCl ((o0, .inl (cJ, 1, .inr (.inl g1))) :: (U1 ++ V)) H := hP
  have hD : va_D A ((o0, .inl (cJ, 1, .inr (.inl g1))) :: (U1 ++ V)) := hD
  refine W.widen (k := cells + 1) (n := slots + 6) (by omega) (by omega) ?_
  refine lv_istore (lv' := [(5, .int r1), (0, .ref b), (1, .ref x0), (2, .ref m0), (3, .ref o0), (4, .int (nI iN))]) hx hb dL_law_744 hl (by decide) rfl (fun ls hl => ?_)
  refine lv_aload_n hx hb dL_law_746 rfl (lv_at hl 3 rfl) ?_
  refine lv_aload_n hx hb dL_law_747 rfl (lv_at hl 1 rfl) ?_
  refine lv_iload hx hb dL_law_748 (lv_at hl 5 rfl) ?_
  refine lv_iconst (v := 1) hx hb dL_law_750 (by decide) ?_
  refine lv_iadd hx hb dL_law_751 ?_
  refine tp_i (y := nI (iN + 1)) (nI_add iN 1) ?_
  refine va_sld hx hb hX hbl hbA hS (i := nI (iN + 1)) (vp_in_nI (by omega) (by omega)) dL_law_752 ?_
  obtain ⟨kr2, fs2, hrc2⟩ := MIW.recv hV
  have hP := va_P.perm hP (List.Perm.cons _ List.perm_append_comm)
  have hD := va_D.perm hD (List.Perm.cons _ List.perm_append_comm)
  refine cA_i (rn_Vk (n := 1) (As := [.int (xs (nI (iN + 1)).toNatClampNeg)]) (rest := []) hx hb hml hown ht hKK hFx hP hD hS hA (rl_put l dC dI cI cB cZ cJ cR tb H.size m0 N B V hN1 hN2 hB0 hB tz gz xz hV (xs (nI (iN + 1)).toNatClampNeg)) tw_1181 tw_1182 (by decide +kernel) rfl rfl ⟨Nat.le_of_ble_eq_true rfl, Nat.le_of_ble_eq_true rfl⟩ (ixC V.length) (ixC_map _ _ _) (ixC_nd _) kr2 hrc2 rfl rfl rfl hl.1 rfl (Nat.le_of_ble_eq_true rfl) dL_law_753 ⟨by show _ ≤ 601024; omega, by show _ ≤ 7293000; omega⟩) hP hD hS hA (fun r2 u2 H locs hw2 hP hD hS => ?_)
  have hP := va_P.perm hP (List.Perm.cons _ List.perm_append_comm)
  have hD := va_D.perm hD (List.Perm.cons _ List.perm_append_comm)
  have hP : va_P (dC, dI) vwCl ((o0, .inl (cJ, 1, .inr (.inl g1))) :: (U1 ++ u2)) H := hP
  have hD : va_D A ((o0, .inl (cJ, 1, .inr (.inl g1))) :: (U1 ++ u2)) := hD
  refine W.widen (k := cells + 1) (n := slots + 6) (by omega) (by omega) ?_
  refine lv_istore (lv' := [(6, .int r2), (5, .int r1), (0, .ref b), (1, .ref x0), (2, .ref m0), (3, .ref o0), (4, .int (nI iN))]) hx hb dL_law_756 hl (by decide) rfl (fun ls hl => ?_)
  refine lv_goto (tgt := 993) hx hb dL_law_758 (by decide) ?_
  refine W.widen (k := cells + 13) (n := slots + 338) (by omega) (by omega) ?_
  exact key tz gz xz g1 U1 u2 H locs ls hU1 hw2 hJ hP hD hS (lv_sub hl [2, 3, 4, 5, 6] rfl)
set_option maxHeartbeats 4000000 in
set_option maxRecDepth 100000 in
theorem lawc_19 {p : Program} {e : Env} {s : State} {m : MethodId} {below : List Frame} {meth : Method} {c : Code} (l : Launch) (hst : l.stackTraces = false) {b L : Nat} {xs : Nat → Int32} {Q : State → Prop} (hx : p.tables.exec = Jvm.exec) (hb : c.code = cL_law) (hml : c.maxLocals = 7) (hown : s.vm.findClass RL = some m.cls) (ht : ∀ w ∈ tw_W, w.before #[Value.ref b] s = true) (hX : va_X b L xs s s.heap) (hbl : b < s.heap.size) {dC : Nat → ClassId} {dI : Nat → Nat → Nat} {cI cB cZ cJ cR : ClassId} {tb : Nat → Nat} {A : Nat → Prop} (hbA : ¬ A b) (hKK : kk_ (dC, dI) (tyS cI cB cZ cJ cR) tb s) (hFx : fx_ tb A s s.heap) (hA : ∀ q, s.heap.size ≤ q → A q) {N : Nat} (hN1 : 256 ≤ N) (hN2 : N ≤ 4096) {B : Int} (hB0 : 0 ≤ B) (hB : B + 50000 ≤ 200000000) {x0 m0 o0 : Nat} {U V : va_W} {g : Nat → Int64} {tz gz : Int} {xz : ZG} (hU : KI N B x0 cI cB cR tz gz xz U) (hV : MIW N B m0 cI cZ cJ tz gz xz V) (hJ : GJz N xz.dt xz.cs xz.ms) {H : Heap} {locs : List Loc} {ls : Array Slot} {cells slots : Nat} (hce : cells + 13 ≤ 601024) (hsl : slots + 338 ≤ 7293000) {iN : Nat} (hi : iN + 6 ≤ L) (hL : L ≤ 3073) (hP : va_P (dC, dI) vwCl ((o0, .inl (cJ, 1, .inr (.inl g))) :: (U ++ V)) H) (hD : va_D A ((o0, .inl (cJ, 1, .inr (.inl g))) :: (U ++ V))) (hS : va_S A s.heap H locs) (hl : lv_has ls 7 [(0, .ref b), (1, .ref x0), (2, .ref m0), (3, .ref o0), (4, .int (nI iN))])
    (key : ∀ (t9 z9 : Int) (x9 : ZG) (g9 : Nat → Int64) (U9 V9 : va_W) (H : Heap) (locs : List Loc) (ls : Array Slot), KI N (B + 50000) x0 cI cB cR t9 z9 x9 U9 → MIW N (B + 50000) m0 cI cZ cJ t9 z9 x9 V9 → GJz N x9.dt x9.cs x9.ms → va_P (dC, dI) vwCl ((o0, .inl (cJ, 1, .inr (.inl g9))) :: (U9 ++ V9)) H → va_D A ((o0, .inl (cJ, 1, .inr (.inl g9))) :: (U9 ++ V9)) → va_S A s.heap H locs → lv_has ls 7 [(0, .ref b), (1, .ref x0), (2, .ref m0), (3, .ref o0), (4, .int (nI iN))] → W p l e room_1 s m #[Value.ref b] below meth c H locs (cells + 13) (slots + 338) Q (F0 m 993 ls [])) : W p l e room_1 s m #[Value.ref b] below meth c H locs cells slots Q (F0 m 761 ls []) := by
  have hK := hKK.1
  refine lv_aload_n hx hb dL_law_761 rfl (lv_at hl 1 rfl) ?_
  refine lv_aload_n hx hb dL_law_762 rfl (lv_at hl 0 rfl) ?_
  refine lv_iload hx hb dL_law_763 (lv_at hl 4 rfl) ?_
  refine lv_iconst (v := 1) hx hb dL_law_765 (by decide) ?_
  refine lv_iadd hx hb dL_law_766 ?_
  refine tp_i (y := nI (iN + 1)) (nI_add iN 1) ?_
  refine va_sld hx hb hX hbl hbA hS (i := nI (iN + 1)) (vp_in_nI (by omega) (by omega)) dL_law_767 ?_
  obtain ⟨kr1, fs1, hrc1⟩ := KI.recv hU
  refine cA_i (rn_Vk (n := 1) (As := [.int (xs (nI (iN + 1)).toNatClampNeg)]) (rest := []) hx hb hml hown ht hKK hFx hP hD hS hA (kl_show l dC dI cI cB cZ cJ cR tb hst H.size x0 N B U hN2 hB tz gz xz hU (xs (nI (iN + 1)).toNatClampNeg)) tw_1183 tw_1184 (by decide +kernel) rfl rfl ⟨Nat.le_of_ble_eq_true rfl, Nat.le_of_ble_eq_true rfl⟩ (ixC U.length) (ixC_map _ _ _) (ixC_nd _) kr1 hrc1 rfl rfl rfl hl.1 rfl (Nat.le_of_ble_eq_true rfl) dL_law_768 ⟨by show _ ≤ 601024; omega, by show _ ≤ 7293000; omega⟩) hP hD hS hA (fun r1 u1 H locs hw1 hP hD hS => ?_)
  obtain ⟨hU1, hr1⟩ := hw1
  have hP : va_P (dC, dI) vwCl ((o0, .inl (cJ, 1, .inr (.inl g))) :: (u1 ++ V)) H := hP
  have hD : va_D A ((o0, .inl (cJ, 1, .inr (.inl g))) :: (u1 ++ V)) := hD
  refine W.widen (k := cells + 9) (n := slots + 306) (by omega) (by omega) ?_
  refine lv_pop hx hb dL_law_771 rfl ?_
  refine lv_aload_n hx hb dL_law_772 rfl (lv_at hl 2 rfl) ?_
  refine lv_aload_n hx hb dL_law_773 rfl (lv_at hl 0 rfl) ?_
  refine lv_iload hx hb dL_law_774 (lv_at hl 4 rfl) ?_
  refine lv_iconst (v := 1) hx hb dL_law_776 (by decide) ?_
  refine lv_iadd hx hb dL_law_777 ?_
  refine tp_i (y := nI (iN + 1)) (nI_add iN 1) ?_
  refine va_sld hx hb hX hbl hbA hS (i := nI (iN + 1)) (vp_in_nI (by omega) (by omega)) dL_law_778 ?_
  obtain ⟨kr2, fs2, hrc2⟩ := MIW.recv hV
  have hP := va_P.perm hP (List.Perm.cons _ List.perm_append_comm)
  have hD := va_D.perm hD (List.Perm.cons _ List.perm_append_comm)
  refine cA_i (rn_Vk (n := 1) (As := [.int (xs (nI (iN + 1)).toNatClampNeg)]) (rest := []) hx hb hml hown ht hKK hFx hP hD hS hA (rl_show l dC dI cI cB cZ cJ cR tb H.size m0 N B V hN1 hN2 hB0 hB tz gz xz hV (xs (nI (iN + 1)).toNatClampNeg)) tw_1185 tw_1186 (by decide +kernel) rfl rfl ⟨Nat.le_of_ble_eq_true rfl, Nat.le_of_ble_eq_true rfl⟩ (ixC V.length) (ixC_map _ _ _) (ixC_nd _) kr2 hrc2 rfl rfl rfl hl.1 rfl (Nat.le_of_ble_eq_true rfl) dL_law_779 ⟨by show _ ≤ 601024; omega, by show _ ≤ 7293000; omega⟩) hP hD hS hA (fun r2 u2 H locs hw2 hP hD hS => ?_)
  have hP := va_P.perm hP (List.Perm.cons _ List.perm_append_comm)
  have hD := va_D.perm hD (List.Perm.cons _ List.perm_append_comm)
  obtain ⟨hV2, hr2⟩ := hw2
  have hP : va_P (dC, dI) vwCl ((o0, .inl (cJ, 1, .inr (.inl g))) :: (u1 ++ u2)) H := hP
  have hD : va_D A ((o0, .inl (cJ, 1, .inr (.inl g))) :: (u1 ++ u2)) := hD
  refine W.widen (k := cells + 13) (n := slots + 338) (by omega) (by omega) ?_
  refine lv_pop hx hb dL_law_782 rfl ?_
  refine lv_goto (tgt := 993) hx hb dL_law_783 (by decide) ?_
  refine W.widen (k := cells + 13) (n := slots + 338) (by omega) (by omega) ?_
  exact key tz gz (xz.sh (tM (xs (nI (iN + 1)).toNatClampNeg))) g u1 u2 H locs ls hU1 hV2 hJ hP hD hS (lv_sub hl [0, 1, 2, 3, 4] rfl)
set_option maxHeartbeats 4000000 in
set_option maxRecDepth 100000 in
theorem lawc_20 {p : Program} {e : Env} {s : State} {m : MethodId} {below : List Frame} {meth : Method} {c : Code} (l : Launch) (hst : l.stackTraces = false) {b L : Nat} {xs : Nat → Int32} {Q : State → Prop} (hx : p.tables.exec = Jvm.exec) (hb : c.code = cL_law) (hml : c.maxLocals = 7) (hown : s.vm.findClass RL = some m.cls) (ht : ∀ w ∈ tw_W, w.before #[Value.ref b] s = true) (hX : va_X b L xs s s.heap) (hbl : b < s.heap.size) {dC : Nat → ClassId} {dI : Nat → Nat → Nat} {cI cB cZ cJ cR : ClassId} {tb : Nat → Nat} {A : Nat → Prop} (hbA : ¬ A b) (hKK : kk_ (dC, dI) (tyS cI cB cZ cJ cR) tb s) (hFx : fx_ tb A s s.heap) (hA : ∀ q, s.heap.size ≤ q → A q) {N : Nat} (hN1 : 256 ≤ N) (hN2 : N ≤ 4096) {B : Int} (hB0 : 0 ≤ B) (hB : B + 50000 ≤ 200000000) {x0 m0 o0 : Nat} {U V : va_W} {g : Nat → Int64} {tz gz : Int} {xz : ZG} (hU : KI N B x0 cI cB cR tz gz xz U) (hV : MIW N B m0 cI cZ cJ tz gz xz V) (hJ : GJz N xz.dt xz.cs xz.ms) {H : Heap} {locs : List Loc} {ls : Array Slot} {cells slots : Nat} (hce : cells + 13 ≤ 601024) (hsl : slots + 338 ≤ 7293000) {iN : Nat} (hi : iN + 6 ≤ L) (hL : L ≤ 3073) (hP : va_P (dC, dI) vwCl ((o0, .inl (cJ, 1, .inr (.inl g))) :: (U ++ V)) H) (hD : va_D A ((o0, .inl (cJ, 1, .inr (.inl g))) :: (U ++ V))) (hS : va_S A s.heap H locs) (hl : lv_has ls 7 [(0, .ref b), (1, .ref x0), (2, .ref m0), (3, .ref o0), (4, .int (nI iN))])
    (key : ∀ (t9 z9 : Int) (x9 : ZG) (g9 : Nat → Int64) (U9 V9 : va_W) (H : Heap) (locs : List Loc) (ls : Array Slot), KI N (B + 50000) x0 cI cB cR t9 z9 x9 U9 → MIW N (B + 50000) m0 cI cZ cJ t9 z9 x9 V9 → GJz N x9.dt x9.cs x9.ms → va_P (dC, dI) vwCl ((o0, .inl (cJ, 1, .inr (.inl g9))) :: (U9 ++ V9)) H → va_D A ((o0, .inl (cJ, 1, .inr (.inl g9))) :: (U9 ++ V9)) → va_S A s.heap H locs → lv_has ls 7 [(0, .ref b), (1, .ref x0), (2, .ref m0), (3, .ref o0), (4, .int (nI iN))] → W p l e room_1 s m #[Value.ref b] below meth c H locs (cells + 13) (slots + 338) Q (F0 m 993 ls [])) : W p l e room_1 s m #[Value.ref b] below meth c H locs cells slots Q (F0 m 786 ls []) := by
  have hK := hKK.1
  refine lv_aload_n hx hb dL_law_786 rfl (lv_at hl 1 rfl) ?_
  refine lv_aload_n hx hb dL_law_787 rfl (lv_at hl 0 rfl) ?_
  refine lv_iload hx hb dL_law_788 (lv_at hl 4 rfl) ?_
  refine lv_iconst (v := 1) hx hb dL_law_790 (by decide) ?_
  refine lv_iadd hx hb dL_law_791 ?_
  refine tp_i (y := nI (iN + 1)) (nI_add iN 1) ?_
  refine va_sld hx hb hX hbl hbA hS (i := nI (iN + 1)) (vp_in_nI (by omega) (by omega)) dL_law_792 ?_
  obtain ⟨kr1, fs1, hrc1⟩ := KI.recv hU
  refine cA_i (rn_Vk (n := 1) (As := [.int (xs (nI (iN + 1)).toNatClampNeg)]) (rest := []) hx hb hml hown ht hKK hFx hP hD hS hA (kl_octet l dC dI cI cB cZ cJ cR tb hst H.size x0 N B U hN2 hB tz gz xz hU (xs (nI (iN + 1)).toNatClampNeg)) tw_1187 tw_1188 (by decide +kernel) rfl rfl ⟨Nat.le_of_ble_eq_true rfl, Nat.le_of_ble_eq_true rfl⟩ (ixC U.length) (ixC_map _ _ _) (ixC_nd _) kr1 hrc1 rfl rfl rfl hl.1 rfl (Nat.le_of_ble_eq_true rfl) dL_law_793 ⟨by show _ ≤ 601024; omega, by show _ ≤ 7293000; omega⟩) hP hD hS hA (fun r1 u1 H locs hw1 hP hD hS => ?_)
  obtain ⟨hU1, hr1⟩ := hw1
  have hP : va_P (dC, dI) vwCl ((o0, .inl (cJ, 1, .inr (.inl g))) :: (u1 ++ V)) H := hP
  have hD : va_D A ((o0, .inl (cJ, 1, .inr (.inl g))) :: (u1 ++ V)) := hD
  refine W.widen (k := cells + 0) (n := slots + 0) (by omega) (by omega) ?_
  refine lv_pop hx hb dL_law_796 rfl ?_
  refine lv_aload_n hx hb dL_law_797 rfl (lv_at hl 2 rfl) ?_
  refine lv_aload_n hx hb dL_law_798 rfl (lv_at hl 0 rfl) ?_
  refine lv_iload hx hb dL_law_799 (lv_at hl 4 rfl) ?_
  refine lv_iconst (v := 1) hx hb dL_law_801 (by decide) ?_
  refine lv_iadd hx hb dL_law_802 ?_
  refine tp_i (y := nI (iN + 1)) (nI_add iN 1) ?_
  refine va_sld hx hb hX hbl hbA hS (i := nI (iN + 1)) (vp_in_nI (by omega) (by omega)) dL_law_803 ?_
  obtain ⟨kr2, fs2, hrc2⟩ := MIW.recv hV
  have hP := va_P.perm hP (List.Perm.cons _ List.perm_append_comm)
  have hD := va_D.perm hD (List.Perm.cons _ List.perm_append_comm)
  refine cA_i (rn_Vk (n := 1) (As := [.int (xs (nI (iN + 1)).toNatClampNeg)]) (rest := []) hx hb hml hown ht hKK hFx hP hD hS hA (rl_octet l dC dI cI cB cZ cJ cR tb H.size m0 N B V hN1 hN2 hB0 hB tz gz xz hV (xs (nI (iN + 1)).toNatClampNeg)) tw_1189 tw_1190 (by decide +kernel) rfl rfl ⟨Nat.le_of_ble_eq_true rfl, Nat.le_of_ble_eq_true rfl⟩ (ixC V.length) (ixC_map _ _ _) (ixC_nd _) kr2 hrc2 rfl rfl rfl hl.1 rfl (Nat.le_of_ble_eq_true rfl) dL_law_804 ⟨by show _ ≤ 601024; omega, by show _ ≤ 7293000; omega⟩) hP hD hS hA (fun r2 u2 H locs hw2 hP hD hS => ?_)
  have hP := va_P.perm hP (List.Perm.cons _ List.perm_append_comm)
  have hD := va_D.perm hD (List.Perm.cons _ List.perm_append_comm)
  obtain ⟨hV2, hr2⟩ := hw2
  have hP : va_P (dC, dI) vwCl ((o0, .inl (cJ, 1, .inr (.inl g))) :: (u1 ++ u2)) H := hP
  have hD : va_D A ((o0, .inl (cJ, 1, .inr (.inl g))) :: (u1 ++ u2)) := hD
  refine W.widen (k := cells + 0) (n := slots + 0) (by omega) (by omega) ?_
  refine lv_pop hx hb dL_law_807 rfl ?_
  refine lv_goto (tgt := 993) hx hb dL_law_808 (by decide) ?_
  refine W.widen (k := cells + 13) (n := slots + 338) (by omega) (by omega) ?_
  exact key tz gz xz g u1 u2 H locs ls hU1 hV2 hJ hP hD hS (lv_sub hl [0, 1, 2, 3, 4] rfl)
set_option maxHeartbeats 4000000 in
set_option maxRecDepth 100000 in
theorem lawc_21 {p : Program} {e : Env} {s : State} {m : MethodId} {below : List Frame} {meth : Method} {c : Code} (l : Launch) (hst : l.stackTraces = false) {b L : Nat} {xs : Nat → Int32} {Q : State → Prop} (hx : p.tables.exec = Jvm.exec) (hb : c.code = cL_law) (hml : c.maxLocals = 7) (hown : s.vm.findClass RL = some m.cls) (ht : ∀ w ∈ tw_W, w.before #[Value.ref b] s = true) (hX : va_X b L xs s s.heap) (hbl : b < s.heap.size) {dC : Nat → ClassId} {dI : Nat → Nat → Nat} {cI cB cZ cJ cR : ClassId} {tb : Nat → Nat} {A : Nat → Prop} (hbA : ¬ A b) (hKK : kk_ (dC, dI) (tyS cI cB cZ cJ cR) tb s) (hFx : fx_ tb A s s.heap) (hA : ∀ q, s.heap.size ≤ q → A q) {N : Nat} (hN1 : 256 ≤ N) (hN2 : N ≤ 4096) {B : Int} (hB0 : 0 ≤ B) (hB : B + 50000 ≤ 200000000) {x0 m0 o0 : Nat} {U V : va_W} {g : Nat → Int64} {tz gz : Int} {xz : ZG} (hU : KI N B x0 cI cB cR tz gz xz U) (hV : MIW N B m0 cI cZ cJ tz gz xz V) (hJ : GJz N xz.dt xz.cs xz.ms) {H : Heap} {locs : List Loc} {ls : Array Slot} {cells slots : Nat} (hce : cells + 13 ≤ 601024) (hsl : slots + 338 ≤ 7293000) {iN : Nat} (hi : iN + 6 ≤ L) (hL : L ≤ 3073) (hP : va_P (dC, dI) vwCl ((o0, .inl (cJ, 1, .inr (.inl g))) :: (U ++ V)) H) (hD : va_D A ((o0, .inl (cJ, 1, .inr (.inl g))) :: (U ++ V))) (hS : va_S A s.heap H locs) (hl : lv_has ls 7 [(0, .ref b), (1, .ref x0), (2, .ref m0), (3, .ref o0), (4, .int (nI iN))])
    (key : ∀ (t9 z9 : Int) (x9 : ZG) (g9 : Nat → Int64) (U9 V9 : va_W) (H : Heap) (locs : List Loc) (ls : Array Slot), KI N (B + 50000) x0 cI cB cR t9 z9 x9 U9 → MIW N (B + 50000) m0 cI cZ cJ t9 z9 x9 V9 → GJz N x9.dt x9.cs x9.ms → va_P (dC, dI) vwCl ((o0, .inl (cJ, 1, .inr (.inl g9))) :: (U9 ++ V9)) H → va_D A ((o0, .inl (cJ, 1, .inr (.inl g9))) :: (U9 ++ V9)) → va_S A s.heap H locs → lv_has ls 7 [(0, .ref b), (1, .ref x0), (2, .ref m0), (3, .ref o0), (4, .int (nI iN))] → W p l e room_1 s m #[Value.ref b] below meth c H locs (cells + 13) (slots + 338) Q (F0 m 993 ls [])) : W p l e room_1 s m #[Value.ref b] below meth c H locs cells slots Q (F0 m 811 ls []) := by
  have hK := hKK.1
  refine lv_aload_n hx hb dL_law_811 rfl (lv_at hl 1 rfl) ?_
  refine lv_aload_n hx hb dL_law_812 rfl (lv_at hl 0 rfl) ?_
  refine lv_iload hx hb dL_law_813 (lv_at hl 4 rfl) ?_
  refine lv_iconst (v := 1) hx hb dL_law_815 (by decide) ?_
  refine lv_iadd hx hb dL_law_816 ?_
  refine tp_i (y := nI (iN + 1)) (nI_add iN 1) ?_
  refine va_sld hx hb hX hbl hbA hS (i := nI (iN + 1)) (vp_in_nI (by omega) (by omega)) dL_law_817 ?_
  refine lv_aload_n hx hb dL_law_818 rfl (lv_at hl 0 rfl) ?_
  refine lv_iload hx hb dL_law_819 (lv_at hl 4 rfl) ?_
  refine lv_iconst (v := 2) hx hb dL_law_821 (by decide) ?_
  refine lv_iadd hx hb dL_law_822 ?_
  refine tp_i (y := nI (iN + 2)) (nI_add iN 2) ?_
  refine va_sld hx hb hX hbl hbA hS (i := nI (iN + 2)) (vp_in_nI (by omega) (by omega)) dL_law_823 ?_
  refine lv_aload_n hx hb dL_law_824 rfl (lv_at hl 0 rfl) ?_
  refine lv_iload hx hb dL_law_825 (lv_at hl 4 rfl) ?_
  refine lv_iconst (v := 3) hx hb dL_law_827 (by decide) ?_
  refine lv_iadd hx hb dL_law_828 ?_
  refine tp_i (y := nI (iN + 3)) (nI_add iN 3) ?_
  refine va_sld hx hb hX hbl hbA hS (i := nI (iN + 3)) (vp_in_nI (by omega) (by omega)) dL_law_829 ?_
  refine lv_aload_n hx hb dL_law_830 rfl (lv_at hl 0 rfl) ?_
  refine lv_iload hx hb dL_law_831 (lv_at hl 4 rfl) ?_
  refine lv_iconst (v := 4) hx hb dL_law_833 (by decide) ?_
  refine lv_iadd hx hb dL_law_834 ?_
  refine tp_i (y := nI (iN + 4)) (nI_add iN 4) ?_
  refine va_sld hx hb hX hbl hbA hS (i := nI (iN + 4)) (vp_in_nI (by omega) (by omega)) dL_law_835 ?_
  refine lv_aload_n hx hb dL_law_836 rfl (lv_at hl 3 rfl) ?_
  refine cD_i (A0 := (o0, .inl (cJ, 1, .inr (.inl g))) :: U) (Z := V) (rn_SW (n := 6) (As := [.ref x0, .int (xs (nI (iN + 1)).toNatClampNeg), .int (xs (nI (iN + 2)).toNatClampNeg), .int (xs (nI (iN + 3)).toNatClampNeg), .int (xs (nI (iN + 4)).toNatClampNeg), .ref o0]) (rest := []) hx hb hml hown ht hKK hFx hP hD hS hA (hl_work l dC dI cI cB cZ cJ cR tb hst H.size x0 o0 N B U g hN2 hB tz gz xz hU (xs (nI (iN + 1)).toNatClampNeg) (xs (nI (iN + 2)).toNatClampNeg) (xs (nI (iN + 3)).toNatClampNeg) (xs (nI (iN + 4)).toNatClampNeg)) tw_1191 tw_1192 (by decide +kernel) rfl rfl ⟨Nat.le_of_ble_eq_true rfl, Nat.le_of_ble_eq_true rfl⟩ (List.range ((o0, .inl (cJ, 1, .inr (.inl g))) :: U).length) (ixA_map ((o0, .inl (cJ, 1, .inr (.inl g))) :: U) V) (nd_range _) rfl hl.1 rfl (Nat.le_of_ble_eq_true rfl) dL_law_837 ⟨by show _ ≤ 601024; omega, by show _ ≤ 7293000; omega⟩) hP hD hS hA (fun r1 u1 H locs hw hP hD hS => ?_)
  obtain ⟨g1, U1, hu1, c1, hU1, hcx⟩ := hw
  have hu1 : u1 = (o0, .inl (cJ, 1, .inr (.inl g1))) :: U1 := hu1
  subst hu1
  have hcx : HCw N gz xz (xs (nI (iN + 1)).toNatClampNeg) (xs (nI (iN + 2)).toNatClampNeg) (xs (nI (iN + 3)).toNatClampNeg) (xs (nI (iN + 4)).toNatClampNeg) r1.toInt (g1 0) c1 := hcx
  have hP : va_P (dC, dI) vwCl ((o0, .inl (cJ, 1, .inr (.inl g1))) :: (U1 ++ V)) H := hP
  have hD : va_D A ((o0, .inl (cJ, 1, .inr (.inl g1))) :: (U1 ++ V)) := hD
  refine W.widen (k := cells + 1) (n := slots + 6) (by omega) (by omega) ?_
  refine lv_istore (lv' := [(5, .int r1), (0, .ref b), (1, .ref x0), (2, .ref m0), (3, .ref o0), (4, .int (nI iN))]) hx hb dL_law_840 hl (by decide) rfl (fun ls hl => ?_)
  refine lv_aload_n hx hb dL_law_842 rfl (lv_at hl 3 rfl) ?_
  refine lv_aload_n hx hb dL_law_843 rfl (lv_at hl 1 rfl) ?_
  refine lv_iload hx hb dL_law_844 (lv_at hl 5 rfl) ?_
  refine lv_iconst (v := 1) hx hb dL_law_846 (by decide) ?_
  refine lv_iadd hx hb dL_law_847 ?_
  refine tp_i (y := nI (iN + 1)) (nI_add iN 1) ?_
  refine va_sld hx hb hX hbl hbA hS (i := nI (iN + 1)) (vp_in_nI (by omega) (by omega)) dL_law_848 ?_
  refine lv_aload_n hx hb dL_law_849 rfl (lv_at hl 1 rfl) ?_
  refine lv_iload hx hb dL_law_850 (lv_at hl 5 rfl) ?_
  refine lv_iconst (v := 2) hx hb dL_law_852 (by decide) ?_
  refine lv_iadd hx hb dL_law_853 ?_
  refine tp_i (y := nI (iN + 2)) (nI_add iN 2) ?_
  refine va_sld hx hb hX hbl hbA hS (i := nI (iN + 2)) (vp_in_nI (by omega) (by omega)) dL_law_854 ?_
  refine lv_aload_n hx hb dL_law_855 rfl (lv_at hl 1 rfl) ?_
  refine lv_iload hx hb dL_law_856 (lv_at hl 5 rfl) ?_
  refine lv_iconst (v := 3) hx hb dL_law_858 (by decide) ?_
  refine lv_iadd hx hb dL_law_859 ?_
  refine tp_i (y := nI (iN + 3)) (nI_add iN 3) ?_
  refine va_sld hx hb hX hbl hbA hS (i := nI (iN + 3)) (vp_in_nI (by omega) (by omega)) dL_law_860 ?_
  refine lv_aload_n hx hb dL_law_861 rfl (lv_at hl 1 rfl) ?_
  refine lv_iload hx hb dL_law_862 (lv_at hl 5 rfl) ?_
  refine lv_iconst (v := 4) hx hb dL_law_864 (by decide) ?_
  refine lv_iadd hx hb dL_law_865 ?_
  refine tp_i (y := nI (iN + 4)) (nI_add iN 4) ?_
  refine va_sld hx hb hX hbl hbA hS (i := nI (iN + 4)) (vp_in_nI (by omega) (by omega)) dL_law_866 ?_
  obtain ⟨kr2, fs2, hrc2⟩ := MIW.recv hV
  have hP := va_P.perm hP (List.Perm.cons _ List.perm_append_comm)
  have hD := va_D.perm hD (List.Perm.cons _ List.perm_append_comm)
  refine cA_i (rn_Vk (n := 4) (As := [.int (xs (nI (iN + 1)).toNatClampNeg), .int (xs (nI (iN + 2)).toNatClampNeg), .int (xs (nI (iN + 3)).toNatClampNeg), .int (xs (nI (iN + 4)).toNatClampNeg)]) (rest := []) hx hb hml hown ht hKK hFx hP hD hS hA (rl_work l dC dI cI cB cZ cJ cR tb H.size m0 N B V hN1 hN2 hB0 hB tz gz xz hV (xs (nI (iN + 1)).toNatClampNeg) (xs (nI (iN + 2)).toNatClampNeg) (xs (nI (iN + 3)).toNatClampNeg) (xs (nI (iN + 4)).toNatClampNeg)) tw_1193 tw_1194 (by decide +kernel) rfl rfl ⟨Nat.le_of_ble_eq_true rfl, Nat.le_of_ble_eq_true rfl⟩ (ixC V.length) (ixC_map _ _ _) (ixC_nd _) kr2 hrc2 rfl rfl rfl hl.1 rfl (Nat.le_of_ble_eq_true rfl) dL_law_867 ⟨by show _ ≤ 601024; omega, by show _ ≤ 7293000; omega⟩) hP hD hS hA (fun r2 u2 H locs hw2 hP hD hS => ?_)
  have hP := va_P.perm hP (List.Perm.cons _ List.perm_append_comm)
  have hD := va_D.perm hD (List.Perm.cons _ List.perm_append_comm)
  obtain ⟨m2, hV2⟩ := hw2
  have hP : va_P (dC, dI) vwCl ((o0, .inl (cJ, 1, .inr (.inl g1))) :: (U1 ++ u2)) H := hP
  have hD : va_D A ((o0, .inl (cJ, 1, .inr (.inl g1))) :: (U1 ++ u2)) := hD
  refine W.widen (k := cells + 1) (n := slots + 6) (by omega) (by omega) ?_
  refine lv_istore (lv' := [(6, .int r2), (5, .int r1), (0, .ref b), (1, .ref x0), (2, .ref m0), (3, .ref o0), (4, .int (nI iN))]) hx hb dL_law_870 hl (by decide) rfl (fun ls hl => ?_)
  refine lv_goto (tgt := 993) hx hb dL_law_872 (by decide) ?_
  refine W.widen (k := cells + 13) (n := slots + 338) (by omega) (by omega) ?_
  obtain ⟨x8, htx⟩ := MIT.t (hV2 c1)
  have htx : HMw N gz xz (xs (nI (iN + 1)).toNatClampNeg) (xs (nI (iN + 2)).toNatClampNeg) (xs (nI (iN + 3)).toNatClampNeg) (xs (nI (iN + 4)).toNatClampNeg) x8 r2 m2 := htx
  have hJ2 := (workZ hN2 hN1 hJ hcx htx).2.2
  exact key tz gz (xz.cw c1 m2) g1 U1 u2 H locs ls (hU1 m2) (hV2 c1).w hJ2 hP hD hS (lv_sub hl [2, 3, 4, 5, 6] rfl)
set_option maxHeartbeats 4000000 in
set_option maxRecDepth 100000 in
theorem lawc_22 {p : Program} {e : Env} {s : State} {m : MethodId} {below : List Frame} {meth : Method} {c : Code} (l : Launch) (hst : l.stackTraces = false) {b L : Nat} {xs : Nat → Int32} {Q : State → Prop} (hx : p.tables.exec = Jvm.exec) (hb : c.code = cL_law) (hml : c.maxLocals = 7) (hown : s.vm.findClass RL = some m.cls) (ht : ∀ w ∈ tw_W, w.before #[Value.ref b] s = true) (hX : va_X b L xs s s.heap) (hbl : b < s.heap.size) {dC : Nat → ClassId} {dI : Nat → Nat → Nat} {cI cB cZ cJ cR : ClassId} {tb : Nat → Nat} {A : Nat → Prop} (hbA : ¬ A b) (hKK : kk_ (dC, dI) (tyS cI cB cZ cJ cR) tb s) (hFx : fx_ tb A s s.heap) (hA : ∀ q, s.heap.size ≤ q → A q) {N : Nat} (hN1 : 256 ≤ N) (hN2 : N ≤ 4096) {B : Int} (hB0 : 0 ≤ B) (hB : B + 50000 ≤ 200000000) {x0 m0 o0 : Nat} {U V : va_W} {g : Nat → Int64} {tz gz : Int} {xz : ZG} (hU : KI N B x0 cI cB cR tz gz xz U) (hV : MIW N B m0 cI cZ cJ tz gz xz V) (hJ : GJz N xz.dt xz.cs xz.ms) {H : Heap} {locs : List Loc} {ls : Array Slot} {cells slots : Nat} (hce : cells + 13 ≤ 601024) (hsl : slots + 338 ≤ 7293000) {iN : Nat} (hi : iN + 6 ≤ L) (hL : L ≤ 3073) (hP : va_P (dC, dI) vwCl ((o0, .inl (cJ, 1, .inr (.inl g))) :: (U ++ V)) H) (hD : va_D A ((o0, .inl (cJ, 1, .inr (.inl g))) :: (U ++ V))) (hS : va_S A s.heap H locs) (hl : lv_has ls 7 [(0, .ref b), (1, .ref x0), (2, .ref m0), (3, .ref o0), (4, .int (nI iN))])
    (key : ∀ (t9 z9 : Int) (x9 : ZG) (g9 : Nat → Int64) (U9 V9 : va_W) (H : Heap) (locs : List Loc) (ls : Array Slot), KI N (B + 50000) x0 cI cB cR t9 z9 x9 U9 → MIW N (B + 50000) m0 cI cZ cJ t9 z9 x9 V9 → GJz N x9.dt x9.cs x9.ms → va_P (dC, dI) vwCl ((o0, .inl (cJ, 1, .inr (.inl g9))) :: (U9 ++ V9)) H → va_D A ((o0, .inl (cJ, 1, .inr (.inl g9))) :: (U9 ++ V9)) → va_S A s.heap H locs → lv_has ls 7 [(0, .ref b), (1, .ref x0), (2, .ref m0), (3, .ref o0), (4, .int (nI iN))] → W p l e room_1 s m #[Value.ref b] below meth c H locs (cells + 13) (slots + 338) Q (F0 m 993 ls [])) : W p l e room_1 s m #[Value.ref b] below meth c H locs cells slots Q (F0 m 875 ls []) := by
  have hK := hKK.1
  refine lv_aload_n hx hb dL_law_875 rfl (lv_at hl 1 rfl) ?_
  refine lv_aload_n hx hb dL_law_876 rfl (lv_at hl 0 rfl) ?_
  refine lv_iload hx hb dL_law_877 (lv_at hl 4 rfl) ?_
  refine lv_iconst (v := 1) hx hb dL_law_879 (by decide) ?_
  refine lv_iadd hx hb dL_law_880 ?_
  refine tp_i (y := nI (iN + 1)) (nI_add iN 1) ?_
  refine va_sld hx hb hX hbl hbA hS (i := nI (iN + 1)) (vp_in_nI (by omega) (by omega)) dL_law_881 ?_
  obtain ⟨kr1, fs1, hrc1⟩ := KI.recv hU
  refine cA_i (rn_Vk (n := 1) (As := [.int (xs (nI (iN + 1)).toNatClampNeg)]) (rest := []) hx hb hml hown ht hKK hFx hP hD hS hA (kl_told l dC dI cI cB cZ cJ cR tb hst H.size x0 N B U hN2 hB tz gz xz hU (xs (nI (iN + 1)).toNatClampNeg)) tw_1195 tw_1196 (by decide +kernel) rfl rfl ⟨Nat.le_of_ble_eq_true rfl, Nat.le_of_ble_eq_true rfl⟩ (ixC U.length) (ixC_map _ _ _) (ixC_nd _) kr1 hrc1 rfl rfl rfl hl.1 rfl (Nat.le_of_ble_eq_true rfl) dL_law_882 ⟨by show _ ≤ 601024; omega, by show _ ≤ 7293000; omega⟩) hP hD hS hA (fun r1 u1 H locs hw1 hP hD hS => ?_)
  obtain ⟨hU1, hr1⟩ := hw1
  have hP : va_P (dC, dI) vwCl ((o0, .inl (cJ, 1, .inr (.inl g))) :: (u1 ++ V)) H := hP
  have hD : va_D A ((o0, .inl (cJ, 1, .inr (.inl g))) :: (u1 ++ V)) := hD
  refine W.widen (k := cells + 0) (n := slots + 0) (by omega) (by omega) ?_
  refine lv_pop hx hb dL_law_885 rfl ?_
  refine lv_aload_n hx hb dL_law_886 rfl (lv_at hl 2 rfl) ?_
  refine lv_aload_n hx hb dL_law_887 rfl (lv_at hl 0 rfl) ?_
  refine lv_iload hx hb dL_law_888 (lv_at hl 4 rfl) ?_
  refine lv_iconst (v := 1) hx hb dL_law_890 (by decide) ?_
  refine lv_iadd hx hb dL_law_891 ?_
  refine tp_i (y := nI (iN + 1)) (nI_add iN 1) ?_
  refine va_sld hx hb hX hbl hbA hS (i := nI (iN + 1)) (vp_in_nI (by omega) (by omega)) dL_law_892 ?_
  obtain ⟨kr2, fs2, hrc2⟩ := MIW.recv hV
  have hP := va_P.perm hP (List.Perm.cons _ List.perm_append_comm)
  have hD := va_D.perm hD (List.Perm.cons _ List.perm_append_comm)
  refine cA_i (rn_Vk (n := 1) (As := [.int (xs (nI (iN + 1)).toNatClampNeg)]) (rest := []) hx hb hml hown ht hKK hFx hP hD hS hA (rl_told l dC dI cI cB cZ cJ cR tb H.size m0 N B V hN1 hN2 hB0 hB tz gz xz hV (xs (nI (iN + 1)).toNatClampNeg)) tw_1197 tw_1198 (by decide +kernel) rfl rfl ⟨Nat.le_of_ble_eq_true rfl, Nat.le_of_ble_eq_true rfl⟩ (ixC V.length) (ixC_map _ _ _) (ixC_nd _) kr2 hrc2 rfl rfl rfl hl.1 rfl (Nat.le_of_ble_eq_true rfl) dL_law_893 ⟨by show _ ≤ 601024; omega, by show _ ≤ 7293000; omega⟩) hP hD hS hA (fun r2 u2 H locs hw2 hP hD hS => ?_)
  have hP := va_P.perm hP (List.Perm.cons _ List.perm_append_comm)
  have hD := va_D.perm hD (List.Perm.cons _ List.perm_append_comm)
  obtain ⟨hV2, hr2⟩ := hw2
  have hte := toldZ hJ hr1 hr2
  have hP : va_P (dC, dI) vwCl ((o0, .inl (cJ, 1, .inr (.inl g))) :: (u1 ++ u2)) H := hP
  have hD : va_D A ((o0, .inl (cJ, 1, .inr (.inl g))) :: (u1 ++ u2)) := hD
  refine W.widen (k := cells + 0) (n := slots + 0) (by omega) (by omega) ?_
  refine lv_pop hx hb dL_law_896 rfl ?_
  refine lv_goto (tgt := 993) hx hb dL_law_897 (by decide) ?_
  refine W.widen (k := cells + 13) (n := slots + 338) (by omega) (by omega) ?_
  exact key tz gz xz g u1 u2 H locs ls hU1 hV2 hJ hP hD hS (lv_sub hl [0, 1, 2, 3, 4] rfl)
set_option maxHeartbeats 4000000 in
set_option maxRecDepth 100000 in
theorem lawc_23 {p : Program} {e : Env} {s : State} {m : MethodId} {below : List Frame} {meth : Method} {c : Code} (l : Launch) (hst : l.stackTraces = false) {b L : Nat} {xs : Nat → Int32} {Q : State → Prop} (hx : p.tables.exec = Jvm.exec) (hb : c.code = cL_law) (hml : c.maxLocals = 7) (hown : s.vm.findClass RL = some m.cls) (ht : ∀ w ∈ tw_W, w.before #[Value.ref b] s = true) (hX : va_X b L xs s s.heap) (hbl : b < s.heap.size) {dC : Nat → ClassId} {dI : Nat → Nat → Nat} {cI cB cZ cJ cR : ClassId} {tb : Nat → Nat} {A : Nat → Prop} (hbA : ¬ A b) (hKK : kk_ (dC, dI) (tyS cI cB cZ cJ cR) tb s) (hFx : fx_ tb A s s.heap) (hA : ∀ q, s.heap.size ≤ q → A q) {N : Nat} (hN1 : 256 ≤ N) (hN2 : N ≤ 4096) {B : Int} (hB0 : 0 ≤ B) (hB : B + 50000 ≤ 200000000) {x0 m0 o0 : Nat} {U V : va_W} {g : Nat → Int64} {tz gz : Int} {xz : ZG} (hU : KI N B x0 cI cB cR tz gz xz U) (hV : MIW N B m0 cI cZ cJ tz gz xz V) (hJ : GJz N xz.dt xz.cs xz.ms) {H : Heap} {locs : List Loc} {ls : Array Slot} {cells slots : Nat} (hce : cells + 13 ≤ 601024) (hsl : slots + 338 ≤ 7293000) {iN : Nat} (hi : iN + 6 ≤ L) (hL : L ≤ 3073) (hP : va_P (dC, dI) vwCl ((o0, .inl (cJ, 1, .inr (.inl g))) :: (U ++ V)) H) (hD : va_D A ((o0, .inl (cJ, 1, .inr (.inl g))) :: (U ++ V))) (hS : va_S A s.heap H locs) (hl : lv_has ls 7 [(0, .ref b), (1, .ref x0), (2, .ref m0), (3, .ref o0), (4, .int (nI iN))])
    (key : ∀ (t9 z9 : Int) (x9 : ZG) (g9 : Nat → Int64) (U9 V9 : va_W) (H : Heap) (locs : List Loc) (ls : Array Slot), KI N (B + 50000) x0 cI cB cR t9 z9 x9 U9 → MIW N (B + 50000) m0 cI cZ cJ t9 z9 x9 V9 → GJz N x9.dt x9.cs x9.ms → va_P (dC, dI) vwCl ((o0, .inl (cJ, 1, .inr (.inl g9))) :: (U9 ++ V9)) H → va_D A ((o0, .inl (cJ, 1, .inr (.inl g9))) :: (U9 ++ V9)) → va_S A s.heap H locs → lv_has ls 7 [(0, .ref b), (1, .ref x0), (2, .ref m0), (3, .ref o0), (4, .int (nI iN))] → W p l e room_1 s m #[Value.ref b] below meth c H locs (cells + 13) (slots + 338) Q (F0 m 993 ls [])) : W p l e room_1 s m #[Value.ref b] below meth c H locs cells slots Q (F0 m 900 ls []) := by
  have hK := hKK.1
  refine lv_aload_n hx hb dL_law_900 rfl (lv_at hl 1 rfl) ?_
  refine lv_aload_n hx hb dL_law_901 rfl (lv_at hl 0 rfl) ?_
  refine lv_iload hx hb dL_law_902 (lv_at hl 4 rfl) ?_
  refine lv_iconst (v := 1) hx hb dL_law_904 (by decide) ?_
  refine lv_iadd hx hb dL_law_905 ?_
  refine tp_i (y := nI (iN + 1)) (nI_add iN 1) ?_
  refine va_sld hx hb hX hbl hbA hS (i := nI (iN + 1)) (vp_in_nI (by omega) (by omega)) dL_law_906 ?_
  refine lv_aload_n hx hb dL_law_907 rfl (lv_at hl 3 rfl) ?_
  refine cD_i (A0 := (o0, .inl (cJ, 1, .inr (.inl g))) :: U) (Z := V) (rn_SW (n := 3) (As := [.ref x0, .int (xs (nI (iN + 1)).toNatClampNeg), .ref o0]) (rest := []) hx hb hml hown ht hKK hFx hP hD hS hA (hl_worked l dC dI cI cB cZ cJ cR tb hst H.size x0 o0 N B U g hN2 hB tz gz xz hU (xs (nI (iN + 1)).toNatClampNeg)) tw_1199 tw_1200 (by decide +kernel) rfl rfl ⟨Nat.le_of_ble_eq_true rfl, Nat.le_of_ble_eq_true rfl⟩ (List.range ((o0, .inl (cJ, 1, .inr (.inl g))) :: U).length) (ixA_map ((o0, .inl (cJ, 1, .inr (.inl g))) :: U) V) (nd_range _) rfl hl.1 rfl (Nat.le_of_ble_eq_true rfl) dL_law_908 ⟨by show _ ≤ 601024; omega, by show _ ≤ 7293000; omega⟩) hP hD hS hA (fun r1 u1 H locs hw hP hD hS => ?_)
  obtain ⟨g1, U1, hu1, hU1, hcx⟩ := hw
  have hu1 : u1 = (o0, .inl (cJ, 1, .inr (.inl g1))) :: U1 := hu1
  subst hu1
  have hcx : HCd xz (xs (nI (iN + 1)).toNatClampNeg) r1.toInt (g1 0) := hcx
  have hP : va_P (dC, dI) vwCl ((o0, .inl (cJ, 1, .inr (.inl g1))) :: (U1 ++ V)) H := hP
  have hD : va_D A ((o0, .inl (cJ, 1, .inr (.inl g1))) :: (U1 ++ V)) := hD
  refine W.widen (k := cells + 1) (n := slots + 6) (by omega) (by omega) ?_
  refine lv_istore (lv' := [(5, .int r1), (0, .ref b), (1, .ref x0), (2, .ref m0), (3, .ref o0), (4, .int (nI iN))]) hx hb dL_law_911 hl (by decide) rfl (fun ls hl => ?_)
  refine lv_aload_n hx hb dL_law_913 rfl (lv_at hl 3 rfl) ?_
  refine lv_aload_n hx hb dL_law_914 rfl (lv_at hl 1 rfl) ?_
  refine lv_iload hx hb dL_law_915 (lv_at hl 5 rfl) ?_
  refine lv_iconst (v := 1) hx hb dL_law_917 (by decide) ?_
  refine lv_iadd hx hb dL_law_918 ?_
  refine tp_i (y := nI (iN + 1)) (nI_add iN 1) ?_
  refine va_sld hx hb hX hbl hbA hS (i := nI (iN + 1)) (vp_in_nI (by omega) (by omega)) dL_law_919 ?_
  obtain ⟨kr2, fs2, hrc2⟩ := MIW.recv hV
  have hP := va_P.perm hP (List.Perm.cons _ List.perm_append_comm)
  have hD := va_D.perm hD (List.Perm.cons _ List.perm_append_comm)
  refine cA_i (rn_Vk (n := 1) (As := [.int (xs (nI (iN + 1)).toNatClampNeg)]) (rest := []) hx hb hml hown ht hKK hFx hP hD hS hA (rl_worked l dC dI cI cB cZ cJ cR tb H.size m0 N B V hN1 hN2 hB0 hB tz gz xz hV (xs (nI (iN + 1)).toNatClampNeg)) tw_1201 tw_1202 (by decide +kernel) rfl rfl ⟨Nat.le_of_ble_eq_true rfl, Nat.le_of_ble_eq_true rfl⟩ (ixC V.length) (ixC_map _ _ _) (ixC_nd _) kr2 hrc2 rfl rfl rfl hl.1 rfl (Nat.le_of_ble_eq_true rfl) dL_law_920 ⟨by show _ ≤ 601024; omega, by show _ ≤ 7293000; omega⟩) hP hD hS hA (fun r2 u2 H locs hw2 hP hD hS => ?_)
  have hP := va_P.perm hP (List.Perm.cons _ List.perm_append_comm)
  have hD := va_D.perm hD (List.Perm.cons _ List.perm_append_comm)
  have hP : va_P (dC, dI) vwCl ((o0, .inl (cJ, 1, .inr (.inl g1))) :: (U1 ++ u2)) H := hP
  have hD : va_D A ((o0, .inl (cJ, 1, .inr (.inl g1))) :: (U1 ++ u2)) := hD
  refine W.widen (k := cells + 1) (n := slots + 6) (by omega) (by omega) ?_
  refine lv_istore (lv' := [(6, .int r2), (5, .int r1), (0, .ref b), (1, .ref x0), (2, .ref m0), (3, .ref o0), (4, .int (nI iN))]) hx hb dL_law_923 hl (by decide) rfl (fun ls hl => ?_)
  refine lv_goto (tgt := 993) hx hb dL_law_925 (by decide) ?_
  refine W.widen (k := cells + 13) (n := slots + 338) (by omega) (by omega) ?_
  exact key tz gz xz g1 U1 u2 H locs ls hU1 hw2.w hJ hP hD hS (lv_sub hl [2, 3, 4, 5, 6] rfl)
set_option maxHeartbeats 4000000 in
set_option maxRecDepth 100000 in
theorem lawc_24 {p : Program} {e : Env} {s : State} {m : MethodId} {below : List Frame} {meth : Method} {c : Code} (l : Launch) (hst : l.stackTraces = false) {b L : Nat} {xs : Nat → Int32} {Q : State → Prop} (hx : p.tables.exec = Jvm.exec) (hb : c.code = cL_law) (hml : c.maxLocals = 7) (hown : s.vm.findClass RL = some m.cls) (ht : ∀ w ∈ tw_W, w.before #[Value.ref b] s = true) (hX : va_X b L xs s s.heap) (hbl : b < s.heap.size) {dC : Nat → ClassId} {dI : Nat → Nat → Nat} {cI cB cZ cJ cR : ClassId} {tb : Nat → Nat} {A : Nat → Prop} (hbA : ¬ A b) (hKK : kk_ (dC, dI) (tyS cI cB cZ cJ cR) tb s) (hFx : fx_ tb A s s.heap) (hA : ∀ q, s.heap.size ≤ q → A q) {N : Nat} (hN1 : 256 ≤ N) (hN2 : N ≤ 4096) {B : Int} (hB0 : 0 ≤ B) (hB : B + 50000 ≤ 200000000) {x0 m0 o0 : Nat} {U V : va_W} {g : Nat → Int64} {tz gz : Int} {xz : ZG} (hU : KI N B x0 cI cB cR tz gz xz U) (hV : MIW N B m0 cI cZ cJ tz gz xz V) (hJ : GJz N xz.dt xz.cs xz.ms) {H : Heap} {locs : List Loc} {ls : Array Slot} {cells slots : Nat} (hce : cells + 13 ≤ 601024) (hsl : slots + 338 ≤ 7293000) {iN : Nat} (hi : iN + 6 ≤ L) (hL : L ≤ 3073) (hP : va_P (dC, dI) vwCl ((o0, .inl (cJ, 1, .inr (.inl g))) :: (U ++ V)) H) (hD : va_D A ((o0, .inl (cJ, 1, .inr (.inl g))) :: (U ++ V))) (hS : va_S A s.heap H locs) (hl : lv_has ls 7 [(0, .ref b), (1, .ref x0), (2, .ref m0), (3, .ref o0), (4, .int (nI iN))])
    (key : ∀ (t9 z9 : Int) (x9 : ZG) (g9 : Nat → Int64) (U9 V9 : va_W) (H : Heap) (locs : List Loc) (ls : Array Slot), KI N (B + 50000) x0 cI cB cR t9 z9 x9 U9 → MIW N (B + 50000) m0 cI cZ cJ t9 z9 x9 V9 → GJz N x9.dt x9.cs x9.ms → va_P (dC, dI) vwCl ((o0, .inl (cJ, 1, .inr (.inl g9))) :: (U9 ++ V9)) H → va_D A ((o0, .inl (cJ, 1, .inr (.inl g9))) :: (U9 ++ V9)) → va_S A s.heap H locs → lv_has ls 7 [(0, .ref b), (1, .ref x0), (2, .ref m0), (3, .ref o0), (4, .int (nI iN))] → W p l e room_1 s m #[Value.ref b] below meth c H locs (cells + 13) (slots + 338) Q (F0 m 993 ls [])) : W p l e room_1 s m #[Value.ref b] below meth c H locs cells slots Q (F0 m 928 ls []) := by
  have hK := hKK.1
  refine lv_aload_n hx hb dL_law_928 rfl (lv_at hl 1 rfl) ?_
  refine lv_aload_n hx hb dL_law_929 rfl (lv_at hl 0 rfl) ?_
  refine lv_iload hx hb dL_law_930 (lv_at hl 4 rfl) ?_
  refine lv_iconst (v := 1) hx hb dL_law_932 (by decide) ?_
  refine lv_iadd hx hb dL_law_933 ?_
  refine tp_i (y := nI (iN + 1)) (nI_add iN 1) ?_
  refine va_sld hx hb hX hbl hbA hS (i := nI (iN + 1)) (vp_in_nI (by omega) (by omega)) dL_law_934 ?_
  refine lv_aload_n hx hb dL_law_935 rfl (lv_at hl 0 rfl) ?_
  refine lv_iload hx hb dL_law_936 (lv_at hl 4 rfl) ?_
  refine lv_iconst (v := 2) hx hb dL_law_938 (by decide) ?_
  refine lv_iadd hx hb dL_law_939 ?_
  refine tp_i (y := nI (iN + 2)) (nI_add iN 2) ?_
  refine va_sld hx hb hX hbl hbA hS (i := nI (iN + 2)) (vp_in_nI (by omega) (by omega)) dL_law_940 ?_
  refine lv_aload_n hx hb dL_law_941 rfl (lv_at hl 3 rfl) ?_
  refine cD_i (A0 := (o0, .inl (cJ, 1, .inr (.inl g))) :: U) (Z := V) (rn_SW (n := 4) (As := [.ref x0, .int (xs (nI (iN + 1)).toNatClampNeg), .int (xs (nI (iN + 2)).toNatClampNeg), .ref o0]) (rest := []) hx hb hml hown ht hKK hFx hP hD hS hA (hl_left l dC dI cI cB cZ cJ cR tb hst H.size x0 o0 N B U g hN2 hB tz gz xz hU (xs (nI (iN + 1)).toNatClampNeg) (xs (nI (iN + 2)).toNatClampNeg)) tw_1203 tw_1204 (by decide +kernel) rfl rfl ⟨Nat.le_of_ble_eq_true rfl, Nat.le_of_ble_eq_true rfl⟩ (List.range ((o0, .inl (cJ, 1, .inr (.inl g))) :: U).length) (ixA_map ((o0, .inl (cJ, 1, .inr (.inl g))) :: U) V) (nd_range _) rfl hl.1 rfl (Nat.le_of_ble_eq_true rfl) dL_law_942 ⟨by show _ ≤ 601024; omega, by show _ ≤ 7293000; omega⟩) hP hD hS hA (fun r1 u1 H locs hw hP hD hS => ?_)
  obtain ⟨g1, U1, hu1, hU1, hcx⟩ := hw
  have hu1 : u1 = (o0, .inl (cJ, 1, .inr (.inl g1))) :: U1 := hu1
  subst hu1
  have hcx : HCl N xz (xs (nI (iN + 1)).toNatClampNeg) (xs (nI (iN + 2)).toNatClampNeg) r1.toInt (g1 0) := hcx
  have hP : va_P (dC, dI) vwCl ((o0, .inl (cJ, 1, .inr (.inl g1))) :: (U1 ++ V)) H := hP
  have hD : va_D A ((o0, .inl (cJ, 1, .inr (.inl g1))) :: (U1 ++ V)) := hD
  refine W.widen (k := cells + 1) (n := slots + 6) (by omega) (by omega) ?_
  refine lv_istore (lv' := [(5, .int r1), (0, .ref b), (1, .ref x0), (2, .ref m0), (3, .ref o0), (4, .int (nI iN))]) hx hb dL_law_945 hl (by decide) rfl (fun ls hl => ?_)
  refine lv_aload_n hx hb dL_law_947 rfl (lv_at hl 3 rfl) ?_
  refine lv_aload_n hx hb dL_law_948 rfl (lv_at hl 1 rfl) ?_
  refine lv_iload hx hb dL_law_949 (lv_at hl 5 rfl) ?_
  refine lv_iconst (v := 1) hx hb dL_law_951 (by decide) ?_
  refine lv_iadd hx hb dL_law_952 ?_
  refine tp_i (y := nI (iN + 1)) (nI_add iN 1) ?_
  refine va_sld hx hb hX hbl hbA hS (i := nI (iN + 1)) (vp_in_nI (by omega) (by omega)) dL_law_953 ?_
  refine lv_aload_n hx hb dL_law_954 rfl (lv_at hl 1 rfl) ?_
  refine lv_iload hx hb dL_law_955 (lv_at hl 5 rfl) ?_
  refine lv_iconst (v := 2) hx hb dL_law_957 (by decide) ?_
  refine lv_iadd hx hb dL_law_958 ?_
  refine tp_i (y := nI (iN + 2)) (nI_add iN 2) ?_
  refine va_sld hx hb hX hbl hbA hS (i := nI (iN + 2)) (vp_in_nI (by omega) (by omega)) dL_law_959 ?_
  obtain ⟨kr2, fs2, hrc2⟩ := MIW.recv hV
  have hP := va_P.perm hP (List.Perm.cons _ List.perm_append_comm)
  have hD := va_D.perm hD (List.Perm.cons _ List.perm_append_comm)
  refine cA_i (rn_Vk (n := 2) (As := [.int (xs (nI (iN + 1)).toNatClampNeg), .int (xs (nI (iN + 2)).toNatClampNeg)]) (rest := []) hx hb hml hown ht hKK hFx hP hD hS hA (rl_left l dC dI cI cB cZ cJ cR tb H.size m0 N B V hN1 hN2 hB0 hB tz gz xz hV (xs (nI (iN + 1)).toNatClampNeg) (xs (nI (iN + 2)).toNatClampNeg)) tw_1205 tw_1206 (by decide +kernel) rfl rfl ⟨Nat.le_of_ble_eq_true rfl, Nat.le_of_ble_eq_true rfl⟩ (ixC V.length) (ixC_map _ _ _) (ixC_nd _) kr2 hrc2 rfl rfl rfl hl.1 rfl (Nat.le_of_ble_eq_true rfl) dL_law_960 ⟨by show _ ≤ 601024; omega, by show _ ≤ 7293000; omega⟩) hP hD hS hA (fun r2 u2 H locs hw2 hP hD hS => ?_)
  have hP := va_P.perm hP (List.Perm.cons _ List.perm_append_comm)
  have hD := va_D.perm hD (List.Perm.cons _ List.perm_append_comm)
  have hP : va_P (dC, dI) vwCl ((o0, .inl (cJ, 1, .inr (.inl g1))) :: (U1 ++ u2)) H := hP
  have hD : va_D A ((o0, .inl (cJ, 1, .inr (.inl g1))) :: (U1 ++ u2)) := hD
  refine W.widen (k := cells + 1) (n := slots + 6) (by omega) (by omega) ?_
  refine lv_istore (lv' := [(6, .int r2), (5, .int r1), (0, .ref b), (1, .ref x0), (2, .ref m0), (3, .ref o0), (4, .int (nI iN))]) hx hb dL_law_963 hl (by decide) rfl (fun ls hl => ?_)
  refine lv_goto (tgt := 993) hx hb dL_law_965 (by decide) ?_
  refine W.widen (k := cells + 13) (n := slots + 338) (by omega) (by omega) ?_
  exact key tz gz xz g1 U1 u2 H locs ls hU1 hw2.w hJ hP hD hS (lv_sub hl [2, 3, 4, 5, 6] rfl)
set_option maxHeartbeats 4000000 in
set_option maxRecDepth 100000 in
theorem lawc_25 {p : Program} {e : Env} {s : State} {m : MethodId} {below : List Frame} {meth : Method} {c : Code} (l : Launch) (hst : l.stackTraces = false) {b L : Nat} {xs : Nat → Int32} {Q : State → Prop} (hx : p.tables.exec = Jvm.exec) (hb : c.code = cL_law) (hml : c.maxLocals = 7) (hown : s.vm.findClass RL = some m.cls) (ht : ∀ w ∈ tw_W, w.before #[Value.ref b] s = true) (hX : va_X b L xs s s.heap) (hbl : b < s.heap.size) {dC : Nat → ClassId} {dI : Nat → Nat → Nat} {cI cB cZ cJ cR : ClassId} {tb : Nat → Nat} {A : Nat → Prop} (hbA : ¬ A b) (hKK : kk_ (dC, dI) (tyS cI cB cZ cJ cR) tb s) (hFx : fx_ tb A s s.heap) (hA : ∀ q, s.heap.size ≤ q → A q) {N : Nat} (hN1 : 256 ≤ N) (hN2 : N ≤ 4096) {B : Int} (hB0 : 0 ≤ B) (hB : B + 50000 ≤ 200000000) {x0 m0 o0 : Nat} {U V : va_W} {g : Nat → Int64} {tz gz : Int} {xz : ZG} (hU : KI N B x0 cI cB cR tz gz xz U) (hV : MIW N B m0 cI cZ cJ tz gz xz V) (hJ : GJz N xz.dt xz.cs xz.ms) {H : Heap} {locs : List Loc} {ls : Array Slot} {cells slots : Nat} (hce : cells + 13 ≤ 601024) (hsl : slots + 338 ≤ 7293000) {iN : Nat} (hi : iN + 6 ≤ L) (hL : L ≤ 3073) (hP : va_P (dC, dI) vwCl ((o0, .inl (cJ, 1, .inr (.inl g))) :: (U ++ V)) H) (hD : va_D A ((o0, .inl (cJ, 1, .inr (.inl g))) :: (U ++ V))) (hS : va_S A s.heap H locs) (hl : lv_has ls 7 [(0, .ref b), (1, .ref x0), (2, .ref m0), (3, .ref o0), (4, .int (nI iN))])
    (key : ∀ (t9 z9 : Int) (x9 : ZG) (g9 : Nat → Int64) (U9 V9 : va_W) (H : Heap) (locs : List Loc) (ls : Array Slot), KI N (B + 50000) x0 cI cB cR t9 z9 x9 U9 → MIW N (B + 50000) m0 cI cZ cJ t9 z9 x9 V9 → GJz N x9.dt x9.cs x9.ms → va_P (dC, dI) vwCl ((o0, .inl (cJ, 1, .inr (.inl g9))) :: (U9 ++ V9)) H → va_D A ((o0, .inl (cJ, 1, .inr (.inl g9))) :: (U9 ++ V9)) → va_S A s.heap H locs → lv_has ls 7 [(0, .ref b), (1, .ref x0), (2, .ref m0), (3, .ref o0), (4, .int (nI iN))] → W p l e room_1 s m #[Value.ref b] below meth c H locs (cells + 13) (slots + 338) Q (F0 m 993 ls [])) : W p l e room_1 s m #[Value.ref b] below meth c H locs cells slots Q (F0 m 968 ls []) := by
  have hK := hKK.1
  refine lv_aload_n hx hb dL_law_968 rfl (lv_at hl 1 rfl) ?_
  refine lv_aload_n hx hb dL_law_969 rfl (lv_at hl 0 rfl) ?_
  refine lv_iload hx hb dL_law_970 (lv_at hl 4 rfl) ?_
  refine lv_iconst (v := 1) hx hb dL_law_972 (by decide) ?_
  refine lv_iadd hx hb dL_law_973 ?_
  refine tp_i (y := nI (iN + 1)) (nI_add iN 1) ?_
  refine va_sld hx hb hX hbl hbA hS (i := nI (iN + 1)) (vp_in_nI (by omega) (by omega)) dL_law_974 ?_
  obtain ⟨kr1, fs1, hrc1⟩ := KI.recv hU
  refine cA_i (rn_Vk (n := 1) (As := [.int (xs (nI (iN + 1)).toNatClampNeg)]) (rest := []) hx hb hml hown ht hKK hFx hP hD hS hA (kl_count l dC dI cI cB cZ cJ cR tb hst H.size x0 N B U hN2 hB tz gz xz hU (xs (nI (iN + 1)).toNatClampNeg)) tw_1207 tw_1208 (by decide +kernel) rfl rfl ⟨Nat.le_of_ble_eq_true rfl, Nat.le_of_ble_eq_true rfl⟩ (ixC U.length) (ixC_map _ _ _) (ixC_nd _) kr1 hrc1 rfl rfl rfl hl.1 rfl (Nat.le_of_ble_eq_true rfl) dL_law_975 ⟨by show _ ≤ 601024; omega, by show _ ≤ 7293000; omega⟩) hP hD hS hA (fun r1 u1 H locs hw1 hP hD hS => ?_)
  have hP : va_P (dC, dI) vwCl ((o0, .inl (cJ, 1, .inr (.inl g))) :: (u1 ++ V)) H := hP
  have hD : va_D A ((o0, .inl (cJ, 1, .inr (.inl g))) :: (u1 ++ V)) := hD
  refine W.widen (k := cells + 0) (n := slots + 0) (by omega) (by omega) ?_
  refine lv_pop hx hb dL_law_978 rfl ?_
  refine lv_aload_n hx hb dL_law_979 rfl (lv_at hl 2 rfl) ?_
  refine lv_aload_n hx hb dL_law_980 rfl (lv_at hl 0 rfl) ?_
  refine lv_iload hx hb dL_law_981 (lv_at hl 4 rfl) ?_
  refine lv_iconst (v := 1) hx hb dL_law_983 (by decide) ?_
  refine lv_iadd hx hb dL_law_984 ?_
  refine tp_i (y := nI (iN + 1)) (nI_add iN 1) ?_
  refine va_sld hx hb hX hbl hbA hS (i := nI (iN + 1)) (vp_in_nI (by omega) (by omega)) dL_law_985 ?_
  obtain ⟨kr2, fs2, hrc2⟩ := MIW.recv hV
  have hP := va_P.perm hP (List.Perm.cons _ List.perm_append_comm)
  have hD := va_D.perm hD (List.Perm.cons _ List.perm_append_comm)
  refine cA_i (rn_Vk (n := 1) (As := [.int (xs (nI (iN + 1)).toNatClampNeg)]) (rest := []) hx hb hml hown ht hKK hFx hP hD hS hA (rl_count l dC dI cI cB cZ cJ cR tb H.size m0 N B V hN1 hN2 hB0 hB tz gz xz hV (xs (nI (iN + 1)).toNatClampNeg)) tw_1209 tw_1210 (by decide +kernel) rfl rfl ⟨Nat.le_of_ble_eq_true rfl, Nat.le_of_ble_eq_true rfl⟩ (ixC V.length) (ixC_map _ _ _) (ixC_nd _) kr2 hrc2 rfl rfl rfl hl.1 rfl (Nat.le_of_ble_eq_true rfl) dL_law_986 ⟨by show _ ≤ 601024; omega, by show _ ≤ 7293000; omega⟩) hP hD hS hA (fun r2 u2 H locs hw2 hP hD hS => ?_)
  have hP := va_P.perm hP (List.Perm.cons _ List.perm_append_comm)
  have hD := va_D.perm hD (List.Perm.cons _ List.perm_append_comm)
  have hP : va_P (dC, dI) vwCl ((o0, .inl (cJ, 1, .inr (.inl g))) :: (u1 ++ u2)) H := hP
  have hD : va_D A ((o0, .inl (cJ, 1, .inr (.inl g))) :: (u1 ++ u2)) := hD
  refine W.widen (k := cells + 0) (n := slots + 0) (by omega) (by omega) ?_
  refine lv_pop hx hb dL_law_989 rfl ?_
  refine lv_goto (tgt := 993) hx hb dL_law_990 (by decide) ?_
  refine W.widen (k := cells + 13) (n := slots + 338) (by omega) (by omega) ?_
  exact key tz gz xz g u1 u2 H locs ls hw1 hw2 hJ hP hD hS (lv_sub hl [0, 1, 2, 3, 4] rfl)
