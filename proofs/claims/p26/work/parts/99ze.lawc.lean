theorem dL_law_168 : decode cL_law 168 = .ok (.aload_n 1, 1) := by decide +kernel
theorem dL_law_169 : decode cL_law 169 = .ok (.aload_n 0, 1) := by decide +kernel
theorem dL_law_170 : decode cL_law 170 = .ok (.iload 4, 2) := by decide +kernel
theorem dL_law_172 : decode cL_law 172 = .ok (.iconst 1, 1) := by decide +kernel
theorem dL_law_173 : decode cL_law 173 = .ok (.iadd, 1) := by decide +kernel
theorem dL_law_174 : decode cL_law 174 = .ok (.iaload, 1) := by decide +kernel
theorem dL_law_175 : decode cL_law 175 = .ok (.aload_n 0, 1) := by decide +kernel
theorem dL_law_176 : decode cL_law 176 = .ok (.iload 4, 2) := by decide +kernel
theorem dL_law_178 : decode cL_law 178 = .ok (.iconst 2, 1) := by decide +kernel
theorem dL_law_179 : decode cL_law 179 = .ok (.iadd, 1) := by decide +kernel
theorem dL_law_180 : decode cL_law 180 = .ok (.iaload, 1) := by decide +kernel
theorem dL_law_181 : decode cL_law 181 = .ok (.aload_n 0, 1) := by decide +kernel
theorem dL_law_182 : decode cL_law 182 = .ok (.iload 4, 2) := by decide +kernel
theorem dL_law_184 : decode cL_law 184 = .ok (.iconst 3, 1) := by decide +kernel
theorem dL_law_185 : decode cL_law 185 = .ok (.iadd, 1) := by decide +kernel
theorem dL_law_186 : decode cL_law 186 = .ok (.iaload, 1) := by decide +kernel
theorem dL_law_187 : decode cL_law 187 = .ok (.aload_n 0, 1) := by decide +kernel
theorem dL_law_188 : decode cL_law 188 = .ok (.iload 4, 2) := by decide +kernel
theorem dL_law_190 : decode cL_law 190 = .ok (.iconst 4, 1) := by decide +kernel
theorem dL_law_191 : decode cL_law 191 = .ok (.iadd, 1) := by decide +kernel
theorem dL_law_192 : decode cL_law 192 = .ok (.iaload, 1) := by decide +kernel
theorem dL_law_193 : decode cL_law 193 = .ok (.aload_n 0, 1) := by decide +kernel
theorem dL_law_194 : decode cL_law 194 = .ok (.iload 4, 2) := by decide +kernel
theorem dL_law_196 : decode cL_law 196 = .ok (.iconst 5, 1) := by decide +kernel
theorem dL_law_197 : decode cL_law 197 = .ok (.iadd, 1) := by decide +kernel
theorem dL_law_198 : decode cL_law 198 = .ok (.iaload, 1) := by decide +kernel
theorem dL_law_199 : decode cL_law 199 = .ok (.invokevirtual 64, 3) := by decide +kernel
theorem tw_1105 : (.code yX11_feed cX11_feed 6 (some .boolean) : Cond) ∈ tw_W := tw_in (t8_5 (List.mem_of_getElem? (i := 189) rfl)) rfl
theorem tw_1106 : ∀ w ∈ ([.methodLink RL 64 yX11_feed, .instanceMethod yX11_feed, .selects RX11 yX11_feed yX11_feed, .initialized RX11] : List Cond), w ∈ tw_W := al_c (tw_in (t8_5 (List.mem_of_getElem? (i := 186) rfl)) rfl) (al_c (tw_in (t8_5 (List.mem_of_getElem? (i := 187) rfl)) rfl) (al_c (tw_in (t8_5 (List.mem_of_getElem? (i := 188) rfl)) rfl) (al_c (tw_in (t8_1 (List.mem_of_getElem? (i := 1) rfl)) rfl) al_n)))
theorem dL_law_202 : decode cL_law 202 = .ok (.pop, 1) := by decide +kernel
theorem dL_law_203 : decode cL_law 203 = .ok (.aload_n 2, 1) := by decide +kernel
theorem dL_law_204 : decode cL_law 204 = .ok (.aload_n 0, 1) := by decide +kernel
theorem dL_law_205 : decode cL_law 205 = .ok (.iload 4, 2) := by decide +kernel
theorem dL_law_207 : decode cL_law 207 = .ok (.iconst 1, 1) := by decide +kernel
theorem dL_law_208 : decode cL_law 208 = .ok (.iadd, 1) := by decide +kernel
theorem dL_law_209 : decode cL_law 209 = .ok (.iaload, 1) := by decide +kernel
theorem dL_law_210 : decode cL_law 210 = .ok (.aload_n 0, 1) := by decide +kernel
theorem dL_law_211 : decode cL_law 211 = .ok (.iload 4, 2) := by decide +kernel
theorem dL_law_213 : decode cL_law 213 = .ok (.iconst 2, 1) := by decide +kernel
theorem dL_law_214 : decode cL_law 214 = .ok (.iadd, 1) := by decide +kernel
theorem dL_law_215 : decode cL_law 215 = .ok (.iaload, 1) := by decide +kernel
theorem dL_law_216 : decode cL_law 216 = .ok (.aload_n 0, 1) := by decide +kernel
theorem dL_law_217 : decode cL_law 217 = .ok (.iload 4, 2) := by decide +kernel
theorem dL_law_219 : decode cL_law 219 = .ok (.iconst 3, 1) := by decide +kernel
theorem dL_law_220 : decode cL_law 220 = .ok (.iadd, 1) := by decide +kernel
theorem dL_law_221 : decode cL_law 221 = .ok (.iaload, 1) := by decide +kernel
theorem dL_law_222 : decode cL_law 222 = .ok (.aload_n 0, 1) := by decide +kernel
theorem dL_law_223 : decode cL_law 223 = .ok (.iload 4, 2) := by decide +kernel
theorem dL_law_225 : decode cL_law 225 = .ok (.iconst 4, 1) := by decide +kernel
theorem dL_law_226 : decode cL_law 226 = .ok (.iadd, 1) := by decide +kernel
theorem dL_law_227 : decode cL_law 227 = .ok (.iaload, 1) := by decide +kernel
theorem dL_law_228 : decode cL_law 228 = .ok (.aload_n 0, 1) := by decide +kernel
theorem dL_law_229 : decode cL_law 229 = .ok (.iload 4, 2) := by decide +kernel
theorem dL_law_231 : decode cL_law 231 = .ok (.iconst 5, 1) := by decide +kernel
theorem dL_law_232 : decode cL_law 232 = .ok (.iadd, 1) := by decide +kernel
theorem dL_law_233 : decode cL_law 233 = .ok (.iaload, 1) := by decide +kernel
theorem dL_law_234 : decode cL_law 234 = .ok (.invokevirtual 68, 3) := by decide +kernel
theorem tw_1107 : (.code yX13_feed cX13_feed 6 (some .boolean) : Cond) ∈ tw_W := tw_in (t8_9 (List.mem_of_getElem? (i := 31) rfl)) rfl
theorem tw_1108 : ∀ w ∈ ([.methodLink RL 68 yX13_feed, .instanceMethod yX13_feed, .selects RX13 yX13_feed yX13_feed, .initialized RX13] : List Cond), w ∈ tw_W := al_c (tw_in (t8_9 (List.mem_of_getElem? (i := 28) rfl)) rfl) (al_c (tw_in (t8_9 (List.mem_of_getElem? (i := 29) rfl)) rfl) (al_c (tw_in (t8_9 (List.mem_of_getElem? (i := 30) rfl)) rfl) (al_c (tw_in (t8_1 (List.mem_of_getElem? (i := 23) rfl)) rfl) al_n)))
theorem dL_law_237 : decode cL_law 237 = .ok (.pop, 1) := by decide +kernel
theorem dL_law_238 : decode cL_law 238 = .ok (.goto 755, 3) := by decide +kernel
theorem dL_law_241 : decode cL_law 241 = .ok (.aload_n 1, 1) := by decide +kernel
theorem dL_law_242 : decode cL_law 242 = .ok (.aload_n 0, 1) := by decide +kernel
theorem dL_law_243 : decode cL_law 243 = .ok (.iload 4, 2) := by decide +kernel
theorem dL_law_245 : decode cL_law 245 = .ok (.iconst 1, 1) := by decide +kernel
theorem dL_law_246 : decode cL_law 246 = .ok (.iadd, 1) := by decide +kernel
theorem dL_law_247 : decode cL_law 247 = .ok (.iaload, 1) := by decide +kernel
theorem dL_law_248 : decode cL_law 248 = .ok (.invokevirtual 69, 3) := by decide +kernel
theorem tw_1109 : (.code yX11_end cX11_end 2 (some .boolean) : Cond) ∈ tw_W := tw_in (t8_5 (List.mem_of_getElem? (i := 197) rfl)) rfl
theorem tw_1110 : ∀ w ∈ ([.methodLink RL 69 yX11_end, .instanceMethod yX11_end, .selects RX11 yX11_end yX11_end, .initialized RX11] : List Cond), w ∈ tw_W := al_c (tw_in (t8_5 (List.mem_of_getElem? (i := 194) rfl)) rfl) (al_c (tw_in (t8_5 (List.mem_of_getElem? (i := 195) rfl)) rfl) (al_c (tw_in (t8_5 (List.mem_of_getElem? (i := 196) rfl)) rfl) (al_c (tw_in (t8_1 (List.mem_of_getElem? (i := 1) rfl)) rfl) al_n)))
theorem dL_law_251 : decode cL_law 251 = .ok (.pop, 1) := by decide +kernel
theorem dL_law_252 : decode cL_law 252 = .ok (.aload_n 2, 1) := by decide +kernel
theorem dL_law_253 : decode cL_law 253 = .ok (.aload_n 0, 1) := by decide +kernel
theorem dL_law_254 : decode cL_law 254 = .ok (.iload 4, 2) := by decide +kernel
theorem dL_law_256 : decode cL_law 256 = .ok (.iconst 1, 1) := by decide +kernel
theorem dL_law_257 : decode cL_law 257 = .ok (.iadd, 1) := by decide +kernel
theorem dL_law_258 : decode cL_law 258 = .ok (.iaload, 1) := by decide +kernel
theorem dL_law_259 : decode cL_law 259 = .ok (.invokevirtual 73, 3) := by decide +kernel
theorem tw_1111 : (.code yX13_end cX13_end 2 (some .boolean) : Cond) ∈ tw_W := tw_in (t8_9 (List.mem_of_getElem? (i := 40) rfl)) rfl
theorem tw_1112 : ∀ w ∈ ([.methodLink RL 73 yX13_end, .instanceMethod yX13_end, .selects RX13 yX13_end yX13_end, .initialized RX13] : List Cond), w ∈ tw_W := al_c (tw_in (t8_9 (List.mem_of_getElem? (i := 37) rfl)) rfl) (al_c (tw_in (t8_9 (List.mem_of_getElem? (i := 38) rfl)) rfl) (al_c (tw_in (t8_9 (List.mem_of_getElem? (i := 39) rfl)) rfl) (al_c (tw_in (t8_1 (List.mem_of_getElem? (i := 23) rfl)) rfl) al_n)))
theorem dL_law_262 : decode cL_law 262 = .ok (.pop, 1) := by decide +kernel
theorem dL_law_263 : decode cL_law 263 = .ok (.goto 730, 3) := by decide +kernel
theorem dL_law_266 : decode cL_law 266 = .ok (.aload_n 1, 1) := by decide +kernel
theorem dL_law_267 : decode cL_law 267 = .ok (.invokevirtual 74, 3) := by decide +kernel
theorem tw_1113 : (.codeWith yX11_load cX11_load 2 (some .int) [(30, 41, 44, 99)] : Cond) ∈ tw_W := tw_in (t8_5 (List.mem_of_getElem? (i := 201) rfl)) rfl
theorem tw_1114 : ∀ w ∈ ([.methodLink RL 74 yX11_load, .instanceMethod yX11_load, .selects RX11 yX11_load yX11_load, .initialized RX11] : List Cond), w ∈ tw_W := al_c (tw_in (t8_5 (List.mem_of_getElem? (i := 198) rfl)) rfl) (al_c (tw_in (t8_5 (List.mem_of_getElem? (i := 199) rfl)) rfl) (al_c (tw_in (t8_5 (List.mem_of_getElem? (i := 200) rfl)) rfl) (al_c (tw_in (t8_1 (List.mem_of_getElem? (i := 1) rfl)) rfl) al_n)))
theorem dL_law_270 : decode cL_law 270 = .ok (.pop, 1) := by decide +kernel
theorem dL_law_271 : decode cL_law 271 = .ok (.aload_n 2, 1) := by decide +kernel
theorem dL_law_272 : decode cL_law 272 = .ok (.invokevirtual 78, 3) := by decide +kernel
theorem tw_1115 : (.codeWith yX13_load cX13_load 2 (some .int) [(60, 68, 71, 513)] : Cond) ∈ tw_W := tw_in (t8_12 (List.mem_of_getElem? (i := 53) rfl)) rfl
theorem tw_1116 : ∀ w ∈ ([.methodLink RL 78 yX13_load, .instanceMethod yX13_load, .selects RX13 yX13_load yX13_load, .initialized RX13] : List Cond), w ∈ tw_W := al_c (tw_in (t8_12 (List.mem_of_getElem? (i := 50) rfl)) rfl) (al_c (tw_in (t8_12 (List.mem_of_getElem? (i := 51) rfl)) rfl) (al_c (tw_in (t8_12 (List.mem_of_getElem? (i := 52) rfl)) rfl) (al_c (tw_in (t8_1 (List.mem_of_getElem? (i := 23) rfl)) rfl) al_n)))
theorem dL_law_275 : decode cL_law 275 = .ok (.pop, 1) := by decide +kernel
theorem dL_law_276 : decode cL_law 276 = .ok (.goto 717, 3) := by decide +kernel
theorem dL_law_279 : decode cL_law 279 = .ok (.aload_n 1, 1) := by decide +kernel
theorem dL_law_280 : decode cL_law 280 = .ok (.aload_n 0, 1) := by decide +kernel
theorem dL_law_281 : decode cL_law 281 = .ok (.iload 4, 2) := by decide +kernel
theorem dL_law_283 : decode cL_law 283 = .ok (.iconst 1, 1) := by decide +kernel
theorem dL_law_284 : decode cL_law 284 = .ok (.iadd, 1) := by decide +kernel
theorem dL_law_285 : decode cL_law 285 = .ok (.iaload, 1) := by decide +kernel
theorem dL_law_286 : decode cL_law 286 = .ok (.invokevirtual 79, 3) := by decide +kernel
theorem tw_1117 : (.code yX11_fault cX11_fault 2 (some .int) : Cond) ∈ tw_W := tw_in (t8_5 (List.mem_of_getElem? (i := 217) rfl)) rfl
theorem tw_1118 : ∀ w ∈ ([.methodLink RL 79 yX11_fault, .instanceMethod yX11_fault, .selects RX11 yX11_fault yX11_fault, .initialized RX11] : List Cond), w ∈ tw_W := al_c (tw_in (t8_5 (List.mem_of_getElem? (i := 214) rfl)) rfl) (al_c (tw_in (t8_5 (List.mem_of_getElem? (i := 215) rfl)) rfl) (al_c (tw_in (t8_5 (List.mem_of_getElem? (i := 216) rfl)) rfl) (al_c (tw_in (t8_1 (List.mem_of_getElem? (i := 1) rfl)) rfl) al_n)))
theorem dL_law_289 : decode cL_law 289 = .ok (.pop, 1) := by decide +kernel
theorem dL_law_290 : decode cL_law 290 = .ok (.aload_n 2, 1) := by decide +kernel
theorem dL_law_291 : decode cL_law 291 = .ok (.aload_n 0, 1) := by decide +kernel
theorem dL_law_292 : decode cL_law 292 = .ok (.iload 4, 2) := by decide +kernel
theorem dL_law_294 : decode cL_law 294 = .ok (.iconst 1, 1) := by decide +kernel
theorem dL_law_295 : decode cL_law 295 = .ok (.iadd, 1) := by decide +kernel
theorem dL_law_296 : decode cL_law 296 = .ok (.iaload, 1) := by decide +kernel
theorem dL_law_297 : decode cL_law 297 = .ok (.invokevirtual 82, 3) := by decide +kernel
theorem tw_1119 : (.code yX13_fault cX13_fault 2 (some .int) : Cond) ∈ tw_W := tw_in (t8_12 (List.mem_of_getElem? (i := 57) rfl)) rfl
theorem tw_1120 : ∀ w ∈ ([.methodLink RL 82 yX13_fault, .instanceMethod yX13_fault, .selects RX13 yX13_fault yX13_fault, .initialized RX13] : List Cond), w ∈ tw_W := al_c (tw_in (t8_12 (List.mem_of_getElem? (i := 54) rfl)) rfl) (al_c (tw_in (t8_12 (List.mem_of_getElem? (i := 55) rfl)) rfl) (al_c (tw_in (t8_12 (List.mem_of_getElem? (i := 56) rfl)) rfl) (al_c (tw_in (t8_1 (List.mem_of_getElem? (i := 23) rfl)) rfl) al_n)))
theorem dL_law_300 : decode cL_law 300 = .ok (.pop, 1) := by decide +kernel
theorem dL_law_301 : decode cL_law 301 = .ok (.goto 692, 3) := by decide +kernel
theorem dL_law_304 : decode cL_law 304 = .ok (.aload_n 1, 1) := by decide +kernel
theorem dL_law_305 : decode cL_law 305 = .ok (.aload_n 0, 1) := by decide +kernel
theorem dL_law_306 : decode cL_law 306 = .ok (.iload 4, 2) := by decide +kernel
theorem dL_law_308 : decode cL_law 308 = .ok (.iconst 1, 1) := by decide +kernel
theorem dL_law_309 : decode cL_law 309 = .ok (.iadd, 1) := by decide +kernel
theorem dL_law_310 : decode cL_law 310 = .ok (.iaload, 1) := by decide +kernel
theorem dL_law_311 : decode cL_law 311 = .ok (.aload_n 3, 1) := by decide +kernel
theorem dL_law_312 : decode cL_law 312 = .ok (.invokestatic 83, 3) := by decide +kernel
theorem tw_1121 : (.codeWith yL_code cL_code 4 (some .int) [(0, 9, 12, 13)] : Cond) ∈ tw_W := tw_in (t8_8 (List.mem_of_getElem? (i := 29) rfl)) rfl
theorem tw_1122 : ∀ w ∈ ([.methodLink RL 83 yL_code, .static yL_code, .initialized yL_code.cls] : List Cond), w ∈ tw_W := al_c (tw_in (t8_8 (List.mem_of_getElem? (i := 27) rfl)) rfl) (al_c (tw_in (t8_8 (List.mem_of_getElem? (i := 28) rfl)) rfl) (al_c (tw_in (t8_1 (List.mem_of_getElem? (i := 0) rfl)) rfl) al_n))
theorem dL_law_315 : decode cL_law 315 = .ok (.istore 5, 2) := by decide +kernel
theorem dL_law_317 : decode cL_law 317 = .ok (.aload_n 2, 1) := by decide +kernel
theorem dL_law_318 : decode cL_law 318 = .ok (.aload_n 0, 1) := by decide +kernel
theorem dL_law_319 : decode cL_law 319 = .ok (.iload 4, 2) := by decide +kernel
theorem dL_law_321 : decode cL_law 321 = .ok (.iconst 1, 1) := by decide +kernel
theorem dL_law_322 : decode cL_law 322 = .ok (.iadd, 1) := by decide +kernel
theorem dL_law_323 : decode cL_law 323 = .ok (.iaload, 1) := by decide +kernel
theorem dL_law_324 : decode cL_law 324 = .ok (.invokevirtual 86, 3) := by decide +kernel
theorem tw_1123 : (.code yX13_code cX13_code 2 (some .int) : Cond) ∈ tw_W := tw_in (t8_12 (List.mem_of_getElem? (i := 61) rfl)) rfl
theorem tw_1124 : ∀ w ∈ ([.methodLink RL 86 yX13_code, .instanceMethod yX13_code, .selects RX13 yX13_code yX13_code, .initialized RX13] : List Cond), w ∈ tw_W := al_c (tw_in (t8_12 (List.mem_of_getElem? (i := 58) rfl)) rfl) (al_c (tw_in (t8_12 (List.mem_of_getElem? (i := 59) rfl)) rfl) (al_c (tw_in (t8_12 (List.mem_of_getElem? (i := 60) rfl)) rfl) (al_c (tw_in (t8_1 (List.mem_of_getElem? (i := 23) rfl)) rfl) al_n)))
theorem dL_law_327 : decode cL_law 327 = .ok (.istore 6, 2) := by decide +kernel
theorem dL_law_329 : decode cL_law 329 = .ok (.goto 664, 3) := by decide +kernel
theorem dL_law_332 : decode cL_law 332 = .ok (.aload_n 1, 1) := by decide +kernel
theorem dL_law_333 : decode cL_law 333 = .ok (.aload_n 0, 1) := by decide +kernel
theorem dL_law_334 : decode cL_law 334 = .ok (.iload 4, 2) := by decide +kernel
theorem dL_law_336 : decode cL_law 336 = .ok (.iconst 1, 1) := by decide +kernel
theorem dL_law_337 : decode cL_law 337 = .ok (.iadd, 1) := by decide +kernel
theorem dL_law_338 : decode cL_law 338 = .ok (.iaload, 1) := by decide +kernel
theorem dL_law_339 : decode cL_law 339 = .ok (.aload_n 0, 1) := by decide +kernel
theorem dL_law_340 : decode cL_law 340 = .ok (.iload 4, 2) := by decide +kernel
theorem dL_law_342 : decode cL_law 342 = .ok (.iconst 2, 1) := by decide +kernel
theorem dL_law_343 : decode cL_law 343 = .ok (.iadd, 1) := by decide +kernel
theorem dL_law_344 : decode cL_law 344 = .ok (.iaload, 1) := by decide +kernel
theorem dL_law_345 : decode cL_law 345 = .ok (.invokevirtual 87, 3) := by decide +kernel
theorem tw_1125 : (.code yX11_function cX11_function 3 (some .int) : Cond) ∈ tw_W := tw_in (t8_5 (List.mem_of_getElem? (i := 221) rfl)) rfl
theorem tw_1126 : ∀ w ∈ ([.methodLink RL 87 yX11_function, .instanceMethod yX11_function, .selects RX11 yX11_function yX11_function, .initialized RX11] : List Cond), w ∈ tw_W := al_c (tw_in (t8_5 (List.mem_of_getElem? (i := 218) rfl)) rfl) (al_c (tw_in (t8_5 (List.mem_of_getElem? (i := 219) rfl)) rfl) (al_c (tw_in (t8_5 (List.mem_of_getElem? (i := 220) rfl)) rfl) (al_c (tw_in (t8_1 (List.mem_of_getElem? (i := 1) rfl)) rfl) al_n)))
theorem dL_law_348 : decode cL_law 348 = .ok (.pop, 1) := by decide +kernel
theorem dL_law_349 : decode cL_law 349 = .ok (.aload_n 2, 1) := by decide +kernel
theorem dL_law_350 : decode cL_law 350 = .ok (.aload_n 0, 1) := by decide +kernel
theorem dL_law_351 : decode cL_law 351 = .ok (.iload 4, 2) := by decide +kernel
theorem dL_law_353 : decode cL_law 353 = .ok (.iconst 1, 1) := by decide +kernel
theorem dL_law_354 : decode cL_law 354 = .ok (.iadd, 1) := by decide +kernel
theorem dL_law_355 : decode cL_law 355 = .ok (.iaload, 1) := by decide +kernel
theorem dL_law_356 : decode cL_law 356 = .ok (.aload_n 0, 1) := by decide +kernel
theorem dL_law_357 : decode cL_law 357 = .ok (.iload 4, 2) := by decide +kernel
theorem dL_law_359 : decode cL_law 359 = .ok (.iconst 2, 1) := by decide +kernel
theorem dL_law_360 : decode cL_law 360 = .ok (.iadd, 1) := by decide +kernel
theorem dL_law_361 : decode cL_law 361 = .ok (.iaload, 1) := by decide +kernel
theorem dL_law_362 : decode cL_law 362 = .ok (.invokevirtual 90, 3) := by decide +kernel
theorem tw_1127 : (.code yX13_function cX13_function 3 (some .int) : Cond) ∈ tw_W := tw_in (t8_12 (List.mem_of_getElem? (i := 65) rfl)) rfl
theorem tw_1128 : ∀ w ∈ ([.methodLink RL 90 yX13_function, .instanceMethod yX13_function, .selects RX13 yX13_function yX13_function, .initialized RX13] : List Cond), w ∈ tw_W := al_c (tw_in (t8_12 (List.mem_of_getElem? (i := 62) rfl)) rfl) (al_c (tw_in (t8_12 (List.mem_of_getElem? (i := 63) rfl)) rfl) (al_c (tw_in (t8_12 (List.mem_of_getElem? (i := 64) rfl)) rfl) (al_c (tw_in (t8_1 (List.mem_of_getElem? (i := 23) rfl)) rfl) al_n)))
theorem dL_law_365 : decode cL_law 365 = .ok (.pop, 1) := by decide +kernel
theorem dL_law_366 : decode cL_law 366 = .ok (.goto 627, 3) := by decide +kernel
theorem dL_law_369 : decode cL_law 369 = .ok (.aload_n 1, 1) := by decide +kernel
theorem dL_law_370 : decode cL_law 370 = .ok (.aload_n 0, 1) := by decide +kernel
theorem dL_law_371 : decode cL_law 371 = .ok (.iload 4, 2) := by decide +kernel
theorem dL_law_373 : decode cL_law 373 = .ok (.iconst 1, 1) := by decide +kernel
theorem dL_law_374 : decode cL_law 374 = .ok (.iadd, 1) := by decide +kernel
theorem dL_law_375 : decode cL_law 375 = .ok (.iaload, 1) := by decide +kernel
theorem dL_law_376 : decode cL_law 376 = .ok (.aload_n 0, 1) := by decide +kernel
theorem dL_law_377 : decode cL_law 377 = .ok (.iload 4, 2) := by decide +kernel
theorem dL_law_379 : decode cL_law 379 = .ok (.iconst 2, 1) := by decide +kernel
theorem dL_law_380 : decode cL_law 380 = .ok (.iadd, 1) := by decide +kernel
theorem dL_law_381 : decode cL_law 381 = .ok (.iaload, 1) := by decide +kernel
theorem dL_law_382 : decode cL_law 382 = .ok (.invokevirtual 91, 3) := by decide +kernel
theorem tw_1129 : (.code yX11_global cX11_global 3 (some .int) : Cond) ∈ tw_W := tw_in (t8_5 (List.mem_of_getElem? (i := 226) rfl)) rfl
theorem tw_1130 : ∀ w ∈ ([.methodLink RL 91 yX11_global, .instanceMethod yX11_global, .selects RX11 yX11_global yX11_global, .initialized RX11] : List Cond), w ∈ tw_W := al_c (tw_in (t8_5 (List.mem_of_getElem? (i := 223) rfl)) rfl) (al_c (tw_in (t8_5 (List.mem_of_getElem? (i := 224) rfl)) rfl) (al_c (tw_in (t8_5 (List.mem_of_getElem? (i := 225) rfl)) rfl) (al_c (tw_in (t8_1 (List.mem_of_getElem? (i := 1) rfl)) rfl) al_n)))
theorem dL_law_385 : decode cL_law 385 = .ok (.pop, 1) := by decide +kernel
theorem dL_law_386 : decode cL_law 386 = .ok (.aload_n 2, 1) := by decide +kernel
theorem dL_law_387 : decode cL_law 387 = .ok (.aload_n 0, 1) := by decide +kernel
theorem dL_law_388 : decode cL_law 388 = .ok (.iload 4, 2) := by decide +kernel
theorem dL_law_390 : decode cL_law 390 = .ok (.iconst 1, 1) := by decide +kernel
theorem dL_law_391 : decode cL_law 391 = .ok (.iadd, 1) := by decide +kernel
theorem dL_law_392 : decode cL_law 392 = .ok (.iaload, 1) := by decide +kernel
theorem dL_law_393 : decode cL_law 393 = .ok (.aload_n 0, 1) := by decide +kernel
theorem dL_law_394 : decode cL_law 394 = .ok (.iload 4, 2) := by decide +kernel
theorem dL_law_396 : decode cL_law 396 = .ok (.iconst 2, 1) := by decide +kernel
theorem dL_law_397 : decode cL_law 397 = .ok (.iadd, 1) := by decide +kernel
theorem dL_law_398 : decode cL_law 398 = .ok (.iaload, 1) := by decide +kernel
theorem dL_law_399 : decode cL_law 399 = .ok (.invokevirtual 94, 3) := by decide +kernel
theorem tw_1131 : (.code yX13_global cX13_global 3 (some .int) : Cond) ∈ tw_W := tw_in (t8_12 (List.mem_of_getElem? (i := 69) rfl)) rfl
theorem tw_1132 : ∀ w ∈ ([.methodLink RL 94 yX13_global, .instanceMethod yX13_global, .selects RX13 yX13_global yX13_global, .initialized RX13] : List Cond), w ∈ tw_W := al_c (tw_in (t8_12 (List.mem_of_getElem? (i := 66) rfl)) rfl) (al_c (tw_in (t8_12 (List.mem_of_getElem? (i := 67) rfl)) rfl) (al_c (tw_in (t8_12 (List.mem_of_getElem? (i := 68) rfl)) rfl) (al_c (tw_in (t8_1 (List.mem_of_getElem? (i := 23) rfl)) rfl) al_n)))
theorem dL_law_402 : decode cL_law 402 = .ok (.pop, 1) := by decide +kernel
theorem dL_law_403 : decode cL_law 403 = .ok (.goto 590, 3) := by decide +kernel
theorem dL_law_406 : decode cL_law 406 = .ok (.aload_n 1, 1) := by decide +kernel
theorem dL_law_407 : decode cL_law 407 = .ok (.aload_n 0, 1) := by decide +kernel
theorem dL_law_408 : decode cL_law 408 = .ok (.iload 4, 2) := by decide +kernel
theorem dL_law_410 : decode cL_law 410 = .ok (.iconst 1, 1) := by decide +kernel
theorem dL_law_411 : decode cL_law 411 = .ok (.iadd, 1) := by decide +kernel
theorem dL_law_412 : decode cL_law 412 = .ok (.iaload, 1) := by decide +kernel
theorem dL_law_413 : decode cL_law 413 = .ok (.aload_n 3, 1) := by decide +kernel
theorem dL_law_414 : decode cL_law 414 = .ok (.invokestatic 95, 3) := by decide +kernel
theorem tw_1133 : (.codeWith yL_find cL_find 4 (some .int) [(0, 9, 12, 18)] : Cond) ∈ tw_W := tw_in (t8_8 (List.mem_of_getElem? (i := 51) rfl)) rfl
theorem tw_1134 : ∀ w ∈ ([.methodLink RL 95 yL_find, .static yL_find, .initialized yL_find.cls] : List Cond), w ∈ tw_W := al_c (tw_in (t8_8 (List.mem_of_getElem? (i := 49) rfl)) rfl) (al_c (tw_in (t8_8 (List.mem_of_getElem? (i := 50) rfl)) rfl) (al_c (tw_in (t8_1 (List.mem_of_getElem? (i := 0) rfl)) rfl) al_n))
theorem dL_law_417 : decode cL_law 417 = .ok (.istore 5, 2) := by decide +kernel
theorem dL_law_419 : decode cL_law 419 = .ok (.aload_n 2, 1) := by decide +kernel
theorem dL_law_420 : decode cL_law 420 = .ok (.aload_n 0, 1) := by decide +kernel
theorem dL_law_421 : decode cL_law 421 = .ok (.iload 4, 2) := by decide +kernel
theorem dL_law_423 : decode cL_law 423 = .ok (.iconst 1, 1) := by decide +kernel
theorem dL_law_424 : decode cL_law 424 = .ok (.iadd, 1) := by decide +kernel
theorem dL_law_425 : decode cL_law 425 = .ok (.iaload, 1) := by decide +kernel
theorem dL_law_426 : decode cL_law 426 = .ok (.invokevirtual 97, 3) := by decide +kernel
theorem tw_1135 : (.code yX13_find cX13_find 3 (some .int) : Cond) ∈ tw_W := tw_in (t8_12 (List.mem_of_getElem? (i := 73) rfl)) rfl
theorem tw_1136 : ∀ w ∈ ([.methodLink RL 97 yX13_find, .instanceMethod yX13_find, .selects RX13 yX13_find yX13_find, .initialized RX13] : List Cond), w ∈ tw_W := al_c (tw_in (t8_12 (List.mem_of_getElem? (i := 70) rfl)) rfl) (al_c (tw_in (t8_12 (List.mem_of_getElem? (i := 71) rfl)) rfl) (al_c (tw_in (t8_12 (List.mem_of_getElem? (i := 72) rfl)) rfl) (al_c (tw_in (t8_1 (List.mem_of_getElem? (i := 23) rfl)) rfl) al_n)))
theorem dL_law_429 : decode cL_law 429 = .ok (.istore 6, 2) := by decide +kernel
theorem dL_law_431 : decode cL_law 431 = .ok (.goto 562, 3) := by decide +kernel
theorem dL_law_434 : decode cL_law 434 = .ok (.aload_n 1, 1) := by decide +kernel
theorem dL_law_435 : decode cL_law 435 = .ok (.aload_n 0, 1) := by decide +kernel
theorem dL_law_436 : decode cL_law 436 = .ok (.iload 4, 2) := by decide +kernel
theorem dL_law_438 : decode cL_law 438 = .ok (.iconst 1, 1) := by decide +kernel
theorem dL_law_439 : decode cL_law 439 = .ok (.iadd, 1) := by decide +kernel
theorem dL_law_440 : decode cL_law 440 = .ok (.iaload, 1) := by decide +kernel
theorem dL_law_441 : decode cL_law 441 = .ok (.invokevirtual 98, 3) := by decide +kernel
theorem tw_1137 : (.code yX11_give cX11_give 2 (some .int) : Cond) ∈ tw_W := tw_in (t8_5 (List.mem_of_getElem? (i := 231) rfl)) rfl
theorem tw_1138 : ∀ w ∈ ([.methodLink RL 98 yX11_give, .instanceMethod yX11_give, .selects RX11 yX11_give yX11_give, .initialized RX11] : List Cond), w ∈ tw_W := al_c (tw_in (t8_5 (List.mem_of_getElem? (i := 228) rfl)) rfl) (al_c (tw_in (t8_5 (List.mem_of_getElem? (i := 229) rfl)) rfl) (al_c (tw_in (t8_5 (List.mem_of_getElem? (i := 230) rfl)) rfl) (al_c (tw_in (t8_1 (List.mem_of_getElem? (i := 1) rfl)) rfl) al_n)))
theorem dL_law_444 : decode cL_law 444 = .ok (.pop, 1) := by decide +kernel
theorem dL_law_445 : decode cL_law 445 = .ok (.aload_n 2, 1) := by decide +kernel
theorem dL_law_446 : decode cL_law 446 = .ok (.aload_n 0, 1) := by decide +kernel
theorem dL_law_447 : decode cL_law 447 = .ok (.iload 4, 2) := by decide +kernel
theorem dL_law_449 : decode cL_law 449 = .ok (.iconst 1, 1) := by decide +kernel
theorem dL_law_450 : decode cL_law 450 = .ok (.iadd, 1) := by decide +kernel
theorem dL_law_451 : decode cL_law 451 = .ok (.iaload, 1) := by decide +kernel
theorem dL_law_452 : decode cL_law 452 = .ok (.invokevirtual 101, 3) := by decide +kernel
theorem tw_1139 : (.code yX13_give cX13_give 2 (some .int) : Cond) ∈ tw_W := tw_in (t8_12 (List.mem_of_getElem? (i := 81) rfl)) rfl
theorem tw_1140 : ∀ w ∈ ([.methodLink RL 101 yX13_give, .instanceMethod yX13_give, .selects RX13 yX13_give yX13_give, .initialized RX13] : List Cond), w ∈ tw_W := al_c (tw_in (t8_12 (List.mem_of_getElem? (i := 78) rfl)) rfl) (al_c (tw_in (t8_12 (List.mem_of_getElem? (i := 79) rfl)) rfl) (al_c (tw_in (t8_12 (List.mem_of_getElem? (i := 80) rfl)) rfl) (al_c (tw_in (t8_1 (List.mem_of_getElem? (i := 23) rfl)) rfl) al_n)))
theorem dL_law_455 : decode cL_law 455 = .ok (.pop, 1) := by decide +kernel
theorem dL_law_456 : decode cL_law 456 = .ok (.goto 537, 3) := by decide +kernel
theorem dL_law_459 : decode cL_law 459 = .ok (.aload_n 1, 1) := by decide +kernel
theorem dL_law_460 : decode cL_law 460 = .ok (.invokevirtual 102, 3) := by decide +kernel
theorem tw_1141 : (.code yX11_forget cX11_forget 1 (some .int) : Cond) ∈ tw_W := tw_in (t8_5 (List.mem_of_getElem? (i := 239) rfl)) rfl
theorem tw_1142 : ∀ w ∈ ([.methodLink RL 102 yX11_forget, .instanceMethod yX11_forget, .selects RX11 yX11_forget yX11_forget, .initialized RX11] : List Cond), w ∈ tw_W := al_c (tw_in (t8_5 (List.mem_of_getElem? (i := 236) rfl)) rfl) (al_c (tw_in (t8_5 (List.mem_of_getElem? (i := 237) rfl)) rfl) (al_c (tw_in (t8_5 (List.mem_of_getElem? (i := 238) rfl)) rfl) (al_c (tw_in (t8_1 (List.mem_of_getElem? (i := 1) rfl)) rfl) al_n)))
theorem dL_law_463 : decode cL_law 463 = .ok (.pop, 1) := by decide +kernel
theorem dL_law_464 : decode cL_law 464 = .ok (.aload_n 2, 1) := by decide +kernel
theorem dL_law_465 : decode cL_law 465 = .ok (.invokevirtual 105, 3) := by decide +kernel
theorem tw_1143 : (.code yX13_forget cX13_forget 2 (some .int) : Cond) ∈ tw_W := tw_in (t8_12 (List.mem_of_getElem? (i := 85) rfl)) rfl
theorem tw_1144 : ∀ w ∈ ([.methodLink RL 105 yX13_forget, .instanceMethod yX13_forget, .selects RX13 yX13_forget yX13_forget, .initialized RX13] : List Cond), w ∈ tw_W := al_c (tw_in (t8_12 (List.mem_of_getElem? (i := 82) rfl)) rfl) (al_c (tw_in (t8_12 (List.mem_of_getElem? (i := 83) rfl)) rfl) (al_c (tw_in (t8_12 (List.mem_of_getElem? (i := 84) rfl)) rfl) (al_c (tw_in (t8_1 (List.mem_of_getElem? (i := 23) rfl)) rfl) al_n)))
theorem dL_law_468 : decode cL_law 468 = .ok (.pop, 1) := by decide +kernel
theorem dL_law_469 : decode cL_law 469 = .ok (.goto 524, 3) := by decide +kernel
theorem dL_law_472 : decode cL_law 472 = .ok (.aload_n 1, 1) := by decide +kernel
theorem dL_law_473 : decode cL_law 473 = .ok (.aload_n 0, 1) := by decide +kernel
theorem dL_law_474 : decode cL_law 474 = .ok (.iload 4, 2) := by decide +kernel
theorem dL_law_476 : decode cL_law 476 = .ok (.iconst 1, 1) := by decide +kernel
theorem dL_law_477 : decode cL_law 477 = .ok (.iadd, 1) := by decide +kernel
theorem dL_law_478 : decode cL_law 478 = .ok (.iaload, 1) := by decide +kernel
theorem dL_law_479 : decode cL_law 479 = .ok (.aload_n 0, 1) := by decide +kernel
theorem dL_law_480 : decode cL_law 480 = .ok (.iload 4, 2) := by decide +kernel
theorem dL_law_482 : decode cL_law 482 = .ok (.iconst 2, 1) := by decide +kernel
theorem dL_law_483 : decode cL_law 483 = .ok (.iadd, 1) := by decide +kernel
theorem dL_law_484 : decode cL_law 484 = .ok (.iaload, 1) := by decide +kernel
theorem dL_law_485 : decode cL_law 485 = .ok (.aload_n 0, 1) := by decide +kernel
theorem dL_law_486 : decode cL_law 486 = .ok (.iload 4, 2) := by decide +kernel
theorem dL_law_488 : decode cL_law 488 = .ok (.iconst 3, 1) := by decide +kernel
theorem dL_law_489 : decode cL_law 489 = .ok (.iadd, 1) := by decide +kernel
theorem dL_law_490 : decode cL_law 490 = .ok (.iaload, 1) := by decide +kernel
theorem dL_law_491 : decode cL_law 491 = .ok (.invokevirtual 106, 3) := by decide +kernel
theorem tw_1145 : (.code yX11_start cX11_start 5 (some .boolean) : Cond) ∈ tw_W := tw_in (t8_6 (List.mem_of_getElem? (i := 7) rfl)) rfl
theorem tw_1146 : ∀ w ∈ ([.methodLink RL 106 yX11_start, .instanceMethod yX11_start, .selects RX11 yX11_start yX11_start, .initialized RX11] : List Cond), w ∈ tw_W := al_c (tw_in (t8_6 (List.mem_of_getElem? (i := 4) rfl)) rfl) (al_c (tw_in (t8_6 (List.mem_of_getElem? (i := 5) rfl)) rfl) (al_c (tw_in (t8_6 (List.mem_of_getElem? (i := 6) rfl)) rfl) (al_c (tw_in (t8_1 (List.mem_of_getElem? (i := 1) rfl)) rfl) al_n)))
theorem dL_law_494 : decode cL_law 494 = .ok (.pop, 1) := by decide +kernel
theorem dL_law_495 : decode cL_law 495 = .ok (.aload_n 2, 1) := by decide +kernel
theorem dL_law_496 : decode cL_law 496 = .ok (.aload_n 0, 1) := by decide +kernel
theorem dL_law_497 : decode cL_law 497 = .ok (.iload 4, 2) := by decide +kernel
theorem dL_law_499 : decode cL_law 499 = .ok (.iconst 1, 1) := by decide +kernel
theorem dL_law_500 : decode cL_law 500 = .ok (.iadd, 1) := by decide +kernel
theorem dL_law_501 : decode cL_law 501 = .ok (.iaload, 1) := by decide +kernel
theorem dL_law_502 : decode cL_law 502 = .ok (.aload_n 0, 1) := by decide +kernel
theorem dL_law_503 : decode cL_law 503 = .ok (.iload 4, 2) := by decide +kernel
theorem dL_law_505 : decode cL_law 505 = .ok (.iconst 2, 1) := by decide +kernel
theorem dL_law_506 : decode cL_law 506 = .ok (.iadd, 1) := by decide +kernel
theorem dL_law_507 : decode cL_law 507 = .ok (.iaload, 1) := by decide +kernel
theorem dL_law_508 : decode cL_law 508 = .ok (.aload_n 0, 1) := by decide +kernel
theorem dL_law_509 : decode cL_law 509 = .ok (.iload 4, 2) := by decide +kernel
theorem dL_law_511 : decode cL_law 511 = .ok (.iconst 3, 1) := by decide +kernel
theorem dL_law_512 : decode cL_law 512 = .ok (.iadd, 1) := by decide +kernel
theorem dL_law_513 : decode cL_law 513 = .ok (.iaload, 1) := by decide +kernel
theorem dL_law_514 : decode cL_law 514 = .ok (.invokevirtual 110, 3) := by decide +kernel
theorem tw_1147 : (.code yX13_start cX13_start 6 (some .boolean) : Cond) ∈ tw_W := tw_in (t8_12 (List.mem_of_getElem? (i := 89) rfl)) rfl
theorem tw_1148 : ∀ w ∈ ([.methodLink RL 110 yX13_start, .instanceMethod yX13_start, .selects RX13 yX13_start yX13_start, .initialized RX13] : List Cond), w ∈ tw_W := al_c (tw_in (t8_12 (List.mem_of_getElem? (i := 86) rfl)) rfl) (al_c (tw_in (t8_12 (List.mem_of_getElem? (i := 87) rfl)) rfl) (al_c (tw_in (t8_12 (List.mem_of_getElem? (i := 88) rfl)) rfl) (al_c (tw_in (t8_1 (List.mem_of_getElem? (i := 23) rfl)) rfl) al_n)))
theorem dL_law_517 : decode cL_law 517 = .ok (.pop, 1) := by decide +kernel
theorem dL_law_518 : decode cL_law 518 = .ok (.goto 475, 3) := by decide +kernel
theorem dL_law_521 : decode cL_law 521 = .ok (.aload_n 1, 1) := by decide +kernel
theorem dL_law_522 : decode cL_law 522 = .ok (.invokevirtual 111, 3) := by decide +kernel
theorem tw_1149 : (.code yX11_step cX11_step 1 (some .int) : Cond) ∈ tw_W := tw_in (t8_6 (List.mem_of_getElem? (i := 34) rfl)) rfl
theorem tw_1150 : ∀ w ∈ ([.methodLink RL 111 yX11_step, .instanceMethod yX11_step, .selects RX11 yX11_step yX11_step, .initialized RX11] : List Cond), w ∈ tw_W := al_c (tw_in (t8_6 (List.mem_of_getElem? (i := 31) rfl)) rfl) (al_c (tw_in (t8_6 (List.mem_of_getElem? (i := 32) rfl)) rfl) (al_c (tw_in (t8_6 (List.mem_of_getElem? (i := 33) rfl)) rfl) (al_c (tw_in (t8_1 (List.mem_of_getElem? (i := 1) rfl)) rfl) al_n)))
theorem dL_law_525 : decode cL_law 525 = .ok (.pop, 1) := by decide +kernel
theorem dL_law_526 : decode cL_law 526 = .ok (.aload_n 2, 1) := by decide +kernel
theorem dL_law_527 : decode cL_law 527 = .ok (.invokevirtual 114, 3) := by decide +kernel
theorem tw_1151 : (.code yX13_step cX13_step 1 (some .int) : Cond) ∈ tw_W := tw_in (t8_12 (List.mem_of_getElem? (i := 93) rfl)) rfl
theorem tw_1152 : ∀ w ∈ ([.methodLink RL 114 yX13_step, .instanceMethod yX13_step, .selects RX13 yX13_step yX13_step, .initialized RX13] : List Cond), w ∈ tw_W := al_c (tw_in (t8_12 (List.mem_of_getElem? (i := 90) rfl)) rfl) (al_c (tw_in (t8_12 (List.mem_of_getElem? (i := 91) rfl)) rfl) (al_c (tw_in (t8_12 (List.mem_of_getElem? (i := 92) rfl)) rfl) (al_c (tw_in (t8_1 (List.mem_of_getElem? (i := 23) rfl)) rfl) al_n)))
theorem dL_law_530 : decode cL_law 530 = .ok (.pop, 1) := by decide +kernel
theorem dL_law_531 : decode cL_law 531 = .ok (.goto 462, 3) := by decide +kernel
theorem dL_law_534 : decode cL_law 534 = .ok (.aload_n 1, 1) := by decide +kernel
theorem dL_law_535 : decode cL_law 535 = .ok (.aload_n 0, 1) := by decide +kernel
theorem dL_law_536 : decode cL_law 536 = .ok (.iload 4, 2) := by decide +kernel
theorem dL_law_538 : decode cL_law 538 = .ok (.iconst 1, 1) := by decide +kernel
theorem dL_law_539 : decode cL_law 539 = .ok (.iadd, 1) := by decide +kernel
theorem dL_law_540 : decode cL_law 540 = .ok (.iaload, 1) := by decide +kernel
theorem dL_law_541 : decode cL_law 541 = .ok (.aload_n 3, 1) := by decide +kernel
theorem dL_law_542 : decode cL_law 542 = .ok (.invokestatic 115, 3) := by decide +kernel
theorem tw_1153 : (.codeWith yL_run cL_run 4 (some .int) [(0, 9, 12, 18)] : Cond) ∈ tw_W := tw_in (t8_8 (List.mem_of_getElem? (i := 67) rfl)) rfl
theorem tw_1154 : ∀ w ∈ ([.methodLink RL 115 yL_run, .static yL_run, .initialized yL_run.cls] : List Cond), w ∈ tw_W := al_c (tw_in (t8_8 (List.mem_of_getElem? (i := 65) rfl)) rfl) (al_c (tw_in (t8_8 (List.mem_of_getElem? (i := 66) rfl)) rfl) (al_c (tw_in (t8_1 (List.mem_of_getElem? (i := 0) rfl)) rfl) al_n))
theorem dL_law_545 : decode cL_law 545 = .ok (.istore 5, 2) := by decide +kernel
theorem dL_law_547 : decode cL_law 547 = .ok (.aload_n 2, 1) := by decide +kernel
theorem dL_law_548 : decode cL_law 548 = .ok (.aload_n 0, 1) := by decide +kernel
theorem dL_law_549 : decode cL_law 549 = .ok (.iload 4, 2) := by decide +kernel
theorem dL_law_551 : decode cL_law 551 = .ok (.iconst 1, 1) := by decide +kernel
theorem dL_law_552 : decode cL_law 552 = .ok (.iadd, 1) := by decide +kernel
theorem dL_law_553 : decode cL_law 553 = .ok (.iaload, 1) := by decide +kernel
theorem dL_law_554 : decode cL_law 554 = .ok (.invokevirtual 117, 3) := by decide +kernel
theorem tw_1155 : (.code yX13_run cX13_run 3 (some .int) : Cond) ∈ tw_W := tw_in (t8_12 (List.mem_of_getElem? (i := 157) rfl)) rfl
theorem tw_1156 : ∀ w ∈ ([.methodLink RL 117 yX13_run, .instanceMethod yX13_run, .selects RX13 yX13_run yX13_run, .initialized RX13] : List Cond), w ∈ tw_W := al_c (tw_in (t8_12 (List.mem_of_getElem? (i := 154) rfl)) rfl) (al_c (tw_in (t8_12 (List.mem_of_getElem? (i := 155) rfl)) rfl) (al_c (tw_in (t8_12 (List.mem_of_getElem? (i := 156) rfl)) rfl) (al_c (tw_in (t8_1 (List.mem_of_getElem? (i := 23) rfl)) rfl) al_n)))
theorem dL_law_557 : decode cL_law 557 = .ok (.istore 6, 2) := by decide +kernel
theorem dL_law_559 : decode cL_law 559 = .ok (.goto 434, 3) := by decide +kernel
theorem dL_law_562 : decode cL_law 562 = .ok (.aload_n 1, 1) := by decide +kernel
theorem dL_law_563 : decode cL_law 563 = .ok (.invokevirtual 118, 3) := by decide +kernel
theorem tw_1157 : (.code yX11_result cX11_result 1 (some .int) : Cond) ∈ tw_W := tw_in (t8_6 (List.mem_of_getElem? (i := 146) rfl)) rfl
theorem tw_1158 : ∀ w ∈ ([.methodLink RL 118 yX11_result, .instanceMethod yX11_result, .selects RX11 yX11_result yX11_result, .initialized RX11] : List Cond), w ∈ tw_W := al_c (tw_in (t8_6 (List.mem_of_getElem? (i := 143) rfl)) rfl) (al_c (tw_in (t8_6 (List.mem_of_getElem? (i := 144) rfl)) rfl) (al_c (tw_in (t8_6 (List.mem_of_getElem? (i := 145) rfl)) rfl) (al_c (tw_in (t8_1 (List.mem_of_getElem? (i := 1) rfl)) rfl) al_n)))
theorem dL_law_566 : decode cL_law 566 = .ok (.pop, 1) := by decide +kernel
theorem dL_law_567 : decode cL_law 567 = .ok (.aload_n 2, 1) := by decide +kernel
theorem dL_law_568 : decode cL_law 568 = .ok (.invokevirtual 121, 3) := by decide +kernel
theorem tw_1159 : (.code yX13_result cX13_result 1 (some .int) : Cond) ∈ tw_W := tw_in (t8_12 (List.mem_of_getElem? (i := 162) rfl)) rfl
theorem tw_1160 : ∀ w ∈ ([.methodLink RL 121 yX13_result, .instanceMethod yX13_result, .selects RX13 yX13_result yX13_result, .initialized RX13] : List Cond), w ∈ tw_W := al_c (tw_in (t8_12 (List.mem_of_getElem? (i := 159) rfl)) rfl) (al_c (tw_in (t8_12 (List.mem_of_getElem? (i := 160) rfl)) rfl) (al_c (tw_in (t8_12 (List.mem_of_getElem? (i := 161) rfl)) rfl) (al_c (tw_in (t8_1 (List.mem_of_getElem? (i := 23) rfl)) rfl) al_n)))
theorem dL_law_571 : decode cL_law 571 = .ok (.pop, 1) := by decide +kernel
theorem dL_law_572 : decode cL_law 572 = .ok (.goto 421, 3) := by decide +kernel
theorem dL_law_575 : decode cL_law 575 = .ok (.aload_n 1, 1) := by decide +kernel
theorem dL_law_576 : decode cL_law 576 = .ok (.aload_n 0, 1) := by decide +kernel
theorem dL_law_577 : decode cL_law 577 = .ok (.iload 4, 2) := by decide +kernel
theorem dL_law_579 : decode cL_law 579 = .ok (.iconst 1, 1) := by decide +kernel
theorem dL_law_580 : decode cL_law 580 = .ok (.iadd, 1) := by decide +kernel
theorem dL_law_581 : decode cL_law 581 = .ok (.iaload, 1) := by decide +kernel
theorem dL_law_582 : decode cL_law 582 = .ok (.aload_n 3, 1) := by decide +kernel
theorem dL_law_583 : decode cL_law 583 = .ok (.invokestatic 122, 3) := by decide +kernel
theorem tw_1161 : (.codeWith yL_register cL_register 4 (some .int) [(0, 9, 12, 13)] : Cond) ∈ tw_W := tw_in (t8_8 (List.mem_of_getElem? (i := 81) rfl)) rfl
theorem tw_1162 : ∀ w ∈ ([.methodLink RL 122 yL_register, .static yL_register, .initialized yL_register.cls] : List Cond), w ∈ tw_W := al_c (tw_in (t8_8 (List.mem_of_getElem? (i := 79) rfl)) rfl) (al_c (tw_in (t8_8 (List.mem_of_getElem? (i := 80) rfl)) rfl) (al_c (tw_in (t8_1 (List.mem_of_getElem? (i := 0) rfl)) rfl) al_n))
theorem dL_law_586 : decode cL_law 586 = .ok (.istore 5, 2) := by decide +kernel
theorem dL_law_588 : decode cL_law 588 = .ok (.aload_n 2, 1) := by decide +kernel
theorem dL_law_589 : decode cL_law 589 = .ok (.aload_n 0, 1) := by decide +kernel
theorem dL_law_590 : decode cL_law 590 = .ok (.iload 4, 2) := by decide +kernel
theorem dL_law_592 : decode cL_law 592 = .ok (.iconst 1, 1) := by decide +kernel
theorem dL_law_593 : decode cL_law 593 = .ok (.iadd, 1) := by decide +kernel
theorem dL_law_594 : decode cL_law 594 = .ok (.iaload, 1) := by decide +kernel
theorem dL_law_595 : decode cL_law 595 = .ok (.invokevirtual 124, 3) := by decide +kernel
theorem tw_1163 : (.code yX13_register cX13_register 2 (some .int) : Cond) ∈ tw_W := tw_in (t8_12 (List.mem_of_getElem? (i := 166) rfl)) rfl
theorem tw_1164 : ∀ w ∈ ([.methodLink RL 124 yX13_register, .instanceMethod yX13_register, .selects RX13 yX13_register yX13_register, .initialized RX13] : List Cond), w ∈ tw_W := al_c (tw_in (t8_12 (List.mem_of_getElem? (i := 163) rfl)) rfl) (al_c (tw_in (t8_12 (List.mem_of_getElem? (i := 164) rfl)) rfl) (al_c (tw_in (t8_12 (List.mem_of_getElem? (i := 165) rfl)) rfl) (al_c (tw_in (t8_1 (List.mem_of_getElem? (i := 23) rfl)) rfl) al_n)))
theorem dL_law_598 : decode cL_law 598 = .ok (.istore 6, 2) := by decide +kernel
theorem dL_law_600 : decode cL_law 600 = .ok (.goto 393, 3) := by decide +kernel
theorem dL_law_603 : decode cL_law 603 = .ok (.aload_n 1, 1) := by decide +kernel
theorem dL_law_604 : decode cL_law 604 = .ok (.aload_n 0, 1) := by decide +kernel
theorem dL_law_605 : decode cL_law 605 = .ok (.iload 4, 2) := by decide +kernel
theorem dL_law_607 : decode cL_law 607 = .ok (.iconst 1, 1) := by decide +kernel
theorem dL_law_608 : decode cL_law 608 = .ok (.iadd, 1) := by decide +kernel
theorem dL_law_609 : decode cL_law 609 = .ok (.iaload, 1) := by decide +kernel
theorem dL_law_610 : decode cL_law 610 = .ok (.aload_n 0, 1) := by decide +kernel
theorem dL_law_611 : decode cL_law 611 = .ok (.iload 4, 2) := by decide +kernel
theorem dL_law_613 : decode cL_law 613 = .ok (.iconst 2, 1) := by decide +kernel
theorem dL_law_614 : decode cL_law 614 = .ok (.iadd, 1) := by decide +kernel
theorem dL_law_615 : decode cL_law 615 = .ok (.iaload, 1) := by decide +kernel
theorem dL_law_616 : decode cL_law 616 = .ok (.invokestatic 125, 3) := by decide +kernel
theorem tw_1165 : (.codeWith yL_set cL_set 4 (some .int) [(0, 6, 9, 13)] : Cond) ∈ tw_W := tw_in (t8_8 (List.mem_of_getElem? (i := 89) rfl)) rfl
theorem tw_1166 : ∀ w ∈ ([.methodLink RL 125 yL_set, .static yL_set, .initialized yL_set.cls] : List Cond), w ∈ tw_W := al_c (tw_in (t8_8 (List.mem_of_getElem? (i := 87) rfl)) rfl) (al_c (tw_in (t8_8 (List.mem_of_getElem? (i := 88) rfl)) rfl) (al_c (tw_in (t8_1 (List.mem_of_getElem? (i := 0) rfl)) rfl) al_n))
theorem dL_law_619 : decode cL_law 619 = .ok (.istore 5, 2) := by decide +kernel
theorem dL_law_621 : decode cL_law 621 = .ok (.aload_n 2, 1) := by decide +kernel
theorem dL_law_622 : decode cL_law 622 = .ok (.aload_n 0, 1) := by decide +kernel
theorem dL_law_623 : decode cL_law 623 = .ok (.iload 4, 2) := by decide +kernel
theorem dL_law_625 : decode cL_law 625 = .ok (.iconst 1, 1) := by decide +kernel
theorem dL_law_626 : decode cL_law 626 = .ok (.iadd, 1) := by decide +kernel
theorem dL_law_627 : decode cL_law 627 = .ok (.iaload, 1) := by decide +kernel
theorem dL_law_628 : decode cL_law 628 = .ok (.aload_n 0, 1) := by decide +kernel
theorem dL_law_629 : decode cL_law 629 = .ok (.iload 4, 2) := by decide +kernel
theorem dL_law_631 : decode cL_law 631 = .ok (.iconst 2, 1) := by decide +kernel
theorem dL_law_632 : decode cL_law 632 = .ok (.iadd, 1) := by decide +kernel
theorem dL_law_633 : decode cL_law 633 = .ok (.iaload, 1) := by decide +kernel
theorem dL_law_634 : decode cL_law 634 = .ok (.invokevirtual 128, 3) := by decide +kernel
theorem tw_1167 : (.code yX13_set cX13_set 3 none : Cond) ∈ tw_W := tw_in (t8_12 (List.mem_of_getElem? (i := 170) rfl)) rfl
theorem tw_1168 : ∀ w ∈ ([.methodLink RL 128 yX13_set, .instanceMethod yX13_set, .selects RX13 yX13_set yX13_set, .initialized RX13] : List Cond), w ∈ tw_W := al_c (tw_in (t8_12 (List.mem_of_getElem? (i := 167) rfl)) rfl) (al_c (tw_in (t8_12 (List.mem_of_getElem? (i := 168) rfl)) rfl) (al_c (tw_in (t8_12 (List.mem_of_getElem? (i := 169) rfl)) rfl) (al_c (tw_in (t8_1 (List.mem_of_getElem? (i := 23) rfl)) rfl) al_n)))
theorem dL_law_637 : decode cL_law 637 = .ok (.goto 356, 3) := by decide +kernel
theorem dL_law_640 : decode cL_law 640 = .ok (.aload_n 1, 1) := by decide +kernel
theorem dL_law_641 : decode cL_law 641 = .ok (.aload_n 0, 1) := by decide +kernel
theorem dL_law_642 : decode cL_law 642 = .ok (.iload 4, 2) := by decide +kernel
theorem dL_law_644 : decode cL_law 644 = .ok (.iconst 1, 1) := by decide +kernel
theorem dL_law_645 : decode cL_law 645 = .ok (.iadd, 1) := by decide +kernel
theorem dL_law_646 : decode cL_law 646 = .ok (.iaload, 1) := by decide +kernel
theorem dL_law_647 : decode cL_law 647 = .ok (.aload_n 3, 1) := by decide +kernel
theorem dL_law_648 : decode cL_law 648 = .ok (.invokestatic 129, 3) := by decide +kernel
theorem tw_1169 : (.codeWith yL_word cL_word 4 (some .int) [(0, 9, 12, 18), (0, 9, 15, 13)] : Cond) ∈ tw_W := tw_in (t8_8 (List.mem_of_getElem? (i := 100) rfl)) rfl
theorem tw_1170 : ∀ w ∈ ([.methodLink RL 129 yL_word, .static yL_word, .initialized yL_word.cls] : List Cond), w ∈ tw_W := al_c (tw_in (t8_8 (List.mem_of_getElem? (i := 98) rfl)) rfl) (al_c (tw_in (t8_8 (List.mem_of_getElem? (i := 99) rfl)) rfl) (al_c (tw_in (t8_1 (List.mem_of_getElem? (i := 0) rfl)) rfl) al_n))
theorem dL_law_651 : decode cL_law 651 = .ok (.istore 5, 2) := by decide +kernel
theorem dL_law_653 : decode cL_law 653 = .ok (.aload_n 2, 1) := by decide +kernel
theorem dL_law_654 : decode cL_law 654 = .ok (.aload_n 0, 1) := by decide +kernel
theorem dL_law_655 : decode cL_law 655 = .ok (.iload 4, 2) := by decide +kernel
theorem dL_law_657 : decode cL_law 657 = .ok (.iconst 1, 1) := by decide +kernel
theorem dL_law_658 : decode cL_law 658 = .ok (.iadd, 1) := by decide +kernel
theorem dL_law_659 : decode cL_law 659 = .ok (.iaload, 1) := by decide +kernel
theorem dL_law_660 : decode cL_law 660 = .ok (.invokevirtual 131, 3) := by decide +kernel
theorem tw_1171 : (.code yX13_word cX13_word 2 (some .int) : Cond) ∈ tw_W := tw_in (t8_12 (List.mem_of_getElem? (i := 174) rfl)) rfl
theorem tw_1172 : ∀ w ∈ ([.methodLink RL 131 yX13_word, .instanceMethod yX13_word, .selects RX13 yX13_word yX13_word, .initialized RX13] : List Cond), w ∈ tw_W := al_c (tw_in (t8_12 (List.mem_of_getElem? (i := 171) rfl)) rfl) (al_c (tw_in (t8_12 (List.mem_of_getElem? (i := 172) rfl)) rfl) (al_c (tw_in (t8_12 (List.mem_of_getElem? (i := 173) rfl)) rfl) (al_c (tw_in (t8_1 (List.mem_of_getElem? (i := 23) rfl)) rfl) al_n)))
theorem dL_law_663 : decode cL_law 663 = .ok (.istore 6, 2) := by decide +kernel
theorem dL_law_665 : decode cL_law 665 = .ok (.goto 328, 3) := by decide +kernel
theorem dL_law_668 : decode cL_law 668 = .ok (.aload_n 1, 1) := by decide +kernel
theorem dL_law_669 : decode cL_law 669 = .ok (.aload_n 0, 1) := by decide +kernel
theorem dL_law_670 : decode cL_law 670 = .ok (.iload 4, 2) := by decide +kernel
theorem dL_law_672 : decode cL_law 672 = .ok (.iconst 1, 1) := by decide +kernel
theorem dL_law_673 : decode cL_law 673 = .ok (.iadd, 1) := by decide +kernel
theorem dL_law_674 : decode cL_law 674 = .ok (.iaload, 1) := by decide +kernel
theorem dL_law_675 : decode cL_law 675 = .ok (.aload_n 0, 1) := by decide +kernel
theorem dL_law_676 : decode cL_law 676 = .ok (.iload 4, 2) := by decide +kernel
theorem dL_law_678 : decode cL_law 678 = .ok (.iconst 2, 1) := by decide +kernel
theorem dL_law_679 : decode cL_law 679 = .ok (.iadd, 1) := by decide +kernel
theorem dL_law_680 : decode cL_law 680 = .ok (.iaload, 1) := by decide +kernel
theorem dL_law_681 : decode cL_law 681 = .ok (.invokestatic 132, 3) := by decide +kernel
theorem tw_1173 : (.codeWith yL_poke cL_poke 4 (some .int) [(0, 6, 9, 18), (0, 6, 12, 13)] : Cond) ∈ tw_W := tw_in (t8_8 (List.mem_of_getElem? (i := 115) rfl)) rfl
theorem tw_1174 : ∀ w ∈ ([.methodLink RL 132 yL_poke, .static yL_poke, .initialized yL_poke.cls] : List Cond), w ∈ tw_W := al_c (tw_in (t8_8 (List.mem_of_getElem? (i := 113) rfl)) rfl) (al_c (tw_in (t8_8 (List.mem_of_getElem? (i := 114) rfl)) rfl) (al_c (tw_in (t8_1 (List.mem_of_getElem? (i := 0) rfl)) rfl) al_n))
theorem dL_law_684 : decode cL_law 684 = .ok (.istore 5, 2) := by decide +kernel
theorem dL_law_686 : decode cL_law 686 = .ok (.aload_n 2, 1) := by decide +kernel
theorem dL_law_687 : decode cL_law 687 = .ok (.aload_n 0, 1) := by decide +kernel
theorem dL_law_688 : decode cL_law 688 = .ok (.iload 4, 2) := by decide +kernel
theorem dL_law_690 : decode cL_law 690 = .ok (.iconst 1, 1) := by decide +kernel
theorem dL_law_691 : decode cL_law 691 = .ok (.iadd, 1) := by decide +kernel
theorem dL_law_692 : decode cL_law 692 = .ok (.iaload, 1) := by decide +kernel
theorem dL_law_693 : decode cL_law 693 = .ok (.aload_n 0, 1) := by decide +kernel
theorem dL_law_694 : decode cL_law 694 = .ok (.iload 4, 2) := by decide +kernel
theorem dL_law_696 : decode cL_law 696 = .ok (.iconst 2, 1) := by decide +kernel
theorem dL_law_697 : decode cL_law 697 = .ok (.iadd, 1) := by decide +kernel
theorem dL_law_698 : decode cL_law 698 = .ok (.iaload, 1) := by decide +kernel
theorem dL_law_699 : decode cL_law 699 = .ok (.invokevirtual 134, 3) := by decide +kernel
theorem tw_1175 : (.code yX13_poke cX13_poke 3 none : Cond) ∈ tw_W := tw_in (t8_12 (List.mem_of_getElem? (i := 178) rfl)) rfl
theorem tw_1176 : ∀ w ∈ ([.methodLink RL 134 yX13_poke, .instanceMethod yX13_poke, .selects RX13 yX13_poke yX13_poke, .initialized RX13] : List Cond), w ∈ tw_W := al_c (tw_in (t8_12 (List.mem_of_getElem? (i := 175) rfl)) rfl) (al_c (tw_in (t8_12 (List.mem_of_getElem? (i := 176) rfl)) rfl) (al_c (tw_in (t8_12 (List.mem_of_getElem? (i := 177) rfl)) rfl) (al_c (tw_in (t8_1 (List.mem_of_getElem? (i := 23) rfl)) rfl) al_n)))
theorem dL_law_702 : decode cL_law 702 = .ok (.goto 291, 3) := by decide +kernel
theorem dL_law_705 : decode cL_law 705 = .ok (.aload_n 1, 1) := by decide +kernel
theorem dL_law_706 : decode cL_law 706 = .ok (.aload_n 0, 1) := by decide +kernel
theorem dL_law_707 : decode cL_law 707 = .ok (.iload 4, 2) := by decide +kernel
theorem dL_law_709 : decode cL_law 709 = .ok (.iconst 1, 1) := by decide +kernel
theorem dL_law_710 : decode cL_law 710 = .ok (.iadd, 1) := by decide +kernel
theorem dL_law_711 : decode cL_law 711 = .ok (.iaload, 1) := by decide +kernel
theorem dL_law_712 : decode cL_law 712 = .ok (.aload_n 3, 1) := by decide +kernel
theorem dL_law_713 : decode cL_law 713 = .ok (.invokestatic 135, 3) := by decide +kernel
theorem tw_1177 : (.codeWith yL_put cL_put 4 (some .int) [(0, 9, 12, 39)] : Cond) ∈ tw_W := tw_in (t8_8 (List.mem_of_getElem? (i := 123) rfl)) rfl
theorem tw_1178 : ∀ w ∈ ([.methodLink RL 135 yL_put, .static yL_put, .initialized yL_put.cls] : List Cond), w ∈ tw_W := al_c (tw_in (t8_8 (List.mem_of_getElem? (i := 121) rfl)) rfl) (al_c (tw_in (t8_8 (List.mem_of_getElem? (i := 122) rfl)) rfl) (al_c (tw_in (t8_1 (List.mem_of_getElem? (i := 0) rfl)) rfl) al_n))
theorem dL_law_716 : decode cL_law 716 = .ok (.istore 5, 2) := by decide +kernel
theorem dL_law_718 : decode cL_law 718 = .ok (.aload_n 2, 1) := by decide +kernel
theorem dL_law_719 : decode cL_law 719 = .ok (.aload_n 0, 1) := by decide +kernel
theorem dL_law_720 : decode cL_law 720 = .ok (.iload 4, 2) := by decide +kernel
theorem dL_law_722 : decode cL_law 722 = .ok (.iconst 1, 1) := by decide +kernel
theorem dL_law_723 : decode cL_law 723 = .ok (.iadd, 1) := by decide +kernel
theorem dL_law_724 : decode cL_law 724 = .ok (.iaload, 1) := by decide +kernel
theorem dL_law_725 : decode cL_law 725 = .ok (.invokevirtual 137, 3) := by decide +kernel
theorem tw_1179 : (.code yX13_put cX13_put 2 (some .int) : Cond) ∈ tw_W := tw_in (t8_12 (List.mem_of_getElem? (i := 182) rfl)) rfl
theorem tw_1180 : ∀ w ∈ ([.methodLink RL 137 yX13_put, .instanceMethod yX13_put, .selects RX13 yX13_put yX13_put, .initialized RX13] : List Cond), w ∈ tw_W := al_c (tw_in (t8_12 (List.mem_of_getElem? (i := 179) rfl)) rfl) (al_c (tw_in (t8_12 (List.mem_of_getElem? (i := 180) rfl)) rfl) (al_c (tw_in (t8_12 (List.mem_of_getElem? (i := 181) rfl)) rfl) (al_c (tw_in (t8_1 (List.mem_of_getElem? (i := 23) rfl)) rfl) al_n)))
theorem dL_law_728 : decode cL_law 728 = .ok (.istore 6, 2) := by decide +kernel
theorem dL_law_730 : decode cL_law 730 = .ok (.goto 263, 3) := by decide +kernel
theorem dL_law_733 : decode cL_law 733 = .ok (.aload_n 1, 1) := by decide +kernel
theorem dL_law_734 : decode cL_law 734 = .ok (.aload_n 0, 1) := by decide +kernel
theorem dL_law_735 : decode cL_law 735 = .ok (.iload 4, 2) := by decide +kernel
theorem dL_law_737 : decode cL_law 737 = .ok (.iconst 1, 1) := by decide +kernel
theorem dL_law_738 : decode cL_law 738 = .ok (.iadd, 1) := by decide +kernel
theorem dL_law_739 : decode cL_law 739 = .ok (.iaload, 1) := by decide +kernel
theorem dL_law_740 : decode cL_law 740 = .ok (.invokevirtual 138, 3) := by decide +kernel
theorem tw_1181 : (.code yX11_show cX11_show 2 (some .int) : Cond) ∈ tw_W := tw_in (t8_6 (List.mem_of_getElem? (i := 151) rfl)) rfl
theorem tw_1182 : ∀ w ∈ ([.methodLink RL 138 yX11_show, .instanceMethod yX11_show, .selects RX11 yX11_show yX11_show, .initialized RX11] : List Cond), w ∈ tw_W := al_c (tw_in (t8_6 (List.mem_of_getElem? (i := 148) rfl)) rfl) (al_c (tw_in (t8_6 (List.mem_of_getElem? (i := 149) rfl)) rfl) (al_c (tw_in (t8_6 (List.mem_of_getElem? (i := 150) rfl)) rfl) (al_c (tw_in (t8_1 (List.mem_of_getElem? (i := 1) rfl)) rfl) al_n)))
theorem dL_law_743 : decode cL_law 743 = .ok (.pop, 1) := by decide +kernel
theorem dL_law_744 : decode cL_law 744 = .ok (.aload_n 2, 1) := by decide +kernel
theorem dL_law_745 : decode cL_law 745 = .ok (.aload_n 0, 1) := by decide +kernel
theorem dL_law_746 : decode cL_law 746 = .ok (.iload 4, 2) := by decide +kernel
theorem dL_law_748 : decode cL_law 748 = .ok (.iconst 1, 1) := by decide +kernel
theorem dL_law_749 : decode cL_law 749 = .ok (.iadd, 1) := by decide +kernel
theorem dL_law_750 : decode cL_law 750 = .ok (.iaload, 1) := by decide +kernel
theorem dL_law_751 : decode cL_law 751 = .ok (.invokevirtual 141, 3) := by decide +kernel
theorem tw_1183 : (.code yX13_show cX13_show 8 (some .int) : Cond) ∈ tw_W := tw_in (t8_12 (List.mem_of_getElem? (i := 186) rfl)) rfl
theorem tw_1184 : ∀ w ∈ ([.methodLink RL 141 yX13_show, .instanceMethod yX13_show, .selects RX13 yX13_show yX13_show, .initialized RX13] : List Cond), w ∈ tw_W := al_c (tw_in (t8_12 (List.mem_of_getElem? (i := 183) rfl)) rfl) (al_c (tw_in (t8_12 (List.mem_of_getElem? (i := 184) rfl)) rfl) (al_c (tw_in (t8_12 (List.mem_of_getElem? (i := 185) rfl)) rfl) (al_c (tw_in (t8_1 (List.mem_of_getElem? (i := 23) rfl)) rfl) al_n)))
theorem dL_law_754 : decode cL_law 754 = .ok (.pop, 1) := by decide +kernel
theorem dL_law_755 : decode cL_law 755 = .ok (.goto 238, 3) := by decide +kernel
theorem dL_law_758 : decode cL_law 758 = .ok (.aload_n 1, 1) := by decide +kernel
theorem dL_law_759 : decode cL_law 759 = .ok (.aload_n 0, 1) := by decide +kernel
theorem dL_law_760 : decode cL_law 760 = .ok (.iload 4, 2) := by decide +kernel
theorem dL_law_762 : decode cL_law 762 = .ok (.iconst 1, 1) := by decide +kernel
theorem dL_law_763 : decode cL_law 763 = .ok (.iadd, 1) := by decide +kernel
theorem dL_law_764 : decode cL_law 764 = .ok (.iaload, 1) := by decide +kernel
theorem dL_law_765 : decode cL_law 765 = .ok (.invokevirtual 142, 3) := by decide +kernel
theorem tw_1185 : (.code yX11_octet cX11_octet 2 (some .int) : Cond) ∈ tw_W := tw_in (t8_7 (List.mem_of_getElem? (i := 233) rfl)) rfl
theorem tw_1186 : ∀ w ∈ ([.methodLink RL 142 yX11_octet, .instanceMethod yX11_octet, .selects RX11 yX11_octet yX11_octet, .initialized RX11] : List Cond), w ∈ tw_W := al_c (tw_in (t8_7 (List.mem_of_getElem? (i := 230) rfl)) rfl) (al_c (tw_in (t8_7 (List.mem_of_getElem? (i := 231) rfl)) rfl) (al_c (tw_in (t8_7 (List.mem_of_getElem? (i := 232) rfl)) rfl) (al_c (tw_in (t8_1 (List.mem_of_getElem? (i := 1) rfl)) rfl) al_n)))
theorem dL_law_768 : decode cL_law 768 = .ok (.pop, 1) := by decide +kernel
theorem dL_law_769 : decode cL_law 769 = .ok (.aload_n 2, 1) := by decide +kernel
theorem dL_law_770 : decode cL_law 770 = .ok (.aload_n 0, 1) := by decide +kernel
theorem dL_law_771 : decode cL_law 771 = .ok (.iload 4, 2) := by decide +kernel
theorem dL_law_773 : decode cL_law 773 = .ok (.iconst 1, 1) := by decide +kernel
theorem dL_law_774 : decode cL_law 774 = .ok (.iadd, 1) := by decide +kernel
theorem dL_law_775 : decode cL_law 775 = .ok (.iaload, 1) := by decide +kernel
theorem dL_law_776 : decode cL_law 776 = .ok (.invokevirtual 145, 3) := by decide +kernel
theorem tw_1187 : (.code yX13_octet cX13_octet 2 (some .int) : Cond) ∈ tw_W := tw_in (t8_13 (List.mem_of_getElem? (i := 25) rfl)) rfl
theorem tw_1188 : ∀ w ∈ ([.methodLink RL 145 yX13_octet, .instanceMethod yX13_octet, .selects RX13 yX13_octet yX13_octet, .initialized RX13] : List Cond), w ∈ tw_W := al_c (tw_in (t8_13 (List.mem_of_getElem? (i := 22) rfl)) rfl) (al_c (tw_in (t8_13 (List.mem_of_getElem? (i := 23) rfl)) rfl) (al_c (tw_in (t8_13 (List.mem_of_getElem? (i := 24) rfl)) rfl) (al_c (tw_in (t8_1 (List.mem_of_getElem? (i := 23) rfl)) rfl) al_n)))
theorem dL_law_779 : decode cL_law 779 = .ok (.pop, 1) := by decide +kernel
theorem dL_law_780 : decode cL_law 780 = .ok (.goto 213, 3) := by decide +kernel
theorem dL_law_783 : decode cL_law 783 = .ok (.aload_n 1, 1) := by decide +kernel
theorem dL_law_784 : decode cL_law 784 = .ok (.aload_n 0, 1) := by decide +kernel
theorem dL_law_785 : decode cL_law 785 = .ok (.iload 4, 2) := by decide +kernel
theorem dL_law_787 : decode cL_law 787 = .ok (.iconst 1, 1) := by decide +kernel
theorem dL_law_788 : decode cL_law 788 = .ok (.iadd, 1) := by decide +kernel
theorem dL_law_789 : decode cL_law 789 = .ok (.iaload, 1) := by decide +kernel
theorem dL_law_790 : decode cL_law 790 = .ok (.aload_n 0, 1) := by decide +kernel
theorem dL_law_791 : decode cL_law 791 = .ok (.iload 4, 2) := by decide +kernel
theorem dL_law_793 : decode cL_law 793 = .ok (.iconst 2, 1) := by decide +kernel
theorem dL_law_794 : decode cL_law 794 = .ok (.iadd, 1) := by decide +kernel
theorem dL_law_795 : decode cL_law 795 = .ok (.iaload, 1) := by decide +kernel
theorem dL_law_796 : decode cL_law 796 = .ok (.aload_n 0, 1) := by decide +kernel
theorem dL_law_797 : decode cL_law 797 = .ok (.iload 4, 2) := by decide +kernel
theorem dL_law_799 : decode cL_law 799 = .ok (.iconst 3, 1) := by decide +kernel
theorem dL_law_800 : decode cL_law 800 = .ok (.iadd, 1) := by decide +kernel
theorem dL_law_801 : decode cL_law 801 = .ok (.iaload, 1) := by decide +kernel
theorem dL_law_802 : decode cL_law 802 = .ok (.aload_n 0, 1) := by decide +kernel
theorem dL_law_803 : decode cL_law 803 = .ok (.iload 4, 2) := by decide +kernel
theorem dL_law_805 : decode cL_law 805 = .ok (.iconst 4, 1) := by decide +kernel
theorem dL_law_806 : decode cL_law 806 = .ok (.iadd, 1) := by decide +kernel
theorem dL_law_807 : decode cL_law 807 = .ok (.iaload, 1) := by decide +kernel
theorem dL_law_808 : decode cL_law 808 = .ok (.aload_n 3, 1) := by decide +kernel
theorem dL_law_809 : decode cL_law 809 = .ok (.invokestatic 146, 3) := by decide +kernel
theorem tw_1189 : (.codeWith yL_work cL_work 7 (some .int) [(0, 14, 17, 39), (0, 14, 21, 18)] : Cond) ∈ tw_W := tw_in (t8_8 (List.mem_of_getElem? (i := 147) rfl)) rfl
theorem tw_1190 : ∀ w ∈ ([.methodLink RL 146 yL_work, .static yL_work, .initialized yL_work.cls] : List Cond), w ∈ tw_W := al_c (tw_in (t8_8 (List.mem_of_getElem? (i := 145) rfl)) rfl) (al_c (tw_in (t8_8 (List.mem_of_getElem? (i := 146) rfl)) rfl) (al_c (tw_in (t8_1 (List.mem_of_getElem? (i := 0) rfl)) rfl) al_n))
theorem dL_law_812 : decode cL_law 812 = .ok (.istore 5, 2) := by decide +kernel
theorem dL_law_814 : decode cL_law 814 = .ok (.aload_n 2, 1) := by decide +kernel
theorem dL_law_815 : decode cL_law 815 = .ok (.aload_n 0, 1) := by decide +kernel
theorem dL_law_816 : decode cL_law 816 = .ok (.iload 4, 2) := by decide +kernel
theorem dL_law_818 : decode cL_law 818 = .ok (.iconst 1, 1) := by decide +kernel
theorem dL_law_819 : decode cL_law 819 = .ok (.iadd, 1) := by decide +kernel
theorem dL_law_820 : decode cL_law 820 = .ok (.iaload, 1) := by decide +kernel
theorem dL_law_821 : decode cL_law 821 = .ok (.aload_n 0, 1) := by decide +kernel
theorem dL_law_822 : decode cL_law 822 = .ok (.iload 4, 2) := by decide +kernel
theorem dL_law_824 : decode cL_law 824 = .ok (.iconst 2, 1) := by decide +kernel
theorem dL_law_825 : decode cL_law 825 = .ok (.iadd, 1) := by decide +kernel
theorem dL_law_826 : decode cL_law 826 = .ok (.iaload, 1) := by decide +kernel
theorem dL_law_827 : decode cL_law 827 = .ok (.aload_n 0, 1) := by decide +kernel
theorem dL_law_828 : decode cL_law 828 = .ok (.iload 4, 2) := by decide +kernel
theorem dL_law_830 : decode cL_law 830 = .ok (.iconst 3, 1) := by decide +kernel
theorem dL_law_831 : decode cL_law 831 = .ok (.iadd, 1) := by decide +kernel
theorem dL_law_832 : decode cL_law 832 = .ok (.iaload, 1) := by decide +kernel
theorem dL_law_833 : decode cL_law 833 = .ok (.aload_n 0, 1) := by decide +kernel
theorem dL_law_834 : decode cL_law 834 = .ok (.iload 4, 2) := by decide +kernel
theorem dL_law_836 : decode cL_law 836 = .ok (.iconst 4, 1) := by decide +kernel
theorem dL_law_837 : decode cL_law 837 = .ok (.iadd, 1) := by decide +kernel
theorem dL_law_838 : decode cL_law 838 = .ok (.iaload, 1) := by decide +kernel
theorem dL_law_839 : decode cL_law 839 = .ok (.invokevirtual 149, 3) := by decide +kernel
theorem tw_1191 : (.code yX13_work cX13_work 6 (some .int) : Cond) ∈ tw_W := tw_in (t8_13 (List.mem_of_getElem? (i := 29) rfl)) rfl
theorem tw_1192 : ∀ w ∈ ([.methodLink RL 149 yX13_work, .instanceMethod yX13_work, .selects RX13 yX13_work yX13_work, .initialized RX13] : List Cond), w ∈ tw_W := al_c (tw_in (t8_13 (List.mem_of_getElem? (i := 26) rfl)) rfl) (al_c (tw_in (t8_13 (List.mem_of_getElem? (i := 27) rfl)) rfl) (al_c (tw_in (t8_13 (List.mem_of_getElem? (i := 28) rfl)) rfl) (al_c (tw_in (t8_1 (List.mem_of_getElem? (i := 23) rfl)) rfl) al_n)))
theorem dL_law_842 : decode cL_law 842 = .ok (.istore 6, 2) := by decide +kernel
theorem dL_law_844 : decode cL_law 844 = .ok (.goto 149, 3) := by decide +kernel
theorem dL_law_847 : decode cL_law 847 = .ok (.aload_n 1, 1) := by decide +kernel
theorem dL_law_848 : decode cL_law 848 = .ok (.aload_n 0, 1) := by decide +kernel
theorem dL_law_849 : decode cL_law 849 = .ok (.iload 4, 2) := by decide +kernel
theorem dL_law_851 : decode cL_law 851 = .ok (.iconst 1, 1) := by decide +kernel
theorem dL_law_852 : decode cL_law 852 = .ok (.iadd, 1) := by decide +kernel
theorem dL_law_853 : decode cL_law 853 = .ok (.iaload, 1) := by decide +kernel
theorem dL_law_854 : decode cL_law 854 = .ok (.invokevirtual 150, 3) := by decide +kernel
theorem tw_1193 : (.code yX11_told cX11_told 2 (some .int) : Cond) ∈ tw_W := tw_in (t8_8 (List.mem_of_getElem? (i := 11) rfl)) rfl
theorem tw_1194 : ∀ w ∈ ([.methodLink RL 150 yX11_told, .instanceMethod yX11_told, .selects RX11 yX11_told yX11_told, .initialized RX11] : List Cond), w ∈ tw_W := al_c (tw_in (t8_8 (List.mem_of_getElem? (i := 8) rfl)) rfl) (al_c (tw_in (t8_8 (List.mem_of_getElem? (i := 9) rfl)) rfl) (al_c (tw_in (t8_8 (List.mem_of_getElem? (i := 10) rfl)) rfl) (al_c (tw_in (t8_1 (List.mem_of_getElem? (i := 1) rfl)) rfl) al_n)))
theorem dL_law_857 : decode cL_law 857 = .ok (.pop, 1) := by decide +kernel
theorem dL_law_858 : decode cL_law 858 = .ok (.aload_n 2, 1) := by decide +kernel
theorem dL_law_859 : decode cL_law 859 = .ok (.aload_n 0, 1) := by decide +kernel
theorem dL_law_860 : decode cL_law 860 = .ok (.iload 4, 2) := by decide +kernel
theorem dL_law_862 : decode cL_law 862 = .ok (.iconst 1, 1) := by decide +kernel
theorem dL_law_863 : decode cL_law 863 = .ok (.iadd, 1) := by decide +kernel
theorem dL_law_864 : decode cL_law 864 = .ok (.iaload, 1) := by decide +kernel
theorem dL_law_865 : decode cL_law 865 = .ok (.invokevirtual 153, 3) := by decide +kernel
theorem tw_1195 : (.code yX13_told cX13_told 2 (some .int) : Cond) ∈ tw_W := tw_in (t8_13 (List.mem_of_getElem? (i := 68) rfl)) rfl
theorem tw_1196 : ∀ w ∈ ([.methodLink RL 153 yX13_told, .instanceMethod yX13_told, .selects RX13 yX13_told yX13_told, .initialized RX13] : List Cond), w ∈ tw_W := al_c (tw_in (t8_13 (List.mem_of_getElem? (i := 65) rfl)) rfl) (al_c (tw_in (t8_13 (List.mem_of_getElem? (i := 66) rfl)) rfl) (al_c (tw_in (t8_13 (List.mem_of_getElem? (i := 67) rfl)) rfl) (al_c (tw_in (t8_1 (List.mem_of_getElem? (i := 23) rfl)) rfl) al_n)))
theorem dL_law_868 : decode cL_law 868 = .ok (.pop, 1) := by decide +kernel
theorem dL_law_869 : decode cL_law 869 = .ok (.goto 124, 3) := by decide +kernel
theorem dL_law_872 : decode cL_law 872 = .ok (.aload_n 1, 1) := by decide +kernel
theorem dL_law_873 : decode cL_law 873 = .ok (.aload_n 0, 1) := by decide +kernel
theorem dL_law_874 : decode cL_law 874 = .ok (.iload 4, 2) := by decide +kernel
theorem dL_law_876 : decode cL_law 876 = .ok (.iconst 1, 1) := by decide +kernel
theorem dL_law_877 : decode cL_law 877 = .ok (.iadd, 1) := by decide +kernel
theorem dL_law_878 : decode cL_law 878 = .ok (.iaload, 1) := by decide +kernel
theorem dL_law_879 : decode cL_law 879 = .ok (.aload_n 3, 1) := by decide +kernel
theorem dL_law_880 : decode cL_law 880 = .ok (.invokestatic 154, 3) := by decide +kernel
theorem tw_1197 : (.codeWith yL_worked cL_worked 4 (some .int) [(0, 9, 12, 39)] : Cond) ∈ tw_W := tw_in (t8_9 (List.mem_of_getElem? (i := 9) rfl)) rfl
theorem tw_1198 : ∀ w ∈ ([.methodLink RL 154 yL_worked, .static yL_worked, .initialized yL_worked.cls] : List Cond), w ∈ tw_W := al_c (tw_in (t8_9 (List.mem_of_getElem? (i := 7) rfl)) rfl) (al_c (tw_in (t8_9 (List.mem_of_getElem? (i := 8) rfl)) rfl) (al_c (tw_in (t8_1 (List.mem_of_getElem? (i := 0) rfl)) rfl) al_n))
theorem dL_law_883 : decode cL_law 883 = .ok (.istore 5, 2) := by decide +kernel
theorem dL_law_885 : decode cL_law 885 = .ok (.aload_n 2, 1) := by decide +kernel
theorem dL_law_886 : decode cL_law 886 = .ok (.aload_n 0, 1) := by decide +kernel
theorem dL_law_887 : decode cL_law 887 = .ok (.iload 4, 2) := by decide +kernel
theorem dL_law_889 : decode cL_law 889 = .ok (.iconst 1, 1) := by decide +kernel
theorem dL_law_890 : decode cL_law 890 = .ok (.iadd, 1) := by decide +kernel
theorem dL_law_891 : decode cL_law 891 = .ok (.iaload, 1) := by decide +kernel
theorem dL_law_892 : decode cL_law 892 = .ok (.invokevirtual 156, 3) := by decide +kernel
theorem tw_1199 : (.code yX13_worked_ cX13_worked_ 2 (some .int) : Cond) ∈ tw_W := tw_in (t8_13 (List.mem_of_getElem? (i := 72) rfl)) rfl
theorem tw_1200 : ∀ w ∈ ([.methodLink RL 156 yX13_worked_, .instanceMethod yX13_worked_, .selects RX13 yX13_worked_ yX13_worked_, .initialized RX13] : List Cond), w ∈ tw_W := al_c (tw_in (t8_13 (List.mem_of_getElem? (i := 69) rfl)) rfl) (al_c (tw_in (t8_13 (List.mem_of_getElem? (i := 70) rfl)) rfl) (al_c (tw_in (t8_13 (List.mem_of_getElem? (i := 71) rfl)) rfl) (al_c (tw_in (t8_1 (List.mem_of_getElem? (i := 23) rfl)) rfl) al_n)))
theorem dL_law_895 : decode cL_law 895 = .ok (.istore 6, 2) := by decide +kernel
theorem dL_law_897 : decode cL_law 897 = .ok (.goto 96, 3) := by decide +kernel
theorem dL_law_900 : decode cL_law 900 = .ok (.aload_n 1, 1) := by decide +kernel
theorem dL_law_901 : decode cL_law 901 = .ok (.aload_n 0, 1) := by decide +kernel
theorem dL_law_902 : decode cL_law 902 = .ok (.iload 4, 2) := by decide +kernel
theorem dL_law_904 : decode cL_law 904 = .ok (.iconst 1, 1) := by decide +kernel
theorem dL_law_905 : decode cL_law 905 = .ok (.iadd, 1) := by decide +kernel
theorem dL_law_906 : decode cL_law 906 = .ok (.iaload, 1) := by decide +kernel
theorem dL_law_907 : decode cL_law 907 = .ok (.aload_n 0, 1) := by decide +kernel
theorem dL_law_908 : decode cL_law 908 = .ok (.iload 4, 2) := by decide +kernel
theorem dL_law_910 : decode cL_law 910 = .ok (.iconst 2, 1) := by decide +kernel
theorem dL_law_911 : decode cL_law 911 = .ok (.iadd, 1) := by decide +kernel
theorem dL_law_912 : decode cL_law 912 = .ok (.iaload, 1) := by decide +kernel
theorem dL_law_913 : decode cL_law 913 = .ok (.aload_n 3, 1) := by decide +kernel
theorem dL_law_914 : decode cL_law 914 = .ok (.invokestatic 157, 3) := by decide +kernel
theorem tw_1201 : (.codeWith yL_left cL_left 5 (some .int) [(0, 10, 13, 39)] : Cond) ∈ tw_W := tw_in (t8_9 (List.mem_of_getElem? (i := 16) rfl)) rfl
theorem tw_1202 : ∀ w ∈ ([.methodLink RL 157 yL_left, .static yL_left, .initialized yL_left.cls] : List Cond), w ∈ tw_W := al_c (tw_in (t8_9 (List.mem_of_getElem? (i := 14) rfl)) rfl) (al_c (tw_in (t8_9 (List.mem_of_getElem? (i := 15) rfl)) rfl) (al_c (tw_in (t8_1 (List.mem_of_getElem? (i := 0) rfl)) rfl) al_n))
theorem dL_law_917 : decode cL_law 917 = .ok (.istore 5, 2) := by decide +kernel
theorem dL_law_919 : decode cL_law 919 = .ok (.aload_n 2, 1) := by decide +kernel
theorem dL_law_920 : decode cL_law 920 = .ok (.aload_n 0, 1) := by decide +kernel
theorem dL_law_921 : decode cL_law 921 = .ok (.iload 4, 2) := by decide +kernel
theorem dL_law_923 : decode cL_law 923 = .ok (.iconst 1, 1) := by decide +kernel
theorem dL_law_924 : decode cL_law 924 = .ok (.iadd, 1) := by decide +kernel
theorem dL_law_925 : decode cL_law 925 = .ok (.iaload, 1) := by decide +kernel
theorem dL_law_926 : decode cL_law 926 = .ok (.aload_n 0, 1) := by decide +kernel
theorem dL_law_927 : decode cL_law 927 = .ok (.iload 4, 2) := by decide +kernel
theorem dL_law_929 : decode cL_law 929 = .ok (.iconst 2, 1) := by decide +kernel
theorem dL_law_930 : decode cL_law 930 = .ok (.iadd, 1) := by decide +kernel
theorem dL_law_931 : decode cL_law 931 = .ok (.iaload, 1) := by decide +kernel
theorem dL_law_932 : decode cL_law 932 = .ok (.invokevirtual 160, 3) := by decide +kernel
theorem tw_1203 : (.code yX13_left cX13_left 3 (some .int) : Cond) ∈ tw_W := tw_in (t8_13 (List.mem_of_getElem? (i := 76) rfl)) rfl
theorem tw_1204 : ∀ w ∈ ([.methodLink RL 160 yX13_left, .instanceMethod yX13_left, .selects RX13 yX13_left yX13_left, .initialized RX13] : List Cond), w ∈ tw_W := al_c (tw_in (t8_13 (List.mem_of_getElem? (i := 73) rfl)) rfl) (al_c (tw_in (t8_13 (List.mem_of_getElem? (i := 74) rfl)) rfl) (al_c (tw_in (t8_13 (List.mem_of_getElem? (i := 75) rfl)) rfl) (al_c (tw_in (t8_1 (List.mem_of_getElem? (i := 23) rfl)) rfl) al_n)))
theorem dL_law_935 : decode cL_law 935 = .ok (.istore 6, 2) := by decide +kernel
theorem dL_law_937 : decode cL_law 937 = .ok (.aload_n 2, 1) := by decide +kernel
theorem dL_law_938 : decode cL_law 938 = .ok (.invokevirtual 161, 3) := by decide +kernel
theorem tw_1205 : (.code yX13_thrown cX13_thrown 1 (some .int) : Cond) ∈ tw_W := tw_in (t8_9 (List.mem_of_getElem? (i := 27) rfl)) rfl
theorem tw_1206 : ∀ w ∈ ([.methodLink RL 161 yX13_thrown, .instanceMethod yX13_thrown, .selects RX13 yX13_thrown yX13_thrown, .initialized RX13] : List Cond), w ∈ tw_W := al_c (tw_in (t8_9 (List.mem_of_getElem? (i := 24) rfl)) rfl) (al_c (tw_in (t8_9 (List.mem_of_getElem? (i := 25) rfl)) rfl) (al_c (tw_in (t8_9 (List.mem_of_getElem? (i := 26) rfl)) rfl) (al_c (tw_in (t8_1 (List.mem_of_getElem? (i := 23) rfl)) rfl) al_n)))
theorem dL_law_941 : decode cL_law 941 = .ok (.iload 5, 2) := by decide +kernel
theorem dL_law_943 : decode cL_law 943 = .ok (.if_icmp .eq 5, 3) := by decide +kernel
theorem dL_law_948 : decode cL_law 948 = .ok (.iload 5, 2) := by decide +kernel
theorem dL_law_950 : decode cL_law 950 = .ok (.ifCond .ne 15, 3) := by decide +kernel
theorem dL_law_965 : decode cL_law 965 = .ok (.goto 28, 3) := by decide +kernel
theorem dL_law_953 : decode cL_law 953 = .ok (.aload_n 3, 1) := by decide +kernel
theorem dL_law_954 : decode cL_law 954 = .ok (.iconst 0, 1) := by decide +kernel
theorem dL_law_955 : decode cL_law 955 = .ok (.laload, 1) := by decide +kernel
theorem dL_law_956 : decode cL_law 956 = .ok (.iload 6, 2) := by decide +kernel
theorem dL_law_958 : decode cL_law 958 = .ok (.i2l, 1) := by decide +kernel
theorem dL_law_959 : decode cL_law 959 = .ok (.lcmp, 1) := by decide +kernel
theorem dL_law_960 : decode cL_law 960 = .ok (.ifCond .eq 5, 3) := by decide +kernel
theorem dL_law_968 : decode cL_law 968 = .ok (.aload_n 1, 1) := by decide +kernel
theorem dL_law_969 : decode cL_law 969 = .ok (.aload_n 0, 1) := by decide +kernel
theorem dL_law_970 : decode cL_law 970 = .ok (.iload 4, 2) := by decide +kernel
theorem dL_law_972 : decode cL_law 972 = .ok (.iconst 1, 1) := by decide +kernel
theorem dL_law_973 : decode cL_law 973 = .ok (.iadd, 1) := by decide +kernel
theorem dL_law_974 : decode cL_law 974 = .ok (.iaload, 1) := by decide +kernel
theorem dL_law_975 : decode cL_law 975 = .ok (.invokevirtual 164, 3) := by decide +kernel
theorem tw_1207 : (.code yX11_count cX11_count 2 (some .int) : Cond) ∈ tw_W := tw_in (t8_8 (List.mem_of_getElem? (i := 19) rfl)) rfl
theorem tw_1208 : ∀ w ∈ ([.methodLink RL 164 yX11_count, .instanceMethod yX11_count, .selects RX11 yX11_count yX11_count, .initialized RX11] : List Cond), w ∈ tw_W := al_c (tw_in (t8_8 (List.mem_of_getElem? (i := 16) rfl)) rfl) (al_c (tw_in (t8_8 (List.mem_of_getElem? (i := 17) rfl)) rfl) (al_c (tw_in (t8_8 (List.mem_of_getElem? (i := 18) rfl)) rfl) (al_c (tw_in (t8_1 (List.mem_of_getElem? (i := 1) rfl)) rfl) al_n)))
theorem dL_law_978 : decode cL_law 978 = .ok (.pop, 1) := by decide +kernel
theorem dL_law_979 : decode cL_law 979 = .ok (.aload_n 2, 1) := by decide +kernel
theorem dL_law_980 : decode cL_law 980 = .ok (.aload_n 0, 1) := by decide +kernel
theorem dL_law_981 : decode cL_law 981 = .ok (.iload 4, 2) := by decide +kernel
theorem dL_law_983 : decode cL_law 983 = .ok (.iconst 1, 1) := by decide +kernel
theorem dL_law_984 : decode cL_law 984 = .ok (.iadd, 1) := by decide +kernel
theorem dL_law_985 : decode cL_law 985 = .ok (.iaload, 1) := by decide +kernel
theorem dL_law_986 : decode cL_law 986 = .ok (.invokevirtual 167, 3) := by decide +kernel
theorem tw_1209 : (.code yX13_count cX13_count 2 (some .int) : Cond) ∈ tw_W := tw_in (t8_13 (List.mem_of_getElem? (i := 80) rfl)) rfl
theorem tw_1210 : ∀ w ∈ ([.methodLink RL 167 yX13_count, .instanceMethod yX13_count, .selects RX13 yX13_count yX13_count, .initialized RX13] : List Cond), w ∈ tw_W := al_c (tw_in (t8_13 (List.mem_of_getElem? (i := 77) rfl)) rfl) (al_c (tw_in (t8_13 (List.mem_of_getElem? (i := 78) rfl)) rfl) (al_c (tw_in (t8_13 (List.mem_of_getElem? (i := 79) rfl)) rfl) (al_c (tw_in (t8_1 (List.mem_of_getElem? (i := 23) rfl)) rfl) al_n)))
theorem dL_law_989 : decode cL_law 989 = .ok (.pop, 1) := by decide +kernel
theorem dL_law_990 : decode cL_law 990 = .ok (.goto 3, 3) := by decide +kernel
section LWB
variable {p : Program} {l : Launch} {e : Env} {R : Room} {s : State} {m : MethodId} {args : Array Value} {below : List Frame} {meth : Method} {c : Code} {H H0 : Heap} {locs : List Loc} {cells slots : Nat} {Q : State → Prop}
variable {cc bytes : ByteArray} {pc nL maxL mc ms n index ci b k0 : Nat} {ls : Array Slot} {rest st0 As fs : List Value} {D : va_G} {A : Nat → Prop} {tys : List (ClassId × FieldType)} {ws Wc A0 Z : va_W} {own C : String} {y : MethodName} {ret : Option FieldType} {rm : Room} {q : vw_C} {S : Type} {tb : Nat → Nat}
theorem rn_VkW {hh : List (Nat × Nat × Nat × Nat)} {Qc : Array Value → State → Outcome → State → Prop} (hx : p.tables.exec = Jvm.exec) (hb : c.code = cc) (hml : c.maxLocals = nL) (hown : s.vm.findClass own = some m.cls) (ht : ∀ w ∈ tw_W, w.before args s = true) (hK : kk_ D tys tb s) (hF : fx_ tb A s s.heap) (hP : va_P D vwCl ws H) (hD : va_D A ws) (hS : va_S A s.heap H locs) (hA : ∀ q, s.heap.size ≤ q → A q)
    (hM : Met l y (Cond.codeWith y bytes maxL ret hh :: tw_W) rm (pc_ D tys tb Wc H.size (.ref b :: As)) Qc mc ms (va_A Wc H.size)) (hcw : Cond.codeWith y bytes maxL ret hh ∈ tw_W) (hws : ∀ w ∈ ([.methodLink own index y, .instanceMethod y, .selects C y y, .initialized C] : List Cond), w ∈ tw_W)
    (hd : y.cls = C ∧ y.cls ≠ "java/lang/invoke/MethodHandle" ∧ y.cls ≠ "java/lang/invoke/VarHandle" ∧ (parseMethodDescriptor y.desc).map (fun d => d.parameters.length) = some n) (hrc : rm.cells = mc) (hrs : rm.slots = ms) (hR : rm.frames + 1 ≤ R.frames ∧ 8 + (maxL + 11) + rm.locals ≤ R.locals)
    (isC : List Nat) (hC : isC.map (fun i => ws[i]?) = Wc.map some) (hnC : va_nd isC = true) (k0 : Nat) (hrecv : Wc[k0]? = some (b, .inr (ci, fs))) (hc : vwCl[ci]? = some q) (hq : q.1 = C)
    (hnA : As.length = n) (hls : ls.size = nL) (hst : st0 = As.reverse ++ .ref b :: rest) (hW : (rest.map fun v => v.category).sum ≤ 8) (hdg : decode cc pc = .ok (.invokevirtual index, 3)) (hf : cells + mc ≤ R.cells ∧ slots + ms ≤ R.slots) :
    va_Run p l e R s m args below meth c H locs cells slots mc ms (F0 m pc ls st0) rest (Qc (Value.ref b :: As).toArray) (va_A Wc H.size) := by
  subst hq
  exact vx_runVW ⟨hx, hb, hml, hown, ht⟩ hM (vx_cwVW n ht (tw_V hcw hws) rfl hrc hrs hd hR) ⟨pc_blind, va_recv hK.1 (hP.sub isC (is_fm hC)) hc hrecv, pc_at hK hF hP hD hS hA hnC hC⟩ rfl hnA hls hst (lv_room hW) hdg hf
theorem cD_i {post : Int32 → S → Prop} {Wf : S → va_W} {a : Array Value} (hr : va_Run p l e R s m args below meth c H locs cells slots mc ms (F0 m pc ls st0) rest (qi_ D A0 H.size post Wf a) (va_A A0 H.size)) (hP : va_P D vwCl (A0 ++ Z) H) (hD : va_D A (A0 ++ Z)) (hS : va_S A H0 H locs) (hA : ∀ q, H0.size ≤ q → A q)
    (kk : ∀ (r : Int32) (u : S) (H1 : Heap) (locs1 : List Loc), post r u → va_P D vwCl (Wf u ++ Z) H1 → va_D A (Wf u ++ Z) → va_S A H0 H1 locs1 → W p l e R s m args below meth c H1 locs1 (cells + mc) (slots + ms) Q (F0 m (pc + 3) ls (.int r :: rest))) : W p l e R s m args below meth c H locs cells slots Q (F0 m pc ls st0) :=
  ca_i (wr := Z) hr hP hD hS hA (isC := List.range A0.length) (isR := (List.range Z.length).map (fun i => i + A0.length)) (ixA_map A0 Z) (ixB_map A0 Z) (ixB_nd _ _) (ixB_dis _ _) (fun r u H1 locs1 hp h1 h2 h3 => kk r u H1 locs1 hp (h1.perm List.perm_append_comm) (h2.perm List.perm_append_comm) h3)
end LWB
theorem lg_cmp_self (x : Int64) : lg_cmp x x = 0 := by
  unfold lg_cmp
  rw [if_neg Int64.lt_irrefl, if_pos rfl]
theorem MIW.mono {N : Nat} {B B' : Int} {m0 : Nat} {cI cZ cJ : ClassId} {tz gz : Int} {xz : ZG} {U : va_W} (h : MIW N B m0 cI cZ cJ tz gz xz U) (hb : B ≤ B') : MIW N B' m0 cI cZ cJ tz gz xz U := by
  obtain ⟨ad, v, h1, h2, ⟨c1, c2, c3, c4, c5, c6⟩, h4⟩ := h
  exact ⟨ad, v, h1, h2, ⟨c1, c2, c3, ⟨c4.1, Int.le_trans c4.2 hb⟩, ⟨c5.1, Int.le_trans c5.2 hb⟩, c6⟩, h4⟩
set_option maxHeartbeats 4000000 in
set_option maxRecDepth 100000 in
theorem lawc_0 {p : Program} {e : Env} {s : State} {m : MethodId} {below : List Frame} {meth : Method} {c : Code} (l : Launch) (hst : l.stackTraces = false) {b L : Nat} {xs : Nat → Int32} {Q : State → Prop} (hx : p.tables.exec = Jvm.exec) (hb : c.code = cL_law) (hml : c.maxLocals = 7) (hown : s.vm.findClass RL = some m.cls) (ht : ∀ w ∈ tw_W, w.before #[Value.ref b] s = true) (hX : va_X b L xs s s.heap) (hbl : b < s.heap.size) {dC : Nat → ClassId} {dI : Nat → Nat → Nat} {cI cB cZ cJ cR : ClassId} {tb : Nat → Nat} {A : Nat → Prop} (hbA : ¬ A b) (hKK : kk_ (dC, dI) (tyS cI cB cZ cJ cR) tb s) (hFx : fx_ tb A s s.heap) (hA : ∀ q, s.heap.size ≤ q → A q) {N : Nat} (hN1 : 256 ≤ N) (hN2 : N ≤ 4096) {B : Int} (hB0 : 0 ≤ B) (hB : B + 50000 ≤ 200000000) {x0 m0 o0 : Nat} {U V : va_W} {g : Nat → Int64} {tz gz : Int} {xz : ZG} (hU : KI N B x0 cI cB cR tz gz xz U) (hV : MIW N B m0 cI cZ cJ tz gz xz V) (hJ : GJz N xz.dt xz.cs xz.ms) {H : Heap} {locs : List Loc} {ls : Array Slot} {cells slots : Nat} (hce : cells + 13 ≤ 601024) (hsl : slots + 338 ≤ 7292999) {iN : Nat} (hi : iN + 6 ≤ L) (hL : L ≤ 3073) (hP : va_P (dC, dI) vwCl ((o0, .inl (cJ, 1, .inr (.inl g))) :: (U ++ V)) H) (hD : va_D A ((o0, .inl (cJ, 1, .inr (.inl g))) :: (U ++ V))) (hS : va_S A s.heap H locs) (hl : lv_has ls 7 [(0, .ref b), (1, .ref x0), (2, .ref m0), (3, .ref o0), (4, .int (nI iN))])
    (key : ∀ (t9 z9 : Int) (x9 : ZG) (g9 : Nat → Int64) (U9 V9 : va_W) (H : Heap) (locs : List Loc) (ls : Array Slot), KI N (B + 50000) x0 cI cB cR t9 z9 x9 U9 → MIW N (B + 50000) m0 cI cZ cJ t9 z9 x9 V9 → GJz N x9.dt x9.cs x9.ms → va_P (dC, dI) vwCl ((o0, .inl (cJ, 1, .inr (.inl g9))) :: (U9 ++ V9)) H → va_D A ((o0, .inl (cJ, 1, .inr (.inl g9))) :: (U9 ++ V9)) → va_S A s.heap H locs → lv_has ls 7 [(0, .ref b), (1, .ref x0), (2, .ref m0), (3, .ref o0), (4, .int (nI iN))] → W p l e room_1 s m #[Value.ref b] below meth c H locs (cells + 13) (slots + 338) Q (F0 m 993 ls [])) : W p l e room_1 s m #[Value.ref b] below meth c H locs cells slots Q (F0 m 168 ls []) := by
  have hK := hKK.1
  refine lv_aload_n hx hb dL_law_168 rfl (lv_at hl 1 rfl) ?_
  refine lv_aload_n hx hb dL_law_169 rfl (lv_at hl 0 rfl) ?_
  refine lv_iload hx hb dL_law_170 (lv_at hl 4 rfl) ?_
  refine lv_iconst (v := 1) hx hb dL_law_172 (by decide) ?_
  refine lv_iadd hx hb dL_law_173 ?_
  refine tp_i (y := nI (iN + 1)) (nI_add iN 1) ?_
  refine va_sld hx hb hX hbl hbA hS (i := nI (iN + 1)) (vp_in_nI (by omega) (by omega)) dL_law_174 ?_
  refine lv_aload_n hx hb dL_law_175 rfl (lv_at hl 0 rfl) ?_
  refine lv_iload hx hb dL_law_176 (lv_at hl 4 rfl) ?_
  refine lv_iconst (v := 2) hx hb dL_law_178 (by decide) ?_
  refine lv_iadd hx hb dL_law_179 ?_
  refine tp_i (y := nI (iN + 2)) (nI_add iN 2) ?_
  refine va_sld hx hb hX hbl hbA hS (i := nI (iN + 2)) (vp_in_nI (by omega) (by omega)) dL_law_180 ?_
  refine lv_aload_n hx hb dL_law_181 rfl (lv_at hl 0 rfl) ?_
  refine lv_iload hx hb dL_law_182 (lv_at hl 4 rfl) ?_
  refine lv_iconst (v := 3) hx hb dL_law_184 (by decide) ?_
  refine lv_iadd hx hb dL_law_185 ?_
  refine tp_i (y := nI (iN + 3)) (nI_add iN 3) ?_
  refine va_sld hx hb hX hbl hbA hS (i := nI (iN + 3)) (vp_in_nI (by omega) (by omega)) dL_law_186 ?_
  refine lv_aload_n hx hb dL_law_187 rfl (lv_at hl 0 rfl) ?_
  refine lv_iload hx hb dL_law_188 (lv_at hl 4 rfl) ?_
  refine lv_iconst (v := 4) hx hb dL_law_190 (by decide) ?_
  refine lv_iadd hx hb dL_law_191 ?_
  refine tp_i (y := nI (iN + 4)) (nI_add iN 4) ?_
  refine va_sld hx hb hX hbl hbA hS (i := nI (iN + 4)) (vp_in_nI (by omega) (by omega)) dL_law_192 ?_
  refine lv_aload_n hx hb dL_law_193 rfl (lv_at hl 0 rfl) ?_
  refine lv_iload hx hb dL_law_194 (lv_at hl 4 rfl) ?_
  refine lv_iconst (v := 5) hx hb dL_law_196 (by decide) ?_
  refine lv_iadd hx hb dL_law_197 ?_
  refine tp_i (y := nI (iN + 5)) (nI_add iN 5) ?_
  refine va_sld hx hb hX hbl hbA hS (i := nI (iN + 5)) (vp_in_nI (by omega) (by omega)) dL_law_198 ?_
  obtain ⟨kr1, fs1, hrc1⟩ := KI.recv hU
  refine cA_i (rn_Vk (n := 5) (As := [.int (xs (nI (iN + 1)).toNatClampNeg), .int (xs (nI (iN + 2)).toNatClampNeg), .int (xs (nI (iN + 3)).toNatClampNeg), .int (xs (nI (iN + 4)).toNatClampNeg), .int (xs (nI (iN + 5)).toNatClampNeg)]) (rest := []) hx hb hml hown ht hKK hFx hP hD hS hA (kl_feed l dC dI cI cB cZ cJ cR tb hst H.size x0 N B U hN2 hB tz gz xz hU (xs (nI (iN + 1)).toNatClampNeg) (xs (nI (iN + 2)).toNatClampNeg) (xs (nI (iN + 3)).toNatClampNeg) (xs (nI (iN + 4)).toNatClampNeg) (xs (nI (iN + 5)).toNatClampNeg)) tw_1105 tw_1106 (by decide +kernel) rfl rfl ⟨Nat.le_of_ble_eq_true rfl, Nat.le_of_ble_eq_true rfl⟩ (ixC U.length) (ixC_map _ _ _) (ixC_nd _) kr1 hrc1 rfl rfl rfl hl.1 rfl (Nat.le_of_ble_eq_true rfl) dL_law_199 ⟨by show _ ≤ 601024; omega, by show _ ≤ 7292999; omega⟩) hP hD hS hA (fun r1 u1 H locs hw1 hP hD hS => ?_)
  obtain ⟨t1, z1, hU1, hr1⟩ := hw1
  have hP : va_P (dC, dI) vwCl ((o0, .inl (cJ, 1, .inr (.inl g))) :: (u1 ++ V)) H := hP
  have hD : va_D A ((o0, .inl (cJ, 1, .inr (.inl g))) :: (u1 ++ V)) := hD
  refine W.widen (k := cells + 0) (n := slots + 0) (by omega) (by omega) ?_
  refine lv_pop hx hb dL_law_202 rfl ?_
  refine lv_aload_n hx hb dL_law_203 rfl (lv_at hl 2 rfl) ?_
  refine lv_aload_n hx hb dL_law_204 rfl (lv_at hl 0 rfl) ?_
  refine lv_iload hx hb dL_law_205 (lv_at hl 4 rfl) ?_
  refine lv_iconst (v := 1) hx hb dL_law_207 (by decide) ?_
  refine lv_iadd hx hb dL_law_208 ?_
  refine tp_i (y := nI (iN + 1)) (nI_add iN 1) ?_
  refine va_sld hx hb hX hbl hbA hS (i := nI (iN + 1)) (vp_in_nI (by omega) (by omega)) dL_law_209 ?_
  refine lv_aload_n hx hb dL_law_210 rfl (lv_at hl 0 rfl) ?_
  refine lv_iload hx hb dL_law_211 (lv_at hl 4 rfl) ?_
  refine lv_iconst (v := 2) hx hb dL_law_213 (by decide) ?_
  refine lv_iadd hx hb dL_law_214 ?_
  refine tp_i (y := nI (iN + 2)) (nI_add iN 2) ?_
  refine va_sld hx hb hX hbl hbA hS (i := nI (iN + 2)) (vp_in_nI (by omega) (by omega)) dL_law_215 ?_
  refine lv_aload_n hx hb dL_law_216 rfl (lv_at hl 0 rfl) ?_
  refine lv_iload hx hb dL_law_217 (lv_at hl 4 rfl) ?_
  refine lv_iconst (v := 3) hx hb dL_law_219 (by decide) ?_
  refine lv_iadd hx hb dL_law_220 ?_
  refine tp_i (y := nI (iN + 3)) (nI_add iN 3) ?_
  refine va_sld hx hb hX hbl hbA hS (i := nI (iN + 3)) (vp_in_nI (by omega) (by omega)) dL_law_221 ?_
  refine lv_aload_n hx hb dL_law_222 rfl (lv_at hl 0 rfl) ?_
  refine lv_iload hx hb dL_law_223 (lv_at hl 4 rfl) ?_
  refine lv_iconst (v := 4) hx hb dL_law_225 (by decide) ?_
  refine lv_iadd hx hb dL_law_226 ?_
  refine tp_i (y := nI (iN + 4)) (nI_add iN 4) ?_
  refine va_sld hx hb hX hbl hbA hS (i := nI (iN + 4)) (vp_in_nI (by omega) (by omega)) dL_law_227 ?_
  refine lv_aload_n hx hb dL_law_228 rfl (lv_at hl 0 rfl) ?_
  refine lv_iload hx hb dL_law_229 (lv_at hl 4 rfl) ?_
  refine lv_iconst (v := 5) hx hb dL_law_231 (by decide) ?_
  refine lv_iadd hx hb dL_law_232 ?_
  refine tp_i (y := nI (iN + 5)) (nI_add iN 5) ?_
  refine va_sld hx hb hX hbl hbA hS (i := nI (iN + 5)) (vp_in_nI (by omega) (by omega)) dL_law_233 ?_
  obtain ⟨kr2, fs2, hrc2⟩ := MIW.recv hV
  have hP := va_P.perm hP (List.Perm.cons _ List.perm_append_comm)
  have hD := va_D.perm hD (List.Perm.cons _ List.perm_append_comm)
  refine cA_i (rn_Vk (n := 5) (As := [.int (xs (nI (iN + 1)).toNatClampNeg), .int (xs (nI (iN + 2)).toNatClampNeg), .int (xs (nI (iN + 3)).toNatClampNeg), .int (xs (nI (iN + 4)).toNatClampNeg), .int (xs (nI (iN + 5)).toNatClampNeg)]) (rest := []) hx hb hml hown ht hKK hFx hP hD hS hA (rl_feed l dC dI cI cB cZ cJ cR tb H.size m0 N B V hN1 hN2 hB0 hB tz gz xz hV (xs (nI (iN + 1)).toNatClampNeg) (xs (nI (iN + 2)).toNatClampNeg) (xs (nI (iN + 3)).toNatClampNeg) (xs (nI (iN + 4)).toNatClampNeg) (xs (nI (iN + 5)).toNatClampNeg)) tw_1107 tw_1108 (by decide +kernel) rfl rfl ⟨Nat.le_of_ble_eq_true rfl, Nat.le_of_ble_eq_true rfl⟩ (ixC V.length) (ixC_map _ _ _) (ixC_nd _) kr2 hrc2 rfl rfl rfl hl.1 rfl (Nat.le_of_ble_eq_true rfl) dL_law_234 ⟨by show _ ≤ 601024; omega, by show _ ≤ 7292999; omega⟩) hP hD hS hA (fun r2 u2 H locs hw2 hP hD hS => ?_)
  have hP := va_P.perm hP (List.Perm.cons _ List.perm_append_comm)
  have hD := va_D.perm hD (List.Perm.cons _ List.perm_append_comm)
  obtain ⟨t2, z2, hV2, hr2⟩ := hw2
  rw [show t2 = t1 by omega, show z2 = z1 by omega] at hV2
  have hP : va_P (dC, dI) vwCl ((o0, .inl (cJ, 1, .inr (.inl g))) :: (u1 ++ u2)) H := hP
  have hD : va_D A ((o0, .inl (cJ, 1, .inr (.inl g))) :: (u1 ++ u2)) := hD
  refine W.widen (k := cells + 0) (n := slots + 0) (by omega) (by omega) ?_
  refine lv_pop hx hb dL_law_237 rfl ?_
  refine lv_goto (tgt := 993) hx hb dL_law_238 (by decide) ?_
  refine W.widen (k := cells + 13) (n := slots + 338) (by omega) (by omega) ?_
  exact key t1 z1 (xz.fd tz (xs (nI (iN + 1)).toNatClampNeg) (xs (nI (iN + 2)).toNatClampNeg) (xs (nI (iN + 3)).toNatClampNeg) (xs (nI (iN + 4)).toNatClampNeg) (xs (nI (iN + 5)).toNatClampNeg)) g u1 u2 H locs ls hU1 hV2 hJ hP hD hS (lv_sub hl [0, 1, 2, 3, 4] rfl)
set_option maxHeartbeats 4000000 in
set_option maxRecDepth 100000 in
theorem lawc_1 {p : Program} {e : Env} {s : State} {m : MethodId} {below : List Frame} {meth : Method} {c : Code} (l : Launch) (hst : l.stackTraces = false) {b L : Nat} {xs : Nat → Int32} {Q : State → Prop} (hx : p.tables.exec = Jvm.exec) (hb : c.code = cL_law) (hml : c.maxLocals = 7) (hown : s.vm.findClass RL = some m.cls) (ht : ∀ w ∈ tw_W, w.before #[Value.ref b] s = true) (hX : va_X b L xs s s.heap) (hbl : b < s.heap.size) {dC : Nat → ClassId} {dI : Nat → Nat → Nat} {cI cB cZ cJ cR : ClassId} {tb : Nat → Nat} {A : Nat → Prop} (hbA : ¬ A b) (hKK : kk_ (dC, dI) (tyS cI cB cZ cJ cR) tb s) (hFx : fx_ tb A s s.heap) (hA : ∀ q, s.heap.size ≤ q → A q) {N : Nat} (hN1 : 256 ≤ N) (hN2 : N ≤ 4096) {B : Int} (hB0 : 0 ≤ B) (hB : B + 50000 ≤ 200000000) {x0 m0 o0 : Nat} {U V : va_W} {g : Nat → Int64} {tz gz : Int} {xz : ZG} (hU : KI N B x0 cI cB cR tz gz xz U) (hV : MIW N B m0 cI cZ cJ tz gz xz V) (hJ : GJz N xz.dt xz.cs xz.ms) {H : Heap} {locs : List Loc} {ls : Array Slot} {cells slots : Nat} (hce : cells + 13 ≤ 601024) (hsl : slots + 338 ≤ 7292999) {iN : Nat} (hi : iN + 6 ≤ L) (hL : L ≤ 3073) (hP : va_P (dC, dI) vwCl ((o0, .inl (cJ, 1, .inr (.inl g))) :: (U ++ V)) H) (hD : va_D A ((o0, .inl (cJ, 1, .inr (.inl g))) :: (U ++ V))) (hS : va_S A s.heap H locs) (hl : lv_has ls 7 [(0, .ref b), (1, .ref x0), (2, .ref m0), (3, .ref o0), (4, .int (nI iN))])
    (key : ∀ (t9 z9 : Int) (x9 : ZG) (g9 : Nat → Int64) (U9 V9 : va_W) (H : Heap) (locs : List Loc) (ls : Array Slot), KI N (B + 50000) x0 cI cB cR t9 z9 x9 U9 → MIW N (B + 50000) m0 cI cZ cJ t9 z9 x9 V9 → GJz N x9.dt x9.cs x9.ms → va_P (dC, dI) vwCl ((o0, .inl (cJ, 1, .inr (.inl g9))) :: (U9 ++ V9)) H → va_D A ((o0, .inl (cJ, 1, .inr (.inl g9))) :: (U9 ++ V9)) → va_S A s.heap H locs → lv_has ls 7 [(0, .ref b), (1, .ref x0), (2, .ref m0), (3, .ref o0), (4, .int (nI iN))] → W p l e room_1 s m #[Value.ref b] below meth c H locs (cells + 13) (slots + 338) Q (F0 m 993 ls [])) : W p l e room_1 s m #[Value.ref b] below meth c H locs cells slots Q (F0 m 241 ls []) := by
  have hK := hKK.1
  refine lv_aload_n hx hb dL_law_241 rfl (lv_at hl 1 rfl) ?_
  refine lv_aload_n hx hb dL_law_242 rfl (lv_at hl 0 rfl) ?_
  refine lv_iload hx hb dL_law_243 (lv_at hl 4 rfl) ?_
  refine lv_iconst (v := 1) hx hb dL_law_245 (by decide) ?_
  refine lv_iadd hx hb dL_law_246 ?_
  refine tp_i (y := nI (iN + 1)) (nI_add iN 1) ?_
  refine va_sld hx hb hX hbl hbA hS (i := nI (iN + 1)) (vp_in_nI (by omega) (by omega)) dL_law_247 ?_
  obtain ⟨kr1, fs1, hrc1⟩ := KI.recv hU
  refine cA_i (rn_Vk (n := 1) (As := [.int (xs (nI (iN + 1)).toNatClampNeg)]) (rest := []) hx hb hml hown ht hKK hFx hP hD hS hA (kl_end l dC dI cI cB cZ cJ cR tb hst H.size x0 N B U hN2 hB tz gz xz hU (xs (nI (iN + 1)).toNatClampNeg)) tw_1109 tw_1110 (by decide +kernel) rfl rfl ⟨Nat.le_of_ble_eq_true rfl, Nat.le_of_ble_eq_true rfl⟩ (ixC U.length) (ixC_map _ _ _) (ixC_nd _) kr1 hrc1 rfl rfl rfl hl.1 rfl (Nat.le_of_ble_eq_true rfl) dL_law_248 ⟨by show _ ≤ 601024; omega, by show _ ≤ 7292999; omega⟩) hP hD hS hA (fun r1 u1 H locs hw1 hP hD hS => ?_)
  obtain ⟨t1, z1, hU1, hr1⟩ := hw1
  have hP : va_P (dC, dI) vwCl ((o0, .inl (cJ, 1, .inr (.inl g))) :: (u1 ++ V)) H := hP
  have hD : va_D A ((o0, .inl (cJ, 1, .inr (.inl g))) :: (u1 ++ V)) := hD
  refine W.widen (k := cells + 0) (n := slots + 0) (by omega) (by omega) ?_
  refine lv_pop hx hb dL_law_251 rfl ?_
  refine lv_aload_n hx hb dL_law_252 rfl (lv_at hl 2 rfl) ?_
  refine lv_aload_n hx hb dL_law_253 rfl (lv_at hl 0 rfl) ?_
  refine lv_iload hx hb dL_law_254 (lv_at hl 4 rfl) ?_
  refine lv_iconst (v := 1) hx hb dL_law_256 (by decide) ?_
  refine lv_iadd hx hb dL_law_257 ?_
  refine tp_i (y := nI (iN + 1)) (nI_add iN 1) ?_
  refine va_sld hx hb hX hbl hbA hS (i := nI (iN + 1)) (vp_in_nI (by omega) (by omega)) dL_law_258 ?_
  obtain ⟨kr2, fs2, hrc2⟩ := MIW.recv hV
  have hP := va_P.perm hP (List.Perm.cons _ List.perm_append_comm)
  have hD := va_D.perm hD (List.Perm.cons _ List.perm_append_comm)
  refine cA_i (rn_Vk (n := 1) (As := [.int (xs (nI (iN + 1)).toNatClampNeg)]) (rest := []) hx hb hml hown ht hKK hFx hP hD hS hA (rl_end l dC dI cI cB cZ cJ cR tb H.size m0 N B V hN1 hN2 hB0 hB tz gz xz hV (xs (nI (iN + 1)).toNatClampNeg)) tw_1111 tw_1112 (by decide +kernel) rfl rfl ⟨Nat.le_of_ble_eq_true rfl, Nat.le_of_ble_eq_true rfl⟩ (ixC V.length) (ixC_map _ _ _) (ixC_nd _) kr2 hrc2 rfl rfl rfl hl.1 rfl (Nat.le_of_ble_eq_true rfl) dL_law_259 ⟨by show _ ≤ 601024; omega, by show _ ≤ 7292999; omega⟩) hP hD hS hA (fun r2 u2 H locs hw2 hP hD hS => ?_)
  have hP := va_P.perm hP (List.Perm.cons _ List.perm_append_comm)
  have hD := va_D.perm hD (List.Perm.cons _ List.perm_append_comm)
  obtain ⟨t2, z2, hV2, hr2⟩ := hw2
  rw [show t2 = t1 by omega, show z2 = z1 by omega] at hV2
  have hP : va_P (dC, dI) vwCl ((o0, .inl (cJ, 1, .inr (.inl g))) :: (u1 ++ u2)) H := hP
  have hD : va_D A ((o0, .inl (cJ, 1, .inr (.inl g))) :: (u1 ++ u2)) := hD
  refine W.widen (k := cells + 0) (n := slots + 0) (by omega) (by omega) ?_
  refine lv_pop hx hb dL_law_262 rfl ?_
  refine lv_goto (tgt := 993) hx hb dL_law_263 (by decide) ?_
  refine W.widen (k := cells + 13) (n := slots + 338) (by omega) (by omega) ?_
  exact key t1 z1 xz g u1 u2 H locs ls hU1 hV2 hJ hP hD hS (lv_sub hl [0, 1, 2, 3, 4] rfl)
set_option maxHeartbeats 4000000 in
set_option maxRecDepth 100000 in
theorem lawc_2 {p : Program} {e : Env} {s : State} {m : MethodId} {below : List Frame} {meth : Method} {c : Code} (l : Launch) (hst : l.stackTraces = false) {b L : Nat} {xs : Nat → Int32} {Q : State → Prop} (hx : p.tables.exec = Jvm.exec) (hb : c.code = cL_law) (hml : c.maxLocals = 7) (hown : s.vm.findClass RL = some m.cls) (ht : ∀ w ∈ tw_W, w.before #[Value.ref b] s = true) (hX : va_X b L xs s s.heap) (hbl : b < s.heap.size) {dC : Nat → ClassId} {dI : Nat → Nat → Nat} {cI cB cZ cJ cR : ClassId} {tb : Nat → Nat} {A : Nat → Prop} (hbA : ¬ A b) (hKK : kk_ (dC, dI) (tyS cI cB cZ cJ cR) tb s) (hFx : fx_ tb A s s.heap) (hA : ∀ q, s.heap.size ≤ q → A q) {N : Nat} (hN1 : 256 ≤ N) (hN2 : N ≤ 4096) {B : Int} (hB0 : 0 ≤ B) (hB : B + 50000 ≤ 200000000) {x0 m0 o0 : Nat} {U V : va_W} {g : Nat → Int64} {tz gz : Int} {xz : ZG} (hU : KI N B x0 cI cB cR tz gz xz U) (hV : MIW N B m0 cI cZ cJ tz gz xz V) (hJ : GJz N xz.dt xz.cs xz.ms) {H : Heap} {locs : List Loc} {ls : Array Slot} {cells slots : Nat} (hce : cells + 13 ≤ 601024) (hsl : slots + 338 ≤ 7292999) {iN : Nat} (hi : iN + 6 ≤ L) (hL : L ≤ 3073) (hP : va_P (dC, dI) vwCl ((o0, .inl (cJ, 1, .inr (.inl g))) :: (U ++ V)) H) (hD : va_D A ((o0, .inl (cJ, 1, .inr (.inl g))) :: (U ++ V))) (hS : va_S A s.heap H locs) (hl : lv_has ls 7 [(0, .ref b), (1, .ref x0), (2, .ref m0), (3, .ref o0), (4, .int (nI iN))])
    (key : ∀ (t9 z9 : Int) (x9 : ZG) (g9 : Nat → Int64) (U9 V9 : va_W) (H : Heap) (locs : List Loc) (ls : Array Slot), KI N (B + 50000) x0 cI cB cR t9 z9 x9 U9 → MIW N (B + 50000) m0 cI cZ cJ t9 z9 x9 V9 → GJz N x9.dt x9.cs x9.ms → va_P (dC, dI) vwCl ((o0, .inl (cJ, 1, .inr (.inl g9))) :: (U9 ++ V9)) H → va_D A ((o0, .inl (cJ, 1, .inr (.inl g9))) :: (U9 ++ V9)) → va_S A s.heap H locs → lv_has ls 7 [(0, .ref b), (1, .ref x0), (2, .ref m0), (3, .ref o0), (4, .int (nI iN))] → W p l e room_1 s m #[Value.ref b] below meth c H locs (cells + 13) (slots + 338) Q (F0 m 993 ls [])) : W p l e room_1 s m #[Value.ref b] below meth c H locs cells slots Q (F0 m 266 ls []) := by
  have hK := hKK.1
  refine lv_aload_n hx hb dL_law_266 rfl (lv_at hl 1 rfl) ?_
  obtain ⟨kr1, fs1, hrc1⟩ := KI.recv hU
  refine cA_i (rn_VkW (n := 0) (As := []) (rest := []) hx hb hml hown ht hKK hFx hP hD hS hA (kl_load l dC dI cI cB cZ cJ cR tb hst H.size x0 N B U hN2 hB tz gz xz hU ) tw_1113 tw_1114 (by decide +kernel) rfl rfl ⟨Nat.le_of_ble_eq_true rfl, Nat.le_of_ble_eq_true rfl⟩ (ixC U.length) (ixC_map _ _ _) (ixC_nd _) kr1 hrc1 rfl rfl rfl hl.1 rfl (Nat.le_of_ble_eq_true rfl) dL_law_267 ⟨by show _ ≤ 601024; omega, by show _ ≤ 7292999; omega⟩) hP hD hS hA (fun r1 u1 H locs hw1 hP hD hS => ?_)
  obtain ⟨t1, z1, hr1, hlc⟩ := hw1
  have hP : va_P (dC, dI) vwCl ((o0, .inl (cJ, 1, .inr (.inl g))) :: (u1 ++ V)) H := hP
  have hD : va_D A ((o0, .inl (cJ, 1, .inr (.inl g))) :: (u1 ++ V)) := hD
  refine W.widen (k := cells + 1) (n := slots + 6) (by omega) (by omega) ?_
  refine lv_pop hx hb dL_law_270 rfl ?_
  refine lv_aload_n hx hb dL_law_271 rfl (lv_at hl 2 rfl) ?_
  obtain ⟨kr2, fs2, hrc2⟩ := MIW.recv hV
  have hP := va_P.perm hP (List.Perm.cons _ List.perm_append_comm)
  have hD := va_D.perm hD (List.Perm.cons _ List.perm_append_comm)
  refine cA_i (rn_VkW (n := 0) (As := []) (rest := []) hx hb hml hown ht hKK hFx hP hD hS hA (rl_load l dC dI cI cB cZ cJ cR tb H.size m0 N B V hN1 hN2 hB0 hB tz gz xz hV ) tw_1115 tw_1116 (by decide +kernel) rfl rfl ⟨Nat.le_of_ble_eq_true rfl, Nat.le_of_ble_eq_true rfl⟩ (ixC V.length) (ixC_map _ _ _) (ixC_nd _) kr2 hrc2 rfl rfl rfl hl.1 rfl (Nat.le_of_ble_eq_true rfl) dL_law_272 ⟨by show _ ≤ 601024; omega, by show _ ≤ 7292999; omega⟩) hP hD hS hA (fun r2 u2 H locs hw2 hP hD hS => ?_)
  have hP := va_P.perm hP (List.Perm.cons _ List.perm_append_comm)
  have hD := va_D.perm hD (List.Perm.cons _ List.perm_append_comm)
  obtain ⟨t2, z2, hr2, hlm⟩ := hw2
  rw [show t2 = t1 by omega, show z2 = z1 by omega] at hlm
  obtain ⟨hlj, x1, hU1, hV2, hJ2⟩ := loadZ hN2 hJ hlc hlm
  have hlj := congrArg Int32.toInt hlj
  have hU1 : KI N (B + 50000) x0 cI cB cR t1 z1 x1 u1 := hU1
  have hV2 : MIW N (B + 50000) m0 cI cZ cJ t1 z1 x1 u2 := hV2
  have hP : va_P (dC, dI) vwCl ((o0, .inl (cJ, 1, .inr (.inl g))) :: (u1 ++ u2)) H := hP
  have hD : va_D A ((o0, .inl (cJ, 1, .inr (.inl g))) :: (u1 ++ u2)) := hD
  refine W.widen (k := cells + 1) (n := slots + 6) (by omega) (by omega) ?_
  refine lv_pop hx hb dL_law_275 rfl ?_
  refine lv_goto (tgt := 993) hx hb dL_law_276 (by decide) ?_
  refine W.widen (k := cells + 13) (n := slots + 338) (by omega) (by omega) ?_
  exact key t1 z1 x1 g u1 u2 H locs ls hU1 hV2 hJ2 hP hD hS (lv_sub hl [0, 1, 2, 3, 4] rfl)
set_option maxHeartbeats 4000000 in
set_option maxRecDepth 100000 in
theorem lawc_3 {p : Program} {e : Env} {s : State} {m : MethodId} {below : List Frame} {meth : Method} {c : Code} (l : Launch) (hst : l.stackTraces = false) {b L : Nat} {xs : Nat → Int32} {Q : State → Prop} (hx : p.tables.exec = Jvm.exec) (hb : c.code = cL_law) (hml : c.maxLocals = 7) (hown : s.vm.findClass RL = some m.cls) (ht : ∀ w ∈ tw_W, w.before #[Value.ref b] s = true) (hX : va_X b L xs s s.heap) (hbl : b < s.heap.size) {dC : Nat → ClassId} {dI : Nat → Nat → Nat} {cI cB cZ cJ cR : ClassId} {tb : Nat → Nat} {A : Nat → Prop} (hbA : ¬ A b) (hKK : kk_ (dC, dI) (tyS cI cB cZ cJ cR) tb s) (hFx : fx_ tb A s s.heap) (hA : ∀ q, s.heap.size ≤ q → A q) {N : Nat} (hN1 : 256 ≤ N) (hN2 : N ≤ 4096) {B : Int} (hB0 : 0 ≤ B) (hB : B + 50000 ≤ 200000000) {x0 m0 o0 : Nat} {U V : va_W} {g : Nat → Int64} {tz gz : Int} {xz : ZG} (hU : KI N B x0 cI cB cR tz gz xz U) (hV : MIW N B m0 cI cZ cJ tz gz xz V) (hJ : GJz N xz.dt xz.cs xz.ms) {H : Heap} {locs : List Loc} {ls : Array Slot} {cells slots : Nat} (hce : cells + 13 ≤ 601024) (hsl : slots + 338 ≤ 7292999) {iN : Nat} (hi : iN + 6 ≤ L) (hL : L ≤ 3073) (hP : va_P (dC, dI) vwCl ((o0, .inl (cJ, 1, .inr (.inl g))) :: (U ++ V)) H) (hD : va_D A ((o0, .inl (cJ, 1, .inr (.inl g))) :: (U ++ V))) (hS : va_S A s.heap H locs) (hl : lv_has ls 7 [(0, .ref b), (1, .ref x0), (2, .ref m0), (3, .ref o0), (4, .int (nI iN))])
    (key : ∀ (t9 z9 : Int) (x9 : ZG) (g9 : Nat → Int64) (U9 V9 : va_W) (H : Heap) (locs : List Loc) (ls : Array Slot), KI N (B + 50000) x0 cI cB cR t9 z9 x9 U9 → MIW N (B + 50000) m0 cI cZ cJ t9 z9 x9 V9 → GJz N x9.dt x9.cs x9.ms → va_P (dC, dI) vwCl ((o0, .inl (cJ, 1, .inr (.inl g9))) :: (U9 ++ V9)) H → va_D A ((o0, .inl (cJ, 1, .inr (.inl g9))) :: (U9 ++ V9)) → va_S A s.heap H locs → lv_has ls 7 [(0, .ref b), (1, .ref x0), (2, .ref m0), (3, .ref o0), (4, .int (nI iN))] → W p l e room_1 s m #[Value.ref b] below meth c H locs (cells + 13) (slots + 338) Q (F0 m 993 ls [])) : W p l e room_1 s m #[Value.ref b] below meth c H locs cells slots Q (F0 m 279 ls []) := by
  have hK := hKK.1
  refine lv_aload_n hx hb dL_law_279 rfl (lv_at hl 1 rfl) ?_
  refine lv_aload_n hx hb dL_law_280 rfl (lv_at hl 0 rfl) ?_
  refine lv_iload hx hb dL_law_281 (lv_at hl 4 rfl) ?_
  refine lv_iconst (v := 1) hx hb dL_law_283 (by decide) ?_
  refine lv_iadd hx hb dL_law_284 ?_
  refine tp_i (y := nI (iN + 1)) (nI_add iN 1) ?_
  refine va_sld hx hb hX hbl hbA hS (i := nI (iN + 1)) (vp_in_nI (by omega) (by omega)) dL_law_285 ?_
  obtain ⟨kr1, fs1, hrc1⟩ := KI.recv hU
  refine cA_i (rn_Vk (n := 1) (As := [.int (xs (nI (iN + 1)).toNatClampNeg)]) (rest := []) hx hb hml hown ht hKK hFx hP hD hS hA (kl_fault l dC dI cI cB cZ cJ cR tb hst H.size x0 N B U hN2 hB tz gz xz hU (xs (nI (iN + 1)).toNatClampNeg)) tw_1117 tw_1118 (by decide +kernel) rfl rfl ⟨Nat.le_of_ble_eq_true rfl, Nat.le_of_ble_eq_true rfl⟩ (ixC U.length) (ixC_map _ _ _) (ixC_nd _) kr1 hrc1 rfl rfl rfl hl.1 rfl (Nat.le_of_ble_eq_true rfl) dL_law_286 ⟨by show _ ≤ 601024; omega, by show _ ≤ 7292999; omega⟩) hP hD hS hA (fun r1 u1 H locs hw1 hP hD hS => ?_)
  obtain ⟨hU1, hr1⟩ := hw1
  have hP : va_P (dC, dI) vwCl ((o0, .inl (cJ, 1, .inr (.inl g))) :: (u1 ++ V)) H := hP
  have hD : va_D A ((o0, .inl (cJ, 1, .inr (.inl g))) :: (u1 ++ V)) := hD
  refine W.widen (k := cells + 0) (n := slots + 0) (by omega) (by omega) ?_
  refine lv_pop hx hb dL_law_289 rfl ?_
  refine lv_aload_n hx hb dL_law_290 rfl (lv_at hl 2 rfl) ?_
  refine lv_aload_n hx hb dL_law_291 rfl (lv_at hl 0 rfl) ?_
  refine lv_iload hx hb dL_law_292 (lv_at hl 4 rfl) ?_
  refine lv_iconst (v := 1) hx hb dL_law_294 (by decide) ?_
  refine lv_iadd hx hb dL_law_295 ?_
  refine tp_i (y := nI (iN + 1)) (nI_add iN 1) ?_
  refine va_sld hx hb hX hbl hbA hS (i := nI (iN + 1)) (vp_in_nI (by omega) (by omega)) dL_law_296 ?_
  obtain ⟨kr2, fs2, hrc2⟩ := MIW.recv hV
  have hP := va_P.perm hP (List.Perm.cons _ List.perm_append_comm)
  have hD := va_D.perm hD (List.Perm.cons _ List.perm_append_comm)
  refine cA_i (rn_Vk (n := 1) (As := [.int (xs (nI (iN + 1)).toNatClampNeg)]) (rest := []) hx hb hml hown ht hKK hFx hP hD hS hA (rl_fault l dC dI cI cB cZ cJ cR tb H.size m0 N B V hN1 hN2 hB0 hB tz gz xz hV (xs (nI (iN + 1)).toNatClampNeg)) tw_1119 tw_1120 (by decide +kernel) rfl rfl ⟨Nat.le_of_ble_eq_true rfl, Nat.le_of_ble_eq_true rfl⟩ (ixC V.length) (ixC_map _ _ _) (ixC_nd _) kr2 hrc2 rfl rfl rfl hl.1 rfl (Nat.le_of_ble_eq_true rfl) dL_law_297 ⟨by show _ ≤ 601024; omega, by show _ ≤ 7292999; omega⟩) hP hD hS hA (fun r2 u2 H locs hw2 hP hD hS => ?_)
  have hP := va_P.perm hP (List.Perm.cons _ List.perm_append_comm)
  have hD := va_D.perm hD (List.Perm.cons _ List.perm_append_comm)
  obtain ⟨hV2, hr2⟩ := hw2
  have hP : va_P (dC, dI) vwCl ((o0, .inl (cJ, 1, .inr (.inl g))) :: (u1 ++ u2)) H := hP
  have hD : va_D A ((o0, .inl (cJ, 1, .inr (.inl g))) :: (u1 ++ u2)) := hD
  refine W.widen (k := cells + 0) (n := slots + 0) (by omega) (by omega) ?_
  refine lv_pop hx hb dL_law_300 rfl ?_
  refine lv_goto (tgt := 993) hx hb dL_law_301 (by decide) ?_
  refine W.widen (k := cells + 13) (n := slots + 338) (by omega) (by omega) ?_
  exact key tz gz xz g u1 u2 H locs ls hU1 hV2 hJ hP hD hS (lv_sub hl [0, 1, 2, 3, 4] rfl)
set_option maxHeartbeats 4000000 in
set_option maxRecDepth 100000 in
theorem lawc_4 {p : Program} {e : Env} {s : State} {m : MethodId} {below : List Frame} {meth : Method} {c : Code} (l : Launch) (hst : l.stackTraces = false) {b L : Nat} {xs : Nat → Int32} {Q : State → Prop} (hx : p.tables.exec = Jvm.exec) (hb : c.code = cL_law) (hml : c.maxLocals = 7) (hown : s.vm.findClass RL = some m.cls) (ht : ∀ w ∈ tw_W, w.before #[Value.ref b] s = true) (hX : va_X b L xs s s.heap) (hbl : b < s.heap.size) {dC : Nat → ClassId} {dI : Nat → Nat → Nat} {cI cB cZ cJ cR : ClassId} {tb : Nat → Nat} {A : Nat → Prop} (hbA : ¬ A b) (hKK : kk_ (dC, dI) (tyS cI cB cZ cJ cR) tb s) (hFx : fx_ tb A s s.heap) (hA : ∀ q, s.heap.size ≤ q → A q) {N : Nat} (hN1 : 256 ≤ N) (hN2 : N ≤ 4096) {B : Int} (hB0 : 0 ≤ B) (hB : B + 50000 ≤ 200000000) {x0 m0 o0 : Nat} {U V : va_W} {g : Nat → Int64} {tz gz : Int} {xz : ZG} (hU : KI N B x0 cI cB cR tz gz xz U) (hV : MIW N B m0 cI cZ cJ tz gz xz V) (hJ : GJz N xz.dt xz.cs xz.ms) {H : Heap} {locs : List Loc} {ls : Array Slot} {cells slots : Nat} (hce : cells + 13 ≤ 601024) (hsl : slots + 338 ≤ 7292999) {iN : Nat} (hi : iN + 6 ≤ L) (hL : L ≤ 3073) (hP : va_P (dC, dI) vwCl ((o0, .inl (cJ, 1, .inr (.inl g))) :: (U ++ V)) H) (hD : va_D A ((o0, .inl (cJ, 1, .inr (.inl g))) :: (U ++ V))) (hS : va_S A s.heap H locs) (hl : lv_has ls 7 [(0, .ref b), (1, .ref x0), (2, .ref m0), (3, .ref o0), (4, .int (nI iN))])
    (key : ∀ (t9 z9 : Int) (x9 : ZG) (g9 : Nat → Int64) (U9 V9 : va_W) (H : Heap) (locs : List Loc) (ls : Array Slot), KI N (B + 50000) x0 cI cB cR t9 z9 x9 U9 → MIW N (B + 50000) m0 cI cZ cJ t9 z9 x9 V9 → GJz N x9.dt x9.cs x9.ms → va_P (dC, dI) vwCl ((o0, .inl (cJ, 1, .inr (.inl g9))) :: (U9 ++ V9)) H → va_D A ((o0, .inl (cJ, 1, .inr (.inl g9))) :: (U9 ++ V9)) → va_S A s.heap H locs → lv_has ls 7 [(0, .ref b), (1, .ref x0), (2, .ref m0), (3, .ref o0), (4, .int (nI iN))] → W p l e room_1 s m #[Value.ref b] below meth c H locs (cells + 13) (slots + 338) Q (F0 m 993 ls [])) : W p l e room_1 s m #[Value.ref b] below meth c H locs cells slots Q (F0 m 304 ls []) := by
  have hK := hKK.1
  refine lv_aload_n hx hb dL_law_304 rfl (lv_at hl 1 rfl) ?_
  refine lv_aload_n hx hb dL_law_305 rfl (lv_at hl 0 rfl) ?_
  refine lv_iload hx hb dL_law_306 (lv_at hl 4 rfl) ?_
  refine lv_iconst (v := 1) hx hb dL_law_308 (by decide) ?_
  refine lv_iadd hx hb dL_law_309 ?_
  refine tp_i (y := nI (iN + 1)) (nI_add iN 1) ?_
  refine va_sld hx hb hX hbl hbA hS (i := nI (iN + 1)) (vp_in_nI (by omega) (by omega)) dL_law_310 ?_
  refine lv_aload_n hx hb dL_law_311 rfl (lv_at hl 3 rfl) ?_
  refine cD_i (A0 := (o0, .inl (cJ, 1, .inr (.inl g))) :: U) (Z := V) (rn_SW (n := 3) (As := [.ref x0, .int (xs (nI (iN + 1)).toNatClampNeg), .ref o0]) (rest := []) hx hb hml hown ht hKK hFx hP hD hS hA (hl_code l dC dI cI cB cZ cJ cR tb hst H.size x0 o0 N B U g hN2 hB tz gz xz hU (xs (nI (iN + 1)).toNatClampNeg)) tw_1121 tw_1122 (by decide +kernel) rfl rfl ⟨Nat.le_of_ble_eq_true rfl, Nat.le_of_ble_eq_true rfl⟩ (List.range ((o0, .inl (cJ, 1, .inr (.inl g))) :: U).length) (ixA_map ((o0, .inl (cJ, 1, .inr (.inl g))) :: U) V) (nd_range _) rfl hl.1 rfl (Nat.le_of_ble_eq_true rfl) dL_law_312 ⟨by show _ ≤ 601024; omega, by show _ ≤ 7292999; omega⟩) hP hD hS hA (fun r1 u1 H locs hw hP hD hS => ?_)
  obtain ⟨g1, U1, hu1, hU1⟩ := hw
  have hu1 : u1 = (o0, .inl (cJ, 1, .inr (.inl g1))) :: U1 := hu1
  subst hu1
  have hP : va_P (dC, dI) vwCl ((o0, .inl (cJ, 1, .inr (.inl g1))) :: (U1 ++ V)) H := hP
  have hD : va_D A ((o0, .inl (cJ, 1, .inr (.inl g1))) :: (U1 ++ V)) := hD
  refine W.widen (k := cells + 1) (n := slots + 6) (by omega) (by omega) ?_
  refine lv_istore (lv' := [(5, .int r1), (0, .ref b), (1, .ref x0), (2, .ref m0), (3, .ref o0), (4, .int (nI iN))]) hx hb dL_law_315 hl (by decide) rfl (fun ls hl => ?_)
  refine lv_aload_n hx hb dL_law_317 rfl (lv_at hl 3 rfl) ?_
  refine lv_aload_n hx hb dL_law_318 rfl (lv_at hl 1 rfl) ?_
  refine lv_iload hx hb dL_law_319 (lv_at hl 5 rfl) ?_
  refine lv_iconst (v := 1) hx hb dL_law_321 (by decide) ?_
  refine lv_iadd hx hb dL_law_322 ?_
  refine tp_i (y := nI (iN + 1)) (nI_add iN 1) ?_
  refine va_sld hx hb hX hbl hbA hS (i := nI (iN + 1)) (vp_in_nI (by omega) (by omega)) dL_law_323 ?_
  obtain ⟨kr2, fs2, hrc2⟩ := MIW.recv hV
  have hP := va_P.perm hP (List.Perm.cons _ List.perm_append_comm)
  have hD := va_D.perm hD (List.Perm.cons _ List.perm_append_comm)
  refine cA_i (rn_Vk (n := 1) (As := [.int (xs (nI (iN + 1)).toNatClampNeg)]) (rest := []) hx hb hml hown ht hKK hFx hP hD hS hA (rl_code l dC dI cI cB cZ cJ cR tb H.size m0 N B V hN1 hN2 hB0 hB tz gz xz hV (xs (nI (iN + 1)).toNatClampNeg)) tw_1123 tw_1124 (by decide +kernel) rfl rfl ⟨Nat.le_of_ble_eq_true rfl, Nat.le_of_ble_eq_true rfl⟩ (ixC V.length) (ixC_map _ _ _) (ixC_nd _) kr2 hrc2 rfl rfl rfl hl.1 rfl (Nat.le_of_ble_eq_true rfl) dL_law_324 ⟨by show _ ≤ 601024; omega, by show _ ≤ 7292999; omega⟩) hP hD hS hA (fun r2 u2 H locs hw2 hP hD hS => ?_)
  have hP := va_P.perm hP (List.Perm.cons _ List.perm_append_comm)
  have hD := va_D.perm hD (List.Perm.cons _ List.perm_append_comm)
  have hP : va_P (dC, dI) vwCl ((o0, .inl (cJ, 1, .inr (.inl g1))) :: (U1 ++ u2)) H := hP
  have hD : va_D A ((o0, .inl (cJ, 1, .inr (.inl g1))) :: (U1 ++ u2)) := hD
  refine W.widen (k := cells + 1) (n := slots + 6) (by omega) (by omega) ?_
  refine lv_istore (lv' := [(6, .int r2), (5, .int r1), (0, .ref b), (1, .ref x0), (2, .ref m0), (3, .ref o0), (4, .int (nI iN))]) hx hb dL_law_327 hl (by decide) rfl (fun ls hl => ?_)
  refine lv_goto (tgt := 993) hx hb dL_law_329 (by decide) ?_
  refine W.widen (k := cells + 13) (n := slots + 338) (by omega) (by omega) ?_
  exact key tz gz xz g1 U1 u2 H locs ls hU1 hw2 hJ hP hD hS (lv_sub hl [2, 3, 4, 5, 6] rfl)
set_option maxHeartbeats 4000000 in
set_option maxRecDepth 100000 in
theorem lawc_5 {p : Program} {e : Env} {s : State} {m : MethodId} {below : List Frame} {meth : Method} {c : Code} (l : Launch) (hst : l.stackTraces = false) {b L : Nat} {xs : Nat → Int32} {Q : State → Prop} (hx : p.tables.exec = Jvm.exec) (hb : c.code = cL_law) (hml : c.maxLocals = 7) (hown : s.vm.findClass RL = some m.cls) (ht : ∀ w ∈ tw_W, w.before #[Value.ref b] s = true) (hX : va_X b L xs s s.heap) (hbl : b < s.heap.size) {dC : Nat → ClassId} {dI : Nat → Nat → Nat} {cI cB cZ cJ cR : ClassId} {tb : Nat → Nat} {A : Nat → Prop} (hbA : ¬ A b) (hKK : kk_ (dC, dI) (tyS cI cB cZ cJ cR) tb s) (hFx : fx_ tb A s s.heap) (hA : ∀ q, s.heap.size ≤ q → A q) {N : Nat} (hN1 : 256 ≤ N) (hN2 : N ≤ 4096) {B : Int} (hB0 : 0 ≤ B) (hB : B + 50000 ≤ 200000000) {x0 m0 o0 : Nat} {U V : va_W} {g : Nat → Int64} {tz gz : Int} {xz : ZG} (hU : KI N B x0 cI cB cR tz gz xz U) (hV : MIW N B m0 cI cZ cJ tz gz xz V) (hJ : GJz N xz.dt xz.cs xz.ms) {H : Heap} {locs : List Loc} {ls : Array Slot} {cells slots : Nat} (hce : cells + 13 ≤ 601024) (hsl : slots + 338 ≤ 7292999) {iN : Nat} (hi : iN + 6 ≤ L) (hL : L ≤ 3073) (hP : va_P (dC, dI) vwCl ((o0, .inl (cJ, 1, .inr (.inl g))) :: (U ++ V)) H) (hD : va_D A ((o0, .inl (cJ, 1, .inr (.inl g))) :: (U ++ V))) (hS : va_S A s.heap H locs) (hl : lv_has ls 7 [(0, .ref b), (1, .ref x0), (2, .ref m0), (3, .ref o0), (4, .int (nI iN))])
    (key : ∀ (t9 z9 : Int) (x9 : ZG) (g9 : Nat → Int64) (U9 V9 : va_W) (H : Heap) (locs : List Loc) (ls : Array Slot), KI N (B + 50000) x0 cI cB cR t9 z9 x9 U9 → MIW N (B + 50000) m0 cI cZ cJ t9 z9 x9 V9 → GJz N x9.dt x9.cs x9.ms → va_P (dC, dI) vwCl ((o0, .inl (cJ, 1, .inr (.inl g9))) :: (U9 ++ V9)) H → va_D A ((o0, .inl (cJ, 1, .inr (.inl g9))) :: (U9 ++ V9)) → va_S A s.heap H locs → lv_has ls 7 [(0, .ref b), (1, .ref x0), (2, .ref m0), (3, .ref o0), (4, .int (nI iN))] → W p l e room_1 s m #[Value.ref b] below meth c H locs (cells + 13) (slots + 338) Q (F0 m 993 ls [])) : W p l e room_1 s m #[Value.ref b] below meth c H locs cells slots Q (F0 m 332 ls []) := by
  have hK := hKK.1
  refine lv_aload_n hx hb dL_law_332 rfl (lv_at hl 1 rfl) ?_
  refine lv_aload_n hx hb dL_law_333 rfl (lv_at hl 0 rfl) ?_
  refine lv_iload hx hb dL_law_334 (lv_at hl 4 rfl) ?_
  refine lv_iconst (v := 1) hx hb dL_law_336 (by decide) ?_
  refine lv_iadd hx hb dL_law_337 ?_
  refine tp_i (y := nI (iN + 1)) (nI_add iN 1) ?_
  refine va_sld hx hb hX hbl hbA hS (i := nI (iN + 1)) (vp_in_nI (by omega) (by omega)) dL_law_338 ?_
  refine lv_aload_n hx hb dL_law_339 rfl (lv_at hl 0 rfl) ?_
  refine lv_iload hx hb dL_law_340 (lv_at hl 4 rfl) ?_
  refine lv_iconst (v := 2) hx hb dL_law_342 (by decide) ?_
  refine lv_iadd hx hb dL_law_343 ?_
  refine tp_i (y := nI (iN + 2)) (nI_add iN 2) ?_
  refine va_sld hx hb hX hbl hbA hS (i := nI (iN + 2)) (vp_in_nI (by omega) (by omega)) dL_law_344 ?_
  obtain ⟨kr1, fs1, hrc1⟩ := KI.recv hU
  refine cA_i (rn_Vk (n := 2) (As := [.int (xs (nI (iN + 1)).toNatClampNeg), .int (xs (nI (iN + 2)).toNatClampNeg)]) (rest := []) hx hb hml hown ht hKK hFx hP hD hS hA (kl_function l dC dI cI cB cZ cJ cR tb hst H.size x0 N B U hN2 hB tz gz xz hU (xs (nI (iN + 1)).toNatClampNeg) (xs (nI (iN + 2)).toNatClampNeg)) tw_1125 tw_1126 (by decide +kernel) rfl rfl ⟨Nat.le_of_ble_eq_true rfl, Nat.le_of_ble_eq_true rfl⟩ (ixC U.length) (ixC_map _ _ _) (ixC_nd _) kr1 hrc1 rfl rfl rfl hl.1 rfl (Nat.le_of_ble_eq_true rfl) dL_law_345 ⟨by show _ ≤ 601024; omega, by show _ ≤ 7292999; omega⟩) hP hD hS hA (fun r1 u1 H locs hw1 hP hD hS => ?_)
  obtain ⟨hU1, hr1⟩ := hw1
  have hP : va_P (dC, dI) vwCl ((o0, .inl (cJ, 1, .inr (.inl g))) :: (u1 ++ V)) H := hP
  have hD : va_D A ((o0, .inl (cJ, 1, .inr (.inl g))) :: (u1 ++ V)) := hD
  refine W.widen (k := cells + 0) (n := slots + 0) (by omega) (by omega) ?_
  refine lv_pop hx hb dL_law_348 rfl ?_
  refine lv_aload_n hx hb dL_law_349 rfl (lv_at hl 2 rfl) ?_
  refine lv_aload_n hx hb dL_law_350 rfl (lv_at hl 0 rfl) ?_
  refine lv_iload hx hb dL_law_351 (lv_at hl 4 rfl) ?_
  refine lv_iconst (v := 1) hx hb dL_law_353 (by decide) ?_
  refine lv_iadd hx hb dL_law_354 ?_
  refine tp_i (y := nI (iN + 1)) (nI_add iN 1) ?_
  refine va_sld hx hb hX hbl hbA hS (i := nI (iN + 1)) (vp_in_nI (by omega) (by omega)) dL_law_355 ?_
  refine lv_aload_n hx hb dL_law_356 rfl (lv_at hl 0 rfl) ?_
  refine lv_iload hx hb dL_law_357 (lv_at hl 4 rfl) ?_
  refine lv_iconst (v := 2) hx hb dL_law_359 (by decide) ?_
  refine lv_iadd hx hb dL_law_360 ?_
  refine tp_i (y := nI (iN + 2)) (nI_add iN 2) ?_
  refine va_sld hx hb hX hbl hbA hS (i := nI (iN + 2)) (vp_in_nI (by omega) (by omega)) dL_law_361 ?_
  obtain ⟨kr2, fs2, hrc2⟩ := MIW.recv hV
  have hP := va_P.perm hP (List.Perm.cons _ List.perm_append_comm)
  have hD := va_D.perm hD (List.Perm.cons _ List.perm_append_comm)
  refine cA_i (rn_Vk (n := 2) (As := [.int (xs (nI (iN + 1)).toNatClampNeg), .int (xs (nI (iN + 2)).toNatClampNeg)]) (rest := []) hx hb hml hown ht hKK hFx hP hD hS hA (rl_function l dC dI cI cB cZ cJ cR tb H.size m0 N B V hN1 hN2 hB0 hB tz gz xz hV (xs (nI (iN + 1)).toNatClampNeg) (xs (nI (iN + 2)).toNatClampNeg)) tw_1127 tw_1128 (by decide +kernel) rfl rfl ⟨Nat.le_of_ble_eq_true rfl, Nat.le_of_ble_eq_true rfl⟩ (ixC V.length) (ixC_map _ _ _) (ixC_nd _) kr2 hrc2 rfl rfl rfl hl.1 rfl (Nat.le_of_ble_eq_true rfl) dL_law_362 ⟨by show _ ≤ 601024; omega, by show _ ≤ 7292999; omega⟩) hP hD hS hA (fun r2 u2 H locs hw2 hP hD hS => ?_)
  have hP := va_P.perm hP (List.Perm.cons _ List.perm_append_comm)
  have hD := va_D.perm hD (List.Perm.cons _ List.perm_append_comm)
  obtain ⟨hV2, hr2⟩ := hw2
  have hP : va_P (dC, dI) vwCl ((o0, .inl (cJ, 1, .inr (.inl g))) :: (u1 ++ u2)) H := hP
  have hD : va_D A ((o0, .inl (cJ, 1, .inr (.inl g))) :: (u1 ++ u2)) := hD
  refine W.widen (k := cells + 0) (n := slots + 0) (by omega) (by omega) ?_
  refine lv_pop hx hb dL_law_365 rfl ?_
  refine lv_goto (tgt := 993) hx hb dL_law_366 (by decide) ?_
  refine W.widen (k := cells + 13) (n := slots + 338) (by omega) (by omega) ?_
  exact key tz gz xz g u1 u2 H locs ls hU1 hV2 hJ hP hD hS (lv_sub hl [0, 1, 2, 3, 4] rfl)
set_option maxHeartbeats 4000000 in
set_option maxRecDepth 100000 in
theorem lawc_6 {p : Program} {e : Env} {s : State} {m : MethodId} {below : List Frame} {meth : Method} {c : Code} (l : Launch) (hst : l.stackTraces = false) {b L : Nat} {xs : Nat → Int32} {Q : State → Prop} (hx : p.tables.exec = Jvm.exec) (hb : c.code = cL_law) (hml : c.maxLocals = 7) (hown : s.vm.findClass RL = some m.cls) (ht : ∀ w ∈ tw_W, w.before #[Value.ref b] s = true) (hX : va_X b L xs s s.heap) (hbl : b < s.heap.size) {dC : Nat → ClassId} {dI : Nat → Nat → Nat} {cI cB cZ cJ cR : ClassId} {tb : Nat → Nat} {A : Nat → Prop} (hbA : ¬ A b) (hKK : kk_ (dC, dI) (tyS cI cB cZ cJ cR) tb s) (hFx : fx_ tb A s s.heap) (hA : ∀ q, s.heap.size ≤ q → A q) {N : Nat} (hN1 : 256 ≤ N) (hN2 : N ≤ 4096) {B : Int} (hB0 : 0 ≤ B) (hB : B + 50000 ≤ 200000000) {x0 m0 o0 : Nat} {U V : va_W} {g : Nat → Int64} {tz gz : Int} {xz : ZG} (hU : KI N B x0 cI cB cR tz gz xz U) (hV : MIW N B m0 cI cZ cJ tz gz xz V) (hJ : GJz N xz.dt xz.cs xz.ms) {H : Heap} {locs : List Loc} {ls : Array Slot} {cells slots : Nat} (hce : cells + 13 ≤ 601024) (hsl : slots + 338 ≤ 7292999) {iN : Nat} (hi : iN + 6 ≤ L) (hL : L ≤ 3073) (hP : va_P (dC, dI) vwCl ((o0, .inl (cJ, 1, .inr (.inl g))) :: (U ++ V)) H) (hD : va_D A ((o0, .inl (cJ, 1, .inr (.inl g))) :: (U ++ V))) (hS : va_S A s.heap H locs) (hl : lv_has ls 7 [(0, .ref b), (1, .ref x0), (2, .ref m0), (3, .ref o0), (4, .int (nI iN))])
    (key : ∀ (t9 z9 : Int) (x9 : ZG) (g9 : Nat → Int64) (U9 V9 : va_W) (H : Heap) (locs : List Loc) (ls : Array Slot), KI N (B + 50000) x0 cI cB cR t9 z9 x9 U9 → MIW N (B + 50000) m0 cI cZ cJ t9 z9 x9 V9 → GJz N x9.dt x9.cs x9.ms → va_P (dC, dI) vwCl ((o0, .inl (cJ, 1, .inr (.inl g9))) :: (U9 ++ V9)) H → va_D A ((o0, .inl (cJ, 1, .inr (.inl g9))) :: (U9 ++ V9)) → va_S A s.heap H locs → lv_has ls 7 [(0, .ref b), (1, .ref x0), (2, .ref m0), (3, .ref o0), (4, .int (nI iN))] → W p l e room_1 s m #[Value.ref b] below meth c H locs (cells + 13) (slots + 338) Q (F0 m 993 ls [])) : W p l e room_1 s m #[Value.ref b] below meth c H locs cells slots Q (F0 m 369 ls []) := by
  have hK := hKK.1
  refine lv_aload_n hx hb dL_law_369 rfl (lv_at hl 1 rfl) ?_
  refine lv_aload_n hx hb dL_law_370 rfl (lv_at hl 0 rfl) ?_
  refine lv_iload hx hb dL_law_371 (lv_at hl 4 rfl) ?_
  refine lv_iconst (v := 1) hx hb dL_law_373 (by decide) ?_
  refine lv_iadd hx hb dL_law_374 ?_
  refine tp_i (y := nI (iN + 1)) (nI_add iN 1) ?_
  refine va_sld hx hb hX hbl hbA hS (i := nI (iN + 1)) (vp_in_nI (by omega) (by omega)) dL_law_375 ?_
  refine lv_aload_n hx hb dL_law_376 rfl (lv_at hl 0 rfl) ?_
  refine lv_iload hx hb dL_law_377 (lv_at hl 4 rfl) ?_
  refine lv_iconst (v := 2) hx hb dL_law_379 (by decide) ?_
  refine lv_iadd hx hb dL_law_380 ?_
  refine tp_i (y := nI (iN + 2)) (nI_add iN 2) ?_
  refine va_sld hx hb hX hbl hbA hS (i := nI (iN + 2)) (vp_in_nI (by omega) (by omega)) dL_law_381 ?_
  obtain ⟨kr1, fs1, hrc1⟩ := KI.recv hU
  refine cA_i (rn_Vk (n := 2) (As := [.int (xs (nI (iN + 1)).toNatClampNeg), .int (xs (nI (iN + 2)).toNatClampNeg)]) (rest := []) hx hb hml hown ht hKK hFx hP hD hS hA (kl_global l dC dI cI cB cZ cJ cR tb hst H.size x0 N B U hN2 hB tz gz xz hU (xs (nI (iN + 1)).toNatClampNeg) (xs (nI (iN + 2)).toNatClampNeg)) tw_1129 tw_1130 (by decide +kernel) rfl rfl ⟨Nat.le_of_ble_eq_true rfl, Nat.le_of_ble_eq_true rfl⟩ (ixC U.length) (ixC_map _ _ _) (ixC_nd _) kr1 hrc1 rfl rfl rfl hl.1 rfl (Nat.le_of_ble_eq_true rfl) dL_law_382 ⟨by show _ ≤ 601024; omega, by show _ ≤ 7292999; omega⟩) hP hD hS hA (fun r1 u1 H locs hw1 hP hD hS => ?_)
  obtain ⟨hU1, hr1⟩ := hw1
  have hP : va_P (dC, dI) vwCl ((o0, .inl (cJ, 1, .inr (.inl g))) :: (u1 ++ V)) H := hP
  have hD : va_D A ((o0, .inl (cJ, 1, .inr (.inl g))) :: (u1 ++ V)) := hD
  refine W.widen (k := cells + 0) (n := slots + 0) (by omega) (by omega) ?_
  refine lv_pop hx hb dL_law_385 rfl ?_
  refine lv_aload_n hx hb dL_law_386 rfl (lv_at hl 2 rfl) ?_
  refine lv_aload_n hx hb dL_law_387 rfl (lv_at hl 0 rfl) ?_
  refine lv_iload hx hb dL_law_388 (lv_at hl 4 rfl) ?_
  refine lv_iconst (v := 1) hx hb dL_law_390 (by decide) ?_
  refine lv_iadd hx hb dL_law_391 ?_
  refine tp_i (y := nI (iN + 1)) (nI_add iN 1) ?_
  refine va_sld hx hb hX hbl hbA hS (i := nI (iN + 1)) (vp_in_nI (by omega) (by omega)) dL_law_392 ?_
  refine lv_aload_n hx hb dL_law_393 rfl (lv_at hl 0 rfl) ?_
  refine lv_iload hx hb dL_law_394 (lv_at hl 4 rfl) ?_
  refine lv_iconst (v := 2) hx hb dL_law_396 (by decide) ?_
  refine lv_iadd hx hb dL_law_397 ?_
  refine tp_i (y := nI (iN + 2)) (nI_add iN 2) ?_
  refine va_sld hx hb hX hbl hbA hS (i := nI (iN + 2)) (vp_in_nI (by omega) (by omega)) dL_law_398 ?_
  obtain ⟨kr2, fs2, hrc2⟩ := MIW.recv hV
  have hP := va_P.perm hP (List.Perm.cons _ List.perm_append_comm)
  have hD := va_D.perm hD (List.Perm.cons _ List.perm_append_comm)
  refine cA_i (rn_Vk (n := 2) (As := [.int (xs (nI (iN + 1)).toNatClampNeg), .int (xs (nI (iN + 2)).toNatClampNeg)]) (rest := []) hx hb hml hown ht hKK hFx hP hD hS hA (rl_global l dC dI cI cB cZ cJ cR tb H.size m0 N B V hN1 hN2 hB0 hB tz gz xz hV (xs (nI (iN + 1)).toNatClampNeg) (xs (nI (iN + 2)).toNatClampNeg)) tw_1131 tw_1132 (by decide +kernel) rfl rfl ⟨Nat.le_of_ble_eq_true rfl, Nat.le_of_ble_eq_true rfl⟩ (ixC V.length) (ixC_map _ _ _) (ixC_nd _) kr2 hrc2 rfl rfl rfl hl.1 rfl (Nat.le_of_ble_eq_true rfl) dL_law_399 ⟨by show _ ≤ 601024; omega, by show _ ≤ 7292999; omega⟩) hP hD hS hA (fun r2 u2 H locs hw2 hP hD hS => ?_)
  have hP := va_P.perm hP (List.Perm.cons _ List.perm_append_comm)
  have hD := va_D.perm hD (List.Perm.cons _ List.perm_append_comm)
  obtain ⟨hV2, hr2⟩ := hw2
  have hP : va_P (dC, dI) vwCl ((o0, .inl (cJ, 1, .inr (.inl g))) :: (u1 ++ u2)) H := hP
  have hD : va_D A ((o0, .inl (cJ, 1, .inr (.inl g))) :: (u1 ++ u2)) := hD
  refine W.widen (k := cells + 0) (n := slots + 0) (by omega) (by omega) ?_
  refine lv_pop hx hb dL_law_402 rfl ?_
  refine lv_goto (tgt := 993) hx hb dL_law_403 (by decide) ?_
  refine W.widen (k := cells + 13) (n := slots + 338) (by omega) (by omega) ?_
  exact key tz gz xz g u1 u2 H locs ls hU1 hV2 hJ hP hD hS (lv_sub hl [0, 1, 2, 3, 4] rfl)
set_option maxHeartbeats 4000000 in
set_option maxRecDepth 100000 in
theorem lawc_7 {p : Program} {e : Env} {s : State} {m : MethodId} {below : List Frame} {meth : Method} {c : Code} (l : Launch) (hst : l.stackTraces = false) {b L : Nat} {xs : Nat → Int32} {Q : State → Prop} (hx : p.tables.exec = Jvm.exec) (hb : c.code = cL_law) (hml : c.maxLocals = 7) (hown : s.vm.findClass RL = some m.cls) (ht : ∀ w ∈ tw_W, w.before #[Value.ref b] s = true) (hX : va_X b L xs s s.heap) (hbl : b < s.heap.size) {dC : Nat → ClassId} {dI : Nat → Nat → Nat} {cI cB cZ cJ cR : ClassId} {tb : Nat → Nat} {A : Nat → Prop} (hbA : ¬ A b) (hKK : kk_ (dC, dI) (tyS cI cB cZ cJ cR) tb s) (hFx : fx_ tb A s s.heap) (hA : ∀ q, s.heap.size ≤ q → A q) {N : Nat} (hN1 : 256 ≤ N) (hN2 : N ≤ 4096) {B : Int} (hB0 : 0 ≤ B) (hB : B + 50000 ≤ 200000000) {x0 m0 o0 : Nat} {U V : va_W} {g : Nat → Int64} {tz gz : Int} {xz : ZG} (hU : KI N B x0 cI cB cR tz gz xz U) (hV : MIW N B m0 cI cZ cJ tz gz xz V) (hJ : GJz N xz.dt xz.cs xz.ms) {H : Heap} {locs : List Loc} {ls : Array Slot} {cells slots : Nat} (hce : cells + 13 ≤ 601024) (hsl : slots + 338 ≤ 7292999) {iN : Nat} (hi : iN + 6 ≤ L) (hL : L ≤ 3073) (hP : va_P (dC, dI) vwCl ((o0, .inl (cJ, 1, .inr (.inl g))) :: (U ++ V)) H) (hD : va_D A ((o0, .inl (cJ, 1, .inr (.inl g))) :: (U ++ V))) (hS : va_S A s.heap H locs) (hl : lv_has ls 7 [(0, .ref b), (1, .ref x0), (2, .ref m0), (3, .ref o0), (4, .int (nI iN))])
    (key : ∀ (t9 z9 : Int) (x9 : ZG) (g9 : Nat → Int64) (U9 V9 : va_W) (H : Heap) (locs : List Loc) (ls : Array Slot), KI N (B + 50000) x0 cI cB cR t9 z9 x9 U9 → MIW N (B + 50000) m0 cI cZ cJ t9 z9 x9 V9 → GJz N x9.dt x9.cs x9.ms → va_P (dC, dI) vwCl ((o0, .inl (cJ, 1, .inr (.inl g9))) :: (U9 ++ V9)) H → va_D A ((o0, .inl (cJ, 1, .inr (.inl g9))) :: (U9 ++ V9)) → va_S A s.heap H locs → lv_has ls 7 [(0, .ref b), (1, .ref x0), (2, .ref m0), (3, .ref o0), (4, .int (nI iN))] → W p l e room_1 s m #[Value.ref b] below meth c H locs (cells + 13) (slots + 338) Q (F0 m 993 ls [])) : W p l e room_1 s m #[Value.ref b] below meth c H locs cells slots Q (F0 m 406 ls []) := by
  have hK := hKK.1
  refine lv_aload_n hx hb dL_law_406 rfl (lv_at hl 1 rfl) ?_
  refine lv_aload_n hx hb dL_law_407 rfl (lv_at hl 0 rfl) ?_
  refine lv_iload hx hb dL_law_408 (lv_at hl 4 rfl) ?_
  refine lv_iconst (v := 1) hx hb dL_law_410 (by decide) ?_
  refine lv_iadd hx hb dL_law_411 ?_
  refine tp_i (y := nI (iN + 1)) (nI_add iN 1) ?_
  refine va_sld hx hb hX hbl hbA hS (i := nI (iN + 1)) (vp_in_nI (by omega) (by omega)) dL_law_412 ?_
  refine lv_aload_n hx hb dL_law_413 rfl (lv_at hl 3 rfl) ?_
  refine cD_i (A0 := (o0, .inl (cJ, 1, .inr (.inl g))) :: U) (Z := V) (rn_SW (n := 3) (As := [.ref x0, .int (xs (nI (iN + 1)).toNatClampNeg), .ref o0]) (rest := []) hx hb hml hown ht hKK hFx hP hD hS hA (hl_find l dC dI cI cB cZ cJ cR tb hst H.size x0 o0 N B U g hN2 hB tz gz xz hU (xs (nI (iN + 1)).toNatClampNeg)) tw_1133 tw_1134 (by decide +kernel) rfl rfl ⟨Nat.le_of_ble_eq_true rfl, Nat.le_of_ble_eq_true rfl⟩ (List.range ((o0, .inl (cJ, 1, .inr (.inl g))) :: U).length) (ixA_map ((o0, .inl (cJ, 1, .inr (.inl g))) :: U) V) (nd_range _) rfl hl.1 rfl (Nat.le_of_ble_eq_true rfl) dL_law_414 ⟨by show _ ≤ 601024; omega, by show _ ≤ 7292999; omega⟩) hP hD hS hA (fun r1 u1 H locs hw hP hD hS => ?_)
  obtain ⟨g1, U1, hu1, hU1, hcx⟩ := hw
  have hu1 : u1 = (o0, .inl (cJ, 1, .inr (.inl g1))) :: U1 := hu1
  subst hu1
  have hcx : ((r1.toInt = 0 ∧ ∃ q9 : Int32, g1 0 = q9.toInt64 ∧ fiR xz.dt xz.tb tz (xs (nI (iN + 1)).toNatClampNeg) q9) ∨ (r1.toInt = 1 ∧ (xs (nI (iN + 1)).toNatClampNeg).toInt ≠ 0 ∧ (xs (nI (iN + 1)).toNatClampNeg).toInt ≠ 1)) := hcx
  have hka : ((r1.toInt = 0 ∧ ((xs (nI (iN + 1)).toNatClampNeg).toInt = 0 ∨ (xs (nI (iN + 1)).toNatClampNeg).toInt = 1)) ∨ (r1.toInt = 1 ∧ (xs (nI (iN + 1)).toNatClampNeg).toInt ≠ 0 ∧ (xs (nI (iN + 1)).toNatClampNeg).toInt ≠ 1)) := hcx.elim (fun z => Or.inl ⟨z.1, z.2.elim (fun _ y => fiR.pa y.2)⟩) Or.inr
  have hP : va_P (dC, dI) vwCl ((o0, .inl (cJ, 1, .inr (.inl g1))) :: (U1 ++ V)) H := hP
  have hD : va_D A ((o0, .inl (cJ, 1, .inr (.inl g1))) :: (U1 ++ V)) := hD
  refine W.widen (k := cells + 1) (n := slots + 6) (by omega) (by omega) ?_
  refine lv_istore (lv' := [(5, .int r1), (0, .ref b), (1, .ref x0), (2, .ref m0), (3, .ref o0), (4, .int (nI iN))]) hx hb dL_law_417 hl (by decide) rfl (fun ls hl => ?_)
  refine lv_aload_n hx hb dL_law_419 rfl (lv_at hl 3 rfl) ?_
  refine lv_aload_n hx hb dL_law_420 rfl (lv_at hl 1 rfl) ?_
  refine lv_iload hx hb dL_law_421 (lv_at hl 5 rfl) ?_
  refine lv_iconst (v := 1) hx hb dL_law_423 (by decide) ?_
  refine lv_iadd hx hb dL_law_424 ?_
  refine tp_i (y := nI (iN + 1)) (nI_add iN 1) ?_
  refine va_sld hx hb hX hbl hbA hS (i := nI (iN + 1)) (vp_in_nI (by omega) (by omega)) dL_law_425 ?_
  obtain ⟨kr2, fs2, hrc2⟩ := MIW.recv hV
  have hP := va_P.perm hP (List.Perm.cons _ List.perm_append_comm)
  have hD := va_D.perm hD (List.Perm.cons _ List.perm_append_comm)
  refine cA_i (rn_Vk (n := 1) (As := [.int (xs (nI (iN + 1)).toNatClampNeg)]) (rest := []) hx hb hml hown ht hKK hFx hP hD hS hA (rl_find l dC dI cI cB cZ cJ cR tb H.size m0 N B V hN1 hN2 hB0 hB tz gz xz hV (xs (nI (iN + 1)).toNatClampNeg)) tw_1135 tw_1136 (by decide +kernel) rfl rfl ⟨Nat.le_of_ble_eq_true rfl, Nat.le_of_ble_eq_true rfl⟩ (ixC V.length) (ixC_map _ _ _) (ixC_nd _) kr2 hrc2 rfl rfl rfl hl.1 rfl (Nat.le_of_ble_eq_true rfl) dL_law_426 ⟨by show _ ≤ 601024; omega, by show _ ≤ 7292999; omega⟩) hP hD hS hA (fun r2 u2 H locs hw2 hP hD hS => ?_)
  have hP := va_P.perm hP (List.Perm.cons _ List.perm_append_comm)
  have hD := va_D.perm hD (List.Perm.cons _ List.perm_append_comm)
  have hP : va_P (dC, dI) vwCl ((o0, .inl (cJ, 1, .inr (.inl g1))) :: (U1 ++ u2)) H := hP
  have hD : va_D A ((o0, .inl (cJ, 1, .inr (.inl g1))) :: (U1 ++ u2)) := hD
  refine W.widen (k := cells + 1) (n := slots + 6) (by omega) (by omega) ?_
  refine lv_istore (lv' := [(6, .int r2), (5, .int r1), (0, .ref b), (1, .ref x0), (2, .ref m0), (3, .ref o0), (4, .int (nI iN))]) hx hb dL_law_429 hl (by decide) rfl (fun ls hl => ?_)
  refine lv_goto (tgt := 993) hx hb dL_law_431 (by decide) ?_
  refine W.widen (k := cells + 13) (n := slots + 338) (by omega) (by omega) ?_
  exact key tz gz xz g1 U1 u2 H locs ls hU1 hw2.w hJ hP hD hS (lv_sub hl [2, 3, 4, 5, 6] rfl)
set_option maxHeartbeats 4000000 in
set_option maxRecDepth 100000 in
theorem lawc_8 {p : Program} {e : Env} {s : State} {m : MethodId} {below : List Frame} {meth : Method} {c : Code} (l : Launch) (hst : l.stackTraces = false) {b L : Nat} {xs : Nat → Int32} {Q : State → Prop} (hx : p.tables.exec = Jvm.exec) (hb : c.code = cL_law) (hml : c.maxLocals = 7) (hown : s.vm.findClass RL = some m.cls) (ht : ∀ w ∈ tw_W, w.before #[Value.ref b] s = true) (hX : va_X b L xs s s.heap) (hbl : b < s.heap.size) {dC : Nat → ClassId} {dI : Nat → Nat → Nat} {cI cB cZ cJ cR : ClassId} {tb : Nat → Nat} {A : Nat → Prop} (hbA : ¬ A b) (hKK : kk_ (dC, dI) (tyS cI cB cZ cJ cR) tb s) (hFx : fx_ tb A s s.heap) (hA : ∀ q, s.heap.size ≤ q → A q) {N : Nat} (hN1 : 256 ≤ N) (hN2 : N ≤ 4096) {B : Int} (hB0 : 0 ≤ B) (hB : B + 50000 ≤ 200000000) {x0 m0 o0 : Nat} {U V : va_W} {g : Nat → Int64} {tz gz : Int} {xz : ZG} (hU : KI N B x0 cI cB cR tz gz xz U) (hV : MIW N B m0 cI cZ cJ tz gz xz V) (hJ : GJz N xz.dt xz.cs xz.ms) {H : Heap} {locs : List Loc} {ls : Array Slot} {cells slots : Nat} (hce : cells + 13 ≤ 601024) (hsl : slots + 338 ≤ 7292999) {iN : Nat} (hi : iN + 6 ≤ L) (hL : L ≤ 3073) (hP : va_P (dC, dI) vwCl ((o0, .inl (cJ, 1, .inr (.inl g))) :: (U ++ V)) H) (hD : va_D A ((o0, .inl (cJ, 1, .inr (.inl g))) :: (U ++ V))) (hS : va_S A s.heap H locs) (hl : lv_has ls 7 [(0, .ref b), (1, .ref x0), (2, .ref m0), (3, .ref o0), (4, .int (nI iN))])
    (key : ∀ (t9 z9 : Int) (x9 : ZG) (g9 : Nat → Int64) (U9 V9 : va_W) (H : Heap) (locs : List Loc) (ls : Array Slot), KI N (B + 50000) x0 cI cB cR t9 z9 x9 U9 → MIW N (B + 50000) m0 cI cZ cJ t9 z9 x9 V9 → GJz N x9.dt x9.cs x9.ms → va_P (dC, dI) vwCl ((o0, .inl (cJ, 1, .inr (.inl g9))) :: (U9 ++ V9)) H → va_D A ((o0, .inl (cJ, 1, .inr (.inl g9))) :: (U9 ++ V9)) → va_S A s.heap H locs → lv_has ls 7 [(0, .ref b), (1, .ref x0), (2, .ref m0), (3, .ref o0), (4, .int (nI iN))] → W p l e room_1 s m #[Value.ref b] below meth c H locs (cells + 13) (slots + 338) Q (F0 m 993 ls [])) : W p l e room_1 s m #[Value.ref b] below meth c H locs cells slots Q (F0 m 434 ls []) := by
  have hK := hKK.1
  refine lv_aload_n hx hb dL_law_434 rfl (lv_at hl 1 rfl) ?_
  refine lv_aload_n hx hb dL_law_435 rfl (lv_at hl 0 rfl) ?_
  refine lv_iload hx hb dL_law_436 (lv_at hl 4 rfl) ?_
  refine lv_iconst (v := 1) hx hb dL_law_438 (by decide) ?_
  refine lv_iadd hx hb dL_law_439 ?_
  refine tp_i (y := nI (iN + 1)) (nI_add iN 1) ?_
  refine va_sld hx hb hX hbl hbA hS (i := nI (iN + 1)) (vp_in_nI (by omega) (by omega)) dL_law_440 ?_
  obtain ⟨kr1, fs1, hrc1⟩ := KI.recv hU
  refine cA_i (rn_Vk (n := 1) (As := [.int (xs (nI (iN + 1)).toNatClampNeg)]) (rest := []) hx hb hml hown ht hKK hFx hP hD hS hA (kl_give l dC dI cI cB cZ cJ cR tb hst H.size x0 N B U hN2 hB tz gz xz hU (xs (nI (iN + 1)).toNatClampNeg)) tw_1137 tw_1138 (by decide +kernel) rfl rfl ⟨Nat.le_of_ble_eq_true rfl, Nat.le_of_ble_eq_true rfl⟩ (ixC U.length) (ixC_map _ _ _) (ixC_nd _) kr1 hrc1 rfl rfl rfl hl.1 rfl (Nat.le_of_ble_eq_true rfl) dL_law_441 ⟨by show _ ≤ 601024; omega, by show _ ≤ 7292999; omega⟩) hP hD hS hA (fun r1 u1 H locs hw1 hP hD hS => ?_)
  obtain ⟨t1, z1, hU1, hr1⟩ := hw1
  have hP : va_P (dC, dI) vwCl ((o0, .inl (cJ, 1, .inr (.inl g))) :: (u1 ++ V)) H := hP
  have hD : va_D A ((o0, .inl (cJ, 1, .inr (.inl g))) :: (u1 ++ V)) := hD
  refine W.widen (k := cells + 0) (n := slots + 0) (by omega) (by omega) ?_
  refine lv_pop hx hb dL_law_444 rfl ?_
  refine lv_aload_n hx hb dL_law_445 rfl (lv_at hl 2 rfl) ?_
  refine lv_aload_n hx hb dL_law_446 rfl (lv_at hl 0 rfl) ?_
  refine lv_iload hx hb dL_law_447 (lv_at hl 4 rfl) ?_
  refine lv_iconst (v := 1) hx hb dL_law_449 (by decide) ?_
  refine lv_iadd hx hb dL_law_450 ?_
  refine tp_i (y := nI (iN + 1)) (nI_add iN 1) ?_
  refine va_sld hx hb hX hbl hbA hS (i := nI (iN + 1)) (vp_in_nI (by omega) (by omega)) dL_law_451 ?_
  obtain ⟨kr2, fs2, hrc2⟩ := MIW.recv hV
  have hP := va_P.perm hP (List.Perm.cons _ List.perm_append_comm)
  have hD := va_D.perm hD (List.Perm.cons _ List.perm_append_comm)
  refine cA_i (rn_Vk (n := 1) (As := [.int (xs (nI (iN + 1)).toNatClampNeg)]) (rest := []) hx hb hml hown ht hKK hFx hP hD hS hA (rl_give l dC dI cI cB cZ cJ cR tb H.size m0 N B V hN1 hN2 hB0 hB tz gz xz hV (xs (nI (iN + 1)).toNatClampNeg)) tw_1139 tw_1140 (by decide +kernel) rfl rfl ⟨Nat.le_of_ble_eq_true rfl, Nat.le_of_ble_eq_true rfl⟩ (ixC V.length) (ixC_map _ _ _) (ixC_nd _) kr2 hrc2 rfl rfl rfl hl.1 rfl (Nat.le_of_ble_eq_true rfl) dL_law_452 ⟨by show _ ≤ 601024; omega, by show _ ≤ 7292999; omega⟩) hP hD hS hA (fun r2 u2 H locs hw2 hP hD hS => ?_)
  have hP := va_P.perm hP (List.Perm.cons _ List.perm_append_comm)
  have hD := va_D.perm hD (List.Perm.cons _ List.perm_append_comm)
  obtain ⟨t2, z2, hV2, hr2⟩ := hw2
  rw [show t2 = t1 by omega, show z2 = z1 by omega] at hV2
  have hP : va_P (dC, dI) vwCl ((o0, .inl (cJ, 1, .inr (.inl g))) :: (u1 ++ u2)) H := hP
  have hD : va_D A ((o0, .inl (cJ, 1, .inr (.inl g))) :: (u1 ++ u2)) := hD
  refine W.widen (k := cells + 0) (n := slots + 0) (by omega) (by omega) ?_
  refine lv_pop hx hb dL_law_455 rfl ?_
  refine lv_goto (tgt := 993) hx hb dL_law_456 (by decide) ?_
  refine W.widen (k := cells + 13) (n := slots + 338) (by omega) (by omega) ?_
  exact key t1 z1 (xz.gi gz (xs (nI (iN + 1)).toNatClampNeg)) g u1 u2 H locs ls hU1 hV2 hJ hP hD hS (lv_sub hl [0, 1, 2, 3, 4] rfl)
set_option maxHeartbeats 4000000 in
set_option maxRecDepth 100000 in
theorem lawc_9 {p : Program} {e : Env} {s : State} {m : MethodId} {below : List Frame} {meth : Method} {c : Code} (l : Launch) (hst : l.stackTraces = false) {b L : Nat} {xs : Nat → Int32} {Q : State → Prop} (hx : p.tables.exec = Jvm.exec) (hb : c.code = cL_law) (hml : c.maxLocals = 7) (hown : s.vm.findClass RL = some m.cls) (ht : ∀ w ∈ tw_W, w.before #[Value.ref b] s = true) (hX : va_X b L xs s s.heap) (hbl : b < s.heap.size) {dC : Nat → ClassId} {dI : Nat → Nat → Nat} {cI cB cZ cJ cR : ClassId} {tb : Nat → Nat} {A : Nat → Prop} (hbA : ¬ A b) (hKK : kk_ (dC, dI) (tyS cI cB cZ cJ cR) tb s) (hFx : fx_ tb A s s.heap) (hA : ∀ q, s.heap.size ≤ q → A q) {N : Nat} (hN1 : 256 ≤ N) (hN2 : N ≤ 4096) {B : Int} (hB0 : 0 ≤ B) (hB : B + 50000 ≤ 200000000) {x0 m0 o0 : Nat} {U V : va_W} {g : Nat → Int64} {tz gz : Int} {xz : ZG} (hU : KI N B x0 cI cB cR tz gz xz U) (hV : MIW N B m0 cI cZ cJ tz gz xz V) (hJ : GJz N xz.dt xz.cs xz.ms) {H : Heap} {locs : List Loc} {ls : Array Slot} {cells slots : Nat} (hce : cells + 13 ≤ 601024) (hsl : slots + 338 ≤ 7292999) {iN : Nat} (hi : iN + 6 ≤ L) (hL : L ≤ 3073) (hP : va_P (dC, dI) vwCl ((o0, .inl (cJ, 1, .inr (.inl g))) :: (U ++ V)) H) (hD : va_D A ((o0, .inl (cJ, 1, .inr (.inl g))) :: (U ++ V))) (hS : va_S A s.heap H locs) (hl : lv_has ls 7 [(0, .ref b), (1, .ref x0), (2, .ref m0), (3, .ref o0), (4, .int (nI iN))])
    (key : ∀ (t9 z9 : Int) (x9 : ZG) (g9 : Nat → Int64) (U9 V9 : va_W) (H : Heap) (locs : List Loc) (ls : Array Slot), KI N (B + 50000) x0 cI cB cR t9 z9 x9 U9 → MIW N (B + 50000) m0 cI cZ cJ t9 z9 x9 V9 → GJz N x9.dt x9.cs x9.ms → va_P (dC, dI) vwCl ((o0, .inl (cJ, 1, .inr (.inl g9))) :: (U9 ++ V9)) H → va_D A ((o0, .inl (cJ, 1, .inr (.inl g9))) :: (U9 ++ V9)) → va_S A s.heap H locs → lv_has ls 7 [(0, .ref b), (1, .ref x0), (2, .ref m0), (3, .ref o0), (4, .int (nI iN))] → W p l e room_1 s m #[Value.ref b] below meth c H locs (cells + 13) (slots + 338) Q (F0 m 993 ls [])) : W p l e room_1 s m #[Value.ref b] below meth c H locs cells slots Q (F0 m 459 ls []) := by
  have hK := hKK.1
  refine lv_aload_n hx hb dL_law_459 rfl (lv_at hl 1 rfl) ?_
  obtain ⟨kr1, fs1, hrc1⟩ := KI.recv hU
  refine cA_i (rn_Vk (n := 0) (As := []) (rest := []) hx hb hml hown ht hKK hFx hP hD hS hA (kl_forget l dC dI cI cB cZ cJ cR tb hst H.size x0 N B U hN2 hB tz gz xz hU ) tw_1141 tw_1142 (by decide +kernel) rfl rfl ⟨Nat.le_of_ble_eq_true rfl, Nat.le_of_ble_eq_true rfl⟩ (ixC U.length) (ixC_map _ _ _) (ixC_nd _) kr1 hrc1 rfl rfl rfl hl.1 rfl (Nat.le_of_ble_eq_true rfl) dL_law_460 ⟨by show _ ≤ 601024; omega, by show _ ≤ 7292999; omega⟩) hP hD hS hA (fun r1 u1 H locs hw1 hP hD hS => ?_)
  obtain ⟨t1, z1, hU1, hr1⟩ := hw1
  have hP : va_P (dC, dI) vwCl ((o0, .inl (cJ, 1, .inr (.inl g))) :: (u1 ++ V)) H := hP
  have hD : va_D A ((o0, .inl (cJ, 1, .inr (.inl g))) :: (u1 ++ V)) := hD
  refine W.widen (k := cells + 0) (n := slots + 0) (by omega) (by omega) ?_
  refine lv_pop hx hb dL_law_463 rfl ?_
  refine lv_aload_n hx hb dL_law_464 rfl (lv_at hl 2 rfl) ?_
  obtain ⟨kr2, fs2, hrc2⟩ := MIW.recv hV
  have hP := va_P.perm hP (List.Perm.cons _ List.perm_append_comm)
  have hD := va_D.perm hD (List.Perm.cons _ List.perm_append_comm)
  refine cA_i (rn_Vk (n := 0) (As := []) (rest := []) hx hb hml hown ht hKK hFx hP hD hS hA (rl_forget l dC dI cI cB cZ cJ cR tb H.size m0 N B V hN1 hN2 hB0 hB tz gz xz hV ) tw_1143 tw_1144 (by decide +kernel) rfl rfl ⟨Nat.le_of_ble_eq_true rfl, Nat.le_of_ble_eq_true rfl⟩ (ixC V.length) (ixC_map _ _ _) (ixC_nd _) kr2 hrc2 rfl rfl rfl hl.1 rfl (Nat.le_of_ble_eq_true rfl) dL_law_465 ⟨by show _ ≤ 601024; omega, by show _ ≤ 7292999; omega⟩) hP hD hS hA (fun r2 u2 H locs hw2 hP hD hS => ?_)
  have hP := va_P.perm hP (List.Perm.cons _ List.perm_append_comm)
  have hD := va_D.perm hD (List.Perm.cons _ List.perm_append_comm)
  obtain ⟨t2, z2, hV2, hr2⟩ := hw2
  rw [show t2 = t1 by omega, show z2 = z1 by omega] at hV2
  have hP : va_P (dC, dI) vwCl ((o0, .inl (cJ, 1, .inr (.inl g))) :: (u1 ++ u2)) H := hP
  have hD : va_D A ((o0, .inl (cJ, 1, .inr (.inl g))) :: (u1 ++ u2)) := hD
  refine W.widen (k := cells + 0) (n := slots + 0) (by omega) (by omega) ?_
  refine lv_pop hx hb dL_law_468 rfl ?_
  refine lv_goto (tgt := 993) hx hb dL_law_469 (by decide) ?_
  refine W.widen (k := cells + 13) (n := slots + 338) (by omega) (by omega) ?_
  exact key t1 z1 xz g u1 u2 H locs ls hU1 hV2 hJ hP hD hS (lv_sub hl [0, 1, 2, 3, 4] rfl)
set_option maxHeartbeats 4000000 in
set_option maxRecDepth 100000 in
theorem lawc_10 {p : Program} {e : Env} {s : State} {m : MethodId} {below : List Frame} {meth : Method} {c : Code} (l : Launch) (hst : l.stackTraces = false) {b L : Nat} {xs : Nat → Int32} {Q : State → Prop} (hx : p.tables.exec = Jvm.exec) (hb : c.code = cL_law) (hml : c.maxLocals = 7) (hown : s.vm.findClass RL = some m.cls) (ht : ∀ w ∈ tw_W, w.before #[Value.ref b] s = true) (hX : va_X b L xs s s.heap) (hbl : b < s.heap.size) {dC : Nat → ClassId} {dI : Nat → Nat → Nat} {cI cB cZ cJ cR : ClassId} {tb : Nat → Nat} {A : Nat → Prop} (hbA : ¬ A b) (hKK : kk_ (dC, dI) (tyS cI cB cZ cJ cR) tb s) (hFx : fx_ tb A s s.heap) (hA : ∀ q, s.heap.size ≤ q → A q) {N : Nat} (hN1 : 256 ≤ N) (hN2 : N ≤ 4096) {B : Int} (hB0 : 0 ≤ B) (hB : B + 50000 ≤ 200000000) {x0 m0 o0 : Nat} {U V : va_W} {g : Nat → Int64} {tz gz : Int} {xz : ZG} (hU : KI N B x0 cI cB cR tz gz xz U) (hV : MIW N B m0 cI cZ cJ tz gz xz V) (hJ : GJz N xz.dt xz.cs xz.ms) {H : Heap} {locs : List Loc} {ls : Array Slot} {cells slots : Nat} (hce : cells + 13 ≤ 601024) (hsl : slots + 338 ≤ 7292999) {iN : Nat} (hi : iN + 6 ≤ L) (hL : L ≤ 3073) (hP : va_P (dC, dI) vwCl ((o0, .inl (cJ, 1, .inr (.inl g))) :: (U ++ V)) H) (hD : va_D A ((o0, .inl (cJ, 1, .inr (.inl g))) :: (U ++ V))) (hS : va_S A s.heap H locs) (hl : lv_has ls 7 [(0, .ref b), (1, .ref x0), (2, .ref m0), (3, .ref o0), (4, .int (nI iN))])
    (key : ∀ (t9 z9 : Int) (x9 : ZG) (g9 : Nat → Int64) (U9 V9 : va_W) (H : Heap) (locs : List Loc) (ls : Array Slot), KI N (B + 50000) x0 cI cB cR t9 z9 x9 U9 → MIW N (B + 50000) m0 cI cZ cJ t9 z9 x9 V9 → GJz N x9.dt x9.cs x9.ms → va_P (dC, dI) vwCl ((o0, .inl (cJ, 1, .inr (.inl g9))) :: (U9 ++ V9)) H → va_D A ((o0, .inl (cJ, 1, .inr (.inl g9))) :: (U9 ++ V9)) → va_S A s.heap H locs → lv_has ls 7 [(0, .ref b), (1, .ref x0), (2, .ref m0), (3, .ref o0), (4, .int (nI iN))] → W p l e room_1 s m #[Value.ref b] below meth c H locs (cells + 13) (slots + 338) Q (F0 m 993 ls [])) : W p l e room_1 s m #[Value.ref b] below meth c H locs cells slots Q (F0 m 472 ls []) := by
  have hK := hKK.1
  refine lv_aload_n hx hb dL_law_472 rfl (lv_at hl 1 rfl) ?_
  refine lv_aload_n hx hb dL_law_473 rfl (lv_at hl 0 rfl) ?_
  refine lv_iload hx hb dL_law_474 (lv_at hl 4 rfl) ?_
  refine lv_iconst (v := 1) hx hb dL_law_476 (by decide) ?_
  refine lv_iadd hx hb dL_law_477 ?_
  refine tp_i (y := nI (iN + 1)) (nI_add iN 1) ?_
  refine va_sld hx hb hX hbl hbA hS (i := nI (iN + 1)) (vp_in_nI (by omega) (by omega)) dL_law_478 ?_
  refine lv_aload_n hx hb dL_law_479 rfl (lv_at hl 0 rfl) ?_
  refine lv_iload hx hb dL_law_480 (lv_at hl 4 rfl) ?_
  refine lv_iconst (v := 2) hx hb dL_law_482 (by decide) ?_
  refine lv_iadd hx hb dL_law_483 ?_
  refine tp_i (y := nI (iN + 2)) (nI_add iN 2) ?_
  refine va_sld hx hb hX hbl hbA hS (i := nI (iN + 2)) (vp_in_nI (by omega) (by omega)) dL_law_484 ?_
  refine lv_aload_n hx hb dL_law_485 rfl (lv_at hl 0 rfl) ?_
  refine lv_iload hx hb dL_law_486 (lv_at hl 4 rfl) ?_
  refine lv_iconst (v := 3) hx hb dL_law_488 (by decide) ?_
  refine lv_iadd hx hb dL_law_489 ?_
  refine tp_i (y := nI (iN + 3)) (nI_add iN 3) ?_
  refine va_sld hx hb hX hbl hbA hS (i := nI (iN + 3)) (vp_in_nI (by omega) (by omega)) dL_law_490 ?_
  obtain ⟨kr1, fs1, hrc1⟩ := KI.recv hU
  refine cA_i (rn_Vk (n := 3) (As := [.int (xs (nI (iN + 1)).toNatClampNeg), .int (xs (nI (iN + 2)).toNatClampNeg), .int (xs (nI (iN + 3)).toNatClampNeg)]) (rest := []) hx hb hml hown ht hKK hFx hP hD hS hA (kl_start l dC dI cI cB cZ cJ cR tb hst H.size x0 N B U hN2 hB tz gz xz hU (xs (nI (iN + 1)).toNatClampNeg) (xs (nI (iN + 2)).toNatClampNeg) (xs (nI (iN + 3)).toNatClampNeg)) tw_1145 tw_1146 (by decide +kernel) rfl rfl ⟨Nat.le_of_ble_eq_true rfl, Nat.le_of_ble_eq_true rfl⟩ (ixC U.length) (ixC_map _ _ _) (ixC_nd _) kr1 hrc1 rfl rfl rfl hl.1 rfl (Nat.le_of_ble_eq_true rfl) dL_law_491 ⟨by show _ ≤ 601024; omega, by show _ ≤ 7292999; omega⟩) hP hD hS hA (fun r1 u1 H locs hw1 hP hD hS => ?_)
  obtain ⟨hU1, hr1⟩ := hw1
  have hP : va_P (dC, dI) vwCl ((o0, .inl (cJ, 1, .inr (.inl g))) :: (u1 ++ V)) H := hP
  have hD : va_D A ((o0, .inl (cJ, 1, .inr (.inl g))) :: (u1 ++ V)) := hD
  refine W.widen (k := cells + 0) (n := slots + 0) (by omega) (by omega) ?_
  refine lv_pop hx hb dL_law_494 rfl ?_
  refine lv_aload_n hx hb dL_law_495 rfl (lv_at hl 2 rfl) ?_
  refine lv_aload_n hx hb dL_law_496 rfl (lv_at hl 0 rfl) ?_
  refine lv_iload hx hb dL_law_497 (lv_at hl 4 rfl) ?_
  refine lv_iconst (v := 1) hx hb dL_law_499 (by decide) ?_
  refine lv_iadd hx hb dL_law_500 ?_
  refine tp_i (y := nI (iN + 1)) (nI_add iN 1) ?_
  refine va_sld hx hb hX hbl hbA hS (i := nI (iN + 1)) (vp_in_nI (by omega) (by omega)) dL_law_501 ?_
  refine lv_aload_n hx hb dL_law_502 rfl (lv_at hl 0 rfl) ?_
  refine lv_iload hx hb dL_law_503 (lv_at hl 4 rfl) ?_
  refine lv_iconst (v := 2) hx hb dL_law_505 (by decide) ?_
  refine lv_iadd hx hb dL_law_506 ?_
  refine tp_i (y := nI (iN + 2)) (nI_add iN 2) ?_
  refine va_sld hx hb hX hbl hbA hS (i := nI (iN + 2)) (vp_in_nI (by omega) (by omega)) dL_law_507 ?_
  refine lv_aload_n hx hb dL_law_508 rfl (lv_at hl 0 rfl) ?_
  refine lv_iload hx hb dL_law_509 (lv_at hl 4 rfl) ?_
  refine lv_iconst (v := 3) hx hb dL_law_511 (by decide) ?_
  refine lv_iadd hx hb dL_law_512 ?_
  refine tp_i (y := nI (iN + 3)) (nI_add iN 3) ?_
  refine va_sld hx hb hX hbl hbA hS (i := nI (iN + 3)) (vp_in_nI (by omega) (by omega)) dL_law_513 ?_
  obtain ⟨kr2, fs2, hrc2⟩ := MIW.recv hV
  have hP := va_P.perm hP (List.Perm.cons _ List.perm_append_comm)
  have hD := va_D.perm hD (List.Perm.cons _ List.perm_append_comm)
  refine cA_i (rn_Vk (n := 3) (As := [.int (xs (nI (iN + 1)).toNatClampNeg), .int (xs (nI (iN + 2)).toNatClampNeg), .int (xs (nI (iN + 3)).toNatClampNeg)]) (rest := []) hx hb hml hown ht hKK hFx hP hD hS hA (rl_start l dC dI cI cB cZ cJ cR tb H.size m0 N B V hN1 hN2 hB0 hB tz gz xz hV (xs (nI (iN + 1)).toNatClampNeg) (xs (nI (iN + 2)).toNatClampNeg) (xs (nI (iN + 3)).toNatClampNeg)) tw_1147 tw_1148 (by decide +kernel) rfl rfl ⟨Nat.le_of_ble_eq_true rfl, Nat.le_of_ble_eq_true rfl⟩ (ixC V.length) (ixC_map _ _ _) (ixC_nd _) kr2 hrc2 rfl rfl rfl hl.1 rfl (Nat.le_of_ble_eq_true rfl) dL_law_514 ⟨by show _ ≤ 601024; omega, by show _ ≤ 7292999; omega⟩) hP hD hS hA (fun r2 u2 H locs hw2 hP hD hS => ?_)
  have hP := va_P.perm hP (List.Perm.cons _ List.perm_append_comm)
  have hD := va_D.perm hD (List.Perm.cons _ List.perm_append_comm)
  obtain ⟨hV2, hr2⟩ := hw2
  have hP : va_P (dC, dI) vwCl ((o0, .inl (cJ, 1, .inr (.inl g))) :: (u1 ++ u2)) H := hP
  have hD : va_D A ((o0, .inl (cJ, 1, .inr (.inl g))) :: (u1 ++ u2)) := hD
  refine W.widen (k := cells + 0) (n := slots + 0) (by omega) (by omega) ?_
  refine lv_pop hx hb dL_law_517 rfl ?_
  refine lv_goto (tgt := 993) hx hb dL_law_518 (by decide) ?_
  refine W.widen (k := cells + 13) (n := slots + 338) (by omega) (by omega) ?_
  exact key tz gz xz g u1 u2 H locs ls hU1 hV2 hJ hP hD hS (lv_sub hl [0, 1, 2, 3, 4] rfl)
set_option maxHeartbeats 4000000 in
set_option maxRecDepth 100000 in
theorem lawc_11 {p : Program} {e : Env} {s : State} {m : MethodId} {below : List Frame} {meth : Method} {c : Code} (l : Launch) (hst : l.stackTraces = false) {b L : Nat} {xs : Nat → Int32} {Q : State → Prop} (hx : p.tables.exec = Jvm.exec) (hb : c.code = cL_law) (hml : c.maxLocals = 7) (hown : s.vm.findClass RL = some m.cls) (ht : ∀ w ∈ tw_W, w.before #[Value.ref b] s = true) (hX : va_X b L xs s s.heap) (hbl : b < s.heap.size) {dC : Nat → ClassId} {dI : Nat → Nat → Nat} {cI cB cZ cJ cR : ClassId} {tb : Nat → Nat} {A : Nat → Prop} (hbA : ¬ A b) (hKK : kk_ (dC, dI) (tyS cI cB cZ cJ cR) tb s) (hFx : fx_ tb A s s.heap) (hA : ∀ q, s.heap.size ≤ q → A q) {N : Nat} (hN1 : 256 ≤ N) (hN2 : N ≤ 4096) {B : Int} (hB0 : 0 ≤ B) (hB : B + 50000 ≤ 200000000) {x0 m0 o0 : Nat} {U V : va_W} {g : Nat → Int64} {tz gz : Int} {xz : ZG} (hU : KI N B x0 cI cB cR tz gz xz U) (hV : MIW N B m0 cI cZ cJ tz gz xz V) (hJ : GJz N xz.dt xz.cs xz.ms) {H : Heap} {locs : List Loc} {ls : Array Slot} {cells slots : Nat} (hce : cells + 13 ≤ 601024) (hsl : slots + 338 ≤ 7292999) {iN : Nat} (hi : iN + 6 ≤ L) (hL : L ≤ 3073) (hP : va_P (dC, dI) vwCl ((o0, .inl (cJ, 1, .inr (.inl g))) :: (U ++ V)) H) (hD : va_D A ((o0, .inl (cJ, 1, .inr (.inl g))) :: (U ++ V))) (hS : va_S A s.heap H locs) (hl : lv_has ls 7 [(0, .ref b), (1, .ref x0), (2, .ref m0), (3, .ref o0), (4, .int (nI iN))])
    (key : ∀ (t9 z9 : Int) (x9 : ZG) (g9 : Nat → Int64) (U9 V9 : va_W) (H : Heap) (locs : List Loc) (ls : Array Slot), KI N (B + 50000) x0 cI cB cR t9 z9 x9 U9 → MIW N (B + 50000) m0 cI cZ cJ t9 z9 x9 V9 → GJz N x9.dt x9.cs x9.ms → va_P (dC, dI) vwCl ((o0, .inl (cJ, 1, .inr (.inl g9))) :: (U9 ++ V9)) H → va_D A ((o0, .inl (cJ, 1, .inr (.inl g9))) :: (U9 ++ V9)) → va_S A s.heap H locs → lv_has ls 7 [(0, .ref b), (1, .ref x0), (2, .ref m0), (3, .ref o0), (4, .int (nI iN))] → W p l e room_1 s m #[Value.ref b] below meth c H locs (cells + 13) (slots + 338) Q (F0 m 993 ls [])) : W p l e room_1 s m #[Value.ref b] below meth c H locs cells slots Q (F0 m 521 ls []) := by
  have hK := hKK.1
  refine lv_aload_n hx hb dL_law_521 rfl (lv_at hl 1 rfl) ?_
  obtain ⟨kr1, fs1, hrc1⟩ := KI.recv hU
  refine cA_i (rn_Vk (n := 0) (As := []) (rest := []) hx hb hml hown ht hKK hFx hP hD hS hA (kl_step l dC dI cI cB cZ cJ cR tb hst H.size x0 N B U hN2 hB tz gz xz hU ) tw_1149 tw_1150 (by decide +kernel) rfl rfl ⟨Nat.le_of_ble_eq_true rfl, Nat.le_of_ble_eq_true rfl⟩ (ixC U.length) (ixC_map _ _ _) (ixC_nd _) kr1 hrc1 rfl rfl rfl hl.1 rfl (Nat.le_of_ble_eq_true rfl) dL_law_522 ⟨by show _ ≤ 601024; omega, by show _ ≤ 7292999; omega⟩) hP hD hS hA (fun r1 u1 H locs hw1 hP hD hS => ?_)
  have hP : va_P (dC, dI) vwCl ((o0, .inl (cJ, 1, .inr (.inl g))) :: (u1 ++ V)) H := hP
  have hD : va_D A ((o0, .inl (cJ, 1, .inr (.inl g))) :: (u1 ++ V)) := hD
  refine W.widen (k := cells + 0) (n := slots + 0) (by omega) (by omega) ?_
  refine lv_pop hx hb dL_law_525 rfl ?_
  refine lv_aload_n hx hb dL_law_526 rfl (lv_at hl 2 rfl) ?_
  obtain ⟨kr2, fs2, hrc2⟩ := MIW.recv hV
  have hP := va_P.perm hP (List.Perm.cons _ List.perm_append_comm)
  have hD := va_D.perm hD (List.Perm.cons _ List.perm_append_comm)
  refine cA_i (rn_Vk (n := 0) (As := []) (rest := []) hx hb hml hown ht hKK hFx hP hD hS hA (rl_step l dC dI cI cB cZ cJ cR tb H.size m0 N B V hN1 hN2 hB0 hB tz gz xz hV ) tw_1151 tw_1152 (by decide +kernel) rfl rfl ⟨Nat.le_of_ble_eq_true rfl, Nat.le_of_ble_eq_true rfl⟩ (ixC V.length) (ixC_map _ _ _) (ixC_nd _) kr2 hrc2 rfl rfl rfl hl.1 rfl (Nat.le_of_ble_eq_true rfl) dL_law_527 ⟨by show _ ≤ 601024; omega, by show _ ≤ 7292999; omega⟩) hP hD hS hA (fun r2 u2 H locs hw2 hP hD hS => ?_)
  have hP := va_P.perm hP (List.Perm.cons _ List.perm_append_comm)
  have hD := va_D.perm hD (List.Perm.cons _ List.perm_append_comm)
  have hP : va_P (dC, dI) vwCl ((o0, .inl (cJ, 1, .inr (.inl g))) :: (u1 ++ u2)) H := hP
  have hD : va_D A ((o0, .inl (cJ, 1, .inr (.inl g))) :: (u1 ++ u2)) := hD
  refine W.widen (k := cells + 0) (n := slots + 0) (by omega) (by omega) ?_
  refine lv_pop hx hb dL_law_530 rfl ?_
  refine lv_goto (tgt := 993) hx hb dL_law_531 (by decide) ?_
  refine W.widen (k := cells + 13) (n := slots + 338) (by omega) (by omega) ?_
  exact key tz gz xz g u1 u2 H locs ls hw1 hw2 hJ hP hD hS (lv_sub hl [0, 1, 2, 3, 4] rfl)
set_option maxHeartbeats 4000000 in
set_option maxRecDepth 100000 in
theorem lawc_12 {p : Program} {e : Env} {s : State} {m : MethodId} {below : List Frame} {meth : Method} {c : Code} (l : Launch) (hst : l.stackTraces = false) {b L : Nat} {xs : Nat → Int32} {Q : State → Prop} (hx : p.tables.exec = Jvm.exec) (hb : c.code = cL_law) (hml : c.maxLocals = 7) (hown : s.vm.findClass RL = some m.cls) (ht : ∀ w ∈ tw_W, w.before #[Value.ref b] s = true) (hX : va_X b L xs s s.heap) (hbl : b < s.heap.size) {dC : Nat → ClassId} {dI : Nat → Nat → Nat} {cI cB cZ cJ cR : ClassId} {tb : Nat → Nat} {A : Nat → Prop} (hbA : ¬ A b) (hKK : kk_ (dC, dI) (tyS cI cB cZ cJ cR) tb s) (hFx : fx_ tb A s s.heap) (hA : ∀ q, s.heap.size ≤ q → A q) {N : Nat} (hN1 : 256 ≤ N) (hN2 : N ≤ 4096) {B : Int} (hB0 : 0 ≤ B) (hB : B + 50000 ≤ 200000000) {x0 m0 o0 : Nat} {U V : va_W} {g : Nat → Int64} {tz gz : Int} {xz : ZG} (hU : KI N B x0 cI cB cR tz gz xz U) (hV : MIW N B m0 cI cZ cJ tz gz xz V) (hJ : GJz N xz.dt xz.cs xz.ms) {H : Heap} {locs : List Loc} {ls : Array Slot} {cells slots : Nat} (hce : cells + 13 ≤ 601024) (hsl : slots + 338 ≤ 7292999) {iN : Nat} (hi : iN + 6 ≤ L) (hL : L ≤ 3073) (hP : va_P (dC, dI) vwCl ((o0, .inl (cJ, 1, .inr (.inl g))) :: (U ++ V)) H) (hD : va_D A ((o0, .inl (cJ, 1, .inr (.inl g))) :: (U ++ V))) (hS : va_S A s.heap H locs) (hl : lv_has ls 7 [(0, .ref b), (1, .ref x0), (2, .ref m0), (3, .ref o0), (4, .int (nI iN))])
    (key : ∀ (t9 z9 : Int) (x9 : ZG) (g9 : Nat → Int64) (U9 V9 : va_W) (H : Heap) (locs : List Loc) (ls : Array Slot), KI N (B + 50000) x0 cI cB cR t9 z9 x9 U9 → MIW N (B + 50000) m0 cI cZ cJ t9 z9 x9 V9 → GJz N x9.dt x9.cs x9.ms → va_P (dC, dI) vwCl ((o0, .inl (cJ, 1, .inr (.inl g9))) :: (U9 ++ V9)) H → va_D A ((o0, .inl (cJ, 1, .inr (.inl g9))) :: (U9 ++ V9)) → va_S A s.heap H locs → lv_has ls 7 [(0, .ref b), (1, .ref x0), (2, .ref m0), (3, .ref o0), (4, .int (nI iN))] → W p l e room_1 s m #[Value.ref b] below meth c H locs (cells + 13) (slots + 338) Q (F0 m 993 ls [])) : W p l e room_1 s m #[Value.ref b] below meth c H locs cells slots Q (F0 m 534 ls []) := by
  have hK := hKK.1
  refine lv_aload_n hx hb dL_law_534 rfl (lv_at hl 1 rfl) ?_
  refine lv_aload_n hx hb dL_law_535 rfl (lv_at hl 0 rfl) ?_
  refine lv_iload hx hb dL_law_536 (lv_at hl 4 rfl) ?_
  refine lv_iconst (v := 1) hx hb dL_law_538 (by decide) ?_
  refine lv_iadd hx hb dL_law_539 ?_
  refine tp_i (y := nI (iN + 1)) (nI_add iN 1) ?_
  refine va_sld hx hb hX hbl hbA hS (i := nI (iN + 1)) (vp_in_nI (by omega) (by omega)) dL_law_540 ?_
  refine lv_aload_n hx hb dL_law_541 rfl (lv_at hl 3 rfl) ?_
  refine cD_i (A0 := (o0, .inl (cJ, 1, .inr (.inl g))) :: U) (Z := V) (rn_SW (n := 3) (As := [.ref x0, .int (xs (nI (iN + 1)).toNatClampNeg), .ref o0]) (rest := []) hx hb hml hown ht hKK hFx hP hD hS hA (hl_run l dC dI cI cB cZ cJ cR tb hst H.size x0 o0 N B U g hN2 hB tz gz xz hU (xs (nI (iN + 1)).toNatClampNeg)) tw_1153 tw_1154 (by decide +kernel) rfl rfl ⟨Nat.le_of_ble_eq_true rfl, Nat.le_of_ble_eq_true rfl⟩ (List.range ((o0, .inl (cJ, 1, .inr (.inl g))) :: U).length) (ixA_map ((o0, .inl (cJ, 1, .inr (.inl g))) :: U) V) (nd_range _) rfl hl.1 rfl (Nat.le_of_ble_eq_true rfl) dL_law_542 ⟨by show _ ≤ 601024; omega, by show _ ≤ 7292999; omega⟩) hP hD hS hA (fun r1 u1 H locs hw hP hD hS => ?_)
  obtain ⟨g1, U1, hu1, hU1⟩ := hw
  have hu1 : u1 = (o0, .inl (cJ, 1, .inr (.inl g1))) :: U1 := hu1
  subst hu1
  have hP : va_P (dC, dI) vwCl ((o0, .inl (cJ, 1, .inr (.inl g1))) :: (U1 ++ V)) H := hP
  have hD : va_D A ((o0, .inl (cJ, 1, .inr (.inl g1))) :: (U1 ++ V)) := hD
  refine W.widen (k := cells + 1) (n := slots + 6) (by omega) (by omega) ?_
  refine lv_istore (lv' := [(5, .int r1), (0, .ref b), (1, .ref x0), (2, .ref m0), (3, .ref o0), (4, .int (nI iN))]) hx hb dL_law_545 hl (by decide) rfl (fun ls hl => ?_)
  refine lv_aload_n hx hb dL_law_547 rfl (lv_at hl 3 rfl) ?_
  refine lv_aload_n hx hb dL_law_548 rfl (lv_at hl 1 rfl) ?_
  refine lv_iload hx hb dL_law_549 (lv_at hl 5 rfl) ?_
  refine lv_iconst (v := 1) hx hb dL_law_551 (by decide) ?_
  refine lv_iadd hx hb dL_law_552 ?_
  refine tp_i (y := nI (iN + 1)) (nI_add iN 1) ?_
  refine va_sld hx hb hX hbl hbA hS (i := nI (iN + 1)) (vp_in_nI (by omega) (by omega)) dL_law_553 ?_
  obtain ⟨kr2, fs2, hrc2⟩ := MIW.recv hV
  have hP := va_P.perm hP (List.Perm.cons _ List.perm_append_comm)
  have hD := va_D.perm hD (List.Perm.cons _ List.perm_append_comm)
  refine cA_i (rn_Vk (n := 1) (As := [.int (xs (nI (iN + 1)).toNatClampNeg)]) (rest := []) hx hb hml hown ht hKK hFx hP hD hS hA (rl_run l dC dI cI cB cZ cJ cR tb H.size m0 N B V hN1 hN2 hB0 hB tz gz xz hV (xs (nI (iN + 1)).toNatClampNeg)) tw_1155 tw_1156 (by decide +kernel) rfl rfl ⟨Nat.le_of_ble_eq_true rfl, Nat.le_of_ble_eq_true rfl⟩ (ixC V.length) (ixC_map _ _ _) (ixC_nd _) kr2 hrc2 rfl rfl rfl hl.1 rfl (Nat.le_of_ble_eq_true rfl) dL_law_554 ⟨by show _ ≤ 601024; omega, by show _ ≤ 7292999; omega⟩) hP hD hS hA (fun r2 u2 H locs hw2 hP hD hS => ?_)
  have hP := va_P.perm hP (List.Perm.cons _ List.perm_append_comm)
  have hD := va_D.perm hD (List.Perm.cons _ List.perm_append_comm)
  have hP : va_P (dC, dI) vwCl ((o0, .inl (cJ, 1, .inr (.inl g1))) :: (U1 ++ u2)) H := hP
  have hD : va_D A ((o0, .inl (cJ, 1, .inr (.inl g1))) :: (U1 ++ u2)) := hD
  refine W.widen (k := cells + 1) (n := slots + 6) (by omega) (by omega) ?_
  refine lv_istore (lv' := [(6, .int r2), (5, .int r1), (0, .ref b), (1, .ref x0), (2, .ref m0), (3, .ref o0), (4, .int (nI iN))]) hx hb dL_law_557 hl (by decide) rfl (fun ls hl => ?_)
  refine lv_goto (tgt := 993) hx hb dL_law_559 (by decide) ?_
  refine W.widen (k := cells + 13) (n := slots + 338) (by omega) (by omega) ?_
  exact key tz gz xz g1 U1 u2 H locs ls hU1 hw2 hJ hP hD hS (lv_sub hl [2, 3, 4, 5, 6] rfl)
set_option maxHeartbeats 4000000 in
set_option maxRecDepth 100000 in
theorem lawc_13 {p : Program} {e : Env} {s : State} {m : MethodId} {below : List Frame} {meth : Method} {c : Code} (l : Launch) (hst : l.stackTraces = false) {b L : Nat} {xs : Nat → Int32} {Q : State → Prop} (hx : p.tables.exec = Jvm.exec) (hb : c.code = cL_law) (hml : c.maxLocals = 7) (hown : s.vm.findClass RL = some m.cls) (ht : ∀ w ∈ tw_W, w.before #[Value.ref b] s = true) (hX : va_X b L xs s s.heap) (hbl : b < s.heap.size) {dC : Nat → ClassId} {dI : Nat → Nat → Nat} {cI cB cZ cJ cR : ClassId} {tb : Nat → Nat} {A : Nat → Prop} (hbA : ¬ A b) (hKK : kk_ (dC, dI) (tyS cI cB cZ cJ cR) tb s) (hFx : fx_ tb A s s.heap) (hA : ∀ q, s.heap.size ≤ q → A q) {N : Nat} (hN1 : 256 ≤ N) (hN2 : N ≤ 4096) {B : Int} (hB0 : 0 ≤ B) (hB : B + 50000 ≤ 200000000) {x0 m0 o0 : Nat} {U V : va_W} {g : Nat → Int64} {tz gz : Int} {xz : ZG} (hU : KI N B x0 cI cB cR tz gz xz U) (hV : MIW N B m0 cI cZ cJ tz gz xz V) (hJ : GJz N xz.dt xz.cs xz.ms) {H : Heap} {locs : List Loc} {ls : Array Slot} {cells slots : Nat} (hce : cells + 13 ≤ 601024) (hsl : slots + 338 ≤ 7292999) {iN : Nat} (hi : iN + 6 ≤ L) (hL : L ≤ 3073) (hP : va_P (dC, dI) vwCl ((o0, .inl (cJ, 1, .inr (.inl g))) :: (U ++ V)) H) (hD : va_D A ((o0, .inl (cJ, 1, .inr (.inl g))) :: (U ++ V))) (hS : va_S A s.heap H locs) (hl : lv_has ls 7 [(0, .ref b), (1, .ref x0), (2, .ref m0), (3, .ref o0), (4, .int (nI iN))])
    (key : ∀ (t9 z9 : Int) (x9 : ZG) (g9 : Nat → Int64) (U9 V9 : va_W) (H : Heap) (locs : List Loc) (ls : Array Slot), KI N (B + 50000) x0 cI cB cR t9 z9 x9 U9 → MIW N (B + 50000) m0 cI cZ cJ t9 z9 x9 V9 → GJz N x9.dt x9.cs x9.ms → va_P (dC, dI) vwCl ((o0, .inl (cJ, 1, .inr (.inl g9))) :: (U9 ++ V9)) H → va_D A ((o0, .inl (cJ, 1, .inr (.inl g9))) :: (U9 ++ V9)) → va_S A s.heap H locs → lv_has ls 7 [(0, .ref b), (1, .ref x0), (2, .ref m0), (3, .ref o0), (4, .int (nI iN))] → W p l e room_1 s m #[Value.ref b] below meth c H locs (cells + 13) (slots + 338) Q (F0 m 993 ls [])) : W p l e room_1 s m #[Value.ref b] below meth c H locs cells slots Q (F0 m 562 ls []) := by
  have hK := hKK.1
  refine lv_aload_n hx hb dL_law_562 rfl (lv_at hl 1 rfl) ?_
  obtain ⟨kr1, fs1, hrc1⟩ := KI.recv hU
  refine cA_i (rn_Vk (n := 0) (As := []) (rest := []) hx hb hml hown ht hKK hFx hP hD hS hA (kl_result l dC dI cI cB cZ cJ cR tb hst H.size x0 N B U hN2 hB tz gz xz hU ) tw_1157 tw_1158 (by decide +kernel) rfl rfl ⟨Nat.le_of_ble_eq_true rfl, Nat.le_of_ble_eq_true rfl⟩ (ixC U.length) (ixC_map _ _ _) (ixC_nd _) kr1 hrc1 rfl rfl rfl hl.1 rfl (Nat.le_of_ble_eq_true rfl) dL_law_563 ⟨by show _ ≤ 601024; omega, by show _ ≤ 7292999; omega⟩) hP hD hS hA (fun r1 u1 H locs hw1 hP hD hS => ?_)
  have hP : va_P (dC, dI) vwCl ((o0, .inl (cJ, 1, .inr (.inl g))) :: (u1 ++ V)) H := hP
  have hD : va_D A ((o0, .inl (cJ, 1, .inr (.inl g))) :: (u1 ++ V)) := hD
  refine W.widen (k := cells + 0) (n := slots + 0) (by omega) (by omega) ?_
  refine lv_pop hx hb dL_law_566 rfl ?_
  refine lv_aload_n hx hb dL_law_567 rfl (lv_at hl 2 rfl) ?_
  obtain ⟨kr2, fs2, hrc2⟩ := MIW.recv hV
  have hP := va_P.perm hP (List.Perm.cons _ List.perm_append_comm)
  have hD := va_D.perm hD (List.Perm.cons _ List.perm_append_comm)
  refine cA_i (rn_Vk (n := 0) (As := []) (rest := []) hx hb hml hown ht hKK hFx hP hD hS hA (rl_result l dC dI cI cB cZ cJ cR tb H.size m0 N B V hN1 hN2 hB0 hB tz gz xz hV ) tw_1159 tw_1160 (by decide +kernel) rfl rfl ⟨Nat.le_of_ble_eq_true rfl, Nat.le_of_ble_eq_true rfl⟩ (ixC V.length) (ixC_map _ _ _) (ixC_nd _) kr2 hrc2 rfl rfl rfl hl.1 rfl (Nat.le_of_ble_eq_true rfl) dL_law_568 ⟨by show _ ≤ 601024; omega, by show _ ≤ 7292999; omega⟩) hP hD hS hA (fun r2 u2 H locs hw2 hP hD hS => ?_)
  have hP := va_P.perm hP (List.Perm.cons _ List.perm_append_comm)
  have hD := va_D.perm hD (List.Perm.cons _ List.perm_append_comm)
  have hP : va_P (dC, dI) vwCl ((o0, .inl (cJ, 1, .inr (.inl g))) :: (u1 ++ u2)) H := hP
  have hD : va_D A ((o0, .inl (cJ, 1, .inr (.inl g))) :: (u1 ++ u2)) := hD
  refine W.widen (k := cells + 0) (n := slots + 0) (by omega) (by omega) ?_
  refine lv_pop hx hb dL_law_571 rfl ?_
  refine lv_goto (tgt := 993) hx hb dL_law_572 (by decide) ?_
  refine W.widen (k := cells + 13) (n := slots + 338) (by omega) (by omega) ?_
  exact key tz gz xz g u1 u2 H locs ls hw1 hw2 hJ hP hD hS (lv_sub hl [0, 1, 2, 3, 4] rfl)
set_option maxHeartbeats 4000000 in
set_option maxRecDepth 100000 in
theorem lawc_14 {p : Program} {e : Env} {s : State} {m : MethodId} {below : List Frame} {meth : Method} {c : Code} (l : Launch) (hst : l.stackTraces = false) {b L : Nat} {xs : Nat → Int32} {Q : State → Prop} (hx : p.tables.exec = Jvm.exec) (hb : c.code = cL_law) (hml : c.maxLocals = 7) (hown : s.vm.findClass RL = some m.cls) (ht : ∀ w ∈ tw_W, w.before #[Value.ref b] s = true) (hX : va_X b L xs s s.heap) (hbl : b < s.heap.size) {dC : Nat → ClassId} {dI : Nat → Nat → Nat} {cI cB cZ cJ cR : ClassId} {tb : Nat → Nat} {A : Nat → Prop} (hbA : ¬ A b) (hKK : kk_ (dC, dI) (tyS cI cB cZ cJ cR) tb s) (hFx : fx_ tb A s s.heap) (hA : ∀ q, s.heap.size ≤ q → A q) {N : Nat} (hN1 : 256 ≤ N) (hN2 : N ≤ 4096) {B : Int} (hB0 : 0 ≤ B) (hB : B + 50000 ≤ 200000000) {x0 m0 o0 : Nat} {U V : va_W} {g : Nat → Int64} {tz gz : Int} {xz : ZG} (hU : KI N B x0 cI cB cR tz gz xz U) (hV : MIW N B m0 cI cZ cJ tz gz xz V) (hJ : GJz N xz.dt xz.cs xz.ms) {H : Heap} {locs : List Loc} {ls : Array Slot} {cells slots : Nat} (hce : cells + 13 ≤ 601024) (hsl : slots + 338 ≤ 7292999) {iN : Nat} (hi : iN + 6 ≤ L) (hL : L ≤ 3073) (hP : va_P (dC, dI) vwCl ((o0, .inl (cJ, 1, .inr (.inl g))) :: (U ++ V)) H) (hD : va_D A ((o0, .inl (cJ, 1, .inr (.inl g))) :: (U ++ V))) (hS : va_S A s.heap H locs) (hl : lv_has ls 7 [(0, .ref b), (1, .ref x0), (2, .ref m0), (3, .ref o0), (4, .int (nI iN))])
    (key : ∀ (t9 z9 : Int) (x9 : ZG) (g9 : Nat → Int64) (U9 V9 : va_W) (H : Heap) (locs : List Loc) (ls : Array Slot), KI N (B + 50000) x0 cI cB cR t9 z9 x9 U9 → MIW N (B + 50000) m0 cI cZ cJ t9 z9 x9 V9 → GJz N x9.dt x9.cs x9.ms → va_P (dC, dI) vwCl ((o0, .inl (cJ, 1, .inr (.inl g9))) :: (U9 ++ V9)) H → va_D A ((o0, .inl (cJ, 1, .inr (.inl g9))) :: (U9 ++ V9)) → va_S A s.heap H locs → lv_has ls 7 [(0, .ref b), (1, .ref x0), (2, .ref m0), (3, .ref o0), (4, .int (nI iN))] → W p l e room_1 s m #[Value.ref b] below meth c H locs (cells + 13) (slots + 338) Q (F0 m 993 ls [])) : W p l e room_1 s m #[Value.ref b] below meth c H locs cells slots Q (F0 m 575 ls []) := by
  have hK := hKK.1
  refine lv_aload_n hx hb dL_law_575 rfl (lv_at hl 1 rfl) ?_
  refine lv_aload_n hx hb dL_law_576 rfl (lv_at hl 0 rfl) ?_
  refine lv_iload hx hb dL_law_577 (lv_at hl 4 rfl) ?_
  refine lv_iconst (v := 1) hx hb dL_law_579 (by decide) ?_
  refine lv_iadd hx hb dL_law_580 ?_
  refine tp_i (y := nI (iN + 1)) (nI_add iN 1) ?_
  refine va_sld hx hb hX hbl hbA hS (i := nI (iN + 1)) (vp_in_nI (by omega) (by omega)) dL_law_581 ?_
  refine lv_aload_n hx hb dL_law_582 rfl (lv_at hl 3 rfl) ?_
  refine cD_i (A0 := (o0, .inl (cJ, 1, .inr (.inl g))) :: U) (Z := V) (rn_SW (n := 3) (As := [.ref x0, .int (xs (nI (iN + 1)).toNatClampNeg), .ref o0]) (rest := []) hx hb hml hown ht hKK hFx hP hD hS hA (hl_register l dC dI cI cB cZ cJ cR tb hst H.size x0 o0 N B U g hN2 hB tz gz xz hU (xs (nI (iN + 1)).toNatClampNeg)) tw_1161 tw_1162 (by decide +kernel) rfl rfl ⟨Nat.le_of_ble_eq_true rfl, Nat.le_of_ble_eq_true rfl⟩ (List.range ((o0, .inl (cJ, 1, .inr (.inl g))) :: U).length) (ixA_map ((o0, .inl (cJ, 1, .inr (.inl g))) :: U) V) (nd_range _) rfl hl.1 rfl (Nat.le_of_ble_eq_true rfl) dL_law_583 ⟨by show _ ≤ 601024; omega, by show _ ≤ 7292999; omega⟩) hP hD hS hA (fun r1 u1 H locs hw hP hD hS => ?_)
  obtain ⟨g1, U1, hu1, hU1⟩ := hw
  have hu1 : u1 = (o0, .inl (cJ, 1, .inr (.inl g1))) :: U1 := hu1
  subst hu1
  have hP : va_P (dC, dI) vwCl ((o0, .inl (cJ, 1, .inr (.inl g1))) :: (U1 ++ V)) H := hP
  have hD : va_D A ((o0, .inl (cJ, 1, .inr (.inl g1))) :: (U1 ++ V)) := hD
  refine W.widen (k := cells + 1) (n := slots + 6) (by omega) (by omega) ?_
  refine lv_istore (lv' := [(5, .int r1), (0, .ref b), (1, .ref x0), (2, .ref m0), (3, .ref o0), (4, .int (nI iN))]) hx hb dL_law_586 hl (by decide) rfl (fun ls hl => ?_)
  refine lv_aload_n hx hb dL_law_588 rfl (lv_at hl 3 rfl) ?_
  refine lv_aload_n hx hb dL_law_589 rfl (lv_at hl 1 rfl) ?_
  refine lv_iload hx hb dL_law_590 (lv_at hl 5 rfl) ?_
  refine lv_iconst (v := 1) hx hb dL_law_592 (by decide) ?_
  refine lv_iadd hx hb dL_law_593 ?_
  refine tp_i (y := nI (iN + 1)) (nI_add iN 1) ?_
  refine va_sld hx hb hX hbl hbA hS (i := nI (iN + 1)) (vp_in_nI (by omega) (by omega)) dL_law_594 ?_
  obtain ⟨kr2, fs2, hrc2⟩ := MIW.recv hV
  have hP := va_P.perm hP (List.Perm.cons _ List.perm_append_comm)
  have hD := va_D.perm hD (List.Perm.cons _ List.perm_append_comm)
  refine cA_i (rn_Vk (n := 1) (As := [.int (xs (nI (iN + 1)).toNatClampNeg)]) (rest := []) hx hb hml hown ht hKK hFx hP hD hS hA (rl_register l dC dI cI cB cZ cJ cR tb H.size m0 N B V hN1 hN2 hB0 hB tz gz xz hV (xs (nI (iN + 1)).toNatClampNeg)) tw_1163 tw_1164 (by decide +kernel) rfl rfl ⟨Nat.le_of_ble_eq_true rfl, Nat.le_of_ble_eq_true rfl⟩ (ixC V.length) (ixC_map _ _ _) (ixC_nd _) kr2 hrc2 rfl rfl rfl hl.1 rfl (Nat.le_of_ble_eq_true rfl) dL_law_595 ⟨by show _ ≤ 601024; omega, by show _ ≤ 7292999; omega⟩) hP hD hS hA (fun r2 u2 H locs hw2 hP hD hS => ?_)
  have hP := va_P.perm hP (List.Perm.cons _ List.perm_append_comm)
  have hD := va_D.perm hD (List.Perm.cons _ List.perm_append_comm)
  have hP : va_P (dC, dI) vwCl ((o0, .inl (cJ, 1, .inr (.inl g1))) :: (U1 ++ u2)) H := hP
  have hD : va_D A ((o0, .inl (cJ, 1, .inr (.inl g1))) :: (U1 ++ u2)) := hD
  refine W.widen (k := cells + 1) (n := slots + 6) (by omega) (by omega) ?_
  refine lv_istore (lv' := [(6, .int r2), (5, .int r1), (0, .ref b), (1, .ref x0), (2, .ref m0), (3, .ref o0), (4, .int (nI iN))]) hx hb dL_law_598 hl (by decide) rfl (fun ls hl => ?_)
  refine lv_goto (tgt := 993) hx hb dL_law_600 (by decide) ?_
  refine W.widen (k := cells + 13) (n := slots + 338) (by omega) (by omega) ?_
  exact key tz gz xz g1 U1 u2 H locs ls hU1 hw2 hJ hP hD hS (lv_sub hl [2, 3, 4, 5, 6] rfl)
set_option maxHeartbeats 4000000 in
set_option maxRecDepth 100000 in
theorem lawc_15 {p : Program} {e : Env} {s : State} {m : MethodId} {below : List Frame} {meth : Method} {c : Code} (l : Launch) (hst : l.stackTraces = false) {b L : Nat} {xs : Nat → Int32} {Q : State → Prop} (hx : p.tables.exec = Jvm.exec) (hb : c.code = cL_law) (hml : c.maxLocals = 7) (hown : s.vm.findClass RL = some m.cls) (ht : ∀ w ∈ tw_W, w.before #[Value.ref b] s = true) (hX : va_X b L xs s s.heap) (hbl : b < s.heap.size) {dC : Nat → ClassId} {dI : Nat → Nat → Nat} {cI cB cZ cJ cR : ClassId} {tb : Nat → Nat} {A : Nat → Prop} (hbA : ¬ A b) (hKK : kk_ (dC, dI) (tyS cI cB cZ cJ cR) tb s) (hFx : fx_ tb A s s.heap) (hA : ∀ q, s.heap.size ≤ q → A q) {N : Nat} (hN1 : 256 ≤ N) (hN2 : N ≤ 4096) {B : Int} (hB0 : 0 ≤ B) (hB : B + 50000 ≤ 200000000) {x0 m0 o0 : Nat} {U V : va_W} {g : Nat → Int64} {tz gz : Int} {xz : ZG} (hU : KI N B x0 cI cB cR tz gz xz U) (hV : MIW N B m0 cI cZ cJ tz gz xz V) (hJ : GJz N xz.dt xz.cs xz.ms) {H : Heap} {locs : List Loc} {ls : Array Slot} {cells slots : Nat} (hce : cells + 13 ≤ 601024) (hsl : slots + 338 ≤ 7292999) {iN : Nat} (hi : iN + 6 ≤ L) (hL : L ≤ 3073) (hP : va_P (dC, dI) vwCl ((o0, .inl (cJ, 1, .inr (.inl g))) :: (U ++ V)) H) (hD : va_D A ((o0, .inl (cJ, 1, .inr (.inl g))) :: (U ++ V))) (hS : va_S A s.heap H locs) (hl : lv_has ls 7 [(0, .ref b), (1, .ref x0), (2, .ref m0), (3, .ref o0), (4, .int (nI iN))])
    (key : ∀ (t9 z9 : Int) (x9 : ZG) (g9 : Nat → Int64) (U9 V9 : va_W) (H : Heap) (locs : List Loc) (ls : Array Slot), KI N (B + 50000) x0 cI cB cR t9 z9 x9 U9 → MIW N (B + 50000) m0 cI cZ cJ t9 z9 x9 V9 → GJz N x9.dt x9.cs x9.ms → va_P (dC, dI) vwCl ((o0, .inl (cJ, 1, .inr (.inl g9))) :: (U9 ++ V9)) H → va_D A ((o0, .inl (cJ, 1, .inr (.inl g9))) :: (U9 ++ V9)) → va_S A s.heap H locs → lv_has ls 7 [(0, .ref b), (1, .ref x0), (2, .ref m0), (3, .ref o0), (4, .int (nI iN))] → W p l e room_1 s m #[Value.ref b] below meth c H locs (cells + 13) (slots + 338) Q (F0 m 993 ls [])) : W p l e room_1 s m #[Value.ref b] below meth c H locs cells slots Q (F0 m 603 ls []) := by
  have hK := hKK.1
  refine lv_aload_n hx hb dL_law_603 rfl (lv_at hl 1 rfl) ?_
  refine lv_aload_n hx hb dL_law_604 rfl (lv_at hl 0 rfl) ?_
  refine lv_iload hx hb dL_law_605 (lv_at hl 4 rfl) ?_
  refine lv_iconst (v := 1) hx hb dL_law_607 (by decide) ?_
  refine lv_iadd hx hb dL_law_608 ?_
  refine tp_i (y := nI (iN + 1)) (nI_add iN 1) ?_
  refine va_sld hx hb hX hbl hbA hS (i := nI (iN + 1)) (vp_in_nI (by omega) (by omega)) dL_law_609 ?_
  refine lv_aload_n hx hb dL_law_610 rfl (lv_at hl 0 rfl) ?_
  refine lv_iload hx hb dL_law_611 (lv_at hl 4 rfl) ?_
  refine lv_iconst (v := 2) hx hb dL_law_613 (by decide) ?_
  refine lv_iadd hx hb dL_law_614 ?_
  refine tp_i (y := nI (iN + 2)) (nI_add iN 2) ?_
  refine va_sld hx hb hX hbl hbA hS (i := nI (iN + 2)) (vp_in_nI (by omega) (by omega)) dL_law_615 ?_
  refine cA_i (rn_SW (n := 3) (As := [.ref x0, .int (xs (nI (iN + 1)).toNatClampNeg), .int (xs (nI (iN + 2)).toNatClampNeg)]) (rest := []) hx hb hml hown ht hKK hFx hP hD hS hA (hl_set l dC dI cI cB cZ cJ cR tb hst H.size x0 o0 N B U g hN2 hB tz gz xz hU (xs (nI (iN + 1)).toNatClampNeg) (xs (nI (iN + 2)).toNatClampNeg)) tw_1165 tw_1166 (by decide +kernel) rfl rfl ⟨Nat.le_of_ble_eq_true rfl, Nat.le_of_ble_eq_true rfl⟩ (ixC U.length) (ixC_map _ _ _) (ixC_nd _) rfl hl.1 rfl (Nat.le_of_ble_eq_true rfl) dL_law_616 ⟨by show _ ≤ 601024; omega, by show _ ≤ 7292999; omega⟩) hP hD hS hA (fun r1 u1 H locs hw hP hD hS => ?_)
  obtain ⟨g1, U1, hu1, hU1, hcx⟩ := hw
  have hu1 : u1 = U1 := hu1
  subst hu1
  have hP : va_P (dC, dI) vwCl ((o0, .inl (cJ, 1, .inr (.inl g))) :: (u1 ++ V)) H := hP
  have hD : va_D A ((o0, .inl (cJ, 1, .inr (.inl g))) :: (u1 ++ V)) := hD
  refine W.widen (k := cells + 1) (n := slots + 6) (by omega) (by omega) ?_
  refine lv_istore (lv' := [(5, .int r1), (0, .ref b), (1, .ref x0), (2, .ref m0), (3, .ref o0), (4, .int (nI iN))]) hx hb dL_law_619 hl (by decide) rfl (fun ls hl => ?_)
  refine lv_aload_n hx hb dL_law_621 rfl (lv_at hl 3 rfl) ?_
  refine lv_aload_n hx hb dL_law_622 rfl (lv_at hl 1 rfl) ?_
  refine lv_iload hx hb dL_law_623 (lv_at hl 5 rfl) ?_
  refine lv_iconst (v := 1) hx hb dL_law_625 (by decide) ?_
  refine lv_iadd hx hb dL_law_626 ?_
  refine tp_i (y := nI (iN + 1)) (nI_add iN 1) ?_
  refine va_sld hx hb hX hbl hbA hS (i := nI (iN + 1)) (vp_in_nI (by omega) (by omega)) dL_law_627 ?_
  refine lv_aload_n hx hb dL_law_628 rfl (lv_at hl 1 rfl) ?_
  refine lv_iload hx hb dL_law_629 (lv_at hl 5 rfl) ?_
  refine lv_iconst (v := 2) hx hb dL_law_631 (by decide) ?_
  refine lv_iadd hx hb dL_law_632 ?_
  refine tp_i (y := nI (iN + 2)) (nI_add iN 2) ?_
  refine va_sld hx hb hX hbl hbA hS (i := nI (iN + 2)) (vp_in_nI (by omega) (by omega)) dL_law_633 ?_
  obtain ⟨kr2, fs2, hrc2⟩ := MIW.recv hV
  have hP := va_P.perm hP (List.Perm.cons _ List.perm_append_comm)
  have hD := va_D.perm hD (List.Perm.cons _ List.perm_append_comm)
  refine cA_v (rn_Vk (n := 2) (As := [.int (xs (nI (iN + 1)).toNatClampNeg), .int (xs (nI (iN + 2)).toNatClampNeg)]) (rest := []) hx hb hml hown ht hKK hFx hP hD hS hA (rl_set l dC dI cI cB cZ cJ cR tb H.size m0 N B V hN1 hN2 hB0 hB tz gz xz hV (xs (nI (iN + 1)).toNatClampNeg) (xs (nI (iN + 2)).toNatClampNeg)) tw_1167 tw_1168 (by decide +kernel) rfl rfl ⟨Nat.le_of_ble_eq_true rfl, Nat.le_of_ble_eq_true rfl⟩ (ixC V.length) (ixC_map _ _ _) (ixC_nd _) kr2 hrc2 rfl rfl rfl hl.1 rfl (Nat.le_of_ble_eq_true rfl) dL_law_634 ⟨by show _ ≤ 601024; omega, by show _ ≤ 7292999; omega⟩) hP hD hS hA (fun u2 H locs hw2 hP hD hS => ?_)
  have hP := va_P.perm hP (List.Perm.cons _ List.perm_append_comm)
  have hD := va_D.perm hD (List.Perm.cons _ List.perm_append_comm)
  have hP : va_P (dC, dI) vwCl ((o0, .inl (cJ, 1, .inr (.inl g))) :: (u1 ++ u2)) H := hP
  have hD : va_D A ((o0, .inl (cJ, 1, .inr (.inl g))) :: (u1 ++ u2)) := hD
  refine W.widen (k := cells + 1) (n := slots + 6) (by omega) (by omega) ?_
  refine lv_goto (tgt := 993) hx hb dL_law_637 (by decide) ?_
  refine W.widen (k := cells + 13) (n := slots + 338) (by omega) (by omega) ?_
  exact key tz gz xz g u1 u2 H locs ls hU1 hw2.w hJ hP hD hS (lv_sub hl [1, 2, 3, 4, 5] rfl)
set_option maxHeartbeats 4000000 in
set_option maxRecDepth 100000 in
theorem lawc_16 {p : Program} {e : Env} {s : State} {m : MethodId} {below : List Frame} {meth : Method} {c : Code} (l : Launch) (hst : l.stackTraces = false) {b L : Nat} {xs : Nat → Int32} {Q : State → Prop} (hx : p.tables.exec = Jvm.exec) (hb : c.code = cL_law) (hml : c.maxLocals = 7) (hown : s.vm.findClass RL = some m.cls) (ht : ∀ w ∈ tw_W, w.before #[Value.ref b] s = true) (hX : va_X b L xs s s.heap) (hbl : b < s.heap.size) {dC : Nat → ClassId} {dI : Nat → Nat → Nat} {cI cB cZ cJ cR : ClassId} {tb : Nat → Nat} {A : Nat → Prop} (hbA : ¬ A b) (hKK : kk_ (dC, dI) (tyS cI cB cZ cJ cR) tb s) (hFx : fx_ tb A s s.heap) (hA : ∀ q, s.heap.size ≤ q → A q) {N : Nat} (hN1 : 256 ≤ N) (hN2 : N ≤ 4096) {B : Int} (hB0 : 0 ≤ B) (hB : B + 50000 ≤ 200000000) {x0 m0 o0 : Nat} {U V : va_W} {g : Nat → Int64} {tz gz : Int} {xz : ZG} (hU : KI N B x0 cI cB cR tz gz xz U) (hV : MIW N B m0 cI cZ cJ tz gz xz V) (hJ : GJz N xz.dt xz.cs xz.ms) {H : Heap} {locs : List Loc} {ls : Array Slot} {cells slots : Nat} (hce : cells + 13 ≤ 601024) (hsl : slots + 338 ≤ 7292999) {iN : Nat} (hi : iN + 6 ≤ L) (hL : L ≤ 3073) (hP : va_P (dC, dI) vwCl ((o0, .inl (cJ, 1, .inr (.inl g))) :: (U ++ V)) H) (hD : va_D A ((o0, .inl (cJ, 1, .inr (.inl g))) :: (U ++ V))) (hS : va_S A s.heap H locs) (hl : lv_has ls 7 [(0, .ref b), (1, .ref x0), (2, .ref m0), (3, .ref o0), (4, .int (nI iN))])
    (key : ∀ (t9 z9 : Int) (x9 : ZG) (g9 : Nat → Int64) (U9 V9 : va_W) (H : Heap) (locs : List Loc) (ls : Array Slot), KI N (B + 50000) x0 cI cB cR t9 z9 x9 U9 → MIW N (B + 50000) m0 cI cZ cJ t9 z9 x9 V9 → GJz N x9.dt x9.cs x9.ms → va_P (dC, dI) vwCl ((o0, .inl (cJ, 1, .inr (.inl g9))) :: (U9 ++ V9)) H → va_D A ((o0, .inl (cJ, 1, .inr (.inl g9))) :: (U9 ++ V9)) → va_S A s.heap H locs → lv_has ls 7 [(0, .ref b), (1, .ref x0), (2, .ref m0), (3, .ref o0), (4, .int (nI iN))] → W p l e room_1 s m #[Value.ref b] below meth c H locs (cells + 13) (slots + 338) Q (F0 m 993 ls [])) : W p l e room_1 s m #[Value.ref b] below meth c H locs cells slots Q (F0 m 640 ls []) := by
  have hK := hKK.1
  refine lv_aload_n hx hb dL_law_640 rfl (lv_at hl 1 rfl) ?_
  refine lv_aload_n hx hb dL_law_641 rfl (lv_at hl 0 rfl) ?_
  refine lv_iload hx hb dL_law_642 (lv_at hl 4 rfl) ?_
  refine lv_iconst (v := 1) hx hb dL_law_644 (by decide) ?_
  refine lv_iadd hx hb dL_law_645 ?_
  refine tp_i (y := nI (iN + 1)) (nI_add iN 1) ?_
  refine va_sld hx hb hX hbl hbA hS (i := nI (iN + 1)) (vp_in_nI (by omega) (by omega)) dL_law_646 ?_
  refine lv_aload_n hx hb dL_law_647 rfl (lv_at hl 3 rfl) ?_
  refine cD_i (A0 := (o0, .inl (cJ, 1, .inr (.inl g))) :: U) (Z := V) (rn_SW (n := 3) (As := [.ref x0, .int (xs (nI (iN + 1)).toNatClampNeg), .ref o0]) (rest := []) hx hb hml hown ht hKK hFx hP hD hS hA (hl_word l dC dI cI cB cZ cJ cR tb hst H.size x0 o0 N B U g hN2 hB tz gz xz hU (xs (nI (iN + 1)).toNatClampNeg)) tw_1169 tw_1170 (by decide +kernel) rfl rfl ⟨Nat.le_of_ble_eq_true rfl, Nat.le_of_ble_eq_true rfl⟩ (List.range ((o0, .inl (cJ, 1, .inr (.inl g))) :: U).length) (ixA_map ((o0, .inl (cJ, 1, .inr (.inl g))) :: U) V) (nd_range _) rfl hl.1 rfl (Nat.le_of_ble_eq_true rfl) dL_law_648 ⟨by show _ ≤ 601024; omega, by show _ ≤ 7292999; omega⟩) hP hD hS hA (fun r1 u1 H locs hw hP hD hS => ?_)
  obtain ⟨g1, U1, hu1, hU1⟩ := hw
  have hu1 : u1 = (o0, .inl (cJ, 1, .inr (.inl g1))) :: U1 := hu1
  subst hu1
  have hP : va_P (dC, dI) vwCl ((o0, .inl (cJ, 1, .inr (.inl g1))) :: (U1 ++ V)) H := hP
  have hD : va_D A ((o0, .inl (cJ, 1, .inr (.inl g1))) :: (U1 ++ V)) := hD
  refine W.widen (k := cells + 1) (n := slots + 6) (by omega) (by omega) ?_
  refine lv_istore (lv' := [(5, .int r1), (0, .ref b), (1, .ref x0), (2, .ref m0), (3, .ref o0), (4, .int (nI iN))]) hx hb dL_law_651 hl (by decide) rfl (fun ls hl => ?_)
  refine lv_aload_n hx hb dL_law_653 rfl (lv_at hl 3 rfl) ?_
  refine lv_aload_n hx hb dL_law_654 rfl (lv_at hl 1 rfl) ?_
  refine lv_iload hx hb dL_law_655 (lv_at hl 5 rfl) ?_
  refine lv_iconst (v := 1) hx hb dL_law_657 (by decide) ?_
  refine lv_iadd hx hb dL_law_658 ?_
  refine tp_i (y := nI (iN + 1)) (nI_add iN 1) ?_
  refine va_sld hx hb hX hbl hbA hS (i := nI (iN + 1)) (vp_in_nI (by omega) (by omega)) dL_law_659 ?_
  obtain ⟨kr2, fs2, hrc2⟩ := MIW.recv hV
  have hP := va_P.perm hP (List.Perm.cons _ List.perm_append_comm)
  have hD := va_D.perm hD (List.Perm.cons _ List.perm_append_comm)
  refine cA_i (rn_Vk (n := 1) (As := [.int (xs (nI (iN + 1)).toNatClampNeg)]) (rest := []) hx hb hml hown ht hKK hFx hP hD hS hA (rl_word l dC dI cI cB cZ cJ cR tb H.size m0 N B V hN1 hN2 hB0 hB tz gz xz hV (xs (nI (iN + 1)).toNatClampNeg)) tw_1171 tw_1172 (by decide +kernel) rfl rfl ⟨Nat.le_of_ble_eq_true rfl, Nat.le_of_ble_eq_true rfl⟩ (ixC V.length) (ixC_map _ _ _) (ixC_nd _) kr2 hrc2 rfl rfl rfl hl.1 rfl (Nat.le_of_ble_eq_true rfl) dL_law_660 ⟨by show _ ≤ 601024; omega, by show _ ≤ 7292999; omega⟩) hP hD hS hA (fun r2 u2 H locs hw2 hP hD hS => ?_)
  have hP := va_P.perm hP (List.Perm.cons _ List.perm_append_comm)
  have hD := va_D.perm hD (List.Perm.cons _ List.perm_append_comm)
  have hP : va_P (dC, dI) vwCl ((o0, .inl (cJ, 1, .inr (.inl g1))) :: (U1 ++ u2)) H := hP
  have hD : va_D A ((o0, .inl (cJ, 1, .inr (.inl g1))) :: (U1 ++ u2)) := hD
  refine W.widen (k := cells + 1) (n := slots + 6) (by omega) (by omega) ?_
  refine lv_istore (lv' := [(6, .int r2), (5, .int r1), (0, .ref b), (1, .ref x0), (2, .ref m0), (3, .ref o0), (4, .int (nI iN))]) hx hb dL_law_663 hl (by decide) rfl (fun ls hl => ?_)
  refine lv_goto (tgt := 993) hx hb dL_law_665 (by decide) ?_
  refine W.widen (k := cells + 13) (n := slots + 338) (by omega) (by omega) ?_
  exact key tz gz xz g1 U1 u2 H locs ls hU1 hw2 hJ hP hD hS (lv_sub hl [2, 3, 4, 5, 6] rfl)
set_option maxHeartbeats 4000000 in
set_option maxRecDepth 100000 in
theorem lawc_17 {p : Program} {e : Env} {s : State} {m : MethodId} {below : List Frame} {meth : Method} {c : Code} (l : Launch) (hst : l.stackTraces = false) {b L : Nat} {xs : Nat → Int32} {Q : State → Prop} (hx : p.tables.exec = Jvm.exec) (hb : c.code = cL_law) (hml : c.maxLocals = 7) (hown : s.vm.findClass RL = some m.cls) (ht : ∀ w ∈ tw_W, w.before #[Value.ref b] s = true) (hX : va_X b L xs s s.heap) (hbl : b < s.heap.size) {dC : Nat → ClassId} {dI : Nat → Nat → Nat} {cI cB cZ cJ cR : ClassId} {tb : Nat → Nat} {A : Nat → Prop} (hbA : ¬ A b) (hKK : kk_ (dC, dI) (tyS cI cB cZ cJ cR) tb s) (hFx : fx_ tb A s s.heap) (hA : ∀ q, s.heap.size ≤ q → A q) {N : Nat} (hN1 : 256 ≤ N) (hN2 : N ≤ 4096) {B : Int} (hB0 : 0 ≤ B) (hB : B + 50000 ≤ 200000000) {x0 m0 o0 : Nat} {U V : va_W} {g : Nat → Int64} {tz gz : Int} {xz : ZG} (hU : KI N B x0 cI cB cR tz gz xz U) (hV : MIW N B m0 cI cZ cJ tz gz xz V) (hJ : GJz N xz.dt xz.cs xz.ms) {H : Heap} {locs : List Loc} {ls : Array Slot} {cells slots : Nat} (hce : cells + 13 ≤ 601024) (hsl : slots + 338 ≤ 7292999) {iN : Nat} (hi : iN + 6 ≤ L) (hL : L ≤ 3073) (hP : va_P (dC, dI) vwCl ((o0, .inl (cJ, 1, .inr (.inl g))) :: (U ++ V)) H) (hD : va_D A ((o0, .inl (cJ, 1, .inr (.inl g))) :: (U ++ V))) (hS : va_S A s.heap H locs) (hl : lv_has ls 7 [(0, .ref b), (1, .ref x0), (2, .ref m0), (3, .ref o0), (4, .int (nI iN))])
    (key : ∀ (t9 z9 : Int) (x9 : ZG) (g9 : Nat → Int64) (U9 V9 : va_W) (H : Heap) (locs : List Loc) (ls : Array Slot), KI N (B + 50000) x0 cI cB cR t9 z9 x9 U9 → MIW N (B + 50000) m0 cI cZ cJ t9 z9 x9 V9 → GJz N x9.dt x9.cs x9.ms → va_P (dC, dI) vwCl ((o0, .inl (cJ, 1, .inr (.inl g9))) :: (U9 ++ V9)) H → va_D A ((o0, .inl (cJ, 1, .inr (.inl g9))) :: (U9 ++ V9)) → va_S A s.heap H locs → lv_has ls 7 [(0, .ref b), (1, .ref x0), (2, .ref m0), (3, .ref o0), (4, .int (nI iN))] → W p l e room_1 s m #[Value.ref b] below meth c H locs (cells + 13) (slots + 338) Q (F0 m 993 ls [])) : W p l e room_1 s m #[Value.ref b] below meth c H locs cells slots Q (F0 m 668 ls []) := by
  have hK := hKK.1
  refine lv_aload_n hx hb dL_law_668 rfl (lv_at hl 1 rfl) ?_
  refine lv_aload_n hx hb dL_law_669 rfl (lv_at hl 0 rfl) ?_
  refine lv_iload hx hb dL_law_670 (lv_at hl 4 rfl) ?_
  refine lv_iconst (v := 1) hx hb dL_law_672 (by decide) ?_
  refine lv_iadd hx hb dL_law_673 ?_
  refine tp_i (y := nI (iN + 1)) (nI_add iN 1) ?_
  refine va_sld hx hb hX hbl hbA hS (i := nI (iN + 1)) (vp_in_nI (by omega) (by omega)) dL_law_674 ?_
  refine lv_aload_n hx hb dL_law_675 rfl (lv_at hl 0 rfl) ?_
  refine lv_iload hx hb dL_law_676 (lv_at hl 4 rfl) ?_
  refine lv_iconst (v := 2) hx hb dL_law_678 (by decide) ?_
  refine lv_iadd hx hb dL_law_679 ?_
  refine tp_i (y := nI (iN + 2)) (nI_add iN 2) ?_
  refine va_sld hx hb hX hbl hbA hS (i := nI (iN + 2)) (vp_in_nI (by omega) (by omega)) dL_law_680 ?_
  refine cA_i (rn_SW (n := 3) (As := [.ref x0, .int (xs (nI (iN + 1)).toNatClampNeg), .int (xs (nI (iN + 2)).toNatClampNeg)]) (rest := []) hx hb hml hown ht hKK hFx hP hD hS hA (hl_poke l dC dI cI cB cZ cJ cR tb hst H.size x0 o0 N B U g hN2 hB tz gz xz hU (xs (nI (iN + 1)).toNatClampNeg) (xs (nI (iN + 2)).toNatClampNeg)) tw_1173 tw_1174 (by decide +kernel) rfl rfl ⟨Nat.le_of_ble_eq_true rfl, Nat.le_of_ble_eq_true rfl⟩ (ixC U.length) (ixC_map _ _ _) (ixC_nd _) rfl hl.1 rfl (Nat.le_of_ble_eq_true rfl) dL_law_681 ⟨by show _ ≤ 601024; omega, by show _ ≤ 7292999; omega⟩) hP hD hS hA (fun r1 u1 H locs hw hP hD hS => ?_)
  obtain ⟨g1, U1, hu1, hU1, hcx⟩ := hw
  have hu1 : u1 = U1 := hu1
  subst hu1
  have hP : va_P (dC, dI) vwCl ((o0, .inl (cJ, 1, .inr (.inl g))) :: (u1 ++ V)) H := hP
  have hD : va_D A ((o0, .inl (cJ, 1, .inr (.inl g))) :: (u1 ++ V)) := hD
  refine W.widen (k := cells + 1) (n := slots + 6) (by omega) (by omega) ?_
  refine lv_istore (lv' := [(5, .int r1), (0, .ref b), (1, .ref x0), (2, .ref m0), (3, .ref o0), (4, .int (nI iN))]) hx hb dL_law_684 hl (by decide) rfl (fun ls hl => ?_)
  refine lv_aload_n hx hb dL_law_686 rfl (lv_at hl 3 rfl) ?_
  refine lv_aload_n hx hb dL_law_687 rfl (lv_at hl 1 rfl) ?_
  refine lv_iload hx hb dL_law_688 (lv_at hl 5 rfl) ?_
  refine lv_iconst (v := 1) hx hb dL_law_690 (by decide) ?_
  refine lv_iadd hx hb dL_law_691 ?_
  refine tp_i (y := nI (iN + 1)) (nI_add iN 1) ?_
  refine va_sld hx hb hX hbl hbA hS (i := nI (iN + 1)) (vp_in_nI (by omega) (by omega)) dL_law_692 ?_
  refine lv_aload_n hx hb dL_law_693 rfl (lv_at hl 1 rfl) ?_
  refine lv_iload hx hb dL_law_694 (lv_at hl 5 rfl) ?_
  refine lv_iconst (v := 2) hx hb dL_law_696 (by decide) ?_
  refine lv_iadd hx hb dL_law_697 ?_
  refine tp_i (y := nI (iN + 2)) (nI_add iN 2) ?_
  refine va_sld hx hb hX hbl hbA hS (i := nI (iN + 2)) (vp_in_nI (by omega) (by omega)) dL_law_698 ?_
  obtain ⟨kr2, fs2, hrc2⟩ := MIW.recv hV
  have hP := va_P.perm hP (List.Perm.cons _ List.perm_append_comm)
  have hD := va_D.perm hD (List.Perm.cons _ List.perm_append_comm)
  refine cA_v (rn_Vk (n := 2) (As := [.int (xs (nI (iN + 1)).toNatClampNeg), .int (xs (nI (iN + 2)).toNatClampNeg)]) (rest := []) hx hb hml hown ht hKK hFx hP hD hS hA (rl_poke l dC dI cI cB cZ cJ cR tb H.size m0 N B V hN1 hN2 hB0 hB tz gz xz hV (xs (nI (iN + 1)).toNatClampNeg) (xs (nI (iN + 2)).toNatClampNeg)) tw_1175 tw_1176 (by decide +kernel) rfl rfl ⟨Nat.le_of_ble_eq_true rfl, Nat.le_of_ble_eq_true rfl⟩ (ixC V.length) (ixC_map _ _ _) (ixC_nd _) kr2 hrc2 rfl rfl rfl hl.1 rfl (Nat.le_of_ble_eq_true rfl) dL_law_699 ⟨by show _ ≤ 601024; omega, by show _ ≤ 7292999; omega⟩) hP hD hS hA (fun u2 H locs hw2 hP hD hS => ?_)
  have hP := va_P.perm hP (List.Perm.cons _ List.perm_append_comm)
  have hD := va_D.perm hD (List.Perm.cons _ List.perm_append_comm)
  have hP : va_P (dC, dI) vwCl ((o0, .inl (cJ, 1, .inr (.inl g))) :: (u1 ++ u2)) H := hP
  have hD : va_D A ((o0, .inl (cJ, 1, .inr (.inl g))) :: (u1 ++ u2)) := hD
  refine W.widen (k := cells + 1) (n := slots + 6) (by omega) (by omega) ?_
  refine lv_goto (tgt := 993) hx hb dL_law_702 (by decide) ?_
  refine W.widen (k := cells + 13) (n := slots + 338) (by omega) (by omega) ?_
  exact key tz gz xz g u1 u2 H locs ls hU1 hw2.w hJ hP hD hS (lv_sub hl [1, 2, 3, 4, 5] rfl)
set_option maxHeartbeats 4000000 in
set_option maxRecDepth 100000 in
theorem lawc_18 {p : Program} {e : Env} {s : State} {m : MethodId} {below : List Frame} {meth : Method} {c : Code} (l : Launch) (hst : l.stackTraces = false) {b L : Nat} {xs : Nat → Int32} {Q : State → Prop} (hx : p.tables.exec = Jvm.exec) (hb : c.code = cL_law) (hml : c.maxLocals = 7) (hown : s.vm.findClass RL = some m.cls) (ht : ∀ w ∈ tw_W, w.before #[Value.ref b] s = true) (hX : va_X b L xs s s.heap) (hbl : b < s.heap.size) {dC : Nat → ClassId} {dI : Nat → Nat → Nat} {cI cB cZ cJ cR : ClassId} {tb : Nat → Nat} {A : Nat → Prop} (hbA : ¬ A b) (hKK : kk_ (dC, dI) (tyS cI cB cZ cJ cR) tb s) (hFx : fx_ tb A s s.heap) (hA : ∀ q, s.heap.size ≤ q → A q) {N : Nat} (hN1 : 256 ≤ N) (hN2 : N ≤ 4096) {B : Int} (hB0 : 0 ≤ B) (hB : B + 50000 ≤ 200000000) {x0 m0 o0 : Nat} {U V : va_W} {g : Nat → Int64} {tz gz : Int} {xz : ZG} (hU : KI N B x0 cI cB cR tz gz xz U) (hV : MIW N B m0 cI cZ cJ tz gz xz V) (hJ : GJz N xz.dt xz.cs xz.ms) {H : Heap} {locs : List Loc} {ls : Array Slot} {cells slots : Nat} (hce : cells + 13 ≤ 601024) (hsl : slots + 338 ≤ 7292999) {iN : Nat} (hi : iN + 6 ≤ L) (hL : L ≤ 3073) (hP : va_P (dC, dI) vwCl ((o0, .inl (cJ, 1, .inr (.inl g))) :: (U ++ V)) H) (hD : va_D A ((o0, .inl (cJ, 1, .inr (.inl g))) :: (U ++ V))) (hS : va_S A s.heap H locs) (hl : lv_has ls 7 [(0, .ref b), (1, .ref x0), (2, .ref m0), (3, .ref o0), (4, .int (nI iN))])
    (key : ∀ (t9 z9 : Int) (x9 : ZG) (g9 : Nat → Int64) (U9 V9 : va_W) (H : Heap) (locs : List Loc) (ls : Array Slot), KI N (B + 50000) x0 cI cB cR t9 z9 x9 U9 → MIW N (B + 50000) m0 cI cZ cJ t9 z9 x9 V9 → GJz N x9.dt x9.cs x9.ms → va_P (dC, dI) vwCl ((o0, .inl (cJ, 1, .inr (.inl g9))) :: (U9 ++ V9)) H → va_D A ((o0, .inl (cJ, 1, .inr (.inl g9))) :: (U9 ++ V9)) → va_S A s.heap H locs → lv_has ls 7 [(0, .ref b), (1, .ref x0), (2, .ref m0), (3, .ref o0), (4, .int (nI iN))] → W p l e room_1 s m #[Value.ref b] below meth c H locs (cells + 13) (slots + 338) Q (F0 m 993 ls [])) : W p l e room_1 s m #[Value.ref b] below meth c H locs cells slots Q (F0 m 705 ls []) := by
  have hK := hKK.1
  refine lv_aload_n hx hb dL_law_705 rfl (lv_at hl 1 rfl) ?_
  refine lv_aload_n hx hb dL_law_706 rfl (lv_at hl 0 rfl) ?_
  refine lv_iload hx hb dL_law_707 (lv_at hl 4 rfl) ?_
  refine lv_iconst (v := 1) hx hb dL_law_709 (by decide) ?_
  refine lv_iadd hx hb dL_law_710 ?_
  refine tp_i (y := nI (iN + 1)) (nI_add iN 1) ?_
  refine va_sld hx hb hX hbl hbA hS (i := nI (iN + 1)) (vp_in_nI (by omega) (by omega)) dL_law_711 ?_
  refine lv_aload_n hx hb dL_law_712 rfl (lv_at hl 3 rfl) ?_
  refine cD_i (A0 := (o0, .inl (cJ, 1, .inr (.inl g))) :: U) (Z := V) (rn_SW (n := 3) (As := [.ref x0, .int (xs (nI (iN + 1)).toNatClampNeg), .ref o0]) (rest := []) hx hb hml hown ht hKK hFx hP hD hS hA (hl_put l dC dI cI cB cZ cJ cR tb hst H.size x0 o0 N B U g hN2 hB tz gz xz hU (xs (nI (iN + 1)).toNatClampNeg)) tw_1177 tw_1178 (by decide +kernel) rfl rfl ⟨Nat.le_of_ble_eq_true rfl, Nat.le_of_ble_eq_true rfl⟩ (List.range ((o0, .inl (cJ, 1, .inr (.inl g))) :: U).length) (ixA_map ((o0, .inl (cJ, 1, .inr (.inl g))) :: U) V) (nd_range _) rfl hl.1 rfl (Nat.le_of_ble_eq_true rfl) dL_law_713 ⟨by show _ ≤ 601024; omega, by show _ ≤ 7292999; omega⟩) hP hD hS hA (fun r1 u1 H locs hw hP hD hS => ?_)
  obtain ⟨g1, U1, hu1, hU1⟩ := hw
  have hu1 : u1 = (o0, .inl (cJ, 1, .inr (.inl g1))) :: U1 := hu1
  subst hu1
  have hP : va_P (dC, dI) vwCl ((o0, .inl (cJ, 1, .inr (.inl g1))) :: (U1 ++ V)) H := hP
  have hD : va_D A ((o0, .inl (cJ, 1, .inr (.inl g1))) :: (U1 ++ V)) := hD
  refine W.widen (k := cells + 1) (n := slots + 6) (by omega) (by omega) ?_
  refine lv_istore (lv' := [(5, .int r1), (0, .ref b), (1, .ref x0), (2, .ref m0), (3, .ref o0), (4, .int (nI iN))]) hx hb dL_law_716 hl (by decide) rfl (fun ls hl => ?_)
  refine lv_aload_n hx hb dL_law_718 rfl (lv_at hl 3 rfl) ?_
  refine lv_aload_n hx hb dL_law_719 rfl (lv_at hl 1 rfl) ?_
  refine lv_iload hx hb dL_law_720 (lv_at hl 5 rfl) ?_
  refine lv_iconst (v := 1) hx hb dL_law_722 (by decide) ?_
  refine lv_iadd hx hb dL_law_723 ?_
  refine tp_i (y := nI (iN + 1)) (nI_add iN 1) ?_
  refine va_sld hx hb hX hbl hbA hS (i := nI (iN + 1)) (vp_in_nI (by omega) (by omega)) dL_law_724 ?_
  obtain ⟨kr2, fs2, hrc2⟩ := MIW.recv hV
  have hP := va_P.perm hP (List.Perm.cons _ List.perm_append_comm)
  have hD := va_D.perm hD (List.Perm.cons _ List.perm_append_comm)
  refine cA_i (rn_Vk (n := 1) (As := [.int (xs (nI (iN + 1)).toNatClampNeg)]) (rest := []) hx hb hml hown ht hKK hFx hP hD hS hA (rl_put l dC dI cI cB cZ cJ cR tb H.size m0 N B V hN1 hN2 hB0 hB tz gz xz hV (xs (nI (iN + 1)).toNatClampNeg)) tw_1179 tw_1180 (by decide +kernel) rfl rfl ⟨Nat.le_of_ble_eq_true rfl, Nat.le_of_ble_eq_true rfl⟩ (ixC V.length) (ixC_map _ _ _) (ixC_nd _) kr2 hrc2 rfl rfl rfl hl.1 rfl (Nat.le_of_ble_eq_true rfl) dL_law_725 ⟨by show _ ≤ 601024; omega, by show _ ≤ 7292999; omega⟩) hP hD hS hA (fun r2 u2 H locs hw2 hP hD hS => ?_)
  have hP := va_P.perm hP (List.Perm.cons _ List.perm_append_comm)
  have hD := va_D.perm hD (List.Perm.cons _ List.perm_append_comm)
  have hP : va_P (dC, dI) vwCl ((o0, .inl (cJ, 1, .inr (.inl g1))) :: (U1 ++ u2)) H := hP
  have hD : va_D A ((o0, .inl (cJ, 1, .inr (.inl g1))) :: (U1 ++ u2)) := hD
  refine W.widen (k := cells + 1) (n := slots + 6) (by omega) (by omega) ?_
  refine lv_istore (lv' := [(6, .int r2), (5, .int r1), (0, .ref b), (1, .ref x0), (2, .ref m0), (3, .ref o0), (4, .int (nI iN))]) hx hb dL_law_728 hl (by decide) rfl (fun ls hl => ?_)
  refine lv_goto (tgt := 993) hx hb dL_law_730 (by decide) ?_
  refine W.widen (k := cells + 13) (n := slots + 338) (by omega) (by omega) ?_
  exact key tz gz xz g1 U1 u2 H locs ls hU1 hw2 hJ hP hD hS (lv_sub hl [2, 3, 4, 5, 6] rfl)
set_option maxHeartbeats 4000000 in
set_option maxRecDepth 100000 in
theorem lawc_19 {p : Program} {e : Env} {s : State} {m : MethodId} {below : List Frame} {meth : Method} {c : Code} (l : Launch) (hst : l.stackTraces = false) {b L : Nat} {xs : Nat → Int32} {Q : State → Prop} (hx : p.tables.exec = Jvm.exec) (hb : c.code = cL_law) (hml : c.maxLocals = 7) (hown : s.vm.findClass RL = some m.cls) (ht : ∀ w ∈ tw_W, w.before #[Value.ref b] s = true) (hX : va_X b L xs s s.heap) (hbl : b < s.heap.size) {dC : Nat → ClassId} {dI : Nat → Nat → Nat} {cI cB cZ cJ cR : ClassId} {tb : Nat → Nat} {A : Nat → Prop} (hbA : ¬ A b) (hKK : kk_ (dC, dI) (tyS cI cB cZ cJ cR) tb s) (hFx : fx_ tb A s s.heap) (hA : ∀ q, s.heap.size ≤ q → A q) {N : Nat} (hN1 : 256 ≤ N) (hN2 : N ≤ 4096) {B : Int} (hB0 : 0 ≤ B) (hB : B + 50000 ≤ 200000000) {x0 m0 o0 : Nat} {U V : va_W} {g : Nat → Int64} {tz gz : Int} {xz : ZG} (hU : KI N B x0 cI cB cR tz gz xz U) (hV : MIW N B m0 cI cZ cJ tz gz xz V) (hJ : GJz N xz.dt xz.cs xz.ms) {H : Heap} {locs : List Loc} {ls : Array Slot} {cells slots : Nat} (hce : cells + 13 ≤ 601024) (hsl : slots + 338 ≤ 7292999) {iN : Nat} (hi : iN + 6 ≤ L) (hL : L ≤ 3073) (hP : va_P (dC, dI) vwCl ((o0, .inl (cJ, 1, .inr (.inl g))) :: (U ++ V)) H) (hD : va_D A ((o0, .inl (cJ, 1, .inr (.inl g))) :: (U ++ V))) (hS : va_S A s.heap H locs) (hl : lv_has ls 7 [(0, .ref b), (1, .ref x0), (2, .ref m0), (3, .ref o0), (4, .int (nI iN))])
    (key : ∀ (t9 z9 : Int) (x9 : ZG) (g9 : Nat → Int64) (U9 V9 : va_W) (H : Heap) (locs : List Loc) (ls : Array Slot), KI N (B + 50000) x0 cI cB cR t9 z9 x9 U9 → MIW N (B + 50000) m0 cI cZ cJ t9 z9 x9 V9 → GJz N x9.dt x9.cs x9.ms → va_P (dC, dI) vwCl ((o0, .inl (cJ, 1, .inr (.inl g9))) :: (U9 ++ V9)) H → va_D A ((o0, .inl (cJ, 1, .inr (.inl g9))) :: (U9 ++ V9)) → va_S A s.heap H locs → lv_has ls 7 [(0, .ref b), (1, .ref x0), (2, .ref m0), (3, .ref o0), (4, .int (nI iN))] → W p l e room_1 s m #[Value.ref b] below meth c H locs (cells + 13) (slots + 338) Q (F0 m 993 ls [])) : W p l e room_1 s m #[Value.ref b] below meth c H locs cells slots Q (F0 m 733 ls []) := by
  have hK := hKK.1
  refine lv_aload_n hx hb dL_law_733 rfl (lv_at hl 1 rfl) ?_
  refine lv_aload_n hx hb dL_law_734 rfl (lv_at hl 0 rfl) ?_
  refine lv_iload hx hb dL_law_735 (lv_at hl 4 rfl) ?_
  refine lv_iconst (v := 1) hx hb dL_law_737 (by decide) ?_
  refine lv_iadd hx hb dL_law_738 ?_
  refine tp_i (y := nI (iN + 1)) (nI_add iN 1) ?_
  refine va_sld hx hb hX hbl hbA hS (i := nI (iN + 1)) (vp_in_nI (by omega) (by omega)) dL_law_739 ?_
  obtain ⟨kr1, fs1, hrc1⟩ := KI.recv hU
  refine cA_i (rn_Vk (n := 1) (As := [.int (xs (nI (iN + 1)).toNatClampNeg)]) (rest := []) hx hb hml hown ht hKK hFx hP hD hS hA (kl_show l dC dI cI cB cZ cJ cR tb hst H.size x0 N B U hN2 hB tz gz xz hU (xs (nI (iN + 1)).toNatClampNeg)) tw_1181 tw_1182 (by decide +kernel) rfl rfl ⟨Nat.le_of_ble_eq_true rfl, Nat.le_of_ble_eq_true rfl⟩ (ixC U.length) (ixC_map _ _ _) (ixC_nd _) kr1 hrc1 rfl rfl rfl hl.1 rfl (Nat.le_of_ble_eq_true rfl) dL_law_740 ⟨by show _ ≤ 601024; omega, by show _ ≤ 7292999; omega⟩) hP hD hS hA (fun r1 u1 H locs hw1 hP hD hS => ?_)
  obtain ⟨hU1, hr1⟩ := hw1
  have hP : va_P (dC, dI) vwCl ((o0, .inl (cJ, 1, .inr (.inl g))) :: (u1 ++ V)) H := hP
  have hD : va_D A ((o0, .inl (cJ, 1, .inr (.inl g))) :: (u1 ++ V)) := hD
  refine W.widen (k := cells + 9) (n := slots + 306) (by omega) (by omega) ?_
  refine lv_pop hx hb dL_law_743 rfl ?_
  refine lv_aload_n hx hb dL_law_744 rfl (lv_at hl 2 rfl) ?_
  refine lv_aload_n hx hb dL_law_745 rfl (lv_at hl 0 rfl) ?_
  refine lv_iload hx hb dL_law_746 (lv_at hl 4 rfl) ?_
  refine lv_iconst (v := 1) hx hb dL_law_748 (by decide) ?_
  refine lv_iadd hx hb dL_law_749 ?_
  refine tp_i (y := nI (iN + 1)) (nI_add iN 1) ?_
  refine va_sld hx hb hX hbl hbA hS (i := nI (iN + 1)) (vp_in_nI (by omega) (by omega)) dL_law_750 ?_
  obtain ⟨kr2, fs2, hrc2⟩ := MIW.recv hV
  have hP := va_P.perm hP (List.Perm.cons _ List.perm_append_comm)
  have hD := va_D.perm hD (List.Perm.cons _ List.perm_append_comm)
  refine cA_i (rn_Vk (n := 1) (As := [.int (xs (nI (iN + 1)).toNatClampNeg)]) (rest := []) hx hb hml hown ht hKK hFx hP hD hS hA (rl_show l dC dI cI cB cZ cJ cR tb H.size m0 N B V hN1 hN2 hB0 hB tz gz xz hV (xs (nI (iN + 1)).toNatClampNeg)) tw_1183 tw_1184 (by decide +kernel) rfl rfl ⟨Nat.le_of_ble_eq_true rfl, Nat.le_of_ble_eq_true rfl⟩ (ixC V.length) (ixC_map _ _ _) (ixC_nd _) kr2 hrc2 rfl rfl rfl hl.1 rfl (Nat.le_of_ble_eq_true rfl) dL_law_751 ⟨by show _ ≤ 601024; omega, by show _ ≤ 7292999; omega⟩) hP hD hS hA (fun r2 u2 H locs hw2 hP hD hS => ?_)
  have hP := va_P.perm hP (List.Perm.cons _ List.perm_append_comm)
  have hD := va_D.perm hD (List.Perm.cons _ List.perm_append_comm)
  obtain ⟨hV2, hr2⟩ := hw2
  have hP : va_P (dC, dI) vwCl ((o0, .inl (cJ, 1, .inr (.inl g))) :: (u1 ++ u2)) H := hP
  have hD : va_D A ((o0, .inl (cJ, 1, .inr (.inl g))) :: (u1 ++ u2)) := hD
  refine W.widen (k := cells + 13) (n := slots + 338) (by omega) (by omega) ?_
  refine lv_pop hx hb dL_law_754 rfl ?_
  refine lv_goto (tgt := 993) hx hb dL_law_755 (by decide) ?_
  refine W.widen (k := cells + 13) (n := slots + 338) (by omega) (by omega) ?_
  exact key tz gz (xz.sh (tM (xs (nI (iN + 1)).toNatClampNeg))) g u1 u2 H locs ls hU1 hV2 hJ hP hD hS (lv_sub hl [0, 1, 2, 3, 4] rfl)
set_option maxHeartbeats 4000000 in
set_option maxRecDepth 100000 in
theorem lawc_20 {p : Program} {e : Env} {s : State} {m : MethodId} {below : List Frame} {meth : Method} {c : Code} (l : Launch) (hst : l.stackTraces = false) {b L : Nat} {xs : Nat → Int32} {Q : State → Prop} (hx : p.tables.exec = Jvm.exec) (hb : c.code = cL_law) (hml : c.maxLocals = 7) (hown : s.vm.findClass RL = some m.cls) (ht : ∀ w ∈ tw_W, w.before #[Value.ref b] s = true) (hX : va_X b L xs s s.heap) (hbl : b < s.heap.size) {dC : Nat → ClassId} {dI : Nat → Nat → Nat} {cI cB cZ cJ cR : ClassId} {tb : Nat → Nat} {A : Nat → Prop} (hbA : ¬ A b) (hKK : kk_ (dC, dI) (tyS cI cB cZ cJ cR) tb s) (hFx : fx_ tb A s s.heap) (hA : ∀ q, s.heap.size ≤ q → A q) {N : Nat} (hN1 : 256 ≤ N) (hN2 : N ≤ 4096) {B : Int} (hB0 : 0 ≤ B) (hB : B + 50000 ≤ 200000000) {x0 m0 o0 : Nat} {U V : va_W} {g : Nat → Int64} {tz gz : Int} {xz : ZG} (hU : KI N B x0 cI cB cR tz gz xz U) (hV : MIW N B m0 cI cZ cJ tz gz xz V) (hJ : GJz N xz.dt xz.cs xz.ms) {H : Heap} {locs : List Loc} {ls : Array Slot} {cells slots : Nat} (hce : cells + 13 ≤ 601024) (hsl : slots + 338 ≤ 7292999) {iN : Nat} (hi : iN + 6 ≤ L) (hL : L ≤ 3073) (hP : va_P (dC, dI) vwCl ((o0, .inl (cJ, 1, .inr (.inl g))) :: (U ++ V)) H) (hD : va_D A ((o0, .inl (cJ, 1, .inr (.inl g))) :: (U ++ V))) (hS : va_S A s.heap H locs) (hl : lv_has ls 7 [(0, .ref b), (1, .ref x0), (2, .ref m0), (3, .ref o0), (4, .int (nI iN))])
    (key : ∀ (t9 z9 : Int) (x9 : ZG) (g9 : Nat → Int64) (U9 V9 : va_W) (H : Heap) (locs : List Loc) (ls : Array Slot), KI N (B + 50000) x0 cI cB cR t9 z9 x9 U9 → MIW N (B + 50000) m0 cI cZ cJ t9 z9 x9 V9 → GJz N x9.dt x9.cs x9.ms → va_P (dC, dI) vwCl ((o0, .inl (cJ, 1, .inr (.inl g9))) :: (U9 ++ V9)) H → va_D A ((o0, .inl (cJ, 1, .inr (.inl g9))) :: (U9 ++ V9)) → va_S A s.heap H locs → lv_has ls 7 [(0, .ref b), (1, .ref x0), (2, .ref m0), (3, .ref o0), (4, .int (nI iN))] → W p l e room_1 s m #[Value.ref b] below meth c H locs (cells + 13) (slots + 338) Q (F0 m 993 ls [])) : W p l e room_1 s m #[Value.ref b] below meth c H locs cells slots Q (F0 m 758 ls []) := by
  have hK := hKK.1
  refine lv_aload_n hx hb dL_law_758 rfl (lv_at hl 1 rfl) ?_
  refine lv_aload_n hx hb dL_law_759 rfl (lv_at hl 0 rfl) ?_
  refine lv_iload hx hb dL_law_760 (lv_at hl 4 rfl) ?_
  refine lv_iconst (v := 1) hx hb dL_law_762 (by decide) ?_
  refine lv_iadd hx hb dL_law_763 ?_
  refine tp_i (y := nI (iN + 1)) (nI_add iN 1) ?_
  refine va_sld hx hb hX hbl hbA hS (i := nI (iN + 1)) (vp_in_nI (by omega) (by omega)) dL_law_764 ?_
  obtain ⟨kr1, fs1, hrc1⟩ := KI.recv hU
  refine cA_i (rn_Vk (n := 1) (As := [.int (xs (nI (iN + 1)).toNatClampNeg)]) (rest := []) hx hb hml hown ht hKK hFx hP hD hS hA (kl_octet l dC dI cI cB cZ cJ cR tb hst H.size x0 N B U hN2 hB tz gz xz hU (xs (nI (iN + 1)).toNatClampNeg)) tw_1185 tw_1186 (by decide +kernel) rfl rfl ⟨Nat.le_of_ble_eq_true rfl, Nat.le_of_ble_eq_true rfl⟩ (ixC U.length) (ixC_map _ _ _) (ixC_nd _) kr1 hrc1 rfl rfl rfl hl.1 rfl (Nat.le_of_ble_eq_true rfl) dL_law_765 ⟨by show _ ≤ 601024; omega, by show _ ≤ 7292999; omega⟩) hP hD hS hA (fun r1 u1 H locs hw1 hP hD hS => ?_)
  obtain ⟨hU1, hr1⟩ := hw1
  have hP : va_P (dC, dI) vwCl ((o0, .inl (cJ, 1, .inr (.inl g))) :: (u1 ++ V)) H := hP
  have hD : va_D A ((o0, .inl (cJ, 1, .inr (.inl g))) :: (u1 ++ V)) := hD
  refine W.widen (k := cells + 0) (n := slots + 0) (by omega) (by omega) ?_
  refine lv_pop hx hb dL_law_768 rfl ?_
  refine lv_aload_n hx hb dL_law_769 rfl (lv_at hl 2 rfl) ?_
  refine lv_aload_n hx hb dL_law_770 rfl (lv_at hl 0 rfl) ?_
  refine lv_iload hx hb dL_law_771 (lv_at hl 4 rfl) ?_
  refine lv_iconst (v := 1) hx hb dL_law_773 (by decide) ?_
  refine lv_iadd hx hb dL_law_774 ?_
  refine tp_i (y := nI (iN + 1)) (nI_add iN 1) ?_
  refine va_sld hx hb hX hbl hbA hS (i := nI (iN + 1)) (vp_in_nI (by omega) (by omega)) dL_law_775 ?_
  obtain ⟨kr2, fs2, hrc2⟩ := MIW.recv hV
  have hP := va_P.perm hP (List.Perm.cons _ List.perm_append_comm)
  have hD := va_D.perm hD (List.Perm.cons _ List.perm_append_comm)
  refine cA_i (rn_Vk (n := 1) (As := [.int (xs (nI (iN + 1)).toNatClampNeg)]) (rest := []) hx hb hml hown ht hKK hFx hP hD hS hA (rl_octet l dC dI cI cB cZ cJ cR tb H.size m0 N B V hN1 hN2 hB0 hB tz gz xz hV (xs (nI (iN + 1)).toNatClampNeg)) tw_1187 tw_1188 (by decide +kernel) rfl rfl ⟨Nat.le_of_ble_eq_true rfl, Nat.le_of_ble_eq_true rfl⟩ (ixC V.length) (ixC_map _ _ _) (ixC_nd _) kr2 hrc2 rfl rfl rfl hl.1 rfl (Nat.le_of_ble_eq_true rfl) dL_law_776 ⟨by show _ ≤ 601024; omega, by show _ ≤ 7292999; omega⟩) hP hD hS hA (fun r2 u2 H locs hw2 hP hD hS => ?_)
  have hP := va_P.perm hP (List.Perm.cons _ List.perm_append_comm)
  have hD := va_D.perm hD (List.Perm.cons _ List.perm_append_comm)
  obtain ⟨hV2, hr2⟩ := hw2
  have hP : va_P (dC, dI) vwCl ((o0, .inl (cJ, 1, .inr (.inl g))) :: (u1 ++ u2)) H := hP
  have hD : va_D A ((o0, .inl (cJ, 1, .inr (.inl g))) :: (u1 ++ u2)) := hD
  refine W.widen (k := cells + 0) (n := slots + 0) (by omega) (by omega) ?_
  refine lv_pop hx hb dL_law_779 rfl ?_
  refine lv_goto (tgt := 993) hx hb dL_law_780 (by decide) ?_
  refine W.widen (k := cells + 13) (n := slots + 338) (by omega) (by omega) ?_
  exact key tz gz xz g u1 u2 H locs ls hU1 hV2 hJ hP hD hS (lv_sub hl [0, 1, 2, 3, 4] rfl)
set_option maxHeartbeats 4000000 in
set_option maxRecDepth 100000 in
theorem lawc_21 {p : Program} {e : Env} {s : State} {m : MethodId} {below : List Frame} {meth : Method} {c : Code} (l : Launch) (hst : l.stackTraces = false) {b L : Nat} {xs : Nat → Int32} {Q : State → Prop} (hx : p.tables.exec = Jvm.exec) (hb : c.code = cL_law) (hml : c.maxLocals = 7) (hown : s.vm.findClass RL = some m.cls) (ht : ∀ w ∈ tw_W, w.before #[Value.ref b] s = true) (hX : va_X b L xs s s.heap) (hbl : b < s.heap.size) {dC : Nat → ClassId} {dI : Nat → Nat → Nat} {cI cB cZ cJ cR : ClassId} {tb : Nat → Nat} {A : Nat → Prop} (hbA : ¬ A b) (hKK : kk_ (dC, dI) (tyS cI cB cZ cJ cR) tb s) (hFx : fx_ tb A s s.heap) (hA : ∀ q, s.heap.size ≤ q → A q) {N : Nat} (hN1 : 256 ≤ N) (hN2 : N ≤ 4096) {B : Int} (hB0 : 0 ≤ B) (hB : B + 50000 ≤ 200000000) {x0 m0 o0 : Nat} {U V : va_W} {g : Nat → Int64} {tz gz : Int} {xz : ZG} (hU : KI N B x0 cI cB cR tz gz xz U) (hV : MIW N B m0 cI cZ cJ tz gz xz V) (hJ : GJz N xz.dt xz.cs xz.ms) {H : Heap} {locs : List Loc} {ls : Array Slot} {cells slots : Nat} (hce : cells + 13 ≤ 601024) (hsl : slots + 338 ≤ 7292999) {iN : Nat} (hi : iN + 6 ≤ L) (hL : L ≤ 3073) (hP : va_P (dC, dI) vwCl ((o0, .inl (cJ, 1, .inr (.inl g))) :: (U ++ V)) H) (hD : va_D A ((o0, .inl (cJ, 1, .inr (.inl g))) :: (U ++ V))) (hS : va_S A s.heap H locs) (hl : lv_has ls 7 [(0, .ref b), (1, .ref x0), (2, .ref m0), (3, .ref o0), (4, .int (nI iN))])
    (key : ∀ (t9 z9 : Int) (x9 : ZG) (g9 : Nat → Int64) (U9 V9 : va_W) (H : Heap) (locs : List Loc) (ls : Array Slot), KI N (B + 50000) x0 cI cB cR t9 z9 x9 U9 → MIW N (B + 50000) m0 cI cZ cJ t9 z9 x9 V9 → GJz N x9.dt x9.cs x9.ms → va_P (dC, dI) vwCl ((o0, .inl (cJ, 1, .inr (.inl g9))) :: (U9 ++ V9)) H → va_D A ((o0, .inl (cJ, 1, .inr (.inl g9))) :: (U9 ++ V9)) → va_S A s.heap H locs → lv_has ls 7 [(0, .ref b), (1, .ref x0), (2, .ref m0), (3, .ref o0), (4, .int (nI iN))] → W p l e room_1 s m #[Value.ref b] below meth c H locs (cells + 13) (slots + 338) Q (F0 m 993 ls [])) : W p l e room_1 s m #[Value.ref b] below meth c H locs cells slots Q (F0 m 783 ls []) := by
  have hK := hKK.1
  refine lv_aload_n hx hb dL_law_783 rfl (lv_at hl 1 rfl) ?_
  refine lv_aload_n hx hb dL_law_784 rfl (lv_at hl 0 rfl) ?_
  refine lv_iload hx hb dL_law_785 (lv_at hl 4 rfl) ?_
  refine lv_iconst (v := 1) hx hb dL_law_787 (by decide) ?_
  refine lv_iadd hx hb dL_law_788 ?_
  refine tp_i (y := nI (iN + 1)) (nI_add iN 1) ?_
  refine va_sld hx hb hX hbl hbA hS (i := nI (iN + 1)) (vp_in_nI (by omega) (by omega)) dL_law_789 ?_
  refine lv_aload_n hx hb dL_law_790 rfl (lv_at hl 0 rfl) ?_
  refine lv_iload hx hb dL_law_791 (lv_at hl 4 rfl) ?_
  refine lv_iconst (v := 2) hx hb dL_law_793 (by decide) ?_
  refine lv_iadd hx hb dL_law_794 ?_
  refine tp_i (y := nI (iN + 2)) (nI_add iN 2) ?_
  refine va_sld hx hb hX hbl hbA hS (i := nI (iN + 2)) (vp_in_nI (by omega) (by omega)) dL_law_795 ?_
  refine lv_aload_n hx hb dL_law_796 rfl (lv_at hl 0 rfl) ?_
  refine lv_iload hx hb dL_law_797 (lv_at hl 4 rfl) ?_
  refine lv_iconst (v := 3) hx hb dL_law_799 (by decide) ?_
  refine lv_iadd hx hb dL_law_800 ?_
  refine tp_i (y := nI (iN + 3)) (nI_add iN 3) ?_
  refine va_sld hx hb hX hbl hbA hS (i := nI (iN + 3)) (vp_in_nI (by omega) (by omega)) dL_law_801 ?_
  refine lv_aload_n hx hb dL_law_802 rfl (lv_at hl 0 rfl) ?_
  refine lv_iload hx hb dL_law_803 (lv_at hl 4 rfl) ?_
  refine lv_iconst (v := 4) hx hb dL_law_805 (by decide) ?_
  refine lv_iadd hx hb dL_law_806 ?_
  refine tp_i (y := nI (iN + 4)) (nI_add iN 4) ?_
  refine va_sld hx hb hX hbl hbA hS (i := nI (iN + 4)) (vp_in_nI (by omega) (by omega)) dL_law_807 ?_
  refine lv_aload_n hx hb dL_law_808 rfl (lv_at hl 3 rfl) ?_
  refine cD_i (A0 := (o0, .inl (cJ, 1, .inr (.inl g))) :: U) (Z := V) (rn_SW (n := 6) (As := [.ref x0, .int (xs (nI (iN + 1)).toNatClampNeg), .int (xs (nI (iN + 2)).toNatClampNeg), .int (xs (nI (iN + 3)).toNatClampNeg), .int (xs (nI (iN + 4)).toNatClampNeg), .ref o0]) (rest := []) hx hb hml hown ht hKK hFx hP hD hS hA (hl_work l dC dI cI cB cZ cJ cR tb hst H.size x0 o0 N B U g hN2 hB tz gz xz hU (xs (nI (iN + 1)).toNatClampNeg) (xs (nI (iN + 2)).toNatClampNeg) (xs (nI (iN + 3)).toNatClampNeg) (xs (nI (iN + 4)).toNatClampNeg)) tw_1189 tw_1190 (by decide +kernel) rfl rfl ⟨Nat.le_of_ble_eq_true rfl, Nat.le_of_ble_eq_true rfl⟩ (List.range ((o0, .inl (cJ, 1, .inr (.inl g))) :: U).length) (ixA_map ((o0, .inl (cJ, 1, .inr (.inl g))) :: U) V) (nd_range _) rfl hl.1 rfl (Nat.le_of_ble_eq_true rfl) dL_law_809 ⟨by show _ ≤ 601024; omega, by show _ ≤ 7292999; omega⟩) hP hD hS hA (fun r1 u1 H locs hw hP hD hS => ?_)
  obtain ⟨g1, U1, hu1, c1, hU1, hcx⟩ := hw
  have hu1 : u1 = (o0, .inl (cJ, 1, .inr (.inl g1))) :: U1 := hu1
  subst hu1
  have hcx : HCw N gz xz (xs (nI (iN + 1)).toNatClampNeg) (xs (nI (iN + 2)).toNatClampNeg) (xs (nI (iN + 3)).toNatClampNeg) (xs (nI (iN + 4)).toNatClampNeg) r1.toInt (g1 0) c1 := hcx
  have hP : va_P (dC, dI) vwCl ((o0, .inl (cJ, 1, .inr (.inl g1))) :: (U1 ++ V)) H := hP
  have hD : va_D A ((o0, .inl (cJ, 1, .inr (.inl g1))) :: (U1 ++ V)) := hD
  refine W.widen (k := cells + 1) (n := slots + 6) (by omega) (by omega) ?_
  refine lv_istore (lv' := [(5, .int r1), (0, .ref b), (1, .ref x0), (2, .ref m0), (3, .ref o0), (4, .int (nI iN))]) hx hb dL_law_812 hl (by decide) rfl (fun ls hl => ?_)
  refine lv_aload_n hx hb dL_law_814 rfl (lv_at hl 3 rfl) ?_
  refine lv_aload_n hx hb dL_law_815 rfl (lv_at hl 1 rfl) ?_
  refine lv_iload hx hb dL_law_816 (lv_at hl 5 rfl) ?_
  refine lv_iconst (v := 1) hx hb dL_law_818 (by decide) ?_
  refine lv_iadd hx hb dL_law_819 ?_
  refine tp_i (y := nI (iN + 1)) (nI_add iN 1) ?_
  refine va_sld hx hb hX hbl hbA hS (i := nI (iN + 1)) (vp_in_nI (by omega) (by omega)) dL_law_820 ?_
  refine lv_aload_n hx hb dL_law_821 rfl (lv_at hl 1 rfl) ?_
  refine lv_iload hx hb dL_law_822 (lv_at hl 5 rfl) ?_
  refine lv_iconst (v := 2) hx hb dL_law_824 (by decide) ?_
  refine lv_iadd hx hb dL_law_825 ?_
  refine tp_i (y := nI (iN + 2)) (nI_add iN 2) ?_
  refine va_sld hx hb hX hbl hbA hS (i := nI (iN + 2)) (vp_in_nI (by omega) (by omega)) dL_law_826 ?_
  refine lv_aload_n hx hb dL_law_827 rfl (lv_at hl 1 rfl) ?_
  refine lv_iload hx hb dL_law_828 (lv_at hl 5 rfl) ?_
  refine lv_iconst (v := 3) hx hb dL_law_830 (by decide) ?_
  refine lv_iadd hx hb dL_law_831 ?_
  refine tp_i (y := nI (iN + 3)) (nI_add iN 3) ?_
  refine va_sld hx hb hX hbl hbA hS (i := nI (iN + 3)) (vp_in_nI (by omega) (by omega)) dL_law_832 ?_
  refine lv_aload_n hx hb dL_law_833 rfl (lv_at hl 1 rfl) ?_
  refine lv_iload hx hb dL_law_834 (lv_at hl 5 rfl) ?_
  refine lv_iconst (v := 4) hx hb dL_law_836 (by decide) ?_
  refine lv_iadd hx hb dL_law_837 ?_
  refine tp_i (y := nI (iN + 4)) (nI_add iN 4) ?_
  refine va_sld hx hb hX hbl hbA hS (i := nI (iN + 4)) (vp_in_nI (by omega) (by omega)) dL_law_838 ?_
  obtain ⟨kr2, fs2, hrc2⟩ := MIW.recv hV
  have hP := va_P.perm hP (List.Perm.cons _ List.perm_append_comm)
  have hD := va_D.perm hD (List.Perm.cons _ List.perm_append_comm)
  refine cA_i (rn_Vk (n := 4) (As := [.int (xs (nI (iN + 1)).toNatClampNeg), .int (xs (nI (iN + 2)).toNatClampNeg), .int (xs (nI (iN + 3)).toNatClampNeg), .int (xs (nI (iN + 4)).toNatClampNeg)]) (rest := []) hx hb hml hown ht hKK hFx hP hD hS hA (rl_work l dC dI cI cB cZ cJ cR tb H.size m0 N B V hN1 hN2 hB0 hB tz gz xz hV (xs (nI (iN + 1)).toNatClampNeg) (xs (nI (iN + 2)).toNatClampNeg) (xs (nI (iN + 3)).toNatClampNeg) (xs (nI (iN + 4)).toNatClampNeg)) tw_1191 tw_1192 (by decide +kernel) rfl rfl ⟨Nat.le_of_ble_eq_true rfl, Nat.le_of_ble_eq_true rfl⟩ (ixC V.length) (ixC_map _ _ _) (ixC_nd _) kr2 hrc2 rfl rfl rfl hl.1 rfl (Nat.le_of_ble_eq_true rfl) dL_law_839 ⟨by show _ ≤ 601024; omega, by show _ ≤ 7292999; omega⟩) hP hD hS hA (fun r2 u2 H locs hw2 hP hD hS => ?_)
  have hP := va_P.perm hP (List.Perm.cons _ List.perm_append_comm)
  have hD := va_D.perm hD (List.Perm.cons _ List.perm_append_comm)
  obtain ⟨m2, hV2⟩ := hw2
  have hP : va_P (dC, dI) vwCl ((o0, .inl (cJ, 1, .inr (.inl g1))) :: (U1 ++ u2)) H := hP
  have hD : va_D A ((o0, .inl (cJ, 1, .inr (.inl g1))) :: (U1 ++ u2)) := hD
  refine W.widen (k := cells + 1) (n := slots + 6) (by omega) (by omega) ?_
  refine lv_istore (lv' := [(6, .int r2), (5, .int r1), (0, .ref b), (1, .ref x0), (2, .ref m0), (3, .ref o0), (4, .int (nI iN))]) hx hb dL_law_842 hl (by decide) rfl (fun ls hl => ?_)
  refine lv_goto (tgt := 993) hx hb dL_law_844 (by decide) ?_
  refine W.widen (k := cells + 13) (n := slots + 338) (by omega) (by omega) ?_
  obtain ⟨x8, htx⟩ := MIT.t (hV2 c1)
  have htx : HMw N gz xz (xs (nI (iN + 1)).toNatClampNeg) (xs (nI (iN + 2)).toNatClampNeg) (xs (nI (iN + 3)).toNatClampNeg) (xs (nI (iN + 4)).toNatClampNeg) x8 r2 m2 := htx
  have hJ2 := (workZ hN2 hN1 hJ hcx htx).2.2
  exact key tz gz (xz.cw c1 m2) g1 U1 u2 H locs ls (hU1 m2) (hV2 c1).w hJ2 hP hD hS (lv_sub hl [2, 3, 4, 5, 6] rfl)
set_option maxHeartbeats 4000000 in
set_option maxRecDepth 100000 in
theorem lawc_22 {p : Program} {e : Env} {s : State} {m : MethodId} {below : List Frame} {meth : Method} {c : Code} (l : Launch) (hst : l.stackTraces = false) {b L : Nat} {xs : Nat → Int32} {Q : State → Prop} (hx : p.tables.exec = Jvm.exec) (hb : c.code = cL_law) (hml : c.maxLocals = 7) (hown : s.vm.findClass RL = some m.cls) (ht : ∀ w ∈ tw_W, w.before #[Value.ref b] s = true) (hX : va_X b L xs s s.heap) (hbl : b < s.heap.size) {dC : Nat → ClassId} {dI : Nat → Nat → Nat} {cI cB cZ cJ cR : ClassId} {tb : Nat → Nat} {A : Nat → Prop} (hbA : ¬ A b) (hKK : kk_ (dC, dI) (tyS cI cB cZ cJ cR) tb s) (hFx : fx_ tb A s s.heap) (hA : ∀ q, s.heap.size ≤ q → A q) {N : Nat} (hN1 : 256 ≤ N) (hN2 : N ≤ 4096) {B : Int} (hB0 : 0 ≤ B) (hB : B + 50000 ≤ 200000000) {x0 m0 o0 : Nat} {U V : va_W} {g : Nat → Int64} {tz gz : Int} {xz : ZG} (hU : KI N B x0 cI cB cR tz gz xz U) (hV : MIW N B m0 cI cZ cJ tz gz xz V) (hJ : GJz N xz.dt xz.cs xz.ms) {H : Heap} {locs : List Loc} {ls : Array Slot} {cells slots : Nat} (hce : cells + 13 ≤ 601024) (hsl : slots + 338 ≤ 7292999) {iN : Nat} (hi : iN + 6 ≤ L) (hL : L ≤ 3073) (hP : va_P (dC, dI) vwCl ((o0, .inl (cJ, 1, .inr (.inl g))) :: (U ++ V)) H) (hD : va_D A ((o0, .inl (cJ, 1, .inr (.inl g))) :: (U ++ V))) (hS : va_S A s.heap H locs) (hl : lv_has ls 7 [(0, .ref b), (1, .ref x0), (2, .ref m0), (3, .ref o0), (4, .int (nI iN))])
    (key : ∀ (t9 z9 : Int) (x9 : ZG) (g9 : Nat → Int64) (U9 V9 : va_W) (H : Heap) (locs : List Loc) (ls : Array Slot), KI N (B + 50000) x0 cI cB cR t9 z9 x9 U9 → MIW N (B + 50000) m0 cI cZ cJ t9 z9 x9 V9 → GJz N x9.dt x9.cs x9.ms → va_P (dC, dI) vwCl ((o0, .inl (cJ, 1, .inr (.inl g9))) :: (U9 ++ V9)) H → va_D A ((o0, .inl (cJ, 1, .inr (.inl g9))) :: (U9 ++ V9)) → va_S A s.heap H locs → lv_has ls 7 [(0, .ref b), (1, .ref x0), (2, .ref m0), (3, .ref o0), (4, .int (nI iN))] → W p l e room_1 s m #[Value.ref b] below meth c H locs (cells + 13) (slots + 338) Q (F0 m 993 ls [])) : W p l e room_1 s m #[Value.ref b] below meth c H locs cells slots Q (F0 m 847 ls []) := by
  have hK := hKK.1
  refine lv_aload_n hx hb dL_law_847 rfl (lv_at hl 1 rfl) ?_
  refine lv_aload_n hx hb dL_law_848 rfl (lv_at hl 0 rfl) ?_
  refine lv_iload hx hb dL_law_849 (lv_at hl 4 rfl) ?_
  refine lv_iconst (v := 1) hx hb dL_law_851 (by decide) ?_
  refine lv_iadd hx hb dL_law_852 ?_
  refine tp_i (y := nI (iN + 1)) (nI_add iN 1) ?_
  refine va_sld hx hb hX hbl hbA hS (i := nI (iN + 1)) (vp_in_nI (by omega) (by omega)) dL_law_853 ?_
  obtain ⟨kr1, fs1, hrc1⟩ := KI.recv hU
  refine cA_i (rn_Vk (n := 1) (As := [.int (xs (nI (iN + 1)).toNatClampNeg)]) (rest := []) hx hb hml hown ht hKK hFx hP hD hS hA (kl_told l dC dI cI cB cZ cJ cR tb hst H.size x0 N B U hN2 hB tz gz xz hU (xs (nI (iN + 1)).toNatClampNeg)) tw_1193 tw_1194 (by decide +kernel) rfl rfl ⟨Nat.le_of_ble_eq_true rfl, Nat.le_of_ble_eq_true rfl⟩ (ixC U.length) (ixC_map _ _ _) (ixC_nd _) kr1 hrc1 rfl rfl rfl hl.1 rfl (Nat.le_of_ble_eq_true rfl) dL_law_854 ⟨by show _ ≤ 601024; omega, by show _ ≤ 7292999; omega⟩) hP hD hS hA (fun r1 u1 H locs hw1 hP hD hS => ?_)
  obtain ⟨hU1, hr1⟩ := hw1
  have hP : va_P (dC, dI) vwCl ((o0, .inl (cJ, 1, .inr (.inl g))) :: (u1 ++ V)) H := hP
  have hD : va_D A ((o0, .inl (cJ, 1, .inr (.inl g))) :: (u1 ++ V)) := hD
  refine W.widen (k := cells + 0) (n := slots + 0) (by omega) (by omega) ?_
  refine lv_pop hx hb dL_law_857 rfl ?_
  refine lv_aload_n hx hb dL_law_858 rfl (lv_at hl 2 rfl) ?_
  refine lv_aload_n hx hb dL_law_859 rfl (lv_at hl 0 rfl) ?_
  refine lv_iload hx hb dL_law_860 (lv_at hl 4 rfl) ?_
  refine lv_iconst (v := 1) hx hb dL_law_862 (by decide) ?_
  refine lv_iadd hx hb dL_law_863 ?_
  refine tp_i (y := nI (iN + 1)) (nI_add iN 1) ?_
  refine va_sld hx hb hX hbl hbA hS (i := nI (iN + 1)) (vp_in_nI (by omega) (by omega)) dL_law_864 ?_
  obtain ⟨kr2, fs2, hrc2⟩ := MIW.recv hV
  have hP := va_P.perm hP (List.Perm.cons _ List.perm_append_comm)
  have hD := va_D.perm hD (List.Perm.cons _ List.perm_append_comm)
  refine cA_i (rn_Vk (n := 1) (As := [.int (xs (nI (iN + 1)).toNatClampNeg)]) (rest := []) hx hb hml hown ht hKK hFx hP hD hS hA (rl_told l dC dI cI cB cZ cJ cR tb H.size m0 N B V hN1 hN2 hB0 hB tz gz xz hV (xs (nI (iN + 1)).toNatClampNeg)) tw_1195 tw_1196 (by decide +kernel) rfl rfl ⟨Nat.le_of_ble_eq_true rfl, Nat.le_of_ble_eq_true rfl⟩ (ixC V.length) (ixC_map _ _ _) (ixC_nd _) kr2 hrc2 rfl rfl rfl hl.1 rfl (Nat.le_of_ble_eq_true rfl) dL_law_865 ⟨by show _ ≤ 601024; omega, by show _ ≤ 7292999; omega⟩) hP hD hS hA (fun r2 u2 H locs hw2 hP hD hS => ?_)
  have hP := va_P.perm hP (List.Perm.cons _ List.perm_append_comm)
  have hD := va_D.perm hD (List.Perm.cons _ List.perm_append_comm)
  obtain ⟨hV2, hr2⟩ := hw2
  have hte := toldZ hJ hr1 hr2
  have hP : va_P (dC, dI) vwCl ((o0, .inl (cJ, 1, .inr (.inl g))) :: (u1 ++ u2)) H := hP
  have hD : va_D A ((o0, .inl (cJ, 1, .inr (.inl g))) :: (u1 ++ u2)) := hD
  refine W.widen (k := cells + 0) (n := slots + 0) (by omega) (by omega) ?_
  refine lv_pop hx hb dL_law_868 rfl ?_
  refine lv_goto (tgt := 993) hx hb dL_law_869 (by decide) ?_
  refine W.widen (k := cells + 13) (n := slots + 338) (by omega) (by omega) ?_
  exact key tz gz xz g u1 u2 H locs ls hU1 hV2 hJ hP hD hS (lv_sub hl [0, 1, 2, 3, 4] rfl)
set_option maxHeartbeats 4000000 in
set_option maxRecDepth 100000 in
theorem lawc_23 {p : Program} {e : Env} {s : State} {m : MethodId} {below : List Frame} {meth : Method} {c : Code} (l : Launch) (hst : l.stackTraces = false) {b L : Nat} {xs : Nat → Int32} {Q : State → Prop} (hx : p.tables.exec = Jvm.exec) (hb : c.code = cL_law) (hml : c.maxLocals = 7) (hown : s.vm.findClass RL = some m.cls) (ht : ∀ w ∈ tw_W, w.before #[Value.ref b] s = true) (hX : va_X b L xs s s.heap) (hbl : b < s.heap.size) {dC : Nat → ClassId} {dI : Nat → Nat → Nat} {cI cB cZ cJ cR : ClassId} {tb : Nat → Nat} {A : Nat → Prop} (hbA : ¬ A b) (hKK : kk_ (dC, dI) (tyS cI cB cZ cJ cR) tb s) (hFx : fx_ tb A s s.heap) (hA : ∀ q, s.heap.size ≤ q → A q) {N : Nat} (hN1 : 256 ≤ N) (hN2 : N ≤ 4096) {B : Int} (hB0 : 0 ≤ B) (hB : B + 50000 ≤ 200000000) {x0 m0 o0 : Nat} {U V : va_W} {g : Nat → Int64} {tz gz : Int} {xz : ZG} (hU : KI N B x0 cI cB cR tz gz xz U) (hV : MIW N B m0 cI cZ cJ tz gz xz V) (hJ : GJz N xz.dt xz.cs xz.ms) {H : Heap} {locs : List Loc} {ls : Array Slot} {cells slots : Nat} (hce : cells + 13 ≤ 601024) (hsl : slots + 338 ≤ 7292999) {iN : Nat} (hi : iN + 6 ≤ L) (hL : L ≤ 3073) (hP : va_P (dC, dI) vwCl ((o0, .inl (cJ, 1, .inr (.inl g))) :: (U ++ V)) H) (hD : va_D A ((o0, .inl (cJ, 1, .inr (.inl g))) :: (U ++ V))) (hS : va_S A s.heap H locs) (hl : lv_has ls 7 [(0, .ref b), (1, .ref x0), (2, .ref m0), (3, .ref o0), (4, .int (nI iN))])
    (key : ∀ (t9 z9 : Int) (x9 : ZG) (g9 : Nat → Int64) (U9 V9 : va_W) (H : Heap) (locs : List Loc) (ls : Array Slot), KI N (B + 50000) x0 cI cB cR t9 z9 x9 U9 → MIW N (B + 50000) m0 cI cZ cJ t9 z9 x9 V9 → GJz N x9.dt x9.cs x9.ms → va_P (dC, dI) vwCl ((o0, .inl (cJ, 1, .inr (.inl g9))) :: (U9 ++ V9)) H → va_D A ((o0, .inl (cJ, 1, .inr (.inl g9))) :: (U9 ++ V9)) → va_S A s.heap H locs → lv_has ls 7 [(0, .ref b), (1, .ref x0), (2, .ref m0), (3, .ref o0), (4, .int (nI iN))] → W p l e room_1 s m #[Value.ref b] below meth c H locs (cells + 13) (slots + 338) Q (F0 m 993 ls [])) : W p l e room_1 s m #[Value.ref b] below meth c H locs cells slots Q (F0 m 872 ls []) := by
  have hK := hKK.1
  refine lv_aload_n hx hb dL_law_872 rfl (lv_at hl 1 rfl) ?_
  refine lv_aload_n hx hb dL_law_873 rfl (lv_at hl 0 rfl) ?_
  refine lv_iload hx hb dL_law_874 (lv_at hl 4 rfl) ?_
  refine lv_iconst (v := 1) hx hb dL_law_876 (by decide) ?_
  refine lv_iadd hx hb dL_law_877 ?_
  refine tp_i (y := nI (iN + 1)) (nI_add iN 1) ?_
  refine va_sld hx hb hX hbl hbA hS (i := nI (iN + 1)) (vp_in_nI (by omega) (by omega)) dL_law_878 ?_
  refine lv_aload_n hx hb dL_law_879 rfl (lv_at hl 3 rfl) ?_
  refine cD_i (A0 := (o0, .inl (cJ, 1, .inr (.inl g))) :: U) (Z := V) (rn_SW (n := 3) (As := [.ref x0, .int (xs (nI (iN + 1)).toNatClampNeg), .ref o0]) (rest := []) hx hb hml hown ht hKK hFx hP hD hS hA (hl_worked l dC dI cI cB cZ cJ cR tb hst H.size x0 o0 N B U g hN2 hB tz gz xz hU (xs (nI (iN + 1)).toNatClampNeg)) tw_1197 tw_1198 (by decide +kernel) rfl rfl ⟨Nat.le_of_ble_eq_true rfl, Nat.le_of_ble_eq_true rfl⟩ (List.range ((o0, .inl (cJ, 1, .inr (.inl g))) :: U).length) (ixA_map ((o0, .inl (cJ, 1, .inr (.inl g))) :: U) V) (nd_range _) rfl hl.1 rfl (Nat.le_of_ble_eq_true rfl) dL_law_880 ⟨by show _ ≤ 601024; omega, by show _ ≤ 7292999; omega⟩) hP hD hS hA (fun r1 u1 H locs hw hP hD hS => ?_)
  obtain ⟨g1, U1, hu1, hU1, hcx⟩ := hw
  have hu1 : u1 = (o0, .inl (cJ, 1, .inr (.inl g1))) :: U1 := hu1
  subst hu1
  have hcx : HCd xz (xs (nI (iN + 1)).toNatClampNeg) r1.toInt (g1 0) := hcx
  have hP : va_P (dC, dI) vwCl ((o0, .inl (cJ, 1, .inr (.inl g1))) :: (U1 ++ V)) H := hP
  have hD : va_D A ((o0, .inl (cJ, 1, .inr (.inl g1))) :: (U1 ++ V)) := hD
  refine W.widen (k := cells + 1) (n := slots + 6) (by omega) (by omega) ?_
  refine lv_istore (lv' := [(5, .int r1), (0, .ref b), (1, .ref x0), (2, .ref m0), (3, .ref o0), (4, .int (nI iN))]) hx hb dL_law_883 hl (by decide) rfl (fun ls hl => ?_)
  refine lv_aload_n hx hb dL_law_885 rfl (lv_at hl 3 rfl) ?_
  refine lv_aload_n hx hb dL_law_886 rfl (lv_at hl 1 rfl) ?_
  refine lv_iload hx hb dL_law_887 (lv_at hl 5 rfl) ?_
  refine lv_iconst (v := 1) hx hb dL_law_889 (by decide) ?_
  refine lv_iadd hx hb dL_law_890 ?_
  refine tp_i (y := nI (iN + 1)) (nI_add iN 1) ?_
  refine va_sld hx hb hX hbl hbA hS (i := nI (iN + 1)) (vp_in_nI (by omega) (by omega)) dL_law_891 ?_
  obtain ⟨kr2, fs2, hrc2⟩ := MIW.recv hV
  have hP := va_P.perm hP (List.Perm.cons _ List.perm_append_comm)
  have hD := va_D.perm hD (List.Perm.cons _ List.perm_append_comm)
  refine cA_i (rn_Vk (n := 1) (As := [.int (xs (nI (iN + 1)).toNatClampNeg)]) (rest := []) hx hb hml hown ht hKK hFx hP hD hS hA (rl_worked l dC dI cI cB cZ cJ cR tb H.size m0 N B V hN1 hN2 hB0 hB tz gz xz hV (xs (nI (iN + 1)).toNatClampNeg)) tw_1199 tw_1200 (by decide +kernel) rfl rfl ⟨Nat.le_of_ble_eq_true rfl, Nat.le_of_ble_eq_true rfl⟩ (ixC V.length) (ixC_map _ _ _) (ixC_nd _) kr2 hrc2 rfl rfl rfl hl.1 rfl (Nat.le_of_ble_eq_true rfl) dL_law_892 ⟨by show _ ≤ 601024; omega, by show _ ≤ 7292999; omega⟩) hP hD hS hA (fun r2 u2 H locs hw2 hP hD hS => ?_)
  have hP := va_P.perm hP (List.Perm.cons _ List.perm_append_comm)
  have hD := va_D.perm hD (List.Perm.cons _ List.perm_append_comm)
  have hP : va_P (dC, dI) vwCl ((o0, .inl (cJ, 1, .inr (.inl g1))) :: (U1 ++ u2)) H := hP
  have hD : va_D A ((o0, .inl (cJ, 1, .inr (.inl g1))) :: (U1 ++ u2)) := hD
  refine W.widen (k := cells + 1) (n := slots + 6) (by omega) (by omega) ?_
  refine lv_istore (lv' := [(6, .int r2), (5, .int r1), (0, .ref b), (1, .ref x0), (2, .ref m0), (3, .ref o0), (4, .int (nI iN))]) hx hb dL_law_895 hl (by decide) rfl (fun ls hl => ?_)
  refine lv_goto (tgt := 993) hx hb dL_law_897 (by decide) ?_
  refine W.widen (k := cells + 13) (n := slots + 338) (by omega) (by omega) ?_
  exact key tz gz xz g1 U1 u2 H locs ls hU1 hw2.w hJ hP hD hS (lv_sub hl [2, 3, 4, 5, 6] rfl)
set_option maxHeartbeats 4000000 in
set_option maxRecDepth 100000 in
theorem lawc_24 {p : Program} {e : Env} {s : State} {m : MethodId} {below : List Frame} {meth : Method} {c : Code} (l : Launch) (hst : l.stackTraces = false) {b L : Nat} {xs : Nat → Int32} {Q : State → Prop} (hx : p.tables.exec = Jvm.exec) (hb : c.code = cL_law) (hml : c.maxLocals = 7) (hown : s.vm.findClass RL = some m.cls) (ht : ∀ w ∈ tw_W, w.before #[Value.ref b] s = true) (hX : va_X b L xs s s.heap) (hbl : b < s.heap.size) {dC : Nat → ClassId} {dI : Nat → Nat → Nat} {cI cB cZ cJ cR : ClassId} {tb : Nat → Nat} {A : Nat → Prop} (hbA : ¬ A b) (hKK : kk_ (dC, dI) (tyS cI cB cZ cJ cR) tb s) (hFx : fx_ tb A s s.heap) (hA : ∀ q, s.heap.size ≤ q → A q) {N : Nat} (hN1 : 256 ≤ N) (hN2 : N ≤ 4096) {B : Int} (hB0 : 0 ≤ B) (hB : B + 50000 ≤ 200000000) {x0 m0 o0 : Nat} {U V : va_W} {g : Nat → Int64} {tz gz : Int} {xz : ZG} (hU : KI N B x0 cI cB cR tz gz xz U) (hV : MIW N B m0 cI cZ cJ tz gz xz V) (hJ : GJz N xz.dt xz.cs xz.ms) {H : Heap} {locs : List Loc} {ls : Array Slot} {cells slots : Nat} (hce : cells + 13 ≤ 601024) (hsl : slots + 338 ≤ 7292999) {iN : Nat} (hi : iN + 6 ≤ L) (hL : L ≤ 3073) (hP : va_P (dC, dI) vwCl ((o0, .inl (cJ, 1, .inr (.inl g))) :: (U ++ V)) H) (hD : va_D A ((o0, .inl (cJ, 1, .inr (.inl g))) :: (U ++ V))) (hS : va_S A s.heap H locs) (hl : lv_has ls 7 [(0, .ref b), (1, .ref x0), (2, .ref m0), (3, .ref o0), (4, .int (nI iN))])
    (key : ∀ (t9 z9 : Int) (x9 : ZG) (g9 : Nat → Int64) (U9 V9 : va_W) (H : Heap) (locs : List Loc) (ls : Array Slot), KI N (B + 50000) x0 cI cB cR t9 z9 x9 U9 → MIW N (B + 50000) m0 cI cZ cJ t9 z9 x9 V9 → GJz N x9.dt x9.cs x9.ms → va_P (dC, dI) vwCl ((o0, .inl (cJ, 1, .inr (.inl g9))) :: (U9 ++ V9)) H → va_D A ((o0, .inl (cJ, 1, .inr (.inl g9))) :: (U9 ++ V9)) → va_S A s.heap H locs → lv_has ls 7 [(0, .ref b), (1, .ref x0), (2, .ref m0), (3, .ref o0), (4, .int (nI iN))] → W p l e room_1 s m #[Value.ref b] below meth c H locs (cells + 13) (slots + 338) Q (F0 m 993 ls [])) : W p l e room_1 s m #[Value.ref b] below meth c H locs cells slots Q (F0 m 900 ls []) := by
  have hK := hKK.1
  refine lv_aload_n hx hb dL_law_900 rfl (lv_at hl 1 rfl) ?_
  refine lv_aload_n hx hb dL_law_901 rfl (lv_at hl 0 rfl) ?_
  refine lv_iload hx hb dL_law_902 (lv_at hl 4 rfl) ?_
  refine lv_iconst (v := 1) hx hb dL_law_904 (by decide) ?_
  refine lv_iadd hx hb dL_law_905 ?_
  refine tp_i (y := nI (iN + 1)) (nI_add iN 1) ?_
  refine va_sld hx hb hX hbl hbA hS (i := nI (iN + 1)) (vp_in_nI (by omega) (by omega)) dL_law_906 ?_
  refine lv_aload_n hx hb dL_law_907 rfl (lv_at hl 0 rfl) ?_
  refine lv_iload hx hb dL_law_908 (lv_at hl 4 rfl) ?_
  refine lv_iconst (v := 2) hx hb dL_law_910 (by decide) ?_
  refine lv_iadd hx hb dL_law_911 ?_
  refine tp_i (y := nI (iN + 2)) (nI_add iN 2) ?_
  refine va_sld hx hb hX hbl hbA hS (i := nI (iN + 2)) (vp_in_nI (by omega) (by omega)) dL_law_912 ?_
  refine lv_aload_n hx hb dL_law_913 rfl (lv_at hl 3 rfl) ?_
  refine cD_i (A0 := (o0, .inl (cJ, 1, .inr (.inl g))) :: U) (Z := V) (rn_SW (n := 4) (As := [.ref x0, .int (xs (nI (iN + 1)).toNatClampNeg), .int (xs (nI (iN + 2)).toNatClampNeg), .ref o0]) (rest := []) hx hb hml hown ht hKK hFx hP hD hS hA (hl_left l dC dI cI cB cZ cJ cR tb hst H.size x0 o0 N B U g hN2 hB tz gz xz hU (xs (nI (iN + 1)).toNatClampNeg) (xs (nI (iN + 2)).toNatClampNeg)) tw_1201 tw_1202 (by decide +kernel) rfl rfl ⟨Nat.le_of_ble_eq_true rfl, Nat.le_of_ble_eq_true rfl⟩ (List.range ((o0, .inl (cJ, 1, .inr (.inl g))) :: U).length) (ixA_map ((o0, .inl (cJ, 1, .inr (.inl g))) :: U) V) (nd_range _) rfl hl.1 rfl (Nat.le_of_ble_eq_true rfl) dL_law_914 ⟨by show _ ≤ 601024; omega, by show _ ≤ 7292999; omega⟩) hP hD hS hA (fun r1 u1 H locs hw hP hD hS => ?_)
  obtain ⟨g1, U1, hu1, hU1, hcx⟩ := hw
  have hu1 : u1 = (o0, .inl (cJ, 1, .inr (.inl g1))) :: U1 := hu1
  subst hu1
  have hcx : HCl N xz (xs (nI (iN + 1)).toNatClampNeg) (xs (nI (iN + 2)).toNatClampNeg) r1.toInt (g1 0) := hcx
  have hP : va_P (dC, dI) vwCl ((o0, .inl (cJ, 1, .inr (.inl g1))) :: (U1 ++ V)) H := hP
  have hD : va_D A ((o0, .inl (cJ, 1, .inr (.inl g1))) :: (U1 ++ V)) := hD
  refine W.widen (k := cells + 1) (n := slots + 6) (by omega) (by omega) ?_
  refine lv_istore (lv' := [(5, .int r1), (0, .ref b), (1, .ref x0), (2, .ref m0), (3, .ref o0), (4, .int (nI iN))]) hx hb dL_law_917 hl (by decide) rfl (fun ls hl => ?_)
  refine lv_aload_n hx hb dL_law_919 rfl (lv_at hl 3 rfl) ?_
  refine lv_aload_n hx hb dL_law_920 rfl (lv_at hl 1 rfl) ?_
  refine lv_iload hx hb dL_law_921 (lv_at hl 5 rfl) ?_
  refine lv_iconst (v := 1) hx hb dL_law_923 (by decide) ?_
  refine lv_iadd hx hb dL_law_924 ?_
  refine tp_i (y := nI (iN + 1)) (nI_add iN 1) ?_
  refine va_sld hx hb hX hbl hbA hS (i := nI (iN + 1)) (vp_in_nI (by omega) (by omega)) dL_law_925 ?_
  refine lv_aload_n hx hb dL_law_926 rfl (lv_at hl 1 rfl) ?_
  refine lv_iload hx hb dL_law_927 (lv_at hl 5 rfl) ?_
  refine lv_iconst (v := 2) hx hb dL_law_929 (by decide) ?_
  refine lv_iadd hx hb dL_law_930 ?_
  refine tp_i (y := nI (iN + 2)) (nI_add iN 2) ?_
  refine va_sld hx hb hX hbl hbA hS (i := nI (iN + 2)) (vp_in_nI (by omega) (by omega)) dL_law_931 ?_
  obtain ⟨kr2, fs2, hrc2⟩ := MIW.recv hV
  have hP := va_P.perm hP (List.Perm.cons _ List.perm_append_comm)
  have hD := va_D.perm hD (List.Perm.cons _ List.perm_append_comm)
  refine cA_i (rn_Vk (n := 2) (As := [.int (xs (nI (iN + 1)).toNatClampNeg), .int (xs (nI (iN + 2)).toNatClampNeg)]) (rest := []) hx hb hml hown ht hKK hFx hP hD hS hA (rl_left l dC dI cI cB cZ cJ cR tb H.size m0 N B V hN1 hN2 hB0 hB tz gz xz hV (xs (nI (iN + 1)).toNatClampNeg) (xs (nI (iN + 2)).toNatClampNeg)) tw_1203 tw_1204 (by decide +kernel) rfl rfl ⟨Nat.le_of_ble_eq_true rfl, Nat.le_of_ble_eq_true rfl⟩ (ixC V.length) (ixC_map _ _ _) (ixC_nd _) kr2 hrc2 rfl rfl rfl hl.1 rfl (Nat.le_of_ble_eq_true rfl) dL_law_932 ⟨by show _ ≤ 601024; omega, by show _ ≤ 7292999; omega⟩) hP hD hS hA (fun r2 u2 H locs hw2 hP hD hS => ?_)
  have hP := va_P.perm hP (List.Perm.cons _ List.perm_append_comm)
  have hD := va_D.perm hD (List.Perm.cons _ List.perm_append_comm)
  have hP : va_P (dC, dI) vwCl ((o0, .inl (cJ, 1, .inr (.inl g1))) :: (U1 ++ u2)) H := hP
  have hD : va_D A ((o0, .inl (cJ, 1, .inr (.inl g1))) :: (U1 ++ u2)) := hD
  refine W.widen (k := cells + 1) (n := slots + 6) (by omega) (by omega) ?_
  refine lv_istore (lv' := [(6, .int r2), (5, .int r1), (0, .ref b), (1, .ref x0), (2, .ref m0), (3, .ref o0), (4, .int (nI iN))]) hx hb dL_law_935 hl (by decide) rfl (fun ls hl => ?_)
  refine lv_aload_n hx hb dL_law_937 rfl (lv_at hl 4 rfl) ?_
  obtain ⟨kr3, fs3, hrc3⟩ := MIT.recv hw2
  have hP := va_P.perm hP (List.Perm.cons _ List.perm_append_comm)
  have hD := va_D.perm hD (List.Perm.cons _ List.perm_append_comm)
  refine cA_i (rn_Vk (n := 0) (As := []) (rest := []) hx hb hml hown ht hKK hFx hP hD hS hA (rl_thrown l dC dI cI cB cZ cJ cR tb H.size m0 N (B + 50000) tz gz xz _ u2 hw2) tw_1205 tw_1206 (by decide +kernel) rfl rfl ⟨Nat.le_of_ble_eq_true rfl, Nat.le_of_ble_eq_true rfl⟩ (ixC u2.length) (ixC_map _ _ _) (ixC_nd _) kr3 hrc3 rfl rfl rfl hl.1 rfl (Nat.le_of_ble_eq_true rfl) dL_law_938 ⟨by show _ ≤ 601024; omega, by show _ ≤ 7292999; omega⟩) hP hD hS hA (fun r3 u3 H locs hw3 hP hD hS => ?_)
  have hP := va_P.perm hP (List.Perm.cons _ List.perm_append_comm)
  have hD := va_D.perm hD (List.Perm.cons _ List.perm_append_comm)
  obtain ⟨hV3, htx⟩ := hw3
  have htx : HMl xz (xs (nI (iN + 1)).toNatClampNeg) (xs (nI (iN + 2)).toNatClampNeg) r3.toInt r2 := htx
  obtain ⟨hxe, hqe⟩ := leftZ hN2 hJ hcx htx
  have hP : va_P (dC, dI) vwCl ((o0, .inl (cJ, 1, .inr (.inl g1))) :: (U1 ++ u3)) H := hP
  have hD : va_D A ((o0, .inl (cJ, 1, .inr (.inl g1))) :: (U1 ++ u3)) := hD
  refine W.widen (k := cells + 1) (n := slots + 6) (by omega) (by omega) ?_
  refine lv_iload hx hb dL_law_941 (lv_at hl 1 rfl) ?_
  have heq : r3 = r1 := Int32.toInt_inj.mp (by omega)
  refine lv_icmp_eq (tgt := 948) hx hb dL_law_943 (by decide) (fun _ => ?_) (fun h9 => absurd heq h9)
  refine lv_iload hx hb dL_law_948 (lv_at hl 1 rfl) ?_
  refine lv_if_ne (tgt := 965) hx hb dL_law_950 (by decide) (fun h9 => ?_) (fun h9 => ?_)
  · refine lv_goto (tgt := 993) hx hb dL_law_965 (by decide) ?_
    refine W.widen (k := cells + 13) (n := slots + 338) (by omega) (by omega) ?_
    exact key tz gz xz g1 U1 u3 H locs ls hU1 hV3 hJ hP hD hS (lv_sub hl [2, 3, 4, 5, 6] rfl)
  · refine lv_aload_n hx hb dL_law_953 rfl (lv_at hl 5 rfl) ?_
    refine lv_iconst (v := 0) hx hb dL_law_954 (by decide) ?_
    refine va_lald (D := (dC, dI)) hx hb hK hP 0 3 rfl rfl (vp_in_iff.mpr (by decide)) dL_law_955 ?_
    refine lv_iload hx hb dL_law_956 (lv_at hl 0 rfl) ?_
    refine lv_i2l hx hb dL_law_958 rfl ?_
    have heqL : (g1 (0 : Int32).toNatClampNeg) = (r2).toInt64 := by
      have h8 : r1.toInt = 0 := by rw [h9]; decide
      have h7 := congrArg Int32.toInt heq
      rw [show (0 : Int32).toNatClampNeg = 0 by decide]
      exact hqe h8
    refine W.lcmp hx hb dL_law_959 ?_
    refine tp_i (y := 0) (by rw [heqL]; exact lg_cmp_self _) ?_
    refine lv_if_eq (tgt := 965) hx hb dL_law_960 (by decide) (fun _ => ?_) (fun h9 => absurd rfl h9)
    refine lv_goto (tgt := 993) hx hb dL_law_965 (by decide) ?_
    refine W.widen (k := cells + 13) (n := slots + 338) (by omega) (by omega) ?_
    exact key tz gz xz g1 U1 u3 H locs ls hU1 hV3 hJ hP hD hS (lv_sub hl [2, 3, 4, 5, 6] rfl)
set_option maxHeartbeats 4000000 in
set_option maxRecDepth 100000 in
theorem lawc_25 {p : Program} {e : Env} {s : State} {m : MethodId} {below : List Frame} {meth : Method} {c : Code} (l : Launch) (hst : l.stackTraces = false) {b L : Nat} {xs : Nat → Int32} {Q : State → Prop} (hx : p.tables.exec = Jvm.exec) (hb : c.code = cL_law) (hml : c.maxLocals = 7) (hown : s.vm.findClass RL = some m.cls) (ht : ∀ w ∈ tw_W, w.before #[Value.ref b] s = true) (hX : va_X b L xs s s.heap) (hbl : b < s.heap.size) {dC : Nat → ClassId} {dI : Nat → Nat → Nat} {cI cB cZ cJ cR : ClassId} {tb : Nat → Nat} {A : Nat → Prop} (hbA : ¬ A b) (hKK : kk_ (dC, dI) (tyS cI cB cZ cJ cR) tb s) (hFx : fx_ tb A s s.heap) (hA : ∀ q, s.heap.size ≤ q → A q) {N : Nat} (hN1 : 256 ≤ N) (hN2 : N ≤ 4096) {B : Int} (hB0 : 0 ≤ B) (hB : B + 50000 ≤ 200000000) {x0 m0 o0 : Nat} {U V : va_W} {g : Nat → Int64} {tz gz : Int} {xz : ZG} (hU : KI N B x0 cI cB cR tz gz xz U) (hV : MIW N B m0 cI cZ cJ tz gz xz V) (hJ : GJz N xz.dt xz.cs xz.ms) {H : Heap} {locs : List Loc} {ls : Array Slot} {cells slots : Nat} (hce : cells + 13 ≤ 601024) (hsl : slots + 338 ≤ 7292999) {iN : Nat} (hi : iN + 6 ≤ L) (hL : L ≤ 3073) (hP : va_P (dC, dI) vwCl ((o0, .inl (cJ, 1, .inr (.inl g))) :: (U ++ V)) H) (hD : va_D A ((o0, .inl (cJ, 1, .inr (.inl g))) :: (U ++ V))) (hS : va_S A s.heap H locs) (hl : lv_has ls 7 [(0, .ref b), (1, .ref x0), (2, .ref m0), (3, .ref o0), (4, .int (nI iN))])
    (key : ∀ (t9 z9 : Int) (x9 : ZG) (g9 : Nat → Int64) (U9 V9 : va_W) (H : Heap) (locs : List Loc) (ls : Array Slot), KI N (B + 50000) x0 cI cB cR t9 z9 x9 U9 → MIW N (B + 50000) m0 cI cZ cJ t9 z9 x9 V9 → GJz N x9.dt x9.cs x9.ms → va_P (dC, dI) vwCl ((o0, .inl (cJ, 1, .inr (.inl g9))) :: (U9 ++ V9)) H → va_D A ((o0, .inl (cJ, 1, .inr (.inl g9))) :: (U9 ++ V9)) → va_S A s.heap H locs → lv_has ls 7 [(0, .ref b), (1, .ref x0), (2, .ref m0), (3, .ref o0), (4, .int (nI iN))] → W p l e room_1 s m #[Value.ref b] below meth c H locs (cells + 13) (slots + 338) Q (F0 m 993 ls [])) : W p l e room_1 s m #[Value.ref b] below meth c H locs cells slots Q (F0 m 968 ls []) := by
  have hK := hKK.1
  refine lv_aload_n hx hb dL_law_968 rfl (lv_at hl 1 rfl) ?_
  refine lv_aload_n hx hb dL_law_969 rfl (lv_at hl 0 rfl) ?_
  refine lv_iload hx hb dL_law_970 (lv_at hl 4 rfl) ?_
  refine lv_iconst (v := 1) hx hb dL_law_972 (by decide) ?_
  refine lv_iadd hx hb dL_law_973 ?_
  refine tp_i (y := nI (iN + 1)) (nI_add iN 1) ?_
  refine va_sld hx hb hX hbl hbA hS (i := nI (iN + 1)) (vp_in_nI (by omega) (by omega)) dL_law_974 ?_
  obtain ⟨kr1, fs1, hrc1⟩ := KI.recv hU
  refine cA_i (rn_Vk (n := 1) (As := [.int (xs (nI (iN + 1)).toNatClampNeg)]) (rest := []) hx hb hml hown ht hKK hFx hP hD hS hA (kl_count l dC dI cI cB cZ cJ cR tb hst H.size x0 N B U hN2 hB tz gz xz hU (xs (nI (iN + 1)).toNatClampNeg)) tw_1207 tw_1208 (by decide +kernel) rfl rfl ⟨Nat.le_of_ble_eq_true rfl, Nat.le_of_ble_eq_true rfl⟩ (ixC U.length) (ixC_map _ _ _) (ixC_nd _) kr1 hrc1 rfl rfl rfl hl.1 rfl (Nat.le_of_ble_eq_true rfl) dL_law_975 ⟨by show _ ≤ 601024; omega, by show _ ≤ 7292999; omega⟩) hP hD hS hA (fun r1 u1 H locs hw1 hP hD hS => ?_)
  have hP : va_P (dC, dI) vwCl ((o0, .inl (cJ, 1, .inr (.inl g))) :: (u1 ++ V)) H := hP
  have hD : va_D A ((o0, .inl (cJ, 1, .inr (.inl g))) :: (u1 ++ V)) := hD
  refine W.widen (k := cells + 0) (n := slots + 0) (by omega) (by omega) ?_
  refine lv_pop hx hb dL_law_978 rfl ?_
  refine lv_aload_n hx hb dL_law_979 rfl (lv_at hl 2 rfl) ?_
  refine lv_aload_n hx hb dL_law_980 rfl (lv_at hl 0 rfl) ?_
  refine lv_iload hx hb dL_law_981 (lv_at hl 4 rfl) ?_
  refine lv_iconst (v := 1) hx hb dL_law_983 (by decide) ?_
  refine lv_iadd hx hb dL_law_984 ?_
  refine tp_i (y := nI (iN + 1)) (nI_add iN 1) ?_
  refine va_sld hx hb hX hbl hbA hS (i := nI (iN + 1)) (vp_in_nI (by omega) (by omega)) dL_law_985 ?_
  obtain ⟨kr2, fs2, hrc2⟩ := MIW.recv hV
  have hP := va_P.perm hP (List.Perm.cons _ List.perm_append_comm)
  have hD := va_D.perm hD (List.Perm.cons _ List.perm_append_comm)
  refine cA_i (rn_Vk (n := 1) (As := [.int (xs (nI (iN + 1)).toNatClampNeg)]) (rest := []) hx hb hml hown ht hKK hFx hP hD hS hA (rl_count l dC dI cI cB cZ cJ cR tb H.size m0 N B V hN1 hN2 hB0 hB tz gz xz hV (xs (nI (iN + 1)).toNatClampNeg)) tw_1209 tw_1210 (by decide +kernel) rfl rfl ⟨Nat.le_of_ble_eq_true rfl, Nat.le_of_ble_eq_true rfl⟩ (ixC V.length) (ixC_map _ _ _) (ixC_nd _) kr2 hrc2 rfl rfl rfl hl.1 rfl (Nat.le_of_ble_eq_true rfl) dL_law_986 ⟨by show _ ≤ 601024; omega, by show _ ≤ 7292999; omega⟩) hP hD hS hA (fun r2 u2 H locs hw2 hP hD hS => ?_)
  have hP := va_P.perm hP (List.Perm.cons _ List.perm_append_comm)
  have hD := va_D.perm hD (List.Perm.cons _ List.perm_append_comm)
  have hP : va_P (dC, dI) vwCl ((o0, .inl (cJ, 1, .inr (.inl g))) :: (u1 ++ u2)) H := hP
  have hD : va_D A ((o0, .inl (cJ, 1, .inr (.inl g))) :: (u1 ++ u2)) := hD
  refine W.widen (k := cells + 0) (n := slots + 0) (by omega) (by omega) ?_
  refine lv_pop hx hb dL_law_989 rfl ?_
  refine lv_goto (tgt := 993) hx hb dL_law_990 (by decide) ?_
  refine W.widen (k := cells + 13) (n := slots + 338) (by omega) (by omega) ?_
  exact key tz gz xz g u1 u2 H locs ls hw1 hw2 hJ hP hD hS (lv_sub hl [0, 1, 2, 3, 4] rfl)
