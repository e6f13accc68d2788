theorem dX13_obey_0 : decode cX13_obey 0 = .ok (.aload_n 0, 1) := by decide +kernel
theorem dX13_obey_1 : decode cX13_obey 1 = .ok (.getfield 519, 3) := by decide +kernel
theorem dX13_obey_4 : decode cX13_obey 4 = .ok (.aload_n 0, 1) := by decide +kernel
theorem dX13_obey_5 : decode cX13_obey 5 = .ok (.getfield 830, 3) := by decide +kernel
theorem dX13_obey_8 : decode cX13_obey 8 = .ok (.iaload, 1) := by decide +kernel
theorem dX13_obey_9 : decode cX13_obey 9 = .ok (.istore_n 1, 1) := by decide +kernel
theorem dX13_obey_10 : decode cX13_obey 10 = .ok (.aload_n 0, 1) := by decide +kernel
theorem dX13_obey_11 : decode cX13_obey 11 = .ok (.getfield 522, 3) := by decide +kernel
theorem dX13_obey_14 : decode cX13_obey 14 = .ok (.aload_n 0, 1) := by decide +kernel
theorem dX13_obey_15 : decode cX13_obey 15 = .ok (.getfield 830, 3) := by decide +kernel
theorem dX13_obey_18 : decode cX13_obey 18 = .ok (.iaload, 1) := by decide +kernel
theorem dX13_obey_19 : decode cX13_obey 19 = .ok (.istore_n 2, 1) := by decide +kernel
theorem dX13_obey_20 : decode cX13_obey 20 = .ok (.aload_n 0, 1) := by decide +kernel
theorem dX13_obey_21 : decode cX13_obey 21 = .ok (.dup, 1) := by decide +kernel
theorem dX13_obey_22 : decode cX13_obey 22 = .ok (.getfield 830, 3) := by decide +kernel
theorem dX13_obey_25 : decode cX13_obey 25 = .ok (.iconst 1, 1) := by decide +kernel
theorem dX13_obey_26 : decode cX13_obey 26 = .ok (.iadd, 1) := by decide +kernel
theorem dX13_obey_27 : decode cX13_obey 27 = .ok (.putfield 830, 3) := by decide +kernel
theorem dX13_obey_30 : decode cX13_obey 30 = .ok (.iload_n 1, 1) := by decide +kernel
theorem dX13_obey_31 : decode cX13_obey 31 = .ok (.tableswitch 365 0 21 #[101, 109, 127, 152, 165, 185, 221, 237, 260, 283, 291, 313, 335, 343, 348, 354, 365, 365, 365, 365, 365, 359], 101) := by decide +kernel
theorem dX13_obey_132 : decode cX13_obey 132 = .ok (.aload_n 0, 1) := by decide +kernel
theorem dX13_obey_133 : decode cX13_obey 133 = .ok (.iload_n 2, 1) := by decide +kernel
theorem dX13_obey_134 : decode cX13_obey 134 = .ok (.invokevirtual 836, 3) := by decide +kernel
theorem dX13_obey_137 : decode cX13_obey 137 = .ok (.goto 265, 3) := by decide +kernel
theorem dX13_obey_402 : decode cX13_obey 402 = .ok (.iconst (-1), 1) := by decide +kernel
theorem dX13_obey_403 : decode cX13_obey 403 = .ok (.ireturn, 1) := by decide +kernel
theorem dX13_obey_140 : decode cX13_obey 140 = .ok (.aload_n 0, 1) := by decide +kernel
theorem dX13_obey_141 : decode cX13_obey 141 = .ok (.aload_n 0, 1) := by decide +kernel
theorem dX13_obey_142 : decode cX13_obey 142 = .ok (.getfield 579, 3) := by decide +kernel
theorem dX13_obey_145 : decode cX13_obey 145 = .ok (.aload_n 0, 1) := by decide +kernel
theorem dX13_obey_146 : decode cX13_obey 146 = .ok (.getfield 833, 3) := by decide +kernel
theorem dX13_obey_149 : decode cX13_obey 149 = .ok (.iload_n 2, 1) := by decide +kernel
theorem dX13_obey_150 : decode cX13_obey 150 = .ok (.iadd, 1) := by decide +kernel
theorem dX13_obey_151 : decode cX13_obey 151 = .ok (.iaload, 1) := by decide +kernel
theorem dX13_obey_152 : decode cX13_obey 152 = .ok (.invokevirtual 836, 3) := by decide +kernel
theorem dX13_obey_155 : decode cX13_obey 155 = .ok (.goto 247, 3) := by decide +kernel
theorem dX13_obey_158 : decode cX13_obey 158 = .ok (.aload_n 0, 1) := by decide +kernel
theorem dX13_obey_159 : decode cX13_obey 159 = .ok (.getfield 579, 3) := by decide +kernel
theorem dX13_obey_162 : decode cX13_obey 162 = .ok (.aload_n 0, 1) := by decide +kernel
theorem dX13_obey_163 : decode cX13_obey 163 = .ok (.getfield 833, 3) := by decide +kernel
theorem dX13_obey_166 : decode cX13_obey 166 = .ok (.iload_n 2, 1) := by decide +kernel
theorem dX13_obey_167 : decode cX13_obey 167 = .ok (.iadd, 1) := by decide +kernel
theorem dX13_obey_168 : decode cX13_obey 168 = .ok (.aload_n 0, 1) := by decide +kernel
theorem dX13_obey_169 : decode cX13_obey 169 = .ok (.getfield 579, 3) := by decide +kernel
theorem dX13_obey_172 : decode cX13_obey 172 = .ok (.aload_n 0, 1) := by decide +kernel
theorem dX13_obey_173 : decode cX13_obey 173 = .ok (.getfield 809, 3) := by decide +kernel
theorem dX13_obey_176 : decode cX13_obey 176 = .ok (.iconst 1, 1) := by decide +kernel
theorem dX13_obey_177 : decode cX13_obey 177 = .ok (.isub, 1) := by decide +kernel
theorem dX13_obey_178 : decode cX13_obey 178 = .ok (.iaload, 1) := by decide +kernel
theorem dX13_obey_179 : decode cX13_obey 179 = .ok (.iastore, 1) := by decide +kernel
theorem dX13_obey_180 : decode cX13_obey 180 = .ok (.goto 222, 3) := by decide +kernel
theorem dX13_obey_183 : decode cX13_obey 183 = .ok (.aload_n 0, 1) := by decide +kernel
theorem dX13_obey_184 : decode cX13_obey 184 = .ok (.aload_n 0, 1) := by decide +kernel
theorem dX13_obey_185 : decode cX13_obey 185 = .ok (.getfield 591, 3) := by decide +kernel
theorem tw_347 : (.fieldLink RX13 591 "PocketCompilerModel" "held" "[I" : Cond) ∈ tw_W := tw_in (t8_11 (List.mem_of_getElem? (i := 34) rfl)) rfl
theorem dX13_obey_188 : decode cX13_obey 188 = .ok (.iload_n 2, 1) := by decide +kernel
theorem dX13_obey_189 : decode cX13_obey 189 = .ok (.iaload, 1) := by decide +kernel
theorem dX13_obey_190 : decode cX13_obey 190 = .ok (.invokevirtual 836, 3) := by decide +kernel
theorem dX13_obey_193 : decode cX13_obey 193 = .ok (.goto 209, 3) := by decide +kernel
theorem dX13_obey_196 : decode cX13_obey 196 = .ok (.aload_n 0, 1) := by decide +kernel
theorem dX13_obey_197 : decode cX13_obey 197 = .ok (.getfield 591, 3) := by decide +kernel
theorem dX13_obey_200 : decode cX13_obey 200 = .ok (.iload_n 2, 1) := by decide +kernel
theorem dX13_obey_201 : decode cX13_obey 201 = .ok (.aload_n 0, 1) := by decide +kernel
theorem dX13_obey_202 : decode cX13_obey 202 = .ok (.getfield 579, 3) := by decide +kernel
theorem dX13_obey_205 : decode cX13_obey 205 = .ok (.aload_n 0, 1) := by decide +kernel
theorem dX13_obey_206 : decode cX13_obey 206 = .ok (.getfield 809, 3) := by decide +kernel
theorem dX13_obey_209 : decode cX13_obey 209 = .ok (.iconst 1, 1) := by decide +kernel
theorem dX13_obey_210 : decode cX13_obey 210 = .ok (.isub, 1) := by decide +kernel
theorem dX13_obey_211 : decode cX13_obey 211 = .ok (.iaload, 1) := by decide +kernel
theorem dX13_obey_212 : decode cX13_obey 212 = .ok (.iastore, 1) := by decide +kernel
theorem dX13_obey_213 : decode cX13_obey 213 = .ok (.goto 189, 3) := by decide +kernel
theorem dX13_obey_216 : decode cX13_obey 216 = .ok (.aload_n 0, 1) := by decide +kernel
theorem dX13_obey_217 : decode cX13_obey 217 = .ok (.invokevirtual 839, 3) := by decide +kernel
theorem dX13_obey_220 : decode cX13_obey 220 = .ok (.istore_n 3, 1) := by decide +kernel
theorem dX13_obey_221 : decode cX13_obey 221 = .ok (.iload_n 3, 1) := by decide +kernel
theorem dX13_obey_222 : decode cX13_obey 222 = .ok (.ifCond .lt 13, 3) := by decide +kernel
theorem dX13_obey_235 : decode cX13_obey 235 = .ok (.iconst 3, 1) := by decide +kernel
theorem dX13_obey_236 : decode cX13_obey 236 = .ok (.ireturn, 1) := by decide +kernel
theorem dX13_obey_225 : decode cX13_obey 225 = .ok (.iload_n 3, 1) := by decide +kernel
theorem dX13_obey_226 : decode cX13_obey 226 = .ok (.aload_n 0, 1) := by decide +kernel
theorem dX13_obey_227 : decode cX13_obey 227 = .ok (.getfield 546, 3) := by decide +kernel
theorem dX13_obey_230 : decode cX13_obey 230 = .ok (.iload_n 2, 1) := by decide +kernel
theorem dX13_obey_231 : decode cX13_obey 231 = .ok (.iaload, 1) := by decide +kernel
theorem dX13_obey_232 : decode cX13_obey 232 = .ok (.if_icmp .lt 5, 3) := by decide +kernel
theorem dX13_obey_237 : decode cX13_obey 237 = .ok (.aload_n 0, 1) := by decide +kernel
theorem dX13_obey_238 : decode cX13_obey 238 = .ok (.aload_n 0, 1) := by decide +kernel
theorem dX13_obey_239 : decode cX13_obey 239 = .ok (.getfield 549, 3) := by decide +kernel
theorem dX13_obey_242 : decode cX13_obey 242 = .ok (.iload_n 2, 1) := by decide +kernel
theorem dX13_obey_243 : decode cX13_obey 243 = .ok (.iaload, 1) := by decide +kernel
theorem dX13_obey_244 : decode cX13_obey 244 = .ok (.iload_n 3, 1) := by decide +kernel
theorem dX13_obey_245 : decode cX13_obey 245 = .ok (.iadd, 1) := by decide +kernel
theorem dX13_obey_246 : decode cX13_obey 246 = .ok (.invokevirtual 836, 3) := by decide +kernel
theorem dX13_obey_249 : decode cX13_obey 249 = .ok (.goto 153, 3) := by decide +kernel
theorem dX13_obey_252 : decode cX13_obey 252 = .ok (.aload_n 0, 1) := by decide +kernel
theorem dX13_obey_253 : decode cX13_obey 253 = .ok (.aload_n 0, 1) := by decide +kernel
theorem dX13_obey_254 : decode cX13_obey 254 = .ok (.getfield 591, 3) := by decide +kernel
theorem dX13_obey_257 : decode cX13_obey 257 = .ok (.aload_n 0, 1) := by decide +kernel
theorem dX13_obey_258 : decode cX13_obey 258 = .ok (.invokevirtual 839, 3) := by decide +kernel
theorem dX13_obey_261 : decode cX13_obey 261 = .ok (.iaload, 1) := by decide +kernel
theorem dX13_obey_262 : decode cX13_obey 262 = .ok (.invokevirtual 836, 3) := by decide +kernel
theorem dX13_obey_265 : decode cX13_obey 265 = .ok (.goto 137, 3) := by decide +kernel
theorem dX13_obey_268 : decode cX13_obey 268 = .ok (.aload_n 0, 1) := by decide +kernel
theorem dX13_obey_269 : decode cX13_obey 269 = .ok (.aload_n 0, 1) := by decide +kernel
theorem dX13_obey_270 : decode cX13_obey 270 = .ok (.getfield 591, 3) := by decide +kernel
theorem dX13_obey_273 : decode cX13_obey 273 = .ok (.aload_n 0, 1) := by decide +kernel
theorem dX13_obey_274 : decode cX13_obey 274 = .ok (.getfield 579, 3) := by decide +kernel
theorem dX13_obey_277 : decode cX13_obey 277 = .ok (.aload_n 0, 1) := by decide +kernel
theorem dX13_obey_278 : decode cX13_obey 278 = .ok (.getfield 809, 3) := by decide +kernel
theorem dX13_obey_281 : decode cX13_obey 281 = .ok (.iconst 1, 1) := by decide +kernel
theorem dX13_obey_282 : decode cX13_obey 282 = .ok (.isub, 1) := by decide +kernel
theorem dX13_obey_283 : decode cX13_obey 283 = .ok (.iaload, 1) := by decide +kernel
theorem dX13_obey_284 : decode cX13_obey 284 = .ok (.iaload, 1) := by decide +kernel
theorem dX13_obey_285 : decode cX13_obey 285 = .ok (.invokevirtual 836, 3) := by decide +kernel
theorem dX13_obey_288 : decode cX13_obey 288 = .ok (.goto 114, 3) := by decide +kernel
theorem dX13_obey_291 : decode cX13_obey 291 = .ok (.aload_n 0, 1) := by decide +kernel
theorem dX13_obey_292 : decode cX13_obey 292 = .ok (.invokevirtual 839, 3) := by decide +kernel
theorem dX13_obey_295 : decode cX13_obey 295 = .ok (.istore_n 3, 1) := by decide +kernel
theorem dX13_obey_296 : decode cX13_obey 296 = .ok (.aload_n 0, 1) := by decide +kernel
theorem dX13_obey_297 : decode cX13_obey 297 = .ok (.getfield 591, 3) := by decide +kernel
theorem dX13_obey_300 : decode cX13_obey 300 = .ok (.aload_n 0, 1) := by decide +kernel
theorem dX13_obey_301 : decode cX13_obey 301 = .ok (.invokevirtual 839, 3) := by decide +kernel
theorem dX13_obey_304 : decode cX13_obey 304 = .ok (.iload_n 3, 1) := by decide +kernel
theorem dX13_obey_305 : decode cX13_obey 305 = .ok (.iastore, 1) := by decide +kernel
theorem dX13_obey_306 : decode cX13_obey 306 = .ok (.aload_n 0, 1) := by decide +kernel
theorem dX13_obey_307 : decode cX13_obey 307 = .ok (.iload_n 3, 1) := by decide +kernel
theorem dX13_obey_308 : decode cX13_obey 308 = .ok (.invokevirtual 836, 3) := by decide +kernel
theorem dX13_obey_311 : decode cX13_obey 311 = .ok (.goto 91, 3) := by decide +kernel
theorem dX13_obey_314 : decode cX13_obey 314 = .ok (.aload_n 0, 1) := by decide +kernel
theorem dX13_obey_315 : decode cX13_obey 315 = .ok (.invokevirtual 839, 3) := by decide +kernel
theorem dX13_obey_318 : decode cX13_obey 318 = .ok (.istore_n 3, 1) := by decide +kernel
theorem dX13_obey_319 : decode cX13_obey 319 = .ok (.goto 83, 3) := by decide +kernel
theorem dX13_obey_322 : decode cX13_obey 322 = .ok (.aload_n 0, 1) := by decide +kernel
theorem dX13_obey_323 : decode cX13_obey 323 = .ok (.aload_n 0, 1) := by decide +kernel
theorem dX13_obey_324 : decode cX13_obey 324 = .ok (.invokevirtual 839, 3) := by decide +kernel
theorem dX13_obey_327 : decode cX13_obey 327 = .ok (.ifCond .ne 7, 3) := by decide +kernel
theorem dX13_obey_334 : decode cX13_obey 334 = .ok (.aload_n 0, 1) := by decide +kernel
theorem dX13_obey_335 : decode cX13_obey 335 = .ok (.getfield 830, 3) := by decide +kernel
theorem dX13_obey_338 : decode cX13_obey 338 = .ok (.putfield 830, 3) := by decide +kernel
theorem dX13_obey_341 : decode cX13_obey 341 = .ok (.goto 61, 3) := by decide +kernel
theorem dX13_obey_330 : decode cX13_obey 330 = .ok (.iload_n 2, 1) := by decide +kernel
theorem dX13_obey_331 : decode cX13_obey 331 = .ok (.goto 7, 3) := by decide +kernel
theorem dX13_obey_344 : decode cX13_obey 344 = .ok (.aload_n 0, 1) := by decide +kernel
theorem dX13_obey_345 : decode cX13_obey 345 = .ok (.aload_n 0, 1) := by decide +kernel
theorem dX13_obey_346 : decode cX13_obey 346 = .ok (.invokevirtual 839, 3) := by decide +kernel
theorem dX13_obey_349 : decode cX13_obey 349 = .ok (.ifCond .eq 7, 3) := by decide +kernel
theorem dX13_obey_356 : decode cX13_obey 356 = .ok (.aload_n 0, 1) := by decide +kernel
theorem dX13_obey_357 : decode cX13_obey 357 = .ok (.getfield 830, 3) := by decide +kernel
theorem dX13_obey_360 : decode cX13_obey 360 = .ok (.putfield 830, 3) := by decide +kernel
theorem dX13_obey_363 : decode cX13_obey 363 = .ok (.goto 39, 3) := by decide +kernel
theorem dX13_obey_352 : decode cX13_obey 352 = .ok (.iload_n 2, 1) := by decide +kernel
theorem dX13_obey_353 : decode cX13_obey 353 = .ok (.goto 7, 3) := by decide +kernel
theorem dX13_obey_366 : decode cX13_obey 366 = .ok (.aload_n 0, 1) := by decide +kernel
theorem dX13_obey_367 : decode cX13_obey 367 = .ok (.iload_n 2, 1) := by decide +kernel
theorem dX13_obey_368 : decode cX13_obey 368 = .ok (.putfield 830, 3) := by decide +kernel
theorem dX13_obey_371 : decode cX13_obey 371 = .ok (.goto 31, 3) := by decide +kernel
theorem dX13_obey_374 : decode cX13_obey 374 = .ok (.aload_n 0, 1) := by decide +kernel
theorem dX13_obey_375 : decode cX13_obey 375 = .ok (.invokevirtual 821, 3) := by decide +kernel
theorem dX13_obey_378 : decode cX13_obey 378 = .ok (.ireturn, 1) := by decide +kernel
theorem dX13_obey_379 : decode cX13_obey 379 = .ok (.aload_n 0, 1) := by decide +kernel
theorem dX13_obey_380 : decode cX13_obey 380 = .ok (.iload_n 2, 1) := by decide +kernel
theorem dX13_obey_381 : decode cX13_obey 381 = .ok (.invokevirtual 844, 3) := by decide +kernel
theorem tw_348 : (.code yX13_enter cX13_enter 3 (some .int) : Cond) ∈ tw_W := tw_in (t8_13 (List.mem_of_getElem? (i := 37) rfl)) rfl
theorem tw_349 : ∀ w ∈ ([.methodLink RX13 844 yX13_enter, .instanceMethod yX13_enter, .selects RX13 yX13_enter yX13_enter, .initialized RX13] : List Cond), w ∈ tw_W := al_c (tw_in (t8_13 (List.mem_of_getElem? (i := 34) rfl)) rfl) (al_c (tw_in (t8_13 (List.mem_of_getElem? (i := 36) rfl)) rfl) (al_c (tw_in (t7_13 (q := (yX13_enter, 124)) (List.mem_of_getElem? (i := 5) rfl)) rfl) (al_c (tw_in (t8_1 (List.mem_of_getElem? (i := 23) rfl)) rfl) al_n)))
theorem dX13_obey_384 : decode cX13_obey 384 = .ok (.ireturn, 1) := by decide +kernel
theorem dX13_obey_385 : decode cX13_obey 385 = .ok (.aload_n 0, 1) := by decide +kernel
theorem dX13_obey_386 : decode cX13_obey 386 = .ok (.invokevirtual 847, 3) := by decide +kernel
theorem tw_350 : (.code yX13_leave cX13_leave 2 (some .int) : Cond) ∈ tw_W := tw_in (t8_13 (List.mem_of_getElem? (i := 53) rfl)) rfl
theorem tw_351 : ∀ w ∈ ([.methodLink RX13 847 yX13_leave, .instanceMethod yX13_leave, .selects RX13 yX13_leave yX13_leave, .initialized RX13] : List Cond), w ∈ tw_W := al_c (tw_in (t8_13 (List.mem_of_getElem? (i := 50) rfl)) rfl) (al_c (tw_in (t8_13 (List.mem_of_getElem? (i := 52) rfl)) rfl) (al_c (tw_in (t7_13 (q := (yX13_leave, 124)) (List.mem_of_getElem? (i := 9) rfl)) rfl) (al_c (tw_in (t8_1 (List.mem_of_getElem? (i := 23) rfl)) rfl) al_n)))
theorem dX13_obey_389 : decode cX13_obey 389 = .ok (.ireturn, 1) := by decide +kernel
theorem dX13_obey_396 : decode cX13_obey 396 = .ok (.aload_n 0, 1) := by decide +kernel
theorem dX13_obey_397 : decode cX13_obey 397 = .ok (.iload_n 1, 1) := by decide +kernel
theorem dX13_obey_398 : decode cX13_obey 398 = .ok (.iload_n 2, 1) := by decide +kernel
theorem dX13_obey_399 : decode cX13_obey 399 = .ok (.invokevirtual 853, 3) := by decide +kernel
theorem tw_352 : (.code yX13_others cX13_others 4 none : Cond) ∈ tw_W := tw_in (t8_13 (List.mem_of_getElem? (i := 64) rfl)) rfl
theorem tw_353 : ∀ w ∈ ([.methodLink RX13 853 yX13_others, .instanceMethod yX13_others, .selects RX13 yX13_others yX13_others, .initialized RX13] : List Cond), w ∈ tw_W := al_c (tw_in (t8_13 (List.mem_of_getElem? (i := 61) rfl)) rfl) (al_c (tw_in (t8_13 (List.mem_of_getElem? (i := 63) rfl)) rfl) (al_c (tw_in (t7_13 (q := (yX13_others, 124)) (List.mem_of_getElem? (i := 11) rfl)) rfl) (al_c (tw_in (t8_1 (List.mem_of_getElem? (i := 23) rfl)) rfl) al_n)))
theorem dX13_obey_390 : decode cX13_obey 390 = .ok (.aload_n 0, 1) := by decide +kernel
theorem dX13_obey_391 : decode cX13_obey 391 = .ok (.iload_n 2, 1) := by decide +kernel
theorem dX13_obey_392 : decode cX13_obey 392 = .ok (.invokevirtual 850, 3) := by decide +kernel
theorem tw_354 : (.code yX13_operates cX13_operates 4 (some .int) : Cond) ∈ tw_W := tw_in (t8_13 (List.mem_of_getElem? (i := 57) rfl)) rfl
theorem tw_355 : ∀ w ∈ ([.methodLink RX13 850 yX13_operates, .instanceMethod yX13_operates, .selects RX13 yX13_operates yX13_operates, .initialized RX13] : List Cond), w ∈ tw_W := al_c (tw_in (t8_13 (List.mem_of_getElem? (i := 54) rfl)) rfl) (al_c (tw_in (t8_13 (List.mem_of_getElem? (i := 56) rfl)) rfl) (al_c (tw_in (t7_13 (q := (yX13_operates, 124)) (List.mem_of_getElem? (i := 10) rfl)) rfl) (al_c (tw_in (t8_1 (List.mem_of_getElem? (i := 23) rfl)) rfl) al_n)))
theorem dX13_obey_395 : decode cX13_obey 395 = .ok (.ireturn, 1) := by decide +kernel
theorem MI.next {T : Nat → Nat → TT} {E : Nat → Nat} {h : Nat → Int} {v u : MS} {j : Int32} (m : MI T E h v j) (F : ∀ k, k ≠ 112 → u.1 0 k = v.1 0 k) (G : ∀ k, k ≠ 0 → u.1 k = v.1 k) : MI T E h u j := by
  have et : tfn u = tfn v := by unfold tfn; rw [F 110 (by decide), G 109 (by decide)]
  obtain ⟨p, n1, s, t, e5, e6, bd⟩ := m
  refine ⟨p.same (fun k hk => F k (by simp at hk; omega)) (fun k hk => G k (by simp at hk; omega)), by rw [F 110 (by decide)]; exact n1, ?_, ?_, ?_, by rw [F 115 (by decide)]; exact e6, ?_⟩
  · rw [F 110 (by decide), F 111 (by decide)]
    exact s.same p (fun k hk => F k (by simp at hk; omega)) (fun k hk => G k (by simp at hk; omega)) (fun i _ => by rw [G 109 (by decide)]) (fun i _ => by rw [G 107 (by decide)]) (fun i _ => by rw [G 108 (by decide)]) (fun i _ => by rw [G 105 (by decide)])
  · unfold TOPF
    rw [et, G 81 (by decide), G 82 (by decide), G 105 (by decide), F 111 (by decide), F 106 (by decide), F 76 (by decide)]
    exact t
  · rw [F 115 (by decide), F 110 (by decide), G 79 (by decide), G 109 (by decide)]; exact e5
  · unfold BUD PHI
    rw [et, F 110 (by decide), F 113 (by decide), F 114 (by decide), F 119 (by decide), F 120 (by decide), G 71 (by decide), G 109 (by decide), G 107 (by decide)]
    exact bd
theorem om_e760d26a1f {x0 x1 x2 x3 x4 x5 x6 x7 x8 x9 : Int} (h0 : 0 ≤ x0 ∧ x0 ≤ x1 ∧ x1 ≤ 8192 ∧ 0 ≤ x2 ∧ x2 < 16000 ∧ 1 ≤ x3 ∧ x3 ≤ 2048 ∧ 0 ≤ x4 ∧ x4 ≤ x5 ∧ x5 ≤ 20000 ∧ 0 ≤ x6 ∧ x6 ≤ 1000000000 ∧ 0 ≤ x7 ∧ x7 ≤ 1000000000 ∧ x8 ≤ 4096 ∧ 0 ≤ x9 ∧ x9 ≤ 16384) : 0 ≤ x2 := by omega
theorem om_2d560b43c9 {x0 x1 x2 x3 x4 x5 x6 x7 x8 x9 : Int} (h0 : 0 ≤ x0 ∧ x0 ≤ x1 ∧ x1 ≤ 8192 ∧ 0 ≤ x2 ∧ x2 < 16000 ∧ 1 ≤ x3 ∧ x3 ≤ 2048 ∧ 0 ≤ x4 ∧ x4 ≤ x5 ∧ x5 ≤ 20000 ∧ 0 ≤ x6 ∧ x6 ≤ 1000000000 ∧ 0 ≤ x7 ∧ x7 ≤ 1000000000 ∧ x8 ≤ 4096 ∧ 0 ≤ x9 ∧ x9 ≤ 16384) : x2 < 16000 := by omega
theorem om_e9bfc2d90d {x0 x1 x2 x3 x4 x5 x6 x7 x8 x9 : Int} (h0 : 0 ≤ x0 ∧ x0 ≤ x1 ∧ x1 ≤ 8192 ∧ 0 ≤ x2 ∧ x2 < 16000 ∧ 1 ≤ x3 ∧ x3 ≤ 2048 ∧ 0 ≤ x4 ∧ x4 ≤ x5 ∧ x5 ≤ 20000 ∧ 0 ≤ x6 ∧ x6 ≤ 1000000000 ∧ 0 ≤ x7 ∧ x7 ≤ 1000000000 ∧ x8 ≤ 4096 ∧ 0 ≤ x9 ∧ x9 ≤ 16384) : -2147483648 ≤ (x2) + (1 : Int) := by omega
theorem om_ebb73ae8f6 {x0 x1 x2 x3 x4 x5 x6 x7 x8 x9 : Int} (h0 : 0 ≤ x0 ∧ x0 ≤ x1 ∧ x1 ≤ 8192 ∧ 0 ≤ x2 ∧ x2 < 16000 ∧ 1 ≤ x3 ∧ x3 ≤ 2048 ∧ 0 ≤ x4 ∧ x4 ≤ x5 ∧ x5 ≤ 20000 ∧ 0 ≤ x6 ∧ x6 ≤ 1000000000 ∧ 0 ≤ x7 ∧ x7 ≤ 1000000000 ∧ x8 ≤ 4096 ∧ 0 ≤ x9 ∧ x9 ≤ 16384) : (x2) + (1 : Int) < 2147483648 := by omega
theorem om_5534dcedcf {x0 x1 x2 x3 x4 x5 x6 x7 x8 x9 x10 : Int} (h0 : 0 ≤ x0 ∧ x0 ≤ x1 ∧ x1 ≤ 8192 ∧ 0 ≤ x2 ∧ x2 < 16000 ∧ 1 ≤ x3 ∧ x3 ≤ 2048 ∧ 0 ≤ x4 ∧ x4 ≤ x5 ∧ x5 ≤ 20000 ∧ 0 ≤ x6 ∧ x6 ≤ 1000000000 ∧ 0 ≤ x7 ∧ x7 ≤ 1000000000 ∧ x8 ≤ 4096 ∧ 0 ≤ x9 ∧ x9 ≤ 16384) (h1 : 0 ≤ x10 ∧ x0 + x10 ≤ 8192) : -2147483648 ≤ (x0) + (x10) := by omega
theorem om_48d50af75e {x0 x1 : Int} (h0 : 0 ≤ x0 ∧ x1 + x0 ≤ 8192) : (x1) + (x0) < 2147483648 := by omega
theorem om_8c762ad8cc {x0 x1 x2 x3 x4 x5 x6 x7 x8 x9 x10 : Int} (h0 : 0 ≤ x0 ∧ x0 ≤ x1 ∧ x1 ≤ 8192 ∧ 0 ≤ x2 ∧ x2 < 16000 ∧ 1 ≤ x3 ∧ x3 ≤ 2048 ∧ 0 ≤ x4 ∧ x4 ≤ x5 ∧ x5 ≤ 20000 ∧ 0 ≤ x6 ∧ x6 ≤ 1000000000 ∧ 0 ≤ x7 ∧ x7 ≤ 1000000000 ∧ x8 ≤ 4096 ∧ 0 ≤ x9 ∧ x9 ≤ 16384) (h1 : 0 ≤ x10 ∧ x0 + x10 ≤ 8192) : 0 ≤ ((x0) + (x10)) := by omega
theorem om_391599c202 {x0 x1 : Int} (h0 : 0 ≤ x0 ∧ x1 + x0 ≤ 8192) : ((x1) + (x0)) < 24000 := by omega
theorem om_e03b36dd80 {x0 x1 x2 x3 x4 x5 x6 x7 x8 x9 x10 : Int} (h0 : 0 ≤ x0 ∧ x0 ≤ x1 ∧ x1 ≤ 8192 ∧ 0 ≤ x2 ∧ x2 < 16000 ∧ 1 ≤ x3 ∧ x3 ≤ 2048 ∧ 0 ≤ x4 ∧ x4 ≤ x5 ∧ x5 ≤ 20000 ∧ 0 ≤ x6 ∧ x6 ≤ 1000000000 ∧ 0 ≤ x7 ∧ x7 ≤ 1000000000 ∧ x8 ≤ 4096 ∧ 0 ≤ x9 ∧ x9 ≤ 16384) (h1 : 0 ≤ x10 ∧ x0 + x10 < x1 - 0 ∧ 1 ≤ x1) : -2147483648 ≤ (x0) + (x10) := by omega
theorem om_1a01b6a7e2 {x0 x1 x2 x3 x4 x5 x6 x7 x8 x9 x10 : Int} (h0 : 0 ≤ x0 ∧ x0 ≤ x1 ∧ x1 ≤ 8192 ∧ 0 ≤ x2 ∧ x2 < 16000 ∧ 1 ≤ x3 ∧ x3 ≤ 2048 ∧ 0 ≤ x4 ∧ x4 ≤ x5 ∧ x5 ≤ 20000 ∧ 0 ≤ x6 ∧ x6 ≤ 1000000000 ∧ 0 ≤ x7 ∧ x7 ≤ 1000000000 ∧ x8 ≤ 4096 ∧ 0 ≤ x9 ∧ x9 ≤ 16384) (h1 : 0 ≤ x10 ∧ x0 + x10 < x1 - 0 ∧ 1 ≤ x1) : (x0) + (x10) < 2147483648 := by omega
theorem om_ba9350dbee {x0 x1 x2 : Int} (h0 : 0 ≤ x0 ∧ x1 + x0 < x2 - 0 ∧ 1 ≤ x2) : -2147483648 ≤ (x2) - (1 : Int) := by omega
theorem om_379d3fbe6f {x0 x1 x2 : Int} (h0 : 0 ≤ x0 ∧ x1 + x0 < x2 - 0 ∧ 1 ≤ x2) : 0 ≤ ((x2) - (1 : Int)) := by omega
theorem om_c9424289d8 {x0 x1 x2 x3 x4 x5 x6 x7 x8 x9 : Int} (h0 : 0 ≤ x0 ∧ x0 ≤ x1 ∧ x1 ≤ 8192 ∧ 0 ≤ x2 ∧ x2 < 16000 ∧ 1 ≤ x3 ∧ x3 ≤ 2048 ∧ 0 ≤ x4 ∧ x4 ≤ x5 ∧ x5 ≤ 20000 ∧ 0 ≤ x6 ∧ x6 ≤ 1000000000 ∧ 0 ≤ x7 ∧ x7 ≤ 1000000000 ∧ x8 ≤ 4096 ∧ 0 ≤ x9 ∧ x9 ≤ 16384) : ((x1) - (1 : Int)) < 24000 := by omega
theorem om_d61c0efef0 {x0 x1 x2 x3 x4 x5 x6 x7 x8 x9 x10 : Int} (h0 : 0 ≤ x0 ∧ x0 ≤ x1 ∧ x1 ≤ 8192 ∧ 0 ≤ x2 ∧ x2 < 16000 ∧ 1 ≤ x3 ∧ x3 ≤ 2048 ∧ 0 ≤ x4 ∧ x4 ≤ x5 ∧ x5 ≤ 20000 ∧ 0 ≤ x6 ∧ x6 ≤ 1000000000 ∧ 0 ≤ x7 ∧ x7 ≤ 1000000000 ∧ x8 ≤ 4096 ∧ 0 ≤ x9 ∧ x9 ≤ 16384) (h1 : 0 ≤ x10 ∧ x0 + x10 < x1 - 0 ∧ 1 ≤ x1) : 0 ≤ ((x0) + (x10)) := by omega
theorem om_ac412197d6 {x0 x1 x2 x3 x4 x5 x6 x7 x8 x9 x10 : Int} (h0 : 0 ≤ x0 ∧ x0 ≤ x1 ∧ x1 ≤ 8192 ∧ 0 ≤ x2 ∧ x2 < 16000 ∧ 1 ≤ x3 ∧ x3 ≤ 2048 ∧ 0 ≤ x4 ∧ x4 ≤ x5 ∧ x5 ≤ 20000 ∧ 0 ≤ x6 ∧ x6 ≤ 1000000000 ∧ 0 ≤ x7 ∧ x7 ≤ 1000000000 ∧ x8 ≤ 4096 ∧ 0 ≤ x9 ∧ x9 ≤ 16384) (h1 : 0 ≤ x10 ∧ x0 + x10 < x1 - 0 ∧ 1 ≤ x1) : ((x0) + (x10)) < 24000 := by omega
theorem om_cb86d6dd54 {x0 : Int} (h0 : 0 ≤ x0 ∧ x0 < 4096) : 0 ≤ x0 := by omega
theorem om_1b13433236 {x0 : Int} (h0 : 0 ≤ x0 ∧ x0 < 4096) : x0 < 4200 := by omega
theorem om_8f94fdfe65 {x0 x1 : Int} (h0 : 0 ≤ x0 ∧ x0 < 4096 ∧ 1 ≤ x1) : -2147483648 ≤ (x1) - (1 : Int) := by omega
theorem om_a5f6e18af8 {x0 x1 : Int} (h0 : 0 ≤ x0 ∧ x0 < 4096 ∧ 1 ≤ x1) : 0 ≤ ((x1) - (1 : Int)) := by omega
theorem om_c116324dbe {x0 x1 : Int} (h0 : 0 ≤ x0 ∧ x0 < 4096 ∧ 1 ≤ x1) : 0 ≤ x0 := by omega
theorem om_907e1afc62 {x0 x1 : Int} (h0 : 0 ≤ x0 ∧ x0 < 4096 ∧ 1 ≤ x1) : x0 < 4200 := by omega
theorem om_ad449bd459 {x0 x1 x2 x3 x4 x5 x6 x7 x8 x9 x10 x11 x12 x13 : Int} (h0 : 0 ≤ x0 ∧ x0 ≤ x1 ∧ x1 ≤ 8192 ∧ 0 ≤ x2 ∧ x2 < 16000 ∧ 1 ≤ x3 ∧ x3 ≤ 2048 ∧ 0 ≤ x4 ∧ x4 ≤ x5 ∧ x5 ≤ 20000 ∧ 0 ≤ x6 ∧ x6 ≤ 1000000000 ∧ 0 ≤ x7 ∧ x7 ≤ 1000000000 ∧ x8 ≤ 4096 ∧ 0 ≤ x9 ∧ x9 ≤ 16384) (h1 : 0 ≤ x10 ∧ x10 < x11 ∧ 1 ≤ x1 ∧ 0 ≤ x12 ∧ x12 + x13 ≤ 4096) : 1 ≤ x1 ∧ x1 ≤ 24000 := by omega
theorem om_935d9072e0 {x0 x1 x2 x3 x4 : Int} (h0 : 0 ≤ x0 ∧ x0 < x1 ∧ 1 ≤ x2 ∧ 0 ≤ x3 ∧ x3 + x4 ≤ 4096) : -2147483648 ≤ (x2) - (1 : Int) := by omega
theorem om_c2a9a78dd3 {x0 x1 x2 x3 x4 : Int} (h0 : 0 ≤ x0 ∧ x0 < x1 ∧ 1 ≤ x2 ∧ 0 ≤ x3 ∧ x3 + x4 ≤ 4096) : 0 ≤ x0 := by omega
theorem om_3cc8911099 {x0 x1 x2 x3 x4 : Int} (h0 : 0 ≤ x0 ∧ x0 ≤ 60) (h1 : 0 ≤ x1 ∧ x1 < x0 ∧ 1 ≤ x2 ∧ 0 ≤ x3 ∧ x3 + x4 ≤ 4096) : x1 < 60 := by omega
theorem om_07605e62a7 {x0 x1 x2 x3 x4 x5 : Int} (h0 : 0 ≤ x0 ∧ x0 < x1 ∧ 1 ≤ x2 ∧ 0 ≤ x3 ∧ x3 + x4 ≤ 4096) (h1 : (0 : Int) ≤ x5) : -2147483648 ≤ (x3) + (x5) := by omega
theorem om_d11d48b58b {x0 x1 x2 x3 x4 x5 : Int} (h0 : 0 ≤ x0 ∧ x0 < x1 ∧ 1 ≤ x2 ∧ 0 ≤ x3 ∧ x3 + x4 ≤ 4096) (h1 : x5 < x4) : (x3) + (x5) < 2147483648 := by omega
theorem om_3b46ec09e4 {x0 x1 x2 x3 x4 x5 x6 x7 x8 x9 x10 x11 x12 x13 x14 : Int} (h0 : 0 ≤ x0 ∧ x0 ≤ x1 ∧ x1 ≤ 8192 ∧ 0 ≤ x2 ∧ x2 < 16000 ∧ 1 ≤ x3 ∧ x3 ≤ 2048 ∧ 0 ≤ x4 ∧ x4 ≤ x5 ∧ x5 ≤ 20000 ∧ 0 ≤ x6 ∧ x6 ≤ 1000000000 ∧ 0 ≤ x7 ∧ x7 ≤ 1000000000 ∧ x8 ≤ 4096 ∧ 0 ≤ x9 ∧ x9 ≤ 16384) (h1 : 0 ≤ x10 ∧ x10 < x11 ∧ 1 ≤ x1 ∧ 0 ≤ x12 ∧ x12 + x13 ≤ 4096) (h2 : x14 = (x1) - (1 : Int)) : 0 ≤ x14 ∧ x14 < 24000 := by omega
theorem om_13d86051d9 {x0 x1 x2 x3 x4 : Int} (h0 : 0 ≤ x0 ∧ x0 < x1 ∧ 1 ≤ x2 ∧ 0 ≤ x3 ∧ x3 + x4 ≤ 4096) : -2147483648 ≤ ((x2) - (1 : Int)) + (1 : Int) := by omega
theorem om_6702ee967f {x0 x1 x2 x3 x4 x5 : Int} (h0 : 0 ≤ x0 ∧ x0 < x1 ∧ 1 ≤ x2 ∧ 0 ≤ x3 ∧ x3 + x4 ≤ 4096) (h1 : x5 = (x2) - (1 : Int)) : 0 ≤ x5 := by omega
theorem om_1a38589fdf {x0 x1 x2 x3 x4 x5 x6 : Int} (h0 : 0 ≤ x0 ∧ x0 < x1 ∧ 1 ≤ x2 ∧ 0 ≤ x3 ∧ x3 + x4 ≤ 4096) (h1 : (0 : Int) ≤ x5) (h2 : x6 = (x3) + (x5)) : 0 ≤ x6 := by omega
theorem om_05ad0a96db {x0 x1 x2 x3 : Int} (h0 : x0 < x1) (h1 : x2 = (x3) + (x0)) : x2 < x3 + x1 := by omega
theorem om_4f36f0352b {x0 x1 x2 x3 x4 x5 x6 x7 x8 x9 : Int} (h0 : 0 ≤ x0 ∧ x0 ≤ x1 ∧ x1 ≤ 8192 ∧ 0 ≤ x2 ∧ x2 < 16000 ∧ 1 ≤ x3 ∧ x3 ≤ 2048 ∧ 0 ≤ x4 ∧ x4 ≤ x5 ∧ x5 ≤ 20000 ∧ 0 ≤ x6 ∧ x6 ≤ 1000000000 ∧ 0 ≤ x7 ∧ x7 ≤ 1000000000 ∧ x8 ≤ 4096 ∧ 0 ≤ x9 ∧ x9 ≤ 16384) : -2147483648 ≤ (x1) - (1 : Int) := by omega
theorem om_4d4252996f {x0 x1 x2 x3 x4 x5 x6 x7 x8 x9 x10 : Int} (h0 : 0 ≤ x0 ∧ x0 ≤ x1 ∧ x1 ≤ 8192 ∧ 0 ≤ x2 ∧ x2 < 16000 ∧ 1 ≤ x3 ∧ x3 ≤ 2048 ∧ 0 ≤ x4 ∧ x4 ≤ x5 ∧ x5 ≤ 20000 ∧ 0 ≤ x6 ∧ x6 ≤ 1000000000 ∧ 0 ≤ x7 ∧ x7 ≤ 1000000000 ∧ x8 ≤ 4096 ∧ 0 ≤ x9 ∧ x9 ≤ 16384) (h1 : 1 ≤ x1 ∧ 0 ≤ x10 ∧ x10 < 4096) : 1 ≤ x1 ∧ x1 ≤ 24000 := by omega
theorem om_7e076d371e {x0 x1 : Int} (h0 : 1 ≤ x0 ∧ 0 ≤ x1 ∧ x1 < 4096) : -2147483648 ≤ (x0) - (1 : Int) := by omega
theorem om_c04502c54d {x0 x1 : Int} (h0 : 1 ≤ x0 ∧ 0 ≤ x1 ∧ x1 < 4096) : 0 ≤ x1 := by omega
theorem om_64bffb1284 {x0 x1 : Int} (h0 : 1 ≤ x0 ∧ 0 ≤ x1 ∧ x1 < 4096) : x1 < 4200 := by omega
theorem om_7120d30b87 {x0 x1 x2 x3 x4 x5 x6 x7 x8 x9 x10 x11 : Int} (h0 : 0 ≤ x0 ∧ x0 ≤ x1 ∧ x1 ≤ 8192 ∧ 0 ≤ x2 ∧ x2 < 16000 ∧ 1 ≤ x3 ∧ x3 ≤ 2048 ∧ 0 ≤ x4 ∧ x4 ≤ x5 ∧ x5 ≤ 20000 ∧ 0 ≤ x6 ∧ x6 ≤ 1000000000 ∧ 0 ≤ x7 ∧ x7 ≤ 1000000000 ∧ x8 ≤ 4096 ∧ 0 ≤ x9 ∧ x9 ≤ 16384) (h1 : x10 = (x1) - (1 : Int)) (h2 : 1 ≤ x1 ∧ 0 ≤ x11 ∧ x11 < 4096) : 0 ≤ x10 ∧ x10 < 24000 := by omega
theorem om_edff7651cf {x0 x1 : Int} (h0 : 1 ≤ x0 ∧ 0 ≤ x1 ∧ x1 < 4096) : -2147483648 ≤ ((x0) - (1 : Int)) + (1 : Int) := by omega
theorem om_723ead6ed3 {x0 x1 x2 : Int} (h0 : x0 = (x1) - (1 : Int)) (h1 : 1 ≤ x1 ∧ 0 ≤ x2 ∧ x2 < 4096) : 0 ≤ x0 := by omega
theorem om_7b65223451 {x0 x1 : Int} (h0 : 1 ≤ x0 ∧ 0 ≤ x1 ∧ x1 < 4096) : 0 ≤ ((x0) - (1 : Int)) := by omega
theorem om_9465718a88 {x0 x1 x2 x3 x4 x5 x6 x7 x8 x9 x10 : Int} (h0 : 0 ≤ x0 ∧ x0 ≤ x1 ∧ x1 ≤ 8192 ∧ 0 ≤ x2 ∧ x2 < 16000 ∧ 1 ≤ x3 ∧ x3 ≤ 2048 ∧ 0 ≤ x4 ∧ x4 ≤ x5 ∧ x5 ≤ 20000 ∧ 0 ≤ x6 ∧ x6 ≤ 1000000000 ∧ 0 ≤ x7 ∧ x7 ≤ 1000000000 ∧ x8 ≤ 4096 ∧ 0 ≤ x9 ∧ x9 ≤ 16384) (h1 : 1 ≤ x1 ∧ 0 ≤ x10 ∧ x10 < 4096) : 0 ≤ x1 ∧ x1 < 24000 := by omega
theorem om_740a9eaded {x0 x1 : Int} (h0 : 1 ≤ x0 ∧ 0 ≤ x1 ∧ x1 < 4096) : -2147483648 ≤ (x0) + (1 : Int) := by omega
theorem om_0be1320ad1 {x0 x1 : Int} (h0 : 1 ≤ x0 ∧ 0 ≤ x1 ∧ x1 < 4096) : 0 ≤ x0 := by omega
theorem om_894a1c4ea6 {x0 x1 x2 x3 x4 x5 x6 x7 x8 x9 : Int} (h0 : 0 ≤ x0 ∧ x0 ≤ x1 ∧ x1 ≤ 8192 ∧ 0 ≤ x2 ∧ x2 < 16000 ∧ 1 ≤ x3 ∧ x3 ≤ 2048 ∧ 0 ≤ x4 ∧ x4 ≤ x5 ∧ x5 ≤ 20000 ∧ 0 ≤ x6 ∧ x6 ≤ 1000000000 ∧ 0 ≤ x7 ∧ x7 ≤ 1000000000 ∧ x8 ≤ 4096 ∧ 0 ≤ x9 ∧ x9 ≤ 16384) : -2147483648 ≤ ((x1) - (1 : Int)) - (1 : Int) := by omega
theorem om_39e624440d {x0 x1 : Int} (h0 : x0 = ((x1) - (1 : Int)) - (1 : Int)) : x0 = x1 - 2 := by omega
theorem om_e1558ef1b1 {x0 x1 x2 x3 x4 x5 x6 x7 x8 x9 x10 : Int} (h0 : 0 ≤ x0 ∧ x0 ≤ x1 ∧ x1 ≤ 8192 ∧ 0 ≤ x2 ∧ x2 < 16000 ∧ 1 ≤ x3 ∧ x3 ≤ 2048 ∧ 0 ≤ x4 ∧ x4 ≤ x5 ∧ x5 ≤ 20000 ∧ 0 ≤ x6 ∧ x6 ≤ 1000000000 ∧ 0 ≤ x7 ∧ x7 ≤ 1000000000 ∧ x8 ≤ 4096 ∧ 0 ≤ x9 ∧ x9 ≤ 16384) (h1 : 2 ≤ x1 ∧ 0 ≤ x10 ∧ x10 < 4096) : 1 ≤ x1 ∧ x1 ≤ 24000 := by omega
theorem om_9b979d9faf {x0 x1 : Int} (h0 : 2 ≤ x0 ∧ 0 ≤ x1 ∧ x1 < 4096) : -2147483648 ≤ (x0) - (1 : Int) := by omega
theorem om_7b4ab5390e {x0 x1 x2 x3 x4 x5 x6 x7 x8 x9 x10 x11 : Int} (h0 : 0 ≤ x0 ∧ x0 ≤ x1 ∧ x1 ≤ 8192 ∧ 0 ≤ x2 ∧ x2 < 16000 ∧ 1 ≤ x3 ∧ x3 ≤ 2048 ∧ 0 ≤ x4 ∧ x4 ≤ x5 ∧ x5 ≤ 20000 ∧ 0 ≤ x6 ∧ x6 ≤ 1000000000 ∧ 0 ≤ x7 ∧ x7 ≤ 1000000000 ∧ x8 ≤ 4096 ∧ 0 ≤ x9 ∧ x9 ≤ 16384) (h1 : x10 = (x1) - (1 : Int)) (h2 : 2 ≤ x1 ∧ 0 ≤ x11 ∧ x11 < 4096) : 1 ≤ x10 ∧ x10 ≤ 24000 := by omega
theorem om_ac409618d2 {x0 x1 : Int} (h0 : 2 ≤ x0 ∧ 0 ≤ x1 ∧ x1 < 4096) : -2147483648 ≤ ((x0) - (1 : Int)) - (1 : Int) := by omega
theorem om_2efd570bd0 {x0 x1 : Int} (h0 : 2 ≤ x0 ∧ 0 ≤ x1 ∧ x1 < 4096) : 0 ≤ x1 := by omega
theorem om_4c5c861142 {x0 x1 : Int} (h0 : 2 ≤ x0 ∧ 0 ≤ x1 ∧ x1 < 4096) : x1 < 4200 := by omega
theorem om_9e089259dc {x0 x1 x2 x3 x4 x5 x6 x7 x8 x9 x10 x11 : Int} (h0 : 0 ≤ x0 ∧ x0 ≤ x1 ∧ x1 ≤ 8192 ∧ 0 ≤ x2 ∧ x2 < 16000 ∧ 1 ≤ x3 ∧ x3 ≤ 2048 ∧ 0 ≤ x4 ∧ x4 ≤ x5 ∧ x5 ≤ 20000 ∧ 0 ≤ x6 ∧ x6 ≤ 1000000000 ∧ 0 ≤ x7 ∧ x7 ≤ 1000000000 ∧ x8 ≤ 4096 ∧ 0 ≤ x9 ∧ x9 ≤ 16384) (h1 : x10 = ((x1) - (1 : Int)) - (1 : Int)) (h2 : 2 ≤ x1 ∧ 0 ≤ x11 ∧ x11 < 4096) : 0 ≤ x10 ∧ x10 < 24000 := by omega
theorem om_8f179e4b9a {x0 x1 : Int} (h0 : 2 ≤ x0 ∧ 0 ≤ x1 ∧ x1 < 4096) : -2147483648 ≤ (((x0) - (1 : Int)) - (1 : Int)) + (1 : Int) := by omega
theorem om_d20c6a8bb6 {x0 x1 x2 : Int} (h0 : x0 = ((x1) - (1 : Int)) - (1 : Int)) (h1 : 2 ≤ x1 ∧ 0 ≤ x2 ∧ x2 < 4096) : 0 ≤ x0 := by omega
theorem om_1595d946c5 {x0 x1 x2 x3 x4 x5 x6 x7 x8 x9 : Int} (h0 : 0 ≤ x0 ∧ x0 ≤ x1 ∧ x1 ≤ 8192 ∧ 0 ≤ x2 ∧ x2 < 16000 ∧ 1 ≤ x3 ∧ x3 ≤ 2048 ∧ 0 ≤ x4 ∧ x4 ≤ x5 ∧ x5 ≤ 20000 ∧ 0 ≤ x6 ∧ x6 ≤ 1000000000 ∧ 0 ≤ x7 ∧ x7 ≤ 1000000000 ∧ x8 ≤ 4096 ∧ 0 ≤ x9 ∧ x9 ≤ 16384) : 0 ≤ x4 ∧ x5 ≤ 20000 ∧ x4 ≤ x5 := by omega
theorem om_8bbe4fe5ba {x0 : Int} (h0 : 0 ≤ x0 ∧ x0 ≤ 16384) : 0 ≤ x0 ∧ x0 ≤ 16384 := by omega
theorem om_d31036e702 {x0 : Int} (h0 : x0 = (15 : Int)) : x0 = 15 := by omega
theorem om_f2fd81bc18 {x0 : Int} (h0 : x0 = (16 : Int)) : 16 ≤ x0 ∧ x0 ≤ 24 ∧ x0 ≠ 21 := by omega
theorem om_ab2934fd5d {x0 : Int} (h0 : x0 = (17 : Int)) : 16 ≤ x0 ∧ x0 ≤ 24 ∧ x0 ≠ 21 := by omega
theorem om_374653b12a {x0 : Int} (h0 : x0 = (18 : Int)) : 16 ≤ x0 ∧ x0 ≤ 24 ∧ x0 ≠ 21 := by omega
theorem om_353cc5b285 {x0 : Int} (h0 : x0 = (19 : Int)) : 16 ≤ x0 ∧ x0 ≤ 24 ∧ x0 ≠ 21 := by omega
theorem om_552f4990e0 {x0 : Int} (h0 : x0 = (20 : Int)) : 16 ≤ x0 ∧ x0 ≤ 24 ∧ x0 ≠ 21 := by omega
theorem om_f7f9480013 {x0 : Int} (h0 : x0 = (21 : Int)) : x0 = 21 := by omega
theorem om_7d53805438 {x0 : Int} (h0 : 0 ≤ x0 ∧ x0 ≤ 24) (h1 : x0 ≠ (0 : Int)) (h2 : x0 ≠ (1 : Int)) (h3 : x0 ≠ (2 : Int)) (h4 : x0 ≠ (3 : Int)) (h5 : x0 ≠ (4 : Int)) (h6 : x0 ≠ (5 : Int)) (h7 : x0 ≠ (6 : Int)) (h8 : x0 ≠ (7 : Int)) (h9 : x0 ≠ (8 : Int)) (h10 : x0 ≠ (9 : Int)) (h11 : x0 ≠ (10 : Int)) (h12 : x0 ≠ (11 : Int)) (h13 : x0 ≠ (12 : Int)) (h14 : x0 ≠ (13 : Int)) (h15 : x0 ≠ (14 : Int)) (h16 : x0 ≠ (15 : Int)) (h17 : x0 ≠ (21 : Int)) : 16 ≤ x0 ∧ x0 ≤ 24 ∧ x0 ≠ 21 := by omega
set_option maxHeartbeats 4000000 in
set_option maxRecDepth 100000 in
theorem c_m_obey (l : Launch) (dC : Nat → ClassId) (dI : Nat → Nat → Nat) (cI cB cZ cJ cR : ClassId) (tb : Nat → Nat) (sz : Nat) (ad : Nat → Nat) (N : Nat) (v : MS) (Tt : Nat → Nat → TT) (Ee : Nat → Nat) (hg : Nat → Int) (mi : MI Tt Ee hg v (v.1 0 112)) (zN : (256 : Int) ≤ (N : Int) ∧ (N : Int) ≤ 4096) (zbf : 0 ≤ (v.1 0 74).toInt ∧ (v.1 0 74).toInt ≤ 40) (zbg : 0 ≤ (v.1 0 75).toInt ∧ (v.1 0 75).toInt ≤ 60) (zli : 0 ≤ (v.1 0 77).toInt ∧ (v.1 0 77).toInt ≤ 16384) (zg : 0 ≤ (v.1 0 94).toInt ∧ (v.1 0 94).toInt ≤ 64) (a78 : AR 78 0 8 v) (a79 : AR 79 0 2008 v) (a82 : AR 82 0 500 v) : Met l yX13_obey (Cond.code yX13_obey cX13_obey 4 (some .int) :: tw_W) ({ frames := 3, cells := 0, slots := 0, locals := 65 }) (pc_ (dC, dI) (tyS cI cB cZ cJ cR) tb (mW ad N cI cZ cJ v) sz [.ref (ad 0)]) (qi_ (dC, dI) (mW ad N cI cZ cJ v) sz (fun (r : Int32) (u : MS) => FG [106, 110, 111, 112, 113, 115, 116, 119, 120] [0, 105, 107, 108, 109, 117, 118] v u ∧ (OBP Tt Ee hg v u (v.1 0 112) r)) (fun (u : MS) => (mW ad N cI cZ cJ u))) 0 0 (va_A (mW ad N cI cZ cJ v) sz) := by
  refine Met.ofW (cc := cX13_obey) (maxL := 4) (ret := (some .int)) (by decide) rfl ?_
  intro p e s m args below meth c s₁ B hml hv
  obtain ⟨rfl, hsz, hP, hKK, hD0, hFx⟩ := hv
  have hK := hKK.1
  have hx := B.exec
  have hb := B.bytes
  have hr := B.returns
  have ht : ∀ w ∈ tw_W, w.before _ s = true := fun w h => atoms_spec (ws := Cond.code yX13_obey cX13_obey 4 (some .int) :: tw_W) B.pre w (List.mem_cons_of_mem _ h)
  have hown : s.vm.findClass RX13 = some m.cls := findClass_of_methodNamed B.named
  have hlocks := B.notSynchronized
  subst hsz
  unfold qi_
  have hD := hD0.self (sz := s.heap.size)
  generalize hAe : va_A (mW ad N cI cZ cJ v) s.heap.size = A at hD hFx ⊢
  have hA : ∀ q : Nat, s.heap.size ≤ q → A q := fun q h => by rw [← hAe]; exact Or.inr h
  have hS : va_S A s.heap s.heap [] := va_S.rf
  have hl := lv_entry ([.ref (ad 0)]) (n := 4) (Nat.le_of_ble_eq_true rfl)
  rw [lg_entry_eq]
  generalize (lg_sl ([.ref (ad 0)]) ++ List.replicate (4 - (lg_sl ([.ref (ad 0)])).length) Slot.unset).toArray = ls at hl ⊢
  have hl : lv_has ls 4 [(0, .ref (ad 0))] := hl
  have nm9 : 0 ≤ (v.1 0 111).toInt ∧ (v.1 0 111).toInt ≤ (v.1 0 106).toInt ∧ (v.1 0 106).toInt ≤ 8192 ∧ 0 ≤ (v.1 0 112).toInt ∧ (v.1 0 112).toInt < 16000 ∧ 1 ≤ (v.1 0 110).toInt ∧ (v.1 0 110).toInt ≤ 2048 ∧ 0 ≤ (v.1 0 113).toInt ∧ (v.1 0 113).toInt ≤ (v.1 0 114).toInt ∧ (v.1 0 114).toInt ≤ 20000 ∧ 0 ≤ (v.1 0 119).toInt ∧ (v.1 0 119).toInt ≤ 1000000000 ∧ 0 ≤ (v.1 0 120).toInt ∧ (v.1 0 120).toInt ≤ 1000000000 ∧ (v.1 0 76).toInt ≤ 4096 ∧ 0 ≤ (v.1 0 115).toInt ∧ (v.1 0 115).toInt ≤ 16384 := mi.lin
  have or9 : 0 ≤ ((v.1 71) (v.1 0 112).toNatClampNeg).toInt ∧ ((v.1 71) (v.1 0 112).toNatClampNeg).toInt ≤ 24 := mi.ord
  refine lv_aload_n hx hb dX13_obey_0 rfl (lv_at hl 0 rfl) ?_
  refine va_get (D := (dC, dI)) (ci := 16) (fs := mF ad v) (v := .ref (ad 71)) (C := RX13) (T := TX13) (N := 124) hx hb ht itX13 hown hK hP 0 rfl rfl 71 (by decide) (ht _ tw_277) (fun _ h9 => h9) rfl dX13_obey_1 ?_
  refine lv_aload_n hx hb dX13_obey_4 rfl (lv_at hl 0 rfl) ?_
  refine va_get (D := (dC, dI)) (ci := 16) (fs := mF ad v) (v := .int (v.1 0 112)) (C := RX13) (T := TX13) (N := 124) hx hb ht itX13 hown hK hP 0 rfl rfl 112 (by decide) (ht _ tw_334) (fun _ h9 => h9) rfl dX13_obey_5 ?_
  refine va_iald (D := (dC, dI)) (f := (v.1 71)) hx hb hK hP 36 0 rfl rfl (in_y (a := (v.1 0 112).toInt) (b := 16000) rfl (om_e760d26a1f nm9) (om_2d560b43c9 nm9) rfl) dX13_obey_8 ?_
  refine lv_istore_n (lv' := [(1, .int ((v.1 71) (v.1 0 112).toNatClampNeg)), (0, .ref (ad 0))]) hx hb dX13_obey_9 rfl hl (by decide) rfl (fun ls hl => ?_)
  refine lv_aload_n hx hb dX13_obey_10 rfl (lv_at hl 1 rfl) ?_
  refine va_get (D := (dC, dI)) (ci := 16) (fs := mF ad v) (v := .ref (ad 72)) (C := RX13) (T := TX13) (N := 124) hx hb ht itX13 hown hK hP 0 rfl rfl 72 (by decide) (ht _ tw_278) (fun _ h9 => h9) rfl dX13_obey_11 ?_
  refine lv_aload_n hx hb dX13_obey_14 rfl (lv_at hl 1 rfl) ?_
  refine va_get (D := (dC, dI)) (ci := 16) (fs := mF ad v) (v := .int (v.1 0 112)) (C := RX13) (T := TX13) (N := 124) hx hb ht itX13 hown hK hP 0 rfl rfl 112 (by decide) (ht _ tw_334) (fun _ h9 => h9) rfl dX13_obey_15 ?_
  refine va_iald (D := (dC, dI)) (f := (v.1 72)) hx hb hK hP 37 0 rfl rfl (in_y (a := (v.1 0 112).toInt) (b := 16000) rfl (om_e760d26a1f nm9) (om_2d560b43c9 nm9) rfl) dX13_obey_18 ?_
  refine lv_istore_n (lv' := [(2, .int ((v.1 72) (v.1 0 112).toNatClampNeg)), (1, .int ((v.1 71) (v.1 0 112).toNatClampNeg)), (0, .ref (ad 0))]) hx hb dX13_obey_19 rfl hl (by decide) rfl (fun ls hl => ?_)
  refine lv_aload_n hx hb dX13_obey_20 rfl (lv_at hl 2 rfl) ?_
  refine lv_dup hx hb dX13_obey_21 rfl ?_
  refine va_get (D := (dC, dI)) (ci := 16) (fs := mF ad v) (v := .int (v.1 0 112)) (C := RX13) (T := TX13) (N := 124) hx hb ht itX13 hown hK hP 0 rfl rfl 112 (by decide) (ht _ tw_334) (fun _ h9 => h9) rfl dX13_obey_22 ?_
  refine lv_iconst (v := 1) hx hb dX13_obey_25 (by decide) ?_
  refine lv_iadd hx hb dX13_obey_26 ?_
  have z1 : ((v.1 0 112) + (1 : Int32)).toInt = ((v.1 0 112).toInt) + (1 : Int) := add_z rfl (show (1 : Int32).toInt = (1 : Int) by decide) (om_e9bfc2d90d nm9) (om_ebb73ae8f6 nm9)
  refine va_put (D := (dC, dI)) (ci := 16) (fs := mF ad v) (v := .int ((v.1 0 112) + (1 : Int32))) (ty := .int) (C := RX13) (T := TX13) (N := 124) hx hb ht itX13 tyX13 tyX13_ok nmX13 hown hK hP hD hS 0 rfl rfl 112 (by decide) (ht _ tw_334) (fun _ h9 => h9) rfl (by decide +kernel) rfl rfl (Nat.le_of_ble_eq_true rfl) dX13_obey_27 (fun H locs hP hD hS => ?_)
  have hP := cP_ (mw_112 ad N cI cZ cJ v ((v.1 0 112) + (1 : Int32))) hP
  have hD := cD_ (mw_112 ad N cI cZ cJ v ((v.1 0 112) + (1 : Int32))) hD
  refine lv_iload_n hx hb dX13_obey_30 rfl (lv_at hl 1 rfl) ?_
  by_cases h2 : ((v.1 71) (v.1 0 112).toNatClampNeg) = 0
  · refine lv_tableIn (off := 101) (tgt := 132) hx hb dX13_obey_31 (by rw [h2]; decide) (by rw [h2]; decide) (by rw [h2]; decide) (by decide) ?_
    have z3 : ((v.1 71) (v.1 0 112).toNatClampNeg).toInt = (0 : Int) := eq_z rfl (show (0 : Int32).toInt = (0 : Int) by decide) h2
    refine lv_aload_n hx hb dX13_obey_132 rfl (lv_at hl 2 rfl) ?_
    refine lv_iload_n hx hb dX13_obey_133 rfl (lv_at hl 0 rfl) ?_
    refine cu_v (rn_V (n := 1) (As := [.int ((v.1 72) (v.1 0 112).toNatClampNeg)]) (rest := []) hx hb hml hown ht hKK hFx hP hD hS hA (c_m_push l dC dI cI cB cZ cJ cR tb H.size ad N (wA v 0 112 ((v.1 0 112) + (1 : Int32))) ((v.1 72) (v.1 0 112).toNatClampNeg) (show 0 ≤ (v.1 0 106).toInt ∧ (v.1 0 106).toInt < 24000 from (om_21af66d2d9 nm9))) tw_332 tw_333 (by decide +kernel) rfl rfl ⟨Nat.le_of_ble_eq_true rfl, Nat.le_of_ble_eq_true rfl⟩ (List.range (mW ad N cI cZ cJ (wA v 0 112 ((v.1 0 112) + (1 : Int32)))).length) (rg_map _) (mW_nd _ _ _ _ _ _) rfl rfl rfl rfl hl.1 rfl (Nat.le_of_ble_eq_true rfl) dX13_obey_134 ⟨Nat.le_of_ble_eq_true rfl, Nat.le_of_ble_eq_true rfl⟩) hP hD hS hA (fun u5 H locs hw4 hP hD hS => ?_)
    obtain rfl := hw4
    have z7 : ((v.1 0 106) + (1 : Int32)).toInt = ((v.1 0 106).toInt) + (1 : Int) := add_z rfl (show (1 : Int32).toInt = (1 : Int) by decide) (om_daba12859b nm9) (om_feb99406a1 nm9)
    have hP : va_P (dC, dI) vwCl (mW ad N cI cZ cJ (wA (wA (wA v 0 112 ((v.1 0 112) + (1 : Int32))) 105 ((v.1 0 106).toNatClampNeg) ((v.1 72) (v.1 0 112).toNatClampNeg)) 0 106 ((v.1 0 106) + (1 : Int32)))) H := hP
    have hD : va_D A (mW ad N cI cZ cJ (wA (wA (wA v 0 112 ((v.1 0 112) + (1 : Int32))) 105 ((v.1 0 106).toNatClampNeg) ((v.1 72) (v.1 0 112).toNatClampNeg)) 0 106 ((v.1 0 106) + (1 : Int32)))) := hD
    refine W.widen (k := 0) (n := 0) (Nat.le_refl _) (Nat.le_refl _) ?_
    refine lv_goto (tgt := 402) hx hb dX13_obey_137 (by decide) ?_
    refine lv_iconst (v := -1) hx hb dX13_obey_402 (by decide) ?_
    exact W.iret (v := (-1)) hx hb hr (fun t ht9 hW => ⟨⟨(-1), (wA (wA (wA v 0 112 ((v.1 0 112) + (1 : Int32))) 105 ((v.1 0 106).toNatClampNeg) ((v.1 72) (v.1 0 112).toNatClampNeg)) 0 106 ((v.1 0 106) + (1 : Int32))), rfl, ⟨(FG.f (FG.a (FG.f (FG.rf _) ((v.1 0 112) + (1 : Int32)) (by decide)) ((v.1 0 106).toNatClampNeg) ((v.1 72) (v.1 0 112).toNatClampNeg) (by decide) (by decide)) ((v.1 0 106) + (1 : Int32)) (by decide)), (Or.inl ⟨by decide, MI.psh (u := (wA (wA (wA v 0 112 ((v.1 0 112) + (1 : Int32))) 105 ((v.1 0 106).toNatClampNeg) ((v.1 72) (v.1 0 112).toNatClampNeg)) 0 106 ((v.1 0 106) + (1 : Int32)))) mi (Or.inl z3) (show ((v.1 0 112) + (1 : Int32)).toInt = (v.1 0 112).toInt + 1 from (om_5bccfc38cf z1)) (all8f (P := fun k9 => ((wA (wA (wA v 0 112 ((v.1 0 112) + (1 : Int32))) 105 ((v.1 0 106).toNatClampNeg) ((v.1 72) (v.1 0 112).toNatClampNeg)) 0 106 ((v.1 0 106) + (1 : Int32)))).1 0 k9 = v.1 0 k9) rfl rfl rfl rfl rfl rfl rfl rfl) (all11g (P := fun k9 => ((wA (wA (wA v 0 112 ((v.1 0 112) + (1 : Int32))) 105 ((v.1 0 106).toNatClampNeg) ((v.1 72) (v.1 0 112).toNatClampNeg)) 0 106 ((v.1 0 106) + (1 : Int32)))).1 k9 = v.1 k9) rfl rfl rfl rfl rfl rfl rfl rfl rfl rfl rfl) (show ((v.1 0 106) + (1 : Int32)).toInt = (v.1 0 106).toInt + 1 from (om_5bccfc38cf z7)) (fun (j9 : Nat) h9 => pk_un3 (x := (v.1 0 106)) rfl (om_f93f4676ed nm9) (om_4fe904e9bf h9)) (show 0 ≤ (v.1 0 119).toInt ∧ (v.1 0 119).toInt ≤ (v.1 0 119).toInt + 1 from (om_c2c1baedc6 nm9)) (show 0 ≤ (v.1 0 120).toInt ∧ (v.1 0 120).toInt ≤ (v.1 0 120).toInt + 1 from (om_9ca839a770 nm9))⟩)⟩, by rw [ht9]; exact hP, hD⟩, hS.F ht9⟩) hS.2.2 dX13_obey_403
  ·
    have z8 : ((v.1 71) (v.1 0 112).toNatClampNeg).toInt ≠ (0 : Int) := ne_z rfl (show (0 : Int32).toInt = (0 : Int) by decide) h2
    by_cases h9 : ((v.1 71) (v.1 0 112).toNatClampNeg) = 1
    · refine lv_tableIn (off := 109) (tgt := 140) hx hb dX13_obey_31 (by rw [h9]; decide) (by rw [h9]; decide) (by rw [h9]; decide) (by decide) ?_
      have z10 : ((v.1 71) (v.1 0 112).toNatClampNeg).toInt = (1 : Int) := eq_z rfl (show (1 : Int32).toInt = (1 : Int) by decide) h9
      have c9 : 0 ≤ ((v.1 72) (v.1 0 112).toNatClampNeg).toInt ∧ (v.1 0 111).toInt + ((v.1 72) (v.1 0 112).toNatClampNeg).toInt ≤ 8192 := mi.c1 z10
      refine lv_aload_n hx hb dX13_obey_140 rfl (lv_at hl 2 rfl) ?_
      refine lv_aload_n hx hb dX13_obey_141 rfl (lv_at hl 2 rfl) ?_
      refine va_get (D := (dC, dI)) (ci := 16) (fs := mF ad (wA v 0 112 ((v.1 0 112) + (1 : Int32)))) (v := .ref (ad 105)) (C := RX13) (T := TX13) (N := 124) hx hb ht itX13 hown hK hP 0 rfl rfl 105 (by decide) (ht _ tw_314) (fun _ h9 => h9) rfl dX13_obey_142 ?_
      refine lv_aload_n hx hb dX13_obey_145 rfl (lv_at hl 2 rfl) ?_
      refine va_get (D := (dC, dI)) (ci := 16) (fs := mF ad (wA v 0 112 ((v.1 0 112) + (1 : Int32)))) (v := .int (v.1 0 111)) (C := RX13) (T := TX13) (N := 124) hx hb ht itX13 hown hK hP 0 rfl rfl 111 (by decide) (ht _ tw_339) (fun _ h9 => h9) rfl dX13_obey_146 ?_
      refine lv_iload_n hx hb dX13_obey_149 rfl (lv_at hl 0 rfl) ?_
      refine lv_iadd hx hb dX13_obey_150 ?_
      have z11 : ((v.1 0 111) + ((v.1 72) (v.1 0 112).toNatClampNeg)).toInt = ((v.1 0 111).toInt) + (((v.1 72) (v.1 0 112).toNatClampNeg).toInt) := add_z rfl rfl (om_5534dcedcf nm9 c9) (om_48d50af75e c9)
      refine va_iald (D := (dC, dI)) (f := (v.1 105)) hx hb hK hP 56 0 rfl rfl (in_y (a := (((v.1 0 111).toInt) + (((v.1 72) (v.1 0 112).toNatClampNeg).toInt))) (b := 24000) z11 (om_8c762ad8cc nm9 c9) (om_391599c202 c9) rfl) dX13_obey_151 ?_
      refine cu_v (rn_V (n := 1) (As := [.int ((v.1 105) ((v.1 0 111) + ((v.1 72) (v.1 0 112).toNatClampNeg)).toNatClampNeg)]) (rest := []) hx hb hml hown ht hKK hFx hP hD hS hA (c_m_push l dC dI cI cB cZ cJ cR tb H.size ad N (wA v 0 112 ((v.1 0 112) + (1 : Int32))) ((v.1 105) ((v.1 0 111) + ((v.1 72) (v.1 0 112).toNatClampNeg)).toNatClampNeg) (show 0 ≤ (v.1 0 106).toInt ∧ (v.1 0 106).toInt < 24000 from (om_21af66d2d9 nm9))) tw_332 tw_333 (by decide +kernel) rfl rfl ⟨Nat.le_of_ble_eq_true rfl, Nat.le_of_ble_eq_true rfl⟩ (List.range (mW ad N cI cZ cJ (wA v 0 112 ((v.1 0 112) + (1 : Int32)))).length) (rg_map _) (mW_nd _ _ _ _ _ _) rfl rfl rfl rfl hl.1 rfl (Nat.le_of_ble_eq_true rfl) dX13_obey_152 ⟨Nat.le_of_ble_eq_true rfl, Nat.le_of_ble_eq_true rfl⟩) hP hD hS hA (fun u13 H locs hw12 hP hD hS => ?_)
      obtain rfl := hw12
      have z15 : ((v.1 0 106) + (1 : Int32)).toInt = ((v.1 0 106).toInt) + (1 : Int) := add_z rfl (show (1 : Int32).toInt = (1 : Int) by decide) (om_daba12859b nm9) (om_feb99406a1 nm9)
      have hP : va_P (dC, dI) vwCl (mW ad N cI cZ cJ (wA (wA (wA v 0 112 ((v.1 0 112) + (1 : Int32))) 105 ((v.1 0 106).toNatClampNeg) ((v.1 105) ((v.1 0 111) + ((v.1 72) (v.1 0 112).toNatClampNeg)).toNatClampNeg)) 0 106 ((v.1 0 106) + (1 : Int32)))) H := hP
      have hD : va_D A (mW ad N cI cZ cJ (wA (wA (wA v 0 112 ((v.1 0 112) + (1 : Int32))) 105 ((v.1 0 106).toNatClampNeg) ((v.1 105) ((v.1 0 111) + ((v.1 72) (v.1 0 112).toNatClampNeg)).toNatClampNeg)) 0 106 ((v.1 0 106) + (1 : Int32)))) := hD
      refine W.widen (k := 0) (n := 0) (Nat.le_refl _) (Nat.le_refl _) ?_
      refine lv_goto (tgt := 402) hx hb dX13_obey_155 (by decide) ?_
      refine lv_iconst (v := -1) hx hb dX13_obey_402 (by decide) ?_
      exact W.iret (v := (-1)) hx hb hr (fun t ht9 hW => ⟨⟨(-1), (wA (wA (wA v 0 112 ((v.1 0 112) + (1 : Int32))) 105 ((v.1 0 106).toNatClampNeg) ((v.1 105) ((v.1 0 111) + ((v.1 72) (v.1 0 112).toNatClampNeg)).toNatClampNeg)) 0 106 ((v.1 0 106) + (1 : Int32))), rfl, ⟨(FG.f (FG.a (FG.f (FG.rf _) ((v.1 0 112) + (1 : Int32)) (by decide)) ((v.1 0 106).toNatClampNeg) ((v.1 105) ((v.1 0 111) + ((v.1 72) (v.1 0 112).toNatClampNeg)).toNatClampNeg) (by decide) (by decide)) ((v.1 0 106) + (1 : Int32)) (by decide)), (Or.inl ⟨by decide, MI.psh (u := (wA (wA (wA v 0 112 ((v.1 0 112) + (1 : Int32))) 105 ((v.1 0 106).toNatClampNeg) ((v.1 105) ((v.1 0 111) + ((v.1 72) (v.1 0 112).toNatClampNeg)).toNatClampNeg)) 0 106 ((v.1 0 106) + (1 : Int32)))) mi (Or.inr (Or.inr (Or.inl z10))) (show ((v.1 0 112) + (1 : Int32)).toInt = (v.1 0 112).toInt + 1 from (om_5bccfc38cf z1)) (all8f (P := fun k9 => ((wA (wA (wA v 0 112 ((v.1 0 112) + (1 : Int32))) 105 ((v.1 0 106).toNatClampNeg) ((v.1 105) ((v.1 0 111) + ((v.1 72) (v.1 0 112).toNatClampNeg)).toNatClampNeg)) 0 106 ((v.1 0 106) + (1 : Int32)))).1 0 k9 = v.1 0 k9) rfl rfl rfl rfl rfl rfl rfl rfl) (all11g (P := fun k9 => ((wA (wA (wA v 0 112 ((v.1 0 112) + (1 : Int32))) 105 ((v.1 0 106).toNatClampNeg) ((v.1 105) ((v.1 0 111) + ((v.1 72) (v.1 0 112).toNatClampNeg)).toNatClampNeg)) 0 106 ((v.1 0 106) + (1 : Int32)))).1 k9 = v.1 k9) rfl rfl rfl rfl rfl rfl rfl rfl rfl rfl rfl) (show ((v.1 0 106) + (1 : Int32)).toInt = (v.1 0 106).toInt + 1 from (om_5bccfc38cf z15)) (fun (j9 : Nat) h9 => pk_un3 (x := (v.1 0 106)) rfl (om_f93f4676ed nm9) (om_4fe904e9bf h9)) (show 0 ≤ (v.1 0 119).toInt ∧ (v.1 0 119).toInt ≤ (v.1 0 119).toInt + 1 from (om_c2c1baedc6 nm9)) (show 0 ≤ (v.1 0 120).toInt ∧ (v.1 0 120).toInt ≤ (v.1 0 120).toInt + 1 from (om_9ca839a770 nm9))⟩)⟩, by rw [ht9]; exact hP, hD⟩, hS.F ht9⟩) hS.2.2 dX13_obey_403
    ·
      have z16 : ((v.1 71) (v.1 0 112).toNatClampNeg).toInt ≠ (1 : Int) := ne_z rfl (show (1 : Int32).toInt = (1 : Int) by decide) h9
      by_cases h17 : ((v.1 71) (v.1 0 112).toNatClampNeg) = 2
      · refine lv_tableIn (off := 127) (tgt := 158) hx hb dX13_obey_31 (by rw [h17]; decide) (by rw [h17]; decide) (by rw [h17]; decide) (by decide) ?_
        have z18 : ((v.1 71) (v.1 0 112).toNatClampNeg).toInt = (2 : Int) := eq_z rfl (show (2 : Int32).toInt = (2 : Int) by decide) h17
        have c9 : 0 ≤ ((v.1 72) (v.1 0 112).toNatClampNeg).toInt ∧ (v.1 0 111).toInt + ((v.1 72) (v.1 0 112).toNatClampNeg).toInt < (v.1 0 106).toInt - 0 ∧ 1 ≤ (v.1 0 106).toInt := mi.c2 z18
        refine lv_aload_n hx hb dX13_obey_158 rfl (lv_at hl 2 rfl) ?_
        refine va_get (D := (dC, dI)) (ci := 16) (fs := mF ad (wA v 0 112 ((v.1 0 112) + (1 : Int32)))) (v := .ref (ad 105)) (C := RX13) (T := TX13) (N := 124) hx hb ht itX13 hown hK hP 0 rfl rfl 105 (by decide) (ht _ tw_314) (fun _ h9 => h9) rfl dX13_obey_159 ?_
        refine lv_aload_n hx hb dX13_obey_162 rfl (lv_at hl 2 rfl) ?_
        refine va_get (D := (dC, dI)) (ci := 16) (fs := mF ad (wA v 0 112 ((v.1 0 112) + (1 : Int32)))) (v := .int (v.1 0 111)) (C := RX13) (T := TX13) (N := 124) hx hb ht itX13 hown hK hP 0 rfl rfl 111 (by decide) (ht _ tw_339) (fun _ h9 => h9) rfl dX13_obey_163 ?_
        refine lv_iload_n hx hb dX13_obey_166 rfl (lv_at hl 0 rfl) ?_
        refine lv_iadd hx hb dX13_obey_167 ?_
        have z19 : ((v.1 0 111) + ((v.1 72) (v.1 0 112).toNatClampNeg)).toInt = ((v.1 0 111).toInt) + (((v.1 72) (v.1 0 112).toNatClampNeg).toInt) := add_z rfl rfl (om_e03b36dd80 nm9 c9) (om_1a01b6a7e2 nm9 c9)
        refine lv_aload_n hx hb dX13_obey_168 rfl (lv_at hl 2 rfl) ?_
        refine va_get (D := (dC, dI)) (ci := 16) (fs := mF ad (wA v 0 112 ((v.1 0 112) + (1 : Int32)))) (v := .ref (ad 105)) (C := RX13) (T := TX13) (N := 124) hx hb ht itX13 hown hK hP 0 rfl rfl 105 (by decide) (ht _ tw_314) (fun _ h9 => h9) rfl dX13_obey_169 ?_
        refine lv_aload_n hx hb dX13_obey_172 rfl (lv_at hl 2 rfl) ?_
        refine va_get (D := (dC, dI)) (ci := 16) (fs := mF ad (wA v 0 112 ((v.1 0 112) + (1 : Int32)))) (v := .int (v.1 0 106)) (C := RX13) (T := TX13) (N := 124) hx hb ht itX13 hown hK hP 0 rfl rfl 106 (by decide) (ht _ tw_315) (fun _ h9 => h9) rfl dX13_obey_173 ?_
        refine lv_iconst (v := 1) hx hb dX13_obey_176 (by decide) ?_
        refine lv_isub hx hb dX13_obey_177 ?_
        have z20 : ((v.1 0 106) - (1 : Int32)).toInt = ((v.1 0 106).toInt) - (1 : Int) := sub_z rfl (show (1 : Int32).toInt = (1 : Int) by decide) (om_ba9350dbee c9) (om_5ad56c0db6 nm9)
        refine va_iald (D := (dC, dI)) (f := (v.1 105)) hx hb hK hP 56 0 rfl rfl (in_y (a := (((v.1 0 106).toInt) - (1 : Int))) (b := 24000) z20 (om_379d3fbe6f c9) (om_c9424289d8 nm9) rfl) dX13_obey_178 ?_
        refine va_iast (D := (dC, dI)) (f := (v.1 105)) hx hb hK hP hD hS 56 0 rfl rfl (in_y (a := (((v.1 0 111).toInt) + (((v.1 72) (v.1 0 112).toNatClampNeg).toInt))) (b := 24000) z19 (om_d61c0efef0 nm9 c9) (om_ac412197d6 nm9 c9) rfl) dX13_obey_179 (fun H locs hP hD hS => ?_)
        have hP := cP_ (ma_105 ad N cI cZ cJ (wA v 0 112 ((v.1 0 112) + (1 : Int32))) (((v.1 0 111) + ((v.1 72) (v.1 0 112).toNatClampNeg)).toNatClampNeg) ((v.1 105) ((v.1 0 106) - (1 : Int32)).toNatClampNeg)) hP
        have hD := cD_ (ma_105 ad N cI cZ cJ (wA v 0 112 ((v.1 0 112) + (1 : Int32))) (((v.1 0 111) + ((v.1 72) (v.1 0 112).toNatClampNeg)).toNatClampNeg) ((v.1 105) ((v.1 0 106) - (1 : Int32)).toNatClampNeg)) hD
        refine lv_goto (tgt := 402) hx hb dX13_obey_180 (by decide) ?_
        refine lv_iconst (v := -1) hx hb dX13_obey_402 (by decide) ?_
        exact W.iret (v := (-1)) hx hb hr (fun t ht9 hW => ⟨⟨(-1), (wA (wA v 0 112 ((v.1 0 112) + (1 : Int32))) 105 (((v.1 0 111) + ((v.1 72) (v.1 0 112).toNatClampNeg)).toNatClampNeg) ((v.1 105) ((v.1 0 106) - (1 : Int32)).toNatClampNeg)), rfl, ⟨(FG.a (FG.f (FG.rf _) ((v.1 0 112) + (1 : Int32)) (by decide)) (((v.1 0 111) + ((v.1 72) (v.1 0 112).toNatClampNeg)).toNatClampNeg) ((v.1 105) ((v.1 0 106) - (1 : Int32)).toNatClampNeg) (by decide) (by decide)), (Or.inl ⟨by decide, MI.r2 (u := (wA (wA v 0 112 ((v.1 0 112) + (1 : Int32))) 105 (((v.1 0 111) + ((v.1 72) (v.1 0 112).toNatClampNeg)).toNatClampNeg) ((v.1 105) ((v.1 0 106) - (1 : Int32)).toNatClampNeg))) mi z18 (show ((v.1 0 112) + (1 : Int32)).toInt = (v.1 0 112).toInt + 1 from (om_5bccfc38cf z1)) (all8f (P := fun k9 => ((wA (wA v 0 112 ((v.1 0 112) + (1 : Int32))) 105 (((v.1 0 111) + ((v.1 72) (v.1 0 112).toNatClampNeg)).toNatClampNeg) ((v.1 105) ((v.1 0 106) - (1 : Int32)).toNatClampNeg))).1 0 k9 = v.1 0 k9) rfl rfl rfl rfl rfl rfl rfl rfl) (all11g (P := fun k9 => ((wA (wA v 0 112 ((v.1 0 112) + (1 : Int32))) 105 (((v.1 0 111) + ((v.1 72) (v.1 0 112).toNatClampNeg)).toNatClampNeg) ((v.1 105) ((v.1 0 106) - (1 : Int32)).toNatClampNeg))).1 k9 = v.1 k9) rfl rfl rfl rfl rfl rfl rfl rfl rfl rfl rfl) (show (v.1 0 106).toInt = (v.1 0 106).toInt from om_93d572ac38) (fun j9 _ h8 => mi.loc z18 (x := ((v.1 0 111) + ((v.1 72) (v.1 0 112).toNatClampNeg))) (show ((v.1 0 111) + ((v.1 72) (v.1 0 112).toNatClampNeg)).toInt = (v.1 0 111).toInt + ((v.1 72) (v.1 0 112).toNatClampNeg).toInt from (om_954b620401 z19)) j9 h8) (show 0 ≤ (v.1 0 119).toInt ∧ (v.1 0 119).toInt ≤ (v.1 0 119).toInt + 1 from (om_c2c1baedc6 nm9)) (show 0 ≤ (v.1 0 120).toInt ∧ (v.1 0 120).toInt ≤ (v.1 0 120).toInt + 1 from (om_9ca839a770 nm9))⟩)⟩, by rw [ht9]; exact hP, hD⟩, hS.F ht9⟩) hS.2.2 dX13_obey_403
      ·
        have z21 : ((v.1 71) (v.1 0 112).toNatClampNeg).toInt ≠ (2 : Int) := ne_z rfl (show (2 : Int32).toInt = (2 : Int) by decide) h17
        by_cases h22 : ((v.1 71) (v.1 0 112).toNatClampNeg) = 3
        · refine lv_tableIn (off := 152) (tgt := 183) hx hb dX13_obey_31 (by rw [h22]; decide) (by rw [h22]; decide) (by rw [h22]; decide) (by decide) ?_
          have z23 : ((v.1 71) (v.1 0 112).toNatClampNeg).toInt = (3 : Int) := eq_z rfl (show (3 : Int32).toInt = (3 : Int) by decide) h22
          have c9 : 0 ≤ ((v.1 72) (v.1 0 112).toNatClampNeg).toInt ∧ ((v.1 72) (v.1 0 112).toNatClampNeg).toInt < 4096 := mi.c3 z23
          refine lv_aload_n hx hb dX13_obey_183 rfl (lv_at hl 2 rfl) ?_
          refine lv_aload_n hx hb dX13_obey_184 rfl (lv_at hl 2 rfl) ?_
          refine va_get (D := (dC, dI)) (ci := 16) (fs := mF ad (wA v 0 112 ((v.1 0 112) + (1 : Int32)))) (v := .ref (ad 117)) (C := RX13) (T := TX13) (N := 124) hx hb ht itX13 hown hK hP 0 rfl rfl 117 (by decide) (ht _ tw_347) (fun _ h9 => h9) rfl dX13_obey_185 ?_
          refine lv_iload_n hx hb dX13_obey_188 rfl (lv_at hl 0 rfl) ?_
          refine va_iald (D := (dC, dI)) (f := (v.1 117)) hx hb hK hP 60 0 rfl rfl (in_y (a := ((v.1 72) (v.1 0 112).toNatClampNeg).toInt) (b := 4200) rfl (om_cb86d6dd54 c9) (om_1b13433236 c9) rfl) dX13_obey_189 ?_
          refine cu_v (rn_V (n := 1) (As := [.int ((v.1 117) ((v.1 72) (v.1 0 112).toNatClampNeg).toNatClampNeg)]) (rest := []) hx hb hml hown ht hKK hFx hP hD hS hA (c_m_push l dC dI cI cB cZ cJ cR tb H.size ad N (wA v 0 112 ((v.1 0 112) + (1 : Int32))) ((v.1 117) ((v.1 72) (v.1 0 112).toNatClampNeg).toNatClampNeg) (show 0 ≤ (v.1 0 106).toInt ∧ (v.1 0 106).toInt < 24000 from (om_21af66d2d9 nm9))) tw_332 tw_333 (by decide +kernel) rfl rfl ⟨Nat.le_of_ble_eq_true rfl, Nat.le_of_ble_eq_true rfl⟩ (List.range (mW ad N cI cZ cJ (wA v 0 112 ((v.1 0 112) + (1 : Int32)))).length) (rg_map _) (mW_nd _ _ _ _ _ _) rfl rfl rfl rfl hl.1 rfl (Nat.le_of_ble_eq_true rfl) dX13_obey_190 ⟨Nat.le_of_ble_eq_true rfl, Nat.le_of_ble_eq_true rfl⟩) hP hD hS hA (fun u25 H locs hw24 hP hD hS => ?_)
          obtain rfl := hw24
          have z27 : ((v.1 0 106) + (1 : Int32)).toInt = ((v.1 0 106).toInt) + (1 : Int) := add_z rfl (show (1 : Int32).toInt = (1 : Int) by decide) (om_daba12859b nm9) (om_feb99406a1 nm9)
          have hP : va_P (dC, dI) vwCl (mW ad N cI cZ cJ (wA (wA (wA v 0 112 ((v.1 0 112) + (1 : Int32))) 105 ((v.1 0 106).toNatClampNeg) ((v.1 117) ((v.1 72) (v.1 0 112).toNatClampNeg).toNatClampNeg)) 0 106 ((v.1 0 106) + (1 : Int32)))) H := hP
          have hD : va_D A (mW ad N cI cZ cJ (wA (wA (wA v 0 112 ((v.1 0 112) + (1 : Int32))) 105 ((v.1 0 106).toNatClampNeg) ((v.1 117) ((v.1 72) (v.1 0 112).toNatClampNeg).toNatClampNeg)) 0 106 ((v.1 0 106) + (1 : Int32)))) := hD
          refine W.widen (k := 0) (n := 0) (Nat.le_refl _) (Nat.le_refl _) ?_
          refine lv_goto (tgt := 402) hx hb dX13_obey_193 (by decide) ?_
          refine lv_iconst (v := -1) hx hb dX13_obey_402 (by decide) ?_
          exact W.iret (v := (-1)) hx hb hr (fun t ht9 hW => ⟨⟨(-1), (wA (wA (wA v 0 112 ((v.1 0 112) + (1 : Int32))) 105 ((v.1 0 106).toNatClampNeg) ((v.1 117) ((v.1 72) (v.1 0 112).toNatClampNeg).toNatClampNeg)) 0 106 ((v.1 0 106) + (1 : Int32))), rfl, ⟨(FG.f (FG.a (FG.f (FG.rf _) ((v.1 0 112) + (1 : Int32)) (by decide)) ((v.1 0 106).toNatClampNeg) ((v.1 117) ((v.1 72) (v.1 0 112).toNatClampNeg).toNatClampNeg) (by decide) (by decide)) ((v.1 0 106) + (1 : Int32)) (by decide)), (Or.inl ⟨by decide, MI.psh (u := (wA (wA (wA v 0 112 ((v.1 0 112) + (1 : Int32))) 105 ((v.1 0 106).toNatClampNeg) ((v.1 117) ((v.1 72) (v.1 0 112).toNatClampNeg).toNatClampNeg)) 0 106 ((v.1 0 106) + (1 : Int32)))) mi (Or.inr (Or.inr (Or.inr z23))) (show ((v.1 0 112) + (1 : Int32)).toInt = (v.1 0 112).toInt + 1 from (om_5bccfc38cf z1)) (all8f (P := fun k9 => ((wA (wA (wA v 0 112 ((v.1 0 112) + (1 : Int32))) 105 ((v.1 0 106).toNatClampNeg) ((v.1 117) ((v.1 72) (v.1 0 112).toNatClampNeg).toNatClampNeg)) 0 106 ((v.1 0 106) + (1 : Int32)))).1 0 k9 = v.1 0 k9) rfl rfl rfl rfl rfl rfl rfl rfl) (all11g (P := fun k9 => ((wA (wA (wA v 0 112 ((v.1 0 112) + (1 : Int32))) 105 ((v.1 0 106).toNatClampNeg) ((v.1 117) ((v.1 72) (v.1 0 112).toNatClampNeg).toNatClampNeg)) 0 106 ((v.1 0 106) + (1 : Int32)))).1 k9 = v.1 k9) rfl rfl rfl rfl rfl rfl rfl rfl rfl rfl rfl) (show ((v.1 0 106) + (1 : Int32)).toInt = (v.1 0 106).toInt + 1 from (om_5bccfc38cf z27)) (fun (j9 : Nat) h9 => pk_un3 (x := (v.1 0 106)) rfl (om_f93f4676ed nm9) (om_4fe904e9bf h9)) (show 0 ≤ (v.1 0 119).toInt ∧ (v.1 0 119).toInt ≤ (v.1 0 119).toInt + 1 from (om_c2c1baedc6 nm9)) (show 0 ≤ (v.1 0 120).toInt ∧ (v.1 0 120).toInt ≤ (v.1 0 120).toInt + 1 from (om_9ca839a770 nm9))⟩)⟩, by rw [ht9]; exact hP, hD⟩, hS.F ht9⟩) hS.2.2 dX13_obey_403
        ·
          have z28 : ((v.1 71) (v.1 0 112).toNatClampNeg).toInt ≠ (3 : Int) := ne_z rfl (show (3 : Int32).toInt = (3 : Int) by decide) h22
          by_cases h29 : ((v.1 71) (v.1 0 112).toNatClampNeg) = 4
          · refine lv_tableIn (off := 165) (tgt := 196) hx hb dX13_obey_31 (by rw [h29]; decide) (by rw [h29]; decide) (by rw [h29]; decide) (by decide) ?_
            have z30 : ((v.1 71) (v.1 0 112).toNatClampNeg).toInt = (4 : Int) := eq_z rfl (show (4 : Int32).toInt = (4 : Int) by decide) h29
            have c9 : 0 ≤ ((v.1 72) (v.1 0 112).toNatClampNeg).toInt ∧ ((v.1 72) (v.1 0 112).toNatClampNeg).toInt < 4096 ∧ 1 ≤ (v.1 0 106).toInt := mi.c4 z30
            refine lv_aload_n hx hb dX13_obey_196 rfl (lv_at hl 2 rfl) ?_
            refine va_get (D := (dC, dI)) (ci := 16) (fs := mF ad (wA v 0 112 ((v.1 0 112) + (1 : Int32)))) (v := .ref (ad 117)) (C := RX13) (T := TX13) (N := 124) hx hb ht itX13 hown hK hP 0 rfl rfl 117 (by decide) (ht _ tw_347) (fun _ h9 => h9) rfl dX13_obey_197 ?_
            refine lv_iload_n hx hb dX13_obey_200 rfl (lv_at hl 0 rfl) ?_
            refine lv_aload_n hx hb dX13_obey_201 rfl (lv_at hl 2 rfl) ?_
            refine va_get (D := (dC, dI)) (ci := 16) (fs := mF ad (wA v 0 112 ((v.1 0 112) + (1 : Int32)))) (v := .ref (ad 105)) (C := RX13) (T := TX13) (N := 124) hx hb ht itX13 hown hK hP 0 rfl rfl 105 (by decide) (ht _ tw_314) (fun _ h9 => h9) rfl dX13_obey_202 ?_
            refine lv_aload_n hx hb dX13_obey_205 rfl (lv_at hl 2 rfl) ?_
            refine va_get (D := (dC, dI)) (ci := 16) (fs := mF ad (wA v 0 112 ((v.1 0 112) + (1 : Int32)))) (v := .int (v.1 0 106)) (C := RX13) (T := TX13) (N := 124) hx hb ht itX13 hown hK hP 0 rfl rfl 106 (by decide) (ht _ tw_315) (fun _ h9 => h9) rfl dX13_obey_206 ?_
            refine lv_iconst (v := 1) hx hb dX13_obey_209 (by decide) ?_
            refine lv_isub hx hb dX13_obey_210 ?_
            have z31 : ((v.1 0 106) - (1 : Int32)).toInt = ((v.1 0 106).toInt) - (1 : Int) := sub_z rfl (show (1 : Int32).toInt = (1 : Int) by decide) (om_8f94fdfe65 c9) (om_5ad56c0db6 nm9)
            refine va_iald (D := (dC, dI)) (f := (v.1 105)) hx hb hK hP 56 0 rfl rfl (in_y (a := (((v.1 0 106).toInt) - (1 : Int))) (b := 24000) z31 (om_a5f6e18af8 c9) (om_c9424289d8 nm9) rfl) dX13_obey_211 ?_
            refine va_iast (D := (dC, dI)) (f := (v.1 117)) hx hb hK hP hD hS 60 0 rfl rfl (in_y (a := ((v.1 72) (v.1 0 112).toNatClampNeg).toInt) (b := 4200) rfl (om_c116324dbe c9) (om_907e1afc62 c9) rfl) dX13_obey_212 (fun H locs hP hD hS => ?_)
            have hP := cP_ (ma_117 ad N cI cZ cJ (wA v 0 112 ((v.1 0 112) + (1 : Int32))) (((v.1 72) (v.1 0 112).toNatClampNeg).toNatClampNeg) ((v.1 105) ((v.1 0 106) - (1 : Int32)).toNatClampNeg)) hP
            have hD := cD_ (ma_117 ad N cI cZ cJ (wA v 0 112 ((v.1 0 112) + (1 : Int32))) (((v.1 72) (v.1 0 112).toNatClampNeg).toNatClampNeg) ((v.1 105) ((v.1 0 106) - (1 : Int32)).toNatClampNeg)) hD
            refine lv_goto (tgt := 402) hx hb dX13_obey_213 (by decide) ?_
            refine lv_iconst (v := -1) hx hb dX13_obey_402 (by decide) ?_
            exact W.iret (v := (-1)) hx hb hr (fun t ht9 hW => ⟨⟨(-1), (wA (wA v 0 112 ((v.1 0 112) + (1 : Int32))) 117 (((v.1 72) (v.1 0 112).toNatClampNeg).toNatClampNeg) ((v.1 105) ((v.1 0 106) - (1 : Int32)).toNatClampNeg)), rfl, ⟨(FG.a (FG.f (FG.rf _) ((v.1 0 112) + (1 : Int32)) (by decide)) (((v.1 72) (v.1 0 112).toNatClampNeg).toNatClampNeg) ((v.1 105) ((v.1 0 106) - (1 : Int32)).toNatClampNeg) (by decide) (by decide)), (Or.inl ⟨by decide, MI.r4 (u := (wA (wA v 0 112 ((v.1 0 112) + (1 : Int32))) 117 (((v.1 72) (v.1 0 112).toNatClampNeg).toNatClampNeg) ((v.1 105) ((v.1 0 106) - (1 : Int32)).toNatClampNeg))) mi z30 (show ((v.1 0 112) + (1 : Int32)).toInt = (v.1 0 112).toInt + 1 from (om_5bccfc38cf z1)) (all8f (P := fun k9 => ((wA (wA v 0 112 ((v.1 0 112) + (1 : Int32))) 117 (((v.1 72) (v.1 0 112).toNatClampNeg).toNatClampNeg) ((v.1 105) ((v.1 0 106) - (1 : Int32)).toNatClampNeg))).1 0 k9 = v.1 0 k9) rfl rfl rfl rfl rfl rfl rfl rfl) (all11g (P := fun k9 => ((wA (wA v 0 112 ((v.1 0 112) + (1 : Int32))) 117 (((v.1 72) (v.1 0 112).toNatClampNeg).toNatClampNeg) ((v.1 105) ((v.1 0 106) - (1 : Int32)).toNatClampNeg))).1 k9 = v.1 k9) rfl rfl rfl rfl rfl rfl rfl rfl rfl rfl rfl) (show (v.1 0 106).toInt = (v.1 0 106).toInt from om_93d572ac38) (fun _ _ _ => rfl) (show 0 ≤ (v.1 0 119).toInt ∧ (v.1 0 119).toInt ≤ (v.1 0 119).toInt + 1 from (om_c2c1baedc6 nm9)) (show 0 ≤ (v.1 0 120).toInt ∧ (v.1 0 120).toInt ≤ (v.1 0 120).toInt + 1 from (om_9ca839a770 nm9))⟩)⟩, by rw [ht9]; exact hP, hD⟩, hS.F ht9⟩) hS.2.2 dX13_obey_403
          ·
            have z32 : ((v.1 71) (v.1 0 112).toNatClampNeg).toInt ≠ (4 : Int) := ne_z rfl (show (4 : Int32).toInt = (4 : Int) by decide) h29
            by_cases h33 : ((v.1 71) (v.1 0 112).toNatClampNeg) = 5
            · refine lv_tableIn (off := 185) (tgt := 216) hx hb dX13_obey_31 (by rw [h33]; decide) (by rw [h33]; decide) (by rw [h33]; decide) (by decide) ?_
              have z34 : ((v.1 71) (v.1 0 112).toNatClampNeg).toInt = (5 : Int) := eq_z rfl (show (5 : Int32).toInt = (5 : Int) by decide) h33
              have c9 : 0 ≤ ((v.1 72) (v.1 0 112).toNatClampNeg).toInt ∧ ((v.1 72) (v.1 0 112).toNatClampNeg).toInt < (v.1 0 75).toInt ∧ 1 ≤ (v.1 0 106).toInt ∧ 0 ≤ ((v.1 86) ((v.1 72) (v.1 0 112).toNatClampNeg).toNatClampNeg).toInt ∧ ((v.1 86) ((v.1 72) (v.1 0 112).toNatClampNeg).toNatClampNeg).toInt + ((v.1 85) ((v.1 72) (v.1 0 112).toNatClampNeg).toNatClampNeg).toInt ≤ 4096 := mi.c5 z34
              refine lv_aload_n hx hb dX13_obey_216 rfl (lv_at hl 2 rfl) ?_
              refine cu_i (rn_V (n := 0) (As := []) (rest := []) hx hb hml hown ht hKK hFx hP hD hS hA (c_m_pop l dC dI cI cB cZ cJ cR tb H.size ad N (wA v 0 112 ((v.1 0 112) + (1 : Int32)))  (show 1 ≤ (v.1 0 106).toInt ∧ (v.1 0 106).toInt ≤ 24000 from (om_ad449bd459 nm9 c9))) tw_335 tw_336 (by decide +kernel) rfl rfl ⟨Nat.le_of_ble_eq_true rfl, Nat.le_of_ble_eq_true rfl⟩ (List.range (mW ad N cI cZ cJ (wA v 0 112 ((v.1 0 112) + (1 : Int32)))).length) (rg_map _) (mW_nd _ _ _ _ _ _) rfl rfl rfl rfl hl.1 rfl (Nat.le_of_ble_eq_true rfl) dX13_obey_217 ⟨Nat.le_of_ble_eq_true rfl, Nat.le_of_ble_eq_true rfl⟩) hP hD hS hA (fun r37 u36 H locs hw35 hP hD hS => ?_)
              obtain ⟨rfl, rfl⟩ := hw35
              have z38 : ((v.1 0 106) - (1 : Int32)).toInt = ((v.1 0 106).toInt) - (1 : Int) := sub_z rfl (show (1 : Int32).toInt = (1 : Int) by decide) (om_935d9072e0 c9) (om_5ad56c0db6 nm9)
              have hP : va_P (dC, dI) vwCl (mW ad N cI cZ cJ (wA (wA v 0 112 ((v.1 0 112) + (1 : Int32))) 0 106 ((v.1 0 106) - (1 : Int32)))) H := hP
              have hD : va_D A (mW ad N cI cZ cJ (wA (wA v 0 112 ((v.1 0 112) + (1 : Int32))) 0 106 ((v.1 0 106) - (1 : Int32)))) := hD
              refine tp_i (y := ((v.1 105) ((v.1 0 106) - (1 : Int32)).toNatClampNeg)) (rfl) ?_
              refine W.widen (k := 0) (n := 0) (Nat.le_refl _) (Nat.le_refl _) ?_
              refine lv_istore_n (lv' := [(3, .int ((v.1 105) ((v.1 0 106) - (1 : Int32)).toNatClampNeg)), (2, .int ((v.1 72) (v.1 0 112).toNatClampNeg)), (1, .int ((v.1 71) (v.1 0 112).toNatClampNeg)), (0, .ref (ad 0))]) hx hb dX13_obey_220 rfl hl (by decide) rfl (fun ls hl => ?_)
              refine lv_iload_n hx hb dX13_obey_221 rfl (lv_at hl 0 rfl) ?_
              refine lv_if_lt (tgt := 235) hx hb dX13_obey_222 (by decide) (fun h39 => ?_) (fun h39 => ?_)
              · have z40 : ((v.1 105) ((v.1 0 106) - (1 : Int32)).toNatClampNeg).toInt < (0 : Int) := lt_z rfl (show (0 : Int32).toInt = (0 : Int) by decide) h39
                refine lv_iconst (v := 3) hx hb dX13_obey_235 (by decide) ?_
                exact W.iret (v := 3) hx hb hr (fun t ht9 hW => ⟨⟨3, (wA (wA v 0 112 ((v.1 0 112) + (1 : Int32))) 0 106 ((v.1 0 106) - (1 : Int32))), rfl, ⟨(FG.f (FG.f (FG.rf _) ((v.1 0 112) + (1 : Int32)) (by decide)) ((v.1 0 106) - (1 : Int32)) (by decide)), (Or.inr ⟨by decide, fun w9 => absurd w9 (by decide)⟩)⟩, by rw [ht9]; exact hP, hD⟩, hS.F ht9⟩) hS.2.2 dX13_obey_236
              · have z41 : (0 : Int) ≤ ((v.1 105) ((v.1 0 106) - (1 : Int32)).toNatClampNeg).toInt := nlt_z rfl (show (0 : Int32).toInt = (0 : Int) by decide) h39
                refine lv_iload_n hx hb dX13_obey_225 rfl (lv_at hl 0 rfl) ?_
                refine lv_aload_n hx hb dX13_obey_226 rfl (lv_at hl 3 rfl) ?_
                refine va_get (D := (dC, dI)) (ci := 16) (fs := mF ad (wA (wA v 0 112 ((v.1 0 112) + (1 : Int32))) 0 106 ((v.1 0 106) - (1 : Int32)))) (v := .ref (ad 85)) (C := RX13) (T := TX13) (N := 124) hx hb ht itX13 hown hK hP 0 rfl rfl 85 (by decide) (ht _ tw_267) (fun _ h9 => h9) rfl dX13_obey_227 ?_
                refine lv_iload_n hx hb dX13_obey_230 rfl (lv_at hl 1 rfl) ?_
                refine va_iald (D := (dC, dI)) (f := (v.1 85)) hx hb hK hP 45 0 rfl rfl (in_y (a := ((v.1 72) (v.1 0 112).toNatClampNeg).toInt) (b := 60) rfl (om_c2a9a78dd3 c9) (om_3cc8911099 zbg c9) rfl) dX13_obey_231 ?_
                refine lv_icmp_lt (tgt := 237) hx hb dX13_obey_232 (by decide) (fun h42 => ?_) (fun h42 => ?_)
                · have z43 : ((v.1 105) ((v.1 0 106) - (1 : Int32)).toNatClampNeg).toInt < ((v.1 85) ((v.1 72) (v.1 0 112).toNatClampNeg).toNatClampNeg).toInt := lt_z rfl rfl h42
                  refine lv_aload_n hx hb dX13_obey_237 rfl (lv_at hl 3 rfl) ?_
                  refine lv_aload_n hx hb dX13_obey_238 rfl (lv_at hl 3 rfl) ?_
                  refine va_get (D := (dC, dI)) (ci := 16) (fs := mF ad (wA (wA v 0 112 ((v.1 0 112) + (1 : Int32))) 0 106 ((v.1 0 106) - (1 : Int32)))) (v := .ref (ad 86)) (C := RX13) (T := TX13) (N := 124) hx hb ht itX13 hown hK hP 0 rfl rfl 86 (by decide) (ht _ tw_266) (fun _ h9 => h9) rfl dX13_obey_239 ?_
                  refine lv_iload_n hx hb dX13_obey_242 rfl (lv_at hl 1 rfl) ?_
                  refine va_iald (D := (dC, dI)) (f := (v.1 86)) hx hb hK hP 46 0 rfl rfl (in_y (a := ((v.1 72) (v.1 0 112).toNatClampNeg).toInt) (b := 60) rfl (om_c2a9a78dd3 c9) (om_3cc8911099 zbg c9) rfl) dX13_obey_243 ?_
                  refine lv_iload_n hx hb dX13_obey_244 rfl (lv_at hl 0 rfl) ?_
                  refine lv_iadd hx hb dX13_obey_245 ?_
                  have z44 : (((v.1 86) ((v.1 72) (v.1 0 112).toNatClampNeg).toNatClampNeg) + ((v.1 105) ((v.1 0 106) - (1 : Int32)).toNatClampNeg)).toInt = (((v.1 86) ((v.1 72) (v.1 0 112).toNatClampNeg).toNatClampNeg).toInt) + (((v.1 105) ((v.1 0 106) - (1 : Int32)).toNatClampNeg).toInt) := add_z rfl rfl (om_07605e62a7 c9 z41) (om_d11d48b58b c9 z43)
                  refine cu_v (rn_V (n := 1) (As := [.int (((v.1 86) ((v.1 72) (v.1 0 112).toNatClampNeg).toNatClampNeg) + ((v.1 105) ((v.1 0 106) - (1 : Int32)).toNatClampNeg))]) (rest := []) hx hb hml hown ht hKK hFx hP hD hS hA (c_m_push l dC dI cI cB cZ cJ cR tb H.size ad N (wA (wA v 0 112 ((v.1 0 112) + (1 : Int32))) 0 106 ((v.1 0 106) - (1 : Int32))) (((v.1 86) ((v.1 72) (v.1 0 112).toNatClampNeg).toNatClampNeg) + ((v.1 105) ((v.1 0 106) - (1 : Int32)).toNatClampNeg)) (show 0 ≤ ((v.1 0 106) - (1 : Int32)).toInt ∧ ((v.1 0 106) - (1 : Int32)).toInt < 24000 from (om_3b46ec09e4 nm9 c9 z38))) tw_332 tw_333 (by decide +kernel) rfl rfl ⟨Nat.le_of_ble_eq_true rfl, Nat.le_of_ble_eq_true rfl⟩ (List.range (mW ad N cI cZ cJ (wA (wA v 0 112 ((v.1 0 112) + (1 : Int32))) 0 106 ((v.1 0 106) - (1 : Int32)))).length) (rg_map _) (mW_nd _ _ _ _ _ _) rfl rfl rfl rfl hl.1 rfl (Nat.le_of_ble_eq_true rfl) dX13_obey_246 ⟨Nat.le_of_ble_eq_true rfl, Nat.le_of_ble_eq_true rfl⟩) hP hD hS hA (fun u46 H locs hw45 hP hD hS => ?_)
                  obtain rfl := hw45
                  have z48 : (((v.1 0 106) - (1 : Int32)) + (1 : Int32)).toInt = (((v.1 0 106).toInt) - (1 : Int)) + (1 : Int) := add_z z38 (show (1 : Int32).toInt = (1 : Int) by decide) (om_13d86051d9 c9) (om_163065fe51 nm9)
                  have hP : va_P (dC, dI) vwCl (mW ad N cI cZ cJ (wA (wA (wA (wA v 0 112 ((v.1 0 112) + (1 : Int32))) 0 106 ((v.1 0 106) - (1 : Int32))) 105 (((v.1 0 106) - (1 : Int32)).toNatClampNeg) (((v.1 86) ((v.1 72) (v.1 0 112).toNatClampNeg).toNatClampNeg) + ((v.1 105) ((v.1 0 106) - (1 : Int32)).toNatClampNeg))) 0 106 (((v.1 0 106) - (1 : Int32)) + (1 : Int32)))) H := hP
                  have hD : va_D A (mW ad N cI cZ cJ (wA (wA (wA (wA v 0 112 ((v.1 0 112) + (1 : Int32))) 0 106 ((v.1 0 106) - (1 : Int32))) 105 (((v.1 0 106) - (1 : Int32)).toNatClampNeg) (((v.1 86) ((v.1 72) (v.1 0 112).toNatClampNeg).toNatClampNeg) + ((v.1 105) ((v.1 0 106) - (1 : Int32)).toNatClampNeg))) 0 106 (((v.1 0 106) - (1 : Int32)) + (1 : Int32)))) := hD
                  refine W.widen (k := 0) (n := 0) (Nat.le_refl _) (Nat.le_refl _) ?_
                  refine lv_goto (tgt := 402) hx hb dX13_obey_249 (by decide) ?_
                  refine lv_iconst (v := -1) hx hb dX13_obey_402 (by decide) ?_
                  exact W.iret (v := (-1)) hx hb hr (fun t ht9 hW => ⟨⟨(-1), (wA (wA (wA (wA v 0 112 ((v.1 0 112) + (1 : Int32))) 0 106 ((v.1 0 106) - (1 : Int32))) 105 (((v.1 0 106) - (1 : Int32)).toNatClampNeg) (((v.1 86) ((v.1 72) (v.1 0 112).toNatClampNeg).toNatClampNeg) + ((v.1 105) ((v.1 0 106) - (1 : Int32)).toNatClampNeg))) 0 106 (((v.1 0 106) - (1 : Int32)) + (1 : Int32))), rfl, ⟨(FG.f (FG.a (FG.f (FG.f (FG.rf _) ((v.1 0 112) + (1 : Int32)) (by decide)) ((v.1 0 106) - (1 : Int32)) (by decide)) (((v.1 0 106) - (1 : Int32)).toNatClampNeg) (((v.1 86) ((v.1 72) (v.1 0 112).toNatClampNeg).toNatClampNeg) + ((v.1 105) ((v.1 0 106) - (1 : Int32)).toNatClampNeg)) (by decide) (by decide)) (((v.1 0 106) - (1 : Int32)) + (1 : Int32)) (by decide)), (Or.inl ⟨by decide, MI.plc (u := (wA (wA (wA (wA v 0 112 ((v.1 0 112) + (1 : Int32))) 0 106 ((v.1 0 106) - (1 : Int32))) 105 (((v.1 0 106) - (1 : Int32)).toNatClampNeg) (((v.1 86) ((v.1 72) (v.1 0 112).toNatClampNeg).toNatClampNeg) + ((v.1 105) ((v.1 0 106) - (1 : Int32)).toNatClampNeg))) 0 106 (((v.1 0 106) - (1 : Int32)) + (1 : Int32)))) mi z34 (show ((v.1 0 112) + (1 : Int32)).toInt = (v.1 0 112).toInt + 1 from (om_5bccfc38cf z1)) (all8f (P := fun k9 => ((wA (wA (wA (wA v 0 112 ((v.1 0 112) + (1 : Int32))) 0 106 ((v.1 0 106) - (1 : Int32))) 105 (((v.1 0 106) - (1 : Int32)).toNatClampNeg) (((v.1 86) ((v.1 72) (v.1 0 112).toNatClampNeg).toNatClampNeg) + ((v.1 105) ((v.1 0 106) - (1 : Int32)).toNatClampNeg))) 0 106 (((v.1 0 106) - (1 : Int32)) + (1 : Int32)))).1 0 k9 = v.1 0 k9) rfl rfl rfl rfl rfl rfl rfl rfl) (all11g (P := fun k9 => ((wA (wA (wA (wA v 0 112 ((v.1 0 112) + (1 : Int32))) 0 106 ((v.1 0 106) - (1 : Int32))) 105 (((v.1 0 106) - (1 : Int32)).toNatClampNeg) (((v.1 86) ((v.1 72) (v.1 0 112).toNatClampNeg).toNatClampNeg) + ((v.1 105) ((v.1 0 106) - (1 : Int32)).toNatClampNeg))) 0 106 (((v.1 0 106) - (1 : Int32)) + (1 : Int32)))).1 k9 = v.1 k9) rfl rfl rfl rfl rfl rfl rfl rfl rfl rfl rfl) (show (((v.1 0 106) - (1 : Int32)) + (1 : Int32)).toInt = (v.1 0 106).toInt from (om_e2d5010e12 z48)) (fun (j9 : Nat) h9 => pk_un3 (x := ((v.1 0 106) - (1 : Int32))) rfl (om_6702ee967f c9 z38) (om_8c41dc5a15 z38 h9)) (x := ((v.1 0 106) - (1 : Int32))) (y := (((v.1 86) ((v.1 72) (v.1 0 112).toNatClampNeg).toNatClampNeg) + ((v.1 105) ((v.1 0 106) - (1 : Int32)).toNatClampNeg))) (show ((v.1 0 106) - (1 : Int32)).toInt = (v.1 0 106).toInt - 1 from (om_4b62747e8a z38)) pk_us (show 0 ≤ (((v.1 86) ((v.1 72) (v.1 0 112).toNatClampNeg).toNatClampNeg) + ((v.1 105) ((v.1 0 106) - (1 : Int32)).toNatClampNeg)).toInt from (om_1a38589fdf c9 z41 z44)) (show (((v.1 86) ((v.1 72) (v.1 0 112).toNatClampNeg).toNatClampNeg) + ((v.1 105) ((v.1 0 106) - (1 : Int32)).toNatClampNeg)).toInt < ((v.1 86) ((v.1 72) (v.1 0 112).toNatClampNeg).toNatClampNeg).toInt + ((v.1 85) ((v.1 72) (v.1 0 112).toNatClampNeg).toNatClampNeg).toInt from (om_05ad0a96db z43 z44)) (show 0 ≤ (v.1 0 119).toInt ∧ (v.1 0 119).toInt ≤ (v.1 0 119).toInt + 1 from (om_c2c1baedc6 nm9)) (show 0 ≤ (v.1 0 120).toInt ∧ (v.1 0 120).toInt ≤ (v.1 0 120).toInt + 1 from (om_9ca839a770 nm9))⟩)⟩, by rw [ht9]; exact hP, hD⟩, hS.F ht9⟩) hS.2.2 dX13_obey_403
                · have z49 : ((v.1 85) ((v.1 72) (v.1 0 112).toNatClampNeg).toNatClampNeg).toInt ≤ ((v.1 105) ((v.1 0 106) - (1 : Int32)).toNatClampNeg).toInt := nlt_z rfl rfl h42
                  refine lv_iconst (v := 3) hx hb dX13_obey_235 (by decide) ?_
                  exact W.iret (v := 3) hx hb hr (fun t ht9 hW => ⟨⟨3, (wA (wA v 0 112 ((v.1 0 112) + (1 : Int32))) 0 106 ((v.1 0 106) - (1 : Int32))), rfl, ⟨(FG.f (FG.f (FG.rf _) ((v.1 0 112) + (1 : Int32)) (by decide)) ((v.1 0 106) - (1 : Int32)) (by decide)), (Or.inr ⟨by decide, fun w9 => absurd w9 (by decide)⟩)⟩, by rw [ht9]; exact hP, hD⟩, hS.F ht9⟩) hS.2.2 dX13_obey_236
            ·
              have z50 : ((v.1 71) (v.1 0 112).toNatClampNeg).toInt ≠ (5 : Int) := ne_z rfl (show (5 : Int32).toInt = (5 : Int) by decide) h33
              by_cases h51 : ((v.1 71) (v.1 0 112).toNatClampNeg) = 6
              · refine lv_tableIn (off := 221) (tgt := 252) hx hb dX13_obey_31 (by rw [h51]; decide) (by rw [h51]; decide) (by rw [h51]; decide) (by decide) ?_
                have z52 : ((v.1 71) (v.1 0 112).toNatClampNeg).toInt = (6 : Int) := eq_z rfl (show (6 : Int32).toInt = (6 : Int) by decide) h51
                have z53 : ((v.1 0 106) - (1 : Int32)).toInt = ((v.1 0 106).toInt) - (1 : Int) := sub_z rfl (show (1 : Int32).toInt = (1 : Int) by decide) (om_4f36f0352b nm9) (om_5ad56c0db6 nm9)
                have c9 : 1 ≤ (v.1 0 106).toInt ∧ 0 ≤ ((v.1 105) ((v.1 0 106) - (1 : Int32)).toNatClampNeg).toInt ∧ ((v.1 105) ((v.1 0 106) - (1 : Int32)).toNatClampNeg).toInt < 4096 := mi.c6 (x := ((v.1 0 106) - (1 : Int32))) (Or.inl z52) (om_4b62747e8a z53)
                refine lv_aload_n hx hb dX13_obey_252 rfl (lv_at hl 2 rfl) ?_
                refine lv_aload_n hx hb dX13_obey_253 rfl (lv_at hl 2 rfl) ?_
                refine va_get (D := (dC, dI)) (ci := 16) (fs := mF ad (wA v 0 112 ((v.1 0 112) + (1 : Int32)))) (v := .ref (ad 117)) (C := RX13) (T := TX13) (N := 124) hx hb ht itX13 hown hK hP 0 rfl rfl 117 (by decide) (ht _ tw_347) (fun _ h9 => h9) rfl dX13_obey_254 ?_
                refine lv_aload_n hx hb dX13_obey_257 rfl (lv_at hl 2 rfl) ?_
                refine cu_i (rn_V (n := 0) (As := []) (rest := [.ref (ad 117), .ref (ad 0)]) hx hb hml hown ht hKK hFx hP hD hS hA (c_m_pop l dC dI cI cB cZ cJ cR tb H.size ad N (wA v 0 112 ((v.1 0 112) + (1 : Int32)))  (show 1 ≤ (v.1 0 106).toInt ∧ (v.1 0 106).toInt ≤ 24000 from (om_4d4252996f nm9 c9))) tw_335 tw_336 (by decide +kernel) rfl rfl ⟨Nat.le_of_ble_eq_true rfl, Nat.le_of_ble_eq_true rfl⟩ (List.range (mW ad N cI cZ cJ (wA v 0 112 ((v.1 0 112) + (1 : Int32)))).length) (rg_map _) (mW_nd _ _ _ _ _ _) rfl rfl rfl rfl hl.1 rfl (Nat.le_of_ble_eq_true rfl) dX13_obey_258 ⟨Nat.le_of_ble_eq_true rfl, Nat.le_of_ble_eq_true rfl⟩) hP hD hS hA (fun r56 u55 H locs hw54 hP hD hS => ?_)
                obtain ⟨rfl, rfl⟩ := hw54
                have z57 : ((v.1 0 106) - (1 : Int32)).toInt = ((v.1 0 106).toInt) - (1 : Int) := sub_z rfl (show (1 : Int32).toInt = (1 : Int) by decide) (om_7e076d371e c9) (om_5ad56c0db6 nm9)
                have hP : va_P (dC, dI) vwCl (mW ad N cI cZ cJ (wA (wA v 0 112 ((v.1 0 112) + (1 : Int32))) 0 106 ((v.1 0 106) - (1 : Int32)))) H := hP
                have hD : va_D A (mW ad N cI cZ cJ (wA (wA v 0 112 ((v.1 0 112) + (1 : Int32))) 0 106 ((v.1 0 106) - (1 : Int32)))) := hD
                refine tp_i (y := ((v.1 105) ((v.1 0 106) - (1 : Int32)).toNatClampNeg)) (rfl) ?_
                refine W.widen (k := 0) (n := 0) (Nat.le_refl _) (Nat.le_refl _) ?_
                refine va_iald (D := (dC, dI)) (f := (v.1 117)) hx hb hK hP 60 0 rfl rfl (in_y (a := ((v.1 105) ((v.1 0 106) - (1 : Int32)).toNatClampNeg).toInt) (b := 4200) rfl (om_c04502c54d c9) (om_64bffb1284 c9) rfl) dX13_obey_261 ?_
                refine cu_v (rn_V (n := 1) (As := [.int ((v.1 117) ((v.1 105) ((v.1 0 106) - (1 : Int32)).toNatClampNeg).toNatClampNeg)]) (rest := []) hx hb hml hown ht hKK hFx hP hD hS hA (c_m_push l dC dI cI cB cZ cJ cR tb H.size ad N (wA (wA v 0 112 ((v.1 0 112) + (1 : Int32))) 0 106 ((v.1 0 106) - (1 : Int32))) ((v.1 117) ((v.1 105) ((v.1 0 106) - (1 : Int32)).toNatClampNeg).toNatClampNeg) (show 0 ≤ ((v.1 0 106) - (1 : Int32)).toInt ∧ ((v.1 0 106) - (1 : Int32)).toInt < 24000 from (om_7120d30b87 nm9 z53 c9))) tw_332 tw_333 (by decide +kernel) rfl rfl ⟨Nat.le_of_ble_eq_true rfl, Nat.le_of_ble_eq_true rfl⟩ (List.range (mW ad N cI cZ cJ (wA (wA v 0 112 ((v.1 0 112) + (1 : Int32))) 0 106 ((v.1 0 106) - (1 : Int32)))).length) (rg_map _) (mW_nd _ _ _ _ _ _) rfl rfl rfl rfl hl.1 rfl (Nat.le_of_ble_eq_true rfl) dX13_obey_262 ⟨Nat.le_of_ble_eq_true rfl, Nat.le_of_ble_eq_true rfl⟩) hP hD hS hA (fun u59 H locs hw58 hP hD hS => ?_)
                obtain rfl := hw58
                have z61 : (((v.1 0 106) - (1 : Int32)) + (1 : Int32)).toInt = (((v.1 0 106).toInt) - (1 : Int)) + (1 : Int) := add_z z57 (show (1 : Int32).toInt = (1 : Int) by decide) (om_edff7651cf c9) (om_163065fe51 nm9)
                have hP : va_P (dC, dI) vwCl (mW ad N cI cZ cJ (wA (wA (wA (wA v 0 112 ((v.1 0 112) + (1 : Int32))) 0 106 ((v.1 0 106) - (1 : Int32))) 105 (((v.1 0 106) - (1 : Int32)).toNatClampNeg) ((v.1 117) ((v.1 105) ((v.1 0 106) - (1 : Int32)).toNatClampNeg).toNatClampNeg)) 0 106 (((v.1 0 106) - (1 : Int32)) + (1 : Int32)))) H := hP
                have hD : va_D A (mW ad N cI cZ cJ (wA (wA (wA (wA v 0 112 ((v.1 0 112) + (1 : Int32))) 0 106 ((v.1 0 106) - (1 : Int32))) 105 (((v.1 0 106) - (1 : Int32)).toNatClampNeg) ((v.1 117) ((v.1 105) ((v.1 0 106) - (1 : Int32)).toNatClampNeg).toNatClampNeg)) 0 106 (((v.1 0 106) - (1 : Int32)) + (1 : Int32)))) := hD
                refine W.widen (k := 0) (n := 0) (Nat.le_refl _) (Nat.le_refl _) ?_
                refine lv_goto (tgt := 402) hx hb dX13_obey_265 (by decide) ?_
                refine lv_iconst (v := -1) hx hb dX13_obey_402 (by decide) ?_
                exact W.iret (v := (-1)) hx hb hr (fun t ht9 hW => ⟨⟨(-1), (wA (wA (wA (wA v 0 112 ((v.1 0 112) + (1 : Int32))) 0 106 ((v.1 0 106) - (1 : Int32))) 105 (((v.1 0 106) - (1 : Int32)).toNatClampNeg) ((v.1 117) ((v.1 105) ((v.1 0 106) - (1 : Int32)).toNatClampNeg).toNatClampNeg)) 0 106 (((v.1 0 106) - (1 : Int32)) + (1 : Int32))), rfl, ⟨(FG.f (FG.a (FG.f (FG.f (FG.rf _) ((v.1 0 112) + (1 : Int32)) (by decide)) ((v.1 0 106) - (1 : Int32)) (by decide)) (((v.1 0 106) - (1 : Int32)).toNatClampNeg) ((v.1 117) ((v.1 105) ((v.1 0 106) - (1 : Int32)).toNatClampNeg).toNatClampNeg) (by decide) (by decide)) (((v.1 0 106) - (1 : Int32)) + (1 : Int32)) (by decide)), (Or.inl ⟨by decide, MI.r6 (u := (wA (wA (wA (wA v 0 112 ((v.1 0 112) + (1 : Int32))) 0 106 ((v.1 0 106) - (1 : Int32))) 105 (((v.1 0 106) - (1 : Int32)).toNatClampNeg) ((v.1 117) ((v.1 105) ((v.1 0 106) - (1 : Int32)).toNatClampNeg).toNatClampNeg)) 0 106 (((v.1 0 106) - (1 : Int32)) + (1 : Int32)))) mi z52 (show ((v.1 0 112) + (1 : Int32)).toInt = (v.1 0 112).toInt + 1 from (om_5bccfc38cf z1)) (all8f (P := fun k9 => ((wA (wA (wA (wA v 0 112 ((v.1 0 112) + (1 : Int32))) 0 106 ((v.1 0 106) - (1 : Int32))) 105 (((v.1 0 106) - (1 : Int32)).toNatClampNeg) ((v.1 117) ((v.1 105) ((v.1 0 106) - (1 : Int32)).toNatClampNeg).toNatClampNeg)) 0 106 (((v.1 0 106) - (1 : Int32)) + (1 : Int32)))).1 0 k9 = v.1 0 k9) rfl rfl rfl rfl rfl rfl rfl rfl) (all11g (P := fun k9 => ((wA (wA (wA (wA v 0 112 ((v.1 0 112) + (1 : Int32))) 0 106 ((v.1 0 106) - (1 : Int32))) 105 (((v.1 0 106) - (1 : Int32)).toNatClampNeg) ((v.1 117) ((v.1 105) ((v.1 0 106) - (1 : Int32)).toNatClampNeg).toNatClampNeg)) 0 106 (((v.1 0 106) - (1 : Int32)) + (1 : Int32)))).1 k9 = v.1 k9) rfl rfl rfl rfl rfl rfl rfl rfl rfl rfl rfl) (show (((v.1 0 106) - (1 : Int32)) + (1 : Int32)).toInt = (v.1 0 106).toInt from (om_e2d5010e12 z61)) (fun (j9 : Nat) h9 => pk_un3 (x := ((v.1 0 106) - (1 : Int32))) rfl (om_723ead6ed3 z53 c9) (om_8c41dc5a15 z53 h9)) (show 0 ≤ (v.1 0 119).toInt ∧ (v.1 0 119).toInt ≤ (v.1 0 119).toInt + 1 from (om_c2c1baedc6 nm9)) (show 0 ≤ (v.1 0 120).toInt ∧ (v.1 0 120).toInt ≤ (v.1 0 120).toInt + 1 from (om_9ca839a770 nm9))⟩)⟩, by rw [ht9]; exact hP, hD⟩, hS.F ht9⟩) hS.2.2 dX13_obey_403
              ·
                have z62 : ((v.1 71) (v.1 0 112).toNatClampNeg).toInt ≠ (6 : Int) := ne_z rfl (show (6 : Int32).toInt = (6 : Int) by decide) h51
                by_cases h63 : ((v.1 71) (v.1 0 112).toNatClampNeg) = 7
                · refine lv_tableIn (off := 237) (tgt := 268) hx hb dX13_obey_31 (by rw [h63]; decide) (by rw [h63]; decide) (by rw [h63]; decide) (by decide) ?_
                  have z64 : ((v.1 71) (v.1 0 112).toNatClampNeg).toInt = (7 : Int) := eq_z rfl (show (7 : Int32).toInt = (7 : Int) by decide) h63
                  have z65 : ((v.1 0 106) - (1 : Int32)).toInt = ((v.1 0 106).toInt) - (1 : Int) := sub_z rfl (show (1 : Int32).toInt = (1 : Int) by decide) (om_4f36f0352b nm9) (om_5ad56c0db6 nm9)
                  have c9 : 1 ≤ (v.1 0 106).toInt ∧ 0 ≤ ((v.1 105) ((v.1 0 106) - (1 : Int32)).toNatClampNeg).toInt ∧ ((v.1 105) ((v.1 0 106) - (1 : Int32)).toNatClampNeg).toInt < 4096 := mi.c6 (x := ((v.1 0 106) - (1 : Int32))) (Or.inr z64) (om_4b62747e8a z65)
                  refine lv_aload_n hx hb dX13_obey_268 rfl (lv_at hl 2 rfl) ?_
                  refine lv_aload_n hx hb dX13_obey_269 rfl (lv_at hl 2 rfl) ?_
                  refine va_get (D := (dC, dI)) (ci := 16) (fs := mF ad (wA v 0 112 ((v.1 0 112) + (1 : Int32)))) (v := .ref (ad 117)) (C := RX13) (T := TX13) (N := 124) hx hb ht itX13 hown hK hP 0 rfl rfl 117 (by decide) (ht _ tw_347) (fun _ h9 => h9) rfl dX13_obey_270 ?_
                  refine lv_aload_n hx hb dX13_obey_273 rfl (lv_at hl 2 rfl) ?_
                  refine va_get (D := (dC, dI)) (ci := 16) (fs := mF ad (wA v 0 112 ((v.1 0 112) + (1 : Int32)))) (v := .ref (ad 105)) (C := RX13) (T := TX13) (N := 124) hx hb ht itX13 hown hK hP 0 rfl rfl 105 (by decide) (ht _ tw_314) (fun _ h9 => h9) rfl dX13_obey_274 ?_
                  refine lv_aload_n hx hb dX13_obey_277 rfl (lv_at hl 2 rfl) ?_
                  refine va_get (D := (dC, dI)) (ci := 16) (fs := mF ad (wA v 0 112 ((v.1 0 112) + (1 : Int32)))) (v := .int (v.1 0 106)) (C := RX13) (T := TX13) (N := 124) hx hb ht itX13 hown hK hP 0 rfl rfl 106 (by decide) (ht _ tw_315) (fun _ h9 => h9) rfl dX13_obey_278 ?_
                  refine lv_iconst (v := 1) hx hb dX13_obey_281 (by decide) ?_
                  refine lv_isub hx hb dX13_obey_282 ?_
                  have z66 : ((v.1 0 106) - (1 : Int32)).toInt = ((v.1 0 106).toInt) - (1 : Int) := sub_z rfl (show (1 : Int32).toInt = (1 : Int) by decide) (om_7e076d371e c9) (om_5ad56c0db6 nm9)
                  refine va_iald (D := (dC, dI)) (f := (v.1 105)) hx hb hK hP 56 0 rfl rfl (in_y (a := (((v.1 0 106).toInt) - (1 : Int))) (b := 24000) z66 (om_7b65223451 c9) (om_c9424289d8 nm9) rfl) dX13_obey_283 ?_
                  refine va_iald (D := (dC, dI)) (f := (v.1 117)) hx hb hK hP 60 0 rfl rfl (in_y (a := ((v.1 105) ((v.1 0 106) - (1 : Int32)).toNatClampNeg).toInt) (b := 4200) rfl (om_c04502c54d c9) (om_64bffb1284 c9) rfl) dX13_obey_284 ?_
                  refine cu_v (rn_V (n := 1) (As := [.int ((v.1 117) ((v.1 105) ((v.1 0 106) - (1 : Int32)).toNatClampNeg).toNatClampNeg)]) (rest := []) hx hb hml hown ht hKK hFx hP hD hS hA (c_m_push l dC dI cI cB cZ cJ cR tb H.size ad N (wA v 0 112 ((v.1 0 112) + (1 : Int32))) ((v.1 117) ((v.1 105) ((v.1 0 106) - (1 : Int32)).toNatClampNeg).toNatClampNeg) (show 0 ≤ (v.1 0 106).toInt ∧ (v.1 0 106).toInt < 24000 from (om_9465718a88 nm9 c9))) tw_332 tw_333 (by decide +kernel) rfl rfl ⟨Nat.le_of_ble_eq_true rfl, Nat.le_of_ble_eq_true rfl⟩ (List.range (mW ad N cI cZ cJ (wA v 0 112 ((v.1 0 112) + (1 : Int32)))).length) (rg_map _) (mW_nd _ _ _ _ _ _) rfl rfl rfl rfl hl.1 rfl (Nat.le_of_ble_eq_true rfl) dX13_obey_285 ⟨Nat.le_of_ble_eq_true rfl, Nat.le_of_ble_eq_true rfl⟩) hP hD hS hA (fun u68 H locs hw67 hP hD hS => ?_)
                  obtain rfl := hw67
                  have z70 : ((v.1 0 106) + (1 : Int32)).toInt = ((v.1 0 106).toInt) + (1 : Int) := add_z rfl (show (1 : Int32).toInt = (1 : Int) by decide) (om_740a9eaded c9) (om_feb99406a1 nm9)
                  have hP : va_P (dC, dI) vwCl (mW ad N cI cZ cJ (wA (wA (wA v 0 112 ((v.1 0 112) + (1 : Int32))) 105 ((v.1 0 106).toNatClampNeg) ((v.1 117) ((v.1 105) ((v.1 0 106) - (1 : Int32)).toNatClampNeg).toNatClampNeg)) 0 106 ((v.1 0 106) + (1 : Int32)))) H := hP
                  have hD : va_D A (mW ad N cI cZ cJ (wA (wA (wA v 0 112 ((v.1 0 112) + (1 : Int32))) 105 ((v.1 0 106).toNatClampNeg) ((v.1 117) ((v.1 105) ((v.1 0 106) - (1 : Int32)).toNatClampNeg).toNatClampNeg)) 0 106 ((v.1 0 106) + (1 : Int32)))) := hD
                  refine W.widen (k := 0) (n := 0) (Nat.le_refl _) (Nat.le_refl _) ?_
                  refine lv_goto (tgt := 402) hx hb dX13_obey_288 (by decide) ?_
                  refine lv_iconst (v := -1) hx hb dX13_obey_402 (by decide) ?_
                  exact W.iret (v := (-1)) hx hb hr (fun t ht9 hW => ⟨⟨(-1), (wA (wA (wA v 0 112 ((v.1 0 112) + (1 : Int32))) 105 ((v.1 0 106).toNatClampNeg) ((v.1 117) ((v.1 105) ((v.1 0 106) - (1 : Int32)).toNatClampNeg).toNatClampNeg)) 0 106 ((v.1 0 106) + (1 : Int32))), rfl, ⟨(FG.f (FG.a (FG.f (FG.rf _) ((v.1 0 112) + (1 : Int32)) (by decide)) ((v.1 0 106).toNatClampNeg) ((v.1 117) ((v.1 105) ((v.1 0 106) - (1 : Int32)).toNatClampNeg).toNatClampNeg) (by decide) (by decide)) ((v.1 0 106) + (1 : Int32)) (by decide)), (Or.inl ⟨by decide, MI.kat (u := (wA (wA (wA v 0 112 ((v.1 0 112) + (1 : Int32))) 105 ((v.1 0 106).toNatClampNeg) ((v.1 117) ((v.1 105) ((v.1 0 106) - (1 : Int32)).toNatClampNeg).toNatClampNeg)) 0 106 ((v.1 0 106) + (1 : Int32)))) mi z64 (show ((v.1 0 112) + (1 : Int32)).toInt = (v.1 0 112).toInt + 1 from (om_5bccfc38cf z1)) (all8f (P := fun k9 => ((wA (wA (wA v 0 112 ((v.1 0 112) + (1 : Int32))) 105 ((v.1 0 106).toNatClampNeg) ((v.1 117) ((v.1 105) ((v.1 0 106) - (1 : Int32)).toNatClampNeg).toNatClampNeg)) 0 106 ((v.1 0 106) + (1 : Int32)))).1 0 k9 = v.1 0 k9) rfl rfl rfl rfl rfl rfl rfl rfl) (all11g (P := fun k9 => ((wA (wA (wA v 0 112 ((v.1 0 112) + (1 : Int32))) 105 ((v.1 0 106).toNatClampNeg) ((v.1 117) ((v.1 105) ((v.1 0 106) - (1 : Int32)).toNatClampNeg).toNatClampNeg)) 0 106 ((v.1 0 106) + (1 : Int32)))).1 k9 = v.1 k9) rfl rfl rfl rfl rfl rfl rfl rfl rfl rfl rfl) (show ((v.1 0 106) + (1 : Int32)).toInt = (v.1 0 106).toInt + 1 from (om_5bccfc38cf z70)) (fun (j9 : Nat) h9 => pk_un3 (x := (v.1 0 106)) rfl (om_0be1320ad1 c9) (om_4fe904e9bf h9)) (show 0 ≤ (v.1 0 119).toInt ∧ (v.1 0 119).toInt ≤ (v.1 0 119).toInt + 1 from (om_c2c1baedc6 nm9)) (show 0 ≤ (v.1 0 120).toInt ∧ (v.1 0 120).toInt ≤ (v.1 0 120).toInt + 1 from (om_9ca839a770 nm9))⟩)⟩, by rw [ht9]; exact hP, hD⟩, hS.F ht9⟩) hS.2.2 dX13_obey_403
                ·
                  have z71 : ((v.1 71) (v.1 0 112).toNatClampNeg).toInt ≠ (7 : Int) := ne_z rfl (show (7 : Int32).toInt = (7 : Int) by decide) h63
                  by_cases h72 : ((v.1 71) (v.1 0 112).toNatClampNeg) = 8
                  · refine lv_tableIn (off := 260) (tgt := 291) hx hb dX13_obey_31 (by rw [h72]; decide) (by rw [h72]; decide) (by rw [h72]; decide) (by decide) ?_
                    have z73 : ((v.1 71) (v.1 0 112).toNatClampNeg).toInt = (8 : Int) := eq_z rfl (show (8 : Int32).toInt = (8 : Int) by decide) h72
                    have z74 : ((v.1 0 106) - (1 : Int32)).toInt = ((v.1 0 106).toInt) - (1 : Int) := sub_z rfl (show (1 : Int32).toInt = (1 : Int) by decide) (om_4f36f0352b nm9) (om_5ad56c0db6 nm9)
                    have z75 : (((v.1 0 106) - (1 : Int32)) - (1 : Int32)).toInt = (((v.1 0 106).toInt) - (1 : Int)) - (1 : Int) := sub_z z74 (show (1 : Int32).toInt = (1 : Int) by decide) (om_894a1c4ea6 nm9) (om_85bb228797 nm9)
                    have c9 : 2 ≤ (v.1 0 106).toInt ∧ 0 ≤ ((v.1 105) (((v.1 0 106) - (1 : Int32)) - (1 : Int32)).toNatClampNeg).toInt ∧ ((v.1 105) (((v.1 0 106) - (1 : Int32)) - (1 : Int32)).toNatClampNeg).toInt < 4096 := mi.c8 (x := (((v.1 0 106) - (1 : Int32)) - (1 : Int32))) z73 (om_39e624440d z75)
                    refine lv_aload_n hx hb dX13_obey_291 rfl (lv_at hl 2 rfl) ?_
                    refine cu_i (rn_V (n := 0) (As := []) (rest := []) hx hb hml hown ht hKK hFx hP hD hS hA (c_m_pop l dC dI cI cB cZ cJ cR tb H.size ad N (wA v 0 112 ((v.1 0 112) + (1 : Int32)))  (show 1 ≤ (v.1 0 106).toInt ∧ (v.1 0 106).toInt ≤ 24000 from (om_e1558ef1b1 nm9 c9))) tw_335 tw_336 (by decide +kernel) rfl rfl ⟨Nat.le_of_ble_eq_true rfl, Nat.le_of_ble_eq_true rfl⟩ (List.range (mW ad N cI cZ cJ (wA v 0 112 ((v.1 0 112) + (1 : Int32)))).length) (rg_map _) (mW_nd _ _ _ _ _ _) rfl rfl rfl rfl hl.1 rfl (Nat.le_of_ble_eq_true rfl) dX13_obey_292 ⟨Nat.le_of_ble_eq_true rfl, Nat.le_of_ble_eq_true rfl⟩) hP hD hS hA (fun r78 u77 H locs hw76 hP hD hS => ?_)
                    obtain ⟨rfl, rfl⟩ := hw76
                    have z79 : ((v.1 0 106) - (1 : Int32)).toInt = ((v.1 0 106).toInt) - (1 : Int) := sub_z rfl (show (1 : Int32).toInt = (1 : Int) by decide) (om_9b979d9faf c9) (om_5ad56c0db6 nm9)
                    have hP : va_P (dC, dI) vwCl (mW ad N cI cZ cJ (wA (wA v 0 112 ((v.1 0 112) + (1 : Int32))) 0 106 ((v.1 0 106) - (1 : Int32)))) H := hP
                    have hD : va_D A (mW ad N cI cZ cJ (wA (wA v 0 112 ((v.1 0 112) + (1 : Int32))) 0 106 ((v.1 0 106) - (1 : Int32)))) := hD
                    refine tp_i (y := ((v.1 105) ((v.1 0 106) - (1 : Int32)).toNatClampNeg)) (rfl) ?_
                    refine W.widen (k := 0) (n := 0) (Nat.le_refl _) (Nat.le_refl _) ?_
                    refine lv_istore_n (lv' := [(3, .int ((v.1 105) ((v.1 0 106) - (1 : Int32)).toNatClampNeg)), (2, .int ((v.1 72) (v.1 0 112).toNatClampNeg)), (1, .int ((v.1 71) (v.1 0 112).toNatClampNeg)), (0, .ref (ad 0))]) hx hb dX13_obey_295 rfl hl (by decide) rfl (fun ls hl => ?_)
                    refine lv_aload_n hx hb dX13_obey_296 rfl (lv_at hl 3 rfl) ?_
                    refine va_get (D := (dC, dI)) (ci := 16) (fs := mF ad (wA (wA v 0 112 ((v.1 0 112) + (1 : Int32))) 0 106 ((v.1 0 106) - (1 : Int32)))) (v := .ref (ad 117)) (C := RX13) (T := TX13) (N := 124) hx hb ht itX13 hown hK hP 0 rfl rfl 117 (by decide) (ht _ tw_347) (fun _ h9 => h9) rfl dX13_obey_297 ?_
                    refine lv_aload_n hx hb dX13_obey_300 rfl (lv_at hl 3 rfl) ?_
                    refine cu_i (rn_V (n := 0) (As := []) (rest := [.ref (ad 117)]) hx hb hml hown ht hKK hFx hP hD hS hA (c_m_pop l dC dI cI cB cZ cJ cR tb H.size ad N (wA (wA v 0 112 ((v.1 0 112) + (1 : Int32))) 0 106 ((v.1 0 106) - (1 : Int32)))  (show 1 ≤ ((v.1 0 106) - (1 : Int32)).toInt ∧ ((v.1 0 106) - (1 : Int32)).toInt ≤ 24000 from (om_7b4ab5390e nm9 z74 c9))) tw_335 tw_336 (by decide +kernel) rfl rfl ⟨Nat.le_of_ble_eq_true rfl, Nat.le_of_ble_eq_true rfl⟩ (List.range (mW ad N cI cZ cJ (wA (wA v 0 112 ((v.1 0 112) + (1 : Int32))) 0 106 ((v.1 0 106) - (1 : Int32)))).length) (rg_map _) (mW_nd _ _ _ _ _ _) rfl rfl rfl rfl hl.1 rfl (Nat.le_of_ble_eq_true rfl) dX13_obey_301 ⟨Nat.le_of_ble_eq_true rfl, Nat.le_of_ble_eq_true rfl⟩) hP hD hS hA (fun r82 u81 H locs hw80 hP hD hS => ?_)
                    obtain ⟨rfl, rfl⟩ := hw80
                    have z83 : (((v.1 0 106) - (1 : Int32)) - (1 : Int32)).toInt = (((v.1 0 106).toInt) - (1 : Int)) - (1 : Int) := sub_z z79 (show (1 : Int32).toInt = (1 : Int) by decide) (om_ac409618d2 c9) (om_85bb228797 nm9)
                    have hP : va_P (dC, dI) vwCl (mW ad N cI cZ cJ (wA (wA (wA v 0 112 ((v.1 0 112) + (1 : Int32))) 0 106 ((v.1 0 106) - (1 : Int32))) 0 106 (((v.1 0 106) - (1 : Int32)) - (1 : Int32)))) H := hP
                    have hD : va_D A (mW ad N cI cZ cJ (wA (wA (wA v 0 112 ((v.1 0 112) + (1 : Int32))) 0 106 ((v.1 0 106) - (1 : Int32))) 0 106 (((v.1 0 106) - (1 : Int32)) - (1 : Int32)))) := hD
                    refine tp_i (y := ((v.1 105) (((v.1 0 106) - (1 : Int32)) - (1 : Int32)).toNatClampNeg)) (rfl) ?_
                    refine W.widen (k := 0) (n := 0) (Nat.le_refl _) (Nat.le_refl _) ?_
                    refine lv_iload_n hx hb dX13_obey_304 rfl (lv_at hl 0 rfl) ?_
                    refine va_iast (D := (dC, dI)) (f := (v.1 117)) hx hb hK hP hD hS 60 0 rfl rfl (in_y (a := ((v.1 105) (((v.1 0 106) - (1 : Int32)) - (1 : Int32)).toNatClampNeg).toInt) (b := 4200) rfl (om_2efd570bd0 c9) (om_4c5c861142 c9) rfl) dX13_obey_305 (fun H locs hP hD hS => ?_)
                    have hP := cP_ (ma_117 ad N cI cZ cJ (wA (wA (wA v 0 112 ((v.1 0 112) + (1 : Int32))) 0 106 ((v.1 0 106) - (1 : Int32))) 0 106 (((v.1 0 106) - (1 : Int32)) - (1 : Int32))) (((v.1 105) (((v.1 0 106) - (1 : Int32)) - (1 : Int32)).toNatClampNeg).toNatClampNeg) ((v.1 105) ((v.1 0 106) - (1 : Int32)).toNatClampNeg)) hP
                    have hD := cD_ (ma_117 ad N cI cZ cJ (wA (wA (wA v 0 112 ((v.1 0 112) + (1 : Int32))) 0 106 ((v.1 0 106) - (1 : Int32))) 0 106 (((v.1 0 106) - (1 : Int32)) - (1 : Int32))) (((v.1 105) (((v.1 0 106) - (1 : Int32)) - (1 : Int32)).toNatClampNeg).toNatClampNeg) ((v.1 105) ((v.1 0 106) - (1 : Int32)).toNatClampNeg)) hD
                    refine lv_aload_n hx hb dX13_obey_306 rfl (lv_at hl 3 rfl) ?_
                    refine lv_iload_n hx hb dX13_obey_307 rfl (lv_at hl 0 rfl) ?_
                    refine cu_v (rn_V (n := 1) (As := [.int ((v.1 105) ((v.1 0 106) - (1 : Int32)).toNatClampNeg)]) (rest := []) hx hb hml hown ht hKK hFx hP hD hS hA (c_m_push l dC dI cI cB cZ cJ cR tb H.size ad N (wA (wA (wA (wA v 0 112 ((v.1 0 112) + (1 : Int32))) 0 106 ((v.1 0 106) - (1 : Int32))) 0 106 (((v.1 0 106) - (1 : Int32)) - (1 : Int32))) 117 (((v.1 105) (((v.1 0 106) - (1 : Int32)) - (1 : Int32)).toNatClampNeg).toNatClampNeg) ((v.1 105) ((v.1 0 106) - (1 : Int32)).toNatClampNeg)) ((v.1 105) ((v.1 0 106) - (1 : Int32)).toNatClampNeg) (show 0 ≤ (((v.1 0 106) - (1 : Int32)) - (1 : Int32)).toInt ∧ (((v.1 0 106) - (1 : Int32)) - (1 : Int32)).toInt < 24000 from (om_9e089259dc nm9 z75 c9))) tw_332 tw_333 (by decide +kernel) rfl rfl ⟨Nat.le_of_ble_eq_true rfl, Nat.le_of_ble_eq_true rfl⟩ (List.range (mW ad N cI cZ cJ (wA (wA (wA (wA v 0 112 ((v.1 0 112) + (1 : Int32))) 0 106 ((v.1 0 106) - (1 : Int32))) 0 106 (((v.1 0 106) - (1 : Int32)) - (1 : Int32))) 117 (((v.1 105) (((v.1 0 106) - (1 : Int32)) - (1 : Int32)).toNatClampNeg).toNatClampNeg) ((v.1 105) ((v.1 0 106) - (1 : Int32)).toNatClampNeg))).length) (rg_map _) (mW_nd _ _ _ _ _ _) rfl rfl rfl rfl hl.1 rfl (Nat.le_of_ble_eq_true rfl) dX13_obey_308 ⟨Nat.le_of_ble_eq_true rfl, Nat.le_of_ble_eq_true rfl⟩) hP hD hS hA (fun u85 H locs hw84 hP hD hS => ?_)
                    obtain rfl := hw84
                    have z87 : ((((v.1 0 106) - (1 : Int32)) - (1 : Int32)) + (1 : Int32)).toInt = ((((v.1 0 106).toInt) - (1 : Int)) - (1 : Int)) + (1 : Int) := add_z z83 (show (1 : Int32).toInt = (1 : Int) by decide) (om_8f179e4b9a c9) (om_05d5f352bf nm9)
                    have hP : va_P (dC, dI) vwCl (mW ad N cI cZ cJ (wA (wA (wA (wA (wA (wA v 0 112 ((v.1 0 112) + (1 : Int32))) 0 106 ((v.1 0 106) - (1 : Int32))) 0 106 (((v.1 0 106) - (1 : Int32)) - (1 : Int32))) 117 (((v.1 105) (((v.1 0 106) - (1 : Int32)) - (1 : Int32)).toNatClampNeg).toNatClampNeg) ((v.1 105) ((v.1 0 106) - (1 : Int32)).toNatClampNeg)) 105 ((((v.1 0 106) - (1 : Int32)) - (1 : Int32)).toNatClampNeg) ((v.1 105) ((v.1 0 106) - (1 : Int32)).toNatClampNeg)) 0 106 ((((v.1 0 106) - (1 : Int32)) - (1 : Int32)) + (1 : Int32)))) H := hP
                    have hD : va_D A (mW ad N cI cZ cJ (wA (wA (wA (wA (wA (wA v 0 112 ((v.1 0 112) + (1 : Int32))) 0 106 ((v.1 0 106) - (1 : Int32))) 0 106 (((v.1 0 106) - (1 : Int32)) - (1 : Int32))) 117 (((v.1 105) (((v.1 0 106) - (1 : Int32)) - (1 : Int32)).toNatClampNeg).toNatClampNeg) ((v.1 105) ((v.1 0 106) - (1 : Int32)).toNatClampNeg)) 105 ((((v.1 0 106) - (1 : Int32)) - (1 : Int32)).toNatClampNeg) ((v.1 105) ((v.1 0 106) - (1 : Int32)).toNatClampNeg)) 0 106 ((((v.1 0 106) - (1 : Int32)) - (1 : Int32)) + (1 : Int32)))) := hD
                    refine W.widen (k := 0) (n := 0) (Nat.le_refl _) (Nat.le_refl _) ?_
                    refine lv_goto (tgt := 402) hx hb dX13_obey_311 (by decide) ?_
                    refine lv_iconst (v := -1) hx hb dX13_obey_402 (by decide) ?_
                    exact W.iret (v := (-1)) hx hb hr (fun t ht9 hW => ⟨⟨(-1), (wA (wA (wA (wA (wA (wA v 0 112 ((v.1 0 112) + (1 : Int32))) 0 106 ((v.1 0 106) - (1 : Int32))) 0 106 (((v.1 0 106) - (1 : Int32)) - (1 : Int32))) 117 (((v.1 105) (((v.1 0 106) - (1 : Int32)) - (1 : Int32)).toNatClampNeg).toNatClampNeg) ((v.1 105) ((v.1 0 106) - (1 : Int32)).toNatClampNeg)) 105 ((((v.1 0 106) - (1 : Int32)) - (1 : Int32)).toNatClampNeg) ((v.1 105) ((v.1 0 106) - (1 : Int32)).toNatClampNeg)) 0 106 ((((v.1 0 106) - (1 : Int32)) - (1 : Int32)) + (1 : Int32))), rfl, ⟨(FG.f (FG.a (FG.a (FG.f (FG.f (FG.f (FG.rf _) ((v.1 0 112) + (1 : Int32)) (by decide)) ((v.1 0 106) - (1 : Int32)) (by decide)) (((v.1 0 106) - (1 : Int32)) - (1 : Int32)) (by decide)) (((v.1 105) (((v.1 0 106) - (1 : Int32)) - (1 : Int32)).toNatClampNeg).toNatClampNeg) ((v.1 105) ((v.1 0 106) - (1 : Int32)).toNatClampNeg) (by decide) (by decide)) ((((v.1 0 106) - (1 : Int32)) - (1 : Int32)).toNatClampNeg) ((v.1 105) ((v.1 0 106) - (1 : Int32)).toNatClampNeg) (by decide) (by decide)) ((((v.1 0 106) - (1 : Int32)) - (1 : Int32)) + (1 : Int32)) (by decide)), (Or.inl ⟨by decide, MI.t8 (u := (wA (wA (wA (wA (wA (wA v 0 112 ((v.1 0 112) + (1 : Int32))) 0 106 ((v.1 0 106) - (1 : Int32))) 0 106 (((v.1 0 106) - (1 : Int32)) - (1 : Int32))) 117 (((v.1 105) (((v.1 0 106) - (1 : Int32)) - (1 : Int32)).toNatClampNeg).toNatClampNeg) ((v.1 105) ((v.1 0 106) - (1 : Int32)).toNatClampNeg)) 105 ((((v.1 0 106) - (1 : Int32)) - (1 : Int32)).toNatClampNeg) ((v.1 105) ((v.1 0 106) - (1 : Int32)).toNatClampNeg)) 0 106 ((((v.1 0 106) - (1 : Int32)) - (1 : Int32)) + (1 : Int32)))) mi z73 (show ((v.1 0 112) + (1 : Int32)).toInt = (v.1 0 112).toInt + 1 from (om_5bccfc38cf z1)) (all8f (P := fun k9 => ((wA (wA (wA (wA (wA (wA v 0 112 ((v.1 0 112) + (1 : Int32))) 0 106 ((v.1 0 106) - (1 : Int32))) 0 106 (((v.1 0 106) - (1 : Int32)) - (1 : Int32))) 117 (((v.1 105) (((v.1 0 106) - (1 : Int32)) - (1 : Int32)).toNatClampNeg).toNatClampNeg) ((v.1 105) ((v.1 0 106) - (1 : Int32)).toNatClampNeg)) 105 ((((v.1 0 106) - (1 : Int32)) - (1 : Int32)).toNatClampNeg) ((v.1 105) ((v.1 0 106) - (1 : Int32)).toNatClampNeg)) 0 106 ((((v.1 0 106) - (1 : Int32)) - (1 : Int32)) + (1 : Int32)))).1 0 k9 = v.1 0 k9) rfl rfl rfl rfl rfl rfl rfl rfl) (all11g (P := fun k9 => ((wA (wA (wA (wA (wA (wA v 0 112 ((v.1 0 112) + (1 : Int32))) 0 106 ((v.1 0 106) - (1 : Int32))) 0 106 (((v.1 0 106) - (1 : Int32)) - (1 : Int32))) 117 (((v.1 105) (((v.1 0 106) - (1 : Int32)) - (1 : Int32)).toNatClampNeg).toNatClampNeg) ((v.1 105) ((v.1 0 106) - (1 : Int32)).toNatClampNeg)) 105 ((((v.1 0 106) - (1 : Int32)) - (1 : Int32)).toNatClampNeg) ((v.1 105) ((v.1 0 106) - (1 : Int32)).toNatClampNeg)) 0 106 ((((v.1 0 106) - (1 : Int32)) - (1 : Int32)) + (1 : Int32)))).1 k9 = v.1 k9) rfl rfl rfl rfl rfl rfl rfl rfl rfl rfl rfl) (show ((((v.1 0 106) - (1 : Int32)) - (1 : Int32)) + (1 : Int32)).toInt = (v.1 0 106).toInt - 1 from (om_ae601af874 z87)) (fun (j9 : Nat) h9 => pk_un3 (x := (((v.1 0 106) - (1 : Int32)) - (1 : Int32))) rfl (om_d20c6a8bb6 z75 c9) (om_233fe67d78 z75 h9)) (show 0 ≤ (v.1 0 119).toInt ∧ (v.1 0 119).toInt ≤ (v.1 0 119).toInt + 1 from (om_c2c1baedc6 nm9)) (show 0 ≤ (v.1 0 120).toInt ∧ (v.1 0 120).toInt ≤ (v.1 0 120).toInt + 1 from (om_9ca839a770 nm9))⟩)⟩, by rw [ht9]; exact hP, hD⟩, hS.F ht9⟩) hS.2.2 dX13_obey_403
                  ·
                    have z88 : ((v.1 71) (v.1 0 112).toNatClampNeg).toInt ≠ (8 : Int) := ne_z rfl (show (8 : Int32).toInt = (8 : Int) by decide) h72
                    by_cases h89 : ((v.1 71) (v.1 0 112).toNatClampNeg) = 9
                    · refine lv_tableIn (off := 283) (tgt := 314) hx hb dX13_obey_31 (by rw [h89]; decide) (by rw [h89]; decide) (by rw [h89]; decide) (by decide) ?_
                      have z90 : ((v.1 71) (v.1 0 112).toNatClampNeg).toInt = (9 : Int) := eq_z rfl (show (9 : Int32).toInt = (9 : Int) by decide) h89
                      have c9 : 1 ≤ (v.1 0 106).toInt := mi.c9 (Or.inl z90)
                      refine lv_aload_n hx hb dX13_obey_314 rfl (lv_at hl 2 rfl) ?_
                      refine cu_i (rn_V (n := 0) (As := []) (rest := []) hx hb hml hown ht hKK hFx hP hD hS hA (c_m_pop l dC dI cI cB cZ cJ cR tb H.size ad N (wA v 0 112 ((v.1 0 112) + (1 : Int32)))  (show 1 ≤ (v.1 0 106).toInt ∧ (v.1 0 106).toInt ≤ 24000 from (om_89fa2c872a nm9 c9))) tw_335 tw_336 (by decide +kernel) rfl rfl ⟨Nat.le_of_ble_eq_true rfl, Nat.le_of_ble_eq_true rfl⟩ (List.range (mW ad N cI cZ cJ (wA v 0 112 ((v.1 0 112) + (1 : Int32)))).length) (rg_map _) (mW_nd _ _ _ _ _ _) rfl rfl rfl rfl hl.1 rfl (Nat.le_of_ble_eq_true rfl) dX13_obey_315 ⟨Nat.le_of_ble_eq_true rfl, Nat.le_of_ble_eq_true rfl⟩) hP hD hS hA (fun r93 u92 H locs hw91 hP hD hS => ?_)
                      obtain ⟨rfl, rfl⟩ := hw91
                      have z94 : ((v.1 0 106) - (1 : Int32)).toInt = ((v.1 0 106).toInt) - (1 : Int) := sub_z rfl (show (1 : Int32).toInt = (1 : Int) by decide) (om_1ea8132e01 c9) (om_5ad56c0db6 nm9)
                      have hP : va_P (dC, dI) vwCl (mW ad N cI cZ cJ (wA (wA v 0 112 ((v.1 0 112) + (1 : Int32))) 0 106 ((v.1 0 106) - (1 : Int32)))) H := hP
                      have hD : va_D A (mW ad N cI cZ cJ (wA (wA v 0 112 ((v.1 0 112) + (1 : Int32))) 0 106 ((v.1 0 106) - (1 : Int32)))) := hD
                      refine tp_i (y := ((v.1 105) ((v.1 0 106) - (1 : Int32)).toNatClampNeg)) (rfl) ?_
                      refine W.widen (k := 0) (n := 0) (Nat.le_refl _) (Nat.le_refl _) ?_
                      refine lv_istore_n (lv' := [(3, .int ((v.1 105) ((v.1 0 106) - (1 : Int32)).toNatClampNeg)), (2, .int ((v.1 72) (v.1 0 112).toNatClampNeg)), (1, .int ((v.1 71) (v.1 0 112).toNatClampNeg)), (0, .ref (ad 0))]) hx hb dX13_obey_318 rfl hl (by decide) rfl (fun ls hl => ?_)
                      refine lv_goto (tgt := 402) hx hb dX13_obey_319 (by decide) ?_
                      refine lv_iconst (v := -1) hx hb dX13_obey_402 (by decide) ?_
                      exact W.iret (v := (-1)) hx hb hr (fun t ht9 hW => ⟨⟨(-1), (wA (wA v 0 112 ((v.1 0 112) + (1 : Int32))) 0 106 ((v.1 0 106) - (1 : Int32))), rfl, ⟨(FG.f (FG.f (FG.rf _) ((v.1 0 112) + (1 : Int32)) (by decide)) ((v.1 0 106) - (1 : Int32)) (by decide)), (Or.inl ⟨by decide, MI.popN (u := (wA (wA v 0 112 ((v.1 0 112) + (1 : Int32))) 0 106 ((v.1 0 106) - (1 : Int32)))) mi (Or.inl z90) (show ((v.1 0 112) + (1 : Int32)).toInt = (v.1 0 112).toInt + 1 from (om_5bccfc38cf z1)) (all8f (P := fun k9 => ((wA (wA v 0 112 ((v.1 0 112) + (1 : Int32))) 0 106 ((v.1 0 106) - (1 : Int32)))).1 0 k9 = v.1 0 k9) rfl rfl rfl rfl rfl rfl rfl rfl) (all11g (P := fun k9 => ((wA (wA v 0 112 ((v.1 0 112) + (1 : Int32))) 0 106 ((v.1 0 106) - (1 : Int32)))).1 k9 = v.1 k9) rfl rfl rfl rfl rfl rfl rfl rfl rfl rfl rfl) (show ((v.1 0 106) - (1 : Int32)).toInt = (v.1 0 106).toInt - 1 from (om_4b62747e8a z94)) (fun j9 h9 => rfl) (show 0 ≤ (v.1 0 119).toInt ∧ (v.1 0 119).toInt ≤ (v.1 0 119).toInt + 1 from (om_c2c1baedc6 nm9)) (show 0 ≤ (v.1 0 120).toInt ∧ (v.1 0 120).toInt ≤ (v.1 0 120).toInt + 1 from (om_9ca839a770 nm9))⟩)⟩, by rw [ht9]; exact hP, hD⟩, hS.F ht9⟩) hS.2.2 dX13_obey_403
                    ·
                      have z95 : ((v.1 71) (v.1 0 112).toNatClampNeg).toInt ≠ (9 : Int) := ne_z rfl (show (9 : Int32).toInt = (9 : Int) by decide) h89
                      by_cases h96 : ((v.1 71) (v.1 0 112).toNatClampNeg) = 10
                      · refine lv_tableIn (off := 291) (tgt := 322) hx hb dX13_obey_31 (by rw [h96]; decide) (by rw [h96]; decide) (by rw [h96]; decide) (by decide) ?_
                        have z97 : ((v.1 71) (v.1 0 112).toNatClampNeg).toInt = (10 : Int) := eq_z rfl (show (10 : Int32).toInt = (10 : Int) by decide) h96
                        have c9 : 1 ≤ (v.1 0 106).toInt := mi.c9 (Or.inr (Or.inl z97))
                        refine lv_aload_n hx hb dX13_obey_322 rfl (lv_at hl 2 rfl) ?_
                        refine lv_aload_n hx hb dX13_obey_323 rfl (lv_at hl 2 rfl) ?_
                        refine cu_i (rn_V (n := 0) (As := []) (rest := [.ref (ad 0)]) hx hb hml hown ht hKK hFx hP hD hS hA (c_m_pop l dC dI cI cB cZ cJ cR tb H.size ad N (wA v 0 112 ((v.1 0 112) + (1 : Int32)))  (show 1 ≤ (v.1 0 106).toInt ∧ (v.1 0 106).toInt ≤ 24000 from (om_89fa2c872a nm9 c9))) tw_335 tw_336 (by decide +kernel) rfl rfl ⟨Nat.le_of_ble_eq_true rfl, Nat.le_of_ble_eq_true rfl⟩ (List.range (mW ad N cI cZ cJ (wA v 0 112 ((v.1 0 112) + (1 : Int32)))).length) (rg_map _) (mW_nd _ _ _ _ _ _) rfl rfl rfl rfl hl.1 rfl (Nat.le_of_ble_eq_true rfl) dX13_obey_324 ⟨Nat.le_of_ble_eq_true rfl, Nat.le_of_ble_eq_true rfl⟩) hP hD hS hA (fun r100 u99 H locs hw98 hP hD hS => ?_)
                        obtain ⟨rfl, rfl⟩ := hw98
                        have z101 : ((v.1 0 106) - (1 : Int32)).toInt = ((v.1 0 106).toInt) - (1 : Int) := sub_z rfl (show (1 : Int32).toInt = (1 : Int) by decide) (om_1ea8132e01 c9) (om_5ad56c0db6 nm9)
                        have hP : va_P (dC, dI) vwCl (mW ad N cI cZ cJ (wA (wA v 0 112 ((v.1 0 112) + (1 : Int32))) 0 106 ((v.1 0 106) - (1 : Int32)))) H := hP
                        have hD : va_D A (mW ad N cI cZ cJ (wA (wA v 0 112 ((v.1 0 112) + (1 : Int32))) 0 106 ((v.1 0 106) - (1 : Int32)))) := hD
                        refine tp_i (y := ((v.1 105) ((v.1 0 106) - (1 : Int32)).toNatClampNeg)) (rfl) ?_
                        refine W.widen (k := 0) (n := 0) (Nat.le_refl _) (Nat.le_refl _) ?_
                        refine lv_if_ne (tgt := 334) hx hb dX13_obey_327 (by decide) (fun h102 => ?_) (fun h102 => ?_)
                        · have z103 : ((v.1 105) ((v.1 0 106) - (1 : Int32)).toNatClampNeg).toInt ≠ (0 : Int) := ne_z rfl (show (0 : Int32).toInt = (0 : Int) by decide) h102
                          refine lv_aload_n hx hb dX13_obey_334 rfl (lv_at hl 2 rfl) ?_
                          refine va_get (D := (dC, dI)) (ci := 16) (fs := mF ad (wA (wA v 0 112 ((v.1 0 112) + (1 : Int32))) 0 106 ((v.1 0 106) - (1 : Int32)))) (v := .int ((v.1 0 112) + (1 : Int32))) (C := RX13) (T := TX13) (N := 124) hx hb ht itX13 hown hK hP 0 rfl rfl 112 (by decide) (ht _ tw_334) (fun _ h9 => h9) rfl dX13_obey_335 ?_
                          refine va_put (D := (dC, dI)) (ci := 16) (fs := mF ad (wA (wA v 0 112 ((v.1 0 112) + (1 : Int32))) 0 106 ((v.1 0 106) - (1 : Int32)))) (v := .int ((v.1 0 112) + (1 : Int32))) (ty := .int) (C := RX13) (T := TX13) (N := 124) hx hb ht itX13 tyX13 tyX13_ok nmX13 hown hK hP hD hS 0 rfl rfl 112 (by decide) (ht _ tw_334) (fun _ h9 => h9) rfl (by decide +kernel) rfl rfl (Nat.le_of_ble_eq_true rfl) dX13_obey_338 (fun H locs hP hD hS => ?_)
                          have hP := cP_ (mw_112 ad N cI cZ cJ (wA (wA v 0 112 ((v.1 0 112) + (1 : Int32))) 0 106 ((v.1 0 106) - (1 : Int32))) ((v.1 0 112) + (1 : Int32))) hP
                          have hD := cD_ (mw_112 ad N cI cZ cJ (wA (wA v 0 112 ((v.1 0 112) + (1 : Int32))) 0 106 ((v.1 0 106) - (1 : Int32))) ((v.1 0 112) + (1 : Int32))) hD
                          refine lv_goto (tgt := 402) hx hb dX13_obey_341 (by decide) ?_
                          refine lv_iconst (v := -1) hx hb dX13_obey_402 (by decide) ?_
                          exact W.iret (v := (-1)) hx hb hr (fun t ht9 hW => ⟨⟨(-1), (wA (wA (wA v 0 112 ((v.1 0 112) + (1 : Int32))) 0 106 ((v.1 0 106) - (1 : Int32))) 0 112 ((v.1 0 112) + (1 : Int32))), rfl, ⟨(FG.f (FG.f (FG.f (FG.rf _) ((v.1 0 112) + (1 : Int32)) (by decide)) ((v.1 0 106) - (1 : Int32)) (by decide)) ((v.1 0 112) + (1 : Int32)) (by decide)), (Or.inl ⟨by decide, MI.popN (u := (wA (wA (wA v 0 112 ((v.1 0 112) + (1 : Int32))) 0 106 ((v.1 0 106) - (1 : Int32))) 0 112 ((v.1 0 112) + (1 : Int32)))) mi (Or.inr (Or.inl z97)) (show ((v.1 0 112) + (1 : Int32)).toInt = (v.1 0 112).toInt + 1 from (om_5bccfc38cf z1)) (all8f (P := fun k9 => ((wA (wA (wA v 0 112 ((v.1 0 112) + (1 : Int32))) 0 106 ((v.1 0 106) - (1 : Int32))) 0 112 ((v.1 0 112) + (1 : Int32)))).1 0 k9 = v.1 0 k9) rfl rfl rfl rfl rfl rfl rfl rfl) (all11g (P := fun k9 => ((wA (wA (wA v 0 112 ((v.1 0 112) + (1 : Int32))) 0 106 ((v.1 0 106) - (1 : Int32))) 0 112 ((v.1 0 112) + (1 : Int32)))).1 k9 = v.1 k9) rfl rfl rfl rfl rfl rfl rfl rfl rfl rfl rfl) (show ((v.1 0 106) - (1 : Int32)).toInt = (v.1 0 106).toInt - 1 from (om_4b62747e8a z101)) (fun j9 h9 => rfl) (show 0 ≤ (v.1 0 119).toInt ∧ (v.1 0 119).toInt ≤ (v.1 0 119).toInt + 1 from (om_c2c1baedc6 nm9)) (show 0 ≤ (v.1 0 120).toInt ∧ (v.1 0 120).toInt ≤ (v.1 0 120).toInt + 1 from (om_9ca839a770 nm9))⟩)⟩, by rw [ht9]; exact hP, hD⟩, hS.F ht9⟩) hS.2.2 dX13_obey_403
                        · have z104 : ((v.1 105) ((v.1 0 106) - (1 : Int32)).toNatClampNeg).toInt = (0 : Int) := eq_z rfl (show (0 : Int32).toInt = (0 : Int) by decide) h102
                          refine lv_iload_n hx hb dX13_obey_330 rfl (lv_at hl 0 rfl) ?_
                          refine lv_goto (tgt := 338) hx hb dX13_obey_331 (by decide) ?_
                          refine va_put (D := (dC, dI)) (ci := 16) (fs := mF ad (wA (wA v 0 112 ((v.1 0 112) + (1 : Int32))) 0 106 ((v.1 0 106) - (1 : Int32)))) (v := .int ((v.1 72) (v.1 0 112).toNatClampNeg)) (ty := .int) (C := RX13) (T := TX13) (N := 124) hx hb ht itX13 tyX13 tyX13_ok nmX13 hown hK hP hD hS 0 rfl rfl 112 (by decide) (ht _ tw_334) (fun _ h9 => h9) rfl (by decide +kernel) rfl rfl (Nat.le_of_ble_eq_true rfl) dX13_obey_338 (fun H locs hP hD hS => ?_)
                          have hP := cP_ (mw_112 ad N cI cZ cJ (wA (wA v 0 112 ((v.1 0 112) + (1 : Int32))) 0 106 ((v.1 0 106) - (1 : Int32))) ((v.1 72) (v.1 0 112).toNatClampNeg)) hP
                          have hD := cD_ (mw_112 ad N cI cZ cJ (wA (wA v 0 112 ((v.1 0 112) + (1 : Int32))) 0 106 ((v.1 0 106) - (1 : Int32))) ((v.1 72) (v.1 0 112).toNatClampNeg)) hD
                          refine lv_goto (tgt := 402) hx hb dX13_obey_341 (by decide) ?_
                          refine lv_iconst (v := -1) hx hb dX13_obey_402 (by decide) ?_
                          exact W.iret (v := (-1)) hx hb hr (fun t ht9 hW => ⟨⟨(-1), (wA (wA (wA v 0 112 ((v.1 0 112) + (1 : Int32))) 0 106 ((v.1 0 106) - (1 : Int32))) 0 112 ((v.1 72) (v.1 0 112).toNatClampNeg)), rfl, ⟨(FG.f (FG.f (FG.f (FG.rf _) ((v.1 0 112) + (1 : Int32)) (by decide)) ((v.1 0 106) - (1 : Int32)) (by decide)) ((v.1 72) (v.1 0 112).toNatClampNeg) (by decide)), (Or.inl ⟨by decide, MI.popE (u := (wA (wA (wA v 0 112 ((v.1 0 112) + (1 : Int32))) 0 106 ((v.1 0 106) - (1 : Int32))) 0 112 ((v.1 72) (v.1 0 112).toNatClampNeg))) mi (Or.inl z97) rfl (all8f (P := fun k9 => ((wA (wA (wA v 0 112 ((v.1 0 112) + (1 : Int32))) 0 106 ((v.1 0 106) - (1 : Int32))) 0 112 ((v.1 72) (v.1 0 112).toNatClampNeg))).1 0 k9 = v.1 0 k9) rfl rfl rfl rfl rfl rfl rfl rfl) (all11g (P := fun k9 => ((wA (wA (wA v 0 112 ((v.1 0 112) + (1 : Int32))) 0 106 ((v.1 0 106) - (1 : Int32))) 0 112 ((v.1 72) (v.1 0 112).toNatClampNeg))).1 k9 = v.1 k9) rfl rfl rfl rfl rfl rfl rfl rfl rfl rfl rfl) (show ((v.1 0 106) - (1 : Int32)).toInt = (v.1 0 106).toInt - 1 from (om_4b62747e8a z101)) (fun j9 h9 => rfl) (show 0 ≤ (v.1 0 119).toInt ∧ (v.1 0 119).toInt ≤ (v.1 0 119).toInt + 1 from (om_c2c1baedc6 nm9)) (show 0 ≤ (v.1 0 120).toInt ∧ (v.1 0 120).toInt ≤ (v.1 0 120).toInt + 1 from (om_9ca839a770 nm9))⟩)⟩, by rw [ht9]; exact hP, hD⟩, hS.F ht9⟩) hS.2.2 dX13_obey_403
                      ·
                        have z105 : ((v.1 71) (v.1 0 112).toNatClampNeg).toInt ≠ (10 : Int) := ne_z rfl (show (10 : Int32).toInt = (10 : Int) by decide) h96
                        by_cases h106 : ((v.1 71) (v.1 0 112).toNatClampNeg) = 11
                        · refine lv_tableIn (off := 313) (tgt := 344) hx hb dX13_obey_31 (by rw [h106]; decide) (by rw [h106]; decide) (by rw [h106]; decide) (by decide) ?_
                          have z107 : ((v.1 71) (v.1 0 112).toNatClampNeg).toInt = (11 : Int) := eq_z rfl (show (11 : Int32).toInt = (11 : Int) by decide) h106
                          have c9 : 1 ≤ (v.1 0 106).toInt := mi.c9 (Or.inr (Or.inr (Or.inl z107)))
                          refine lv_aload_n hx hb dX13_obey_344 rfl (lv_at hl 2 rfl) ?_
                          refine lv_aload_n hx hb dX13_obey_345 rfl (lv_at hl 2 rfl) ?_
                          refine cu_i (rn_V (n := 0) (As := []) (rest := [.ref (ad 0)]) hx hb hml hown ht hKK hFx hP hD hS hA (c_m_pop l dC dI cI cB cZ cJ cR tb H.size ad N (wA v 0 112 ((v.1 0 112) + (1 : Int32)))  (show 1 ≤ (v.1 0 106).toInt ∧ (v.1 0 106).toInt ≤ 24000 from (om_89fa2c872a nm9 c9))) tw_335 tw_336 (by decide +kernel) rfl rfl ⟨Nat.le_of_ble_eq_true rfl, Nat.le_of_ble_eq_true rfl⟩ (List.range (mW ad N cI cZ cJ (wA v 0 112 ((v.1 0 112) + (1 : Int32)))).length) (rg_map _) (mW_nd _ _ _ _ _ _) rfl rfl rfl rfl hl.1 rfl (Nat.le_of_ble_eq_true rfl) dX13_obey_346 ⟨Nat.le_of_ble_eq_true rfl, Nat.le_of_ble_eq_true rfl⟩) hP hD hS hA (fun r110 u109 H locs hw108 hP hD hS => ?_)
                          obtain ⟨rfl, rfl⟩ := hw108
                          have z111 : ((v.1 0 106) - (1 : Int32)).toInt = ((v.1 0 106).toInt) - (1 : Int) := sub_z rfl (show (1 : Int32).toInt = (1 : Int) by decide) (om_1ea8132e01 c9) (om_5ad56c0db6 nm9)
                          have hP : va_P (dC, dI) vwCl (mW ad N cI cZ cJ (wA (wA v 0 112 ((v.1 0 112) + (1 : Int32))) 0 106 ((v.1 0 106) - (1 : Int32)))) H := hP
                          have hD : va_D A (mW ad N cI cZ cJ (wA (wA v 0 112 ((v.1 0 112) + (1 : Int32))) 0 106 ((v.1 0 106) - (1 : Int32)))) := hD
                          refine tp_i (y := ((v.1 105) ((v.1 0 106) - (1 : Int32)).toNatClampNeg)) (rfl) ?_
                          refine W.widen (k := 0) (n := 0) (Nat.le_refl _) (Nat.le_refl _) ?_
                          refine lv_if_eq (tgt := 356) hx hb dX13_obey_349 (by decide) (fun h112 => ?_) (fun h112 => ?_)
                          · have z113 : ((v.1 105) ((v.1 0 106) - (1 : Int32)).toNatClampNeg).toInt = (0 : Int) := eq_z rfl (show (0 : Int32).toInt = (0 : Int) by decide) h112
                            refine lv_aload_n hx hb dX13_obey_356 rfl (lv_at hl 2 rfl) ?_
                            refine va_get (D := (dC, dI)) (ci := 16) (fs := mF ad (wA (wA v 0 112 ((v.1 0 112) + (1 : Int32))) 0 106 ((v.1 0 106) - (1 : Int32)))) (v := .int ((v.1 0 112) + (1 : Int32))) (C := RX13) (T := TX13) (N := 124) hx hb ht itX13 hown hK hP 0 rfl rfl 112 (by decide) (ht _ tw_334) (fun _ h9 => h9) rfl dX13_obey_357 ?_
                            refine va_put (D := (dC, dI)) (ci := 16) (fs := mF ad (wA (wA v 0 112 ((v.1 0 112) + (1 : Int32))) 0 106 ((v.1 0 106) - (1 : Int32)))) (v := .int ((v.1 0 112) + (1 : Int32))) (ty := .int) (C := RX13) (T := TX13) (N := 124) hx hb ht itX13 tyX13 tyX13_ok nmX13 hown hK hP hD hS 0 rfl rfl 112 (by decide) (ht _ tw_334) (fun _ h9 => h9) rfl (by decide +kernel) rfl rfl (Nat.le_of_ble_eq_true rfl) dX13_obey_360 (fun H locs hP hD hS => ?_)
                            have hP := cP_ (mw_112 ad N cI cZ cJ (wA (wA v 0 112 ((v.1 0 112) + (1 : Int32))) 0 106 ((v.1 0 106) - (1 : Int32))) ((v.1 0 112) + (1 : Int32))) hP
                            have hD := cD_ (mw_112 ad N cI cZ cJ (wA (wA v 0 112 ((v.1 0 112) + (1 : Int32))) 0 106 ((v.1 0 106) - (1 : Int32))) ((v.1 0 112) + (1 : Int32))) hD
                            refine lv_goto (tgt := 402) hx hb dX13_obey_363 (by decide) ?_
                            refine lv_iconst (v := -1) hx hb dX13_obey_402 (by decide) ?_
                            exact W.iret (v := (-1)) hx hb hr (fun t ht9 hW => ⟨⟨(-1), (wA (wA (wA v 0 112 ((v.1 0 112) + (1 : Int32))) 0 106 ((v.1 0 106) - (1 : Int32))) 0 112 ((v.1 0 112) + (1 : Int32))), rfl, ⟨(FG.f (FG.f (FG.f (FG.rf _) ((v.1 0 112) + (1 : Int32)) (by decide)) ((v.1 0 106) - (1 : Int32)) (by decide)) ((v.1 0 112) + (1 : Int32)) (by decide)), (Or.inl ⟨by decide, MI.popN (u := (wA (wA (wA v 0 112 ((v.1 0 112) + (1 : Int32))) 0 106 ((v.1 0 106) - (1 : Int32))) 0 112 ((v.1 0 112) + (1 : Int32)))) mi (Or.inr (Or.inr (Or.inl z107))) (show ((v.1 0 112) + (1 : Int32)).toInt = (v.1 0 112).toInt + 1 from (om_5bccfc38cf z1)) (all8f (P := fun k9 => ((wA (wA (wA v 0 112 ((v.1 0 112) + (1 : Int32))) 0 106 ((v.1 0 106) - (1 : Int32))) 0 112 ((v.1 0 112) + (1 : Int32)))).1 0 k9 = v.1 0 k9) rfl rfl rfl rfl rfl rfl rfl rfl) (all11g (P := fun k9 => ((wA (wA (wA v 0 112 ((v.1 0 112) + (1 : Int32))) 0 106 ((v.1 0 106) - (1 : Int32))) 0 112 ((v.1 0 112) + (1 : Int32)))).1 k9 = v.1 k9) rfl rfl rfl rfl rfl rfl rfl rfl rfl rfl rfl) (show ((v.1 0 106) - (1 : Int32)).toInt = (v.1 0 106).toInt - 1 from (om_4b62747e8a z111)) (fun j9 h9 => rfl) (show 0 ≤ (v.1 0 119).toInt ∧ (v.1 0 119).toInt ≤ (v.1 0 119).toInt + 1 from (om_c2c1baedc6 nm9)) (show 0 ≤ (v.1 0 120).toInt ∧ (v.1 0 120).toInt ≤ (v.1 0 120).toInt + 1 from (om_9ca839a770 nm9))⟩)⟩, by rw [ht9]; exact hP, hD⟩, hS.F ht9⟩) hS.2.2 dX13_obey_403
                          · have z114 : ((v.1 105) ((v.1 0 106) - (1 : Int32)).toNatClampNeg).toInt ≠ (0 : Int) := ne_z rfl (show (0 : Int32).toInt = (0 : Int) by decide) h112
                            refine lv_iload_n hx hb dX13_obey_352 rfl (lv_at hl 0 rfl) ?_
                            refine lv_goto (tgt := 360) hx hb dX13_obey_353 (by decide) ?_
                            refine va_put (D := (dC, dI)) (ci := 16) (fs := mF ad (wA (wA v 0 112 ((v.1 0 112) + (1 : Int32))) 0 106 ((v.1 0 106) - (1 : Int32)))) (v := .int ((v.1 72) (v.1 0 112).toNatClampNeg)) (ty := .int) (C := RX13) (T := TX13) (N := 124) hx hb ht itX13 tyX13 tyX13_ok nmX13 hown hK hP hD hS 0 rfl rfl 112 (by decide) (ht _ tw_334) (fun _ h9 => h9) rfl (by decide +kernel) rfl rfl (Nat.le_of_ble_eq_true rfl) dX13_obey_360 (fun H locs hP hD hS => ?_)
                            have hP := cP_ (mw_112 ad N cI cZ cJ (wA (wA v 0 112 ((v.1 0 112) + (1 : Int32))) 0 106 ((v.1 0 106) - (1 : Int32))) ((v.1 72) (v.1 0 112).toNatClampNeg)) hP
                            have hD := cD_ (mw_112 ad N cI cZ cJ (wA (wA v 0 112 ((v.1 0 112) + (1 : Int32))) 0 106 ((v.1 0 106) - (1 : Int32))) ((v.1 72) (v.1 0 112).toNatClampNeg)) hD
                            refine lv_goto (tgt := 402) hx hb dX13_obey_363 (by decide) ?_
                            refine lv_iconst (v := -1) hx hb dX13_obey_402 (by decide) ?_
                            exact W.iret (v := (-1)) hx hb hr (fun t ht9 hW => ⟨⟨(-1), (wA (wA (wA v 0 112 ((v.1 0 112) + (1 : Int32))) 0 106 ((v.1 0 106) - (1 : Int32))) 0 112 ((v.1 72) (v.1 0 112).toNatClampNeg)), rfl, ⟨(FG.f (FG.f (FG.f (FG.rf _) ((v.1 0 112) + (1 : Int32)) (by decide)) ((v.1 0 106) - (1 : Int32)) (by decide)) ((v.1 72) (v.1 0 112).toNatClampNeg) (by decide)), (Or.inl ⟨by decide, MI.popE (u := (wA (wA (wA v 0 112 ((v.1 0 112) + (1 : Int32))) 0 106 ((v.1 0 106) - (1 : Int32))) 0 112 ((v.1 72) (v.1 0 112).toNatClampNeg))) mi (Or.inr z107) rfl (all8f (P := fun k9 => ((wA (wA (wA v 0 112 ((v.1 0 112) + (1 : Int32))) 0 106 ((v.1 0 106) - (1 : Int32))) 0 112 ((v.1 72) (v.1 0 112).toNatClampNeg))).1 0 k9 = v.1 0 k9) rfl rfl rfl rfl rfl rfl rfl rfl) (all11g (P := fun k9 => ((wA (wA (wA v 0 112 ((v.1 0 112) + (1 : Int32))) 0 106 ((v.1 0 106) - (1 : Int32))) 0 112 ((v.1 72) (v.1 0 112).toNatClampNeg))).1 k9 = v.1 k9) rfl rfl rfl rfl rfl rfl rfl rfl rfl rfl rfl) (show ((v.1 0 106) - (1 : Int32)).toInt = (v.1 0 106).toInt - 1 from (om_4b62747e8a z111)) (fun j9 h9 => rfl) (show 0 ≤ (v.1 0 119).toInt ∧ (v.1 0 119).toInt ≤ (v.1 0 119).toInt + 1 from (om_c2c1baedc6 nm9)) (show 0 ≤ (v.1 0 120).toInt ∧ (v.1 0 120).toInt ≤ (v.1 0 120).toInt + 1 from (om_9ca839a770 nm9))⟩)⟩, by rw [ht9]; exact hP, hD⟩, hS.F ht9⟩) hS.2.2 dX13_obey_403
                        ·
                          have z115 : ((v.1 71) (v.1 0 112).toNatClampNeg).toInt ≠ (11 : Int) := ne_z rfl (show (11 : Int32).toInt = (11 : Int) by decide) h106
                          by_cases h116 : ((v.1 71) (v.1 0 112).toNatClampNeg) = 12
                          · refine lv_tableIn (off := 335) (tgt := 366) hx hb dX13_obey_31 (by rw [h116]; decide) (by rw [h116]; decide) (by rw [h116]; decide) (by decide) ?_
                            have z117 : ((v.1 71) (v.1 0 112).toNatClampNeg).toInt = (12 : Int) := eq_z rfl (show (12 : Int32).toInt = (12 : Int) by decide) h116
                            refine lv_aload_n hx hb dX13_obey_366 rfl (lv_at hl 2 rfl) ?_
                            refine lv_iload_n hx hb dX13_obey_367 rfl (lv_at hl 0 rfl) ?_
                            refine va_put (D := (dC, dI)) (ci := 16) (fs := mF ad (wA v 0 112 ((v.1 0 112) + (1 : Int32)))) (v := .int ((v.1 72) (v.1 0 112).toNatClampNeg)) (ty := .int) (C := RX13) (T := TX13) (N := 124) hx hb ht itX13 tyX13 tyX13_ok nmX13 hown hK hP hD hS 0 rfl rfl 112 (by decide) (ht _ tw_334) (fun _ h9 => h9) rfl (by decide +kernel) rfl rfl (Nat.le_of_ble_eq_true rfl) dX13_obey_368 (fun H locs hP hD hS => ?_)
                            have hP := cP_ (mw_112 ad N cI cZ cJ (wA v 0 112 ((v.1 0 112) + (1 : Int32))) ((v.1 72) (v.1 0 112).toNatClampNeg)) hP
                            have hD := cD_ (mw_112 ad N cI cZ cJ (wA v 0 112 ((v.1 0 112) + (1 : Int32))) ((v.1 72) (v.1 0 112).toNatClampNeg)) hD
                            refine lv_goto (tgt := 402) hx hb dX13_obey_371 (by decide) ?_
                            refine lv_iconst (v := -1) hx hb dX13_obey_402 (by decide) ?_
                            exact W.iret (v := (-1)) hx hb hr (fun t ht9 hW => ⟨⟨(-1), (wA (wA v 0 112 ((v.1 0 112) + (1 : Int32))) 0 112 ((v.1 72) (v.1 0 112).toNatClampNeg)), rfl, ⟨(FG.f (FG.f (FG.rf _) ((v.1 0 112) + (1 : Int32)) (by decide)) ((v.1 72) (v.1 0 112).toNatClampNeg) (by decide)), (Or.inl ⟨by decide, MI.jmpE (u := (wA (wA v 0 112 ((v.1 0 112) + (1 : Int32))) 0 112 ((v.1 72) (v.1 0 112).toNatClampNeg))) mi (Or.inl z117) rfl (all8f (P := fun k9 => ((wA (wA v 0 112 ((v.1 0 112) + (1 : Int32))) 0 112 ((v.1 72) (v.1 0 112).toNatClampNeg))).1 0 k9 = v.1 0 k9) rfl rfl rfl rfl rfl rfl rfl rfl) (all11g (P := fun k9 => ((wA (wA v 0 112 ((v.1 0 112) + (1 : Int32))) 0 112 ((v.1 72) (v.1 0 112).toNatClampNeg))).1 k9 = v.1 k9) rfl rfl rfl rfl rfl rfl rfl rfl rfl rfl rfl) (show (v.1 0 106).toInt = (v.1 0 106).toInt from om_93d572ac38) (fun _ _ => rfl) (show 0 ≤ (v.1 0 119).toInt ∧ (v.1 0 119).toInt ≤ (v.1 0 119).toInt + 1 from (om_c2c1baedc6 nm9)) (show 0 ≤ (v.1 0 120).toInt ∧ (v.1 0 120).toInt ≤ (v.1 0 120).toInt + 1 from (om_9ca839a770 nm9))⟩)⟩, by rw [ht9]; exact hP, hD⟩, hS.F ht9⟩) hS.2.2 dX13_obey_403
                          ·
                            have z118 : ((v.1 71) (v.1 0 112).toNatClampNeg).toInt ≠ (12 : Int) := ne_z rfl (show (12 : Int32).toInt = (12 : Int) by decide) h116
                            by_cases h119 : ((v.1 71) (v.1 0 112).toNatClampNeg) = 13
                            · refine lv_tableIn (off := 343) (tgt := 374) hx hb dX13_obey_31 (by rw [h119]; decide) (by rw [h119]; decide) (by rw [h119]; decide) (by decide) ?_
                              have z120 : ((v.1 71) (v.1 0 112).toNatClampNeg).toInt = (13 : Int) := eq_z rfl (show (13 : Int32).toInt = (13 : Int) by decide) h119
                              refine lv_aload_n hx hb dX13_obey_374 rfl (lv_at hl 2 rfl) ?_
                              refine cu_i (rn_V (n := 0) (As := []) (rest := []) hx hb hml hown ht hKK hFx hP hD hS hA (c_m_turn l dC dI cI cB cZ cJ cR tb H.size ad N (wA v 0 112 ((v.1 0 112) + (1 : Int32)))  (show 0 ≤ (v.1 0 113).toInt ∧ (v.1 0 114).toInt ≤ 20000 ∧ (v.1 0 113).toInt ≤ (v.1 0 114).toInt from (om_1595d946c5 nm9))) tw_345 tw_346 (by decide +kernel) rfl rfl ⟨Nat.le_of_ble_eq_true rfl, Nat.le_of_ble_eq_true rfl⟩ (List.range (mW ad N cI cZ cJ (wA v 0 112 ((v.1 0 112) + (1 : Int32)))).length) (rg_map _) (mW_nd _ _ _ _ _ _) rfl rfl rfl rfl hl.1 rfl (Nat.le_of_ble_eq_true rfl) dX13_obey_375 ⟨Nat.le_of_ble_eq_true rfl, Nat.le_of_ble_eq_true rfl⟩) hP hD hS hA (fun r123 u122 H locs hw121 hP hD hS => ?_)
                              obtain ⟨fr121, pt121⟩ := hw121
                              have pt121 : (r123.toInt = -1 ∧ (u122.1 0 113).toInt = (v.1 0 113).toInt + 1 ∧ (u122.1 0 113).toInt ≤ (v.1 0 114).toInt) ∨ (r123.toInt = 4 ∧ (u122.1 0 113).toInt = (v.1 0 113).toInt) := pt121
                              refine W.widen (k := 0) (n := 0) (Nat.le_refl _) (Nat.le_refl _) ?_
                              exact W.iret (v := r123) hx hb hr (fun t ht9 hW => ⟨⟨r123, u122, rfl, ⟨(FG.tr (FG.f (FG.rf _) ((v.1 0 112) + (1 : Int32)) (by decide)) (FG.up fr121 (by decide) (by decide))), (MI.turned (u := u122) mi z120 (Eq.trans (congrArg Int32.toInt (fr121.2.1 112 (by decide))) (show ((v.1 0 112) + (1 : Int32)).toInt = (v.1 0 112).toInt + 1 from (om_5bccfc38cf z1))) (all10f (P := fun k9 => (u122).1 0 k9 = v.1 0 k9) (show (u122).1 0 74 = v.1 0 74 from (fr121.2.1 74 (by decide))) (show (u122).1 0 75 = v.1 0 75 from (fr121.2.1 75 (by decide))) (show (u122).1 0 76 = v.1 0 76 from (fr121.2.1 76 (by decide))) (show (u122).1 0 106 = v.1 0 106 from (fr121.2.1 106 (by decide))) (show (u122).1 0 110 = v.1 0 110 from (fr121.2.1 110 (by decide))) (show (u122).1 0 111 = v.1 0 111 from (fr121.2.1 111 (by decide))) (show (u122).1 0 114 = v.1 0 114 from (fr121.2.1 114 (by decide))) (show (u122).1 0 115 = v.1 0 115 from (fr121.2.1 115 (by decide))) (show (u122).1 0 119 = v.1 0 119 from (fr121.2.1 119 (by decide))) (show (u122).1 0 120 = v.1 0 120 from (fr121.2.1 120 (by decide)))) (all12g (P := fun k9 => (u122).1 k9 = v.1 k9) (show (u122).1 71 = v.1 71 from (fr121.2.2 71 (by decide))) (show (u122).1 72 = v.1 72 from (fr121.2.2 72 (by decide))) (show (u122).1 78 = v.1 78 from (fr121.2.2 78 (by decide))) (show (u122).1 79 = v.1 79 from (fr121.2.2 79 (by decide))) (show (u122).1 81 = v.1 81 from (fr121.2.2 81 (by decide))) (show (u122).1 82 = v.1 82 from (fr121.2.2 82 (by decide))) (show (u122).1 85 = v.1 85 from (fr121.2.2 85 (by decide))) (show (u122).1 86 = v.1 86 from (fr121.2.2 86 (by decide))) (show (u122).1 105 = v.1 105 from (fr121.2.2 105 (by decide))) (show (u122).1 107 = v.1 107 from (fr121.2.2 107 (by decide))) (show (u122).1 108 = v.1 108 from (fr121.2.2 108 (by decide))) (show (u122).1 109 = v.1 109 from (fr121.2.2 109 (by decide)))) pt121)⟩, by rw [ht9]; exact hP, hD⟩, hS.F ht9⟩) hS.2.2 dX13_obey_378
                            ·
                              have z124 : ((v.1 71) (v.1 0 112).toNatClampNeg).toInt ≠ (13 : Int) := ne_z rfl (show (13 : Int32).toInt = (13 : Int) by decide) h119
                              by_cases h125 : ((v.1 71) (v.1 0 112).toNatClampNeg) = 14
                              · refine lv_tableIn (off := 348) (tgt := 379) hx hb dX13_obey_31 (by rw [h125]; decide) (by rw [h125]; decide) (by rw [h125]; decide) (by decide) ?_
                                have z126 : ((v.1 71) (v.1 0 112).toNatClampNeg).toInt = (14 : Int) := eq_z rfl (show (14 : Int32).toInt = (14 : Int) by decide) h125
                                have en9 := MI.en (u := (wA v 0 112 ((v.1 0 112) + (1 : Int32)))) (f := ((v.1 72) (v.1 0 112).toNatClampNeg)) mi z126 rfl (all11f (P := fun k9 => ((wA v 0 112 ((v.1 0 112) + (1 : Int32)))).1 0 k9 = v.1 0 k9) rfl rfl rfl rfl rfl rfl rfl rfl rfl rfl rfl) (all12g (P := fun k9 => ((wA v 0 112 ((v.1 0 112) + (1 : Int32)))).1 k9 = v.1 k9) rfl rfl rfl rfl rfl rfl rfl rfl rfl rfl rfl rfl) (show ((v.1 0 112) + (1 : Int32)).toInt = (v.1 0 112).toInt + 1 from (om_5bccfc38cf z1))
                                refine lv_aload_n hx hb dX13_obey_379 rfl (lv_at hl 2 rfl) ?_
                                refine lv_iload_n hx hb dX13_obey_380 rfl (lv_at hl 0 rfl) ?_
                                refine cu_i (rn_V (n := 1) (As := [.int ((v.1 72) (v.1 0 112).toNatClampNeg)]) (rest := []) hx hb hml hown ht hKK hFx hP hD hS hA (c_m_enter l dC dI cI cB cZ cJ cR tb H.size ad N (wA v 0 112 ((v.1 0 112) + (1 : Int32))) ((v.1 72) (v.1 0 112).toNatClampNeg) Tt Ee hg (show EN Tt Ee hg (wA v 0 112 ((v.1 0 112) + (1 : Int32))) ((v.1 72) (v.1 0 112).toNatClampNeg) from en9.1) (show (256 : Int) ≤ (N : Int) ∧ (N : Int) ≤ 4096 from (om_c42fe0fb85 zN)) (show 0 ≤ (v.1 0 74).toInt ∧ (v.1 0 74).toInt ≤ 40 from (om_7eaf33e007 zbf)) (show 0 ≤ (v.1 0 77).toInt ∧ (v.1 0 77).toInt ≤ 16384 from (om_8bbe4fe5ba zli)) (show AR 78 0 8 (wA v 0 112 ((v.1 0 112) + (1 : Int32))) from (AR.o a78 (by decide))) (show AR 79 0 2008 (wA v 0 112 ((v.1 0 112) + (1 : Int32))) from (AR.o a79 (by decide))) (show AR 82 0 500 (wA v 0 112 ((v.1 0 112) + (1 : Int32))) from (AR.o a82 (by decide)))) tw_348 tw_349 (by decide +kernel) rfl rfl ⟨Nat.le_of_ble_eq_true rfl, Nat.le_of_ble_eq_true rfl⟩ (List.range (mW ad N cI cZ cJ (wA v 0 112 ((v.1 0 112) + (1 : Int32)))).length) (rg_map _) (mW_nd _ _ _ _ _ _) rfl rfl rfl rfl hl.1 rfl (Nat.le_of_ble_eq_true rfl) dX13_obey_381 ⟨Nat.le_of_ble_eq_true rfl, Nat.le_of_ble_eq_true rfl⟩) hP hD hS hA (fun r129 u128 H locs hw127 hP hD hS => ?_)
                                obtain ⟨fr127, ob127⟩ := hw127
                                have ob127 : OBE Tt Ee hg (wA v 0 112 ((v.1 0 112) + (1 : Int32))) u128 r129 := ob127
                                refine W.widen (k := 0) (n := 0) (Nat.le_refl _) (Nat.le_refl _) ?_
                                exact W.iret (v := r129) hx hb hr (fun t ht9 hW => ⟨⟨r129, u128, rfl, ⟨(FG.tr (FG.f (FG.rf _) ((v.1 0 112) + (1 : Int32)) (by decide)) (FG.up fr127 (by decide) (by decide))), (OBE.to en9.2 ob127)⟩, by rw [ht9]; exact hP, hD⟩, hS.F ht9⟩) hS.2.2 dX13_obey_384
                              ·
                                have z130 : ((v.1 71) (v.1 0 112).toNatClampNeg).toInt ≠ (14 : Int) := ne_z rfl (show (14 : Int32).toInt = (14 : Int) by decide) h125
                                by_cases h131 : ((v.1 71) (v.1 0 112).toNatClampNeg) = 15
                                · refine lv_tableIn (off := 354) (tgt := 385) hx hb dX13_obey_31 (by rw [h131]; decide) (by rw [h131]; decide) (by rw [h131]; decide) (by decide) ?_
                                  have z132 : ((v.1 71) (v.1 0 112).toNatClampNeg).toInt = (15 : Int) := eq_z rfl (show (15 : Int32).toInt = (15 : Int) by decide) h131
                                  refine lv_aload_n hx hb dX13_obey_385 rfl (lv_at hl 2 rfl) ?_
                                  refine cu_i (rn_V (n := 0) (As := []) (rest := []) hx hb hml hown ht hKK hFx hP hD hS hA (c_m_leave l dC dI cI cB cZ cJ cR tb H.size ad N (wA v 0 112 ((v.1 0 112) + (1 : Int32))) Tt Ee hg (v.1 0 112) (show MI Tt Ee hg (wA v 0 112 ((v.1 0 112) + (1 : Int32))) (v.1 0 112) from (MI.next mi (fun k9 h9 => pk_un h9) (fun k9 h9 => if_neg h9))) (show ((v.1 71) (v.1 0 112).toNatClampNeg).toInt = 15 from (om_d31036e702 z132)) (show 0 ≤ (v.1 0 74).toInt ∧ (v.1 0 74).toInt ≤ 40 from (om_7eaf33e007 zbf)) (show AR 79 0 2008 (wA v 0 112 ((v.1 0 112) + (1 : Int32))) from (AR.o a79 (by decide)))) tw_350 tw_351 (by decide +kernel) rfl rfl ⟨Nat.le_of_ble_eq_true rfl, Nat.le_of_ble_eq_true rfl⟩ (List.range (mW ad N cI cZ cJ (wA v 0 112 ((v.1 0 112) + (1 : Int32)))).length) (rg_map _) (mW_nd _ _ _ _ _ _) rfl rfl rfl rfl hl.1 rfl (Nat.le_of_ble_eq_true rfl) dX13_obey_386 ⟨Nat.le_of_ble_eq_true rfl, Nat.le_of_ble_eq_true rfl⟩) hP hD hS hA (fun r135 u134 H locs hw133 hP hD hS => ?_)
                                  obtain ⟨fr133, ob133⟩ := hw133
                                  have ob133 : OBP Tt Ee hg (wA v 0 112 ((v.1 0 112) + (1 : Int32))) u134 (v.1 0 112) r135 := ob133
                                  refine W.widen (k := 0) (n := 0) (Nat.le_refl _) (Nat.le_refl _) ?_
                                  exact W.iret (v := r135) hx hb hr (fun t ht9 hW => ⟨⟨r135, u134, rfl, ⟨(FG.tr (FG.f (FG.rf _) ((v.1 0 112) + (1 : Int32)) (by decide)) (FG.up fr133 (by decide) (by decide))), ob133⟩, by rw [ht9]; exact hP, hD⟩, hS.F ht9⟩) hS.2.2 dX13_obey_389
                                ·
                                  have z136 : ((v.1 71) (v.1 0 112).toNatClampNeg).toInt ≠ (15 : Int) := ne_z rfl (show (15 : Int32).toInt = (15 : Int) by decide) h131
                                  by_cases h137 : ((v.1 71) (v.1 0 112).toNatClampNeg) = 16
                                  · refine lv_tableIn (off := 365) (tgt := 396) hx hb dX13_obey_31 (by rw [h137]; decide) (by rw [h137]; decide) (by rw [h137]; decide) (by decide) ?_
                                    have z138 : ((v.1 71) (v.1 0 112).toNatClampNeg).toInt = (16 : Int) := eq_z rfl (show (16 : Int32).toInt = (16 : Int) by decide) h137
                                    refine lv_aload_n hx hb dX13_obey_396 rfl (lv_at hl 2 rfl) ?_
                                    refine lv_iload_n hx hb dX13_obey_397 rfl (lv_at hl 1 rfl) ?_
                                    refine lv_iload_n hx hb dX13_obey_398 rfl (lv_at hl 0 rfl) ?_
                                    refine cu_v (rn_V (n := 2) (As := [.int ((v.1 71) (v.1 0 112).toNatClampNeg), .int ((v.1 72) (v.1 0 112).toNatClampNeg)]) (rest := []) hx hb hml hown ht hKK hFx hP hD hS hA (c_m_others l dC dI cI cB cZ cJ cR tb H.size ad N (wA v 0 112 ((v.1 0 112) + (1 : Int32))) ((v.1 71) (v.1 0 112).toNatClampNeg) ((v.1 72) (v.1 0 112).toNatClampNeg) Tt Ee hg (v.1 0 112) (show MI Tt Ee hg (wA v 0 112 ((v.1 0 112) + (1 : Int32))) (v.1 0 112) from (MI.next mi (fun k9 h9 => pk_un h9) (fun k9 h9 => if_neg h9))) (show ((v.1 0 112) + (1 : Int32)).toInt = (v.1 0 112).toInt + 1 from (om_5bccfc38cf z1)) (show ((v.1 71) (v.1 0 112).toNatClampNeg) = (v.1 71) (v.1 0 112).toNatClampNeg from rfl) (show ((v.1 72) (v.1 0 112).toNatClampNeg) = (v.1 72) (v.1 0 112).toNatClampNeg from rfl) (show 16 ≤ ((v.1 71) (v.1 0 112).toNatClampNeg).toInt ∧ ((v.1 71) (v.1 0 112).toNatClampNeg).toInt ≤ 24 ∧ ((v.1 71) (v.1 0 112).toNatClampNeg).toInt ≠ 21 from (om_f2fd81bc18 z138)) (show 0 ≤ (v.1 0 94).toInt ∧ (v.1 0 94).toInt ≤ 64 from (om_0522002ca7 zg))) tw_352 tw_353 (by decide +kernel) rfl rfl ⟨Nat.le_of_ble_eq_true rfl, Nat.le_of_ble_eq_true rfl⟩ (List.range (mW ad N cI cZ cJ (wA v 0 112 ((v.1 0 112) + (1 : Int32)))).length) (rg_map _) (mW_nd _ _ _ _ _ _) rfl rfl rfl rfl hl.1 rfl (Nat.le_of_ble_eq_true rfl) dX13_obey_399 ⟨Nat.le_of_ble_eq_true rfl, Nat.le_of_ble_eq_true rfl⟩) hP hD hS hA (fun u140 H locs hw139 hP hD hS => ?_)
                                    obtain ⟨fr139, ob139⟩ := hw139
                                    have ob139 : MI Tt Ee hg u140 (u140.1 0 112) ∧ PHI Tt u140 (u140.1 0 112) < PHI Tt (wA v 0 112 ((v.1 0 112) + (1 : Int32))) (v.1 0 112) := ob139
                                    refine W.widen (k := 0) (n := 0) (Nat.le_refl _) (Nat.le_refl _) ?_
                                    refine lv_iconst (v := -1) hx hb dX13_obey_402 (by decide) ?_
                                    exact W.iret (v := (-1)) hx hb hr (fun t ht9 hW => ⟨⟨(-1), u140, rfl, ⟨(FG.tr (FG.f (FG.rf _) ((v.1 0 112) + (1 : Int32)) (by decide)) (FG.up fr139 (by decide) (by decide))), (MI.other mi ob139 (by decide))⟩, by rw [ht9]; exact hP, hD⟩, hS.F ht9⟩) hS.2.2 dX13_obey_403
                                  ·
                                    have z142 : ((v.1 71) (v.1 0 112).toNatClampNeg).toInt ≠ (16 : Int) := ne_z rfl (show (16 : Int32).toInt = (16 : Int) by decide) h137
                                    by_cases h143 : ((v.1 71) (v.1 0 112).toNatClampNeg) = 17
                                    · refine lv_tableIn (off := 365) (tgt := 396) hx hb dX13_obey_31 (by rw [h143]; decide) (by rw [h143]; decide) (by rw [h143]; decide) (by decide) ?_
                                      have z144 : ((v.1 71) (v.1 0 112).toNatClampNeg).toInt = (17 : Int) := eq_z rfl (show (17 : Int32).toInt = (17 : Int) by decide) h143
                                      refine lv_aload_n hx hb dX13_obey_396 rfl (lv_at hl 2 rfl) ?_
                                      refine lv_iload_n hx hb dX13_obey_397 rfl (lv_at hl 1 rfl) ?_
                                      refine lv_iload_n hx hb dX13_obey_398 rfl (lv_at hl 0 rfl) ?_
                                      refine cu_v (rn_V (n := 2) (As := [.int ((v.1 71) (v.1 0 112).toNatClampNeg), .int ((v.1 72) (v.1 0 112).toNatClampNeg)]) (rest := []) hx hb hml hown ht hKK hFx hP hD hS hA (c_m_others l dC dI cI cB cZ cJ cR tb H.size ad N (wA v 0 112 ((v.1 0 112) + (1 : Int32))) ((v.1 71) (v.1 0 112).toNatClampNeg) ((v.1 72) (v.1 0 112).toNatClampNeg) Tt Ee hg (v.1 0 112) (show MI Tt Ee hg (wA v 0 112 ((v.1 0 112) + (1 : Int32))) (v.1 0 112) from (MI.next mi (fun k9 h9 => pk_un h9) (fun k9 h9 => if_neg h9))) (show ((v.1 0 112) + (1 : Int32)).toInt = (v.1 0 112).toInt + 1 from (om_5bccfc38cf z1)) (show ((v.1 71) (v.1 0 112).toNatClampNeg) = (v.1 71) (v.1 0 112).toNatClampNeg from rfl) (show ((v.1 72) (v.1 0 112).toNatClampNeg) = (v.1 72) (v.1 0 112).toNatClampNeg from rfl) (show 16 ≤ ((v.1 71) (v.1 0 112).toNatClampNeg).toInt ∧ ((v.1 71) (v.1 0 112).toNatClampNeg).toInt ≤ 24 ∧ ((v.1 71) (v.1 0 112).toNatClampNeg).toInt ≠ 21 from (om_ab2934fd5d z144)) (show 0 ≤ (v.1 0 94).toInt ∧ (v.1 0 94).toInt ≤ 64 from (om_0522002ca7 zg))) tw_352 tw_353 (by decide +kernel) rfl rfl ⟨Nat.le_of_ble_eq_true rfl, Nat.le_of_ble_eq_true rfl⟩ (List.range (mW ad N cI cZ cJ (wA v 0 112 ((v.1 0 112) + (1 : Int32)))).length) (rg_map _) (mW_nd _ _ _ _ _ _) rfl rfl rfl rfl hl.1 rfl (Nat.le_of_ble_eq_true rfl) dX13_obey_399 ⟨Nat.le_of_ble_eq_true rfl, Nat.le_of_ble_eq_true rfl⟩) hP hD hS hA (fun u146 H locs hw145 hP hD hS => ?_)
                                      obtain ⟨fr145, ob145⟩ := hw145
                                      have ob145 : MI Tt Ee hg u146 (u146.1 0 112) ∧ PHI Tt u146 (u146.1 0 112) < PHI Tt (wA v 0 112 ((v.1 0 112) + (1 : Int32))) (v.1 0 112) := ob145
                                      refine W.widen (k := 0) (n := 0) (Nat.le_refl _) (Nat.le_refl _) ?_
                                      refine lv_iconst (v := -1) hx hb dX13_obey_402 (by decide) ?_
                                      exact W.iret (v := (-1)) hx hb hr (fun t ht9 hW => ⟨⟨(-1), u146, rfl, ⟨(FG.tr (FG.f (FG.rf _) ((v.1 0 112) + (1 : Int32)) (by decide)) (FG.up fr145 (by decide) (by decide))), (MI.other mi ob145 (by decide))⟩, by rw [ht9]; exact hP, hD⟩, hS.F ht9⟩) hS.2.2 dX13_obey_403
                                    ·
                                      have z148 : ((v.1 71) (v.1 0 112).toNatClampNeg).toInt ≠ (17 : Int) := ne_z rfl (show (17 : Int32).toInt = (17 : Int) by decide) h143
                                      by_cases h149 : ((v.1 71) (v.1 0 112).toNatClampNeg) = 18
                                      · refine lv_tableIn (off := 365) (tgt := 396) hx hb dX13_obey_31 (by rw [h149]; decide) (by rw [h149]; decide) (by rw [h149]; decide) (by decide) ?_
                                        have z150 : ((v.1 71) (v.1 0 112).toNatClampNeg).toInt = (18 : Int) := eq_z rfl (show (18 : Int32).toInt = (18 : Int) by decide) h149
                                        refine lv_aload_n hx hb dX13_obey_396 rfl (lv_at hl 2 rfl) ?_
                                        refine lv_iload_n hx hb dX13_obey_397 rfl (lv_at hl 1 rfl) ?_
                                        refine lv_iload_n hx hb dX13_obey_398 rfl (lv_at hl 0 rfl) ?_
                                        refine cu_v (rn_V (n := 2) (As := [.int ((v.1 71) (v.1 0 112).toNatClampNeg), .int ((v.1 72) (v.1 0 112).toNatClampNeg)]) (rest := []) hx hb hml hown ht hKK hFx hP hD hS hA (c_m_others l dC dI cI cB cZ cJ cR tb H.size ad N (wA v 0 112 ((v.1 0 112) + (1 : Int32))) ((v.1 71) (v.1 0 112).toNatClampNeg) ((v.1 72) (v.1 0 112).toNatClampNeg) Tt Ee hg (v.1 0 112) (show MI Tt Ee hg (wA v 0 112 ((v.1 0 112) + (1 : Int32))) (v.1 0 112) from (MI.next mi (fun k9 h9 => pk_un h9) (fun k9 h9 => if_neg h9))) (show ((v.1 0 112) + (1 : Int32)).toInt = (v.1 0 112).toInt + 1 from (om_5bccfc38cf z1)) (show ((v.1 71) (v.1 0 112).toNatClampNeg) = (v.1 71) (v.1 0 112).toNatClampNeg from rfl) (show ((v.1 72) (v.1 0 112).toNatClampNeg) = (v.1 72) (v.1 0 112).toNatClampNeg from rfl) (show 16 ≤ ((v.1 71) (v.1 0 112).toNatClampNeg).toInt ∧ ((v.1 71) (v.1 0 112).toNatClampNeg).toInt ≤ 24 ∧ ((v.1 71) (v.1 0 112).toNatClampNeg).toInt ≠ 21 from (om_374653b12a z150)) (show 0 ≤ (v.1 0 94).toInt ∧ (v.1 0 94).toInt ≤ 64 from (om_0522002ca7 zg))) tw_352 tw_353 (by decide +kernel) rfl rfl ⟨Nat.le_of_ble_eq_true rfl, Nat.le_of_ble_eq_true rfl⟩ (List.range (mW ad N cI cZ cJ (wA v 0 112 ((v.1 0 112) + (1 : Int32)))).length) (rg_map _) (mW_nd _ _ _ _ _ _) rfl rfl rfl rfl hl.1 rfl (Nat.le_of_ble_eq_true rfl) dX13_obey_399 ⟨Nat.le_of_ble_eq_true rfl, Nat.le_of_ble_eq_true rfl⟩) hP hD hS hA (fun u152 H locs hw151 hP hD hS => ?_)
                                        obtain ⟨fr151, ob151⟩ := hw151
                                        have ob151 : MI Tt Ee hg u152 (u152.1 0 112) ∧ PHI Tt u152 (u152.1 0 112) < PHI Tt (wA v 0 112 ((v.1 0 112) + (1 : Int32))) (v.1 0 112) := ob151
                                        refine W.widen (k := 0) (n := 0) (Nat.le_refl _) (Nat.le_refl _) ?_
                                        refine lv_iconst (v := -1) hx hb dX13_obey_402 (by decide) ?_
                                        exact W.iret (v := (-1)) hx hb hr (fun t ht9 hW => ⟨⟨(-1), u152, rfl, ⟨(FG.tr (FG.f (FG.rf _) ((v.1 0 112) + (1 : Int32)) (by decide)) (FG.up fr151 (by decide) (by decide))), (MI.other mi ob151 (by decide))⟩, by rw [ht9]; exact hP, hD⟩, hS.F ht9⟩) hS.2.2 dX13_obey_403
                                      ·
                                        have z154 : ((v.1 71) (v.1 0 112).toNatClampNeg).toInt ≠ (18 : Int) := ne_z rfl (show (18 : Int32).toInt = (18 : Int) by decide) h149
                                        by_cases h155 : ((v.1 71) (v.1 0 112).toNatClampNeg) = 19
                                        · refine lv_tableIn (off := 365) (tgt := 396) hx hb dX13_obey_31 (by rw [h155]; decide) (by rw [h155]; decide) (by rw [h155]; decide) (by decide) ?_
                                          have z156 : ((v.1 71) (v.1 0 112).toNatClampNeg).toInt = (19 : Int) := eq_z rfl (show (19 : Int32).toInt = (19 : Int) by decide) h155
                                          refine lv_aload_n hx hb dX13_obey_396 rfl (lv_at hl 2 rfl) ?_
                                          refine lv_iload_n hx hb dX13_obey_397 rfl (lv_at hl 1 rfl) ?_
                                          refine lv_iload_n hx hb dX13_obey_398 rfl (lv_at hl 0 rfl) ?_
                                          refine cu_v (rn_V (n := 2) (As := [.int ((v.1 71) (v.1 0 112).toNatClampNeg), .int ((v.1 72) (v.1 0 112).toNatClampNeg)]) (rest := []) hx hb hml hown ht hKK hFx hP hD hS hA (c_m_others l dC dI cI cB cZ cJ cR tb H.size ad N (wA v 0 112 ((v.1 0 112) + (1 : Int32))) ((v.1 71) (v.1 0 112).toNatClampNeg) ((v.1 72) (v.1 0 112).toNatClampNeg) Tt Ee hg (v.1 0 112) (show MI Tt Ee hg (wA v 0 112 ((v.1 0 112) + (1 : Int32))) (v.1 0 112) from (MI.next mi (fun k9 h9 => pk_un h9) (fun k9 h9 => if_neg h9))) (show ((v.1 0 112) + (1 : Int32)).toInt = (v.1 0 112).toInt + 1 from (om_5bccfc38cf z1)) (show ((v.1 71) (v.1 0 112).toNatClampNeg) = (v.1 71) (v.1 0 112).toNatClampNeg from rfl) (show ((v.1 72) (v.1 0 112).toNatClampNeg) = (v.1 72) (v.1 0 112).toNatClampNeg from rfl) (show 16 ≤ ((v.1 71) (v.1 0 112).toNatClampNeg).toInt ∧ ((v.1 71) (v.1 0 112).toNatClampNeg).toInt ≤ 24 ∧ ((v.1 71) (v.1 0 112).toNatClampNeg).toInt ≠ 21 from (om_353cc5b285 z156)) (show 0 ≤ (v.1 0 94).toInt ∧ (v.1 0 94).toInt ≤ 64 from (om_0522002ca7 zg))) tw_352 tw_353 (by decide +kernel) rfl rfl ⟨Nat.le_of_ble_eq_true rfl, Nat.le_of_ble_eq_true rfl⟩ (List.range (mW ad N cI cZ cJ (wA v 0 112 ((v.1 0 112) + (1 : Int32)))).length) (rg_map _) (mW_nd _ _ _ _ _ _) rfl rfl rfl rfl hl.1 rfl (Nat.le_of_ble_eq_true rfl) dX13_obey_399 ⟨Nat.le_of_ble_eq_true rfl, Nat.le_of_ble_eq_true rfl⟩) hP hD hS hA (fun u158 H locs hw157 hP hD hS => ?_)
                                          obtain ⟨fr157, ob157⟩ := hw157
                                          have ob157 : MI Tt Ee hg u158 (u158.1 0 112) ∧ PHI Tt u158 (u158.1 0 112) < PHI Tt (wA v 0 112 ((v.1 0 112) + (1 : Int32))) (v.1 0 112) := ob157
                                          refine W.widen (k := 0) (n := 0) (Nat.le_refl _) (Nat.le_refl _) ?_
                                          refine lv_iconst (v := -1) hx hb dX13_obey_402 (by decide) ?_
                                          exact W.iret (v := (-1)) hx hb hr (fun t ht9 hW => ⟨⟨(-1), u158, rfl, ⟨(FG.tr (FG.f (FG.rf _) ((v.1 0 112) + (1 : Int32)) (by decide)) (FG.up fr157 (by decide) (by decide))), (MI.other mi ob157 (by decide))⟩, by rw [ht9]; exact hP, hD⟩, hS.F ht9⟩) hS.2.2 dX13_obey_403
                                        ·
                                          have z160 : ((v.1 71) (v.1 0 112).toNatClampNeg).toInt ≠ (19 : Int) := ne_z rfl (show (19 : Int32).toInt = (19 : Int) by decide) h155
                                          by_cases h161 : ((v.1 71) (v.1 0 112).toNatClampNeg) = 20
                                          · refine lv_tableIn (off := 365) (tgt := 396) hx hb dX13_obey_31 (by rw [h161]; decide) (by rw [h161]; decide) (by rw [h161]; decide) (by decide) ?_
                                            have z162 : ((v.1 71) (v.1 0 112).toNatClampNeg).toInt = (20 : Int) := eq_z rfl (show (20 : Int32).toInt = (20 : Int) by decide) h161
                                            refine lv_aload_n hx hb dX13_obey_396 rfl (lv_at hl 2 rfl) ?_
                                            refine lv_iload_n hx hb dX13_obey_397 rfl (lv_at hl 1 rfl) ?_
                                            refine lv_iload_n hx hb dX13_obey_398 rfl (lv_at hl 0 rfl) ?_
                                            refine cu_v (rn_V (n := 2) (As := [.int ((v.1 71) (v.1 0 112).toNatClampNeg), .int ((v.1 72) (v.1 0 112).toNatClampNeg)]) (rest := []) hx hb hml hown ht hKK hFx hP hD hS hA (c_m_others l dC dI cI cB cZ cJ cR tb H.size ad N (wA v 0 112 ((v.1 0 112) + (1 : Int32))) ((v.1 71) (v.1 0 112).toNatClampNeg) ((v.1 72) (v.1 0 112).toNatClampNeg) Tt Ee hg (v.1 0 112) (show MI Tt Ee hg (wA v 0 112 ((v.1 0 112) + (1 : Int32))) (v.1 0 112) from (MI.next mi (fun k9 h9 => pk_un h9) (fun k9 h9 => if_neg h9))) (show ((v.1 0 112) + (1 : Int32)).toInt = (v.1 0 112).toInt + 1 from (om_5bccfc38cf z1)) (show ((v.1 71) (v.1 0 112).toNatClampNeg) = (v.1 71) (v.1 0 112).toNatClampNeg from rfl) (show ((v.1 72) (v.1 0 112).toNatClampNeg) = (v.1 72) (v.1 0 112).toNatClampNeg from rfl) (show 16 ≤ ((v.1 71) (v.1 0 112).toNatClampNeg).toInt ∧ ((v.1 71) (v.1 0 112).toNatClampNeg).toInt ≤ 24 ∧ ((v.1 71) (v.1 0 112).toNatClampNeg).toInt ≠ 21 from (om_552f4990e0 z162)) (show 0 ≤ (v.1 0 94).toInt ∧ (v.1 0 94).toInt ≤ 64 from (om_0522002ca7 zg))) tw_352 tw_353 (by decide +kernel) rfl rfl ⟨Nat.le_of_ble_eq_true rfl, Nat.le_of_ble_eq_true rfl⟩ (List.range (mW ad N cI cZ cJ (wA v 0 112 ((v.1 0 112) + (1 : Int32)))).length) (rg_map _) (mW_nd _ _ _ _ _ _) rfl rfl rfl rfl hl.1 rfl (Nat.le_of_ble_eq_true rfl) dX13_obey_399 ⟨Nat.le_of_ble_eq_true rfl, Nat.le_of_ble_eq_true rfl⟩) hP hD hS hA (fun u164 H locs hw163 hP hD hS => ?_)
                                            obtain ⟨fr163, ob163⟩ := hw163
                                            have ob163 : MI Tt Ee hg u164 (u164.1 0 112) ∧ PHI Tt u164 (u164.1 0 112) < PHI Tt (wA v 0 112 ((v.1 0 112) + (1 : Int32))) (v.1 0 112) := ob163
                                            refine W.widen (k := 0) (n := 0) (Nat.le_refl _) (Nat.le_refl _) ?_
                                            refine lv_iconst (v := -1) hx hb dX13_obey_402 (by decide) ?_
                                            exact W.iret (v := (-1)) hx hb hr (fun t ht9 hW => ⟨⟨(-1), u164, rfl, ⟨(FG.tr (FG.f (FG.rf _) ((v.1 0 112) + (1 : Int32)) (by decide)) (FG.up fr163 (by decide) (by decide))), (MI.other mi ob163 (by decide))⟩, by rw [ht9]; exact hP, hD⟩, hS.F ht9⟩) hS.2.2 dX13_obey_403
                                          ·
                                            have z166 : ((v.1 71) (v.1 0 112).toNatClampNeg).toInt ≠ (20 : Int) := ne_z rfl (show (20 : Int32).toInt = (20 : Int) by decide) h161
                                            by_cases h167 : ((v.1 71) (v.1 0 112).toNatClampNeg) = 21
                                            · refine lv_tableIn (off := 359) (tgt := 390) hx hb dX13_obey_31 (by rw [h167]; decide) (by rw [h167]; decide) (by rw [h167]; decide) (by decide) ?_
                                              have z168 : ((v.1 71) (v.1 0 112).toNatClampNeg).toInt = (21 : Int) := eq_z rfl (show (21 : Int32).toInt = (21 : Int) by decide) h167
                                              refine lv_aload_n hx hb dX13_obey_390 rfl (lv_at hl 2 rfl) ?_
                                              refine lv_iload_n hx hb dX13_obey_391 rfl (lv_at hl 0 rfl) ?_
                                              refine cu_i (rn_V (n := 1) (As := [.int ((v.1 72) (v.1 0 112).toNatClampNeg)]) (rest := []) hx hb hml hown ht hKK hFx hP hD hS hA (c_m_operates l dC dI cI cB cZ cJ cR tb H.size ad N (wA v 0 112 ((v.1 0 112) + (1 : Int32))) ((v.1 72) (v.1 0 112).toNatClampNeg) Tt Ee hg (v.1 0 112) (show MI Tt Ee hg (wA v 0 112 ((v.1 0 112) + (1 : Int32))) (v.1 0 112) from (MI.next mi (fun k9 h9 => pk_un h9) (fun k9 h9 => if_neg h9))) (show ((v.1 0 112) + (1 : Int32)).toInt = (v.1 0 112).toInt + 1 from (om_5bccfc38cf z1)) (show ((v.1 71) (v.1 0 112).toNatClampNeg).toInt = 21 from (om_f7f9480013 z168))) tw_354 tw_355 (by decide +kernel) rfl rfl ⟨Nat.le_of_ble_eq_true rfl, Nat.le_of_ble_eq_true rfl⟩ (List.range (mW ad N cI cZ cJ (wA v 0 112 ((v.1 0 112) + (1 : Int32)))).length) (rg_map _) (mW_nd _ _ _ _ _ _) rfl rfl rfl rfl hl.1 rfl (Nat.le_of_ble_eq_true rfl) dX13_obey_392 ⟨Nat.le_of_ble_eq_true rfl, Nat.le_of_ble_eq_true rfl⟩) hP hD hS hA (fun r171 u170 H locs hw169 hP hD hS => ?_)
                                              obtain ⟨fr169, ob169⟩ := hw169
                                              have ob169 : OBP Tt Ee hg (wA v 0 112 ((v.1 0 112) + (1 : Int32))) u170 (v.1 0 112) r171 := ob169
                                              refine W.widen (k := 0) (n := 0) (Nat.le_refl _) (Nat.le_refl _) ?_
                                              exact W.iret (v := r171) hx hb hr (fun t ht9 hW => ⟨⟨r171, u170, rfl, ⟨(FG.tr (FG.f (FG.rf _) ((v.1 0 112) + (1 : Int32)) (by decide)) (FG.up fr169 (by decide) (by decide))), ob169⟩, by rw [ht9]; exact hP, hD⟩, hS.F ht9⟩) hS.2.2 dX13_obey_395
                                            ·
                                              have z172 : ((v.1 71) (v.1 0 112).toNatClampNeg).toInt ≠ (21 : Int) := ne_z rfl (show (21 : Int32).toInt = (21 : Int) by decide) h167
                                              refine lv_tableOut (tgt := 396) hx hb dX13_obey_31 (by have := lv_neT h2 (a := 0) (by decide); have := lv_neT h9 (a := 1) (by decide); have := lv_neT h17 (a := 2) (by decide); have := lv_neT h22 (a := 3) (by decide); have := lv_neT h29 (a := 4) (by decide); have := lv_neT h33 (a := 5) (by decide); have := lv_neT h51 (a := 6) (by decide); have := lv_neT h63 (a := 7) (by decide); have := lv_neT h72 (a := 8) (by decide); have := lv_neT h89 (a := 9) (by decide); have := lv_neT h96 (a := 10) (by decide); have := lv_neT h106 (a := 11) (by decide); have := lv_neT h116 (a := 12) (by decide); have := lv_neT h119 (a := 13) (by decide); have := lv_neT h125 (a := 14) (by decide); have := lv_neT h131 (a := 15) (by decide); have := lv_neT h137 (a := 16) (by decide); have := lv_neT h143 (a := 17) (by decide); have := lv_neT h149 (a := 18) (by decide); have := lv_neT h155 (a := 19) (by decide); have := lv_neT h161 (a := 20) (by decide); have := lv_neT h167 (a := 21) (by decide); omega) (by decide) ?_
                                              refine lv_aload_n hx hb dX13_obey_396 rfl (lv_at hl 2 rfl) ?_
                                              refine lv_iload_n hx hb dX13_obey_397 rfl (lv_at hl 1 rfl) ?_
                                              refine lv_iload_n hx hb dX13_obey_398 rfl (lv_at hl 0 rfl) ?_
                                              refine cu_v (rn_V (n := 2) (As := [.int ((v.1 71) (v.1 0 112).toNatClampNeg), .int ((v.1 72) (v.1 0 112).toNatClampNeg)]) (rest := []) hx hb hml hown ht hKK hFx hP hD hS hA (c_m_others l dC dI cI cB cZ cJ cR tb H.size ad N (wA v 0 112 ((v.1 0 112) + (1 : Int32))) ((v.1 71) (v.1 0 112).toNatClampNeg) ((v.1 72) (v.1 0 112).toNatClampNeg) Tt Ee hg (v.1 0 112) (show MI Tt Ee hg (wA v 0 112 ((v.1 0 112) + (1 : Int32))) (v.1 0 112) from (MI.next mi (fun k9 h9 => pk_un h9) (fun k9 h9 => if_neg h9))) (show ((v.1 0 112) + (1 : Int32)).toInt = (v.1 0 112).toInt + 1 from (om_5bccfc38cf z1)) (show ((v.1 71) (v.1 0 112).toNatClampNeg) = (v.1 71) (v.1 0 112).toNatClampNeg from rfl) (show ((v.1 72) (v.1 0 112).toNatClampNeg) = (v.1 72) (v.1 0 112).toNatClampNeg from rfl) (show 16 ≤ ((v.1 71) (v.1 0 112).toNatClampNeg).toInt ∧ ((v.1 71) (v.1 0 112).toNatClampNeg).toInt ≤ 24 ∧ ((v.1 71) (v.1 0 112).toNatClampNeg).toInt ≠ 21 from (om_7d53805438 or9 z8 z16 z21 z28 z32 z50 z62 z71 z88 z95 z105 z115 z118 z124 z130 z136 z172)) (show 0 ≤ (v.1 0 94).toInt ∧ (v.1 0 94).toInt ≤ 64 from (om_0522002ca7 zg))) tw_352 tw_353 (by decide +kernel) rfl rfl ⟨Nat.le_of_ble_eq_true rfl, Nat.le_of_ble_eq_true rfl⟩ (List.range (mW ad N cI cZ cJ (wA v 0 112 ((v.1 0 112) + (1 : Int32)))).length) (rg_map _) (mW_nd _ _ _ _ _ _) rfl rfl rfl rfl hl.1 rfl (Nat.le_of_ble_eq_true rfl) dX13_obey_399 ⟨Nat.le_of_ble_eq_true rfl, Nat.le_of_ble_eq_true rfl⟩) hP hD hS hA (fun u174 H locs hw173 hP hD hS => ?_)
                                              obtain ⟨fr173, ob173⟩ := hw173
                                              have ob173 : MI Tt Ee hg u174 (u174.1 0 112) ∧ PHI Tt u174 (u174.1 0 112) < PHI Tt (wA v 0 112 ((v.1 0 112) + (1 : Int32))) (v.1 0 112) := ob173
                                              refine W.widen (k := 0) (n := 0) (Nat.le_refl _) (Nat.le_refl _) ?_
                                              refine lv_iconst (v := -1) hx hb dX13_obey_402 (by decide) ?_
                                              exact W.iret (v := (-1)) hx hb hr (fun t ht9 hW => ⟨⟨(-1), u174, rfl, ⟨(FG.tr (FG.f (FG.rf _) ((v.1 0 112) + (1 : Int32)) (by decide)) (FG.up fr173 (by decide) (by decide))), (MI.other mi ob173 (by decide))⟩, by rw [ht9]; exact hP, hD⟩, hS.F ht9⟩) hS.2.2 dX13_obey_403
