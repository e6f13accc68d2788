theorem dX13_operate_0 : decode cX13_operate 0 = .ok (.aload_n 0, 1) := by decide +kernel
theorem dX13_operate_1 : decode cX13_operate 1 = .ok (.bipush 21, 2) := by decide +kernel
theorem dX13_operate_3 : decode cX13_operate 3 = .ok (.iload_n 1, 1) := by decide +kernel
theorem dX13_operate_4 : decode cX13_operate 4 = .ok (.invokevirtual 210, 3) := by decide +kernel
theorem dX13_operate_7 : decode cX13_operate 7 = .ok (.pop, 1) := by decide +kernel
theorem dX13_operate_8 : decode cX13_operate 8 = .ok (.iload_n 1, 1) := by decide +kernel
theorem dX13_operate_9 : decode cX13_operate 9 = .ok (.lookupswitch 440 #[(38, 160), (42, 426), (43, 123), (45, 141), (60, 253), (62, 271), (94, 198), (124, 179), (15420, 216), (15649, 392), (15676, 289), (15677, 357), (15678, 323), (15934, 234)], 123) := by decide +kernel
theorem dX13_operate_169 : decode cX13_operate 169 = .ok (.aload_n 0, 1) := by decide +kernel
theorem dX13_operate_170 : decode cX13_operate 170 = .ok (.iconst 0, 1) := by decide +kernel
theorem dX13_operate_171 : decode cX13_operate 171 = .ok (.bipush 7, 2) := by decide +kernel
theorem dX13_operate_173 : decode cX13_operate 173 = .ok (.bipush 10, 2) := by decide +kernel
theorem dX13_operate_175 : decode cX13_operate 175 = .ok (.iconst 5, 1) := by decide +kernel
theorem dX13_operate_176 : decode cX13_operate 176 = .ok (.bipush 10, 2) := by decide +kernel
theorem dX13_operate_178 : decode cX13_operate 178 = .ok (.invokestatic 213, 3) := by decide +kernel
theorem tw_67 : (.code yX13_byR cX13_byR 5 (some .int) : Cond) ∈ tw_W := tw_in (t8_10 (List.mem_of_getElem? (i := 12) rfl)) rfl
theorem tw_68 : ∀ w ∈ ([.methodLink RX13 213 yX13_byR, .static yX13_byR, .initialized yX13_byR.cls] : List Cond), w ∈ tw_W := al_c (tw_in (t8_10 (List.mem_of_getElem? (i := 10) rfl)) rfl) (al_c (tw_in (t8_10 (List.mem_of_getElem? (i := 11) rfl)) rfl) (al_c (tw_in (t8_1 (List.mem_of_getElem? (i := 23) rfl)) rfl) al_n))
theorem dX13_operate_181 : decode cX13_operate 181 = .ok (.invokevirtual 111, 3) := by decide +kernel
theorem dX13_operate_184 : decode cX13_operate 184 = .ok (.pop, 1) := by decide +kernel
theorem dX13_operate_185 : decode cX13_operate 185 = .ok (.goto 295, 3) := by decide +kernel
theorem dX13_operate_480 : decode cX13_operate 480 = .ok (.return_, 1) := by decide +kernel
theorem dX13_operate_435 : decode cX13_operate 435 = .ok (.aload_n 0, 1) := by decide +kernel
theorem dX13_operate_436 : decode cX13_operate 436 = .ok (.aload_n 0, 1) := by decide +kernel
theorem dX13_operate_437 : decode cX13_operate 437 = .ok (.iconst 0, 1) := by decide +kernel
theorem dX13_operate_438 : decode cX13_operate 438 = .ok (.invokevirtual 111, 3) := by decide +kernel
theorem dX13_operate_441 : decode cX13_operate 441 = .ok (.iconst (-1), 1) := by decide +kernel
theorem dX13_operate_442 : decode cX13_operate 442 = .ok (.iconst 5, 1) := by decide +kernel
theorem dX13_operate_443 : decode cX13_operate 443 = .ok (.invokevirtual 216, 3) := by decide +kernel
theorem tw_69 : (.code yX13_fix cX13_fix 4 none : Cond) ∈ tw_W := tw_in (t8_10 (List.mem_of_getElem? (i := 9) rfl)) rfl
theorem tw_70 : ∀ w ∈ ([.methodLink RX13 216 yX13_fix, .instanceMethod yX13_fix, .selects RX13 yX13_fix yX13_fix, .initialized RX13] : List Cond), w ∈ tw_W := al_c (tw_in (t8_10 (List.mem_of_getElem? (i := 6) rfl)) rfl) (al_c (tw_in (t8_10 (List.mem_of_getElem? (i := 8) rfl)) rfl) (al_c (tw_in (t7_9 (q := (yX13_fix, 124)) (List.mem_of_getElem? (i := 13) rfl)) rfl) (al_c (tw_in (t8_1 (List.mem_of_getElem? (i := 23) rfl)) rfl) al_n)))
theorem dX13_operate_446 : decode cX13_operate 446 = .ok (.goto 34, 3) := by decide +kernel
theorem dX13_operate_132 : decode cX13_operate 132 = .ok (.aload_n 0, 1) := by decide +kernel
theorem dX13_operate_133 : decode cX13_operate 133 = .ok (.iconst 0, 1) := by decide +kernel
theorem dX13_operate_134 : decode cX13_operate 134 = .ok (.iconst 0, 1) := by decide +kernel
theorem dX13_operate_135 : decode cX13_operate 135 = .ok (.bipush 10, 2) := by decide +kernel
theorem dX13_operate_137 : decode cX13_operate 137 = .ok (.iconst 5, 1) := by decide +kernel
theorem dX13_operate_138 : decode cX13_operate 138 = .ok (.bipush 10, 2) := by decide +kernel
theorem dX13_operate_140 : decode cX13_operate 140 = .ok (.invokestatic 213, 3) := by decide +kernel
theorem dX13_operate_143 : decode cX13_operate 143 = .ok (.invokevirtual 111, 3) := by decide +kernel
theorem dX13_operate_146 : decode cX13_operate 146 = .ok (.pop, 1) := by decide +kernel
theorem dX13_operate_147 : decode cX13_operate 147 = .ok (.goto 333, 3) := by decide +kernel
theorem dX13_operate_150 : decode cX13_operate 150 = .ok (.aload_n 0, 1) := by decide +kernel
theorem dX13_operate_151 : decode cX13_operate 151 = .ok (.bipush 32, 2) := by decide +kernel
theorem dX13_operate_153 : decode cX13_operate 153 = .ok (.iconst 0, 1) := by decide +kernel
theorem dX13_operate_154 : decode cX13_operate 154 = .ok (.bipush 10, 2) := by decide +kernel
theorem dX13_operate_156 : decode cX13_operate 156 = .ok (.iconst 5, 1) := by decide +kernel
theorem dX13_operate_157 : decode cX13_operate 157 = .ok (.bipush 10, 2) := by decide +kernel
theorem dX13_operate_159 : decode cX13_operate 159 = .ok (.invokestatic 213, 3) := by decide +kernel
theorem dX13_operate_162 : decode cX13_operate 162 = .ok (.invokevirtual 111, 3) := by decide +kernel
theorem dX13_operate_165 : decode cX13_operate 165 = .ok (.pop, 1) := by decide +kernel
theorem dX13_operate_166 : decode cX13_operate 166 = .ok (.goto 314, 3) := by decide +kernel
theorem dX13_operate_262 : decode cX13_operate 262 = .ok (.aload_n 0, 1) := by decide +kernel
theorem dX13_operate_263 : decode cX13_operate 263 = .ok (.iconst 0, 1) := by decide +kernel
theorem dX13_operate_264 : decode cX13_operate 264 = .ok (.iconst 2, 1) := by decide +kernel
theorem dX13_operate_265 : decode cX13_operate 265 = .ok (.bipush 10, 2) := by decide +kernel
theorem dX13_operate_267 : decode cX13_operate 267 = .ok (.iconst 5, 1) := by decide +kernel
theorem dX13_operate_268 : decode cX13_operate 268 = .ok (.bipush 10, 2) := by decide +kernel
theorem dX13_operate_270 : decode cX13_operate 270 = .ok (.invokestatic 213, 3) := by decide +kernel
theorem dX13_operate_273 : decode cX13_operate 273 = .ok (.invokevirtual 111, 3) := by decide +kernel
theorem dX13_operate_276 : decode cX13_operate 276 = .ok (.pop, 1) := by decide +kernel
theorem dX13_operate_277 : decode cX13_operate 277 = .ok (.goto 203, 3) := by decide +kernel
theorem dX13_operate_280 : decode cX13_operate 280 = .ok (.aload_n 0, 1) := by decide +kernel
theorem dX13_operate_281 : decode cX13_operate 281 = .ok (.iconst 0, 1) := by decide +kernel
theorem dX13_operate_282 : decode cX13_operate 282 = .ok (.iconst 2, 1) := by decide +kernel
theorem dX13_operate_283 : decode cX13_operate 283 = .ok (.bipush 10, 2) := by decide +kernel
theorem dX13_operate_285 : decode cX13_operate 285 = .ok (.bipush 10, 2) := by decide +kernel
theorem dX13_operate_287 : decode cX13_operate 287 = .ok (.iconst 5, 1) := by decide +kernel
theorem dX13_operate_288 : decode cX13_operate 288 = .ok (.invokestatic 213, 3) := by decide +kernel
theorem dX13_operate_291 : decode cX13_operate 291 = .ok (.invokevirtual 111, 3) := by decide +kernel
theorem dX13_operate_294 : decode cX13_operate 294 = .ok (.pop, 1) := by decide +kernel
theorem dX13_operate_295 : decode cX13_operate 295 = .ok (.goto 185, 3) := by decide +kernel
theorem dX13_operate_207 : decode cX13_operate 207 = .ok (.aload_n 0, 1) := by decide +kernel
theorem dX13_operate_208 : decode cX13_operate 208 = .ok (.iconst 0, 1) := by decide +kernel
theorem dX13_operate_209 : decode cX13_operate 209 = .ok (.iconst 4, 1) := by decide +kernel
theorem dX13_operate_210 : decode cX13_operate 210 = .ok (.bipush 10, 2) := by decide +kernel
theorem dX13_operate_212 : decode cX13_operate 212 = .ok (.iconst 5, 1) := by decide +kernel
theorem dX13_operate_213 : decode cX13_operate 213 = .ok (.bipush 10, 2) := by decide +kernel
theorem dX13_operate_215 : decode cX13_operate 215 = .ok (.invokestatic 213, 3) := by decide +kernel
theorem dX13_operate_218 : decode cX13_operate 218 = .ok (.invokevirtual 111, 3) := by decide +kernel
theorem dX13_operate_221 : decode cX13_operate 221 = .ok (.pop, 1) := by decide +kernel
theorem dX13_operate_222 : decode cX13_operate 222 = .ok (.goto 258, 3) := by decide +kernel
theorem dX13_operate_188 : decode cX13_operate 188 = .ok (.aload_n 0, 1) := by decide +kernel
theorem dX13_operate_189 : decode cX13_operate 189 = .ok (.iconst 0, 1) := by decide +kernel
theorem dX13_operate_190 : decode cX13_operate 190 = .ok (.bipush 6, 2) := by decide +kernel
theorem dX13_operate_192 : decode cX13_operate 192 = .ok (.bipush 10, 2) := by decide +kernel
theorem dX13_operate_194 : decode cX13_operate 194 = .ok (.iconst 5, 1) := by decide +kernel
theorem dX13_operate_195 : decode cX13_operate 195 = .ok (.bipush 10, 2) := by decide +kernel
theorem dX13_operate_197 : decode cX13_operate 197 = .ok (.invokestatic 213, 3) := by decide +kernel
theorem dX13_operate_200 : decode cX13_operate 200 = .ok (.invokevirtual 111, 3) := by decide +kernel
theorem dX13_operate_203 : decode cX13_operate 203 = .ok (.pop, 1) := by decide +kernel
theorem dX13_operate_204 : decode cX13_operate 204 = .ok (.goto 276, 3) := by decide +kernel
theorem dX13_operate_225 : decode cX13_operate 225 = .ok (.aload_n 0, 1) := by decide +kernel
theorem dX13_operate_226 : decode cX13_operate 226 = .ok (.iconst 0, 1) := by decide +kernel
theorem dX13_operate_227 : decode cX13_operate 227 = .ok (.iconst 1, 1) := by decide +kernel
theorem dX13_operate_228 : decode cX13_operate 228 = .ok (.bipush 10, 2) := by decide +kernel
theorem dX13_operate_230 : decode cX13_operate 230 = .ok (.iconst 5, 1) := by decide +kernel
theorem dX13_operate_231 : decode cX13_operate 231 = .ok (.bipush 10, 2) := by decide +kernel
theorem dX13_operate_233 : decode cX13_operate 233 = .ok (.invokestatic 213, 3) := by decide +kernel
theorem dX13_operate_236 : decode cX13_operate 236 = .ok (.invokevirtual 111, 3) := by decide +kernel
theorem dX13_operate_239 : decode cX13_operate 239 = .ok (.pop, 1) := by decide +kernel
theorem dX13_operate_240 : decode cX13_operate 240 = .ok (.goto 240, 3) := by decide +kernel
theorem dX13_operate_401 : decode cX13_operate 401 = .ok (.aload_n 0, 1) := by decide +kernel
theorem dX13_operate_402 : decode cX13_operate 402 = .ok (.bipush 32, 2) := by decide +kernel
theorem dX13_operate_404 : decode cX13_operate 404 = .ok (.iconst 0, 1) := by decide +kernel
theorem dX13_operate_405 : decode cX13_operate 405 = .ok (.bipush 10, 2) := by decide +kernel
theorem dX13_operate_407 : decode cX13_operate 407 = .ok (.iconst 5, 1) := by decide +kernel
theorem dX13_operate_408 : decode cX13_operate 408 = .ok (.bipush 10, 2) := by decide +kernel
theorem dX13_operate_410 : decode cX13_operate 410 = .ok (.invokestatic 213, 3) := by decide +kernel
theorem dX13_operate_413 : decode cX13_operate 413 = .ok (.invokevirtual 111, 3) := by decide +kernel
theorem dX13_operate_416 : decode cX13_operate 416 = .ok (.pop, 1) := by decide +kernel
theorem dX13_operate_417 : decode cX13_operate 417 = .ok (.aload_n 0, 1) := by decide +kernel
theorem dX13_operate_418 : decode cX13_operate 418 = .ok (.iconst 0, 1) := by decide +kernel
theorem dX13_operate_419 : decode cX13_operate 419 = .ok (.iconst 3, 1) := by decide +kernel
theorem dX13_operate_420 : decode cX13_operate 420 = .ok (.bipush 10, 2) := by decide +kernel
theorem dX13_operate_422 : decode cX13_operate 422 = .ok (.iconst 0, 1) := by decide +kernel
theorem dX13_operate_423 : decode cX13_operate 423 = .ok (.bipush 10, 2) := by decide +kernel
theorem dX13_operate_425 : decode cX13_operate 425 = .ok (.invokestatic 213, 3) := by decide +kernel
theorem dX13_operate_428 : decode cX13_operate 428 = .ok (.invokevirtual 111, 3) := by decide +kernel
theorem dX13_operate_431 : decode cX13_operate 431 = .ok (.pop, 1) := by decide +kernel
theorem dX13_operate_432 : decode cX13_operate 432 = .ok (.goto 48, 3) := by decide +kernel
theorem dX13_operate_298 : decode cX13_operate 298 = .ok (.aload_n 0, 1) := by decide +kernel
theorem dX13_operate_299 : decode cX13_operate 299 = .ok (.iconst 0, 1) := by decide +kernel
theorem dX13_operate_300 : decode cX13_operate 300 = .ok (.iconst 2, 1) := by decide +kernel
theorem dX13_operate_301 : decode cX13_operate 301 = .ok (.bipush 10, 2) := by decide +kernel
theorem dX13_operate_303 : decode cX13_operate 303 = .ok (.bipush 10, 2) := by decide +kernel
theorem dX13_operate_305 : decode cX13_operate 305 = .ok (.iconst 5, 1) := by decide +kernel
theorem dX13_operate_306 : decode cX13_operate 306 = .ok (.invokestatic 213, 3) := by decide +kernel
theorem dX13_operate_309 : decode cX13_operate 309 = .ok (.invokevirtual 111, 3) := by decide +kernel
theorem dX13_operate_312 : decode cX13_operate 312 = .ok (.pop, 1) := by decide +kernel
theorem dX13_operate_313 : decode cX13_operate 313 = .ok (.aload_n 0, 1) := by decide +kernel
theorem dX13_operate_314 : decode cX13_operate 314 = .ok (.bipush 19, 2) := by decide +kernel
theorem dX13_operate_316 : decode cX13_operate 316 = .ok (.iconst 4, 1) := by decide +kernel
theorem dX13_operate_317 : decode cX13_operate 317 = .ok (.bipush 10, 2) := by decide +kernel
theorem dX13_operate_319 : decode cX13_operate 319 = .ok (.bipush 10, 2) := by decide +kernel
theorem dX13_operate_321 : decode cX13_operate 321 = .ok (.iconst 1, 1) := by decide +kernel
theorem dX13_operate_322 : decode cX13_operate 322 = .ok (.invokestatic 97, 3) := by decide +kernel
theorem dX13_operate_325 : decode cX13_operate 325 = .ok (.invokevirtual 111, 3) := by decide +kernel
theorem dX13_operate_328 : decode cX13_operate 328 = .ok (.pop, 1) := by decide +kernel
theorem dX13_operate_329 : decode cX13_operate 329 = .ok (.goto 151, 3) := by decide +kernel
theorem dX13_operate_366 : decode cX13_operate 366 = .ok (.aload_n 0, 1) := by decide +kernel
theorem dX13_operate_367 : decode cX13_operate 367 = .ok (.bipush 32, 2) := by decide +kernel
theorem dX13_operate_369 : decode cX13_operate 369 = .ok (.iconst 0, 1) := by decide +kernel
theorem dX13_operate_370 : decode cX13_operate 370 = .ok (.bipush 10, 2) := by decide +kernel
theorem dX13_operate_372 : decode cX13_operate 372 = .ok (.iconst 5, 1) := by decide +kernel
theorem dX13_operate_373 : decode cX13_operate 373 = .ok (.bipush 10, 2) := by decide +kernel
theorem dX13_operate_375 : decode cX13_operate 375 = .ok (.invokestatic 213, 3) := by decide +kernel
theorem dX13_operate_378 : decode cX13_operate 378 = .ok (.invokevirtual 111, 3) := by decide +kernel
theorem dX13_operate_381 : decode cX13_operate 381 = .ok (.pop, 1) := by decide +kernel
theorem dX13_operate_382 : decode cX13_operate 382 = .ok (.aload_n 0, 1) := by decide +kernel
theorem dX13_operate_383 : decode cX13_operate 383 = .ok (.bipush 19, 2) := by decide +kernel
theorem dX13_operate_385 : decode cX13_operate 385 = .ok (.iconst 3, 1) := by decide +kernel
theorem dX13_operate_386 : decode cX13_operate 386 = .ok (.bipush 10, 2) := by decide +kernel
theorem dX13_operate_388 : decode cX13_operate 388 = .ok (.bipush 10, 2) := by decide +kernel
theorem dX13_operate_390 : decode cX13_operate 390 = .ok (.iconst 1, 1) := by decide +kernel
theorem dX13_operate_391 : decode cX13_operate 391 = .ok (.invokestatic 97, 3) := by decide +kernel
theorem dX13_operate_394 : decode cX13_operate 394 = .ok (.invokevirtual 111, 3) := by decide +kernel
theorem dX13_operate_397 : decode cX13_operate 397 = .ok (.pop, 1) := by decide +kernel
theorem dX13_operate_398 : decode cX13_operate 398 = .ok (.goto 82, 3) := by decide +kernel
theorem dX13_operate_332 : decode cX13_operate 332 = .ok (.aload_n 0, 1) := by decide +kernel
theorem dX13_operate_333 : decode cX13_operate 333 = .ok (.iconst 0, 1) := by decide +kernel
theorem dX13_operate_334 : decode cX13_operate 334 = .ok (.iconst 2, 1) := by decide +kernel
theorem dX13_operate_335 : decode cX13_operate 335 = .ok (.bipush 10, 2) := by decide +kernel
theorem dX13_operate_337 : decode cX13_operate 337 = .ok (.iconst 5, 1) := by decide +kernel
theorem dX13_operate_338 : decode cX13_operate 338 = .ok (.bipush 10, 2) := by decide +kernel
theorem dX13_operate_340 : decode cX13_operate 340 = .ok (.invokestatic 213, 3) := by decide +kernel
theorem dX13_operate_343 : decode cX13_operate 343 = .ok (.invokevirtual 111, 3) := by decide +kernel
theorem dX13_operate_346 : decode cX13_operate 346 = .ok (.pop, 1) := by decide +kernel
theorem dX13_operate_347 : decode cX13_operate 347 = .ok (.aload_n 0, 1) := by decide +kernel
theorem dX13_operate_348 : decode cX13_operate 348 = .ok (.bipush 19, 2) := by decide +kernel
theorem dX13_operate_350 : decode cX13_operate 350 = .ok (.iconst 4, 1) := by decide +kernel
theorem dX13_operate_351 : decode cX13_operate 351 = .ok (.bipush 10, 2) := by decide +kernel
theorem dX13_operate_353 : decode cX13_operate 353 = .ok (.bipush 10, 2) := by decide +kernel
theorem dX13_operate_355 : decode cX13_operate 355 = .ok (.iconst 1, 1) := by decide +kernel
theorem dX13_operate_356 : decode cX13_operate 356 = .ok (.invokestatic 97, 3) := by decide +kernel
theorem dX13_operate_359 : decode cX13_operate 359 = .ok (.invokevirtual 111, 3) := by decide +kernel
theorem dX13_operate_362 : decode cX13_operate 362 = .ok (.pop, 1) := by decide +kernel
theorem dX13_operate_363 : decode cX13_operate 363 = .ok (.goto 117, 3) := by decide +kernel
theorem dX13_operate_243 : decode cX13_operate 243 = .ok (.aload_n 0, 1) := by decide +kernel
theorem dX13_operate_244 : decode cX13_operate 244 = .ok (.bipush 32, 2) := by decide +kernel
theorem dX13_operate_246 : decode cX13_operate 246 = .ok (.iconst 5, 1) := by decide +kernel
theorem dX13_operate_247 : decode cX13_operate 247 = .ok (.bipush 10, 2) := by decide +kernel
theorem dX13_operate_249 : decode cX13_operate 249 = .ok (.iconst 5, 1) := by decide +kernel
theorem dX13_operate_250 : decode cX13_operate 250 = .ok (.bipush 10, 2) := by decide +kernel
theorem dX13_operate_252 : decode cX13_operate 252 = .ok (.invokestatic 213, 3) := by decide +kernel
theorem dX13_operate_255 : decode cX13_operate 255 = .ok (.invokevirtual 111, 3) := by decide +kernel
theorem dX13_operate_258 : decode cX13_operate 258 = .ok (.pop, 1) := by decide +kernel
theorem dX13_operate_259 : decode cX13_operate 259 = .ok (.goto 221, 3) := by decide +kernel
theorem dX13_operate_449 : decode cX13_operate 449 = .ok (.aload_n 0, 1) := by decide +kernel
theorem dX13_operate_450 : decode cX13_operate 450 = .ok (.aload_n 0, 1) := by decide +kernel
theorem dX13_operate_451 : decode cX13_operate 451 = .ok (.iconst 0, 1) := by decide +kernel
theorem dX13_operate_452 : decode cX13_operate 452 = .ok (.invokevirtual 111, 3) := by decide +kernel
theorem dX13_operate_455 : decode cX13_operate 455 = .ok (.bipush (-2), 2) := by decide +kernel
theorem dX13_operate_457 : decode cX13_operate 457 = .ok (.iconst 5, 1) := by decide +kernel
theorem dX13_operate_458 : decode cX13_operate 458 = .ok (.invokevirtual 216, 3) := by decide +kernel
theorem dX13_operate_461 : decode cX13_operate 461 = .ok (.iload_n 1, 1) := by decide +kernel
theorem dX13_operate_462 : decode cX13_operate 462 = .ok (.bipush 37, 2) := by decide +kernel
theorem dX13_operate_464 : decode cX13_operate 464 = .ok (.if_icmp .ne 16, 3) := by decide +kernel
theorem dX13_operate_467 : decode cX13_operate 467 = .ok (.aload_n 0, 1) := by decide +kernel
theorem dX13_operate_468 : decode cX13_operate 468 = .ok (.bipush 10, 2) := by decide +kernel
theorem dX13_operate_470 : decode cX13_operate 470 = .ok (.bipush 6, 2) := by decide +kernel
theorem dX13_operate_472 : decode cX13_operate 472 = .ok (.iconst 0, 1) := by decide +kernel
theorem dX13_operate_473 : decode cX13_operate 473 = .ok (.invokestatic 219, 3) := by decide +kernel
theorem dX13_operate_476 : decode cX13_operate 476 = .ok (.invokevirtual 111, 3) := by decide +kernel
theorem dX13_operate_479 : decode cX13_operate 479 = .ok (.pop, 1) := by decide +kernel
theorem dX13_fetch_0 : decode cX13_fetch 0 = .ok (.iload_n 1, 1) := by decide +kernel
theorem dX13_fetch_1 : decode cX13_fetch 1 = .ok (.ifCond .lt 29, 3) := by decide +kernel
theorem dX13_fetch_30 : decode cX13_fetch 30 = .ok (.aload_n 0, 1) := by decide +kernel
theorem dX13_fetch_31 : decode cX13_fetch 31 = .ok (.aload_n 0, 1) := by decide +kernel
theorem dX13_fetch_32 : decode cX13_fetch 32 = .ok (.bipush 6, 2) := by decide +kernel
theorem dX13_fetch_34 : decode cX13_fetch 34 = .ok (.iconst 0, 1) := by decide +kernel
theorem dX13_fetch_35 : decode cX13_fetch 35 = .ok (.invokestatic 223, 3) := by decide +kernel
theorem dX13_fetch_38 : decode cX13_fetch 38 = .ok (.invokevirtual 111, 3) := by decide +kernel
theorem dX13_fetch_41 : decode cX13_fetch 41 = .ok (.iload_n 2, 1) := by decide +kernel
theorem dX13_fetch_42 : decode cX13_fetch 42 = .ok (.iconst 0, 1) := by decide +kernel
theorem dX13_fetch_43 : decode cX13_fetch 43 = .ok (.invokevirtual 216, 3) := by decide +kernel
theorem dX13_fetch_46 : decode cX13_fetch 46 = .ok (.aload_n 0, 1) := by decide +kernel
theorem dX13_fetch_47 : decode cX13_fetch 47 = .ok (.aload_n 0, 1) := by decide +kernel
theorem dX13_fetch_48 : decode cX13_fetch 48 = .ok (.bipush 10, 2) := by decide +kernel
theorem dX13_fetch_50 : decode cX13_fetch 50 = .ok (.iconst 0, 1) := by decide +kernel
theorem dX13_fetch_51 : decode cX13_fetch 51 = .ok (.bipush 6, 2) := by decide +kernel
theorem dX13_fetch_53 : decode cX13_fetch 53 = .ok (.invokestatic 265, 3) := by decide +kernel
theorem tw_71 : (.code yX13_lw cX13_lw 3 (some .int) : Cond) ∈ tw_W := tw_in (t8_9 (List.mem_of_getElem? (i := 199) rfl)) rfl
theorem tw_72 : ∀ w ∈ ([.methodLink RX13 265 yX13_lw, .static yX13_lw, .initialized yX13_lw.cls] : List Cond), w ∈ tw_W := al_c (tw_in (t8_9 (List.mem_of_getElem? (i := 197) rfl)) rfl) (al_c (tw_in (t8_9 (List.mem_of_getElem? (i := 198) rfl)) rfl) (al_c (tw_in (t8_1 (List.mem_of_getElem? (i := 23) rfl)) rfl) al_n))
theorem dX13_fetch_56 : decode cX13_fetch 56 = .ok (.invokevirtual 111, 3) := by decide +kernel
theorem dX13_fetch_59 : decode cX13_fetch 59 = .ok (.iload_n 2, 1) := by decide +kernel
theorem dX13_fetch_60 : decode cX13_fetch 60 = .ok (.iconst 1, 1) := by decide +kernel
theorem dX13_fetch_61 : decode cX13_fetch 61 = .ok (.invokevirtual 216, 3) := by decide +kernel
theorem dX13_fetch_64 : decode cX13_fetch 64 = .ok (.aload_n 0, 1) := by decide +kernel
theorem dX13_fetch_65 : decode cX13_fetch 65 = .ok (.iconst 3, 1) := by decide +kernel
theorem dX13_fetch_66 : decode cX13_fetch 66 = .ok (.aload_n 0, 1) := by decide +kernel
theorem dX13_fetch_67 : decode cX13_fetch 67 = .ok (.getfield 275, 3) := by decide +kernel
theorem tw_73 : (.fieldLink RX13 275 "PocketCompilerModel" "gFrom" "[I" : Cond) ∈ tw_W := tw_in (t8_10 (List.mem_of_getElem? (i := 182) rfl)) rfl
theorem dX13_fetch_70 : decode cX13_fetch 70 = .ok (.iload_n 2, 1) := by decide +kernel
theorem dX13_fetch_71 : decode cX13_fetch 71 = .ok (.iaload, 1) := by decide +kernel
theorem dX13_fetch_72 : decode cX13_fetch 72 = .ok (.invokevirtual 210, 3) := by decide +kernel
theorem dX13_fetch_75 : decode cX13_fetch 75 = .ok (.pop, 1) := by decide +kernel
theorem dX13_fetch_76 : decode cX13_fetch 76 = .ok (.return_, 1) := by decide +kernel
theorem dX13_fetch_4 : decode cX13_fetch 4 = .ok (.aload_n 0, 1) := by decide +kernel
theorem dX13_fetch_5 : decode cX13_fetch 5 = .ok (.bipush 10, 2) := by decide +kernel
theorem dX13_fetch_7 : decode cX13_fetch 7 = .ok (.iload_n 1, 1) := by decide +kernel
theorem dX13_fetch_8 : decode cX13_fetch 8 = .ok (.invokestatic 272, 3) := by decide +kernel
theorem tw_74 : (.code yX13_slotAt cX13_slotAt 1 (some .int) : Cond) ∈ tw_W := tw_in (t8_9 (List.mem_of_getElem? (i := 202) rfl)) rfl
theorem tw_75 : ∀ w ∈ ([.methodLink RX13 272 yX13_slotAt, .static yX13_slotAt, .initialized yX13_slotAt.cls] : List Cond), w ∈ tw_W := al_c (tw_in (t8_9 (List.mem_of_getElem? (i := 200) rfl)) rfl) (al_c (tw_in (t8_9 (List.mem_of_getElem? (i := 201) rfl)) rfl) (al_c (tw_in (t8_1 (List.mem_of_getElem? (i := 23) rfl)) rfl) al_n))
theorem dX13_fetch_11 : decode cX13_fetch 11 = .ok (.bipush 8, 2) := by decide +kernel
theorem dX13_fetch_13 : decode cX13_fetch 13 = .ok (.invokestatic 265, 3) := by decide +kernel
theorem dX13_fetch_16 : decode cX13_fetch 16 = .ok (.invokevirtual 111, 3) := by decide +kernel
theorem dX13_fetch_19 : decode cX13_fetch 19 = .ok (.pop, 1) := by decide +kernel
theorem dX13_fetch_20 : decode cX13_fetch 20 = .ok (.aload_n 0, 1) := by decide +kernel
theorem dX13_fetch_21 : decode cX13_fetch 21 = .ok (.iconst 1, 1) := by decide +kernel
theorem dX13_fetch_22 : decode cX13_fetch 22 = .ok (.iload_n 1, 1) := by decide +kernel
theorem dX13_fetch_23 : decode cX13_fetch 23 = .ok (.invokevirtual 210, 3) := by decide +kernel
theorem dX13_fetch_26 : decode cX13_fetch 26 = .ok (.pop, 1) := by decide +kernel
theorem dX13_fetch_27 : decode cX13_fetch 27 = .ok (.goto 49, 3) := by decide +kernel
theorem dX13_store_0 : decode cX13_store 0 = .ok (.iload_n 1, 1) := by decide +kernel
theorem dX13_store_1 : decode cX13_store 1 = .ok (.ifCond .lt 29, 3) := by decide +kernel
theorem dX13_store_30 : decode cX13_store 30 = .ok (.aload_n 0, 1) := by decide +kernel
theorem dX13_store_31 : decode cX13_store 31 = .ok (.aload_n 0, 1) := by decide +kernel
theorem dX13_store_32 : decode cX13_store 32 = .ok (.bipush 6, 2) := by decide +kernel
theorem dX13_store_34 : decode cX13_store 34 = .ok (.iconst 0, 1) := by decide +kernel
theorem dX13_store_35 : decode cX13_store 35 = .ok (.invokestatic 223, 3) := by decide +kernel
theorem dX13_store_38 : decode cX13_store 38 = .ok (.invokevirtual 111, 3) := by decide +kernel
theorem dX13_store_41 : decode cX13_store 41 = .ok (.iload_n 2, 1) := by decide +kernel
theorem dX13_store_42 : decode cX13_store 42 = .ok (.iconst 0, 1) := by decide +kernel
theorem dX13_store_43 : decode cX13_store 43 = .ok (.invokevirtual 216, 3) := by decide +kernel
theorem dX13_store_46 : decode cX13_store 46 = .ok (.aload_n 0, 1) := by decide +kernel
theorem dX13_store_47 : decode cX13_store 47 = .ok (.aload_n 0, 1) := by decide +kernel
theorem dX13_store_48 : decode cX13_store 48 = .ok (.bipush 10, 2) := by decide +kernel
theorem dX13_store_50 : decode cX13_store 50 = .ok (.iconst 0, 1) := by decide +kernel
theorem dX13_store_51 : decode cX13_store 51 = .ok (.bipush 6, 2) := by decide +kernel
theorem dX13_store_53 : decode cX13_store 53 = .ok (.invokestatic 278, 3) := by decide +kernel
theorem tw_76 : (.code yX13_sw cX13_sw 3 (some .int) : Cond) ∈ tw_W := tw_in (t8_9 (List.mem_of_getElem? (i := 205) rfl)) rfl
theorem tw_77 : ∀ w ∈ ([.methodLink RX13 278 yX13_sw, .static yX13_sw, .initialized yX13_sw.cls] : List Cond), w ∈ tw_W := al_c (tw_in (t8_9 (List.mem_of_getElem? (i := 203) rfl)) rfl) (al_c (tw_in (t8_9 (List.mem_of_getElem? (i := 204) rfl)) rfl) (al_c (tw_in (t8_1 (List.mem_of_getElem? (i := 23) rfl)) rfl) al_n))
theorem dX13_store_56 : decode cX13_store 56 = .ok (.invokevirtual 111, 3) := by decide +kernel
theorem dX13_store_59 : decode cX13_store 59 = .ok (.iload_n 2, 1) := by decide +kernel
theorem dX13_store_60 : decode cX13_store 60 = .ok (.iconst 2, 1) := by decide +kernel
theorem dX13_store_61 : decode cX13_store 61 = .ok (.invokevirtual 216, 3) := by decide +kernel
theorem dX13_store_64 : decode cX13_store 64 = .ok (.aload_n 0, 1) := by decide +kernel
theorem dX13_store_65 : decode cX13_store 65 = .ok (.iconst 4, 1) := by decide +kernel
theorem dX13_store_66 : decode cX13_store 66 = .ok (.aload_n 0, 1) := by decide +kernel
theorem dX13_store_67 : decode cX13_store 67 = .ok (.getfield 275, 3) := by decide +kernel
theorem dX13_store_70 : decode cX13_store 70 = .ok (.iload_n 2, 1) := by decide +kernel
theorem dX13_store_71 : decode cX13_store 71 = .ok (.iaload, 1) := by decide +kernel
theorem dX13_store_72 : decode cX13_store 72 = .ok (.invokevirtual 210, 3) := by decide +kernel
theorem dX13_store_75 : decode cX13_store 75 = .ok (.pop, 1) := by decide +kernel
theorem dX13_store_76 : decode cX13_store 76 = .ok (.return_, 1) := by decide +kernel
theorem dX13_store_4 : decode cX13_store 4 = .ok (.aload_n 0, 1) := by decide +kernel
theorem dX13_store_5 : decode cX13_store 5 = .ok (.bipush 10, 2) := by decide +kernel
theorem dX13_store_7 : decode cX13_store 7 = .ok (.iload_n 1, 1) := by decide +kernel
theorem dX13_store_8 : decode cX13_store 8 = .ok (.invokestatic 272, 3) := by decide +kernel
theorem dX13_store_11 : decode cX13_store 11 = .ok (.bipush 8, 2) := by decide +kernel
theorem dX13_store_13 : decode cX13_store 13 = .ok (.invokestatic 278, 3) := by decide +kernel
theorem dX13_store_16 : decode cX13_store 16 = .ok (.invokevirtual 111, 3) := by decide +kernel
theorem dX13_store_19 : decode cX13_store 19 = .ok (.pop, 1) := by decide +kernel
theorem dX13_store_20 : decode cX13_store 20 = .ok (.aload_n 0, 1) := by decide +kernel
theorem dX13_store_21 : decode cX13_store 21 = .ok (.iconst 2, 1) := by decide +kernel
theorem dX13_store_22 : decode cX13_store 22 = .ok (.iload_n 1, 1) := by decide +kernel
theorem dX13_store_23 : decode cX13_store 23 = .ok (.invokevirtual 210, 3) := by decide +kernel
theorem dX13_store_26 : decode cX13_store 26 = .ok (.pop, 1) := by decide +kernel
theorem dX13_store_27 : decode cX13_store 27 = .ok (.goto 49, 3) := by decide +kernel
theorem om_f646c5fae3 : (2 : Int) ≤ (2 : Int) := by omega
theorem om_68db4d56b8 : (1 : Int) ≤ (2 : Int) := by omega
theorem om_264029c512 {x0 x1 : Int} (h0 : x0 = (x1) + (1 : Int)) : x1 ≤ x0 ∧ x0 ≤ x1 + 3 := by omega
theorem om_b79dd2a91d {x0 : Int} : x0 ≤ x0 ∧ x0 ≤ x0 + 1 := by omega
theorem om_9a87860940 : (5 : Int) = 5 ∨ (0 ≤ (-1 : Int) ∧ (-1 : Int) < 60) := by omega
theorem om_e8b43c6920 {x0 x1 x2 : Int} (h0 : x0 = (x1) + (1 : Int)) (h1 : x2 = x0) : x1 ≤ x2 ∧ x2 ≤ x1 + 3 := by omega
theorem om_36d688ce66 {x0 x1 x2 : Int} (h0 : x0 = (x1) + (1 : Int)) (h1 : x2 = x0) : x2 = x1 + 1 := by omega
theorem om_c0e95d89ce {x0 x1 : Int} (h0 : x0 = x1 + 1) : x1 ≤ x0 ∧ x0 ≤ x1 + 1 := by omega
theorem om_8134f39256 {x0 x1 : Int} (h0 : x0 = ((x1) + (1 : Int)) + (1 : Int)) : x1 ≤ x0 ∧ x0 ≤ x1 + 3 := by omega
theorem om_b87fb2bb94 : (5 : Int) = 5 ∨ (0 ≤ (-2 : Int) ∧ (-2 : Int) < 60) := by omega
theorem om_0736977d3d {x0 x1 x2 : Int} (h0 : 0 ≤ x0 ∧ x0 ≤ 23980) (h1 : x1 = (x0) + (1 : Int)) (h2 : x2 = x1) : 0 ≤ x2 ∧ x2 < 24000 := by omega
theorem om_32208a3540 {x0 x1 x2 : Int} (h0 : 0 ≤ x0 ∧ x0 ≤ 23980) (h1 : x1 = (x0) + (1 : Int)) (h2 : x2 = x1) : -2147483648 ≤ (x2) + (1 : Int) := by omega
theorem om_33e320e031 {x0 x1 x2 : Int} (h0 : 0 ≤ x0 ∧ x0 ≤ 23980) (h1 : x1 = (x0) + (1 : Int)) (h2 : x2 = x1) : (x2) + (1 : Int) < 2147483648 := by omega
theorem om_884b46967f {x0 x1 x2 x3 : Int} (h0 : x0 = (x1) + (1 : Int)) (h1 : x2 = x0) (h2 : x3 = (x2) + (1 : Int)) : x1 ≤ x3 ∧ x3 ≤ x1 + 3 := by omega
theorem om_33c02db227 {x0 x1 x2 : Int} (h0 : 0 ≤ x0 ∧ x0 ≤ 23980) (h1 : x1 = (x0) + (1 : Int)) (h2 : x2 = x1) : 0 ≤ x2 := by omega
theorem om_814b6693b2 {x0 x1 x2 : Int} {n3 : Nat} (h0 : x0 = (x1) + (1 : Int)) (h1 : x2 = x0) (h2 : (n3 : Int) < x1) : (n3 : Int) < x2 := by omega
set_option maxHeartbeats 4000000 in
set_option maxRecDepth 100000 in
theorem c_m_operate (l : Launch) (dC : Nat → ClassId) (dI : Nat → Nat → Nat) (cI cB cZ cJ cR : ClassId) (tb : Nat → Nat) (sz : Nat) (ad : Nat → Nat) (N : Nat) (v : MS) (pa : Int32) (zw : 0 ≤ (v.1 0 12).toInt ∧ (v.1 0 12).toInt ≤ 23980) (zo : 0 ≤ (v.1 0 15).toInt ∧ (v.1 0 15).toInt ≤ 15980) (zf : 0 ≤ (v.1 0 43).toInt ∧ (v.1 0 43).toInt ≤ 23980) (a40 : AR 40 0 23999 v) (fx : FX v) : Met l yX13_operate (Cond.code yX13_operate cX13_operate 2 none :: tw_W) ({ frames := 2, cells := 0, slots := 0, locals := 46 }) (pc_ (dC, dI) (tyS cI cB cZ cJ cR) tb (mW ad N cI cZ cJ v) sz [.ref (ad 0), .int pa]) (qv_ (dC, dI) (mW ad N cI cZ cJ v) sz (fun (u : MS) => FG [12, 15, 43] [0, 11, 13, 14, 40, 41, 42] v u ∧ (Q_m_operate v pa u) ∧ ((v.1 0 12).toInt ≤ (u.1 0 12).toInt ∧ (u.1 0 12).toInt ≤ (v.1 0 12).toInt + 3) ∧ ((u.1 0 15).toInt = (v.1 0 15).toInt + 1) ∧ ((v.1 0 43).toInt ≤ (u.1 0 43).toInt ∧ (u.1 0 43).toInt ≤ (v.1 0 43).toInt + 1) ∧ (∀ j : Nat, (j : Int) < (v.1 0 12).toInt → (u.1 11) j = (v.1 11) j) ∧ (∀ j : Nat, (j : Int) < (v.1 0 15).toInt → (u.1 13) j = (v.1 13) j) ∧ (∀ j : Nat, (j : Int) < (v.1 0 15).toInt → (u.1 14) j = (v.1 14) j) ∧ (AR 40 0 23999 u) ∧ (FX u) ∧ (IV v → IV u) ∧ (SGE (v.1 0 30).toInt (v.1 0 28).toInt (v.1 0 27).toInt (u.1 13) (u.1 14) (u.1 36) (u.1 38) (v.1 0 15).toNatClampNeg (u.1 0 15).toNatClampNeg (v.1 0 39).toNatClampNeg (u.1 0 39).toNatClampNeg ([false, false]) [false] ((2 : Int)) [])) (fun (u : MS) => (mW ad N cI cZ cJ u))) 0 0 (va_A (mW ad N cI cZ cJ v) sz) := by
  refine Met.ofW (cc := cX13_operate) (maxL := 2) (ret := none) (by decide) rfl ?_
  intro p e s m args below meth c s₁ B hml hv
  obtain ⟨rfl, hsz, hP, hKK, hD0, hFx⟩ := hv
  have hK := hKK.1
  have hx := B.exec
  have hb := B.bytes
  have hr := B.returns
  have ht : ∀ w ∈ tw_W, w.before _ s = true := fun w h => atoms_spec (ws := Cond.code yX13_operate cX13_operate 2 none :: tw_W) B.pre w (List.mem_cons_of_mem _ h)
  have hown : s.vm.findClass RX13 = some m.cls := findClass_of_methodNamed B.named
  have hlocks := B.notSynchronized
  subst hsz
  unfold qv_
  have hD := hD0.self (sz := s.heap.size)
  generalize hAe : va_A (mW ad N cI cZ cJ v) s.heap.size = A at hD hFx ⊢
  have hA : ∀ q : Nat, s.heap.size ≤ q → A q := fun q h => by rw [← hAe]; exact Or.inr h
  have hS : va_S A s.heap s.heap [] := va_S.rf
  have hl := lv_entry ([.ref (ad 0), .int pa]) (n := 2) (Nat.le_of_ble_eq_true rfl)
  rw [lg_entry_eq]
  generalize (lg_sl ([.ref (ad 0), .int pa]) ++ List.replicate (2 - (lg_sl ([.ref (ad 0), .int pa])).length) Slot.unset).toArray = ls at hl ⊢
  have hl : lv_has ls 2 [(0, .ref (ad 0)), (1, .int pa)] := hl
  have sg1 : SGE (v.1 0 30).toInt (v.1 0 28).toInt (v.1 0 27).toInt (v.1 13) (v.1 14) (v.1 36) (v.1 38) (v.1 0 15).toNatClampNeg (v.1 0 15).toNatClampNeg (v.1 0 39).toNatClampNeg (v.1 0 39).toNatClampNeg ([false, false]) ([false, false]) ((2 : Int)) [] := SGE.nil rfl (lenle (2 : Int) (by decide) om_f646c5fae3)
  refine lv_aload_n hx hb dX13_operate_0 rfl (lv_at hl 0 rfl) ?_
  refine lv_bipush (v := 21) hx hb dX13_operate_1 (by decide) ?_
  refine lv_iload_n hx hb dX13_operate_3 rfl (lv_at hl 1 rfl) ?_
  refine cu_i (rn_V (n := 2) (As := [.int 21, .int pa]) (rest := []) hx hb hml hown ht hKK hFx hP hD hS hA (c_m_say l dC dI cI cB cZ cJ cR tb s.heap.size ad N v (21 : Int32) pa (show 0 ≤ (v.1 0 15).toInt ∧ (v.1 0 15).toInt < 16000 from (om_434853ee4d zo))) tw_59 tw_60 (by decide +kernel) rfl rfl ⟨Nat.le_of_ble_eq_true rfl, Nat.le_of_ble_eq_true rfl⟩ (List.range (mW ad N cI cZ cJ v).length) (rg_map _) (mW_nd _ _ _ _ _ _) rfl rfl rfl rfl hl.1 rfl (Nat.le_of_ble_eq_true rfl) dX13_operate_4 ⟨Nat.le_of_ble_eq_true rfl, Nat.le_of_ble_eq_true rfl⟩) hP hD hS hA (fun r4 u3 H locs hw2 hP hD hS => ?_)
  obtain ⟨rfl, rfl⟩ := hw2
  have z5 : ((v.1 0 15) + (1 : Int32)).toInt = ((v.1 0 15).toInt) + (1 : Int) := add_z rfl (show (1 : Int32).toInt = (1 : Int) by decide) (om_725afa629b zo) (om_58344aeddd zo)
  have hP : va_P (dC, dI) vwCl (mW ad N cI cZ cJ (wA (wA (wA v 13 ((v.1 0 15).toNatClampNeg) (21 : Int32)) 14 ((v.1 0 15).toNatClampNeg) pa) 0 15 ((v.1 0 15) + (1 : Int32)))) H := hP
  have hD : va_D A (mW ad N cI cZ cJ (wA (wA (wA v 13 ((v.1 0 15).toNatClampNeg) (21 : Int32)) 14 ((v.1 0 15).toNatClampNeg) pa) 0 15 ((v.1 0 15) + (1 : Int32)))) := hD
  refine tp_i (y := (v.1 0 15)) (rfl) ?_
  have sg6 : SGE (v.1 0 30).toInt (v.1 0 28).toInt (v.1 0 27).toInt (upd (v.1 13) ((v.1 0 15).toNatClampNeg) (21 : Int32)) (upd (v.1 14) ((v.1 0 15).toNatClampNeg) pa) (v.1 36) (v.1 38) (v.1 0 15).toNatClampNeg ((v.1 0 15) + (1 : Int32)).toNatClampNeg (v.1 0 39).toNatClampNeg (v.1 0 39).toNatClampNeg ([false, false]) [false] ((2 : Int)) [] := SGE.say1 (x := (v.1 0 15)) (y := ((v.1 0 15) + (1 : Int32))) sg1 (show 0 ≤ (v.1 0 15).toInt from (om_2ab3f6b9f5 zo)) (show ((v.1 0 15) + (1 : Int32)).toInt = (v.1 0 15).toInt + 1 from (om_5bccfc38cf z5)) (show (2 : Int) ≤ (2 : Int) from om_f646c5fae3) (lenle (1 : Int) (by decide) om_68db4d56b8) (ft_op (by decide)) (by decide) (by decide)
  refine W.widen (k := 0) (n := 0) (Nat.le_refl _) (Nat.le_refl _) ?_
  refine lv_pop hx hb dX13_operate_7 rfl ?_
  refine lv_iload_n hx hb dX13_operate_8 rfl (lv_at hl 1 rfl) ?_
  by_cases h7 : pa = 38
  · refine lv_lookup (off := 160) (tgt := 169) hx hb dX13_operate_9 (by decide) (by rw [h7]; decide) (by decide) ?_
    refine lv_aload_n hx hb dX13_operate_169 rfl (lv_at hl 0 rfl) ?_
    refine lv_iconst (v := 0) hx hb dX13_operate_170 (by decide) ?_
    refine lv_bipush (v := 7) hx hb dX13_operate_171 (by decide) ?_
    refine lv_bipush (v := 10) hx hb dX13_operate_173 (by decide) ?_
    refine lv_iconst (v := 5) hx hb dX13_operate_175 (by decide) ?_
    refine lv_bipush (v := 10) hx hb dX13_operate_176 (by decide) ?_
    refine cu_s (mW_nd _ _ _ _ _ _) (rn_S (n := 5) (As := [.int 0, .int 7, .int 10, .int 5, .int 10]) (rest := [.ref (ad 0)]) hx hb hml hown ht hKK hFx hP hD hS hA (c_m_byR l dC dI cI cB cZ cJ cR tb H.size (0 : Int32) (7 : Int32) (10 : Int32) (5 : Int32) (10 : Int32) ) tw_67 tw_68 (by decide +kernel) rfl rfl ⟨Nat.le_of_ble_eq_true rfl, Nat.le_of_ble_eq_true rfl⟩ [] rfl rfl rfl hl.1 rfl (Nat.le_of_ble_eq_true rfl) dX13_operate_178 ⟨Nat.le_of_ble_eq_true rfl, Nat.le_of_ble_eq_true rfl⟩) hP hD hS hA (fun r11 H locs hw8 hP hD hS => ?_)
    have ex8 := hw8
    refine W.widen (k := 0) (n := 0) (Nat.le_refl _) (Nat.le_refl _) ?_
    refine cu_i (rn_V (n := 1) (As := [.int r11]) (rest := []) hx hb hml hown ht hKK hFx hP hD hS hA (c_m_emit l dC dI cI cB cZ cJ cR tb H.size ad N (wA (wA (wA v 13 ((v.1 0 15).toNatClampNeg) (21 : Int32)) 14 ((v.1 0 15).toNatClampNeg) pa) 0 15 ((v.1 0 15) + (1 : Int32))) r11 (show 0 ≤ (v.1 0 12).toInt ∧ (v.1 0 12).toInt < 24000 from (om_bd95b2e5c4 zw))) tw_8 tw_9 (by decide +kernel) rfl rfl ⟨Nat.le_of_ble_eq_true rfl, Nat.le_of_ble_eq_true rfl⟩ (List.range (mW ad N cI cZ cJ (wA (wA (wA v 13 ((v.1 0 15).toNatClampNeg) (21 : Int32)) 14 ((v.1 0 15).toNatClampNeg) pa) 0 15 ((v.1 0 15) + (1 : Int32)))).length) (rg_map _) (mW_nd _ _ _ _ _ _) rfl rfl rfl rfl hl.1 rfl (Nat.le_of_ble_eq_true rfl) dX13_operate_181 ⟨Nat.le_of_ble_eq_true rfl, Nat.le_of_ble_eq_true rfl⟩) hP hD hS hA (fun r14 u13 H locs hw12 hP hD hS => ?_)
    obtain ⟨rfl, rfl⟩ := hw12
    have z15 : ((v.1 0 12) + (1 : Int32)).toInt = ((v.1 0 12).toInt) + (1 : Int) := add_z rfl (show (1 : Int32).toInt = (1 : Int) by decide) (om_6650f37474 zw) (om_8ddb6642ab zw)
    have hP : va_P (dC, dI) vwCl (mW ad N cI cZ cJ (wA (wA (wA (wA (wA v 13 ((v.1 0 15).toNatClampNeg) (21 : Int32)) 14 ((v.1 0 15).toNatClampNeg) pa) 0 15 ((v.1 0 15) + (1 : Int32))) 11 ((v.1 0 12).toNatClampNeg) r11) 0 12 ((v.1 0 12) + (1 : Int32)))) H := hP
    have hD : va_D A (mW ad N cI cZ cJ (wA (wA (wA (wA (wA v 13 ((v.1 0 15).toNatClampNeg) (21 : Int32)) 14 ((v.1 0 15).toNatClampNeg) pa) 0 15 ((v.1 0 15) + (1 : Int32))) 11 ((v.1 0 12).toNatClampNeg) r11) 0 12 ((v.1 0 12) + (1 : Int32)))) := hD
    refine tp_i (y := (v.1 0 12)) (rfl) ?_
    refine W.widen (k := 0) (n := 0) (Nat.le_refl _) (Nat.le_refl _) ?_
    refine lv_pop hx hb dX13_operate_184 rfl ?_
    refine lv_goto (tgt := 480) hx hb dX13_operate_185 (by decide) ?_
    exact W.vret hx hb hr (fun t ht9 hW => ⟨⟨(wA (wA (wA (wA (wA v 13 ((v.1 0 15).toNatClampNeg) (21 : Int32)) 14 ((v.1 0 15).toNatClampNeg) pa) 0 15 ((v.1 0 15) + (1 : Int32))) 11 ((v.1 0 12).toNatClampNeg) r11) 0 12 ((v.1 0 12) + (1 : Int32))), rfl, ⟨(FG.f (FG.a (FG.f (FG.a (FG.a (FG.rf _) ((v.1 0 15).toNatClampNeg) (21 : Int32) (by decide) (by decide)) ((v.1 0 15).toNatClampNeg) pa (by decide) (by decide)) ((v.1 0 15) + (1 : Int32)) (by decide)) ((v.1 0 12).toNatClampNeg) r11 (by decide) (by decide)) ((v.1 0 12) + (1 : Int32)) (by decide)), ⟨zw, zo, zf, (Or.inl ⟨h7, r11, ex8, rfl⟩)⟩, (show (v.1 0 12).toInt ≤ ((v.1 0 12) + (1 : Int32)).toInt ∧ ((v.1 0 12) + (1 : Int32)).toInt ≤ (v.1 0 12).toInt + 3 from (om_264029c512 z15)), (show ((v.1 0 15) + (1 : Int32)).toInt = (v.1 0 15).toInt + 1 from (om_5bccfc38cf z5)), (show (v.1 0 43).toInt ≤ (v.1 0 43).toInt ∧ (v.1 0 43).toInt ≤ (v.1 0 43).toInt + 1 from om_b79dd2a91d), (fun (j9 : Nat) hj9 => (pk_un3 (a := (v.1 0 12).toInt) rfl (om_4842074e86 zw) (om_4fe904e9bf hj9))), (fun (j9 : Nat) hj9 => (pk_un3 (a := (v.1 0 15).toInt) rfl (om_2ab3f6b9f5 zo) (om_4fe904e9bf hj9))), (fun (j9 : Nat) hj9 => (pk_un3 (a := (v.1 0 15).toInt) rfl (om_2ab3f6b9f5 zo) (om_4fe904e9bf hj9))), (AR.o (AR.o (AR.o (AR.o (AR.o a40 (by decide)) (by decide)) (by decide)) (by decide)) (by decide)), (FX.o (FX.o (FX.o (FX.o (FX.o fx (by decide) (by decide)) (by decide) (by decide)) (by decide) (by decide)) (by decide) (by decide)) (by decide) (by decide)), (fun hiv => (IV.o (IV.o (IV.o (IV.o (IV.o hiv (by decide)) (by decide)) (by decide)) (by decide)) (by decide))), (SGE.mono (SGE.setB sg6 rfl) (show (2 : Int) ≤ (2 : Int) from om_f646c5fae3))⟩, by rw [ht9]; exact hP, hD⟩, hS.F ht9⟩) hS.2.2 dX13_operate_480
  ·
    by_cases h16 : pa = 42
    · refine lv_lookup (off := 426) (tgt := 435) hx hb dX13_operate_9 (by decide) (by rw [h16]; decide) (by decide) ?_
      refine lv_aload_n hx hb dX13_operate_435 rfl (lv_at hl 0 rfl) ?_
      refine lv_aload_n hx hb dX13_operate_436 rfl (lv_at hl 0 rfl) ?_
      refine lv_iconst (v := 0) hx hb dX13_operate_437 (by decide) ?_
      refine cu_i (rn_V (n := 1) (As := [.int 0]) (rest := [.ref (ad 0)]) hx hb hml hown ht hKK hFx hP hD hS hA (c_m_emit l dC dI cI cB cZ cJ cR tb H.size ad N (wA (wA (wA v 13 ((v.1 0 15).toNatClampNeg) (21 : Int32)) 14 ((v.1 0 15).toNatClampNeg) pa) 0 15 ((v.1 0 15) + (1 : Int32))) (0 : Int32) (show 0 ≤ (v.1 0 12).toInt ∧ (v.1 0 12).toInt < 24000 from (om_bd95b2e5c4 zw))) tw_8 tw_9 (by decide +kernel) rfl rfl ⟨Nat.le_of_ble_eq_true rfl, Nat.le_of_ble_eq_true rfl⟩ (List.range (mW ad N cI cZ cJ (wA (wA (wA v 13 ((v.1 0 15).toNatClampNeg) (21 : Int32)) 14 ((v.1 0 15).toNatClampNeg) pa) 0 15 ((v.1 0 15) + (1 : Int32)))).length) (rg_map _) (mW_nd _ _ _ _ _ _) rfl rfl rfl rfl hl.1 rfl (Nat.le_of_ble_eq_true rfl) dX13_operate_438 ⟨Nat.le_of_ble_eq_true rfl, Nat.le_of_ble_eq_true rfl⟩) hP hD hS hA (fun r19 u18 H locs hw17 hP hD hS => ?_)
      obtain ⟨rfl, rfl⟩ := hw17
      have z20 : ((v.1 0 12) + (1 : Int32)).toInt = ((v.1 0 12).toInt) + (1 : Int) := add_z rfl (show (1 : Int32).toInt = (1 : Int) by decide) (om_6650f37474 zw) (om_8ddb6642ab zw)
      have hP : va_P (dC, dI) vwCl (mW ad N cI cZ cJ (wA (wA (wA (wA (wA v 13 ((v.1 0 15).toNatClampNeg) (21 : Int32)) 14 ((v.1 0 15).toNatClampNeg) pa) 0 15 ((v.1 0 15) + (1 : Int32))) 11 ((v.1 0 12).toNatClampNeg) (0 : Int32)) 0 12 ((v.1 0 12) + (1 : Int32)))) H := hP
      have hD : va_D A (mW ad N cI cZ cJ (wA (wA (wA (wA (wA v 13 ((v.1 0 15).toNatClampNeg) (21 : Int32)) 14 ((v.1 0 15).toNatClampNeg) pa) 0 15 ((v.1 0 15) + (1 : Int32))) 11 ((v.1 0 12).toNatClampNeg) (0 : Int32)) 0 12 ((v.1 0 12) + (1 : Int32)))) := hD
      refine tp_i (y := (v.1 0 12)) (rfl) ?_
      refine W.widen (k := 0) (n := 0) (Nat.le_refl _) (Nat.le_refl _) ?_
      refine lv_iconst (v := -1) hx hb dX13_operate_441 (by decide) ?_
      refine lv_iconst (v := 5) hx hb dX13_operate_442 (by decide) ?_
      refine cu_v (rn_V (n := 3) (As := [.int (v.1 0 12), .int (-1), .int 5]) (rest := []) hx hb hml hown ht hKK hFx hP hD hS hA (c_m_fix l dC dI cI cB cZ cJ cR tb H.size ad N (wA (wA (wA (wA (wA v 13 ((v.1 0 15).toNatClampNeg) (21 : Int32)) 14 ((v.1 0 15).toNatClampNeg) pa) 0 15 ((v.1 0 15) + (1 : Int32))) 11 ((v.1 0 12).toNatClampNeg) (0 : Int32)) 0 12 ((v.1 0 12) + (1 : Int32))) (v.1 0 12) (-1 : Int32) (5 : Int32) (show 0 ≤ (v.1 0 43).toInt ∧ (v.1 0 43).toInt < 24000 from (om_bd95b2e5c4 zf)) (show 0 ≤ (v.1 0 12).toInt ∧ (v.1 0 12).toInt < 24000 from (om_bd95b2e5c4 zw)) (show (5 : Int) = 5 ∨ (0 ≤ (-1 : Int) ∧ (-1 : Int) < 60) from om_9a87860940) (show AR 40 0 23999 (wA (wA (wA (wA (wA v 13 ((v.1 0 15).toNatClampNeg) (21 : Int32)) 14 ((v.1 0 15).toNatClampNeg) (v.1 0 12)) 0 15 ((v.1 0 15) + (1 : Int32))) 11 ((v.1 0 12).toNatClampNeg) (0 : Int32)) 0 12 ((v.1 0 12) + (1 : Int32))) from (AR.o (AR.o (AR.o (AR.o (AR.o a40 (by decide)) (by decide)) (by decide)) (by decide)) (by decide))) (show FX (wA (wA (wA (wA (wA v 13 ((v.1 0 15).toNatClampNeg) (21 : Int32)) 14 ((v.1 0 15).toNatClampNeg) (v.1 0 12)) 0 15 ((v.1 0 15) + (1 : Int32))) 11 ((v.1 0 12).toNatClampNeg) (0 : Int32)) 0 12 ((v.1 0 12) + (1 : Int32))) from (FX.o (FX.o (FX.o (FX.o (FX.o fx (by decide) (by decide)) (by decide) (by decide)) (by decide) (by decide)) (by decide) (by decide)) (by decide) (by decide)))) tw_69 tw_70 (by decide +kernel) rfl rfl ⟨Nat.le_of_ble_eq_true rfl, Nat.le_of_ble_eq_true rfl⟩ (List.range (mW ad N cI cZ cJ (wA (wA (wA (wA (wA v 13 ((v.1 0 15).toNatClampNeg) (21 : Int32)) 14 ((v.1 0 15).toNatClampNeg) pa) 0 15 ((v.1 0 15) + (1 : Int32))) 11 ((v.1 0 12).toNatClampNeg) (0 : Int32)) 0 12 ((v.1 0 12) + (1 : Int32)))).length) (rg_map _) (mW_nd _ _ _ _ _ _) rfl rfl rfl rfl hl.1 rfl (Nat.le_of_ble_eq_true rfl) dX13_operate_443 ⟨Nat.le_of_ble_eq_true rfl, Nat.le_of_ble_eq_true rfl⟩) hP hD hS hA (fun u22 H locs hw21 hP hD hS => ?_)
      obtain ⟨fr21, ex21, pf21, a4021, fx21, iv21⟩ := hw21
      have pf21 : (u22.1 0 43).toInt = (v.1 0 43).toInt + 1 := pf21
      have a4021 : AR 40 0 23999 u22 := a4021
      have fx21 : FX u22 := fx21
      have iv21 : IV (wA (wA (wA (wA (wA v 13 ((v.1 0 15).toNatClampNeg) (21 : Int32)) 14 ((v.1 0 15).toNatClampNeg) (v.1 0 12)) 0 15 ((v.1 0 15) + (1 : Int32))) 11 ((v.1 0 12).toNatClampNeg) (0 : Int32)) 0 12 ((v.1 0 12) + (1 : Int32))) → IV u22 := iv21
      have sg24 : SGE (v.1 0 30).toInt (v.1 0 28).toInt (v.1 0 27).toInt (u22.1 13) (u22.1 14) (u22.1 36) (u22.1 38) (v.1 0 15).toNatClampNeg (u22.1 0 15).toNatClampNeg (v.1 0 39).toNatClampNeg (u22.1 0 39).toNatClampNeg ([false, false]) [false] ((2 : Int)) [] := SGE.to sg6 (fun j9 _ => congrFun (fr21.2.2 13 (by decide)) j9) (fun j9 _ => congrFun (fr21.2.2 14 (by decide)) j9) (fun j9 _ _ => congrFun (fr21.2.2 36 (by decide)) j9) (fun j9 _ _ => congrFun (fr21.2.2 38 (by decide)) j9) (congrArg Int32.toNatClampNeg (fr21.2.1 15 (by decide))) (congrArg Int32.toNatClampNeg (fr21.2.1 39 (by decide))) (Int.le_refl _)
      refine W.widen (k := 0) (n := 0) (Nat.le_refl _) (Nat.le_refl _) ?_
      refine lv_goto (tgt := 480) hx hb dX13_operate_446 (by decide) ?_
      have q25 : (u22.1 0 12).toInt = ((v.1 0 12) + (1 : Int32)).toInt := congrArg Int32.toInt ((fr21.2.1 12 (by decide)).trans (show (wA (wA (wA (wA (wA v 13 ((v.1 0 15).toNatClampNeg) (21 : Int32)) 14 ((v.1 0 15).toNatClampNeg) pa) 0 15 ((v.1 0 15) + (1 : Int32))) 11 ((v.1 0 12).toNatClampNeg) (0 : Int32)) 0 12 ((v.1 0 12) + (1 : Int32))).1 0 12 = ((v.1 0 12) + (1 : Int32)) by rfl))
      have q26 : (u22.1 0 15).toInt = ((v.1 0 15) + (1 : Int32)).toInt := congrArg Int32.toInt ((fr21.2.1 15 (by decide)).trans (show (wA (wA (wA (wA (wA v 13 ((v.1 0 15).toNatClampNeg) (21 : Int32)) 14 ((v.1 0 15).toNatClampNeg) pa) 0 15 ((v.1 0 15) + (1 : Int32))) 11 ((v.1 0 12).toNatClampNeg) (0 : Int32)) 0 12 ((v.1 0 12) + (1 : Int32))).1 0 15 = ((v.1 0 15) + (1 : Int32)) by rfl))
      exact W.vret hx hb hr (fun t ht9 hW => ⟨⟨u22, rfl, ⟨(FG.tr (FG.f (FG.a (FG.f (FG.a (FG.a (FG.rf _) ((v.1 0 15).toNatClampNeg) (21 : Int32) (by decide) (by decide)) ((v.1 0 15).toNatClampNeg) pa (by decide) (by decide)) ((v.1 0 15) + (1 : Int32)) (by decide)) ((v.1 0 12).toNatClampNeg) (0 : Int32) (by decide) (by decide)) ((v.1 0 12) + (1 : Int32)) (by decide)) (FG.up fr21 (by decide) (by decide))), ⟨zw, zo, zf, (Or.inr (⟨h7, (Or.inl ⟨h16, u22, ex21, ⟨fr21, pf21⟩, rfl⟩)⟩))⟩, (show (v.1 0 12).toInt ≤ (u22.1 0 12).toInt ∧ (u22.1 0 12).toInt ≤ (v.1 0 12).toInt + 3 from (om_e8b43c6920 z20 q25)), (show (u22.1 0 15).toInt = (v.1 0 15).toInt + 1 from (om_36d688ce66 z5 q26)), (show (v.1 0 43).toInt ≤ (u22.1 0 43).toInt ∧ (u22.1 0 43).toInt ≤ (v.1 0 43).toInt + 1 from (om_c0e95d89ce pf21)), (fun (j9 : Nat) hj9 => (Eq.trans (congrFun (fr21.2.2 11 (by decide)) j9) (pk_un3 (a := (v.1 0 12).toInt) rfl (om_4842074e86 zw) (om_4fe904e9bf hj9)))), (fun (j9 : Nat) hj9 => (Eq.trans (congrFun (fr21.2.2 13 (by decide)) j9) (pk_un3 (a := (v.1 0 15).toInt) rfl (om_2ab3f6b9f5 zo) (om_4fe904e9bf hj9)))), (fun (j9 : Nat) hj9 => (Eq.trans (congrFun (fr21.2.2 14 (by decide)) j9) (pk_un3 (a := (v.1 0 15).toInt) rfl (om_2ab3f6b9f5 zo) (om_4fe904e9bf hj9)))), a4021, fx21, (fun hiv => (iv21 (IV.o (IV.o (IV.o (IV.o (IV.o hiv (by decide)) (by decide)) (by decide)) (by decide)) (by decide)))), (SGE.mono (SGE.setB sg24 rfl) (show (2 : Int) ≤ (2 : Int) from om_f646c5fae3))⟩, by rw [ht9]; exact hP, hD⟩, hS.F ht9⟩) hS.2.2 dX13_operate_480
    ·
      by_cases h27 : pa = 43
      · refine lv_lookup (off := 123) (tgt := 132) hx hb dX13_operate_9 (by decide) (by rw [h27]; decide) (by decide) ?_
        refine lv_aload_n hx hb dX13_operate_132 rfl (lv_at hl 0 rfl) ?_
        refine lv_iconst (v := 0) hx hb dX13_operate_133 (by decide) ?_
        refine lv_iconst (v := 0) hx hb dX13_operate_134 (by decide) ?_
        refine lv_bipush (v := 10) hx hb dX13_operate_135 (by decide) ?_
        refine lv_iconst (v := 5) hx hb dX13_operate_137 (by decide) ?_
        refine lv_bipush (v := 10) hx hb dX13_operate_138 (by decide) ?_
        refine cu_s (mW_nd _ _ _ _ _ _) (rn_S (n := 5) (As := [.int 0, .int 0, .int 10, .int 5, .int 10]) (rest := [.ref (ad 0)]) hx hb hml hown ht hKK hFx hP hD hS hA (c_m_byR l dC dI cI cB cZ cJ cR tb H.size (0 : Int32) (0 : Int32) (10 : Int32) (5 : Int32) (10 : Int32) ) tw_67 tw_68 (by decide +kernel) rfl rfl ⟨Nat.le_of_ble_eq_true rfl, Nat.le_of_ble_eq_true rfl⟩ [] rfl rfl rfl hl.1 rfl (Nat.le_of_ble_eq_true rfl) dX13_operate_140 ⟨Nat.le_of_ble_eq_true rfl, Nat.le_of_ble_eq_true rfl⟩) hP hD hS hA (fun r30 H locs hw28 hP hD hS => ?_)
        have ex28 := hw28
        refine W.widen (k := 0) (n := 0) (Nat.le_refl _) (Nat.le_refl _) ?_
        refine cu_i (rn_V (n := 1) (As := [.int r30]) (rest := []) hx hb hml hown ht hKK hFx hP hD hS hA (c_m_emit l dC dI cI cB cZ cJ cR tb H.size ad N (wA (wA (wA v 13 ((v.1 0 15).toNatClampNeg) (21 : Int32)) 14 ((v.1 0 15).toNatClampNeg) pa) 0 15 ((v.1 0 15) + (1 : Int32))) r30 (show 0 ≤ (v.1 0 12).toInt ∧ (v.1 0 12).toInt < 24000 from (om_bd95b2e5c4 zw))) tw_8 tw_9 (by decide +kernel) rfl rfl ⟨Nat.le_of_ble_eq_true rfl, Nat.le_of_ble_eq_true rfl⟩ (List.range (mW ad N cI cZ cJ (wA (wA (wA v 13 ((v.1 0 15).toNatClampNeg) (21 : Int32)) 14 ((v.1 0 15).toNatClampNeg) pa) 0 15 ((v.1 0 15) + (1 : Int32)))).length) (rg_map _) (mW_nd _ _ _ _ _ _) rfl rfl rfl rfl hl.1 rfl (Nat.le_of_ble_eq_true rfl) dX13_operate_143 ⟨Nat.le_of_ble_eq_true rfl, Nat.le_of_ble_eq_true rfl⟩) hP hD hS hA (fun r33 u32 H locs hw31 hP hD hS => ?_)
        obtain ⟨rfl, rfl⟩ := hw31
        have z34 : ((v.1 0 12) + (1 : Int32)).toInt = ((v.1 0 12).toInt) + (1 : Int) := add_z rfl (show (1 : Int32).toInt = (1 : Int) by decide) (om_6650f37474 zw) (om_8ddb6642ab zw)
        have hP : va_P (dC, dI) vwCl (mW ad N cI cZ cJ (wA (wA (wA (wA (wA v 13 ((v.1 0 15).toNatClampNeg) (21 : Int32)) 14 ((v.1 0 15).toNatClampNeg) pa) 0 15 ((v.1 0 15) + (1 : Int32))) 11 ((v.1 0 12).toNatClampNeg) r30) 0 12 ((v.1 0 12) + (1 : Int32)))) H := hP
        have hD : va_D A (mW ad N cI cZ cJ (wA (wA (wA (wA (wA v 13 ((v.1 0 15).toNatClampNeg) (21 : Int32)) 14 ((v.1 0 15).toNatClampNeg) pa) 0 15 ((v.1 0 15) + (1 : Int32))) 11 ((v.1 0 12).toNatClampNeg) r30) 0 12 ((v.1 0 12) + (1 : Int32)))) := hD
        refine tp_i (y := (v.1 0 12)) (rfl) ?_
        refine W.widen (k := 0) (n := 0) (Nat.le_refl _) (Nat.le_refl _) ?_
        refine lv_pop hx hb dX13_operate_146 rfl ?_
        refine lv_goto (tgt := 480) hx hb dX13_operate_147 (by decide) ?_
        exact W.vret hx hb hr (fun t ht9 hW => ⟨⟨(wA (wA (wA (wA (wA v 13 ((v.1 0 15).toNatClampNeg) (21 : Int32)) 14 ((v.1 0 15).toNatClampNeg) pa) 0 15 ((v.1 0 15) + (1 : Int32))) 11 ((v.1 0 12).toNatClampNeg) r30) 0 12 ((v.1 0 12) + (1 : Int32))), rfl, ⟨(FG.f (FG.a (FG.f (FG.a (FG.a (FG.rf _) ((v.1 0 15).toNatClampNeg) (21 : Int32) (by decide) (by decide)) ((v.1 0 15).toNatClampNeg) pa (by decide) (by decide)) ((v.1 0 15) + (1 : Int32)) (by decide)) ((v.1 0 12).toNatClampNeg) r30 (by decide) (by decide)) ((v.1 0 12) + (1 : Int32)) (by decide)), ⟨zw, zo, zf, (Or.inr (⟨h7, (Or.inr (⟨h16, (Or.inl ⟨h27, r30, ex28, rfl⟩)⟩))⟩))⟩, (show (v.1 0 12).toInt ≤ ((v.1 0 12) + (1 : Int32)).toInt ∧ ((v.1 0 12) + (1 : Int32)).toInt ≤ (v.1 0 12).toInt + 3 from (om_264029c512 z34)), (show ((v.1 0 15) + (1 : Int32)).toInt = (v.1 0 15).toInt + 1 from (om_5bccfc38cf z5)), (show (v.1 0 43).toInt ≤ (v.1 0 43).toInt ∧ (v.1 0 43).toInt ≤ (v.1 0 43).toInt + 1 from om_b79dd2a91d), (fun (j9 : Nat) hj9 => (pk_un3 (a := (v.1 0 12).toInt) rfl (om_4842074e86 zw) (om_4fe904e9bf hj9))), (fun (j9 : Nat) hj9 => (pk_un3 (a := (v.1 0 15).toInt) rfl (om_2ab3f6b9f5 zo) (om_4fe904e9bf hj9))), (fun (j9 : Nat) hj9 => (pk_un3 (a := (v.1 0 15).toInt) rfl (om_2ab3f6b9f5 zo) (om_4fe904e9bf hj9))), (AR.o (AR.o (AR.o (AR.o (AR.o a40 (by decide)) (by decide)) (by decide)) (by decide)) (by decide)), (FX.o (FX.o (FX.o (FX.o (FX.o fx (by decide) (by decide)) (by decide) (by decide)) (by decide) (by decide)) (by decide) (by decide)) (by decide) (by decide)), (fun hiv => (IV.o (IV.o (IV.o (IV.o (IV.o hiv (by decide)) (by decide)) (by decide)) (by decide)) (by decide))), (SGE.mono (SGE.setB sg6 rfl) (show (2 : Int) ≤ (2 : Int) from om_f646c5fae3))⟩, by rw [ht9]; exact hP, hD⟩, hS.F ht9⟩) hS.2.2 dX13_operate_480
      ·
        by_cases h35 : pa = 45
        · refine lv_lookup (off := 141) (tgt := 150) hx hb dX13_operate_9 (by decide) (by rw [h35]; decide) (by decide) ?_
          refine lv_aload_n hx hb dX13_operate_150 rfl (lv_at hl 0 rfl) ?_
          refine lv_bipush (v := 32) hx hb dX13_operate_151 (by decide) ?_
          refine lv_iconst (v := 0) hx hb dX13_operate_153 (by decide) ?_
          refine lv_bipush (v := 10) hx hb dX13_operate_154 (by decide) ?_
          refine lv_iconst (v := 5) hx hb dX13_operate_156 (by decide) ?_
          refine lv_bipush (v := 10) hx hb dX13_operate_157 (by decide) ?_
          refine cu_s (mW_nd _ _ _ _ _ _) (rn_S (n := 5) (As := [.int 32, .int 0, .int 10, .int 5, .int 10]) (rest := [.ref (ad 0)]) hx hb hml hown ht hKK hFx hP hD hS hA (c_m_byR l dC dI cI cB cZ cJ cR tb H.size (32 : Int32) (0 : Int32) (10 : Int32) (5 : Int32) (10 : Int32) ) tw_67 tw_68 (by decide +kernel) rfl rfl ⟨Nat.le_of_ble_eq_true rfl, Nat.le_of_ble_eq_true rfl⟩ [] rfl rfl rfl hl.1 rfl (Nat.le_of_ble_eq_true rfl) dX13_operate_159 ⟨Nat.le_of_ble_eq_true rfl, Nat.le_of_ble_eq_true rfl⟩) hP hD hS hA (fun r38 H locs hw36 hP hD hS => ?_)
          have ex36 := hw36
          refine W.widen (k := 0) (n := 0) (Nat.le_refl _) (Nat.le_refl _) ?_
          refine cu_i (rn_V (n := 1) (As := [.int r38]) (rest := []) hx hb hml hown ht hKK hFx hP hD hS hA (c_m_emit l dC dI cI cB cZ cJ cR tb H.size ad N (wA (wA (wA v 13 ((v.1 0 15).toNatClampNeg) (21 : Int32)) 14 ((v.1 0 15).toNatClampNeg) pa) 0 15 ((v.1 0 15) + (1 : Int32))) r38 (show 0 ≤ (v.1 0 12).toInt ∧ (v.1 0 12).toInt < 24000 from (om_bd95b2e5c4 zw))) tw_8 tw_9 (by decide +kernel) rfl rfl ⟨Nat.le_of_ble_eq_true rfl, Nat.le_of_ble_eq_true rfl⟩ (List.range (mW ad N cI cZ cJ (wA (wA (wA v 13 ((v.1 0 15).toNatClampNeg) (21 : Int32)) 14 ((v.1 0 15).toNatClampNeg) pa) 0 15 ((v.1 0 15) + (1 : Int32)))).length) (rg_map _) (mW_nd _ _ _ _ _ _) rfl rfl rfl rfl hl.1 rfl (Nat.le_of_ble_eq_true rfl) dX13_operate_162 ⟨Nat.le_of_ble_eq_true rfl, Nat.le_of_ble_eq_true rfl⟩) hP hD hS hA (fun r41 u40 H locs hw39 hP hD hS => ?_)
          obtain ⟨rfl, rfl⟩ := hw39
          have z42 : ((v.1 0 12) + (1 : Int32)).toInt = ((v.1 0 12).toInt) + (1 : Int) := add_z rfl (show (1 : Int32).toInt = (1 : Int) by decide) (om_6650f37474 zw) (om_8ddb6642ab zw)
          have hP : va_P (dC, dI) vwCl (mW ad N cI cZ cJ (wA (wA (wA (wA (wA v 13 ((v.1 0 15).toNatClampNeg) (21 : Int32)) 14 ((v.1 0 15).toNatClampNeg) pa) 0 15 ((v.1 0 15) + (1 : Int32))) 11 ((v.1 0 12).toNatClampNeg) r38) 0 12 ((v.1 0 12) + (1 : Int32)))) H := hP
          have hD : va_D A (mW ad N cI cZ cJ (wA (wA (wA (wA (wA v 13 ((v.1 0 15).toNatClampNeg) (21 : Int32)) 14 ((v.1 0 15).toNatClampNeg) pa) 0 15 ((v.1 0 15) + (1 : Int32))) 11 ((v.1 0 12).toNatClampNeg) r38) 0 12 ((v.1 0 12) + (1 : Int32)))) := hD
          refine tp_i (y := (v.1 0 12)) (rfl) ?_
          refine W.widen (k := 0) (n := 0) (Nat.le_refl _) (Nat.le_refl _) ?_
          refine lv_pop hx hb dX13_operate_165 rfl ?_
          refine lv_goto (tgt := 480) hx hb dX13_operate_166 (by decide) ?_
          exact W.vret hx hb hr (fun t ht9 hW => ⟨⟨(wA (wA (wA (wA (wA v 13 ((v.1 0 15).toNatClampNeg) (21 : Int32)) 14 ((v.1 0 15).toNatClampNeg) pa) 0 15 ((v.1 0 15) + (1 : Int32))) 11 ((v.1 0 12).toNatClampNeg) r38) 0 12 ((v.1 0 12) + (1 : Int32))), rfl, ⟨(FG.f (FG.a (FG.f (FG.a (FG.a (FG.rf _) ((v.1 0 15).toNatClampNeg) (21 : Int32) (by decide) (by decide)) ((v.1 0 15).toNatClampNeg) pa (by decide) (by decide)) ((v.1 0 15) + (1 : Int32)) (by decide)) ((v.1 0 12).toNatClampNeg) r38 (by decide) (by decide)) ((v.1 0 12) + (1 : Int32)) (by decide)), ⟨zw, zo, zf, (Or.inr (⟨h7, (Or.inr (⟨h16, (Or.inr (⟨h27, (Or.inl ⟨h35, r38, ex36, rfl⟩)⟩))⟩))⟩))⟩, (show (v.1 0 12).toInt ≤ ((v.1 0 12) + (1 : Int32)).toInt ∧ ((v.1 0 12) + (1 : Int32)).toInt ≤ (v.1 0 12).toInt + 3 from (om_264029c512 z42)), (show ((v.1 0 15) + (1 : Int32)).toInt = (v.1 0 15).toInt + 1 from (om_5bccfc38cf z5)), (show (v.1 0 43).toInt ≤ (v.1 0 43).toInt ∧ (v.1 0 43).toInt ≤ (v.1 0 43).toInt + 1 from om_b79dd2a91d), (fun (j9 : Nat) hj9 => (pk_un3 (a := (v.1 0 12).toInt) rfl (om_4842074e86 zw) (om_4fe904e9bf hj9))), (fun (j9 : Nat) hj9 => (pk_un3 (a := (v.1 0 15).toInt) rfl (om_2ab3f6b9f5 zo) (om_4fe904e9bf hj9))), (fun (j9 : Nat) hj9 => (pk_un3 (a := (v.1 0 15).toInt) rfl (om_2ab3f6b9f5 zo) (om_4fe904e9bf hj9))), (AR.o (AR.o (AR.o (AR.o (AR.o a40 (by decide)) (by decide)) (by decide)) (by decide)) (by decide)), (FX.o (FX.o (FX.o (FX.o (FX.o fx (by decide) (by decide)) (by decide) (by decide)) (by decide) (by decide)) (by decide) (by decide)) (by decide) (by decide)), (fun hiv => (IV.o (IV.o (IV.o (IV.o (IV.o hiv (by decide)) (by decide)) (by decide)) (by decide)) (by decide))), (SGE.mono (SGE.setB sg6 rfl) (show (2 : Int) ≤ (2 : Int) from om_f646c5fae3))⟩, by rw [ht9]; exact hP, hD⟩, hS.F ht9⟩) hS.2.2 dX13_operate_480
        ·
          by_cases h43 : pa = 60
          · refine lv_lookup (off := 253) (tgt := 262) hx hb dX13_operate_9 (by decide) (by rw [h43]; decide) (by decide) ?_
            refine lv_aload_n hx hb dX13_operate_262 rfl (lv_at hl 0 rfl) ?_
            refine lv_iconst (v := 0) hx hb dX13_operate_263 (by decide) ?_
            refine lv_iconst (v := 2) hx hb dX13_operate_264 (by decide) ?_
            refine lv_bipush (v := 10) hx hb dX13_operate_265 (by decide) ?_
            refine lv_iconst (v := 5) hx hb dX13_operate_267 (by decide) ?_
            refine lv_bipush (v := 10) hx hb dX13_operate_268 (by decide) ?_
            refine cu_s (mW_nd _ _ _ _ _ _) (rn_S (n := 5) (As := [.int 0, .int 2, .int 10, .int 5, .int 10]) (rest := [.ref (ad 0)]) hx hb hml hown ht hKK hFx hP hD hS hA (c_m_byR l dC dI cI cB cZ cJ cR tb H.size (0 : Int32) (2 : Int32) (10 : Int32) (5 : Int32) (10 : Int32) ) tw_67 tw_68 (by decide +kernel) rfl rfl ⟨Nat.le_of_ble_eq_true rfl, Nat.le_of_ble_eq_true rfl⟩ [] rfl rfl rfl hl.1 rfl (Nat.le_of_ble_eq_true rfl) dX13_operate_270 ⟨Nat.le_of_ble_eq_true rfl, Nat.le_of_ble_eq_true rfl⟩) hP hD hS hA (fun r46 H locs hw44 hP hD hS => ?_)
            have ex44 := hw44
            refine W.widen (k := 0) (n := 0) (Nat.le_refl _) (Nat.le_refl _) ?_
            refine cu_i (rn_V (n := 1) (As := [.int r46]) (rest := []) hx hb hml hown ht hKK hFx hP hD hS hA (c_m_emit l dC dI cI cB cZ cJ cR tb H.size ad N (wA (wA (wA v 13 ((v.1 0 15).toNatClampNeg) (21 : Int32)) 14 ((v.1 0 15).toNatClampNeg) pa) 0 15 ((v.1 0 15) + (1 : Int32))) r46 (show 0 ≤ (v.1 0 12).toInt ∧ (v.1 0 12).toInt < 24000 from (om_bd95b2e5c4 zw))) tw_8 tw_9 (by decide +kernel) rfl rfl ⟨Nat.le_of_ble_eq_true rfl, Nat.le_of_ble_eq_true rfl⟩ (List.range (mW ad N cI cZ cJ (wA (wA (wA v 13 ((v.1 0 15).toNatClampNeg) (21 : Int32)) 14 ((v.1 0 15).toNatClampNeg) pa) 0 15 ((v.1 0 15) + (1 : Int32)))).length) (rg_map _) (mW_nd _ _ _ _ _ _) rfl rfl rfl rfl hl.1 rfl (Nat.le_of_ble_eq_true rfl) dX13_operate_273 ⟨Nat.le_of_ble_eq_true rfl, Nat.le_of_ble_eq_true rfl⟩) hP hD hS hA (fun r49 u48 H locs hw47 hP hD hS => ?_)
            obtain ⟨rfl, rfl⟩ := hw47
            have z50 : ((v.1 0 12) + (1 : Int32)).toInt = ((v.1 0 12).toInt) + (1 : Int) := add_z rfl (show (1 : Int32).toInt = (1 : Int) by decide) (om_6650f37474 zw) (om_8ddb6642ab zw)
            have hP : va_P (dC, dI) vwCl (mW ad N cI cZ cJ (wA (wA (wA (wA (wA v 13 ((v.1 0 15).toNatClampNeg) (21 : Int32)) 14 ((v.1 0 15).toNatClampNeg) pa) 0 15 ((v.1 0 15) + (1 : Int32))) 11 ((v.1 0 12).toNatClampNeg) r46) 0 12 ((v.1 0 12) + (1 : Int32)))) H := hP
            have hD : va_D A (mW ad N cI cZ cJ (wA (wA (wA (wA (wA v 13 ((v.1 0 15).toNatClampNeg) (21 : Int32)) 14 ((v.1 0 15).toNatClampNeg) pa) 0 15 ((v.1 0 15) + (1 : Int32))) 11 ((v.1 0 12).toNatClampNeg) r46) 0 12 ((v.1 0 12) + (1 : Int32)))) := hD
            refine tp_i (y := (v.1 0 12)) (rfl) ?_
            refine W.widen (k := 0) (n := 0) (Nat.le_refl _) (Nat.le_refl _) ?_
            refine lv_pop hx hb dX13_operate_276 rfl ?_
            refine lv_goto (tgt := 480) hx hb dX13_operate_277 (by decide) ?_
            exact W.vret hx hb hr (fun t ht9 hW => ⟨⟨(wA (wA (wA (wA (wA v 13 ((v.1 0 15).toNatClampNeg) (21 : Int32)) 14 ((v.1 0 15).toNatClampNeg) pa) 0 15 ((v.1 0 15) + (1 : Int32))) 11 ((v.1 0 12).toNatClampNeg) r46) 0 12 ((v.1 0 12) + (1 : Int32))), rfl, ⟨(FG.f (FG.a (FG.f (FG.a (FG.a (FG.rf _) ((v.1 0 15).toNatClampNeg) (21 : Int32) (by decide) (by decide)) ((v.1 0 15).toNatClampNeg) pa (by decide) (by decide)) ((v.1 0 15) + (1 : Int32)) (by decide)) ((v.1 0 12).toNatClampNeg) r46 (by decide) (by decide)) ((v.1 0 12) + (1 : Int32)) (by decide)), ⟨zw, zo, zf, (Or.inr (⟨h7, (Or.inr (⟨h16, (Or.inr (⟨h27, (Or.inr (⟨h35, (Or.inl ⟨h43, r46, ex44, rfl⟩)⟩))⟩))⟩))⟩))⟩, (show (v.1 0 12).toInt ≤ ((v.1 0 12) + (1 : Int32)).toInt ∧ ((v.1 0 12) + (1 : Int32)).toInt ≤ (v.1 0 12).toInt + 3 from (om_264029c512 z50)), (show ((v.1 0 15) + (1 : Int32)).toInt = (v.1 0 15).toInt + 1 from (om_5bccfc38cf z5)), (show (v.1 0 43).toInt ≤ (v.1 0 43).toInt ∧ (v.1 0 43).toInt ≤ (v.1 0 43).toInt + 1 from om_b79dd2a91d), (fun (j9 : Nat) hj9 => (pk_un3 (a := (v.1 0 12).toInt) rfl (om_4842074e86 zw) (om_4fe904e9bf hj9))), (fun (j9 : Nat) hj9 => (pk_un3 (a := (v.1 0 15).toInt) rfl (om_2ab3f6b9f5 zo) (om_4fe904e9bf hj9))), (fun (j9 : Nat) hj9 => (pk_un3 (a := (v.1 0 15).toInt) rfl (om_2ab3f6b9f5 zo) (om_4fe904e9bf hj9))), (AR.o (AR.o (AR.o (AR.o (AR.o a40 (by decide)) (by decide)) (by decide)) (by decide)) (by decide)), (FX.o (FX.o (FX.o (FX.o (FX.o fx (by decide) (by decide)) (by decide) (by decide)) (by decide) (by decide)) (by decide) (by decide)) (by decide) (by decide)), (fun hiv => (IV.o (IV.o (IV.o (IV.o (IV.o hiv (by decide)) (by decide)) (by decide)) (by decide)) (by decide))), (SGE.mono (SGE.setB sg6 rfl) (show (2 : Int) ≤ (2 : Int) from om_f646c5fae3))⟩, by rw [ht9]; exact hP, hD⟩, hS.F ht9⟩) hS.2.2 dX13_operate_480
          ·
            by_cases h51 : pa = 62
            · refine lv_lookup (off := 271) (tgt := 280) hx hb dX13_operate_9 (by decide) (by rw [h51]; decide) (by decide) ?_
              refine lv_aload_n hx hb dX13_operate_280 rfl (lv_at hl 0 rfl) ?_
              refine lv_iconst (v := 0) hx hb dX13_operate_281 (by decide) ?_
              refine lv_iconst (v := 2) hx hb dX13_operate_282 (by decide) ?_
              refine lv_bipush (v := 10) hx hb dX13_operate_283 (by decide) ?_
              refine lv_bipush (v := 10) hx hb dX13_operate_285 (by decide) ?_
              refine lv_iconst (v := 5) hx hb dX13_operate_287 (by decide) ?_
              refine cu_s (mW_nd _ _ _ _ _ _) (rn_S (n := 5) (As := [.int 0, .int 2, .int 10, .int 10, .int 5]) (rest := [.ref (ad 0)]) hx hb hml hown ht hKK hFx hP hD hS hA (c_m_byR l dC dI cI cB cZ cJ cR tb H.size (0 : Int32) (2 : Int32) (10 : Int32) (10 : Int32) (5 : Int32) ) tw_67 tw_68 (by decide +kernel) rfl rfl ⟨Nat.le_of_ble_eq_true rfl, Nat.le_of_ble_eq_true rfl⟩ [] rfl rfl rfl hl.1 rfl (Nat.le_of_ble_eq_true rfl) dX13_operate_288 ⟨Nat.le_of_ble_eq_true rfl, Nat.le_of_ble_eq_true rfl⟩) hP hD hS hA (fun r54 H locs hw52 hP hD hS => ?_)
              have ex52 := hw52
              refine W.widen (k := 0) (n := 0) (Nat.le_refl _) (Nat.le_refl _) ?_
              refine cu_i (rn_V (n := 1) (As := [.int r54]) (rest := []) hx hb hml hown ht hKK hFx hP hD hS hA (c_m_emit l dC dI cI cB cZ cJ cR tb H.size ad N (wA (wA (wA v 13 ((v.1 0 15).toNatClampNeg) (21 : Int32)) 14 ((v.1 0 15).toNatClampNeg) pa) 0 15 ((v.1 0 15) + (1 : Int32))) r54 (show 0 ≤ (v.1 0 12).toInt ∧ (v.1 0 12).toInt < 24000 from (om_bd95b2e5c4 zw))) tw_8 tw_9 (by decide +kernel) rfl rfl ⟨Nat.le_of_ble_eq_true rfl, Nat.le_of_ble_eq_true rfl⟩ (List.range (mW ad N cI cZ cJ (wA (wA (wA v 13 ((v.1 0 15).toNatClampNeg) (21 : Int32)) 14 ((v.1 0 15).toNatClampNeg) pa) 0 15 ((v.1 0 15) + (1 : Int32)))).length) (rg_map _) (mW_nd _ _ _ _ _ _) rfl rfl rfl rfl hl.1 rfl (Nat.le_of_ble_eq_true rfl) dX13_operate_291 ⟨Nat.le_of_ble_eq_true rfl, Nat.le_of_ble_eq_true rfl⟩) hP hD hS hA (fun r57 u56 H locs hw55 hP hD hS => ?_)
              obtain ⟨rfl, rfl⟩ := hw55
              have z58 : ((v.1 0 12) + (1 : Int32)).toInt = ((v.1 0 12).toInt) + (1 : Int) := add_z rfl (show (1 : Int32).toInt = (1 : Int) by decide) (om_6650f37474 zw) (om_8ddb6642ab zw)
              have hP : va_P (dC, dI) vwCl (mW ad N cI cZ cJ (wA (wA (wA (wA (wA v 13 ((v.1 0 15).toNatClampNeg) (21 : Int32)) 14 ((v.1 0 15).toNatClampNeg) pa) 0 15 ((v.1 0 15) + (1 : Int32))) 11 ((v.1 0 12).toNatClampNeg) r54) 0 12 ((v.1 0 12) + (1 : Int32)))) H := hP
              have hD : va_D A (mW ad N cI cZ cJ (wA (wA (wA (wA (wA v 13 ((v.1 0 15).toNatClampNeg) (21 : Int32)) 14 ((v.1 0 15).toNatClampNeg) pa) 0 15 ((v.1 0 15) + (1 : Int32))) 11 ((v.1 0 12).toNatClampNeg) r54) 0 12 ((v.1 0 12) + (1 : Int32)))) := hD
              refine tp_i (y := (v.1 0 12)) (rfl) ?_
              refine W.widen (k := 0) (n := 0) (Nat.le_refl _) (Nat.le_refl _) ?_
              refine lv_pop hx hb dX13_operate_294 rfl ?_
              refine lv_goto (tgt := 480) hx hb dX13_operate_295 (by decide) ?_
              exact W.vret hx hb hr (fun t ht9 hW => ⟨⟨(wA (wA (wA (wA (wA v 13 ((v.1 0 15).toNatClampNeg) (21 : Int32)) 14 ((v.1 0 15).toNatClampNeg) pa) 0 15 ((v.1 0 15) + (1 : Int32))) 11 ((v.1 0 12).toNatClampNeg) r54) 0 12 ((v.1 0 12) + (1 : Int32))), rfl, ⟨(FG.f (FG.a (FG.f (FG.a (FG.a (FG.rf _) ((v.1 0 15).toNatClampNeg) (21 : Int32) (by decide) (by decide)) ((v.1 0 15).toNatClampNeg) pa (by decide) (by decide)) ((v.1 0 15) + (1 : Int32)) (by decide)) ((v.1 0 12).toNatClampNeg) r54 (by decide) (by decide)) ((v.1 0 12) + (1 : Int32)) (by decide)), ⟨zw, zo, zf, (Or.inr (⟨h7, (Or.inr (⟨h16, (Or.inr (⟨h27, (Or.inr (⟨h35, (Or.inr (⟨h43, (Or.inl ⟨h51, r54, ex52, rfl⟩)⟩))⟩))⟩))⟩))⟩))⟩, (show (v.1 0 12).toInt ≤ ((v.1 0 12) + (1 : Int32)).toInt ∧ ((v.1 0 12) + (1 : Int32)).toInt ≤ (v.1 0 12).toInt + 3 from (om_264029c512 z58)), (show ((v.1 0 15) + (1 : Int32)).toInt = (v.1 0 15).toInt + 1 from (om_5bccfc38cf z5)), (show (v.1 0 43).toInt ≤ (v.1 0 43).toInt ∧ (v.1 0 43).toInt ≤ (v.1 0 43).toInt + 1 from om_b79dd2a91d), (fun (j9 : Nat) hj9 => (pk_un3 (a := (v.1 0 12).toInt) rfl (om_4842074e86 zw) (om_4fe904e9bf hj9))), (fun (j9 : Nat) hj9 => (pk_un3 (a := (v.1 0 15).toInt) rfl (om_2ab3f6b9f5 zo) (om_4fe904e9bf hj9))), (fun (j9 : Nat) hj9 => (pk_un3 (a := (v.1 0 15).toInt) rfl (om_2ab3f6b9f5 zo) (om_4fe904e9bf hj9))), (AR.o (AR.o (AR.o (AR.o (AR.o a40 (by decide)) (by decide)) (by decide)) (by decide)) (by decide)), (FX.o (FX.o (FX.o (FX.o (FX.o fx (by decide) (by decide)) (by decide) (by decide)) (by decide) (by decide)) (by decide) (by decide)) (by decide) (by decide)), (fun hiv => (IV.o (IV.o (IV.o (IV.o (IV.o hiv (by decide)) (by decide)) (by decide)) (by decide)) (by decide))), (SGE.mono (SGE.setB sg6 rfl) (show (2 : Int) ≤ (2 : Int) from om_f646c5fae3))⟩, by rw [ht9]; exact hP, hD⟩, hS.F ht9⟩) hS.2.2 dX13_operate_480
            ·
              by_cases h59 : pa = 94
              · refine lv_lookup (off := 198) (tgt := 207) hx hb dX13_operate_9 (by decide) (by rw [h59]; decide) (by decide) ?_
                refine lv_aload_n hx hb dX13_operate_207 rfl (lv_at hl 0 rfl) ?_
                refine lv_iconst (v := 0) hx hb dX13_operate_208 (by decide) ?_
                refine lv_iconst (v := 4) hx hb dX13_operate_209 (by decide) ?_
                refine lv_bipush (v := 10) hx hb dX13_operate_210 (by decide) ?_
                refine lv_iconst (v := 5) hx hb dX13_operate_212 (by decide) ?_
                refine lv_bipush (v := 10) hx hb dX13_operate_213 (by decide) ?_
                refine cu_s (mW_nd _ _ _ _ _ _) (rn_S (n := 5) (As := [.int 0, .int 4, .int 10, .int 5, .int 10]) (rest := [.ref (ad 0)]) hx hb hml hown ht hKK hFx hP hD hS hA (c_m_byR l dC dI cI cB cZ cJ cR tb H.size (0 : Int32) (4 : Int32) (10 : Int32) (5 : Int32) (10 : Int32) ) tw_67 tw_68 (by decide +kernel) rfl rfl ⟨Nat.le_of_ble_eq_true rfl, Nat.le_of_ble_eq_true rfl⟩ [] rfl rfl rfl hl.1 rfl (Nat.le_of_ble_eq_true rfl) dX13_operate_215 ⟨Nat.le_of_ble_eq_true rfl, Nat.le_of_ble_eq_true rfl⟩) hP hD hS hA (fun r62 H locs hw60 hP hD hS => ?_)
                have ex60 := hw60
                refine W.widen (k := 0) (n := 0) (Nat.le_refl _) (Nat.le_refl _) ?_
                refine cu_i (rn_V (n := 1) (As := [.int r62]) (rest := []) hx hb hml hown ht hKK hFx hP hD hS hA (c_m_emit l dC dI cI cB cZ cJ cR tb H.size ad N (wA (wA (wA v 13 ((v.1 0 15).toNatClampNeg) (21 : Int32)) 14 ((v.1 0 15).toNatClampNeg) pa) 0 15 ((v.1 0 15) + (1 : Int32))) r62 (show 0 ≤ (v.1 0 12).toInt ∧ (v.1 0 12).toInt < 24000 from (om_bd95b2e5c4 zw))) tw_8 tw_9 (by decide +kernel) rfl rfl ⟨Nat.le_of_ble_eq_true rfl, Nat.le_of_ble_eq_true rfl⟩ (List.range (mW ad N cI cZ cJ (wA (wA (wA v 13 ((v.1 0 15).toNatClampNeg) (21 : Int32)) 14 ((v.1 0 15).toNatClampNeg) pa) 0 15 ((v.1 0 15) + (1 : Int32)))).length) (rg_map _) (mW_nd _ _ _ _ _ _) rfl rfl rfl rfl hl.1 rfl (Nat.le_of_ble_eq_true rfl) dX13_operate_218 ⟨Nat.le_of_ble_eq_true rfl, Nat.le_of_ble_eq_true rfl⟩) hP hD hS hA (fun r65 u64 H locs hw63 hP hD hS => ?_)
                obtain ⟨rfl, rfl⟩ := hw63
                have z66 : ((v.1 0 12) + (1 : Int32)).toInt = ((v.1 0 12).toInt) + (1 : Int) := add_z rfl (show (1 : Int32).toInt = (1 : Int) by decide) (om_6650f37474 zw) (om_8ddb6642ab zw)
                have hP : va_P (dC, dI) vwCl (mW ad N cI cZ cJ (wA (wA (wA (wA (wA v 13 ((v.1 0 15).toNatClampNeg) (21 : Int32)) 14 ((v.1 0 15).toNatClampNeg) pa) 0 15 ((v.1 0 15) + (1 : Int32))) 11 ((v.1 0 12).toNatClampNeg) r62) 0 12 ((v.1 0 12) + (1 : Int32)))) H := hP
                have hD : va_D A (mW ad N cI cZ cJ (wA (wA (wA (wA (wA v 13 ((v.1 0 15).toNatClampNeg) (21 : Int32)) 14 ((v.1 0 15).toNatClampNeg) pa) 0 15 ((v.1 0 15) + (1 : Int32))) 11 ((v.1 0 12).toNatClampNeg) r62) 0 12 ((v.1 0 12) + (1 : Int32)))) := hD
                refine tp_i (y := (v.1 0 12)) (rfl) ?_
                refine W.widen (k := 0) (n := 0) (Nat.le_refl _) (Nat.le_refl _) ?_
                refine lv_pop hx hb dX13_operate_221 rfl ?_
                refine lv_goto (tgt := 480) hx hb dX13_operate_222 (by decide) ?_
                exact W.vret hx hb hr (fun t ht9 hW => ⟨⟨(wA (wA (wA (wA (wA v 13 ((v.1 0 15).toNatClampNeg) (21 : Int32)) 14 ((v.1 0 15).toNatClampNeg) pa) 0 15 ((v.1 0 15) + (1 : Int32))) 11 ((v.1 0 12).toNatClampNeg) r62) 0 12 ((v.1 0 12) + (1 : Int32))), rfl, ⟨(FG.f (FG.a (FG.f (FG.a (FG.a (FG.rf _) ((v.1 0 15).toNatClampNeg) (21 : Int32) (by decide) (by decide)) ((v.1 0 15).toNatClampNeg) pa (by decide) (by decide)) ((v.1 0 15) + (1 : Int32)) (by decide)) ((v.1 0 12).toNatClampNeg) r62 (by decide) (by decide)) ((v.1 0 12) + (1 : Int32)) (by decide)), ⟨zw, zo, zf, (Or.inr (⟨h7, (Or.inr (⟨h16, (Or.inr (⟨h27, (Or.inr (⟨h35, (Or.inr (⟨h43, (Or.inr (⟨h51, (Or.inl ⟨h59, r62, ex60, rfl⟩)⟩))⟩))⟩))⟩))⟩))⟩))⟩, (show (v.1 0 12).toInt ≤ ((v.1 0 12) + (1 : Int32)).toInt ∧ ((v.1 0 12) + (1 : Int32)).toInt ≤ (v.1 0 12).toInt + 3 from (om_264029c512 z66)), (show ((v.1 0 15) + (1 : Int32)).toInt = (v.1 0 15).toInt + 1 from (om_5bccfc38cf z5)), (show (v.1 0 43).toInt ≤ (v.1 0 43).toInt ∧ (v.1 0 43).toInt ≤ (v.1 0 43).toInt + 1 from om_b79dd2a91d), (fun (j9 : Nat) hj9 => (pk_un3 (a := (v.1 0 12).toInt) rfl (om_4842074e86 zw) (om_4fe904e9bf hj9))), (fun (j9 : Nat) hj9 => (pk_un3 (a := (v.1 0 15).toInt) rfl (om_2ab3f6b9f5 zo) (om_4fe904e9bf hj9))), (fun (j9 : Nat) hj9 => (pk_un3 (a := (v.1 0 15).toInt) rfl (om_2ab3f6b9f5 zo) (om_4fe904e9bf hj9))), (AR.o (AR.o (AR.o (AR.o (AR.o a40 (by decide)) (by decide)) (by decide)) (by decide)) (by decide)), (FX.o (FX.o (FX.o (FX.o (FX.o fx (by decide) (by decide)) (by decide) (by decide)) (by decide) (by decide)) (by decide) (by decide)) (by decide) (by decide)), (fun hiv => (IV.o (IV.o (IV.o (IV.o (IV.o hiv (by decide)) (by decide)) (by decide)) (by decide)) (by decide))), (SGE.mono (SGE.setB sg6 rfl) (show (2 : Int) ≤ (2 : Int) from om_f646c5fae3))⟩, by rw [ht9]; exact hP, hD⟩, hS.F ht9⟩) hS.2.2 dX13_operate_480
              ·
                by_cases h67 : pa = 124
                · refine lv_lookup (off := 179) (tgt := 188) hx hb dX13_operate_9 (by decide) (by rw [h67]; decide) (by decide) ?_
                  refine lv_aload_n hx hb dX13_operate_188 rfl (lv_at hl 0 rfl) ?_
                  refine lv_iconst (v := 0) hx hb dX13_operate_189 (by decide) ?_
                  refine lv_bipush (v := 6) hx hb dX13_operate_190 (by decide) ?_
                  refine lv_bipush (v := 10) hx hb dX13_operate_192 (by decide) ?_
                  refine lv_iconst (v := 5) hx hb dX13_operate_194 (by decide) ?_
                  refine lv_bipush (v := 10) hx hb dX13_operate_195 (by decide) ?_
                  refine cu_s (mW_nd _ _ _ _ _ _) (rn_S (n := 5) (As := [.int 0, .int 6, .int 10, .int 5, .int 10]) (rest := [.ref (ad 0)]) hx hb hml hown ht hKK hFx hP hD hS hA (c_m_byR l dC dI cI cB cZ cJ cR tb H.size (0 : Int32) (6 : Int32) (10 : Int32) (5 : Int32) (10 : Int32) ) tw_67 tw_68 (by decide +kernel) rfl rfl ⟨Nat.le_of_ble_eq_true rfl, Nat.le_of_ble_eq_true rfl⟩ [] rfl rfl rfl hl.1 rfl (Nat.le_of_ble_eq_true rfl) dX13_operate_197 ⟨Nat.le_of_ble_eq_true rfl, Nat.le_of_ble_eq_true rfl⟩) hP hD hS hA (fun r70 H locs hw68 hP hD hS => ?_)
                  have ex68 := hw68
                  refine W.widen (k := 0) (n := 0) (Nat.le_refl _) (Nat.le_refl _) ?_
                  refine cu_i (rn_V (n := 1) (As := [.int r70]) (rest := []) hx hb hml hown ht hKK hFx hP hD hS hA (c_m_emit l dC dI cI cB cZ cJ cR tb H.size ad N (wA (wA (wA v 13 ((v.1 0 15).toNatClampNeg) (21 : Int32)) 14 ((v.1 0 15).toNatClampNeg) pa) 0 15 ((v.1 0 15) + (1 : Int32))) r70 (show 0 ≤ (v.1 0 12).toInt ∧ (v.1 0 12).toInt < 24000 from (om_bd95b2e5c4 zw))) tw_8 tw_9 (by decide +kernel) rfl rfl ⟨Nat.le_of_ble_eq_true rfl, Nat.le_of_ble_eq_true rfl⟩ (List.range (mW ad N cI cZ cJ (wA (wA (wA v 13 ((v.1 0 15).toNatClampNeg) (21 : Int32)) 14 ((v.1 0 15).toNatClampNeg) pa) 0 15 ((v.1 0 15) + (1 : Int32)))).length) (rg_map _) (mW_nd _ _ _ _ _ _) rfl rfl rfl rfl hl.1 rfl (Nat.le_of_ble_eq_true rfl) dX13_operate_200 ⟨Nat.le_of_ble_eq_true rfl, Nat.le_of_ble_eq_true rfl⟩) hP hD hS hA (fun r73 u72 H locs hw71 hP hD hS => ?_)
                  obtain ⟨rfl, rfl⟩ := hw71
                  have z74 : ((v.1 0 12) + (1 : Int32)).toInt = ((v.1 0 12).toInt) + (1 : Int) := add_z rfl (show (1 : Int32).toInt = (1 : Int) by decide) (om_6650f37474 zw) (om_8ddb6642ab zw)
                  have hP : va_P (dC, dI) vwCl (mW ad N cI cZ cJ (wA (wA (wA (wA (wA v 13 ((v.1 0 15).toNatClampNeg) (21 : Int32)) 14 ((v.1 0 15).toNatClampNeg) pa) 0 15 ((v.1 0 15) + (1 : Int32))) 11 ((v.1 0 12).toNatClampNeg) r70) 0 12 ((v.1 0 12) + (1 : Int32)))) H := hP
                  have hD : va_D A (mW ad N cI cZ cJ (wA (wA (wA (wA (wA v 13 ((v.1 0 15).toNatClampNeg) (21 : Int32)) 14 ((v.1 0 15).toNatClampNeg) pa) 0 15 ((v.1 0 15) + (1 : Int32))) 11 ((v.1 0 12).toNatClampNeg) r70) 0 12 ((v.1 0 12) + (1 : Int32)))) := hD
                  refine tp_i (y := (v.1 0 12)) (rfl) ?_
                  refine W.widen (k := 0) (n := 0) (Nat.le_refl _) (Nat.le_refl _) ?_
                  refine lv_pop hx hb dX13_operate_203 rfl ?_
                  refine lv_goto (tgt := 480) hx hb dX13_operate_204 (by decide) ?_
                  exact W.vret hx hb hr (fun t ht9 hW => ⟨⟨(wA (wA (wA (wA (wA v 13 ((v.1 0 15).toNatClampNeg) (21 : Int32)) 14 ((v.1 0 15).toNatClampNeg) pa) 0 15 ((v.1 0 15) + (1 : Int32))) 11 ((v.1 0 12).toNatClampNeg) r70) 0 12 ((v.1 0 12) + (1 : Int32))), rfl, ⟨(FG.f (FG.a (FG.f (FG.a (FG.a (FG.rf _) ((v.1 0 15).toNatClampNeg) (21 : Int32) (by decide) (by decide)) ((v.1 0 15).toNatClampNeg) pa (by decide) (by decide)) ((v.1 0 15) + (1 : Int32)) (by decide)) ((v.1 0 12).toNatClampNeg) r70 (by decide) (by decide)) ((v.1 0 12) + (1 : Int32)) (by decide)), ⟨zw, zo, zf, (Or.inr (⟨h7, (Or.inr (⟨h16, (Or.inr (⟨h27, (Or.inr (⟨h35, (Or.inr (⟨h43, (Or.inr (⟨h51, (Or.inr (⟨h59, (Or.inl ⟨h67, r70, ex68, rfl⟩)⟩))⟩))⟩))⟩))⟩))⟩))⟩))⟩, (show (v.1 0 12).toInt ≤ ((v.1 0 12) + (1 : Int32)).toInt ∧ ((v.1 0 12) + (1 : Int32)).toInt ≤ (v.1 0 12).toInt + 3 from (om_264029c512 z74)), (show ((v.1 0 15) + (1 : Int32)).toInt = (v.1 0 15).toInt + 1 from (om_5bccfc38cf z5)), (show (v.1 0 43).toInt ≤ (v.1 0 43).toInt ∧ (v.1 0 43).toInt ≤ (v.1 0 43).toInt + 1 from om_b79dd2a91d), (fun (j9 : Nat) hj9 => (pk_un3 (a := (v.1 0 12).toInt) rfl (om_4842074e86 zw) (om_4fe904e9bf hj9))), (fun (j9 : Nat) hj9 => (pk_un3 (a := (v.1 0 15).toInt) rfl (om_2ab3f6b9f5 zo) (om_4fe904e9bf hj9))), (fun (j9 : Nat) hj9 => (pk_un3 (a := (v.1 0 15).toInt) rfl (om_2ab3f6b9f5 zo) (om_4fe904e9bf hj9))), (AR.o (AR.o (AR.o (AR.o (AR.o a40 (by decide)) (by decide)) (by decide)) (by decide)) (by decide)), (FX.o (FX.o (FX.o (FX.o (FX.o fx (by decide) (by decide)) (by decide) (by decide)) (by decide) (by decide)) (by decide) (by decide)) (by decide) (by decide)), (fun hiv => (IV.o (IV.o (IV.o (IV.o (IV.o hiv (by decide)) (by decide)) (by decide)) (by decide)) (by decide))), (SGE.mono (SGE.setB sg6 rfl) (show (2 : Int) ≤ (2 : Int) from om_f646c5fae3))⟩, by rw [ht9]; exact hP, hD⟩, hS.F ht9⟩) hS.2.2 dX13_operate_480
                ·
                  by_cases h75 : pa = 15420
                  · refine lv_lookup (off := 216) (tgt := 225) hx hb dX13_operate_9 (by decide) (by rw [h75]; decide) (by decide) ?_
                    refine lv_aload_n hx hb dX13_operate_225 rfl (lv_at hl 0 rfl) ?_
                    refine lv_iconst (v := 0) hx hb dX13_operate_226 (by decide) ?_
                    refine lv_iconst (v := 1) hx hb dX13_operate_227 (by decide) ?_
                    refine lv_bipush (v := 10) hx hb dX13_operate_228 (by decide) ?_
                    refine lv_iconst (v := 5) hx hb dX13_operate_230 (by decide) ?_
                    refine lv_bipush (v := 10) hx hb dX13_operate_231 (by decide) ?_
                    refine cu_s (mW_nd _ _ _ _ _ _) (rn_S (n := 5) (As := [.int 0, .int 1, .int 10, .int 5, .int 10]) (rest := [.ref (ad 0)]) hx hb hml hown ht hKK hFx hP hD hS hA (c_m_byR l dC dI cI cB cZ cJ cR tb H.size (0 : Int32) (1 : Int32) (10 : Int32) (5 : Int32) (10 : Int32) ) tw_67 tw_68 (by decide +kernel) rfl rfl ⟨Nat.le_of_ble_eq_true rfl, Nat.le_of_ble_eq_true rfl⟩ [] rfl rfl rfl hl.1 rfl (Nat.le_of_ble_eq_true rfl) dX13_operate_233 ⟨Nat.le_of_ble_eq_true rfl, Nat.le_of_ble_eq_true rfl⟩) hP hD hS hA (fun r78 H locs hw76 hP hD hS => ?_)
                    have ex76 := hw76
                    refine W.widen (k := 0) (n := 0) (Nat.le_refl _) (Nat.le_refl _) ?_
                    refine cu_i (rn_V (n := 1) (As := [.int r78]) (rest := []) hx hb hml hown ht hKK hFx hP hD hS hA (c_m_emit l dC dI cI cB cZ cJ cR tb H.size ad N (wA (wA (wA v 13 ((v.1 0 15).toNatClampNeg) (21 : Int32)) 14 ((v.1 0 15).toNatClampNeg) pa) 0 15 ((v.1 0 15) + (1 : Int32))) r78 (show 0 ≤ (v.1 0 12).toInt ∧ (v.1 0 12).toInt < 24000 from (om_bd95b2e5c4 zw))) tw_8 tw_9 (by decide +kernel) rfl rfl ⟨Nat.le_of_ble_eq_true rfl, Nat.le_of_ble_eq_true rfl⟩ (List.range (mW ad N cI cZ cJ (wA (wA (wA v 13 ((v.1 0 15).toNatClampNeg) (21 : Int32)) 14 ((v.1 0 15).toNatClampNeg) pa) 0 15 ((v.1 0 15) + (1 : Int32)))).length) (rg_map _) (mW_nd _ _ _ _ _ _) rfl rfl rfl rfl hl.1 rfl (Nat.le_of_ble_eq_true rfl) dX13_operate_236 ⟨Nat.le_of_ble_eq_true rfl, Nat.le_of_ble_eq_true rfl⟩) hP hD hS hA (fun r81 u80 H locs hw79 hP hD hS => ?_)
                    obtain ⟨rfl, rfl⟩ := hw79
                    have z82 : ((v.1 0 12) + (1 : Int32)).toInt = ((v.1 0 12).toInt) + (1 : Int) := add_z rfl (show (1 : Int32).toInt = (1 : Int) by decide) (om_6650f37474 zw) (om_8ddb6642ab zw)
                    have hP : va_P (dC, dI) vwCl (mW ad N cI cZ cJ (wA (wA (wA (wA (wA v 13 ((v.1 0 15).toNatClampNeg) (21 : Int32)) 14 ((v.1 0 15).toNatClampNeg) pa) 0 15 ((v.1 0 15) + (1 : Int32))) 11 ((v.1 0 12).toNatClampNeg) r78) 0 12 ((v.1 0 12) + (1 : Int32)))) H := hP
                    have hD : va_D A (mW ad N cI cZ cJ (wA (wA (wA (wA (wA v 13 ((v.1 0 15).toNatClampNeg) (21 : Int32)) 14 ((v.1 0 15).toNatClampNeg) pa) 0 15 ((v.1 0 15) + (1 : Int32))) 11 ((v.1 0 12).toNatClampNeg) r78) 0 12 ((v.1 0 12) + (1 : Int32)))) := hD
                    refine tp_i (y := (v.1 0 12)) (rfl) ?_
                    refine W.widen (k := 0) (n := 0) (Nat.le_refl _) (Nat.le_refl _) ?_
                    refine lv_pop hx hb dX13_operate_239 rfl ?_
                    refine lv_goto (tgt := 480) hx hb dX13_operate_240 (by decide) ?_
                    exact W.vret hx hb hr (fun t ht9 hW => ⟨⟨(wA (wA (wA (wA (wA v 13 ((v.1 0 15).toNatClampNeg) (21 : Int32)) 14 ((v.1 0 15).toNatClampNeg) pa) 0 15 ((v.1 0 15) + (1 : Int32))) 11 ((v.1 0 12).toNatClampNeg) r78) 0 12 ((v.1 0 12) + (1 : Int32))), rfl, ⟨(FG.f (FG.a (FG.f (FG.a (FG.a (FG.rf _) ((v.1 0 15).toNatClampNeg) (21 : Int32) (by decide) (by decide)) ((v.1 0 15).toNatClampNeg) pa (by decide) (by decide)) ((v.1 0 15) + (1 : Int32)) (by decide)) ((v.1 0 12).toNatClampNeg) r78 (by decide) (by decide)) ((v.1 0 12) + (1 : Int32)) (by decide)), ⟨zw, zo, zf, (Or.inr (⟨h7, (Or.inr (⟨h16, (Or.inr (⟨h27, (Or.inr (⟨h35, (Or.inr (⟨h43, (Or.inr (⟨h51, (Or.inr (⟨h59, (Or.inr (⟨h67, (Or.inl ⟨h75, r78, ex76, rfl⟩)⟩))⟩))⟩))⟩))⟩))⟩))⟩))⟩))⟩, (show (v.1 0 12).toInt ≤ ((v.1 0 12) + (1 : Int32)).toInt ∧ ((v.1 0 12) + (1 : Int32)).toInt ≤ (v.1 0 12).toInt + 3 from (om_264029c512 z82)), (show ((v.1 0 15) + (1 : Int32)).toInt = (v.1 0 15).toInt + 1 from (om_5bccfc38cf z5)), (show (v.1 0 43).toInt ≤ (v.1 0 43).toInt ∧ (v.1 0 43).toInt ≤ (v.1 0 43).toInt + 1 from om_b79dd2a91d), (fun (j9 : Nat) hj9 => (pk_un3 (a := (v.1 0 12).toInt) rfl (om_4842074e86 zw) (om_4fe904e9bf hj9))), (fun (j9 : Nat) hj9 => (pk_un3 (a := (v.1 0 15).toInt) rfl (om_2ab3f6b9f5 zo) (om_4fe904e9bf hj9))), (fun (j9 : Nat) hj9 => (pk_un3 (a := (v.1 0 15).toInt) rfl (om_2ab3f6b9f5 zo) (om_4fe904e9bf hj9))), (AR.o (AR.o (AR.o (AR.o (AR.o a40 (by decide)) (by decide)) (by decide)) (by decide)) (by decide)), (FX.o (FX.o (FX.o (FX.o (FX.o fx (by decide) (by decide)) (by decide) (by decide)) (by decide) (by decide)) (by decide) (by decide)) (by decide) (by decide)), (fun hiv => (IV.o (IV.o (IV.o (IV.o (IV.o hiv (by decide)) (by decide)) (by decide)) (by decide)) (by decide))), (SGE.mono (SGE.setB sg6 rfl) (show (2 : Int) ≤ (2 : Int) from om_f646c5fae3))⟩, by rw [ht9]; exact hP, hD⟩, hS.F ht9⟩) hS.2.2 dX13_operate_480
                  ·
                    by_cases h83 : pa = 15649
                    · refine lv_lookup (off := 392) (tgt := 401) hx hb dX13_operate_9 (by decide) (by rw [h83]; decide) (by decide) ?_
                      refine lv_aload_n hx hb dX13_operate_401 rfl (lv_at hl 0 rfl) ?_
                      refine lv_bipush (v := 32) hx hb dX13_operate_402 (by decide) ?_
                      refine lv_iconst (v := 0) hx hb dX13_operate_404 (by decide) ?_
                      refine lv_bipush (v := 10) hx hb dX13_operate_405 (by decide) ?_
                      refine lv_iconst (v := 5) hx hb dX13_operate_407 (by decide) ?_
                      refine lv_bipush (v := 10) hx hb dX13_operate_408 (by decide) ?_
                      refine cu_s (mW_nd _ _ _ _ _ _) (rn_S (n := 5) (As := [.int 32, .int 0, .int 10, .int 5, .int 10]) (rest := [.ref (ad 0)]) hx hb hml hown ht hKK hFx hP hD hS hA (c_m_byR l dC dI cI cB cZ cJ cR tb H.size (32 : Int32) (0 : Int32) (10 : Int32) (5 : Int32) (10 : Int32) ) tw_67 tw_68 (by decide +kernel) rfl rfl ⟨Nat.le_of_ble_eq_true rfl, Nat.le_of_ble_eq_true rfl⟩ [] rfl rfl rfl hl.1 rfl (Nat.le_of_ble_eq_true rfl) dX13_operate_410 ⟨Nat.le_of_ble_eq_true rfl, Nat.le_of_ble_eq_true rfl⟩) hP hD hS hA (fun r86 H locs hw84 hP hD hS => ?_)
                      have ex84 := hw84
                      refine W.widen (k := 0) (n := 0) (Nat.le_refl _) (Nat.le_refl _) ?_
                      refine cu_i (rn_V (n := 1) (As := [.int r86]) (rest := []) hx hb hml hown ht hKK hFx hP hD hS hA (c_m_emit l dC dI cI cB cZ cJ cR tb H.size ad N (wA (wA (wA v 13 ((v.1 0 15).toNatClampNeg) (21 : Int32)) 14 ((v.1 0 15).toNatClampNeg) pa) 0 15 ((v.1 0 15) + (1 : Int32))) r86 (show 0 ≤ (v.1 0 12).toInt ∧ (v.1 0 12).toInt < 24000 from (om_bd95b2e5c4 zw))) tw_8 tw_9 (by decide +kernel) rfl rfl ⟨Nat.le_of_ble_eq_true rfl, Nat.le_of_ble_eq_true rfl⟩ (List.range (mW ad N cI cZ cJ (wA (wA (wA v 13 ((v.1 0 15).toNatClampNeg) (21 : Int32)) 14 ((v.1 0 15).toNatClampNeg) pa) 0 15 ((v.1 0 15) + (1 : Int32)))).length) (rg_map _) (mW_nd _ _ _ _ _ _) rfl rfl rfl rfl hl.1 rfl (Nat.le_of_ble_eq_true rfl) dX13_operate_413 ⟨Nat.le_of_ble_eq_true rfl, Nat.le_of_ble_eq_true rfl⟩) hP hD hS hA (fun r89 u88 H locs hw87 hP hD hS => ?_)
                      obtain ⟨rfl, rfl⟩ := hw87
                      have z90 : ((v.1 0 12) + (1 : Int32)).toInt = ((v.1 0 12).toInt) + (1 : Int) := add_z rfl (show (1 : Int32).toInt = (1 : Int) by decide) (om_6650f37474 zw) (om_8ddb6642ab zw)
                      have hP : va_P (dC, dI) vwCl (mW ad N cI cZ cJ (wA (wA (wA (wA (wA v 13 ((v.1 0 15).toNatClampNeg) (21 : Int32)) 14 ((v.1 0 15).toNatClampNeg) pa) 0 15 ((v.1 0 15) + (1 : Int32))) 11 ((v.1 0 12).toNatClampNeg) r86) 0 12 ((v.1 0 12) + (1 : Int32)))) H := hP
                      have hD : va_D A (mW ad N cI cZ cJ (wA (wA (wA (wA (wA v 13 ((v.1 0 15).toNatClampNeg) (21 : Int32)) 14 ((v.1 0 15).toNatClampNeg) pa) 0 15 ((v.1 0 15) + (1 : Int32))) 11 ((v.1 0 12).toNatClampNeg) r86) 0 12 ((v.1 0 12) + (1 : Int32)))) := hD
                      refine tp_i (y := (v.1 0 12)) (rfl) ?_
                      refine W.widen (k := 0) (n := 0) (Nat.le_refl _) (Nat.le_refl _) ?_
                      refine lv_pop hx hb dX13_operate_416 rfl ?_
                      refine lv_aload_n hx hb dX13_operate_417 rfl (lv_at hl 0 rfl) ?_
                      refine lv_iconst (v := 0) hx hb dX13_operate_418 (by decide) ?_
                      refine lv_iconst (v := 3) hx hb dX13_operate_419 (by decide) ?_
                      refine lv_bipush (v := 10) hx hb dX13_operate_420 (by decide) ?_
                      refine lv_iconst (v := 0) hx hb dX13_operate_422 (by decide) ?_
                      refine lv_bipush (v := 10) hx hb dX13_operate_423 (by decide) ?_
                      refine cu_s (mW_nd _ _ _ _ _ _) (rn_S (n := 5) (As := [.int 0, .int 3, .int 10, .int 0, .int 10]) (rest := [.ref (ad 0)]) hx hb hml hown ht hKK hFx hP hD hS hA (c_m_byR l dC dI cI cB cZ cJ cR tb H.size (0 : Int32) (3 : Int32) (10 : Int32) (0 : Int32) (10 : Int32) ) tw_67 tw_68 (by decide +kernel) rfl rfl ⟨Nat.le_of_ble_eq_true rfl, Nat.le_of_ble_eq_true rfl⟩ [] rfl rfl rfl hl.1 rfl (Nat.le_of_ble_eq_true rfl) dX13_operate_425 ⟨Nat.le_of_ble_eq_true rfl, Nat.le_of_ble_eq_true rfl⟩) hP hD hS hA (fun r93 H locs hw91 hP hD hS => ?_)
                      have ex91 := hw91
                      refine W.widen (k := 0) (n := 0) (Nat.le_refl _) (Nat.le_refl _) ?_
                      refine cu_i (rn_V (n := 1) (As := [.int r93]) (rest := []) hx hb hml hown ht hKK hFx hP hD hS hA (c_m_emit l dC dI cI cB cZ cJ cR tb H.size ad N (wA (wA (wA (wA (wA v 13 ((v.1 0 15).toNatClampNeg) (21 : Int32)) 14 ((v.1 0 15).toNatClampNeg) pa) 0 15 ((v.1 0 15) + (1 : Int32))) 11 ((v.1 0 12).toNatClampNeg) r86) 0 12 ((v.1 0 12) + (1 : Int32))) r93 (show 0 ≤ ((v.1 0 12) + (1 : Int32)).toInt ∧ ((v.1 0 12) + (1 : Int32)).toInt < 24000 from (om_d1ed3ade5a zw z90))) tw_8 tw_9 (by decide +kernel) rfl rfl ⟨Nat.le_of_ble_eq_true rfl, Nat.le_of_ble_eq_true rfl⟩ (List.range (mW ad N cI cZ cJ (wA (wA (wA (wA (wA v 13 ((v.1 0 15).toNatClampNeg) (21 : Int32)) 14 ((v.1 0 15).toNatClampNeg) pa) 0 15 ((v.1 0 15) + (1 : Int32))) 11 ((v.1 0 12).toNatClampNeg) r86) 0 12 ((v.1 0 12) + (1 : Int32)))).length) (rg_map _) (mW_nd _ _ _ _ _ _) rfl rfl rfl rfl hl.1 rfl (Nat.le_of_ble_eq_true rfl) dX13_operate_428 ⟨Nat.le_of_ble_eq_true rfl, Nat.le_of_ble_eq_true rfl⟩) hP hD hS hA (fun r96 u95 H locs hw94 hP hD hS => ?_)
                      obtain ⟨rfl, rfl⟩ := hw94
                      have z97 : (((v.1 0 12) + (1 : Int32)) + (1 : Int32)).toInt = (((v.1 0 12).toInt) + (1 : Int)) + (1 : Int) := add_z z90 (show (1 : Int32).toInt = (1 : Int) by decide) (om_13df27bb56 zw) (om_d9744998dd zw)
                      have hP : va_P (dC, dI) vwCl (mW ad N cI cZ cJ (wA (wA (wA (wA (wA (wA (wA v 13 ((v.1 0 15).toNatClampNeg) (21 : Int32)) 14 ((v.1 0 15).toNatClampNeg) pa) 0 15 ((v.1 0 15) + (1 : Int32))) 11 ((v.1 0 12).toNatClampNeg) r86) 0 12 ((v.1 0 12) + (1 : Int32))) 11 (((v.1 0 12) + (1 : Int32)).toNatClampNeg) r93) 0 12 (((v.1 0 12) + (1 : Int32)) + (1 : Int32)))) H := hP
                      have hD : va_D A (mW ad N cI cZ cJ (wA (wA (wA (wA (wA (wA (wA v 13 ((v.1 0 15).toNatClampNeg) (21 : Int32)) 14 ((v.1 0 15).toNatClampNeg) pa) 0 15 ((v.1 0 15) + (1 : Int32))) 11 ((v.1 0 12).toNatClampNeg) r86) 0 12 ((v.1 0 12) + (1 : Int32))) 11 (((v.1 0 12) + (1 : Int32)).toNatClampNeg) r93) 0 12 (((v.1 0 12) + (1 : Int32)) + (1 : Int32)))) := hD
                      refine tp_i (y := ((v.1 0 12) + (1 : Int32))) (rfl) ?_
                      refine W.widen (k := 0) (n := 0) (Nat.le_refl _) (Nat.le_refl _) ?_
                      refine lv_pop hx hb dX13_operate_431 rfl ?_
                      refine lv_goto (tgt := 480) hx hb dX13_operate_432 (by decide) ?_
                      exact W.vret hx hb hr (fun t ht9 hW => ⟨⟨(wA (wA (wA (wA (wA (wA (wA v 13 ((v.1 0 15).toNatClampNeg) (21 : Int32)) 14 ((v.1 0 15).toNatClampNeg) pa) 0 15 ((v.1 0 15) + (1 : Int32))) 11 ((v.1 0 12).toNatClampNeg) r86) 0 12 ((v.1 0 12) + (1 : Int32))) 11 (((v.1 0 12) + (1 : Int32)).toNatClampNeg) r93) 0 12 (((v.1 0 12) + (1 : Int32)) + (1 : Int32))), rfl, ⟨(FG.f (FG.a (FG.f (FG.a (FG.f (FG.a (FG.a (FG.rf _) ((v.1 0 15).toNatClampNeg) (21 : Int32) (by decide) (by decide)) ((v.1 0 15).toNatClampNeg) pa (by decide) (by decide)) ((v.1 0 15) + (1 : Int32)) (by decide)) ((v.1 0 12).toNatClampNeg) r86 (by decide) (by decide)) ((v.1 0 12) + (1 : Int32)) (by decide)) (((v.1 0 12) + (1 : Int32)).toNatClampNeg) r93 (by decide) (by decide)) (((v.1 0 12) + (1 : Int32)) + (1 : Int32)) (by decide)), ⟨zw, zo, zf, (Or.inr (⟨h7, (Or.inr (⟨h16, (Or.inr (⟨h27, (Or.inr (⟨h35, (Or.inr (⟨h43, (Or.inr (⟨h51, (Or.inr (⟨h59, (Or.inr (⟨h67, (Or.inr (⟨h75, (Or.inl ⟨h83, r86, ex84, r93, ex91, rfl⟩)⟩))⟩))⟩))⟩))⟩))⟩))⟩))⟩))⟩))⟩, (show (v.1 0 12).toInt ≤ (((v.1 0 12) + (1 : Int32)) + (1 : Int32)).toInt ∧ (((v.1 0 12) + (1 : Int32)) + (1 : Int32)).toInt ≤ (v.1 0 12).toInt + 3 from (om_8134f39256 z97)), (show ((v.1 0 15) + (1 : Int32)).toInt = (v.1 0 15).toInt + 1 from (om_5bccfc38cf z5)), (show (v.1 0 43).toInt ≤ (v.1 0 43).toInt ∧ (v.1 0 43).toInt ≤ (v.1 0 43).toInt + 1 from om_b79dd2a91d), (fun (j9 : Nat) hj9 => (Eq.trans (pk_un3 (a := ((v.1 0 12) + (1 : Int32)).toInt) rfl (om_0f6ec7af46 zw z90) (om_56bf42079b z90 hj9)) (pk_un3 (a := (v.1 0 12).toInt) rfl (om_4842074e86 zw) (om_4fe904e9bf hj9)))), (fun (j9 : Nat) hj9 => (pk_un3 (a := (v.1 0 15).toInt) rfl (om_2ab3f6b9f5 zo) (om_4fe904e9bf hj9))), (fun (j9 : Nat) hj9 => (pk_un3 (a := (v.1 0 15).toInt) rfl (om_2ab3f6b9f5 zo) (om_4fe904e9bf hj9))), (AR.o (AR.o (AR.o (AR.o (AR.o (AR.o (AR.o a40 (by decide)) (by decide)) (by decide)) (by decide)) (by decide)) (by decide)) (by decide)), (FX.o (FX.o (FX.o (FX.o (FX.o (FX.o (FX.o fx (by decide) (by decide)) (by decide) (by decide)) (by decide) (by decide)) (by decide) (by decide)) (by decide) (by decide)) (by decide) (by decide)) (by decide) (by decide)), (fun hiv => (IV.o (IV.o (IV.o (IV.o (IV.o (IV.o (IV.o hiv (by decide)) (by decide)) (by decide)) (by decide)) (by decide)) (by decide)) (by decide))), (SGE.mono (SGE.setB sg6 rfl) (show (2 : Int) ≤ (2 : Int) from om_f646c5fae3))⟩, by rw [ht9]; exact hP, hD⟩, hS.F ht9⟩) hS.2.2 dX13_operate_480
                    ·
                      by_cases h98 : pa = 15676
                      · refine lv_lookup (off := 289) (tgt := 298) hx hb dX13_operate_9 (by decide) (by rw [h98]; decide) (by decide) ?_
                        refine lv_aload_n hx hb dX13_operate_298 rfl (lv_at hl 0 rfl) ?_
                        refine lv_iconst (v := 0) hx hb dX13_operate_299 (by decide) ?_
                        refine lv_iconst (v := 2) hx hb dX13_operate_300 (by decide) ?_
                        refine lv_bipush (v := 10) hx hb dX13_operate_301 (by decide) ?_
                        refine lv_bipush (v := 10) hx hb dX13_operate_303 (by decide) ?_
                        refine lv_iconst (v := 5) hx hb dX13_operate_305 (by decide) ?_
                        refine cu_s (mW_nd _ _ _ _ _ _) (rn_S (n := 5) (As := [.int 0, .int 2, .int 10, .int 10, .int 5]) (rest := [.ref (ad 0)]) hx hb hml hown ht hKK hFx hP hD hS hA (c_m_byR l dC dI cI cB cZ cJ cR tb H.size (0 : Int32) (2 : Int32) (10 : Int32) (10 : Int32) (5 : Int32) ) tw_67 tw_68 (by decide +kernel) rfl rfl ⟨Nat.le_of_ble_eq_true rfl, Nat.le_of_ble_eq_true rfl⟩ [] rfl rfl rfl hl.1 rfl (Nat.le_of_ble_eq_true rfl) dX13_operate_306 ⟨Nat.le_of_ble_eq_true rfl, Nat.le_of_ble_eq_true rfl⟩) hP hD hS hA (fun r101 H locs hw99 hP hD hS => ?_)
                        have ex99 := hw99
                        refine W.widen (k := 0) (n := 0) (Nat.le_refl _) (Nat.le_refl _) ?_
                        refine cu_i (rn_V (n := 1) (As := [.int r101]) (rest := []) hx hb hml hown ht hKK hFx hP hD hS hA (c_m_emit l dC dI cI cB cZ cJ cR tb H.size ad N (wA (wA (wA v 13 ((v.1 0 15).toNatClampNeg) (21 : Int32)) 14 ((v.1 0 15).toNatClampNeg) pa) 0 15 ((v.1 0 15) + (1 : Int32))) r101 (show 0 ≤ (v.1 0 12).toInt ∧ (v.1 0 12).toInt < 24000 from (om_bd95b2e5c4 zw))) tw_8 tw_9 (by decide +kernel) rfl rfl ⟨Nat.le_of_ble_eq_true rfl, Nat.le_of_ble_eq_true rfl⟩ (List.range (mW ad N cI cZ cJ (wA (wA (wA v 13 ((v.1 0 15).toNatClampNeg) (21 : Int32)) 14 ((v.1 0 15).toNatClampNeg) pa) 0 15 ((v.1 0 15) + (1 : Int32)))).length) (rg_map _) (mW_nd _ _ _ _ _ _) rfl rfl rfl rfl hl.1 rfl (Nat.le_of_ble_eq_true rfl) dX13_operate_309 ⟨Nat.le_of_ble_eq_true rfl, Nat.le_of_ble_eq_true rfl⟩) hP hD hS hA (fun r104 u103 H locs hw102 hP hD hS => ?_)
                        obtain ⟨rfl, rfl⟩ := hw102
                        have z105 : ((v.1 0 12) + (1 : Int32)).toInt = ((v.1 0 12).toInt) + (1 : Int) := add_z rfl (show (1 : Int32).toInt = (1 : Int) by decide) (om_6650f37474 zw) (om_8ddb6642ab zw)
                        have hP : va_P (dC, dI) vwCl (mW ad N cI cZ cJ (wA (wA (wA (wA (wA v 13 ((v.1 0 15).toNatClampNeg) (21 : Int32)) 14 ((v.1 0 15).toNatClampNeg) pa) 0 15 ((v.1 0 15) + (1 : Int32))) 11 ((v.1 0 12).toNatClampNeg) r101) 0 12 ((v.1 0 12) + (1 : Int32)))) H := hP
                        have hD : va_D A (mW ad N cI cZ cJ (wA (wA (wA (wA (wA v 13 ((v.1 0 15).toNatClampNeg) (21 : Int32)) 14 ((v.1 0 15).toNatClampNeg) pa) 0 15 ((v.1 0 15) + (1 : Int32))) 11 ((v.1 0 12).toNatClampNeg) r101) 0 12 ((v.1 0 12) + (1 : Int32)))) := hD
                        refine tp_i (y := (v.1 0 12)) (rfl) ?_
                        refine W.widen (k := 0) (n := 0) (Nat.le_refl _) (Nat.le_refl _) ?_
                        refine lv_pop hx hb dX13_operate_312 rfl ?_
                        refine lv_aload_n hx hb dX13_operate_313 rfl (lv_at hl 0 rfl) ?_
                        refine lv_bipush (v := 19) hx hb dX13_operate_314 (by decide) ?_
                        refine lv_iconst (v := 4) hx hb dX13_operate_316 (by decide) ?_
                        refine lv_bipush (v := 10) hx hb dX13_operate_317 (by decide) ?_
                        refine lv_bipush (v := 10) hx hb dX13_operate_319 (by decide) ?_
                        refine lv_iconst (v := 1) hx hb dX13_operate_321 (by decide) ?_
                        refine cu_s (mW_nd _ _ _ _ _ _) (rn_S (n := 5) (As := [.int 19, .int 4, .int 10, .int 10, .int 1]) (rest := [.ref (ad 0)]) hx hb hml hown ht hKK hFx hP hD hS hA (c_m_byI l dC dI cI cB cZ cJ cR tb H.size (19 : Int32) (4 : Int32) (10 : Int32) (10 : Int32) (1 : Int32) ) tw_2 tw_3 (by decide +kernel) rfl rfl ⟨Nat.le_of_ble_eq_true rfl, Nat.le_of_ble_eq_true rfl⟩ [] rfl rfl rfl hl.1 rfl (Nat.le_of_ble_eq_true rfl) dX13_operate_322 ⟨Nat.le_of_ble_eq_true rfl, Nat.le_of_ble_eq_true rfl⟩) hP hD hS hA (fun r108 H locs hw106 hP hD hS => ?_)
                        have ex106 := hw106
                        refine W.widen (k := 0) (n := 0) (Nat.le_refl _) (Nat.le_refl _) ?_
                        refine cu_i (rn_V (n := 1) (As := [.int r108]) (rest := []) hx hb hml hown ht hKK hFx hP hD hS hA (c_m_emit l dC dI cI cB cZ cJ cR tb H.size ad N (wA (wA (wA (wA (wA v 13 ((v.1 0 15).toNatClampNeg) (21 : Int32)) 14 ((v.1 0 15).toNatClampNeg) pa) 0 15 ((v.1 0 15) + (1 : Int32))) 11 ((v.1 0 12).toNatClampNeg) r101) 0 12 ((v.1 0 12) + (1 : Int32))) r108 (show 0 ≤ ((v.1 0 12) + (1 : Int32)).toInt ∧ ((v.1 0 12) + (1 : Int32)).toInt < 24000 from (om_d1ed3ade5a zw z105))) tw_8 tw_9 (by decide +kernel) rfl rfl ⟨Nat.le_of_ble_eq_true rfl, Nat.le_of_ble_eq_true rfl⟩ (List.range (mW ad N cI cZ cJ (wA (wA (wA (wA (wA v 13 ((v.1 0 15).toNatClampNeg) (21 : Int32)) 14 ((v.1 0 15).toNatClampNeg) pa) 0 15 ((v.1 0 15) + (1 : Int32))) 11 ((v.1 0 12).toNatClampNeg) r101) 0 12 ((v.1 0 12) + (1 : Int32)))).length) (rg_map _) (mW_nd _ _ _ _ _ _) rfl rfl rfl rfl hl.1 rfl (Nat.le_of_ble_eq_true rfl) dX13_operate_325 ⟨Nat.le_of_ble_eq_true rfl, Nat.le_of_ble_eq_true rfl⟩) hP hD hS hA (fun r111 u110 H locs hw109 hP hD hS => ?_)
                        obtain ⟨rfl, rfl⟩ := hw109
                        have z112 : (((v.1 0 12) + (1 : Int32)) + (1 : Int32)).toInt = (((v.1 0 12).toInt) + (1 : Int)) + (1 : Int) := add_z z105 (show (1 : Int32).toInt = (1 : Int) by decide) (om_13df27bb56 zw) (om_d9744998dd zw)
                        have hP : va_P (dC, dI) vwCl (mW ad N cI cZ cJ (wA (wA (wA (wA (wA (wA (wA v 13 ((v.1 0 15).toNatClampNeg) (21 : Int32)) 14 ((v.1 0 15).toNatClampNeg) pa) 0 15 ((v.1 0 15) + (1 : Int32))) 11 ((v.1 0 12).toNatClampNeg) r101) 0 12 ((v.1 0 12) + (1 : Int32))) 11 (((v.1 0 12) + (1 : Int32)).toNatClampNeg) r108) 0 12 (((v.1 0 12) + (1 : Int32)) + (1 : Int32)))) H := hP
                        have hD : va_D A (mW ad N cI cZ cJ (wA (wA (wA (wA (wA (wA (wA v 13 ((v.1 0 15).toNatClampNeg) (21 : Int32)) 14 ((v.1 0 15).toNatClampNeg) pa) 0 15 ((v.1 0 15) + (1 : Int32))) 11 ((v.1 0 12).toNatClampNeg) r101) 0 12 ((v.1 0 12) + (1 : Int32))) 11 (((v.1 0 12) + (1 : Int32)).toNatClampNeg) r108) 0 12 (((v.1 0 12) + (1 : Int32)) + (1 : Int32)))) := hD
                        refine tp_i (y := ((v.1 0 12) + (1 : Int32))) (rfl) ?_
                        refine W.widen (k := 0) (n := 0) (Nat.le_refl _) (Nat.le_refl _) ?_
                        refine lv_pop hx hb dX13_operate_328 rfl ?_
                        refine lv_goto (tgt := 480) hx hb dX13_operate_329 (by decide) ?_
                        exact W.vret hx hb hr (fun t ht9 hW => ⟨⟨(wA (wA (wA (wA (wA (wA (wA v 13 ((v.1 0 15).toNatClampNeg) (21 : Int32)) 14 ((v.1 0 15).toNatClampNeg) pa) 0 15 ((v.1 0 15) + (1 : Int32))) 11 ((v.1 0 12).toNatClampNeg) r101) 0 12 ((v.1 0 12) + (1 : Int32))) 11 (((v.1 0 12) + (1 : Int32)).toNatClampNeg) r108) 0 12 (((v.1 0 12) + (1 : Int32)) + (1 : Int32))), rfl, ⟨(FG.f (FG.a (FG.f (FG.a (FG.f (FG.a (FG.a (FG.rf _) ((v.1 0 15).toNatClampNeg) (21 : Int32) (by decide) (by decide)) ((v.1 0 15).toNatClampNeg) pa (by decide) (by decide)) ((v.1 0 15) + (1 : Int32)) (by decide)) ((v.1 0 12).toNatClampNeg) r101 (by decide) (by decide)) ((v.1 0 12) + (1 : Int32)) (by decide)) (((v.1 0 12) + (1 : Int32)).toNatClampNeg) r108 (by decide) (by decide)) (((v.1 0 12) + (1 : Int32)) + (1 : Int32)) (by decide)), ⟨zw, zo, zf, (Or.inr (⟨h7, (Or.inr (⟨h16, (Or.inr (⟨h27, (Or.inr (⟨h35, (Or.inr (⟨h43, (Or.inr (⟨h51, (Or.inr (⟨h59, (Or.inr (⟨h67, (Or.inr (⟨h75, (Or.inr (⟨h83, (Or.inl ⟨h98, r101, ex99, r108, ex106, rfl⟩)⟩))⟩))⟩))⟩))⟩))⟩))⟩))⟩))⟩))⟩))⟩, (show (v.1 0 12).toInt ≤ (((v.1 0 12) + (1 : Int32)) + (1 : Int32)).toInt ∧ (((v.1 0 12) + (1 : Int32)) + (1 : Int32)).toInt ≤ (v.1 0 12).toInt + 3 from (om_8134f39256 z112)), (show ((v.1 0 15) + (1 : Int32)).toInt = (v.1 0 15).toInt + 1 from (om_5bccfc38cf z5)), (show (v.1 0 43).toInt ≤ (v.1 0 43).toInt ∧ (v.1 0 43).toInt ≤ (v.1 0 43).toInt + 1 from om_b79dd2a91d), (fun (j9 : Nat) hj9 => (Eq.trans (pk_un3 (a := ((v.1 0 12) + (1 : Int32)).toInt) rfl (om_0f6ec7af46 zw z105) (om_56bf42079b z105 hj9)) (pk_un3 (a := (v.1 0 12).toInt) rfl (om_4842074e86 zw) (om_4fe904e9bf hj9)))), (fun (j9 : Nat) hj9 => (pk_un3 (a := (v.1 0 15).toInt) rfl (om_2ab3f6b9f5 zo) (om_4fe904e9bf hj9))), (fun (j9 : Nat) hj9 => (pk_un3 (a := (v.1 0 15).toInt) rfl (om_2ab3f6b9f5 zo) (om_4fe904e9bf hj9))), (AR.o (AR.o (AR.o (AR.o (AR.o (AR.o (AR.o a40 (by decide)) (by decide)) (by decide)) (by decide)) (by decide)) (by decide)) (by decide)), (FX.o (FX.o (FX.o (FX.o (FX.o (FX.o (FX.o fx (by decide) (by decide)) (by decide) (by decide)) (by decide) (by decide)) (by decide) (by decide)) (by decide) (by decide)) (by decide) (by decide)) (by decide) (by decide)), (fun hiv => (IV.o (IV.o (IV.o (IV.o (IV.o (IV.o (IV.o hiv (by decide)) (by decide)) (by decide)) (by decide)) (by decide)) (by decide)) (by decide))), (SGE.mono (SGE.setB sg6 rfl) (show (2 : Int) ≤ (2 : Int) from om_f646c5fae3))⟩, by rw [ht9]; exact hP, hD⟩, hS.F ht9⟩) hS.2.2 dX13_operate_480
                      ·
                        by_cases h113 : pa = 15677
                        · refine lv_lookup (off := 357) (tgt := 366) hx hb dX13_operate_9 (by decide) (by rw [h113]; decide) (by decide) ?_
                          refine lv_aload_n hx hb dX13_operate_366 rfl (lv_at hl 0 rfl) ?_
                          refine lv_bipush (v := 32) hx hb dX13_operate_367 (by decide) ?_
                          refine lv_iconst (v := 0) hx hb dX13_operate_369 (by decide) ?_
                          refine lv_bipush (v := 10) hx hb dX13_operate_370 (by decide) ?_
                          refine lv_iconst (v := 5) hx hb dX13_operate_372 (by decide) ?_
                          refine lv_bipush (v := 10) hx hb dX13_operate_373 (by decide) ?_
                          refine cu_s (mW_nd _ _ _ _ _ _) (rn_S (n := 5) (As := [.int 32, .int 0, .int 10, .int 5, .int 10]) (rest := [.ref (ad 0)]) hx hb hml hown ht hKK hFx hP hD hS hA (c_m_byR l dC dI cI cB cZ cJ cR tb H.size (32 : Int32) (0 : Int32) (10 : Int32) (5 : Int32) (10 : Int32) ) tw_67 tw_68 (by decide +kernel) rfl rfl ⟨Nat.le_of_ble_eq_true rfl, Nat.le_of_ble_eq_true rfl⟩ [] rfl rfl rfl hl.1 rfl (Nat.le_of_ble_eq_true rfl) dX13_operate_375 ⟨Nat.le_of_ble_eq_true rfl, Nat.le_of_ble_eq_true rfl⟩) hP hD hS hA (fun r116 H locs hw114 hP hD hS => ?_)
                          have ex114 := hw114
                          refine W.widen (k := 0) (n := 0) (Nat.le_refl _) (Nat.le_refl _) ?_
                          refine cu_i (rn_V (n := 1) (As := [.int r116]) (rest := []) hx hb hml hown ht hKK hFx hP hD hS hA (c_m_emit l dC dI cI cB cZ cJ cR tb H.size ad N (wA (wA (wA v 13 ((v.1 0 15).toNatClampNeg) (21 : Int32)) 14 ((v.1 0 15).toNatClampNeg) pa) 0 15 ((v.1 0 15) + (1 : Int32))) r116 (show 0 ≤ (v.1 0 12).toInt ∧ (v.1 0 12).toInt < 24000 from (om_bd95b2e5c4 zw))) tw_8 tw_9 (by decide +kernel) rfl rfl ⟨Nat.le_of_ble_eq_true rfl, Nat.le_of_ble_eq_true rfl⟩ (List.range (mW ad N cI cZ cJ (wA (wA (wA v 13 ((v.1 0 15).toNatClampNeg) (21 : Int32)) 14 ((v.1 0 15).toNatClampNeg) pa) 0 15 ((v.1 0 15) + (1 : Int32)))).length) (rg_map _) (mW_nd _ _ _ _ _ _) rfl rfl rfl rfl hl.1 rfl (Nat.le_of_ble_eq_true rfl) dX13_operate_378 ⟨Nat.le_of_ble_eq_true rfl, Nat.le_of_ble_eq_true rfl⟩) hP hD hS hA (fun r119 u118 H locs hw117 hP hD hS => ?_)
                          obtain ⟨rfl, rfl⟩ := hw117
                          have z120 : ((v.1 0 12) + (1 : Int32)).toInt = ((v.1 0 12).toInt) + (1 : Int) := add_z rfl (show (1 : Int32).toInt = (1 : Int) by decide) (om_6650f37474 zw) (om_8ddb6642ab zw)
                          have hP : va_P (dC, dI) vwCl (mW ad N cI cZ cJ (wA (wA (wA (wA (wA v 13 ((v.1 0 15).toNatClampNeg) (21 : Int32)) 14 ((v.1 0 15).toNatClampNeg) pa) 0 15 ((v.1 0 15) + (1 : Int32))) 11 ((v.1 0 12).toNatClampNeg) r116) 0 12 ((v.1 0 12) + (1 : Int32)))) H := hP
                          have hD : va_D A (mW ad N cI cZ cJ (wA (wA (wA (wA (wA v 13 ((v.1 0 15).toNatClampNeg) (21 : Int32)) 14 ((v.1 0 15).toNatClampNeg) pa) 0 15 ((v.1 0 15) + (1 : Int32))) 11 ((v.1 0 12).toNatClampNeg) r116) 0 12 ((v.1 0 12) + (1 : Int32)))) := hD
                          refine tp_i (y := (v.1 0 12)) (rfl) ?_
                          refine W.widen (k := 0) (n := 0) (Nat.le_refl _) (Nat.le_refl _) ?_
                          refine lv_pop hx hb dX13_operate_381 rfl ?_
                          refine lv_aload_n hx hb dX13_operate_382 rfl (lv_at hl 0 rfl) ?_
                          refine lv_bipush (v := 19) hx hb dX13_operate_383 (by decide) ?_
                          refine lv_iconst (v := 3) hx hb dX13_operate_385 (by decide) ?_
                          refine lv_bipush (v := 10) hx hb dX13_operate_386 (by decide) ?_
                          refine lv_bipush (v := 10) hx hb dX13_operate_388 (by decide) ?_
                          refine lv_iconst (v := 1) hx hb dX13_operate_390 (by decide) ?_
                          refine cu_s (mW_nd _ _ _ _ _ _) (rn_S (n := 5) (As := [.int 19, .int 3, .int 10, .int 10, .int 1]) (rest := [.ref (ad 0)]) hx hb hml hown ht hKK hFx hP hD hS hA (c_m_byI l dC dI cI cB cZ cJ cR tb H.size (19 : Int32) (3 : Int32) (10 : Int32) (10 : Int32) (1 : Int32) ) tw_2 tw_3 (by decide +kernel) rfl rfl ⟨Nat.le_of_ble_eq_true rfl, Nat.le_of_ble_eq_true rfl⟩ [] rfl rfl rfl hl.1 rfl (Nat.le_of_ble_eq_true rfl) dX13_operate_391 ⟨Nat.le_of_ble_eq_true rfl, Nat.le_of_ble_eq_true rfl⟩) hP hD hS hA (fun r123 H locs hw121 hP hD hS => ?_)
                          have ex121 := hw121
                          refine W.widen (k := 0) (n := 0) (Nat.le_refl _) (Nat.le_refl _) ?_
                          refine cu_i (rn_V (n := 1) (As := [.int r123]) (rest := []) hx hb hml hown ht hKK hFx hP hD hS hA (c_m_emit l dC dI cI cB cZ cJ cR tb H.size ad N (wA (wA (wA (wA (wA v 13 ((v.1 0 15).toNatClampNeg) (21 : Int32)) 14 ((v.1 0 15).toNatClampNeg) pa) 0 15 ((v.1 0 15) + (1 : Int32))) 11 ((v.1 0 12).toNatClampNeg) r116) 0 12 ((v.1 0 12) + (1 : Int32))) r123 (show 0 ≤ ((v.1 0 12) + (1 : Int32)).toInt ∧ ((v.1 0 12) + (1 : Int32)).toInt < 24000 from (om_d1ed3ade5a zw z120))) tw_8 tw_9 (by decide +kernel) rfl rfl ⟨Nat.le_of_ble_eq_true rfl, Nat.le_of_ble_eq_true rfl⟩ (List.range (mW ad N cI cZ cJ (wA (wA (wA (wA (wA v 13 ((v.1 0 15).toNatClampNeg) (21 : Int32)) 14 ((v.1 0 15).toNatClampNeg) pa) 0 15 ((v.1 0 15) + (1 : Int32))) 11 ((v.1 0 12).toNatClampNeg) r116) 0 12 ((v.1 0 12) + (1 : Int32)))).length) (rg_map _) (mW_nd _ _ _ _ _ _) rfl rfl rfl rfl hl.1 rfl (Nat.le_of_ble_eq_true rfl) dX13_operate_394 ⟨Nat.le_of_ble_eq_true rfl, Nat.le_of_ble_eq_true rfl⟩) hP hD hS hA (fun r126 u125 H locs hw124 hP hD hS => ?_)
                          obtain ⟨rfl, rfl⟩ := hw124
                          have z127 : (((v.1 0 12) + (1 : Int32)) + (1 : Int32)).toInt = (((v.1 0 12).toInt) + (1 : Int)) + (1 : Int) := add_z z120 (show (1 : Int32).toInt = (1 : Int) by decide) (om_13df27bb56 zw) (om_d9744998dd zw)
                          have hP : va_P (dC, dI) vwCl (mW ad N cI cZ cJ (wA (wA (wA (wA (wA (wA (wA v 13 ((v.1 0 15).toNatClampNeg) (21 : Int32)) 14 ((v.1 0 15).toNatClampNeg) pa) 0 15 ((v.1 0 15) + (1 : Int32))) 11 ((v.1 0 12).toNatClampNeg) r116) 0 12 ((v.1 0 12) + (1 : Int32))) 11 (((v.1 0 12) + (1 : Int32)).toNatClampNeg) r123) 0 12 (((v.1 0 12) + (1 : Int32)) + (1 : Int32)))) H := hP
                          have hD : va_D A (mW ad N cI cZ cJ (wA (wA (wA (wA (wA (wA (wA v 13 ((v.1 0 15).toNatClampNeg) (21 : Int32)) 14 ((v.1 0 15).toNatClampNeg) pa) 0 15 ((v.1 0 15) + (1 : Int32))) 11 ((v.1 0 12).toNatClampNeg) r116) 0 12 ((v.1 0 12) + (1 : Int32))) 11 (((v.1 0 12) + (1 : Int32)).toNatClampNeg) r123) 0 12 (((v.1 0 12) + (1 : Int32)) + (1 : Int32)))) := hD
                          refine tp_i (y := ((v.1 0 12) + (1 : Int32))) (rfl) ?_
                          refine W.widen (k := 0) (n := 0) (Nat.le_refl _) (Nat.le_refl _) ?_
                          refine lv_pop hx hb dX13_operate_397 rfl ?_
                          refine lv_goto (tgt := 480) hx hb dX13_operate_398 (by decide) ?_
                          exact W.vret hx hb hr (fun t ht9 hW => ⟨⟨(wA (wA (wA (wA (wA (wA (wA v 13 ((v.1 0 15).toNatClampNeg) (21 : Int32)) 14 ((v.1 0 15).toNatClampNeg) pa) 0 15 ((v.1 0 15) + (1 : Int32))) 11 ((v.1 0 12).toNatClampNeg) r116) 0 12 ((v.1 0 12) + (1 : Int32))) 11 (((v.1 0 12) + (1 : Int32)).toNatClampNeg) r123) 0 12 (((v.1 0 12) + (1 : Int32)) + (1 : Int32))), rfl, ⟨(FG.f (FG.a (FG.f (FG.a (FG.f (FG.a (FG.a (FG.rf _) ((v.1 0 15).toNatClampNeg) (21 : Int32) (by decide) (by decide)) ((v.1 0 15).toNatClampNeg) pa (by decide) (by decide)) ((v.1 0 15) + (1 : Int32)) (by decide)) ((v.1 0 12).toNatClampNeg) r116 (by decide) (by decide)) ((v.1 0 12) + (1 : Int32)) (by decide)) (((v.1 0 12) + (1 : Int32)).toNatClampNeg) r123 (by decide) (by decide)) (((v.1 0 12) + (1 : Int32)) + (1 : Int32)) (by decide)), ⟨zw, zo, zf, (Or.inr (⟨h7, (Or.inr (⟨h16, (Or.inr (⟨h27, (Or.inr (⟨h35, (Or.inr (⟨h43, (Or.inr (⟨h51, (Or.inr (⟨h59, (Or.inr (⟨h67, (Or.inr (⟨h75, (Or.inr (⟨h83, (Or.inr (⟨h98, (Or.inl ⟨h113, r116, ex114, r123, ex121, rfl⟩)⟩))⟩))⟩))⟩))⟩))⟩))⟩))⟩))⟩))⟩))⟩))⟩, (show (v.1 0 12).toInt ≤ (((v.1 0 12) + (1 : Int32)) + (1 : Int32)).toInt ∧ (((v.1 0 12) + (1 : Int32)) + (1 : Int32)).toInt ≤ (v.1 0 12).toInt + 3 from (om_8134f39256 z127)), (show ((v.1 0 15) + (1 : Int32)).toInt = (v.1 0 15).toInt + 1 from (om_5bccfc38cf z5)), (show (v.1 0 43).toInt ≤ (v.1 0 43).toInt ∧ (v.1 0 43).toInt ≤ (v.1 0 43).toInt + 1 from om_b79dd2a91d), (fun (j9 : Nat) hj9 => (Eq.trans (pk_un3 (a := ((v.1 0 12) + (1 : Int32)).toInt) rfl (om_0f6ec7af46 zw z120) (om_56bf42079b z120 hj9)) (pk_un3 (a := (v.1 0 12).toInt) rfl (om_4842074e86 zw) (om_4fe904e9bf hj9)))), (fun (j9 : Nat) hj9 => (pk_un3 (a := (v.1 0 15).toInt) rfl (om_2ab3f6b9f5 zo) (om_4fe904e9bf hj9))), (fun (j9 : Nat) hj9 => (pk_un3 (a := (v.1 0 15).toInt) rfl (om_2ab3f6b9f5 zo) (om_4fe904e9bf hj9))), (AR.o (AR.o (AR.o (AR.o (AR.o (AR.o (AR.o a40 (by decide)) (by decide)) (by decide)) (by decide)) (by decide)) (by decide)) (by decide)), (FX.o (FX.o (FX.o (FX.o (FX.o (FX.o (FX.o fx (by decide) (by decide)) (by decide) (by decide)) (by decide) (by decide)) (by decide) (by decide)) (by decide) (by decide)) (by decide) (by decide)) (by decide) (by decide)), (fun hiv => (IV.o (IV.o (IV.o (IV.o (IV.o (IV.o (IV.o hiv (by decide)) (by decide)) (by decide)) (by decide)) (by decide)) (by decide)) (by decide))), (SGE.mono (SGE.setB sg6 rfl) (show (2 : Int) ≤ (2 : Int) from om_f646c5fae3))⟩, by rw [ht9]; exact hP, hD⟩, hS.F ht9⟩) hS.2.2 dX13_operate_480
                        ·
                          by_cases h128 : pa = 15678
                          · refine lv_lookup (off := 323) (tgt := 332) hx hb dX13_operate_9 (by decide) (by rw [h128]; decide) (by decide) ?_
                            refine lv_aload_n hx hb dX13_operate_332 rfl (lv_at hl 0 rfl) ?_
                            refine lv_iconst (v := 0) hx hb dX13_operate_333 (by decide) ?_
                            refine lv_iconst (v := 2) hx hb dX13_operate_334 (by decide) ?_
                            refine lv_bipush (v := 10) hx hb dX13_operate_335 (by decide) ?_
                            refine lv_iconst (v := 5) hx hb dX13_operate_337 (by decide) ?_
                            refine lv_bipush (v := 10) hx hb dX13_operate_338 (by decide) ?_
                            refine cu_s (mW_nd _ _ _ _ _ _) (rn_S (n := 5) (As := [.int 0, .int 2, .int 10, .int 5, .int 10]) (rest := [.ref (ad 0)]) hx hb hml hown ht hKK hFx hP hD hS hA (c_m_byR l dC dI cI cB cZ cJ cR tb H.size (0 : Int32) (2 : Int32) (10 : Int32) (5 : Int32) (10 : Int32) ) tw_67 tw_68 (by decide +kernel) rfl rfl ⟨Nat.le_of_ble_eq_true rfl, Nat.le_of_ble_eq_true rfl⟩ [] rfl rfl rfl hl.1 rfl (Nat.le_of_ble_eq_true rfl) dX13_operate_340 ⟨Nat.le_of_ble_eq_true rfl, Nat.le_of_ble_eq_true rfl⟩) hP hD hS hA (fun r131 H locs hw129 hP hD hS => ?_)
                            have ex129 := hw129
                            refine W.widen (k := 0) (n := 0) (Nat.le_refl _) (Nat.le_refl _) ?_
                            refine cu_i (rn_V (n := 1) (As := [.int r131]) (rest := []) hx hb hml hown ht hKK hFx hP hD hS hA (c_m_emit l dC dI cI cB cZ cJ cR tb H.size ad N (wA (wA (wA v 13 ((v.1 0 15).toNatClampNeg) (21 : Int32)) 14 ((v.1 0 15).toNatClampNeg) pa) 0 15 ((v.1 0 15) + (1 : Int32))) r131 (show 0 ≤ (v.1 0 12).toInt ∧ (v.1 0 12).toInt < 24000 from (om_bd95b2e5c4 zw))) tw_8 tw_9 (by decide +kernel) rfl rfl ⟨Nat.le_of_ble_eq_true rfl, Nat.le_of_ble_eq_true rfl⟩ (List.range (mW ad N cI cZ cJ (wA (wA (wA v 13 ((v.1 0 15).toNatClampNeg) (21 : Int32)) 14 ((v.1 0 15).toNatClampNeg) pa) 0 15 ((v.1 0 15) + (1 : Int32)))).length) (rg_map _) (mW_nd _ _ _ _ _ _) rfl rfl rfl rfl hl.1 rfl (Nat.le_of_ble_eq_true rfl) dX13_operate_343 ⟨Nat.le_of_ble_eq_true rfl, Nat.le_of_ble_eq_true rfl⟩) hP hD hS hA (fun r134 u133 H locs hw132 hP hD hS => ?_)
                            obtain ⟨rfl, rfl⟩ := hw132
                            have z135 : ((v.1 0 12) + (1 : Int32)).toInt = ((v.1 0 12).toInt) + (1 : Int) := add_z rfl (show (1 : Int32).toInt = (1 : Int) by decide) (om_6650f37474 zw) (om_8ddb6642ab zw)
                            have hP : va_P (dC, dI) vwCl (mW ad N cI cZ cJ (wA (wA (wA (wA (wA v 13 ((v.1 0 15).toNatClampNeg) (21 : Int32)) 14 ((v.1 0 15).toNatClampNeg) pa) 0 15 ((v.1 0 15) + (1 : Int32))) 11 ((v.1 0 12).toNatClampNeg) r131) 0 12 ((v.1 0 12) + (1 : Int32)))) H := hP
                            have hD : va_D A (mW ad N cI cZ cJ (wA (wA (wA (wA (wA v 13 ((v.1 0 15).toNatClampNeg) (21 : Int32)) 14 ((v.1 0 15).toNatClampNeg) pa) 0 15 ((v.1 0 15) + (1 : Int32))) 11 ((v.1 0 12).toNatClampNeg) r131) 0 12 ((v.1 0 12) + (1 : Int32)))) := hD
                            refine tp_i (y := (v.1 0 12)) (rfl) ?_
                            refine W.widen (k := 0) (n := 0) (Nat.le_refl _) (Nat.le_refl _) ?_
                            refine lv_pop hx hb dX13_operate_346 rfl ?_
                            refine lv_aload_n hx hb dX13_operate_347 rfl (lv_at hl 0 rfl) ?_
                            refine lv_bipush (v := 19) hx hb dX13_operate_348 (by decide) ?_
                            refine lv_iconst (v := 4) hx hb dX13_operate_350 (by decide) ?_
                            refine lv_bipush (v := 10) hx hb dX13_operate_351 (by decide) ?_
                            refine lv_bipush (v := 10) hx hb dX13_operate_353 (by decide) ?_
                            refine lv_iconst (v := 1) hx hb dX13_operate_355 (by decide) ?_
                            refine cu_s (mW_nd _ _ _ _ _ _) (rn_S (n := 5) (As := [.int 19, .int 4, .int 10, .int 10, .int 1]) (rest := [.ref (ad 0)]) hx hb hml hown ht hKK hFx hP hD hS hA (c_m_byI l dC dI cI cB cZ cJ cR tb H.size (19 : Int32) (4 : Int32) (10 : Int32) (10 : Int32) (1 : Int32) ) tw_2 tw_3 (by decide +kernel) rfl rfl ⟨Nat.le_of_ble_eq_true rfl, Nat.le_of_ble_eq_true rfl⟩ [] rfl rfl rfl hl.1 rfl (Nat.le_of_ble_eq_true rfl) dX13_operate_356 ⟨Nat.le_of_ble_eq_true rfl, Nat.le_of_ble_eq_true rfl⟩) hP hD hS hA (fun r138 H locs hw136 hP hD hS => ?_)
                            have ex136 := hw136
                            refine W.widen (k := 0) (n := 0) (Nat.le_refl _) (Nat.le_refl _) ?_
                            refine cu_i (rn_V (n := 1) (As := [.int r138]) (rest := []) hx hb hml hown ht hKK hFx hP hD hS hA (c_m_emit l dC dI cI cB cZ cJ cR tb H.size ad N (wA (wA (wA (wA (wA v 13 ((v.1 0 15).toNatClampNeg) (21 : Int32)) 14 ((v.1 0 15).toNatClampNeg) pa) 0 15 ((v.1 0 15) + (1 : Int32))) 11 ((v.1 0 12).toNatClampNeg) r131) 0 12 ((v.1 0 12) + (1 : Int32))) r138 (show 0 ≤ ((v.1 0 12) + (1 : Int32)).toInt ∧ ((v.1 0 12) + (1 : Int32)).toInt < 24000 from (om_d1ed3ade5a zw z135))) tw_8 tw_9 (by decide +kernel) rfl rfl ⟨Nat.le_of_ble_eq_true rfl, Nat.le_of_ble_eq_true rfl⟩ (List.range (mW ad N cI cZ cJ (wA (wA (wA (wA (wA v 13 ((v.1 0 15).toNatClampNeg) (21 : Int32)) 14 ((v.1 0 15).toNatClampNeg) pa) 0 15 ((v.1 0 15) + (1 : Int32))) 11 ((v.1 0 12).toNatClampNeg) r131) 0 12 ((v.1 0 12) + (1 : Int32)))).length) (rg_map _) (mW_nd _ _ _ _ _ _) rfl rfl rfl rfl hl.1 rfl (Nat.le_of_ble_eq_true rfl) dX13_operate_359 ⟨Nat.le_of_ble_eq_true rfl, Nat.le_of_ble_eq_true rfl⟩) hP hD hS hA (fun r141 u140 H locs hw139 hP hD hS => ?_)
                            obtain ⟨rfl, rfl⟩ := hw139
                            have z142 : (((v.1 0 12) + (1 : Int32)) + (1 : Int32)).toInt = (((v.1 0 12).toInt) + (1 : Int)) + (1 : Int) := add_z z135 (show (1 : Int32).toInt = (1 : Int) by decide) (om_13df27bb56 zw) (om_d9744998dd zw)
                            have hP : va_P (dC, dI) vwCl (mW ad N cI cZ cJ (wA (wA (wA (wA (wA (wA (wA v 13 ((v.1 0 15).toNatClampNeg) (21 : Int32)) 14 ((v.1 0 15).toNatClampNeg) pa) 0 15 ((v.1 0 15) + (1 : Int32))) 11 ((v.1 0 12).toNatClampNeg) r131) 0 12 ((v.1 0 12) + (1 : Int32))) 11 (((v.1 0 12) + (1 : Int32)).toNatClampNeg) r138) 0 12 (((v.1 0 12) + (1 : Int32)) + (1 : Int32)))) H := hP
                            have hD : va_D A (mW ad N cI cZ cJ (wA (wA (wA (wA (wA (wA (wA v 13 ((v.1 0 15).toNatClampNeg) (21 : Int32)) 14 ((v.1 0 15).toNatClampNeg) pa) 0 15 ((v.1 0 15) + (1 : Int32))) 11 ((v.1 0 12).toNatClampNeg) r131) 0 12 ((v.1 0 12) + (1 : Int32))) 11 (((v.1 0 12) + (1 : Int32)).toNatClampNeg) r138) 0 12 (((v.1 0 12) + (1 : Int32)) + (1 : Int32)))) := hD
                            refine tp_i (y := ((v.1 0 12) + (1 : Int32))) (rfl) ?_
                            refine W.widen (k := 0) (n := 0) (Nat.le_refl _) (Nat.le_refl _) ?_
                            refine lv_pop hx hb dX13_operate_362 rfl ?_
                            refine lv_goto (tgt := 480) hx hb dX13_operate_363 (by decide) ?_
                            exact W.vret hx hb hr (fun t ht9 hW => ⟨⟨(wA (wA (wA (wA (wA (wA (wA v 13 ((v.1 0 15).toNatClampNeg) (21 : Int32)) 14 ((v.1 0 15).toNatClampNeg) pa) 0 15 ((v.1 0 15) + (1 : Int32))) 11 ((v.1 0 12).toNatClampNeg) r131) 0 12 ((v.1 0 12) + (1 : Int32))) 11 (((v.1 0 12) + (1 : Int32)).toNatClampNeg) r138) 0 12 (((v.1 0 12) + (1 : Int32)) + (1 : Int32))), rfl, ⟨(FG.f (FG.a (FG.f (FG.a (FG.f (FG.a (FG.a (FG.rf _) ((v.1 0 15).toNatClampNeg) (21 : Int32) (by decide) (by decide)) ((v.1 0 15).toNatClampNeg) pa (by decide) (by decide)) ((v.1 0 15) + (1 : Int32)) (by decide)) ((v.1 0 12).toNatClampNeg) r131 (by decide) (by decide)) ((v.1 0 12) + (1 : Int32)) (by decide)) (((v.1 0 12) + (1 : Int32)).toNatClampNeg) r138 (by decide) (by decide)) (((v.1 0 12) + (1 : Int32)) + (1 : Int32)) (by decide)), ⟨zw, zo, zf, (Or.inr (⟨h7, (Or.inr (⟨h16, (Or.inr (⟨h27, (Or.inr (⟨h35, (Or.inr (⟨h43, (Or.inr (⟨h51, (Or.inr (⟨h59, (Or.inr (⟨h67, (Or.inr (⟨h75, (Or.inr (⟨h83, (Or.inr (⟨h98, (Or.inr (⟨h113, (Or.inl ⟨h128, r131, ex129, r138, ex136, rfl⟩)⟩))⟩))⟩))⟩))⟩))⟩))⟩))⟩))⟩))⟩))⟩))⟩))⟩, (show (v.1 0 12).toInt ≤ (((v.1 0 12) + (1 : Int32)) + (1 : Int32)).toInt ∧ (((v.1 0 12) + (1 : Int32)) + (1 : Int32)).toInt ≤ (v.1 0 12).toInt + 3 from (om_8134f39256 z142)), (show ((v.1 0 15) + (1 : Int32)).toInt = (v.1 0 15).toInt + 1 from (om_5bccfc38cf z5)), (show (v.1 0 43).toInt ≤ (v.1 0 43).toInt ∧ (v.1 0 43).toInt ≤ (v.1 0 43).toInt + 1 from om_b79dd2a91d), (fun (j9 : Nat) hj9 => (Eq.trans (pk_un3 (a := ((v.1 0 12) + (1 : Int32)).toInt) rfl (om_0f6ec7af46 zw z135) (om_56bf42079b z135 hj9)) (pk_un3 (a := (v.1 0 12).toInt) rfl (om_4842074e86 zw) (om_4fe904e9bf hj9)))), (fun (j9 : Nat) hj9 => (pk_un3 (a := (v.1 0 15).toInt) rfl (om_2ab3f6b9f5 zo) (om_4fe904e9bf hj9))), (fun (j9 : Nat) hj9 => (pk_un3 (a := (v.1 0 15).toInt) rfl (om_2ab3f6b9f5 zo) (om_4fe904e9bf hj9))), (AR.o (AR.o (AR.o (AR.o (AR.o (AR.o (AR.o a40 (by decide)) (by decide)) (by decide)) (by decide)) (by decide)) (by decide)) (by decide)), (FX.o (FX.o (FX.o (FX.o (FX.o (FX.o (FX.o fx (by decide) (by decide)) (by decide) (by decide)) (by decide) (by decide)) (by decide) (by decide)) (by decide) (by decide)) (by decide) (by decide)) (by decide) (by decide)), (fun hiv => (IV.o (IV.o (IV.o (IV.o (IV.o (IV.o (IV.o hiv (by decide)) (by decide)) (by decide)) (by decide)) (by decide)) (by decide)) (by decide))), (SGE.mono (SGE.setB sg6 rfl) (show (2 : Int) ≤ (2 : Int) from om_f646c5fae3))⟩, by rw [ht9]; exact hP, hD⟩, hS.F ht9⟩) hS.2.2 dX13_operate_480
                          ·
                            by_cases h143 : pa = 15934
                            · refine lv_lookup (off := 234) (tgt := 243) hx hb dX13_operate_9 (by decide) (by rw [h143]; decide) (by decide) ?_
                              refine lv_aload_n hx hb dX13_operate_243 rfl (lv_at hl 0 rfl) ?_
                              refine lv_bipush (v := 32) hx hb dX13_operate_244 (by decide) ?_
                              refine lv_iconst (v := 5) hx hb dX13_operate_246 (by decide) ?_
                              refine lv_bipush (v := 10) hx hb dX13_operate_247 (by decide) ?_
                              refine lv_iconst (v := 5) hx hb dX13_operate_249 (by decide) ?_
                              refine lv_bipush (v := 10) hx hb dX13_operate_250 (by decide) ?_
                              refine cu_s (mW_nd _ _ _ _ _ _) (rn_S (n := 5) (As := [.int 32, .int 5, .int 10, .int 5, .int 10]) (rest := [.ref (ad 0)]) hx hb hml hown ht hKK hFx hP hD hS hA (c_m_byR l dC dI cI cB cZ cJ cR tb H.size (32 : Int32) (5 : Int32) (10 : Int32) (5 : Int32) (10 : Int32) ) tw_67 tw_68 (by decide +kernel) rfl rfl ⟨Nat.le_of_ble_eq_true rfl, Nat.le_of_ble_eq_true rfl⟩ [] rfl rfl rfl hl.1 rfl (Nat.le_of_ble_eq_true rfl) dX13_operate_252 ⟨Nat.le_of_ble_eq_true rfl, Nat.le_of_ble_eq_true rfl⟩) hP hD hS hA (fun r146 H locs hw144 hP hD hS => ?_)
                              have ex144 := hw144
                              refine W.widen (k := 0) (n := 0) (Nat.le_refl _) (Nat.le_refl _) ?_
                              refine cu_i (rn_V (n := 1) (As := [.int r146]) (rest := []) hx hb hml hown ht hKK hFx hP hD hS hA (c_m_emit l dC dI cI cB cZ cJ cR tb H.size ad N (wA (wA (wA v 13 ((v.1 0 15).toNatClampNeg) (21 : Int32)) 14 ((v.1 0 15).toNatClampNeg) pa) 0 15 ((v.1 0 15) + (1 : Int32))) r146 (show 0 ≤ (v.1 0 12).toInt ∧ (v.1 0 12).toInt < 24000 from (om_bd95b2e5c4 zw))) tw_8 tw_9 (by decide +kernel) rfl rfl ⟨Nat.le_of_ble_eq_true rfl, Nat.le_of_ble_eq_true rfl⟩ (List.range (mW ad N cI cZ cJ (wA (wA (wA v 13 ((v.1 0 15).toNatClampNeg) (21 : Int32)) 14 ((v.1 0 15).toNatClampNeg) pa) 0 15 ((v.1 0 15) + (1 : Int32)))).length) (rg_map _) (mW_nd _ _ _ _ _ _) rfl rfl rfl rfl hl.1 rfl (Nat.le_of_ble_eq_true rfl) dX13_operate_255 ⟨Nat.le_of_ble_eq_true rfl, Nat.le_of_ble_eq_true rfl⟩) hP hD hS hA (fun r149 u148 H locs hw147 hP hD hS => ?_)
                              obtain ⟨rfl, rfl⟩ := hw147
                              have z150 : ((v.1 0 12) + (1 : Int32)).toInt = ((v.1 0 12).toInt) + (1 : Int) := add_z rfl (show (1 : Int32).toInt = (1 : Int) by decide) (om_6650f37474 zw) (om_8ddb6642ab zw)
                              have hP : va_P (dC, dI) vwCl (mW ad N cI cZ cJ (wA (wA (wA (wA (wA v 13 ((v.1 0 15).toNatClampNeg) (21 : Int32)) 14 ((v.1 0 15).toNatClampNeg) pa) 0 15 ((v.1 0 15) + (1 : Int32))) 11 ((v.1 0 12).toNatClampNeg) r146) 0 12 ((v.1 0 12) + (1 : Int32)))) H := hP
                              have hD : va_D A (mW ad N cI cZ cJ (wA (wA (wA (wA (wA v 13 ((v.1 0 15).toNatClampNeg) (21 : Int32)) 14 ((v.1 0 15).toNatClampNeg) pa) 0 15 ((v.1 0 15) + (1 : Int32))) 11 ((v.1 0 12).toNatClampNeg) r146) 0 12 ((v.1 0 12) + (1 : Int32)))) := hD
                              refine tp_i (y := (v.1 0 12)) (rfl) ?_
                              refine W.widen (k := 0) (n := 0) (Nat.le_refl _) (Nat.le_refl _) ?_
                              refine lv_pop hx hb dX13_operate_258 rfl ?_
                              refine lv_goto (tgt := 480) hx hb dX13_operate_259 (by decide) ?_
                              exact W.vret hx hb hr (fun t ht9 hW => ⟨⟨(wA (wA (wA (wA (wA v 13 ((v.1 0 15).toNatClampNeg) (21 : Int32)) 14 ((v.1 0 15).toNatClampNeg) pa) 0 15 ((v.1 0 15) + (1 : Int32))) 11 ((v.1 0 12).toNatClampNeg) r146) 0 12 ((v.1 0 12) + (1 : Int32))), rfl, ⟨(FG.f (FG.a (FG.f (FG.a (FG.a (FG.rf _) ((v.1 0 15).toNatClampNeg) (21 : Int32) (by decide) (by decide)) ((v.1 0 15).toNatClampNeg) pa (by decide) (by decide)) ((v.1 0 15) + (1 : Int32)) (by decide)) ((v.1 0 12).toNatClampNeg) r146 (by decide) (by decide)) ((v.1 0 12) + (1 : Int32)) (by decide)), ⟨zw, zo, zf, (Or.inr (⟨h7, (Or.inr (⟨h16, (Or.inr (⟨h27, (Or.inr (⟨h35, (Or.inr (⟨h43, (Or.inr (⟨h51, (Or.inr (⟨h59, (Or.inr (⟨h67, (Or.inr (⟨h75, (Or.inr (⟨h83, (Or.inr (⟨h98, (Or.inr (⟨h113, (Or.inr (⟨h128, (Or.inl ⟨h143, r146, ex144, rfl⟩)⟩))⟩))⟩))⟩))⟩))⟩))⟩))⟩))⟩))⟩))⟩))⟩))⟩))⟩, (show (v.1 0 12).toInt ≤ ((v.1 0 12) + (1 : Int32)).toInt ∧ ((v.1 0 12) + (1 : Int32)).toInt ≤ (v.1 0 12).toInt + 3 from (om_264029c512 z150)), (show ((v.1 0 15) + (1 : Int32)).toInt = (v.1 0 15).toInt + 1 from (om_5bccfc38cf z5)), (show (v.1 0 43).toInt ≤ (v.1 0 43).toInt ∧ (v.1 0 43).toInt ≤ (v.1 0 43).toInt + 1 from om_b79dd2a91d), (fun (j9 : Nat) hj9 => (pk_un3 (a := (v.1 0 12).toInt) rfl (om_4842074e86 zw) (om_4fe904e9bf hj9))), (fun (j9 : Nat) hj9 => (pk_un3 (a := (v.1 0 15).toInt) rfl (om_2ab3f6b9f5 zo) (om_4fe904e9bf hj9))), (fun (j9 : Nat) hj9 => (pk_un3 (a := (v.1 0 15).toInt) rfl (om_2ab3f6b9f5 zo) (om_4fe904e9bf hj9))), (AR.o (AR.o (AR.o (AR.o (AR.o a40 (by decide)) (by decide)) (by decide)) (by decide)) (by decide)), (FX.o (FX.o (FX.o (FX.o (FX.o fx (by decide) (by decide)) (by decide) (by decide)) (by decide) (by decide)) (by decide) (by decide)) (by decide) (by decide)), (fun hiv => (IV.o (IV.o (IV.o (IV.o (IV.o hiv (by decide)) (by decide)) (by decide)) (by decide)) (by decide))), (SGE.mono (SGE.setB sg6 rfl) (show (2 : Int) ≤ (2 : Int) from om_f646c5fae3))⟩, by rw [ht9]; exact hP, hD⟩, hS.F ht9⟩) hS.2.2 dX13_operate_480
                            ·
                              refine lv_lookup (off := 440) (tgt := 449) hx hb dX13_operate_9 (by decide) (by show Op.lookupswitch.offset [(38, 160), (42, 426), (43, 123), (45, 141), (60, 253), (62, 271), (94, 198), (124, 179), (15420, 216), (15649, 392), (15676, 289), (15677, 357), (15678, 323), (15934, 234)] 440 _ = 440; rw [lv_osw h7 (by decide), lv_osw h16 (by decide), lv_osw h27 (by decide), lv_osw h35 (by decide), lv_osw h43 (by decide), lv_osw h51 (by decide), lv_osw h59 (by decide), lv_osw h67 (by decide), lv_osw h75 (by decide), lv_osw h83 (by decide), lv_osw h98 (by decide), lv_osw h113 (by decide), lv_osw h128 (by decide), lv_osw h143 (by decide)]; rfl) (by decide) ?_
                              refine lv_aload_n hx hb dX13_operate_449 rfl (lv_at hl 0 rfl) ?_
                              refine lv_aload_n hx hb dX13_operate_450 rfl (lv_at hl 0 rfl) ?_
                              refine lv_iconst (v := 0) hx hb dX13_operate_451 (by decide) ?_
                              refine cu_i (rn_V (n := 1) (As := [.int 0]) (rest := [.ref (ad 0)]) hx hb hml hown ht hKK hFx hP hD hS hA (c_m_emit l dC dI cI cB cZ cJ cR tb H.size ad N (wA (wA (wA v 13 ((v.1 0 15).toNatClampNeg) (21 : Int32)) 14 ((v.1 0 15).toNatClampNeg) pa) 0 15 ((v.1 0 15) + (1 : Int32))) (0 : Int32) (show 0 ≤ (v.1 0 12).toInt ∧ (v.1 0 12).toInt < 24000 from (om_bd95b2e5c4 zw))) tw_8 tw_9 (by decide +kernel) rfl rfl ⟨Nat.le_of_ble_eq_true rfl, Nat.le_of_ble_eq_true rfl⟩ (List.range (mW ad N cI cZ cJ (wA (wA (wA v 13 ((v.1 0 15).toNatClampNeg) (21 : Int32)) 14 ((v.1 0 15).toNatClampNeg) pa) 0 15 ((v.1 0 15) + (1 : Int32)))).length) (rg_map _) (mW_nd _ _ _ _ _ _) rfl rfl rfl rfl hl.1 rfl (Nat.le_of_ble_eq_true rfl) dX13_operate_452 ⟨Nat.le_of_ble_eq_true rfl, Nat.le_of_ble_eq_true rfl⟩) hP hD hS hA (fun r153 u152 H locs hw151 hP hD hS => ?_)
                              obtain ⟨rfl, rfl⟩ := hw151
                              have z154 : ((v.1 0 12) + (1 : Int32)).toInt = ((v.1 0 12).toInt) + (1 : Int) := add_z rfl (show (1 : Int32).toInt = (1 : Int) by decide) (om_6650f37474 zw) (om_8ddb6642ab zw)
                              have hP : va_P (dC, dI) vwCl (mW ad N cI cZ cJ (wA (wA (wA (wA (wA v 13 ((v.1 0 15).toNatClampNeg) (21 : Int32)) 14 ((v.1 0 15).toNatClampNeg) pa) 0 15 ((v.1 0 15) + (1 : Int32))) 11 ((v.1 0 12).toNatClampNeg) (0 : Int32)) 0 12 ((v.1 0 12) + (1 : Int32)))) H := hP
                              have hD : va_D A (mW ad N cI cZ cJ (wA (wA (wA (wA (wA v 13 ((v.1 0 15).toNatClampNeg) (21 : Int32)) 14 ((v.1 0 15).toNatClampNeg) pa) 0 15 ((v.1 0 15) + (1 : Int32))) 11 ((v.1 0 12).toNatClampNeg) (0 : Int32)) 0 12 ((v.1 0 12) + (1 : Int32)))) := hD
                              refine tp_i (y := (v.1 0 12)) (rfl) ?_
                              refine W.widen (k := 0) (n := 0) (Nat.le_refl _) (Nat.le_refl _) ?_
                              refine lv_bipush (v := -2) hx hb dX13_operate_455 (by decide) ?_
                              refine lv_iconst (v := 5) hx hb dX13_operate_457 (by decide) ?_
                              refine cu_v (rn_V (n := 3) (As := [.int (v.1 0 12), .int (-2), .int 5]) (rest := []) hx hb hml hown ht hKK hFx hP hD hS hA (c_m_fix l dC dI cI cB cZ cJ cR tb H.size ad N (wA (wA (wA (wA (wA v 13 ((v.1 0 15).toNatClampNeg) (21 : Int32)) 14 ((v.1 0 15).toNatClampNeg) pa) 0 15 ((v.1 0 15) + (1 : Int32))) 11 ((v.1 0 12).toNatClampNeg) (0 : Int32)) 0 12 ((v.1 0 12) + (1 : Int32))) (v.1 0 12) (-2 : Int32) (5 : Int32) (show 0 ≤ (v.1 0 43).toInt ∧ (v.1 0 43).toInt < 24000 from (om_bd95b2e5c4 zf)) (show 0 ≤ (v.1 0 12).toInt ∧ (v.1 0 12).toInt < 24000 from (om_bd95b2e5c4 zw)) (show (5 : Int) = 5 ∨ (0 ≤ (-2 : Int) ∧ (-2 : Int) < 60) from om_b87fb2bb94) (show AR 40 0 23999 (wA (wA (wA (wA (wA v 13 ((v.1 0 15).toNatClampNeg) (21 : Int32)) 14 ((v.1 0 15).toNatClampNeg) (v.1 0 12)) 0 15 ((v.1 0 15) + (1 : Int32))) 11 ((v.1 0 12).toNatClampNeg) (0 : Int32)) 0 12 ((v.1 0 12) + (1 : Int32))) from (AR.o (AR.o (AR.o (AR.o (AR.o a40 (by decide)) (by decide)) (by decide)) (by decide)) (by decide))) (show FX (wA (wA (wA (wA (wA v 13 ((v.1 0 15).toNatClampNeg) (21 : Int32)) 14 ((v.1 0 15).toNatClampNeg) (v.1 0 12)) 0 15 ((v.1 0 15) + (1 : Int32))) 11 ((v.1 0 12).toNatClampNeg) (0 : Int32)) 0 12 ((v.1 0 12) + (1 : Int32))) from (FX.o (FX.o (FX.o (FX.o (FX.o fx (by decide) (by decide)) (by decide) (by decide)) (by decide) (by decide)) (by decide) (by decide)) (by decide) (by decide)))) tw_69 tw_70 (by decide +kernel) rfl rfl ⟨Nat.le_of_ble_eq_true rfl, Nat.le_of_ble_eq_true rfl⟩ (List.range (mW ad N cI cZ cJ (wA (wA (wA (wA (wA v 13 ((v.1 0 15).toNatClampNeg) (21 : Int32)) 14 ((v.1 0 15).toNatClampNeg) pa) 0 15 ((v.1 0 15) + (1 : Int32))) 11 ((v.1 0 12).toNatClampNeg) (0 : Int32)) 0 12 ((v.1 0 12) + (1 : Int32)))).length) (rg_map _) (mW_nd _ _ _ _ _ _) rfl rfl rfl rfl hl.1 rfl (Nat.le_of_ble_eq_true rfl) dX13_operate_458 ⟨Nat.le_of_ble_eq_true rfl, Nat.le_of_ble_eq_true rfl⟩) hP hD hS hA (fun u156 H locs hw155 hP hD hS => ?_)
                              obtain ⟨fr155, ex155, pf155, a40155, fx155, iv155⟩ := hw155
                              have pf155 : (u156.1 0 43).toInt = (v.1 0 43).toInt + 1 := pf155
                              have a40155 : AR 40 0 23999 u156 := a40155
                              have fx155 : FX u156 := fx155
                              have iv155 : IV (wA (wA (wA (wA (wA v 13 ((v.1 0 15).toNatClampNeg) (21 : Int32)) 14 ((v.1 0 15).toNatClampNeg) (v.1 0 12)) 0 15 ((v.1 0 15) + (1 : Int32))) 11 ((v.1 0 12).toNatClampNeg) (0 : Int32)) 0 12 ((v.1 0 12) + (1 : Int32))) → IV u156 := iv155
                              have sg158 : SGE (v.1 0 30).toInt (v.1 0 28).toInt (v.1 0 27).toInt (u156.1 13) (u156.1 14) (u156.1 36) (u156.1 38) (v.1 0 15).toNatClampNeg (u156.1 0 15).toNatClampNeg (v.1 0 39).toNatClampNeg (u156.1 0 39).toNatClampNeg ([false, false]) [false] ((2 : Int)) [] := SGE.to sg6 (fun j9 _ => congrFun (fr155.2.2 13 (by decide)) j9) (fun j9 _ => congrFun (fr155.2.2 14 (by decide)) j9) (fun j9 _ _ => congrFun (fr155.2.2 36 (by decide)) j9) (fun j9 _ _ => congrFun (fr155.2.2 38 (by decide)) j9) (congrArg Int32.toNatClampNeg (fr155.2.1 15 (by decide))) (congrArg Int32.toNatClampNeg (fr155.2.1 39 (by decide))) (Int.le_refl _)
                              refine W.widen (k := 0) (n := 0) (Nat.le_refl _) (Nat.le_refl _) ?_
                              refine lv_iload_n hx hb dX13_operate_461 rfl (lv_at hl 1 rfl) ?_
                              refine lv_bipush (v := 37) hx hb dX13_operate_462 (by decide) ?_
                              refine lv_icmp_ne (tgt := 480) hx hb dX13_operate_464 (by decide) (fun h159 => ?_) (fun h159 => ?_)
                              · have z160 : pa.toInt ≠ (37 : Int) := ne_z rfl (show (37 : Int32).toInt = (37 : Int) by decide) h159
                                have q161 : (u156.1 0 12).toInt = ((v.1 0 12) + (1 : Int32)).toInt := congrArg Int32.toInt ((fr155.2.1 12 (by decide)).trans (show (wA (wA (wA (wA (wA v 13 ((v.1 0 15).toNatClampNeg) (21 : Int32)) 14 ((v.1 0 15).toNatClampNeg) pa) 0 15 ((v.1 0 15) + (1 : Int32))) 11 ((v.1 0 12).toNatClampNeg) (0 : Int32)) 0 12 ((v.1 0 12) + (1 : Int32))).1 0 12 = ((v.1 0 12) + (1 : Int32)) by rfl))
                                have q162 : (u156.1 0 15).toInt = ((v.1 0 15) + (1 : Int32)).toInt := congrArg Int32.toInt ((fr155.2.1 15 (by decide)).trans (show (wA (wA (wA (wA (wA v 13 ((v.1 0 15).toNatClampNeg) (21 : Int32)) 14 ((v.1 0 15).toNatClampNeg) pa) 0 15 ((v.1 0 15) + (1 : Int32))) 11 ((v.1 0 12).toNatClampNeg) (0 : Int32)) 0 12 ((v.1 0 12) + (1 : Int32))).1 0 15 = ((v.1 0 15) + (1 : Int32)) by rfl))
                                exact W.vret hx hb hr (fun t ht9 hW => ⟨⟨u156, rfl, ⟨(FG.tr (FG.f (FG.a (FG.f (FG.a (FG.a (FG.rf _) ((v.1 0 15).toNatClampNeg) (21 : Int32) (by decide) (by decide)) ((v.1 0 15).toNatClampNeg) pa (by decide) (by decide)) ((v.1 0 15) + (1 : Int32)) (by decide)) ((v.1 0 12).toNatClampNeg) (0 : Int32) (by decide) (by decide)) ((v.1 0 12) + (1 : Int32)) (by decide)) (FG.up fr155 (by decide) (by decide))), ⟨zw, zo, zf, (Or.inr (⟨h7, (Or.inr (⟨h16, (Or.inr (⟨h27, (Or.inr (⟨h35, (Or.inr (⟨h43, (Or.inr (⟨h51, (Or.inr (⟨h59, (Or.inr (⟨h67, (Or.inr (⟨h75, (Or.inr (⟨h83, (Or.inr (⟨h98, (Or.inr (⟨h113, (Or.inr (⟨h128, (Or.inr (⟨h143, u156, ex155, ⟨fr155, pf155⟩, (Or.inl ⟨z160, rfl⟩)⟩))⟩))⟩))⟩))⟩))⟩))⟩))⟩))⟩))⟩))⟩))⟩))⟩))⟩))⟩, (show (v.1 0 12).toInt ≤ (u156.1 0 12).toInt ∧ (u156.1 0 12).toInt ≤ (v.1 0 12).toInt + 3 from (om_e8b43c6920 z154 q161)), (show (u156.1 0 15).toInt = (v.1 0 15).toInt + 1 from (om_36d688ce66 z5 q162)), (show (v.1 0 43).toInt ≤ (u156.1 0 43).toInt ∧ (u156.1 0 43).toInt ≤ (v.1 0 43).toInt + 1 from (om_c0e95d89ce pf155)), (fun (j9 : Nat) hj9 => (Eq.trans (congrFun (fr155.2.2 11 (by decide)) j9) (pk_un3 (a := (v.1 0 12).toInt) rfl (om_4842074e86 zw) (om_4fe904e9bf hj9)))), (fun (j9 : Nat) hj9 => (Eq.trans (congrFun (fr155.2.2 13 (by decide)) j9) (pk_un3 (a := (v.1 0 15).toInt) rfl (om_2ab3f6b9f5 zo) (om_4fe904e9bf hj9)))), (fun (j9 : Nat) hj9 => (Eq.trans (congrFun (fr155.2.2 14 (by decide)) j9) (pk_un3 (a := (v.1 0 15).toInt) rfl (om_2ab3f6b9f5 zo) (om_4fe904e9bf hj9)))), a40155, fx155, (fun hiv => (iv155 (IV.o (IV.o (IV.o (IV.o (IV.o hiv (by decide)) (by decide)) (by decide)) (by decide)) (by decide)))), (SGE.mono (SGE.setB sg158 rfl) (show (2 : Int) ≤ (2 : Int) from om_f646c5fae3))⟩, by rw [ht9]; exact hP, hD⟩, hS.F ht9⟩) hS.2.2 dX13_operate_480
                              · have z163 : pa.toInt = (37 : Int) := eq_z rfl (show (37 : Int32).toInt = (37 : Int) by decide) h159
                                refine lv_aload_n hx hb dX13_operate_467 rfl (lv_at hl 0 rfl) ?_
                                refine lv_bipush (v := 10) hx hb dX13_operate_468 (by decide) ?_
                                refine lv_bipush (v := 6) hx hb dX13_operate_470 (by decide) ?_
                                refine lv_iconst (v := 0) hx hb dX13_operate_472 (by decide) ?_
                                refine cu_s (mW_nd _ _ _ _ _ _) (rn_S (n := 3) (As := [.int 10, .int 6, .int 0]) (rest := [.ref (ad 0)]) hx hb hml hown ht hKK hFx hP hD hS hA (c_m_addi l dC dI cI cB cZ cJ cR tb H.size (10 : Int32) (6 : Int32) (0 : Int32) ) tw_65 tw_66 (by decide +kernel) rfl rfl ⟨Nat.le_of_ble_eq_true rfl, Nat.le_of_ble_eq_true rfl⟩ [] rfl rfl rfl hl.1 rfl (Nat.le_of_ble_eq_true rfl) dX13_operate_473 ⟨Nat.le_of_ble_eq_true rfl, Nat.le_of_ble_eq_true rfl⟩) hP hD hS hA (fun r166 H locs hw164 hP hD hS => ?_)
                                have ex164 := hw164
                                refine W.widen (k := 0) (n := 0) (Nat.le_refl _) (Nat.le_refl _) ?_
                                have q167 : (u156.1 0 12).toInt = ((v.1 0 12) + (1 : Int32)).toInt := congrArg Int32.toInt ((fr155.2.1 12 (by decide)).trans (show (wA (wA (wA (wA (wA v 13 ((v.1 0 15).toNatClampNeg) (21 : Int32)) 14 ((v.1 0 15).toNatClampNeg) pa) 0 15 ((v.1 0 15) + (1 : Int32))) 11 ((v.1 0 12).toNatClampNeg) (0 : Int32)) 0 12 ((v.1 0 12) + (1 : Int32))).1 0 12 = ((v.1 0 12) + (1 : Int32)) by rfl))
                                refine cu_i (rn_V (n := 1) (As := [.int r166]) (rest := []) hx hb hml hown ht hKK hFx hP hD hS hA (c_m_emit l dC dI cI cB cZ cJ cR tb H.size ad N u156 r166 (show 0 ≤ (u156.1 0 12).toInt ∧ (u156.1 0 12).toInt < 24000 from (om_0736977d3d zw z154 q167))) tw_8 tw_9 (by decide +kernel) rfl rfl ⟨Nat.le_of_ble_eq_true rfl, Nat.le_of_ble_eq_true rfl⟩ (List.range (mW ad N cI cZ cJ u156).length) (rg_map _) (mW_nd _ _ _ _ _ _) rfl rfl rfl rfl hl.1 rfl (Nat.le_of_ble_eq_true rfl) dX13_operate_476 ⟨Nat.le_of_ble_eq_true rfl, Nat.le_of_ble_eq_true rfl⟩) hP hD hS hA (fun r170 u169 H locs hw168 hP hD hS => ?_)
                                obtain ⟨rfl, rfl⟩ := hw168
                                have z171 : ((u156.1 0 12) + (1 : Int32)).toInt = ((u156.1 0 12).toInt) + (1 : Int) := add_z rfl (show (1 : Int32).toInt = (1 : Int) by decide) (om_32208a3540 zw z154 q167) (om_33e320e031 zw z154 q167)
                                have hP : va_P (dC, dI) vwCl (mW ad N cI cZ cJ (wA (wA u156 11 ((u156.1 0 12).toNatClampNeg) r166) 0 12 ((u156.1 0 12) + (1 : Int32)))) H := hP
                                have hD : va_D A (mW ad N cI cZ cJ (wA (wA u156 11 ((u156.1 0 12).toNatClampNeg) r166) 0 12 ((u156.1 0 12) + (1 : Int32)))) := hD
                                refine tp_i (y := (u156.1 0 12)) (rfl) ?_
                                refine W.widen (k := 0) (n := 0) (Nat.le_refl _) (Nat.le_refl _) ?_
                                refine lv_pop hx hb dX13_operate_479 rfl ?_
                                have q172 : (u156.1 0 15).toInt = ((v.1 0 15) + (1 : Int32)).toInt := congrArg Int32.toInt ((fr155.2.1 15 (by decide)).trans (show (wA (wA (wA (wA (wA v 13 ((v.1 0 15).toNatClampNeg) (21 : Int32)) 14 ((v.1 0 15).toNatClampNeg) pa) 0 15 ((v.1 0 15) + (1 : Int32))) 11 ((v.1 0 12).toNatClampNeg) (0 : Int32)) 0 12 ((v.1 0 12) + (1 : Int32))).1 0 15 = ((v.1 0 15) + (1 : Int32)) by rfl))
                                exact W.vret hx hb hr (fun t ht9 hW => ⟨⟨(wA (wA u156 11 ((u156.1 0 12).toNatClampNeg) r166) 0 12 ((u156.1 0 12) + (1 : Int32))), rfl, ⟨(FG.f (FG.a (FG.tr (FG.f (FG.a (FG.f (FG.a (FG.a (FG.rf _) ((v.1 0 15).toNatClampNeg) (21 : Int32) (by decide) (by decide)) ((v.1 0 15).toNatClampNeg) pa (by decide) (by decide)) ((v.1 0 15) + (1 : Int32)) (by decide)) ((v.1 0 12).toNatClampNeg) (0 : Int32) (by decide) (by decide)) ((v.1 0 12) + (1 : Int32)) (by decide)) (FG.up fr155 (by decide) (by decide))) ((u156.1 0 12).toNatClampNeg) r166 (by decide) (by decide)) ((u156.1 0 12) + (1 : Int32)) (by decide)), ⟨zw, zo, zf, (Or.inr (⟨h7, (Or.inr (⟨h16, (Or.inr (⟨h27, (Or.inr (⟨h35, (Or.inr (⟨h43, (Or.inr (⟨h51, (Or.inr (⟨h59, (Or.inr (⟨h67, (Or.inr (⟨h75, (Or.inr (⟨h83, (Or.inr (⟨h98, (Or.inr (⟨h113, (Or.inr (⟨h128, (Or.inr (⟨h143, u156, ex155, ⟨fr155, pf155⟩, (Or.inr (⟨z163, r166, ex164, rfl⟩))⟩))⟩))⟩))⟩))⟩))⟩))⟩))⟩))⟩))⟩))⟩))⟩))⟩))⟩))⟩, (show (v.1 0 12).toInt ≤ ((u156.1 0 12) + (1 : Int32)).toInt ∧ ((u156.1 0 12) + (1 : Int32)).toInt ≤ (v.1 0 12).toInt + 3 from (om_884b46967f z154 q167 z171)), (show (u156.1 0 15).toInt = (v.1 0 15).toInt + 1 from (om_36d688ce66 z5 q172)), (show (v.1 0 43).toInt ≤ (u156.1 0 43).toInt ∧ (u156.1 0 43).toInt ≤ (v.1 0 43).toInt + 1 from (om_c0e95d89ce pf155)), (fun (j9 : Nat) hj9 => (Eq.trans (pk_un3 (a := (u156.1 0 12).toInt) rfl (om_33c02db227 zw z154 q167) (om_814b6693b2 z154 q167 hj9)) (Eq.trans (congrFun (fr155.2.2 11 (by decide)) j9) (pk_un3 (a := (v.1 0 12).toInt) rfl (om_4842074e86 zw) (om_4fe904e9bf hj9))))), (fun (j9 : Nat) hj9 => (Eq.trans (congrFun (fr155.2.2 13 (by decide)) j9) (pk_un3 (a := (v.1 0 15).toInt) rfl (om_2ab3f6b9f5 zo) (om_4fe904e9bf hj9)))), (fun (j9 : Nat) hj9 => (Eq.trans (congrFun (fr155.2.2 14 (by decide)) j9) (pk_un3 (a := (v.1 0 15).toInt) rfl (om_2ab3f6b9f5 zo) (om_4fe904e9bf hj9)))), (AR.o (AR.o a40155 (by decide)) (by decide)), (FX.o (FX.o fx155 (by decide) (by decide)) (by decide) (by decide)), (fun hiv => (IV.o (IV.o (iv155 (IV.o (IV.o (IV.o (IV.o (IV.o hiv (by decide)) (by decide)) (by decide)) (by decide)) (by decide))) (by decide)) (by decide))), (SGE.mono (SGE.setB sg158 rfl) (show (2 : Int) ≤ (2 : Int) from om_f646c5fae3))⟩, by rw [ht9]; exact hP, hD⟩, hS.F ht9⟩) hS.2.2 dX13_operate_480
theorem om_246a963eff {x0 x1 x2 x3 : Int} (h0 : (0 ≤ x0 ∨ (0 ≤ x1 ∧ x1 < x2)) ∧ x0 < x3 ∧ x2 ≤ 60) (h1 : x0 < (0 : Int)) : (0 : Int) = 5 ∨ (0 ≤ x1 ∧ x1 < 60) := by omega
theorem om_ad52983bda {x0 x1 : Int} (h0 : 0 ≤ x0 ∧ x0 ≤ 23980) (h1 : x1 = x0 + 1) : 0 ≤ x1 ∧ x1 < 24000 := by omega
theorem om_8b89f6d161 {x0 x1 x2 x3 : Int} (h0 : (0 ≤ x0 ∨ (0 ≤ x1 ∧ x1 < x2)) ∧ x0 < x3 ∧ x2 ≤ 60) (h1 : x0 < (0 : Int)) : (1 : Int) = 5 ∨ (0 ≤ x1 ∧ x1 < 60) := by omega
theorem om_6eab8eb682 {x0 x1 x2 x3 : Int} (h0 : (0 ≤ x0 ∨ (0 ≤ x1 ∧ x1 < x2)) ∧ x0 < x3 ∧ x2 ≤ 60) (h1 : x0 < (0 : Int)) : 0 ≤ x1 := by omega
theorem om_8363739f4d {x0 x1 x2 x3 : Int} (h0 : (0 ≤ x0 ∨ (0 ≤ x1 ∧ x1 < x2)) ∧ x0 < x3 ∧ x2 ≤ 60) (h1 : x0 < (0 : Int)) : x1 < 60 := by omega
theorem om_f695bc8f0e {x0 x1 x2 x3 x4 x5 : Int} (h0 : (0 ≤ x0 ∨ (0 ≤ x1 ∧ x1 < x2)) ∧ x0 < x3 ∧ x2 ≤ 60) (h1 : x0 < (0 : Int)) (h2 : x4 = x2) (h3 : x5 = x4) : x1 < x5 := by omega
theorem om_11b92a7bac {x0 x1 x2 : Int} (h0 : 0 ≤ x0 ∧ x0 ≤ 15980) (h1 : x1 = x0) (h2 : x2 = x1) : 0 ≤ x2 ∧ x2 < 16000 := by omega
theorem om_1db8b32f2a {x0 x1 x2 : Int} (h0 : 0 ≤ x0 ∧ x0 ≤ 15980) (h1 : x1 = x0) (h2 : x2 = x1) : -2147483648 ≤ (x2) + (1 : Int) := by omega
theorem om_1d362dd496 {x0 x1 x2 : Int} (h0 : 0 ≤ x0 ∧ x0 ≤ 15980) (h1 : x1 = x0) (h2 : x2 = x1) : (x2) + (1 : Int) < 2147483648 := by omega
theorem om_333b46aa40 {x0 x1 x2 x3 x4 : Int} (h0 : x0 = x1) (h1 : x2 = x0) (h2 : 0 ≤ x3 ∧ 1 ≤ x4 ∧ x3 + x4 ≤ x2) : 0 ≤ x3 ∧ x3 < x1 := by omega
theorem om_256c01d5aa {x0 x1 x2 : Int} (h0 : 0 ≤ x0 ∧ x0 ≤ 15980) (h1 : x1 = x0) (h2 : x2 = x1) : 0 ≤ x2 := by omega
theorem om_e2e0f21706 {x0 x1 x2 x3 x4 : Int} (h0 : x0 = (x1) + (1 : Int)) (h1 : x2 = x0) (h2 : x3 = (x2) + (1 : Int)) (h3 : x4 = x3) : x1 ≤ x4 ∧ x4 ≤ x1 + 2 := by omega
theorem om_04bc2837ae {x0 x1 x2 x3 : Int} (h0 : x0 = x1) (h1 : x2 = x0) (h2 : x3 = (x2) + (1 : Int)) : x3 = x1 + 1 := by omega
theorem om_44baea2434 {x0 x1 x2 : Int} (h0 : x0 = x1 + 1) (h1 : x2 = x0 + 1) : x1 ≤ x2 ∧ x2 ≤ x1 + 2 := by omega
theorem om_2a5d4a8f22 {x0 x1 x2 : Int} {n3 : Nat} (h0 : x0 = x1) (h1 : x2 = x0) (h2 : (n3 : Int) < x1) : (n3 : Int) < x2 := by omega
theorem om_0ed08f574b {x0 x1 x2 x3 : Int} (h0 : (0 ≤ x0 ∨ (0 ≤ x1 ∧ x1 < x2)) ∧ x0 < x3 ∧ x2 ≤ 60) (h1 : (0 : Int) ≤ x0) : 0 ≤ x0 ∧ x0 < x3 := by omega
theorem om_798cb3402e {x0 : Int} : x0 ≤ x0 ∧ x0 ≤ x0 + 2 := by omega
set_option maxHeartbeats 4000000 in
set_option maxRecDepth 100000 in
theorem c_m_fetch (l : Launch) (dC : Nat → ClassId) (dI : Nat → Nat → Nat) (cI cB cZ cJ cR : ClassId) (tb : Nat → Nat) (sz : Nat) (ad : Nat → Nat) (N : Nat) (v : MS) (pa : Int32) (pb : Int32) (zw : 0 ≤ (v.1 0 12).toInt ∧ (v.1 0 12).toInt ≤ 23980) (zo : 0 ≤ (v.1 0 15).toInt ∧ (v.1 0 15).toInt ≤ 15980) (zf : 0 ≤ (v.1 0 43).toInt ∧ (v.1 0 43).toInt ≤ 23980) (zg : (0 ≤ pa.toInt ∨ (0 ≤ pb.toInt ∧ pb.toInt < (v.1 0 27).toInt)) ∧ pa.toInt < (v.1 0 30).toInt ∧ (v.1 0 27).toInt ≤ 60) (a40 : AR 40 0 23999 v) (fx : FX v) (gf : GF v) : Met l yX13_fetch (Cond.code yX13_fetch cX13_fetch 3 none :: tw_W) ({ frames := 2, cells := 0, slots := 0, locals := 46 }) (pc_ (dC, dI) (tyS cI cB cZ cJ cR) tb (mW ad N cI cZ cJ v) sz [.ref (ad 0), .int pa, .int pb]) (qv_ (dC, dI) (mW ad N cI cZ cJ v) sz (fun (u : MS) => FG [12, 15, 43] [0, 11, 13, 14, 40, 41, 42] v u ∧ (Q_m_fetch v pa pb u) ∧ ((v.1 0 12).toInt ≤ (u.1 0 12).toInt ∧ (u.1 0 12).toInt ≤ (v.1 0 12).toInt + 2) ∧ ((u.1 0 15).toInt = (v.1 0 15).toInt + 1) ∧ ((v.1 0 43).toInt ≤ (u.1 0 43).toInt ∧ (u.1 0 43).toInt ≤ (v.1 0 43).toInt + 2) ∧ (∀ j : Nat, (j : Int) < (v.1 0 12).toInt → (u.1 11) j = (v.1 11) j) ∧ (∀ j : Nat, (j : Int) < (v.1 0 15).toInt → (u.1 13) j = (v.1 13) j) ∧ (∀ j : Nat, (j : Int) < (v.1 0 15).toInt → (u.1 14) j = (v.1 14) j) ∧ (AR 40 0 23999 u) ∧ (FX u) ∧ (IV v → IV u) ∧ (SGE (v.1 0 30).toInt (v.1 0 28).toInt (v.1 0 27).toInt (u.1 13) (u.1 14) (u.1 36) (u.1 38) (v.1 0 15).toNatClampNeg (u.1 0 15).toNatClampNeg (v.1 0 39).toNatClampNeg (u.1 0 39).toNatClampNeg [] [false] ((1 : Int)) [])) (fun (u : MS) => (mW ad N cI cZ cJ u))) 0 0 (va_A (mW ad N cI cZ cJ v) sz) := by
  refine Met.ofW (cc := cX13_fetch) (maxL := 3) (ret := none) (by decide) rfl ?_
  intro p e s m args below meth c s₁ B hml hv
  obtain ⟨rfl, hsz, hP, hKK, hD0, hFx⟩ := hv
  have hK := hKK.1
  have hx := B.exec
  have hb := B.bytes
  have hr := B.returns
  have ht : ∀ w ∈ tw_W, w.before _ s = true := fun w h => atoms_spec (ws := Cond.code yX13_fetch cX13_fetch 3 none :: tw_W) B.pre w (List.mem_cons_of_mem _ h)
  have hown : s.vm.findClass RX13 = some m.cls := findClass_of_methodNamed B.named
  have hlocks := B.notSynchronized
  subst hsz
  unfold qv_
  have hD := hD0.self (sz := s.heap.size)
  generalize hAe : va_A (mW ad N cI cZ cJ v) s.heap.size = A at hD hFx ⊢
  have hA : ∀ q : Nat, s.heap.size ≤ q → A q := fun q h => by rw [← hAe]; exact Or.inr h
  have hS : va_S A s.heap s.heap [] := va_S.rf
  have hl := lv_entry ([.ref (ad 0), .int pa, .int pb]) (n := 3) (Nat.le_of_ble_eq_true rfl)
  rw [lg_entry_eq]
  generalize (lg_sl ([.ref (ad 0), .int pa, .int pb]) ++ List.replicate (3 - (lg_sl ([.ref (ad 0), .int pa, .int pb])).length) Slot.unset).toArray = ls at hl ⊢
  have hl : lv_has ls 3 [(0, .ref (ad 0)), (1, .int pa), (2, .int pb)] := hl
  have sg1 : SGE (v.1 0 30).toInt (v.1 0 28).toInt (v.1 0 27).toInt (v.1 13) (v.1 14) (v.1 36) (v.1 38) (v.1 0 15).toNatClampNeg (v.1 0 15).toNatClampNeg (v.1 0 39).toNatClampNeg (v.1 0 39).toNatClampNeg [] [] ((1 : Int)) [] := SGE.nil rfl (lenle (0 : Int) (by decide) om_0f34b291e9)
  refine lv_iload_n hx hb dX13_fetch_0 rfl (lv_at hl 1 rfl) ?_
  refine lv_if_lt (tgt := 30) hx hb dX13_fetch_1 (by decide) (fun h2 => ?_) (fun h2 => ?_)
  · have z3 : pa.toInt < (0 : Int) := lt_z rfl (show (0 : Int32).toInt = (0 : Int) by decide) h2
    refine lv_aload_n hx hb dX13_fetch_30 rfl (lv_at hl 0 rfl) ?_
    refine lv_aload_n hx hb dX13_fetch_31 rfl (lv_at hl 0 rfl) ?_
    refine lv_bipush (v := 6) hx hb dX13_fetch_32 (by decide) ?_
    refine lv_iconst (v := 0) hx hb dX13_fetch_34 (by decide) ?_
    refine cu_s (mW_nd _ _ _ _ _ _) (rn_S (n := 2) (As := [.int 6, .int 0]) (rest := [.ref (ad 0), .ref (ad 0)]) hx hb hml hown ht hKK hFx hP hD hS hA (c_m_lui l dC dI cI cB cZ cJ cR tb s.heap.size (6 : Int32) (0 : Int32) ) tw_61 tw_62 (by decide +kernel) rfl rfl ⟨Nat.le_of_ble_eq_true rfl, Nat.le_of_ble_eq_true rfl⟩ [] rfl rfl rfl hl.1 rfl (Nat.le_of_ble_eq_true rfl) dX13_fetch_35 ⟨Nat.le_of_ble_eq_true rfl, Nat.le_of_ble_eq_true rfl⟩) hP hD hS hA (fun r6 H locs hw4 hP hD hS => ?_)
    have ex4 := hw4
    refine W.widen (k := 0) (n := 0) (Nat.le_refl _) (Nat.le_refl _) ?_
    refine cu_i (rn_V (n := 1) (As := [.int r6]) (rest := [.ref (ad 0)]) hx hb hml hown ht hKK hFx hP hD hS hA (c_m_emit l dC dI cI cB cZ cJ cR tb H.size ad N v r6 (show 0 ≤ (v.1 0 12).toInt ∧ (v.1 0 12).toInt < 24000 from (om_bd95b2e5c4 zw))) tw_8 tw_9 (by decide +kernel) rfl rfl ⟨Nat.le_of_ble_eq_true rfl, Nat.le_of_ble_eq_true rfl⟩ (List.range (mW ad N cI cZ cJ v).length) (rg_map _) (mW_nd _ _ _ _ _ _) rfl rfl rfl rfl hl.1 rfl (Nat.le_of_ble_eq_true rfl) dX13_fetch_38 ⟨Nat.le_of_ble_eq_true rfl, Nat.le_of_ble_eq_true rfl⟩) hP hD hS hA (fun r9 u8 H locs hw7 hP hD hS => ?_)
    obtain ⟨rfl, rfl⟩ := hw7
    have z10 : ((v.1 0 12) + (1 : Int32)).toInt = ((v.1 0 12).toInt) + (1 : Int) := add_z rfl (show (1 : Int32).toInt = (1 : Int) by decide) (om_6650f37474 zw) (om_8ddb6642ab zw)
    have hP : va_P (dC, dI) vwCl (mW ad N cI cZ cJ (wA (wA v 11 ((v.1 0 12).toNatClampNeg) r6) 0 12 ((v.1 0 12) + (1 : Int32)))) H := hP
    have hD : va_D A (mW ad N cI cZ cJ (wA (wA v 11 ((v.1 0 12).toNatClampNeg) r6) 0 12 ((v.1 0 12) + (1 : Int32)))) := hD
    refine tp_i (y := (v.1 0 12)) (rfl) ?_
    refine W.widen (k := 0) (n := 0) (Nat.le_refl _) (Nat.le_refl _) ?_
    refine lv_iload_n hx hb dX13_fetch_41 rfl (lv_at hl 2 rfl) ?_
    refine lv_iconst (v := 0) hx hb dX13_fetch_42 (by decide) ?_
    refine cu_v (rn_V (n := 3) (As := [.int (v.1 0 12), .int pb, .int 0]) (rest := []) hx hb hml hown ht hKK hFx hP hD hS hA (c_m_fix l dC dI cI cB cZ cJ cR tb H.size ad N (wA (wA v 11 ((v.1 0 12).toNatClampNeg) r6) 0 12 ((v.1 0 12) + (1 : Int32))) (v.1 0 12) pb (0 : Int32) (show 0 ≤ (v.1 0 43).toInt ∧ (v.1 0 43).toInt < 24000 from (om_bd95b2e5c4 zf)) (show 0 ≤ (v.1 0 12).toInt ∧ (v.1 0 12).toInt < 24000 from (om_bd95b2e5c4 zw)) (show (0 : Int) = 5 ∨ (0 ≤ pb.toInt ∧ pb.toInt < 60) from (om_246a963eff zg z3)) (show AR 40 0 23999 (wA (wA v 11 ((v.1 0 12).toNatClampNeg) r6) 0 12 ((v.1 0 12) + (1 : Int32))) from (AR.o (AR.o a40 (by decide)) (by decide))) (show FX (wA (wA v 11 ((v.1 0 12).toNatClampNeg) r6) 0 12 ((v.1 0 12) + (1 : Int32))) from (FX.o (FX.o fx (by decide) (by decide)) (by decide) (by decide)))) tw_69 tw_70 (by decide +kernel) rfl rfl ⟨Nat.le_of_ble_eq_true rfl, Nat.le_of_ble_eq_true rfl⟩ (List.range (mW ad N cI cZ cJ (wA (wA v 11 ((v.1 0 12).toNatClampNeg) r6) 0 12 ((v.1 0 12) + (1 : Int32)))).length) (rg_map _) (mW_nd _ _ _ _ _ _) rfl rfl rfl rfl hl.1 rfl (Nat.le_of_ble_eq_true rfl) dX13_fetch_43 ⟨Nat.le_of_ble_eq_true rfl, Nat.le_of_ble_eq_true rfl⟩) hP hD hS hA (fun u12 H locs hw11 hP hD hS => ?_)
    obtain ⟨fr11, ex11, pf11, a4011, fx11, iv11⟩ := hw11
    have pf11 : (u12.1 0 43).toInt = (v.1 0 43).toInt + 1 := pf11
    have a4011 : AR 40 0 23999 u12 := a4011
    have fx11 : FX u12 := fx11
    have iv11 : IV (wA (wA v 11 ((v.1 0 12).toNatClampNeg) r6) 0 12 ((v.1 0 12) + (1 : Int32))) → IV u12 := iv11
    have sg14 : SGE (v.1 0 30).toInt (v.1 0 28).toInt (v.1 0 27).toInt (u12.1 13) (u12.1 14) (u12.1 36) (u12.1 38) (v.1 0 15).toNatClampNeg (u12.1 0 15).toNatClampNeg (v.1 0 39).toNatClampNeg (u12.1 0 39).toNatClampNeg [] [] ((1 : Int)) [] := SGE.to sg1 (fun j9 _ => congrFun (fr11.2.2 13 (by decide)) j9) (fun j9 _ => congrFun (fr11.2.2 14 (by decide)) j9) (fun j9 _ _ => congrFun (fr11.2.2 36 (by decide)) j9) (fun j9 _ _ => congrFun (fr11.2.2 38 (by decide)) j9) (congrArg Int32.toNatClampNeg (fr11.2.1 15 (by decide))) (congrArg Int32.toNatClampNeg (fr11.2.1 39 (by decide))) (Int.le_refl _)
    refine W.widen (k := 0) (n := 0) (Nat.le_refl _) (Nat.le_refl _) ?_
    refine lv_aload_n hx hb dX13_fetch_46 rfl (lv_at hl 0 rfl) ?_
    refine lv_aload_n hx hb dX13_fetch_47 rfl (lv_at hl 0 rfl) ?_
    refine lv_bipush (v := 10) hx hb dX13_fetch_48 (by decide) ?_
    refine lv_iconst (v := 0) hx hb dX13_fetch_50 (by decide) ?_
    refine lv_bipush (v := 6) hx hb dX13_fetch_51 (by decide) ?_
    refine cu_s (mW_nd _ _ _ _ _ _) (rn_S (n := 3) (As := [.int 10, .int 0, .int 6]) (rest := [.ref (ad 0), .ref (ad 0)]) hx hb hml hown ht hKK hFx hP hD hS hA (c_m_lw l dC dI cI cB cZ cJ cR tb H.size (10 : Int32) (0 : Int32) (6 : Int32) ) tw_71 tw_72 (by decide +kernel) rfl rfl ⟨Nat.le_of_ble_eq_true rfl, Nat.le_of_ble_eq_true rfl⟩ [] rfl rfl rfl hl.1 rfl (Nat.le_of_ble_eq_true rfl) dX13_fetch_53 ⟨Nat.le_of_ble_eq_true rfl, Nat.le_of_ble_eq_true rfl⟩) hP hD hS hA (fun r17 H locs hw15 hP hD hS => ?_)
    have ex15 := hw15
    refine W.widen (k := 0) (n := 0) (Nat.le_refl _) (Nat.le_refl _) ?_
    have q18 : (u12.1 0 12).toInt = ((v.1 0 12) + (1 : Int32)).toInt := congrArg Int32.toInt ((fr11.2.1 12 (by decide)).trans (show (wA (wA v 11 ((v.1 0 12).toNatClampNeg) r6) 0 12 ((v.1 0 12) + (1 : Int32))).1 0 12 = ((v.1 0 12) + (1 : Int32)) by rfl))
    refine cu_i (rn_V (n := 1) (As := [.int r17]) (rest := [.ref (ad 0)]) hx hb hml hown ht hKK hFx hP hD hS hA (c_m_emit l dC dI cI cB cZ cJ cR tb H.size ad N u12 r17 (show 0 ≤ (u12.1 0 12).toInt ∧ (u12.1 0 12).toInt < 24000 from (om_0736977d3d zw z10 q18))) tw_8 tw_9 (by decide +kernel) rfl rfl ⟨Nat.le_of_ble_eq_true rfl, Nat.le_of_ble_eq_true rfl⟩ (List.range (mW ad N cI cZ cJ u12).length) (rg_map _) (mW_nd _ _ _ _ _ _) rfl rfl rfl rfl hl.1 rfl (Nat.le_of_ble_eq_true rfl) dX13_fetch_56 ⟨Nat.le_of_ble_eq_true rfl, Nat.le_of_ble_eq_true rfl⟩) hP hD hS hA (fun r21 u20 H locs hw19 hP hD hS => ?_)
    obtain ⟨rfl, rfl⟩ := hw19
    have z22 : ((u12.1 0 12) + (1 : Int32)).toInt = ((u12.1 0 12).toInt) + (1 : Int) := add_z rfl (show (1 : Int32).toInt = (1 : Int) by decide) (om_32208a3540 zw z10 q18) (om_33e320e031 zw z10 q18)
    have hP : va_P (dC, dI) vwCl (mW ad N cI cZ cJ (wA (wA u12 11 ((u12.1 0 12).toNatClampNeg) r17) 0 12 ((u12.1 0 12) + (1 : Int32)))) H := hP
    have hD : va_D A (mW ad N cI cZ cJ (wA (wA u12 11 ((u12.1 0 12).toNatClampNeg) r17) 0 12 ((u12.1 0 12) + (1 : Int32)))) := hD
    refine tp_i (y := (u12.1 0 12)) (rfl) ?_
    refine W.widen (k := 0) (n := 0) (Nat.le_refl _) (Nat.le_refl _) ?_
    refine lv_iload_n hx hb dX13_fetch_59 rfl (lv_at hl 2 rfl) ?_
    refine lv_iconst (v := 1) hx hb dX13_fetch_60 (by decide) ?_
    refine cu_v (rn_V (n := 3) (As := [.int (u12.1 0 12), .int pb, .int 1]) (rest := []) hx hb hml hown ht hKK hFx hP hD hS hA (c_m_fix l dC dI cI cB cZ cJ cR tb H.size ad N (wA (wA u12 11 ((u12.1 0 12).toNatClampNeg) r17) 0 12 ((u12.1 0 12) + (1 : Int32))) (u12.1 0 12) pb (1 : Int32) (show 0 ≤ (u12.1 0 43).toInt ∧ (u12.1 0 43).toInt < 24000 from (om_ad52983bda zf pf11)) (show 0 ≤ (u12.1 0 12).toInt ∧ (u12.1 0 12).toInt < 24000 from (om_0736977d3d zw z10 q18)) (show (1 : Int) = 5 ∨ (0 ≤ pb.toInt ∧ pb.toInt < 60) from (om_8b89f6d161 zg z3)) (show AR 40 0 23999 (wA (wA u12 11 ((u12.1 0 12).toNatClampNeg) r17) 0 12 ((u12.1 0 12) + (1 : Int32))) from (AR.o (AR.o a4011 (by decide)) (by decide))) (show FX (wA (wA u12 11 ((u12.1 0 12).toNatClampNeg) r17) 0 12 ((u12.1 0 12) + (1 : Int32))) from (FX.o (FX.o fx11 (by decide) (by decide)) (by decide) (by decide)))) tw_69 tw_70 (by decide +kernel) rfl rfl ⟨Nat.le_of_ble_eq_true rfl, Nat.le_of_ble_eq_true rfl⟩ (List.range (mW ad N cI cZ cJ (wA (wA u12 11 ((u12.1 0 12).toNatClampNeg) r17) 0 12 ((u12.1 0 12) + (1 : Int32)))).length) (rg_map _) (mW_nd _ _ _ _ _ _) rfl rfl rfl rfl hl.1 rfl (Nat.le_of_ble_eq_true rfl) dX13_fetch_61 ⟨Nat.le_of_ble_eq_true rfl, Nat.le_of_ble_eq_true rfl⟩) hP hD hS hA (fun u24 H locs hw23 hP hD hS => ?_)
    obtain ⟨fr23, ex23, pf23, a4023, fx23, iv23⟩ := hw23
    have pf23 : (u24.1 0 43).toInt = (u12.1 0 43).toInt + 1 := pf23
    have a4023 : AR 40 0 23999 u24 := a4023
    have fx23 : FX u24 := fx23
    have iv23 : IV (wA (wA u12 11 ((u12.1 0 12).toNatClampNeg) r17) 0 12 ((u12.1 0 12) + (1 : Int32))) → IV u24 := iv23
    have sg26 : SGE (v.1 0 30).toInt (v.1 0 28).toInt (v.1 0 27).toInt (u24.1 13) (u24.1 14) (u24.1 36) (u24.1 38) (v.1 0 15).toNatClampNeg (u24.1 0 15).toNatClampNeg (v.1 0 39).toNatClampNeg (u24.1 0 39).toNatClampNeg [] [] ((1 : Int)) [] := SGE.to sg14 (fun j9 _ => congrFun (fr23.2.2 13 (by decide)) j9) (fun j9 _ => congrFun (fr23.2.2 14 (by decide)) j9) (fun j9 _ _ => congrFun (fr23.2.2 36 (by decide)) j9) (fun j9 _ _ => congrFun (fr23.2.2 38 (by decide)) j9) (congrArg Int32.toNatClampNeg (fr23.2.1 15 (by decide))) (congrArg Int32.toNatClampNeg (fr23.2.1 39 (by decide))) (Int.le_refl _)
    refine W.widen (k := 0) (n := 0) (Nat.le_refl _) (Nat.le_refl _) ?_
    refine lv_aload_n hx hb dX13_fetch_64 rfl (lv_at hl 0 rfl) ?_
    refine lv_iconst (v := 3) hx hb dX13_fetch_65 (by decide) ?_
    refine lv_aload_n hx hb dX13_fetch_66 rfl (lv_at hl 0 rfl) ?_
    refine va_get (D := (dC, dI)) (ci := 16) (fs := mF ad u24) (v := .ref (ad 25)) (C := RX13) (T := TX13) (N := 124) hx hb ht itX13 hown hK hP 0 rfl rfl 25 (by decide) (ht _ tw_73) (fun _ h9 => h9) rfl dX13_fetch_67 ?_
    refine lv_iload_n hx hb dX13_fetch_70 rfl (lv_at hl 2 rfl) ?_
    refine va_iald (D := (dC, dI)) (f := (u24.1 25)) hx hb hK hP 19 0 rfl rfl (in_y (a := pb.toInt) (b := 60) rfl (om_6eab8eb682 zg z3) (om_8363739f4d zg z3) rfl) dX13_fetch_71 ?_
    have q28 : (u12.1 0 27).toInt = (v.1 0 27).toInt := congrArg Int32.toInt ((fr11.2.1 27 (by decide)).trans (show (wA (wA v 11 ((v.1 0 12).toNatClampNeg) r6) 0 12 ((v.1 0 12) + (1 : Int32))).1 0 27 = (v.1 0 27) by rfl))
    have q29 : (u24.1 0 27).toInt = (u12.1 0 27).toInt := congrArg Int32.toInt ((fr23.2.1 27 (by decide)).trans (show (wA (wA u12 11 ((u12.1 0 12).toNatClampNeg) r17) 0 12 ((u12.1 0 12) + (1 : Int32))).1 0 27 = (u12.1 0 27) by rfl))
    have gz27 : 0 ≤ ((u24.1 25) pb.toNatClampNeg).toInt ∧ 1 ≤ ((u24.1 24) pb.toNatClampNeg).toInt ∧ ((u24.1 25) pb.toNatClampNeg).toInt + ((u24.1 24) pb.toNatClampNeg).toInt ≤ (u24.1 0 28).toInt := GF.at (v := u24) (x := pb) (GF.fr (fl := [43]) (al := [0, 40, 41, 42]) fr23 (by decide) (by decide) (GF.of (GF.o (GF.fr (fl := [43]) (al := [0, 40, 41, 42]) fr11 (by decide) (by decide) (GF.of (GF.o gf (by decide)) (by decide))) (by decide)) (by decide))) rfl (om_6eab8eb682 zg z3) (show pb.toInt < (u24.1 0 27).toInt from (om_f695bc8f0e zg z3 q28 q29))
    have q30 : (u12.1 0 15).toInt = (v.1 0 15).toInt := congrArg Int32.toInt ((fr11.2.1 15 (by decide)).trans (show (wA (wA v 11 ((v.1 0 12).toNatClampNeg) r6) 0 12 ((v.1 0 12) + (1 : Int32))).1 0 15 = (v.1 0 15) by rfl))
    have q31 : (u24.1 0 15).toInt = (u12.1 0 15).toInt := congrArg Int32.toInt ((fr23.2.1 15 (by decide)).trans (show (wA (wA u12 11 ((u12.1 0 12).toNatClampNeg) r17) 0 12 ((u12.1 0 12) + (1 : Int32))).1 0 15 = (u12.1 0 15) by rfl))
    refine cu_i (rn_V (n := 2) (As := [.int 3, .int ((u24.1 25) pb.toNatClampNeg)]) (rest := []) hx hb hml hown ht hKK hFx hP hD hS hA (c_m_say l dC dI cI cB cZ cJ cR tb H.size ad N u24 (3 : Int32) ((u24.1 25) pb.toNatClampNeg) (show 0 ≤ (u24.1 0 15).toInt ∧ (u24.1 0 15).toInt < 16000 from (om_11b92a7bac zo q30 q31))) tw_59 tw_60 (by decide +kernel) rfl rfl ⟨Nat.le_of_ble_eq_true rfl, Nat.le_of_ble_eq_true rfl⟩ (List.range (mW ad N cI cZ cJ u24).length) (rg_map _) (mW_nd _ _ _ _ _ _) rfl rfl rfl rfl hl.1 rfl (Nat.le_of_ble_eq_true rfl) dX13_fetch_72 ⟨Nat.le_of_ble_eq_true rfl, Nat.le_of_ble_eq_true rfl⟩) hP hD hS hA (fun r34 u33 H locs hw32 hP hD hS => ?_)
    obtain ⟨rfl, rfl⟩ := hw32
    have z35 : ((u24.1 0 15) + (1 : Int32)).toInt = ((u24.1 0 15).toInt) + (1 : Int) := add_z rfl (show (1 : Int32).toInt = (1 : Int) by decide) (om_1db8b32f2a zo q30 q31) (om_1d362dd496 zo q30 q31)
    have hP : va_P (dC, dI) vwCl (mW ad N cI cZ cJ (wA (wA (wA u24 13 ((u24.1 0 15).toNatClampNeg) (3 : Int32)) 14 ((u24.1 0 15).toNatClampNeg) ((u24.1 25) pb.toNatClampNeg)) 0 15 ((u24.1 0 15) + (1 : Int32)))) H := hP
    have hD : va_D A (mW ad N cI cZ cJ (wA (wA (wA u24 13 ((u24.1 0 15).toNatClampNeg) (3 : Int32)) 14 ((u24.1 0 15).toNatClampNeg) ((u24.1 25) pb.toNatClampNeg)) 0 15 ((u24.1 0 15) + (1 : Int32)))) := hD
    refine tp_i (y := (u24.1 0 15)) (rfl) ?_
    have q36 : (u12.1 0 28).toInt = (v.1 0 28).toInt := congrArg Int32.toInt ((fr11.2.1 28 (by decide)).trans (show (wA (wA v 11 ((v.1 0 12).toNatClampNeg) r6) 0 12 ((v.1 0 12) + (1 : Int32))).1 0 28 = (v.1 0 28) by rfl))
    have q37 : (u24.1 0 28).toInt = (u12.1 0 28).toInt := congrArg Int32.toInt ((fr23.2.1 28 (by decide)).trans (show (wA (wA u12 11 ((u12.1 0 12).toNatClampNeg) r17) 0 12 ((u12.1 0 12) + (1 : Int32))).1 0 28 = (u12.1 0 28) by rfl))
    have sg38 : SGE (v.1 0 30).toInt (v.1 0 28).toInt (v.1 0 27).toInt (upd (u24.1 13) ((u24.1 0 15).toNatClampNeg) (3 : Int32)) (upd (u24.1 14) ((u24.1 0 15).toNatClampNeg) ((u24.1 25) pb.toNatClampNeg)) (u24.1 36) (u24.1 38) (v.1 0 15).toNatClampNeg ((u24.1 0 15) + (1 : Int32)).toNatClampNeg (v.1 0 39).toNatClampNeg (u24.1 0 39).toNatClampNeg [] [false] ((1 : Int)) [] := SGE.say1 (x := (u24.1 0 15)) (y := ((u24.1 0 15) + (1 : Int32))) sg26 (show 0 ≤ (u24.1 0 15).toInt from (om_256c01d5aa zo q30 q31)) (show ((u24.1 0 15) + (1 : Int32)).toInt = (u24.1 0 15).toInt + 1 from (om_5bccfc38cf z35)) (show (1 : Int) ≤ (1 : Int) from om_007919dbf5) (lenle (1 : Int) (by decide) om_007919dbf5) (ft_glo (by decide) (show 0 ≤ ((u24.1 25) pb.toNatClampNeg).toInt ∧ ((u24.1 25) pb.toNatClampNeg).toInt < (v.1 0 28).toInt from (om_333b46aa40 q36 q37 gz27))) (by decide) (by decide)
    refine W.widen (k := 0) (n := 0) (Nat.le_refl _) (Nat.le_refl _) ?_
    refine lv_pop hx hb dX13_fetch_75 rfl ?_
    have q39 : (u24.1 0 12).toInt = ((u12.1 0 12) + (1 : Int32)).toInt := congrArg Int32.toInt ((fr23.2.1 12 (by decide)).trans (show (wA (wA u12 11 ((u12.1 0 12).toNatClampNeg) r17) 0 12 ((u12.1 0 12) + (1 : Int32))).1 0 12 = ((u12.1 0 12) + (1 : Int32)) by rfl))
    exact W.vret hx hb hr (fun t ht9 hW => ⟨⟨(wA (wA (wA u24 13 ((u24.1 0 15).toNatClampNeg) (3 : Int32)) 14 ((u24.1 0 15).toNatClampNeg) ((u24.1 25) pb.toNatClampNeg)) 0 15 ((u24.1 0 15) + (1 : Int32))), rfl, ⟨(FG.f (FG.a (FG.a (FG.tr (FG.f (FG.a (FG.tr (FG.f (FG.a (FG.rf _) ((v.1 0 12).toNatClampNeg) r6 (by decide) (by decide)) ((v.1 0 12) + (1 : Int32)) (by decide)) (FG.up fr11 (by decide) (by decide))) ((u12.1 0 12).toNatClampNeg) r17 (by decide) (by decide)) ((u12.1 0 12) + (1 : Int32)) (by decide)) (FG.up fr23 (by decide) (by decide))) ((u24.1 0 15).toNatClampNeg) (3 : Int32) (by decide) (by decide)) ((u24.1 0 15).toNatClampNeg) ((u24.1 25) pb.toNatClampNeg) (by decide) (by decide)) ((u24.1 0 15) + (1 : Int32)) (by decide)), ⟨zw, zo, zf, zg, (Or.inl ⟨z3, r6, ex4, u12, ex11, ⟨fr11, pf11⟩, r17, ex15, u24, ex23, ⟨fr23, pf23⟩, rfl⟩)⟩, (show (v.1 0 12).toInt ≤ (u24.1 0 12).toInt ∧ (u24.1 0 12).toInt ≤ (v.1 0 12).toInt + 2 from (om_e2e0f21706 z10 q18 z22 q39)), (show ((u24.1 0 15) + (1 : Int32)).toInt = (v.1 0 15).toInt + 1 from (om_04bc2837ae q30 q31 z35)), (show (v.1 0 43).toInt ≤ (u24.1 0 43).toInt ∧ (u24.1 0 43).toInt ≤ (v.1 0 43).toInt + 2 from (om_44baea2434 pf11 pf23)), (fun (j9 : Nat) hj9 => (Eq.trans (congrFun (fr23.2.2 11 (by decide)) j9) (Eq.trans (pk_un3 (a := (u12.1 0 12).toInt) rfl (om_33c02db227 zw z10 q18) (om_814b6693b2 z10 q18 hj9)) (Eq.trans (congrFun (fr11.2.2 11 (by decide)) j9) (pk_un3 (a := (v.1 0 12).toInt) rfl (om_4842074e86 zw) (om_4fe904e9bf hj9)))))), (fun (j9 : Nat) hj9 => (Eq.trans (pk_un3 (a := (u24.1 0 15).toInt) rfl (om_256c01d5aa zo q30 q31) (om_2a5d4a8f22 q30 q31 hj9)) (Eq.trans (congrFun (fr23.2.2 13 (by decide)) j9) (congrFun (fr11.2.2 13 (by decide)) j9)))), (fun (j9 : Nat) hj9 => (Eq.trans (pk_un3 (a := (u24.1 0 15).toInt) rfl (om_256c01d5aa zo q30 q31) (om_2a5d4a8f22 q30 q31 hj9)) (Eq.trans (congrFun (fr23.2.2 14 (by decide)) j9) (congrFun (fr11.2.2 14 (by decide)) j9)))), (AR.o (AR.o (AR.o a4023 (by decide)) (by decide)) (by decide)), (FX.o (FX.o (FX.o fx23 (by decide) (by decide)) (by decide) (by decide)) (by decide) (by decide)), (fun hiv => (IV.o (IV.o (IV.o (iv23 (IV.o (IV.o (iv11 (IV.o (IV.o hiv (by decide)) (by decide))) (by decide)) (by decide))) (by decide)) (by decide)) (by decide))), (SGE.mono (SGE.setB sg38 rfl) (show (1 : Int) ≤ (1 : Int) from om_007919dbf5))⟩, by rw [ht9]; exact hP, hD⟩, hS.F ht9⟩) hS.2.2 dX13_fetch_76
  · have z40 : (0 : Int) ≤ pa.toInt := nlt_z rfl (show (0 : Int32).toInt = (0 : Int) by decide) h2
    refine lv_aload_n hx hb dX13_fetch_4 rfl (lv_at hl 0 rfl) ?_
    refine lv_bipush (v := 10) hx hb dX13_fetch_5 (by decide) ?_
    refine lv_iload_n hx hb dX13_fetch_7 rfl (lv_at hl 1 rfl) ?_
    refine cu_s (mW_nd _ _ _ _ _ _) (rn_S (n := 1) (As := [.int pa]) (rest := [.int 10, .ref (ad 0)]) hx hb hml hown ht hKK hFx hP hD hS hA (c_m_slotAt l dC dI cI cB cZ cJ cR tb s.heap.size pa ) tw_74 tw_75 (by decide +kernel) rfl rfl ⟨Nat.le_of_ble_eq_true rfl, Nat.le_of_ble_eq_true rfl⟩ [] rfl rfl rfl hl.1 rfl (Nat.le_of_ble_eq_true rfl) dX13_fetch_8 ⟨Nat.le_of_ble_eq_true rfl, Nat.le_of_ble_eq_true rfl⟩) hP hD hS hA (fun r43 H locs hw41 hP hD hS => ?_)
    have ex41 := hw41
    refine W.widen (k := 0) (n := 0) (Nat.le_refl _) (Nat.le_refl _) ?_
    refine lv_bipush (v := 8) hx hb dX13_fetch_11 (by decide) ?_
    refine cu_s (mW_nd _ _ _ _ _ _) (rn_S (n := 3) (As := [.int 10, .int r43, .int 8]) (rest := [.ref (ad 0)]) hx hb hml hown ht hKK hFx hP hD hS hA (c_m_lw l dC dI cI cB cZ cJ cR tb H.size (10 : Int32) r43 (8 : Int32) ) tw_71 tw_72 (by decide +kernel) rfl rfl ⟨Nat.le_of_ble_eq_true rfl, Nat.le_of_ble_eq_true rfl⟩ [] rfl rfl rfl hl.1 rfl (Nat.le_of_ble_eq_true rfl) dX13_fetch_13 ⟨Nat.le_of_ble_eq_true rfl, Nat.le_of_ble_eq_true rfl⟩) hP hD hS hA (fun r46 H locs hw44 hP hD hS => ?_)
    have ex44 := hw44
    refine W.widen (k := 0) (n := 0) (Nat.le_refl _) (Nat.le_refl _) ?_
    refine cu_i (rn_V (n := 1) (As := [.int r46]) (rest := []) hx hb hml hown ht hKK hFx hP hD hS hA (c_m_emit l dC dI cI cB cZ cJ cR tb H.size ad N v r46 (show 0 ≤ (v.1 0 12).toInt ∧ (v.1 0 12).toInt < 24000 from (om_bd95b2e5c4 zw))) tw_8 tw_9 (by decide +kernel) rfl rfl ⟨Nat.le_of_ble_eq_true rfl, Nat.le_of_ble_eq_true rfl⟩ (List.range (mW ad N cI cZ cJ v).length) (rg_map _) (mW_nd _ _ _ _ _ _) rfl rfl rfl rfl hl.1 rfl (Nat.le_of_ble_eq_true rfl) dX13_fetch_16 ⟨Nat.le_of_ble_eq_true rfl, Nat.le_of_ble_eq_true rfl⟩) hP hD hS hA (fun r49 u48 H locs hw47 hP hD hS => ?_)
    obtain ⟨rfl, rfl⟩ := hw47
    have z50 : ((v.1 0 12) + (1 : Int32)).toInt = ((v.1 0 12).toInt) + (1 : Int) := add_z rfl (show (1 : Int32).toInt = (1 : Int) by decide) (om_6650f37474 zw) (om_8ddb6642ab zw)
    have hP : va_P (dC, dI) vwCl (mW ad N cI cZ cJ (wA (wA v 11 ((v.1 0 12).toNatClampNeg) r46) 0 12 ((v.1 0 12) + (1 : Int32)))) H := hP
    have hD : va_D A (mW ad N cI cZ cJ (wA (wA v 11 ((v.1 0 12).toNatClampNeg) r46) 0 12 ((v.1 0 12) + (1 : Int32)))) := hD
    refine tp_i (y := (v.1 0 12)) (rfl) ?_
    refine W.widen (k := 0) (n := 0) (Nat.le_refl _) (Nat.le_refl _) ?_
    refine lv_pop hx hb dX13_fetch_19 rfl ?_
    refine lv_aload_n hx hb dX13_fetch_20 rfl (lv_at hl 0 rfl) ?_
    refine lv_iconst (v := 1) hx hb dX13_fetch_21 (by decide) ?_
    refine lv_iload_n hx hb dX13_fetch_22 rfl (lv_at hl 1 rfl) ?_
    refine cu_i (rn_V (n := 2) (As := [.int 1, .int pa]) (rest := []) hx hb hml hown ht hKK hFx hP hD hS hA (c_m_say l dC dI cI cB cZ cJ cR tb H.size ad N (wA (wA v 11 ((v.1 0 12).toNatClampNeg) r46) 0 12 ((v.1 0 12) + (1 : Int32))) (1 : Int32) pa (show 0 ≤ (v.1 0 15).toInt ∧ (v.1 0 15).toInt < 16000 from (om_434853ee4d zo))) tw_59 tw_60 (by decide +kernel) rfl rfl ⟨Nat.le_of_ble_eq_true rfl, Nat.le_of_ble_eq_true rfl⟩ (List.range (mW ad N cI cZ cJ (wA (wA v 11 ((v.1 0 12).toNatClampNeg) r46) 0 12 ((v.1 0 12) + (1 : Int32)))).length) (rg_map _) (mW_nd _ _ _ _ _ _) rfl rfl rfl rfl hl.1 rfl (Nat.le_of_ble_eq_true rfl) dX13_fetch_23 ⟨Nat.le_of_ble_eq_true rfl, Nat.le_of_ble_eq_true rfl⟩) hP hD hS hA (fun r53 u52 H locs hw51 hP hD hS => ?_)
    obtain ⟨rfl, rfl⟩ := hw51
    have z54 : ((v.1 0 15) + (1 : Int32)).toInt = ((v.1 0 15).toInt) + (1 : Int) := add_z rfl (show (1 : Int32).toInt = (1 : Int) by decide) (om_725afa629b zo) (om_58344aeddd zo)
    have hP : va_P (dC, dI) vwCl (mW ad N cI cZ cJ (wA (wA (wA (wA (wA v 11 ((v.1 0 12).toNatClampNeg) r46) 0 12 ((v.1 0 12) + (1 : Int32))) 13 ((v.1 0 15).toNatClampNeg) (1 : Int32)) 14 ((v.1 0 15).toNatClampNeg) pa) 0 15 ((v.1 0 15) + (1 : Int32)))) H := hP
    have hD : va_D A (mW ad N cI cZ cJ (wA (wA (wA (wA (wA v 11 ((v.1 0 12).toNatClampNeg) r46) 0 12 ((v.1 0 12) + (1 : Int32))) 13 ((v.1 0 15).toNatClampNeg) (1 : Int32)) 14 ((v.1 0 15).toNatClampNeg) pa) 0 15 ((v.1 0 15) + (1 : Int32)))) := hD
    refine tp_i (y := (v.1 0 15)) (rfl) ?_
    have sg55 : SGE (v.1 0 30).toInt (v.1 0 28).toInt (v.1 0 27).toInt (upd (v.1 13) ((v.1 0 15).toNatClampNeg) (1 : Int32)) (upd (v.1 14) ((v.1 0 15).toNatClampNeg) pa) (v.1 36) (v.1 38) (v.1 0 15).toNatClampNeg ((v.1 0 15) + (1 : Int32)).toNatClampNeg (v.1 0 39).toNatClampNeg (v.1 0 39).toNatClampNeg [] [false] ((1 : Int)) [] := SGE.say1 (x := (v.1 0 15)) (y := ((v.1 0 15) + (1 : Int32))) sg1 (show 0 ≤ (v.1 0 15).toInt from (om_2ab3f6b9f5 zo)) (show ((v.1 0 15) + (1 : Int32)).toInt = (v.1 0 15).toInt + 1 from (om_5bccfc38cf z54)) (show (1 : Int) ≤ (1 : Int) from om_007919dbf5) (lenle (1 : Int) (by decide) om_007919dbf5) (ft_loc (by decide) (show 0 ≤ pa.toInt ∧ pa.toInt < (v.1 0 30).toInt from (om_0ed08f574b zg z40))) (by decide) (by decide)
    refine W.widen (k := 0) (n := 0) (Nat.le_refl _) (Nat.le_refl _) ?_
    refine lv_pop hx hb dX13_fetch_26 rfl ?_
    refine lv_goto (tgt := 76) hx hb dX13_fetch_27 (by decide) ?_
    exact W.vret hx hb hr (fun t ht9 hW => ⟨⟨(wA (wA (wA (wA (wA v 11 ((v.1 0 12).toNatClampNeg) r46) 0 12 ((v.1 0 12) + (1 : Int32))) 13 ((v.1 0 15).toNatClampNeg) (1 : Int32)) 14 ((v.1 0 15).toNatClampNeg) pa) 0 15 ((v.1 0 15) + (1 : Int32))), rfl, ⟨(FG.f (FG.a (FG.a (FG.f (FG.a (FG.rf _) ((v.1 0 12).toNatClampNeg) r46 (by decide) (by decide)) ((v.1 0 12) + (1 : Int32)) (by decide)) ((v.1 0 15).toNatClampNeg) (1 : Int32) (by decide) (by decide)) ((v.1 0 15).toNatClampNeg) pa (by decide) (by decide)) ((v.1 0 15) + (1 : Int32)) (by decide)), ⟨zw, zo, zf, zg, (Or.inr (⟨z40, r43, ex41, r46, ex44, rfl⟩))⟩, (show (v.1 0 12).toInt ≤ ((v.1 0 12) + (1 : Int32)).toInt ∧ ((v.1 0 12) + (1 : Int32)).toInt ≤ (v.1 0 12).toInt + 2 from (om_94fe09417a z50)), (show ((v.1 0 15) + (1 : Int32)).toInt = (v.1 0 15).toInt + 1 from (om_5bccfc38cf z54)), (show (v.1 0 43).toInt ≤ (v.1 0 43).toInt ∧ (v.1 0 43).toInt ≤ (v.1 0 43).toInt + 2 from om_798cb3402e), (fun (j9 : Nat) hj9 => (pk_un3 (a := (v.1 0 12).toInt) rfl (om_4842074e86 zw) (om_4fe904e9bf hj9))), (fun (j9 : Nat) hj9 => (pk_un3 (a := (v.1 0 15).toInt) rfl (om_2ab3f6b9f5 zo) (om_4fe904e9bf hj9))), (fun (j9 : Nat) hj9 => (pk_un3 (a := (v.1 0 15).toInt) rfl (om_2ab3f6b9f5 zo) (om_4fe904e9bf hj9))), (AR.o (AR.o (AR.o (AR.o (AR.o a40 (by decide)) (by decide)) (by decide)) (by decide)) (by decide)), (FX.o (FX.o (FX.o (FX.o (FX.o fx (by decide) (by decide)) (by decide) (by decide)) (by decide) (by decide)) (by decide) (by decide)) (by decide) (by decide)), (fun hiv => (IV.o (IV.o (IV.o (IV.o (IV.o hiv (by decide)) (by decide)) (by decide)) (by decide)) (by decide))), (SGE.mono (SGE.setB sg55 rfl) (show (1 : Int) ≤ (1 : Int) from om_007919dbf5))⟩, by rw [ht9]; exact hP, hD⟩, hS.F ht9⟩) hS.2.2 dX13_fetch_76
theorem om_1701efd4fc {x0 x1 x2 x3 : Int} (h0 : (0 ≤ x0 ∨ (0 ≤ x1 ∧ x1 < x2)) ∧ x0 < x3 ∧ x2 ≤ 60) (h1 : x0 < (0 : Int)) : (2 : Int) = 5 ∨ (0 ≤ x1 ∧ x1 < 60) := by omega
set_option maxHeartbeats 4000000 in
set_option maxRecDepth 100000 in
theorem c_m_store (l : Launch) (dC : Nat → ClassId) (dI : Nat → Nat → Nat) (cI cB cZ cJ cR : ClassId) (tb : Nat → Nat) (sz : Nat) (ad : Nat → Nat) (N : Nat) (v : MS) (pa : Int32) (pb : Int32) (zw : 0 ≤ (v.1 0 12).toInt ∧ (v.1 0 12).toInt ≤ 23980) (zo : 0 ≤ (v.1 0 15).toInt ∧ (v.1 0 15).toInt ≤ 15980) (zf : 0 ≤ (v.1 0 43).toInt ∧ (v.1 0 43).toInt ≤ 23980) (zg : (0 ≤ pa.toInt ∨ (0 ≤ pb.toInt ∧ pb.toInt < (v.1 0 27).toInt)) ∧ pa.toInt < (v.1 0 30).toInt ∧ (v.1 0 27).toInt ≤ 60) (a40 : AR 40 0 23999 v) (fx : FX v) (gf : GF v) : Met l yX13_store (Cond.code yX13_store cX13_store 3 none :: tw_W) ({ frames := 1, cells := 0, slots := 0, locals := 23 }) (pc_ (dC, dI) (tyS cI cB cZ cJ cR) tb (mW ad N cI cZ cJ v) sz [.ref (ad 0), .int pa, .int pb]) (qv_ (dC, dI) (mW ad N cI cZ cJ v) sz (fun (u : MS) => FG [12, 15, 43] [0, 11, 13, 14, 40, 41, 42] v u ∧ (Q_m_store v pa pb u) ∧ ((v.1 0 12).toInt ≤ (u.1 0 12).toInt ∧ (u.1 0 12).toInt ≤ (v.1 0 12).toInt + 2) ∧ ((u.1 0 15).toInt = (v.1 0 15).toInt + 1) ∧ ((v.1 0 43).toInt ≤ (u.1 0 43).toInt ∧ (u.1 0 43).toInt ≤ (v.1 0 43).toInt + 2) ∧ (∀ j : Nat, (j : Int) < (v.1 0 12).toInt → (u.1 11) j = (v.1 11) j) ∧ (∀ j : Nat, (j : Int) < (v.1 0 15).toInt → (u.1 13) j = (v.1 13) j) ∧ (∀ j : Nat, (j : Int) < (v.1 0 15).toInt → (u.1 14) j = (v.1 14) j) ∧ (AR 40 0 23999 u) ∧ (FX u) ∧ (IV v → IV u) ∧ (SGE (v.1 0 30).toInt (v.1 0 28).toInt (v.1 0 27).toInt (u.1 13) (u.1 14) (u.1 36) (u.1 38) (v.1 0 15).toNatClampNeg (u.1 0 15).toNatClampNeg (v.1 0 39).toNatClampNeg (u.1 0 39).toNatClampNeg [false] [false] ((1 : Int)) [])) (fun (u : MS) => (mW ad N cI cZ cJ u))) 0 0 (va_A (mW ad N cI cZ cJ v) sz) := by
  refine Met.ofW (cc := cX13_store) (maxL := 3) (ret := none) (by decide) rfl ?_
  intro p e s m args below meth c s₁ B hml hv
  obtain ⟨rfl, hsz, hP, hKK, hD0, hFx⟩ := hv
  have hK := hKK.1
  have hx := B.exec
  have hb := B.bytes
  have hr := B.returns
  have ht : ∀ w ∈ tw_W, w.before _ s = true := fun w h => atoms_spec (ws := Cond.code yX13_store cX13_store 3 none :: tw_W) B.pre w (List.mem_cons_of_mem _ h)
  have hown : s.vm.findClass RX13 = some m.cls := findClass_of_methodNamed B.named
  have hlocks := B.notSynchronized
  subst hsz
  unfold qv_
  have hD := hD0.self (sz := s.heap.size)
  generalize hAe : va_A (mW ad N cI cZ cJ v) s.heap.size = A at hD hFx ⊢
  have hA : ∀ q : Nat, s.heap.size ≤ q → A q := fun q h => by rw [← hAe]; exact Or.inr h
  have hS : va_S A s.heap s.heap [] := va_S.rf
  have hl := lv_entry ([.ref (ad 0), .int pa, .int pb]) (n := 3) (Nat.le_of_ble_eq_true rfl)
  rw [lg_entry_eq]
  generalize (lg_sl ([.ref (ad 0), .int pa, .int pb]) ++ List.replicate (3 - (lg_sl ([.ref (ad 0), .int pa, .int pb])).length) Slot.unset).toArray = ls at hl ⊢
  have hl : lv_has ls 3 [(0, .ref (ad 0)), (1, .int pa), (2, .int pb)] := hl
  have sg1 : SGE (v.1 0 30).toInt (v.1 0 28).toInt (v.1 0 27).toInt (v.1 13) (v.1 14) (v.1 36) (v.1 38) (v.1 0 15).toNatClampNeg (v.1 0 15).toNatClampNeg (v.1 0 39).toNatClampNeg (v.1 0 39).toNatClampNeg [false] [false] ((1 : Int)) [] := SGE.nil rfl (lenle (1 : Int) (by decide) om_007919dbf5)
  refine lv_iload_n hx hb dX13_store_0 rfl (lv_at hl 1 rfl) ?_
  refine lv_if_lt (tgt := 30) hx hb dX13_store_1 (by decide) (fun h2 => ?_) (fun h2 => ?_)
  · have z3 : pa.toInt < (0 : Int) := lt_z rfl (show (0 : Int32).toInt = (0 : Int) by decide) h2
    refine lv_aload_n hx hb dX13_store_30 rfl (lv_at hl 0 rfl) ?_
    refine lv_aload_n hx hb dX13_store_31 rfl (lv_at hl 0 rfl) ?_
    refine lv_bipush (v := 6) hx hb dX13_store_32 (by decide) ?_
    refine lv_iconst (v := 0) hx hb dX13_store_34 (by decide) ?_
    refine cu_s (mW_nd _ _ _ _ _ _) (rn_S (n := 2) (As := [.int 6, .int 0]) (rest := [.ref (ad 0), .ref (ad 0)]) hx hb hml hown ht hKK hFx hP hD hS hA (c_m_lui l dC dI cI cB cZ cJ cR tb s.heap.size (6 : Int32) (0 : Int32) ) tw_61 tw_62 (by decide +kernel) rfl rfl ⟨Nat.le_of_ble_eq_true rfl, Nat.le_of_ble_eq_true rfl⟩ [] rfl rfl rfl hl.1 rfl (Nat.le_of_ble_eq_true rfl) dX13_store_35 ⟨Nat.le_of_ble_eq_true rfl, Nat.le_of_ble_eq_true rfl⟩) hP hD hS hA (fun r6 H locs hw4 hP hD hS => ?_)
    have ex4 := hw4
    refine W.widen (k := 0) (n := 0) (Nat.le_refl _) (Nat.le_refl _) ?_
    refine cu_i (rn_V (n := 1) (As := [.int r6]) (rest := [.ref (ad 0)]) hx hb hml hown ht hKK hFx hP hD hS hA (c_m_emit l dC dI cI cB cZ cJ cR tb H.size ad N v r6 (show 0 ≤ (v.1 0 12).toInt ∧ (v.1 0 12).toInt < 24000 from (om_bd95b2e5c4 zw))) tw_8 tw_9 (by decide +kernel) rfl rfl ⟨Nat.le_of_ble_eq_true rfl, Nat.le_of_ble_eq_true rfl⟩ (List.range (mW ad N cI cZ cJ v).length) (rg_map _) (mW_nd _ _ _ _ _ _) rfl rfl rfl rfl hl.1 rfl (Nat.le_of_ble_eq_true rfl) dX13_store_38 ⟨Nat.le_of_ble_eq_true rfl, Nat.le_of_ble_eq_true rfl⟩) hP hD hS hA (fun r9 u8 H locs hw7 hP hD hS => ?_)
    obtain ⟨rfl, rfl⟩ := hw7
    have z10 : ((v.1 0 12) + (1 : Int32)).toInt = ((v.1 0 12).toInt) + (1 : Int) := add_z rfl (show (1 : Int32).toInt = (1 : Int) by decide) (om_6650f37474 zw) (om_8ddb6642ab zw)
    have hP : va_P (dC, dI) vwCl (mW ad N cI cZ cJ (wA (wA v 11 ((v.1 0 12).toNatClampNeg) r6) 0 12 ((v.1 0 12) + (1 : Int32)))) H := hP
    have hD : va_D A (mW ad N cI cZ cJ (wA (wA v 11 ((v.1 0 12).toNatClampNeg) r6) 0 12 ((v.1 0 12) + (1 : Int32)))) := hD
    refine tp_i (y := (v.1 0 12)) (rfl) ?_
    refine W.widen (k := 0) (n := 0) (Nat.le_refl _) (Nat.le_refl _) ?_
    refine lv_iload_n hx hb dX13_store_41 rfl (lv_at hl 2 rfl) ?_
    refine lv_iconst (v := 0) hx hb dX13_store_42 (by decide) ?_
    refine cu_v (rn_V (n := 3) (As := [.int (v.1 0 12), .int pb, .int 0]) (rest := []) hx hb hml hown ht hKK hFx hP hD hS hA (c_m_fix l dC dI cI cB cZ cJ cR tb H.size ad N (wA (wA v 11 ((v.1 0 12).toNatClampNeg) r6) 0 12 ((v.1 0 12) + (1 : Int32))) (v.1 0 12) pb (0 : Int32) (show 0 ≤ (v.1 0 43).toInt ∧ (v.1 0 43).toInt < 24000 from (om_bd95b2e5c4 zf)) (show 0 ≤ (v.1 0 12).toInt ∧ (v.1 0 12).toInt < 24000 from (om_bd95b2e5c4 zw)) (show (0 : Int) = 5 ∨ (0 ≤ pb.toInt ∧ pb.toInt < 60) from (om_246a963eff zg z3)) (show AR 40 0 23999 (wA (wA v 11 ((v.1 0 12).toNatClampNeg) r6) 0 12 ((v.1 0 12) + (1 : Int32))) from (AR.o (AR.o a40 (by decide)) (by decide))) (show FX (wA (wA v 11 ((v.1 0 12).toNatClampNeg) r6) 0 12 ((v.1 0 12) + (1 : Int32))) from (FX.o (FX.o fx (by decide) (by decide)) (by decide) (by decide)))) tw_69 tw_70 (by decide +kernel) rfl rfl ⟨Nat.le_of_ble_eq_true rfl, Nat.le_of_ble_eq_true rfl⟩ (List.range (mW ad N cI cZ cJ (wA (wA v 11 ((v.1 0 12).toNatClampNeg) r6) 0 12 ((v.1 0 12) + (1 : Int32)))).length) (rg_map _) (mW_nd _ _ _ _ _ _) rfl rfl rfl rfl hl.1 rfl (Nat.le_of_ble_eq_true rfl) dX13_store_43 ⟨Nat.le_of_ble_eq_true rfl, Nat.le_of_ble_eq_true rfl⟩) hP hD hS hA (fun u12 H locs hw11 hP hD hS => ?_)
    obtain ⟨fr11, ex11, pf11, a4011, fx11, iv11⟩ := hw11
    have pf11 : (u12.1 0 43).toInt = (v.1 0 43).toInt + 1 := pf11
    have a4011 : AR 40 0 23999 u12 := a4011
    have fx11 : FX u12 := fx11
    have iv11 : IV (wA (wA v 11 ((v.1 0 12).toNatClampNeg) r6) 0 12 ((v.1 0 12) + (1 : Int32))) → IV u12 := iv11
    have sg14 : SGE (v.1 0 30).toInt (v.1 0 28).toInt (v.1 0 27).toInt (u12.1 13) (u12.1 14) (u12.1 36) (u12.1 38) (v.1 0 15).toNatClampNeg (u12.1 0 15).toNatClampNeg (v.1 0 39).toNatClampNeg (u12.1 0 39).toNatClampNeg [false] [false] ((1 : Int)) [] := SGE.to sg1 (fun j9 _ => congrFun (fr11.2.2 13 (by decide)) j9) (fun j9 _ => congrFun (fr11.2.2 14 (by decide)) j9) (fun j9 _ _ => congrFun (fr11.2.2 36 (by decide)) j9) (fun j9 _ _ => congrFun (fr11.2.2 38 (by decide)) j9) (congrArg Int32.toNatClampNeg (fr11.2.1 15 (by decide))) (congrArg Int32.toNatClampNeg (fr11.2.1 39 (by decide))) (Int.le_refl _)
    refine W.widen (k := 0) (n := 0) (Nat.le_refl _) (Nat.le_refl _) ?_
    refine lv_aload_n hx hb dX13_store_46 rfl (lv_at hl 0 rfl) ?_
    refine lv_aload_n hx hb dX13_store_47 rfl (lv_at hl 0 rfl) ?_
    refine lv_bipush (v := 10) hx hb dX13_store_48 (by decide) ?_
    refine lv_iconst (v := 0) hx hb dX13_store_50 (by decide) ?_
    refine lv_bipush (v := 6) hx hb dX13_store_51 (by decide) ?_
    refine cu_s (mW_nd _ _ _ _ _ _) (rn_S (n := 3) (As := [.int 10, .int 0, .int 6]) (rest := [.ref (ad 0), .ref (ad 0)]) hx hb hml hown ht hKK hFx hP hD hS hA (c_m_sw l dC dI cI cB cZ cJ cR tb H.size (10 : Int32) (0 : Int32) (6 : Int32) ) tw_76 tw_77 (by decide +kernel) rfl rfl ⟨Nat.le_of_ble_eq_true rfl, Nat.le_of_ble_eq_true rfl⟩ [] rfl rfl rfl hl.1 rfl (Nat.le_of_ble_eq_true rfl) dX13_store_53 ⟨Nat.le_of_ble_eq_true rfl, Nat.le_of_ble_eq_true rfl⟩) hP hD hS hA (fun r17 H locs hw15 hP hD hS => ?_)
    have ex15 := hw15
    refine W.widen (k := 0) (n := 0) (Nat.le_refl _) (Nat.le_refl _) ?_
    have q18 : (u12.1 0 12).toInt = ((v.1 0 12) + (1 : Int32)).toInt := congrArg Int32.toInt ((fr11.2.1 12 (by decide)).trans (show (wA (wA v 11 ((v.1 0 12).toNatClampNeg) r6) 0 12 ((v.1 0 12) + (1 : Int32))).1 0 12 = ((v.1 0 12) + (1 : Int32)) by rfl))
    refine cu_i (rn_V (n := 1) (As := [.int r17]) (rest := [.ref (ad 0)]) hx hb hml hown ht hKK hFx hP hD hS hA (c_m_emit l dC dI cI cB cZ cJ cR tb H.size ad N u12 r17 (show 0 ≤ (u12.1 0 12).toInt ∧ (u12.1 0 12).toInt < 24000 from (om_0736977d3d zw z10 q18))) tw_8 tw_9 (by decide +kernel) rfl rfl ⟨Nat.le_of_ble_eq_true rfl, Nat.le_of_ble_eq_true rfl⟩ (List.range (mW ad N cI cZ cJ u12).length) (rg_map _) (mW_nd _ _ _ _ _ _) rfl rfl rfl rfl hl.1 rfl (Nat.le_of_ble_eq_true rfl) dX13_store_56 ⟨Nat.le_of_ble_eq_true rfl, Nat.le_of_ble_eq_true rfl⟩) hP hD hS hA (fun r21 u20 H locs hw19 hP hD hS => ?_)
    obtain ⟨rfl, rfl⟩ := hw19
    have z22 : ((u12.1 0 12) + (1 : Int32)).toInt = ((u12.1 0 12).toInt) + (1 : Int) := add_z rfl (show (1 : Int32).toInt = (1 : Int) by decide) (om_32208a3540 zw z10 q18) (om_33e320e031 zw z10 q18)
    have hP : va_P (dC, dI) vwCl (mW ad N cI cZ cJ (wA (wA u12 11 ((u12.1 0 12).toNatClampNeg) r17) 0 12 ((u12.1 0 12) + (1 : Int32)))) H := hP
    have hD : va_D A (mW ad N cI cZ cJ (wA (wA u12 11 ((u12.1 0 12).toNatClampNeg) r17) 0 12 ((u12.1 0 12) + (1 : Int32)))) := hD
    refine tp_i (y := (u12.1 0 12)) (rfl) ?_
    refine W.widen (k := 0) (n := 0) (Nat.le_refl _) (Nat.le_refl _) ?_
    refine lv_iload_n hx hb dX13_store_59 rfl (lv_at hl 2 rfl) ?_
    refine lv_iconst (v := 2) hx hb dX13_store_60 (by decide) ?_
    refine cu_v (rn_V (n := 3) (As := [.int (u12.1 0 12), .int pb, .int 2]) (rest := []) hx hb hml hown ht hKK hFx hP hD hS hA (c_m_fix l dC dI cI cB cZ cJ cR tb H.size ad N (wA (wA u12 11 ((u12.1 0 12).toNatClampNeg) r17) 0 12 ((u12.1 0 12) + (1 : Int32))) (u12.1 0 12) pb (2 : Int32) (show 0 ≤ (u12.1 0 43).toInt ∧ (u12.1 0 43).toInt < 24000 from (om_ad52983bda zf pf11)) (show 0 ≤ (u12.1 0 12).toInt ∧ (u12.1 0 12).toInt < 24000 from (om_0736977d3d zw z10 q18)) (show (2 : Int) = 5 ∨ (0 ≤ pb.toInt ∧ pb.toInt < 60) from (om_1701efd4fc zg z3)) (show AR 40 0 23999 (wA (wA u12 11 ((u12.1 0 12).toNatClampNeg) r17) 0 12 ((u12.1 0 12) + (1 : Int32))) from (AR.o (AR.o a4011 (by decide)) (by decide))) (show FX (wA (wA u12 11 ((u12.1 0 12).toNatClampNeg) r17) 0 12 ((u12.1 0 12) + (1 : Int32))) from (FX.o (FX.o fx11 (by decide) (by decide)) (by decide) (by decide)))) tw_69 tw_70 (by decide +kernel) rfl rfl ⟨Nat.le_of_ble_eq_true rfl, Nat.le_of_ble_eq_true rfl⟩ (List.range (mW ad N cI cZ cJ (wA (wA u12 11 ((u12.1 0 12).toNatClampNeg) r17) 0 12 ((u12.1 0 12) + (1 : Int32)))).length) (rg_map _) (mW_nd _ _ _ _ _ _) rfl rfl rfl rfl hl.1 rfl (Nat.le_of_ble_eq_true rfl) dX13_store_61 ⟨Nat.le_of_ble_eq_true rfl, Nat.le_of_ble_eq_true rfl⟩) hP hD hS hA (fun u24 H locs hw23 hP hD hS => ?_)
    obtain ⟨fr23, ex23, pf23, a4023, fx23, iv23⟩ := hw23
    have pf23 : (u24.1 0 43).toInt = (u12.1 0 43).toInt + 1 := pf23
    have a4023 : AR 40 0 23999 u24 := a4023
    have fx23 : FX u24 := fx23
    have iv23 : IV (wA (wA u12 11 ((u12.1 0 12).toNatClampNeg) r17) 0 12 ((u12.1 0 12) + (1 : Int32))) → IV u24 := iv23
    have sg26 : SGE (v.1 0 30).toInt (v.1 0 28).toInt (v.1 0 27).toInt (u24.1 13) (u24.1 14) (u24.1 36) (u24.1 38) (v.1 0 15).toNatClampNeg (u24.1 0 15).toNatClampNeg (v.1 0 39).toNatClampNeg (u24.1 0 39).toNatClampNeg [false] [false] ((1 : Int)) [] := SGE.to sg14 (fun j9 _ => congrFun (fr23.2.2 13 (by decide)) j9) (fun j9 _ => congrFun (fr23.2.2 14 (by decide)) j9) (fun j9 _ _ => congrFun (fr23.2.2 36 (by decide)) j9) (fun j9 _ _ => congrFun (fr23.2.2 38 (by decide)) j9) (congrArg Int32.toNatClampNeg (fr23.2.1 15 (by decide))) (congrArg Int32.toNatClampNeg (fr23.2.1 39 (by decide))) (Int.le_refl _)
    refine W.widen (k := 0) (n := 0) (Nat.le_refl _) (Nat.le_refl _) ?_
    refine lv_aload_n hx hb dX13_store_64 rfl (lv_at hl 0 rfl) ?_
    refine lv_iconst (v := 4) hx hb dX13_store_65 (by decide) ?_
    refine lv_aload_n hx hb dX13_store_66 rfl (lv_at hl 0 rfl) ?_
    refine va_get (D := (dC, dI)) (ci := 16) (fs := mF ad u24) (v := .ref (ad 25)) (C := RX13) (T := TX13) (N := 124) hx hb ht itX13 hown hK hP 0 rfl rfl 25 (by decide) (ht _ tw_73) (fun _ h9 => h9) rfl dX13_store_67 ?_
    refine lv_iload_n hx hb dX13_store_70 rfl (lv_at hl 2 rfl) ?_
    refine va_iald (D := (dC, dI)) (f := (u24.1 25)) hx hb hK hP 19 0 rfl rfl (in_y (a := pb.toInt) (b := 60) rfl (om_6eab8eb682 zg z3) (om_8363739f4d zg z3) rfl) dX13_store_71 ?_
    have q28 : (u12.1 0 27).toInt = (v.1 0 27).toInt := congrArg Int32.toInt ((fr11.2.1 27 (by decide)).trans (show (wA (wA v 11 ((v.1 0 12).toNatClampNeg) r6) 0 12 ((v.1 0 12) + (1 : Int32))).1 0 27 = (v.1 0 27) by rfl))
    have q29 : (u24.1 0 27).toInt = (u12.1 0 27).toInt := congrArg Int32.toInt ((fr23.2.1 27 (by decide)).trans (show (wA (wA u12 11 ((u12.1 0 12).toNatClampNeg) r17) 0 12 ((u12.1 0 12) + (1 : Int32))).1 0 27 = (u12.1 0 27) by rfl))
    have gz27 : 0 ≤ ((u24.1 25) pb.toNatClampNeg).toInt ∧ 1 ≤ ((u24.1 24) pb.toNatClampNeg).toInt ∧ ((u24.1 25) pb.toNatClampNeg).toInt + ((u24.1 24) pb.toNatClampNeg).toInt ≤ (u24.1 0 28).toInt := GF.at (v := u24) (x := pb) (GF.fr (fl := [43]) (al := [0, 40, 41, 42]) fr23 (by decide) (by decide) (GF.of (GF.o (GF.fr (fl := [43]) (al := [0, 40, 41, 42]) fr11 (by decide) (by decide) (GF.of (GF.o gf (by decide)) (by decide))) (by decide)) (by decide))) rfl (om_6eab8eb682 zg z3) (show pb.toInt < (u24.1 0 27).toInt from (om_f695bc8f0e zg z3 q28 q29))
    have q30 : (u12.1 0 15).toInt = (v.1 0 15).toInt := congrArg Int32.toInt ((fr11.2.1 15 (by decide)).trans (show (wA (wA v 11 ((v.1 0 12).toNatClampNeg) r6) 0 12 ((v.1 0 12) + (1 : Int32))).1 0 15 = (v.1 0 15) by rfl))
    have q31 : (u24.1 0 15).toInt = (u12.1 0 15).toInt := congrArg Int32.toInt ((fr23.2.1 15 (by decide)).trans (show (wA (wA u12 11 ((u12.1 0 12).toNatClampNeg) r17) 0 12 ((u12.1 0 12) + (1 : Int32))).1 0 15 = (u12.1 0 15) by rfl))
    refine cu_i (rn_V (n := 2) (As := [.int 4, .int ((u24.1 25) pb.toNatClampNeg)]) (rest := []) hx hb hml hown ht hKK hFx hP hD hS hA (c_m_say l dC dI cI cB cZ cJ cR tb H.size ad N u24 (4 : Int32) ((u24.1 25) pb.toNatClampNeg) (show 0 ≤ (u24.1 0 15).toInt ∧ (u24.1 0 15).toInt < 16000 from (om_11b92a7bac zo q30 q31))) tw_59 tw_60 (by decide +kernel) rfl rfl ⟨Nat.le_of_ble_eq_true rfl, Nat.le_of_ble_eq_true rfl⟩ (List.range (mW ad N cI cZ cJ u24).length) (rg_map _) (mW_nd _ _ _ _ _ _) rfl rfl rfl rfl hl.1 rfl (Nat.le_of_ble_eq_true rfl) dX13_store_72 ⟨Nat.le_of_ble_eq_true rfl, Nat.le_of_ble_eq_true rfl⟩) hP hD hS hA (fun r34 u33 H locs hw32 hP hD hS => ?_)
    obtain ⟨rfl, rfl⟩ := hw32
    have z35 : ((u24.1 0 15) + (1 : Int32)).toInt = ((u24.1 0 15).toInt) + (1 : Int) := add_z rfl (show (1 : Int32).toInt = (1 : Int) by decide) (om_1db8b32f2a zo q30 q31) (om_1d362dd496 zo q30 q31)
    have hP : va_P (dC, dI) vwCl (mW ad N cI cZ cJ (wA (wA (wA u24 13 ((u24.1 0 15).toNatClampNeg) (4 : Int32)) 14 ((u24.1 0 15).toNatClampNeg) ((u24.1 25) pb.toNatClampNeg)) 0 15 ((u24.1 0 15) + (1 : Int32)))) H := hP
    have hD : va_D A (mW ad N cI cZ cJ (wA (wA (wA u24 13 ((u24.1 0 15).toNatClampNeg) (4 : Int32)) 14 ((u24.1 0 15).toNatClampNeg) ((u24.1 25) pb.toNatClampNeg)) 0 15 ((u24.1 0 15) + (1 : Int32)))) := hD
    refine tp_i (y := (u24.1 0 15)) (rfl) ?_
    have q36 : (u12.1 0 28).toInt = (v.1 0 28).toInt := congrArg Int32.toInt ((fr11.2.1 28 (by decide)).trans (show (wA (wA v 11 ((v.1 0 12).toNatClampNeg) r6) 0 12 ((v.1 0 12) + (1 : Int32))).1 0 28 = (v.1 0 28) by rfl))
    have q37 : (u24.1 0 28).toInt = (u12.1 0 28).toInt := congrArg Int32.toInt ((fr23.2.1 28 (by decide)).trans (show (wA (wA u12 11 ((u12.1 0 12).toNatClampNeg) r17) 0 12 ((u12.1 0 12) + (1 : Int32))).1 0 28 = (u12.1 0 28) by rfl))
    have sg38 : SGE (v.1 0 30).toInt (v.1 0 28).toInt (v.1 0 27).toInt (upd (u24.1 13) ((u24.1 0 15).toNatClampNeg) (4 : Int32)) (upd (u24.1 14) ((u24.1 0 15).toNatClampNeg) ((u24.1 25) pb.toNatClampNeg)) (u24.1 36) (u24.1 38) (v.1 0 15).toNatClampNeg ((u24.1 0 15) + (1 : Int32)).toNatClampNeg (v.1 0 39).toNatClampNeg (u24.1 0 39).toNatClampNeg [false] [false] ((1 : Int)) [] := SGE.say1 (x := (u24.1 0 15)) (y := ((u24.1 0 15) + (1 : Int32))) sg26 (show 0 ≤ (u24.1 0 15).toInt from (om_256c01d5aa zo q30 q31)) (show ((u24.1 0 15) + (1 : Int32)).toInt = (u24.1 0 15).toInt + 1 from (om_5bccfc38cf z35)) (show (1 : Int) ≤ (1 : Int) from om_007919dbf5) (lenle (1 : Int) (by decide) om_007919dbf5) (ft_sglo (by decide) (show 0 ≤ ((u24.1 25) pb.toNatClampNeg).toInt ∧ ((u24.1 25) pb.toNatClampNeg).toInt < (v.1 0 28).toInt from (om_333b46aa40 q36 q37 gz27))) (by decide) (by decide)
    refine W.widen (k := 0) (n := 0) (Nat.le_refl _) (Nat.le_refl _) ?_
    refine lv_pop hx hb dX13_store_75 rfl ?_
    have q39 : (u24.1 0 12).toInt = ((u12.1 0 12) + (1 : Int32)).toInt := congrArg Int32.toInt ((fr23.2.1 12 (by decide)).trans (show (wA (wA u12 11 ((u12.1 0 12).toNatClampNeg) r17) 0 12 ((u12.1 0 12) + (1 : Int32))).1 0 12 = ((u12.1 0 12) + (1 : Int32)) by rfl))
    exact W.vret hx hb hr (fun t ht9 hW => ⟨⟨(wA (wA (wA u24 13 ((u24.1 0 15).toNatClampNeg) (4 : Int32)) 14 ((u24.1 0 15).toNatClampNeg) ((u24.1 25) pb.toNatClampNeg)) 0 15 ((u24.1 0 15) + (1 : Int32))), rfl, ⟨(FG.f (FG.a (FG.a (FG.tr (FG.f (FG.a (FG.tr (FG.f (FG.a (FG.rf _) ((v.1 0 12).toNatClampNeg) r6 (by decide) (by decide)) ((v.1 0 12) + (1 : Int32)) (by decide)) (FG.up fr11 (by decide) (by decide))) ((u12.1 0 12).toNatClampNeg) r17 (by decide) (by decide)) ((u12.1 0 12) + (1 : Int32)) (by decide)) (FG.up fr23 (by decide) (by decide))) ((u24.1 0 15).toNatClampNeg) (4 : Int32) (by decide) (by decide)) ((u24.1 0 15).toNatClampNeg) ((u24.1 25) pb.toNatClampNeg) (by decide) (by decide)) ((u24.1 0 15) + (1 : Int32)) (by decide)), ⟨zw, zo, zf, zg, (Or.inl ⟨z3, r6, ex4, u12, ex11, ⟨fr11, pf11⟩, r17, ex15, u24, ex23, ⟨fr23, pf23⟩, rfl⟩)⟩, (show (v.1 0 12).toInt ≤ (u24.1 0 12).toInt ∧ (u24.1 0 12).toInt ≤ (v.1 0 12).toInt + 2 from (om_e2e0f21706 z10 q18 z22 q39)), (show ((u24.1 0 15) + (1 : Int32)).toInt = (v.1 0 15).toInt + 1 from (om_04bc2837ae q30 q31 z35)), (show (v.1 0 43).toInt ≤ (u24.1 0 43).toInt ∧ (u24.1 0 43).toInt ≤ (v.1 0 43).toInt + 2 from (om_44baea2434 pf11 pf23)), (fun (j9 : Nat) hj9 => (Eq.trans (congrFun (fr23.2.2 11 (by decide)) j9) (Eq.trans (pk_un3 (a := (u12.1 0 12).toInt) rfl (om_33c02db227 zw z10 q18) (om_814b6693b2 z10 q18 hj9)) (Eq.trans (congrFun (fr11.2.2 11 (by decide)) j9) (pk_un3 (a := (v.1 0 12).toInt) rfl (om_4842074e86 zw) (om_4fe904e9bf hj9)))))), (fun (j9 : Nat) hj9 => (Eq.trans (pk_un3 (a := (u24.1 0 15).toInt) rfl (om_256c01d5aa zo q30 q31) (om_2a5d4a8f22 q30 q31 hj9)) (Eq.trans (congrFun (fr23.2.2 13 (by decide)) j9) (congrFun (fr11.2.2 13 (by decide)) j9)))), (fun (j9 : Nat) hj9 => (Eq.trans (pk_un3 (a := (u24.1 0 15).toInt) rfl (om_256c01d5aa zo q30 q31) (om_2a5d4a8f22 q30 q31 hj9)) (Eq.trans (congrFun (fr23.2.2 14 (by decide)) j9) (congrFun (fr11.2.2 14 (by decide)) j9)))), (AR.o (AR.o (AR.o a4023 (by decide)) (by decide)) (by decide)), (FX.o (FX.o (FX.o fx23 (by decide) (by decide)) (by decide) (by decide)) (by decide) (by decide)), (fun hiv => (IV.o (IV.o (IV.o (iv23 (IV.o (IV.o (iv11 (IV.o (IV.o hiv (by decide)) (by decide))) (by decide)) (by decide))) (by decide)) (by decide)) (by decide))), (SGE.mono (SGE.setB sg38 rfl) (show (1 : Int) ≤ (1 : Int) from om_007919dbf5))⟩, by rw [ht9]; exact hP, hD⟩, hS.F ht9⟩) hS.2.2 dX13_store_76
  · have z40 : (0 : Int) ≤ pa.toInt := nlt_z rfl (show (0 : Int32).toInt = (0 : Int) by decide) h2
    refine lv_aload_n hx hb dX13_store_4 rfl (lv_at hl 0 rfl) ?_
    refine lv_bipush (v := 10) hx hb dX13_store_5 (by decide) ?_
    refine lv_iload_n hx hb dX13_store_7 rfl (lv_at hl 1 rfl) ?_
    refine cu_s (mW_nd _ _ _ _ _ _) (rn_S (n := 1) (As := [.int pa]) (rest := [.int 10, .ref (ad 0)]) hx hb hml hown ht hKK hFx hP hD hS hA (c_m_slotAt l dC dI cI cB cZ cJ cR tb s.heap.size pa ) tw_74 tw_75 (by decide +kernel) rfl rfl ⟨Nat.le_of_ble_eq_true rfl, Nat.le_of_ble_eq_true rfl⟩ [] rfl rfl rfl hl.1 rfl (Nat.le_of_ble_eq_true rfl) dX13_store_8 ⟨Nat.le_of_ble_eq_true rfl, Nat.le_of_ble_eq_true rfl⟩) hP hD hS hA (fun r43 H locs hw41 hP hD hS => ?_)
    have ex41 := hw41
    refine W.widen (k := 0) (n := 0) (Nat.le_refl _) (Nat.le_refl _) ?_
    refine lv_bipush (v := 8) hx hb dX13_store_11 (by decide) ?_
    refine cu_s (mW_nd _ _ _ _ _ _) (rn_S (n := 3) (As := [.int 10, .int r43, .int 8]) (rest := [.ref (ad 0)]) hx hb hml hown ht hKK hFx hP hD hS hA (c_m_sw l dC dI cI cB cZ cJ cR tb H.size (10 : Int32) r43 (8 : Int32) ) tw_76 tw_77 (by decide +kernel) rfl rfl ⟨Nat.le_of_ble_eq_true rfl, Nat.le_of_ble_eq_true rfl⟩ [] rfl rfl rfl hl.1 rfl (Nat.le_of_ble_eq_true rfl) dX13_store_13 ⟨Nat.le_of_ble_eq_true rfl, Nat.le_of_ble_eq_true rfl⟩) hP hD hS hA (fun r46 H locs hw44 hP hD hS => ?_)
    have ex44 := hw44
    refine W.widen (k := 0) (n := 0) (Nat.le_refl _) (Nat.le_refl _) ?_
    refine cu_i (rn_V (n := 1) (As := [.int r46]) (rest := []) hx hb hml hown ht hKK hFx hP hD hS hA (c_m_emit l dC dI cI cB cZ cJ cR tb H.size ad N v r46 (show 0 ≤ (v.1 0 12).toInt ∧ (v.1 0 12).toInt < 24000 from (om_bd95b2e5c4 zw))) tw_8 tw_9 (by decide +kernel) rfl rfl ⟨Nat.le_of_ble_eq_true rfl, Nat.le_of_ble_eq_true rfl⟩ (List.range (mW ad N cI cZ cJ v).length) (rg_map _) (mW_nd _ _ _ _ _ _) rfl rfl rfl rfl hl.1 rfl (Nat.le_of_ble_eq_true rfl) dX13_store_16 ⟨Nat.le_of_ble_eq_true rfl, Nat.le_of_ble_eq_true rfl⟩) hP hD hS hA (fun r49 u48 H locs hw47 hP hD hS => ?_)
    obtain ⟨rfl, rfl⟩ := hw47
    have z50 : ((v.1 0 12) + (1 : Int32)).toInt = ((v.1 0 12).toInt) + (1 : Int) := add_z rfl (show (1 : Int32).toInt = (1 : Int) by decide) (om_6650f37474 zw) (om_8ddb6642ab zw)
    have hP : va_P (dC, dI) vwCl (mW ad N cI cZ cJ (wA (wA v 11 ((v.1 0 12).toNatClampNeg) r46) 0 12 ((v.1 0 12) + (1 : Int32)))) H := hP
    have hD : va_D A (mW ad N cI cZ cJ (wA (wA v 11 ((v.1 0 12).toNatClampNeg) r46) 0 12 ((v.1 0 12) + (1 : Int32)))) := hD
    refine tp_i (y := (v.1 0 12)) (rfl) ?_
    refine W.widen (k := 0) (n := 0) (Nat.le_refl _) (Nat.le_refl _) ?_
    refine lv_pop hx hb dX13_store_19 rfl ?_
    refine lv_aload_n hx hb dX13_store_20 rfl (lv_at hl 0 rfl) ?_
    refine lv_iconst (v := 2) hx hb dX13_store_21 (by decide) ?_
    refine lv_iload_n hx hb dX13_store_22 rfl (lv_at hl 1 rfl) ?_
    refine cu_i (rn_V (n := 2) (As := [.int 2, .int pa]) (rest := []) hx hb hml hown ht hKK hFx hP hD hS hA (c_m_say l dC dI cI cB cZ cJ cR tb H.size ad N (wA (wA v 11 ((v.1 0 12).toNatClampNeg) r46) 0 12 ((v.1 0 12) + (1 : Int32))) (2 : Int32) pa (show 0 ≤ (v.1 0 15).toInt ∧ (v.1 0 15).toInt < 16000 from (om_434853ee4d zo))) tw_59 tw_60 (by decide +kernel) rfl rfl ⟨Nat.le_of_ble_eq_true rfl, Nat.le_of_ble_eq_true rfl⟩ (List.range (mW ad N cI cZ cJ (wA (wA v 11 ((v.1 0 12).toNatClampNeg) r46) 0 12 ((v.1 0 12) + (1 : Int32)))).length) (rg_map _) (mW_nd _ _ _ _ _ _) rfl rfl rfl rfl hl.1 rfl (Nat.le_of_ble_eq_true rfl) dX13_store_23 ⟨Nat.le_of_ble_eq_true rfl, Nat.le_of_ble_eq_true rfl⟩) hP hD hS hA (fun r53 u52 H locs hw51 hP hD hS => ?_)
    obtain ⟨rfl, rfl⟩ := hw51
    have z54 : ((v.1 0 15) + (1 : Int32)).toInt = ((v.1 0 15).toInt) + (1 : Int) := add_z rfl (show (1 : Int32).toInt = (1 : Int) by decide) (om_725afa629b zo) (om_58344aeddd zo)
    have hP : va_P (dC, dI) vwCl (mW ad N cI cZ cJ (wA (wA (wA (wA (wA v 11 ((v.1 0 12).toNatClampNeg) r46) 0 12 ((v.1 0 12) + (1 : Int32))) 13 ((v.1 0 15).toNatClampNeg) (2 : Int32)) 14 ((v.1 0 15).toNatClampNeg) pa) 0 15 ((v.1 0 15) + (1 : Int32)))) H := hP
    have hD : va_D A (mW ad N cI cZ cJ (wA (wA (wA (wA (wA v 11 ((v.1 0 12).toNatClampNeg) r46) 0 12 ((v.1 0 12) + (1 : Int32))) 13 ((v.1 0 15).toNatClampNeg) (2 : Int32)) 14 ((v.1 0 15).toNatClampNeg) pa) 0 15 ((v.1 0 15) + (1 : Int32)))) := hD
    refine tp_i (y := (v.1 0 15)) (rfl) ?_
    have sg55 : SGE (v.1 0 30).toInt (v.1 0 28).toInt (v.1 0 27).toInt (upd (v.1 13) ((v.1 0 15).toNatClampNeg) (2 : Int32)) (upd (v.1 14) ((v.1 0 15).toNatClampNeg) pa) (v.1 36) (v.1 38) (v.1 0 15).toNatClampNeg ((v.1 0 15) + (1 : Int32)).toNatClampNeg (v.1 0 39).toNatClampNeg (v.1 0 39).toNatClampNeg [false] [false] ((1 : Int)) [] := SGE.say1 (x := (v.1 0 15)) (y := ((v.1 0 15) + (1 : Int32))) sg1 (show 0 ≤ (v.1 0 15).toInt from (om_2ab3f6b9f5 zo)) (show ((v.1 0 15) + (1 : Int32)).toInt = (v.1 0 15).toInt + 1 from (om_5bccfc38cf z54)) (show (1 : Int) ≤ (1 : Int) from om_007919dbf5) (lenle (1 : Int) (by decide) om_007919dbf5) (ft_sloc (by decide) (show 0 ≤ pa.toInt ∧ pa.toInt < (v.1 0 30).toInt from (om_0ed08f574b zg z40))) (by decide) (by decide)
    refine W.widen (k := 0) (n := 0) (Nat.le_refl _) (Nat.le_refl _) ?_
    refine lv_pop hx hb dX13_store_26 rfl ?_
    refine lv_goto (tgt := 76) hx hb dX13_store_27 (by decide) ?_
    exact W.vret hx hb hr (fun t ht9 hW => ⟨⟨(wA (wA (wA (wA (wA v 11 ((v.1 0 12).toNatClampNeg) r46) 0 12 ((v.1 0 12) + (1 : Int32))) 13 ((v.1 0 15).toNatClampNeg) (2 : Int32)) 14 ((v.1 0 15).toNatClampNeg) pa) 0 15 ((v.1 0 15) + (1 : Int32))), rfl, ⟨(FG.f (FG.a (FG.a (FG.f (FG.a (FG.rf _) ((v.1 0 12).toNatClampNeg) r46 (by decide) (by decide)) ((v.1 0 12) + (1 : Int32)) (by decide)) ((v.1 0 15).toNatClampNeg) (2 : Int32) (by decide) (by decide)) ((v.1 0 15).toNatClampNeg) pa (by decide) (by decide)) ((v.1 0 15) + (1 : Int32)) (by decide)), ⟨zw, zo, zf, zg, (Or.inr (⟨z40, r43, ex41, r46, ex44, rfl⟩))⟩, (show (v.1 0 12).toInt ≤ ((v.1 0 12) + (1 : Int32)).toInt ∧ ((v.1 0 12) + (1 : Int32)).toInt ≤ (v.1 0 12).toInt + 2 from (om_94fe09417a z50)), (show ((v.1 0 15) + (1 : Int32)).toInt = (v.1 0 15).toInt + 1 from (om_5bccfc38cf z54)), (show (v.1 0 43).toInt ≤ (v.1 0 43).toInt ∧ (v.1 0 43).toInt ≤ (v.1 0 43).toInt + 2 from om_798cb3402e), (fun (j9 : Nat) hj9 => (pk_un3 (a := (v.1 0 12).toInt) rfl (om_4842074e86 zw) (om_4fe904e9bf hj9))), (fun (j9 : Nat) hj9 => (pk_un3 (a := (v.1 0 15).toInt) rfl (om_2ab3f6b9f5 zo) (om_4fe904e9bf hj9))), (fun (j9 : Nat) hj9 => (pk_un3 (a := (v.1 0 15).toInt) rfl (om_2ab3f6b9f5 zo) (om_4fe904e9bf hj9))), (AR.o (AR.o (AR.o (AR.o (AR.o a40 (by decide)) (by decide)) (by decide)) (by decide)) (by decide)), (FX.o (FX.o (FX.o (FX.o (FX.o fx (by decide) (by decide)) (by decide) (by decide)) (by decide) (by decide)) (by decide) (by decide)) (by decide) (by decide)), (fun hiv => (IV.o (IV.o (IV.o (IV.o (IV.o hiv (by decide)) (by decide)) (by decide)) (by decide)) (by decide))), (SGE.mono (SGE.setB sg55 rfl) (show (1 : Int) ≤ (1 : Int) from om_007919dbf5))⟩, by rw [ht9]; exact hP, hD⟩, hS.F ht9⟩) hS.2.2 dX13_store_76
