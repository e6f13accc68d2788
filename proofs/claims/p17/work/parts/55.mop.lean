theorem dX13_operate_0 : decode cX13_operate 0 = .ok (.aload_n 0, 1) := by decide +kernel
theorem dX13_operate_1 : decode cX13_operate 1 = .ok (.bipush 21, 2) := by decide +kernel
theorem dX13_operate_3 : decode cX13_operate 3 = .ok (.iload_n 1, 1) := by decide +kernel
theorem dX13_operate_4 : decode cX13_operate 4 = .ok (.invokevirtual 210, 3) := by decide +kernel
theorem dX13_operate_7 : decode cX13_operate 7 = .ok (.pop, 1) := by decide +kernel
theorem dX13_operate_8 : decode cX13_operate 8 = .ok (.iload_n 1, 1) := by decide +kernel
theorem dX13_operate_9 : decode cX13_operate 9 = .ok (.lookupswitch 440 #[(38, 160), (42, 426), (43, 123), (45, 141), (60, 253), (62, 271), (94, 198), (124, 179), (15420, 216), (15649, 392), (15676, 289), (15677, 357), (15678, 323), (15934, 234)], 123) := by decide +kernel
theorem dX13_operate_169 : decode cX13_operate 169 = .ok (.aload_n 0, 1) := by decide +kernel
theorem dX13_operate_170 : decode cX13_operate 170 = .ok (.iconst 0, 1) := by decide +kernel
theorem dX13_operate_171 : decode cX13_operate 171 = .ok (.bipush 7, 2) := by decide +kernel
theorem dX13_operate_173 : decode cX13_operate 173 = .ok (.bipush 10, 2) := by decide +kernel
theorem dX13_operate_175 : decode cX13_operate 175 = .ok (.iconst 5, 1) := by decide +kernel
theorem dX13_operate_176 : decode cX13_operate 176 = .ok (.bipush 10, 2) := by decide +kernel
theorem dX13_operate_178 : decode cX13_operate 178 = .ok (.invokestatic 213, 3) := by decide +kernel
theorem tw_67 : (.code yX13_byR cX13_byR 5 (some .int) : Cond) ∈ tw_W := tw_in (by decide +kernel) (by decide +kernel)
theorem tw_68 : ∀ w ∈ ([.methodLink RX13 213 yX13_byR, .static yX13_byR, .initialized yX13_byR.cls] : List Cond), w ∈ tw_W := tw_all (by decide +kernel)
theorem dX13_operate_181 : decode cX13_operate 181 = .ok (.invokevirtual 111, 3) := by decide +kernel
theorem dX13_operate_184 : decode cX13_operate 184 = .ok (.pop, 1) := by decide +kernel
theorem dX13_operate_185 : decode cX13_operate 185 = .ok (.goto 295, 3) := by decide +kernel
theorem dX13_operate_480 : decode cX13_operate 480 = .ok (.return_, 1) := by decide +kernel
theorem dX13_operate_435 : decode cX13_operate 435 = .ok (.aload_n 0, 1) := by decide +kernel
theorem dX13_operate_436 : decode cX13_operate 436 = .ok (.aload_n 0, 1) := by decide +kernel
theorem dX13_operate_437 : decode cX13_operate 437 = .ok (.iconst 0, 1) := by decide +kernel
theorem dX13_operate_438 : decode cX13_operate 438 = .ok (.invokevirtual 111, 3) := by decide +kernel
theorem dX13_operate_441 : decode cX13_operate 441 = .ok (.iconst (-1), 1) := by decide +kernel
theorem dX13_operate_442 : decode cX13_operate 442 = .ok (.iconst 5, 1) := by decide +kernel
theorem dX13_operate_443 : decode cX13_operate 443 = .ok (.invokevirtual 216, 3) := by decide +kernel
theorem tw_69 : (.code yX13_fix cX13_fix 4 none : Cond) ∈ tw_W := tw_in (by decide +kernel) (by decide +kernel)
theorem tw_70 : ∀ w ∈ ([.methodLink RX13 216 yX13_fix, .instanceMethod yX13_fix, .selects RX13 yX13_fix yX13_fix, .initialized RX13] : List Cond), w ∈ tw_W := tw_all (by decide +kernel)
theorem dX13_operate_446 : decode cX13_operate 446 = .ok (.goto 34, 3) := by decide +kernel
theorem dX13_operate_132 : decode cX13_operate 132 = .ok (.aload_n 0, 1) := by decide +kernel
theorem dX13_operate_133 : decode cX13_operate 133 = .ok (.iconst 0, 1) := by decide +kernel
theorem dX13_operate_134 : decode cX13_operate 134 = .ok (.iconst 0, 1) := by decide +kernel
theorem dX13_operate_135 : decode cX13_operate 135 = .ok (.bipush 10, 2) := by decide +kernel
theorem dX13_operate_137 : decode cX13_operate 137 = .ok (.iconst 5, 1) := by decide +kernel
theorem dX13_operate_138 : decode cX13_operate 138 = .ok (.bipush 10, 2) := by decide +kernel
theorem dX13_operate_140 : decode cX13_operate 140 = .ok (.invokestatic 213, 3) := by decide +kernel
theorem dX13_operate_143 : decode cX13_operate 143 = .ok (.invokevirtual 111, 3) := by decide +kernel
theorem dX13_operate_146 : decode cX13_operate 146 = .ok (.pop, 1) := by decide +kernel
theorem dX13_operate_147 : decode cX13_operate 147 = .ok (.goto 333, 3) := by decide +kernel
theorem dX13_operate_150 : decode cX13_operate 150 = .ok (.aload_n 0, 1) := by decide +kernel
theorem dX13_operate_151 : decode cX13_operate 151 = .ok (.bipush 32, 2) := by decide +kernel
theorem dX13_operate_153 : decode cX13_operate 153 = .ok (.iconst 0, 1) := by decide +kernel
theorem dX13_operate_154 : decode cX13_operate 154 = .ok (.bipush 10, 2) := by decide +kernel
theorem dX13_operate_156 : decode cX13_operate 156 = .ok (.iconst 5, 1) := by decide +kernel
theorem dX13_operate_157 : decode cX13_operate 157 = .ok (.bipush 10, 2) := by decide +kernel
theorem dX13_operate_159 : decode cX13_operate 159 = .ok (.invokestatic 213, 3) := by decide +kernel
theorem dX13_operate_162 : decode cX13_operate 162 = .ok (.invokevirtual 111, 3) := by decide +kernel
theorem dX13_operate_165 : decode cX13_operate 165 = .ok (.pop, 1) := by decide +kernel
theorem dX13_operate_166 : decode cX13_operate 166 = .ok (.goto 314, 3) := by decide +kernel
theorem dX13_operate_262 : decode cX13_operate 262 = .ok (.aload_n 0, 1) := by decide +kernel
theorem dX13_operate_263 : decode cX13_operate 263 = .ok (.iconst 0, 1) := by decide +kernel
theorem dX13_operate_264 : decode cX13_operate 264 = .ok (.iconst 2, 1) := by decide +kernel
theorem dX13_operate_265 : decode cX13_operate 265 = .ok (.bipush 10, 2) := by decide +kernel
theorem dX13_operate_267 : decode cX13_operate 267 = .ok (.iconst 5, 1) := by decide +kernel
theorem dX13_operate_268 : decode cX13_operate 268 = .ok (.bipush 10, 2) := by decide +kernel
theorem dX13_operate_270 : decode cX13_operate 270 = .ok (.invokestatic 213, 3) := by decide +kernel
theorem dX13_operate_273 : decode cX13_operate 273 = .ok (.invokevirtual 111, 3) := by decide +kernel
theorem dX13_operate_276 : decode cX13_operate 276 = .ok (.pop, 1) := by decide +kernel
theorem dX13_operate_277 : decode cX13_operate 277 = .ok (.goto 203, 3) := by decide +kernel
theorem dX13_operate_280 : decode cX13_operate 280 = .ok (.aload_n 0, 1) := by decide +kernel
theorem dX13_operate_281 : decode cX13_operate 281 = .ok (.iconst 0, 1) := by decide +kernel
theorem dX13_operate_282 : decode cX13_operate 282 = .ok (.iconst 2, 1) := by decide +kernel
theorem dX13_operate_283 : decode cX13_operate 283 = .ok (.bipush 10, 2) := by decide +kernel
theorem dX13_operate_285 : decode cX13_operate 285 = .ok (.bipush 10, 2) := by decide +kernel
theorem dX13_operate_287 : decode cX13_operate 287 = .ok (.iconst 5, 1) := by decide +kernel
theorem dX13_operate_288 : decode cX13_operate 288 = .ok (.invokestatic 213, 3) := by decide +kernel
theorem dX13_operate_291 : decode cX13_operate 291 = .ok (.invokevirtual 111, 3) := by decide +kernel
theorem dX13_operate_294 : decode cX13_operate 294 = .ok (.pop, 1) := by decide +kernel
theorem dX13_operate_295 : decode cX13_operate 295 = .ok (.goto 185, 3) := by decide +kernel
theorem dX13_operate_207 : decode cX13_operate 207 = .ok (.aload_n 0, 1) := by decide +kernel
theorem dX13_operate_208 : decode cX13_operate 208 = .ok (.iconst 0, 1) := by decide +kernel
theorem dX13_operate_209 : decode cX13_operate 209 = .ok (.iconst 4, 1) := by decide +kernel
theorem dX13_operate_210 : decode cX13_operate 210 = .ok (.bipush 10, 2) := by decide +kernel
theorem dX13_operate_212 : decode cX13_operate 212 = .ok (.iconst 5, 1) := by decide +kernel
theorem dX13_operate_213 : decode cX13_operate 213 = .ok (.bipush 10, 2) := by decide +kernel
theorem dX13_operate_215 : decode cX13_operate 215 = .ok (.invokestatic 213, 3) := by decide +kernel
theorem dX13_operate_218 : decode cX13_operate 218 = .ok (.invokevirtual 111, 3) := by decide +kernel
theorem dX13_operate_221 : decode cX13_operate 221 = .ok (.pop, 1) := by decide +kernel
theorem dX13_operate_222 : decode cX13_operate 222 = .ok (.goto 258, 3) := by decide +kernel
theorem dX13_operate_188 : decode cX13_operate 188 = .ok (.aload_n 0, 1) := by decide +kernel
theorem dX13_operate_189 : decode cX13_operate 189 = .ok (.iconst 0, 1) := by decide +kernel
theorem dX13_operate_190 : decode cX13_operate 190 = .ok (.bipush 6, 2) := by decide +kernel
theorem dX13_operate_192 : decode cX13_operate 192 = .ok (.bipush 10, 2) := by decide +kernel
theorem dX13_operate_194 : decode cX13_operate 194 = .ok (.iconst 5, 1) := by decide +kernel
theorem dX13_operate_195 : decode cX13_operate 195 = .ok (.bipush 10, 2) := by decide +kernel
theorem dX13_operate_197 : decode cX13_operate 197 = .ok (.invokestatic 213, 3) := by decide +kernel
theorem dX13_operate_200 : decode cX13_operate 200 = .ok (.invokevirtual 111, 3) := by decide +kernel
theorem dX13_operate_203 : decode cX13_operate 203 = .ok (.pop, 1) := by decide +kernel
theorem dX13_operate_204 : decode cX13_operate 204 = .ok (.goto 276, 3) := by decide +kernel
theorem dX13_operate_225 : decode cX13_operate 225 = .ok (.aload_n 0, 1) := by decide +kernel
theorem dX13_operate_226 : decode cX13_operate 226 = .ok (.iconst 0, 1) := by decide +kernel
theorem dX13_operate_227 : decode cX13_operate 227 = .ok (.iconst 1, 1) := by decide +kernel
theorem dX13_operate_228 : decode cX13_operate 228 = .ok (.bipush 10, 2) := by decide +kernel
theorem dX13_operate_230 : decode cX13_operate 230 = .ok (.iconst 5, 1) := by decide +kernel
theorem dX13_operate_231 : decode cX13_operate 231 = .ok (.bipush 10, 2) := by decide +kernel
theorem dX13_operate_233 : decode cX13_operate 233 = .ok (.invokestatic 213, 3) := by decide +kernel
theorem dX13_operate_236 : decode cX13_operate 236 = .ok (.invokevirtual 111, 3) := by decide +kernel
theorem dX13_operate_239 : decode cX13_operate 239 = .ok (.pop, 1) := by decide +kernel
theorem dX13_operate_240 : decode cX13_operate 240 = .ok (.goto 240, 3) := by decide +kernel
theorem dX13_operate_401 : decode cX13_operate 401 = .ok (.aload_n 0, 1) := by decide +kernel
theorem dX13_operate_402 : decode cX13_operate 402 = .ok (.bipush 32, 2) := by decide +kernel
theorem dX13_operate_404 : decode cX13_operate 404 = .ok (.iconst 0, 1) := by decide +kernel
theorem dX13_operate_405 : decode cX13_operate 405 = .ok (.bipush 10, 2) := by decide +kernel
theorem dX13_operate_407 : decode cX13_operate 407 = .ok (.iconst 5, 1) := by decide +kernel
theorem dX13_operate_408 : decode cX13_operate 408 = .ok (.bipush 10, 2) := by decide +kernel
theorem dX13_operate_410 : decode cX13_operate 410 = .ok (.invokestatic 213, 3) := by decide +kernel
theorem dX13_operate_413 : decode cX13_operate 413 = .ok (.invokevirtual 111, 3) := by decide +kernel
theorem dX13_operate_416 : decode cX13_operate 416 = .ok (.pop, 1) := by decide +kernel
theorem dX13_operate_417 : decode cX13_operate 417 = .ok (.aload_n 0, 1) := by decide +kernel
theorem dX13_operate_418 : decode cX13_operate 418 = .ok (.iconst 0, 1) := by decide +kernel
theorem dX13_operate_419 : decode cX13_operate 419 = .ok (.iconst 3, 1) := by decide +kernel
theorem dX13_operate_420 : decode cX13_operate 420 = .ok (.bipush 10, 2) := by decide +kernel
theorem dX13_operate_422 : decode cX13_operate 422 = .ok (.iconst 0, 1) := by decide +kernel
theorem dX13_operate_423 : decode cX13_operate 423 = .ok (.bipush 10, 2) := by decide +kernel
theorem dX13_operate_425 : decode cX13_operate 425 = .ok (.invokestatic 213, 3) := by decide +kernel
theorem dX13_operate_428 : decode cX13_operate 428 = .ok (.invokevirtual 111, 3) := by decide +kernel
theorem dX13_operate_431 : decode cX13_operate 431 = .ok (.pop, 1) := by decide +kernel
theorem dX13_operate_432 : decode cX13_operate 432 = .ok (.goto 48, 3) := by decide +kernel
theorem dX13_operate_298 : decode cX13_operate 298 = .ok (.aload_n 0, 1) := by decide +kernel
theorem dX13_operate_299 : decode cX13_operate 299 = .ok (.iconst 0, 1) := by decide +kernel
theorem dX13_operate_300 : decode cX13_operate 300 = .ok (.iconst 2, 1) := by decide +kernel
theorem dX13_operate_301 : decode cX13_operate 301 = .ok (.bipush 10, 2) := by decide +kernel
theorem dX13_operate_303 : decode cX13_operate 303 = .ok (.bipush 10, 2) := by decide +kernel
theorem dX13_operate_305 : decode cX13_operate 305 = .ok (.iconst 5, 1) := by decide +kernel
theorem dX13_operate_306 : decode cX13_operate 306 = .ok (.invokestatic 213, 3) := by decide +kernel
theorem dX13_operate_309 : decode cX13_operate 309 = .ok (.invokevirtual 111, 3) := by decide +kernel
theorem dX13_operate_312 : decode cX13_operate 312 = .ok (.pop, 1) := by decide +kernel
theorem dX13_operate_313 : decode cX13_operate 313 = .ok (.aload_n 0, 1) := by decide +kernel
theorem dX13_operate_314 : decode cX13_operate 314 = .ok (.bipush 19, 2) := by decide +kernel
theorem dX13_operate_316 : decode cX13_operate 316 = .ok (.iconst 4, 1) := by decide +kernel
theorem dX13_operate_317 : decode cX13_operate 317 = .ok (.bipush 10, 2) := by decide +kernel
theorem dX13_operate_319 : decode cX13_operate 319 = .ok (.bipush 10, 2) := by decide +kernel
theorem dX13_operate_321 : decode cX13_operate 321 = .ok (.iconst 1, 1) := by decide +kernel
theorem dX13_operate_322 : decode cX13_operate 322 = .ok (.invokestatic 97, 3) := by decide +kernel
theorem dX13_operate_325 : decode cX13_operate 325 = .ok (.invokevirtual 111, 3) := by decide +kernel
theorem dX13_operate_328 : decode cX13_operate 328 = .ok (.pop, 1) := by decide +kernel
theorem dX13_operate_329 : decode cX13_operate 329 = .ok (.goto 151, 3) := by decide +kernel
theorem dX13_operate_366 : decode cX13_operate 366 = .ok (.aload_n 0, 1) := by decide +kernel
theorem dX13_operate_367 : decode cX13_operate 367 = .ok (.bipush 32, 2) := by decide +kernel
theorem dX13_operate_369 : decode cX13_operate 369 = .ok (.iconst 0, 1) := by decide +kernel
theorem dX13_operate_370 : decode cX13_operate 370 = .ok (.bipush 10, 2) := by decide +kernel
theorem dX13_operate_372 : decode cX13_operate 372 = .ok (.iconst 5, 1) := by decide +kernel
theorem dX13_operate_373 : decode cX13_operate 373 = .ok (.bipush 10, 2) := by decide +kernel
theorem dX13_operate_375 : decode cX13_operate 375 = .ok (.invokestatic 213, 3) := by decide +kernel
theorem dX13_operate_378 : decode cX13_operate 378 = .ok (.invokevirtual 111, 3) := by decide +kernel
theorem dX13_operate_381 : decode cX13_operate 381 = .ok (.pop, 1) := by decide +kernel
theorem dX13_operate_382 : decode cX13_operate 382 = .ok (.aload_n 0, 1) := by decide +kernel
theorem dX13_operate_383 : decode cX13_operate 383 = .ok (.bipush 19, 2) := by decide +kernel
theorem dX13_operate_385 : decode cX13_operate 385 = .ok (.iconst 3, 1) := by decide +kernel
theorem dX13_operate_386 : decode cX13_operate 386 = .ok (.bipush 10, 2) := by decide +kernel
theorem dX13_operate_388 : decode cX13_operate 388 = .ok (.bipush 10, 2) := by decide +kernel
theorem dX13_operate_390 : decode cX13_operate 390 = .ok (.iconst 1, 1) := by decide +kernel
theorem dX13_operate_391 : decode cX13_operate 391 = .ok (.invokestatic 97, 3) := by decide +kernel
theorem dX13_operate_394 : decode cX13_operate 394 = .ok (.invokevirtual 111, 3) := by decide +kernel
theorem dX13_operate_397 : decode cX13_operate 397 = .ok (.pop, 1) := by decide +kernel
theorem dX13_operate_398 : decode cX13_operate 398 = .ok (.goto 82, 3) := by decide +kernel
theorem dX13_operate_332 : decode cX13_operate 332 = .ok (.aload_n 0, 1) := by decide +kernel
theorem dX13_operate_333 : decode cX13_operate 333 = .ok (.iconst 0, 1) := by decide +kernel
theorem dX13_operate_334 : decode cX13_operate 334 = .ok (.iconst 2, 1) := by decide +kernel
theorem dX13_operate_335 : decode cX13_operate 335 = .ok (.bipush 10, 2) := by decide +kernel
theorem dX13_operate_337 : decode cX13_operate 337 = .ok (.iconst 5, 1) := by decide +kernel
theorem dX13_operate_338 : decode cX13_operate 338 = .ok (.bipush 10, 2) := by decide +kernel
theorem dX13_operate_340 : decode cX13_operate 340 = .ok (.invokestatic 213, 3) := by decide +kernel
theorem dX13_operate_343 : decode cX13_operate 343 = .ok (.invokevirtual 111, 3) := by decide +kernel
theorem dX13_operate_346 : decode cX13_operate 346 = .ok (.pop, 1) := by decide +kernel
theorem dX13_operate_347 : decode cX13_operate 347 = .ok (.aload_n 0, 1) := by decide +kernel
theorem dX13_operate_348 : decode cX13_operate 348 = .ok (.bipush 19, 2) := by decide +kernel
theorem dX13_operate_350 : decode cX13_operate 350 = .ok (.iconst 4, 1) := by decide +kernel
theorem dX13_operate_351 : decode cX13_operate 351 = .ok (.bipush 10, 2) := by decide +kernel
theorem dX13_operate_353 : decode cX13_operate 353 = .ok (.bipush 10, 2) := by decide +kernel
theorem dX13_operate_355 : decode cX13_operate 355 = .ok (.iconst 1, 1) := by decide +kernel
theorem dX13_operate_356 : decode cX13_operate 356 = .ok (.invokestatic 97, 3) := by decide +kernel
theorem dX13_operate_359 : decode cX13_operate 359 = .ok (.invokevirtual 111, 3) := by decide +kernel
theorem dX13_operate_362 : decode cX13_operate 362 = .ok (.pop, 1) := by decide +kernel
theorem dX13_operate_363 : decode cX13_operate 363 = .ok (.goto 117, 3) := by decide +kernel
theorem dX13_operate_243 : decode cX13_operate 243 = .ok (.aload_n 0, 1) := by decide +kernel
theorem dX13_operate_244 : decode cX13_operate 244 = .ok (.bipush 32, 2) := by decide +kernel
theorem dX13_operate_246 : decode cX13_operate 246 = .ok (.iconst 5, 1) := by decide +kernel
theorem dX13_operate_247 : decode cX13_operate 247 = .ok (.bipush 10, 2) := by decide +kernel
theorem dX13_operate_249 : decode cX13_operate 249 = .ok (.iconst 5, 1) := by decide +kernel
theorem dX13_operate_250 : decode cX13_operate 250 = .ok (.bipush 10, 2) := by decide +kernel
theorem dX13_operate_252 : decode cX13_operate 252 = .ok (.invokestatic 213, 3) := by decide +kernel
theorem dX13_operate_255 : decode cX13_operate 255 = .ok (.invokevirtual 111, 3) := by decide +kernel
theorem dX13_operate_258 : decode cX13_operate 258 = .ok (.pop, 1) := by decide +kernel
theorem dX13_operate_259 : decode cX13_operate 259 = .ok (.goto 221, 3) := by decide +kernel
theorem dX13_operate_449 : decode cX13_operate 449 = .ok (.aload_n 0, 1) := by decide +kernel
theorem dX13_operate_450 : decode cX13_operate 450 = .ok (.aload_n 0, 1) := by decide +kernel
theorem dX13_operate_451 : decode cX13_operate 451 = .ok (.iconst 0, 1) := by decide +kernel
theorem dX13_operate_452 : decode cX13_operate 452 = .ok (.invokevirtual 111, 3) := by decide +kernel
theorem dX13_operate_455 : decode cX13_operate 455 = .ok (.bipush (-2), 2) := by decide +kernel
theorem dX13_operate_457 : decode cX13_operate 457 = .ok (.iconst 5, 1) := by decide +kernel
theorem dX13_operate_458 : decode cX13_operate 458 = .ok (.invokevirtual 216, 3) := by decide +kernel
theorem dX13_operate_461 : decode cX13_operate 461 = .ok (.iload_n 1, 1) := by decide +kernel
theorem dX13_operate_462 : decode cX13_operate 462 = .ok (.bipush 37, 2) := by decide +kernel
theorem dX13_operate_464 : decode cX13_operate 464 = .ok (.if_icmp .ne 16, 3) := by decide +kernel
theorem dX13_operate_467 : decode cX13_operate 467 = .ok (.aload_n 0, 1) := by decide +kernel
theorem dX13_operate_468 : decode cX13_operate 468 = .ok (.bipush 10, 2) := by decide +kernel
theorem dX13_operate_470 : decode cX13_operate 470 = .ok (.bipush 6, 2) := by decide +kernel
theorem dX13_operate_472 : decode cX13_operate 472 = .ok (.iconst 0, 1) := by decide +kernel
theorem dX13_operate_473 : decode cX13_operate 473 = .ok (.invokestatic 219, 3) := by decide +kernel
theorem dX13_operate_476 : decode cX13_operate 476 = .ok (.invokevirtual 111, 3) := by decide +kernel
theorem dX13_operate_479 : decode cX13_operate 479 = .ok (.pop, 1) := by decide +kernel
theorem dX13_fetch_0 : decode cX13_fetch 0 = .ok (.iload_n 1, 1) := by decide +kernel
theorem dX13_fetch_1 : decode cX13_fetch 1 = .ok (.ifCond .lt 29, 3) := by decide +kernel
theorem dX13_fetch_30 : decode cX13_fetch 30 = .ok (.aload_n 0, 1) := by decide +kernel
theorem dX13_fetch_31 : decode cX13_fetch 31 = .ok (.aload_n 0, 1) := by decide +kernel
theorem dX13_fetch_32 : decode cX13_fetch 32 = .ok (.bipush 6, 2) := by decide +kernel
theorem dX13_fetch_34 : decode cX13_fetch 34 = .ok (.iconst 0, 1) := by decide +kernel
theorem dX13_fetch_35 : decode cX13_fetch 35 = .ok (.invokestatic 223, 3) := by decide +kernel
theorem dX13_fetch_38 : decode cX13_fetch 38 = .ok (.invokevirtual 111, 3) := by decide +kernel
theorem dX13_fetch_41 : decode cX13_fetch 41 = .ok (.iload_n 2, 1) := by decide +kernel
theorem dX13_fetch_42 : decode cX13_fetch 42 = .ok (.iconst 0, 1) := by decide +kernel
theorem dX13_fetch_43 : decode cX13_fetch 43 = .ok (.invokevirtual 216, 3) := by decide +kernel
theorem dX13_fetch_46 : decode cX13_fetch 46 = .ok (.aload_n 0, 1) := by decide +kernel
theorem dX13_fetch_47 : decode cX13_fetch 47 = .ok (.aload_n 0, 1) := by decide +kernel
theorem dX13_fetch_48 : decode cX13_fetch 48 = .ok (.bipush 10, 2) := by decide +kernel
theorem dX13_fetch_50 : decode cX13_fetch 50 = .ok (.iconst 0, 1) := by decide +kernel
theorem dX13_fetch_51 : decode cX13_fetch 51 = .ok (.bipush 6, 2) := by decide +kernel
theorem dX13_fetch_53 : decode cX13_fetch 53 = .ok (.invokestatic 265, 3) := by decide +kernel
theorem tw_71 : (.code yX13_lw cX13_lw 3 (some .int) : Cond) ∈ tw_W := tw_in (by decide +kernel) (by decide +kernel)
theorem tw_72 : ∀ w ∈ ([.methodLink RX13 265 yX13_lw, .static yX13_lw, .initialized yX13_lw.cls] : List Cond), w ∈ tw_W := tw_all (by decide +kernel)
theorem dX13_fetch_56 : decode cX13_fetch 56 = .ok (.invokevirtual 111, 3) := by decide +kernel
theorem dX13_fetch_59 : decode cX13_fetch 59 = .ok (.iload_n 2, 1) := by decide +kernel
theorem dX13_fetch_60 : decode cX13_fetch 60 = .ok (.iconst 1, 1) := by decide +kernel
theorem dX13_fetch_61 : decode cX13_fetch 61 = .ok (.invokevirtual 216, 3) := by decide +kernel
theorem dX13_fetch_64 : decode cX13_fetch 64 = .ok (.aload_n 0, 1) := by decide +kernel
theorem dX13_fetch_65 : decode cX13_fetch 65 = .ok (.iconst 3, 1) := by decide +kernel
theorem dX13_fetch_66 : decode cX13_fetch 66 = .ok (.aload_n 0, 1) := by decide +kernel
theorem dX13_fetch_67 : decode cX13_fetch 67 = .ok (.getfield 275, 3) := by decide +kernel
theorem tw_73 : (.fieldLink RX13 275 "PocketCompilerModel" "gFrom" "[I" : Cond) ∈ tw_W := tw_in (by decide +kernel) (by decide +kernel)
theorem dX13_fetch_70 : decode cX13_fetch 70 = .ok (.iload_n 2, 1) := by decide +kernel
theorem dX13_fetch_71 : decode cX13_fetch 71 = .ok (.iaload, 1) := by decide +kernel
theorem dX13_fetch_72 : decode cX13_fetch 72 = .ok (.invokevirtual 210, 3) := by decide +kernel
theorem dX13_fetch_75 : decode cX13_fetch 75 = .ok (.pop, 1) := by decide +kernel
theorem dX13_fetch_76 : decode cX13_fetch 76 = .ok (.return_, 1) := by decide +kernel
theorem dX13_fetch_4 : decode cX13_fetch 4 = .ok (.aload_n 0, 1) := by decide +kernel
theorem dX13_fetch_5 : decode cX13_fetch 5 = .ok (.bipush 10, 2) := by decide +kernel
theorem dX13_fetch_7 : decode cX13_fetch 7 = .ok (.iload_n 1, 1) := by decide +kernel
theorem dX13_fetch_8 : decode cX13_fetch 8 = .ok (.invokestatic 272, 3) := by decide +kernel
theorem tw_74 : (.code yX13_slotAt cX13_slotAt 1 (some .int) : Cond) ∈ tw_W := tw_in (by decide +kernel) (by decide +kernel)
theorem tw_75 : ∀ w ∈ ([.methodLink RX13 272 yX13_slotAt, .static yX13_slotAt, .initialized yX13_slotAt.cls] : List Cond), w ∈ tw_W := tw_all (by decide +kernel)
theorem dX13_fetch_11 : decode cX13_fetch 11 = .ok (.bipush 8, 2) := by decide +kernel
theorem dX13_fetch_13 : decode cX13_fetch 13 = .ok (.invokestatic 265, 3) := by decide +kernel
theorem dX13_fetch_16 : decode cX13_fetch 16 = .ok (.invokevirtual 111, 3) := by decide +kernel
theorem dX13_fetch_19 : decode cX13_fetch 19 = .ok (.pop, 1) := by decide +kernel
theorem dX13_fetch_20 : decode cX13_fetch 20 = .ok (.aload_n 0, 1) := by decide +kernel
theorem dX13_fetch_21 : decode cX13_fetch 21 = .ok (.iconst 1, 1) := by decide +kernel
theorem dX13_fetch_22 : decode cX13_fetch 22 = .ok (.iload_n 1, 1) := by decide +kernel
theorem dX13_fetch_23 : decode cX13_fetch 23 = .ok (.invokevirtual 210, 3) := by decide +kernel
theorem dX13_fetch_26 : decode cX13_fetch 26 = .ok (.pop, 1) := by decide +kernel
theorem dX13_fetch_27 : decode cX13_fetch 27 = .ok (.goto 49, 3) := by decide +kernel
theorem dX13_store_0 : decode cX13_store 0 = .ok (.iload_n 1, 1) := by decide +kernel
theorem dX13_store_1 : decode cX13_store 1 = .ok (.ifCond .lt 29, 3) := by decide +kernel
theorem dX13_store_30 : decode cX13_store 30 = .ok (.aload_n 0, 1) := by decide +kernel
theorem dX13_store_31 : decode cX13_store 31 = .ok (.aload_n 0, 1) := by decide +kernel
theorem dX13_store_32 : decode cX13_store 32 = .ok (.bipush 6, 2) := by decide +kernel
theorem dX13_store_34 : decode cX13_store 34 = .ok (.iconst 0, 1) := by decide +kernel
theorem dX13_store_35 : decode cX13_store 35 = .ok (.invokestatic 223, 3) := by decide +kernel
theorem dX13_store_38 : decode cX13_store 38 = .ok (.invokevirtual 111, 3) := by decide +kernel
theorem dX13_store_41 : decode cX13_store 41 = .ok (.iload_n 2, 1) := by decide +kernel
theorem dX13_store_42 : decode cX13_store 42 = .ok (.iconst 0, 1) := by decide +kernel
theorem dX13_store_43 : decode cX13_store 43 = .ok (.invokevirtual 216, 3) := by decide +kernel
theorem dX13_store_46 : decode cX13_store 46 = .ok (.aload_n 0, 1) := by decide +kernel
theorem dX13_store_47 : decode cX13_store 47 = .ok (.aload_n 0, 1) := by decide +kernel
theorem dX13_store_48 : decode cX13_store 48 = .ok (.bipush 10, 2) := by decide +kernel
theorem dX13_store_50 : decode cX13_store 50 = .ok (.iconst 0, 1) := by decide +kernel
theorem dX13_store_51 : decode cX13_store 51 = .ok (.bipush 6, 2) := by decide +kernel
theorem dX13_store_53 : decode cX13_store 53 = .ok (.invokestatic 278, 3) := by decide +kernel
theorem tw_76 : (.code yX13_sw cX13_sw 3 (some .int) : Cond) ∈ tw_W := tw_in (by decide +kernel) (by decide +kernel)
theorem tw_77 : ∀ w ∈ ([.methodLink RX13 278 yX13_sw, .static yX13_sw, .initialized yX13_sw.cls] : List Cond), w ∈ tw_W := tw_all (by decide +kernel)
theorem dX13_store_56 : decode cX13_store 56 = .ok (.invokevirtual 111, 3) := by decide +kernel
theorem dX13_store_59 : decode cX13_store 59 = .ok (.iload_n 2, 1) := by decide +kernel
theorem dX13_store_60 : decode cX13_store 60 = .ok (.iconst 2, 1) := by decide +kernel
theorem dX13_store_61 : decode cX13_store 61 = .ok (.invokevirtual 216, 3) := by decide +kernel
theorem dX13_store_64 : decode cX13_store 64 = .ok (.aload_n 0, 1) := by decide +kernel
theorem dX13_store_65 : decode cX13_store 65 = .ok (.iconst 4, 1) := by decide +kernel
theorem dX13_store_66 : decode cX13_store 66 = .ok (.aload_n 0, 1) := by decide +kernel
theorem dX13_store_67 : decode cX13_store 67 = .ok (.getfield 275, 3) := by decide +kernel
theorem dX13_store_70 : decode cX13_store 70 = .ok (.iload_n 2, 1) := by decide +kernel
theorem dX13_store_71 : decode cX13_store 71 = .ok (.iaload, 1) := by decide +kernel
theorem dX13_store_72 : decode cX13_store 72 = .ok (.invokevirtual 210, 3) := by decide +kernel
theorem dX13_store_75 : decode cX13_store 75 = .ok (.pop, 1) := by decide +kernel
theorem dX13_store_76 : decode cX13_store 76 = .ok (.return_, 1) := by decide +kernel
theorem dX13_store_4 : decode cX13_store 4 = .ok (.aload_n 0, 1) := by decide +kernel
theorem dX13_store_5 : decode cX13_store 5 = .ok (.bipush 10, 2) := by decide +kernel
theorem dX13_store_7 : decode cX13_store 7 = .ok (.iload_n 1, 1) := by decide +kernel
theorem dX13_store_8 : decode cX13_store 8 = .ok (.invokestatic 272, 3) := by decide +kernel
theorem dX13_store_11 : decode cX13_store 11 = .ok (.bipush 8, 2) := by decide +kernel
theorem dX13_store_13 : decode cX13_store 13 = .ok (.invokestatic 278, 3) := by decide +kernel
theorem dX13_store_16 : decode cX13_store 16 = .ok (.invokevirtual 111, 3) := by decide +kernel
theorem dX13_store_19 : decode cX13_store 19 = .ok (.pop, 1) := by decide +kernel
theorem dX13_store_20 : decode cX13_store 20 = .ok (.aload_n 0, 1) := by decide +kernel
theorem dX13_store_21 : decode cX13_store 21 = .ok (.iconst 2, 1) := by decide +kernel
theorem dX13_store_22 : decode cX13_store 22 = .ok (.iload_n 1, 1) := by decide +kernel
theorem dX13_store_23 : decode cX13_store 23 = .ok (.invokevirtual 210, 3) := by decide +kernel
theorem dX13_store_26 : decode cX13_store 26 = .ok (.pop, 1) := by decide +kernel
theorem dX13_store_27 : decode cX13_store 27 = .ok (.goto 49, 3) := by decide +kernel
theorem om_c2ac57be1c {x0 x1 : Int} (h0 : x0 = (x1) + 1) : x1 ≤ x0 ∧ x0 ≤ x1 + 3 := by omega
theorem om_b79dd2a91d {x0 : Int} : x0 ≤ x0 ∧ x0 ≤ x0 + 1 := by omega
theorem om_4ef855bd84 {x0 x1 : Int} (h0 : x0 = (x1) + 1) : x1 ≤ x0 ∧ x0 ≤ x1 + 1 := by omega
theorem om_1d95865769 {x0 x1 : Int} (h0 : x0 = ((x1) + 1) + 1) : x1 ≤ x0 ∧ x0 ≤ x1 + 3 := by omega
set_option maxHeartbeats 4000000 in
set_option maxRecDepth 100000 in
theorem c_m_operate (l : Launch) (dC : Nat → ClassId) (dI : Nat → Nat → Nat) (cI cB cZ cJ cR : ClassId) (tb : Nat → Nat) (sz : Nat) (ad : Nat → Nat) (N : Nat) (v : MS) (pa : Int32) (zw : 0 ≤ (v.1 0 12).toInt ∧ (v.1 0 12).toInt ≤ 23980) (zo : 0 ≤ (v.1 0 15).toInt ∧ (v.1 0 15).toInt ≤ 15980) (zf : 0 ≤ (v.1 0 43).toInt ∧ (v.1 0 43).toInt ≤ 23980) : Met l yX13_operate (Cond.code yX13_operate cX13_operate 2 none :: tw_W) ({ frames := 2, cells := 0, slots := 0, locals := 46 }) (pc_ (dC, dI) (tyS cI cB cZ cJ cR) tb (mW ad N cI cZ cJ v) sz [.ref (ad 0), .int pa]) (qv_ (dC, dI) (mW ad N cI cZ cJ v) sz (fun (u : MS) => FG [12, 15, 43] [0, 11, 13, 14, 40, 41, 42] v u ∧ ((v.1 0 12).toInt ≤ (u.1 0 12).toInt ∧ (u.1 0 12).toInt ≤ (v.1 0 12).toInt + 3) ∧ ((u.1 0 15).toInt = (v.1 0 15).toInt + 1) ∧ ((v.1 0 43).toInt ≤ (u.1 0 43).toInt ∧ (u.1 0 43).toInt ≤ (v.1 0 43).toInt + 1) ∧ (∀ j : Nat, (j : Int) < (v.1 0 12).toInt → (u.1 11) j = (v.1 11) j) ∧ (∀ j : Nat, (j : Int) < (v.1 0 15).toInt → (u.1 13) j = (v.1 13) j) ∧ (∀ j : Nat, (j : Int) < (v.1 0 15).toInt → (u.1 14) j = (v.1 14) j)) (fun (u : MS) => (mW ad N cI cZ cJ u))) 0 0 (va_A (mW ad N cI cZ cJ v) sz) := by
  refine Met.ofW (cc := cX13_operate) (maxL := 2) (ret := none) (by decide) rfl ?_
  intro p e s m args below meth c s₁ B hml hv
  obtain ⟨rfl, hsz, hP, hKK, hD0, hFx⟩ := hv
  have hK := hKK.1
  have hx := B.exec
  have hb := B.bytes
  have hr := B.returns
  have ht : ∀ w ∈ tw_W, w.before _ s = true := fun w h => atoms_spec (ws := Cond.code yX13_operate cX13_operate 2 none :: tw_W) B.pre w (List.mem_cons_of_mem _ h)
  have hown : s.vm.findClass RX13 = some m.cls := findClass_of_methodNamed B.named
  have hlocks := B.notSynchronized
  subst hsz
  unfold qv_
  have hD := hD0.self (sz := s.heap.size)
  generalize hAe : va_A (mW ad N cI cZ cJ v) s.heap.size = A at hD hFx ⊢
  have hA : ∀ q : Nat, s.heap.size ≤ q → A q := fun q h => by rw [← hAe]; exact Or.inr h
  have hS : va_S A s.heap s.heap [] := va_S.rf
  have hl := lv_entry ([.ref (ad 0), .int pa]) (n := 2) (Nat.le_of_ble_eq_true rfl)
  rw [lg_entry_eq]
  generalize (lg_sl ([.ref (ad 0), .int pa]) ++ List.replicate (2 - (lg_sl ([.ref (ad 0), .int pa])).length) Slot.unset).toArray = ls at hl ⊢
  have hl : lv_has ls 2 [(0, .ref (ad 0)), (1, .int pa)] := hl
  refine lv_aload_n hx hb dX13_operate_0 rfl (lv_at hl 0 rfl) ?_
  refine lv_bipush (v := 21) hx hb dX13_operate_1 (by decide) ?_
  refine lv_iload_n hx hb dX13_operate_3 rfl (lv_at hl 1 rfl) ?_
  refine cu_i (rn_V (n := 2) (As := [.int 21, .int pa]) (rest := []) hx hb hml hown ht hKK hFx hP hD hS hA (c_m_say l dC dI cI cB cZ cJ cR tb s.heap.size ad N v (21 : Int32) pa (show 0 ≤ (v.1 0 15).toInt ∧ (v.1 0 15).toInt < 16000 from (om_434853ee4d zo))) tw_59 tw_60 (by decide +kernel) rfl rfl ⟨Nat.le_of_ble_eq_true rfl, Nat.le_of_ble_eq_true rfl⟩ (List.range (mW ad N cI cZ cJ v).length) (rg_map _) (mW_nd _ _ _ _ _ _) rfl rfl rfl rfl hl.1 rfl (Nat.le_of_ble_eq_true rfl) dX13_operate_4 ⟨Nat.le_of_ble_eq_true rfl, Nat.le_of_ble_eq_true rfl⟩) hP hD hS hA (fun r3 u2 H locs hw1 hP hD hS => ?_)
  obtain ⟨rfl, rfl⟩ := hw1
  have z4 : ((v.1 0 15) + (1 : Int32)).toInt = ((v.1 0 15).toInt) + 1 := add_z rfl (show (1 : Int32).toInt = 1 by decide) (om_9aa2e986af zo) (om_363e01920b zo)
  have hP : va_P (dC, dI) vwCl (mW ad N cI cZ cJ (wA (wA (wA v 13 ((v.1 0 15).toNatClampNeg) (21 : Int32)) 14 ((v.1 0 15).toNatClampNeg) pa) 0 15 ((v.1 0 15) + (1 : Int32)))) H := hP
  have hD : va_D A (mW ad N cI cZ cJ (wA (wA (wA v 13 ((v.1 0 15).toNatClampNeg) (21 : Int32)) 14 ((v.1 0 15).toNatClampNeg) pa) 0 15 ((v.1 0 15) + (1 : Int32)))) := hD
  refine tp_i (y := (v.1 0 15)) (rfl) ?_
  refine W.widen (k := 0) (n := 0) (Nat.le_refl _) (Nat.le_refl _) ?_
  refine lv_pop hx hb dX13_operate_7 rfl ?_
  refine lv_iload_n hx hb dX13_operate_8 rfl (lv_at hl 1 rfl) ?_
  by_cases h5 : pa = 38
  · refine lv_lookup (off := 160) (tgt := 169) hx hb dX13_operate_9 (by decide) (by rw [h5]; decide) (by decide) ?_
    refine lv_aload_n hx hb dX13_operate_169 rfl (lv_at hl 0 rfl) ?_
    refine lv_iconst (v := 0) hx hb dX13_operate_170 (by decide) ?_
    refine lv_bipush (v := 7) hx hb dX13_operate_171 (by decide) ?_
    refine lv_bipush (v := 10) hx hb dX13_operate_173 (by decide) ?_
    refine lv_iconst (v := 5) hx hb dX13_operate_175 (by decide) ?_
    refine lv_bipush (v := 10) hx hb dX13_operate_176 (by decide) ?_
    refine cu_s (mW_nd _ _ _ _ _ _) (rn_S (n := 5) (As := [.int 0, .int 7, .int 10, .int 5, .int 10]) (rest := [.ref (ad 0)]) hx hb hml hown ht hKK hFx hP hD hS hA (c_m_byR l dC dI cI cB cZ cJ cR tb H.size (0 : Int32) (7 : Int32) (10 : Int32) (5 : Int32) (10 : Int32) ) tw_67 tw_68 (by decide +kernel) rfl rfl ⟨Nat.le_of_ble_eq_true rfl, Nat.le_of_ble_eq_true rfl⟩ [] rfl rfl rfl hl.1 rfl (Nat.le_of_ble_eq_true rfl) dX13_operate_178 ⟨Nat.le_of_ble_eq_true rfl, Nat.le_of_ble_eq_true rfl⟩) hP hD hS hA (fun r8 H locs hw6 hP hD hS => ?_)
    refine W.widen (k := 0) (n := 0) (Nat.le_refl _) (Nat.le_refl _) ?_
    refine cu_i (rn_V (n := 1) (As := [.int r8]) (rest := []) hx hb hml hown ht hKK hFx hP hD hS hA (c_m_emit l dC dI cI cB cZ cJ cR tb H.size ad N (wA (wA (wA v 13 ((v.1 0 15).toNatClampNeg) (21 : Int32)) 14 ((v.1 0 15).toNatClampNeg) pa) 0 15 ((v.1 0 15) + (1 : Int32))) r8 (show 0 ≤ (v.1 0 12).toInt ∧ (v.1 0 12).toInt < 24000 from (om_bd95b2e5c4 zw))) tw_8 tw_9 (by decide +kernel) rfl rfl ⟨Nat.le_of_ble_eq_true rfl, Nat.le_of_ble_eq_true rfl⟩ (List.range (mW ad N cI cZ cJ (wA (wA (wA v 13 ((v.1 0 15).toNatClampNeg) (21 : Int32)) 14 ((v.1 0 15).toNatClampNeg) pa) 0 15 ((v.1 0 15) + (1 : Int32)))).length) (rg_map _) (mW_nd _ _ _ _ _ _) rfl rfl rfl rfl hl.1 rfl (Nat.le_of_ble_eq_true rfl) dX13_operate_181 ⟨Nat.le_of_ble_eq_true rfl, Nat.le_of_ble_eq_true rfl⟩) hP hD hS hA (fun r11 u10 H locs hw9 hP hD hS => ?_)
    obtain ⟨rfl, rfl⟩ := hw9
    have z12 : ((v.1 0 12) + (1 : Int32)).toInt = ((v.1 0 12).toInt) + 1 := add_z rfl (show (1 : Int32).toInt = 1 by decide) (om_92b4e2a060 zw) (om_46bacc0712 zw)
    have hP : va_P (dC, dI) vwCl (mW ad N cI cZ cJ (wA (wA (wA (wA (wA v 13 ((v.1 0 15).toNatClampNeg) (21 : Int32)) 14 ((v.1 0 15).toNatClampNeg) pa) 0 15 ((v.1 0 15) + (1 : Int32))) 11 ((v.1 0 12).toNatClampNeg) r8) 0 12 ((v.1 0 12) + (1 : Int32)))) H := hP
    have hD : va_D A (mW ad N cI cZ cJ (wA (wA (wA (wA (wA v 13 ((v.1 0 15).toNatClampNeg) (21 : Int32)) 14 ((v.1 0 15).toNatClampNeg) pa) 0 15 ((v.1 0 15) + (1 : Int32))) 11 ((v.1 0 12).toNatClampNeg) r8) 0 12 ((v.1 0 12) + (1 : Int32)))) := hD
    refine tp_i (y := (v.1 0 12)) (rfl) ?_
    refine W.widen (k := 0) (n := 0) (Nat.le_refl _) (Nat.le_refl _) ?_
    refine lv_pop hx hb dX13_operate_184 rfl ?_
    refine lv_goto (tgt := 480) hx hb dX13_operate_185 (by decide) ?_
    exact W.vret hx hb hr (fun t ht9 hW => ⟨⟨(wA (wA (wA (wA (wA v 13 ((v.1 0 15).toNatClampNeg) (21 : Int32)) 14 ((v.1 0 15).toNatClampNeg) pa) 0 15 ((v.1 0 15) + (1 : Int32))) 11 ((v.1 0 12).toNatClampNeg) r8) 0 12 ((v.1 0 12) + (1 : Int32))), rfl, ⟨(FG.f (FG.a (FG.f (FG.a (FG.a (FG.rf _) ((v.1 0 15).toNatClampNeg) (21 : Int32) (by decide) (by decide)) ((v.1 0 15).toNatClampNeg) pa (by decide) (by decide)) ((v.1 0 15) + (1 : Int32)) (by decide)) ((v.1 0 12).toNatClampNeg) r8 (by decide) (by decide)) ((v.1 0 12) + (1 : Int32)) (by decide)), (show (v.1 0 12).toInt ≤ ((v.1 0 12) + (1 : Int32)).toInt ∧ ((v.1 0 12) + (1 : Int32)).toInt ≤ (v.1 0 12).toInt + 3 from (om_c2ac57be1c z12)), (show ((v.1 0 15) + (1 : Int32)).toInt = (v.1 0 15).toInt + 1 from (om_b2e2930950 z4)), (show (v.1 0 43).toInt ≤ (v.1 0 43).toInt ∧ (v.1 0 43).toInt ≤ (v.1 0 43).toInt + 1 from om_b79dd2a91d), (fun (j9 : Nat) hj9 => (pk_un3 (a := (v.1 0 12).toInt) rfl (om_4842074e86 zw) (om_4fe904e9bf hj9))), (fun (j9 : Nat) hj9 => (pk_un3 (a := (v.1 0 15).toInt) rfl (om_2ab3f6b9f5 zo) (om_4fe904e9bf hj9))), (fun (j9 : Nat) hj9 => (pk_un3 (a := (v.1 0 15).toInt) rfl (om_2ab3f6b9f5 zo) (om_4fe904e9bf hj9)))⟩, by rw [ht9]; exact hP, hD⟩, hS.F ht9⟩) hS.2.2 dX13_operate_480
  ·
    by_cases h13 : pa = 42
    · refine lv_lookup (off := 426) (tgt := 435) hx hb dX13_operate_9 (by decide) (by rw [h13]; decide) (by decide) ?_
      refine lv_aload_n hx hb dX13_operate_435 rfl (lv_at hl 0 rfl) ?_
      refine lv_aload_n hx hb dX13_operate_436 rfl (lv_at hl 0 rfl) ?_
      refine lv_iconst (v := 0) hx hb dX13_operate_437 (by decide) ?_
      refine cu_i (rn_V (n := 1) (As := [.int 0]) (rest := [.ref (ad 0)]) hx hb hml hown ht hKK hFx hP hD hS hA (c_m_emit l dC dI cI cB cZ cJ cR tb H.size ad N (wA (wA (wA v 13 ((v.1 0 15).toNatClampNeg) (21 : Int32)) 14 ((v.1 0 15).toNatClampNeg) pa) 0 15 ((v.1 0 15) + (1 : Int32))) (0 : Int32) (show 0 ≤ (v.1 0 12).toInt ∧ (v.1 0 12).toInt < 24000 from (om_bd95b2e5c4 zw))) tw_8 tw_9 (by decide +kernel) rfl rfl ⟨Nat.le_of_ble_eq_true rfl, Nat.le_of_ble_eq_true rfl⟩ (List.range (mW ad N cI cZ cJ (wA (wA (wA v 13 ((v.1 0 15).toNatClampNeg) (21 : Int32)) 14 ((v.1 0 15).toNatClampNeg) pa) 0 15 ((v.1 0 15) + (1 : Int32)))).length) (rg_map _) (mW_nd _ _ _ _ _ _) rfl rfl rfl rfl hl.1 rfl (Nat.le_of_ble_eq_true rfl) dX13_operate_438 ⟨Nat.le_of_ble_eq_true rfl, Nat.le_of_ble_eq_true rfl⟩) hP hD hS hA (fun r16 u15 H locs hw14 hP hD hS => ?_)
      obtain ⟨rfl, rfl⟩ := hw14
      have z17 : ((v.1 0 12) + (1 : Int32)).toInt = ((v.1 0 12).toInt) + 1 := add_z rfl (show (1 : Int32).toInt = 1 by decide) (om_92b4e2a060 zw) (om_46bacc0712 zw)
      have hP : va_P (dC, dI) vwCl (mW ad N cI cZ cJ (wA (wA (wA (wA (wA v 13 ((v.1 0 15).toNatClampNeg) (21 : Int32)) 14 ((v.1 0 15).toNatClampNeg) pa) 0 15 ((v.1 0 15) + (1 : Int32))) 11 ((v.1 0 12).toNatClampNeg) (0 : Int32)) 0 12 ((v.1 0 12) + (1 : Int32)))) H := hP
      have hD : va_D A (mW ad N cI cZ cJ (wA (wA (wA (wA (wA v 13 ((v.1 0 15).toNatClampNeg) (21 : Int32)) 14 ((v.1 0 15).toNatClampNeg) pa) 0 15 ((v.1 0 15) + (1 : Int32))) 11 ((v.1 0 12).toNatClampNeg) (0 : Int32)) 0 12 ((v.1 0 12) + (1 : Int32)))) := hD
      refine tp_i (y := (v.1 0 12)) (rfl) ?_
      refine W.widen (k := 0) (n := 0) (Nat.le_refl _) (Nat.le_refl _) ?_
      refine lv_iconst (v := -1) hx hb dX13_operate_441 (by decide) ?_
      refine lv_iconst (v := 5) hx hb dX13_operate_442 (by decide) ?_
      refine cu_v (rn_V (n := 3) (As := [.int (v.1 0 12), .int (-1), .int 5]) (rest := []) hx hb hml hown ht hKK hFx hP hD hS hA (c_m_fix l dC dI cI cB cZ cJ cR tb H.size ad N (wA (wA (wA (wA (wA v 13 ((v.1 0 15).toNatClampNeg) (21 : Int32)) 14 ((v.1 0 15).toNatClampNeg) pa) 0 15 ((v.1 0 15) + (1 : Int32))) 11 ((v.1 0 12).toNatClampNeg) (0 : Int32)) 0 12 ((v.1 0 12) + (1 : Int32))) (v.1 0 12) (-1 : Int32) (5 : Int32) (show 0 ≤ (v.1 0 43).toInt ∧ (v.1 0 43).toInt < 24000 from (om_bd95b2e5c4 zf))) tw_69 tw_70 (by decide +kernel) rfl rfl ⟨Nat.le_of_ble_eq_true rfl, Nat.le_of_ble_eq_true rfl⟩ (List.range (mW ad N cI cZ cJ (wA (wA (wA (wA (wA v 13 ((v.1 0 15).toNatClampNeg) (21 : Int32)) 14 ((v.1 0 15).toNatClampNeg) pa) 0 15 ((v.1 0 15) + (1 : Int32))) 11 ((v.1 0 12).toNatClampNeg) (0 : Int32)) 0 12 ((v.1 0 12) + (1 : Int32)))).length) (rg_map _) (mW_nd _ _ _ _ _ _) rfl rfl rfl rfl hl.1 rfl (Nat.le_of_ble_eq_true rfl) dX13_operate_443 ⟨Nat.le_of_ble_eq_true rfl, Nat.le_of_ble_eq_true rfl⟩) hP hD hS hA (fun u19 H locs hw18 hP hD hS => ?_)
      obtain rfl := hw18
      have z21 : ((v.1 0 43) + (1 : Int32)).toInt = ((v.1 0 43).toInt) + 1 := add_z rfl (show (1 : Int32).toInt = 1 by decide) (om_92b4e2a060 zf) (om_46bacc0712 zf)
      have hP : va_P (dC, dI) vwCl (mW ad N cI cZ cJ (wA (wA (wA (wA (wA (wA (wA (wA (wA v 13 ((v.1 0 15).toNatClampNeg) (21 : Int32)) 14 ((v.1 0 15).toNatClampNeg) pa) 0 15 ((v.1 0 15) + (1 : Int32))) 11 ((v.1 0 12).toNatClampNeg) (0 : Int32)) 0 12 ((v.1 0 12) + (1 : Int32))) 40 ((v.1 0 43).toNatClampNeg) (v.1 0 12)) 41 ((v.1 0 43).toNatClampNeg) (-1 : Int32)) 42 ((v.1 0 43).toNatClampNeg) (5 : Int32)) 0 43 ((v.1 0 43) + (1 : Int32)))) H := hP
      have hD : va_D A (mW ad N cI cZ cJ (wA (wA (wA (wA (wA (wA (wA (wA (wA v 13 ((v.1 0 15).toNatClampNeg) (21 : Int32)) 14 ((v.1 0 15).toNatClampNeg) pa) 0 15 ((v.1 0 15) + (1 : Int32))) 11 ((v.1 0 12).toNatClampNeg) (0 : Int32)) 0 12 ((v.1 0 12) + (1 : Int32))) 40 ((v.1 0 43).toNatClampNeg) (v.1 0 12)) 41 ((v.1 0 43).toNatClampNeg) (-1 : Int32)) 42 ((v.1 0 43).toNatClampNeg) (5 : Int32)) 0 43 ((v.1 0 43) + (1 : Int32)))) := hD
      refine W.widen (k := 0) (n := 0) (Nat.le_refl _) (Nat.le_refl _) ?_
      refine lv_goto (tgt := 480) hx hb dX13_operate_446 (by decide) ?_
      exact W.vret hx hb hr (fun t ht9 hW => ⟨⟨(wA (wA (wA (wA (wA (wA (wA (wA (wA v 13 ((v.1 0 15).toNatClampNeg) (21 : Int32)) 14 ((v.1 0 15).toNatClampNeg) pa) 0 15 ((v.1 0 15) + (1 : Int32))) 11 ((v.1 0 12).toNatClampNeg) (0 : Int32)) 0 12 ((v.1 0 12) + (1 : Int32))) 40 ((v.1 0 43).toNatClampNeg) (v.1 0 12)) 41 ((v.1 0 43).toNatClampNeg) (-1 : Int32)) 42 ((v.1 0 43).toNatClampNeg) (5 : Int32)) 0 43 ((v.1 0 43) + (1 : Int32))), rfl, ⟨(FG.f (FG.a (FG.a (FG.a (FG.f (FG.a (FG.f (FG.a (FG.a (FG.rf _) ((v.1 0 15).toNatClampNeg) (21 : Int32) (by decide) (by decide)) ((v.1 0 15).toNatClampNeg) pa (by decide) (by decide)) ((v.1 0 15) + (1 : Int32)) (by decide)) ((v.1 0 12).toNatClampNeg) (0 : Int32) (by decide) (by decide)) ((v.1 0 12) + (1 : Int32)) (by decide)) ((v.1 0 43).toNatClampNeg) (v.1 0 12) (by decide) (by decide)) ((v.1 0 43).toNatClampNeg) (-1 : Int32) (by decide) (by decide)) ((v.1 0 43).toNatClampNeg) (5 : Int32) (by decide) (by decide)) ((v.1 0 43) + (1 : Int32)) (by decide)), (show (v.1 0 12).toInt ≤ ((v.1 0 12) + (1 : Int32)).toInt ∧ ((v.1 0 12) + (1 : Int32)).toInt ≤ (v.1 0 12).toInt + 3 from (om_c2ac57be1c z17)), (show ((v.1 0 15) + (1 : Int32)).toInt = (v.1 0 15).toInt + 1 from (om_b2e2930950 z4)), (show (v.1 0 43).toInt ≤ ((v.1 0 43) + (1 : Int32)).toInt ∧ ((v.1 0 43) + (1 : Int32)).toInt ≤ (v.1 0 43).toInt + 1 from (om_4ef855bd84 z21)), (fun (j9 : Nat) hj9 => (pk_un3 (a := (v.1 0 12).toInt) rfl (om_4842074e86 zw) (om_4fe904e9bf hj9))), (fun (j9 : Nat) hj9 => (pk_un3 (a := (v.1 0 15).toInt) rfl (om_2ab3f6b9f5 zo) (om_4fe904e9bf hj9))), (fun (j9 : Nat) hj9 => (pk_un3 (a := (v.1 0 15).toInt) rfl (om_2ab3f6b9f5 zo) (om_4fe904e9bf hj9)))⟩, by rw [ht9]; exact hP, hD⟩, hS.F ht9⟩) hS.2.2 dX13_operate_480
    ·
      by_cases h22 : pa = 43
      · refine lv_lookup (off := 123) (tgt := 132) hx hb dX13_operate_9 (by decide) (by rw [h22]; decide) (by decide) ?_
        refine lv_aload_n hx hb dX13_operate_132 rfl (lv_at hl 0 rfl) ?_
        refine lv_iconst (v := 0) hx hb dX13_operate_133 (by decide) ?_
        refine lv_iconst (v := 0) hx hb dX13_operate_134 (by decide) ?_
        refine lv_bipush (v := 10) hx hb dX13_operate_135 (by decide) ?_
        refine lv_iconst (v := 5) hx hb dX13_operate_137 (by decide) ?_
        refine lv_bipush (v := 10) hx hb dX13_operate_138 (by decide) ?_
        refine cu_s (mW_nd _ _ _ _ _ _) (rn_S (n := 5) (As := [.int 0, .int 0, .int 10, .int 5, .int 10]) (rest := [.ref (ad 0)]) hx hb hml hown ht hKK hFx hP hD hS hA (c_m_byR l dC dI cI cB cZ cJ cR tb H.size (0 : Int32) (0 : Int32) (10 : Int32) (5 : Int32) (10 : Int32) ) tw_67 tw_68 (by decide +kernel) rfl rfl ⟨Nat.le_of_ble_eq_true rfl, Nat.le_of_ble_eq_true rfl⟩ [] rfl rfl rfl hl.1 rfl (Nat.le_of_ble_eq_true rfl) dX13_operate_140 ⟨Nat.le_of_ble_eq_true rfl, Nat.le_of_ble_eq_true rfl⟩) hP hD hS hA (fun r25 H locs hw23 hP hD hS => ?_)
        refine W.widen (k := 0) (n := 0) (Nat.le_refl _) (Nat.le_refl _) ?_
        refine cu_i (rn_V (n := 1) (As := [.int r25]) (rest := []) hx hb hml hown ht hKK hFx hP hD hS hA (c_m_emit l dC dI cI cB cZ cJ cR tb H.size ad N (wA (wA (wA v 13 ((v.1 0 15).toNatClampNeg) (21 : Int32)) 14 ((v.1 0 15).toNatClampNeg) pa) 0 15 ((v.1 0 15) + (1 : Int32))) r25 (show 0 ≤ (v.1 0 12).toInt ∧ (v.1 0 12).toInt < 24000 from (om_bd95b2e5c4 zw))) tw_8 tw_9 (by decide +kernel) rfl rfl ⟨Nat.le_of_ble_eq_true rfl, Nat.le_of_ble_eq_true rfl⟩ (List.range (mW ad N cI cZ cJ (wA (wA (wA v 13 ((v.1 0 15).toNatClampNeg) (21 : Int32)) 14 ((v.1 0 15).toNatClampNeg) pa) 0 15 ((v.1 0 15) + (1 : Int32)))).length) (rg_map _) (mW_nd _ _ _ _ _ _) rfl rfl rfl rfl hl.1 rfl (Nat.le_of_ble_eq_true rfl) dX13_operate_143 ⟨Nat.le_of_ble_eq_true rfl, Nat.le_of_ble_eq_true rfl⟩) hP hD hS hA (fun r28 u27 H locs hw26 hP hD hS => ?_)
        obtain ⟨rfl, rfl⟩ := hw26
        have z29 : ((v.1 0 12) + (1 : Int32)).toInt = ((v.1 0 12).toInt) + 1 := add_z rfl (show (1 : Int32).toInt = 1 by decide) (om_92b4e2a060 zw) (om_46bacc0712 zw)
        have hP : va_P (dC, dI) vwCl (mW ad N cI cZ cJ (wA (wA (wA (wA (wA v 13 ((v.1 0 15).toNatClampNeg) (21 : Int32)) 14 ((v.1 0 15).toNatClampNeg) pa) 0 15 ((v.1 0 15) + (1 : Int32))) 11 ((v.1 0 12).toNatClampNeg) r25) 0 12 ((v.1 0 12) + (1 : Int32)))) H := hP
        have hD : va_D A (mW ad N cI cZ cJ (wA (wA (wA (wA (wA v 13 ((v.1 0 15).toNatClampNeg) (21 : Int32)) 14 ((v.1 0 15).toNatClampNeg) pa) 0 15 ((v.1 0 15) + (1 : Int32))) 11 ((v.1 0 12).toNatClampNeg) r25) 0 12 ((v.1 0 12) + (1 : Int32)))) := hD
        refine tp_i (y := (v.1 0 12)) (rfl) ?_
        refine W.widen (k := 0) (n := 0) (Nat.le_refl _) (Nat.le_refl _) ?_
        refine lv_pop hx hb dX13_operate_146 rfl ?_
        refine lv_goto (tgt := 480) hx hb dX13_operate_147 (by decide) ?_
        exact W.vret hx hb hr (fun t ht9 hW => ⟨⟨(wA (wA (wA (wA (wA v 13 ((v.1 0 15).toNatClampNeg) (21 : Int32)) 14 ((v.1 0 15).toNatClampNeg) pa) 0 15 ((v.1 0 15) + (1 : Int32))) 11 ((v.1 0 12).toNatClampNeg) r25) 0 12 ((v.1 0 12) + (1 : Int32))), rfl, ⟨(FG.f (FG.a (FG.f (FG.a (FG.a (FG.rf _) ((v.1 0 15).toNatClampNeg) (21 : Int32) (by decide) (by decide)) ((v.1 0 15).toNatClampNeg) pa (by decide) (by decide)) ((v.1 0 15) + (1 : Int32)) (by decide)) ((v.1 0 12).toNatClampNeg) r25 (by decide) (by decide)) ((v.1 0 12) + (1 : Int32)) (by decide)), (show (v.1 0 12).toInt ≤ ((v.1 0 12) + (1 : Int32)).toInt ∧ ((v.1 0 12) + (1 : Int32)).toInt ≤ (v.1 0 12).toInt + 3 from (om_c2ac57be1c z29)), (show ((v.1 0 15) + (1 : Int32)).toInt = (v.1 0 15).toInt + 1 from (om_b2e2930950 z4)), (show (v.1 0 43).toInt ≤ (v.1 0 43).toInt ∧ (v.1 0 43).toInt ≤ (v.1 0 43).toInt + 1 from om_b79dd2a91d), (fun (j9 : Nat) hj9 => (pk_un3 (a := (v.1 0 12).toInt) rfl (om_4842074e86 zw) (om_4fe904e9bf hj9))), (fun (j9 : Nat) hj9 => (pk_un3 (a := (v.1 0 15).toInt) rfl (om_2ab3f6b9f5 zo) (om_4fe904e9bf hj9))), (fun (j9 : Nat) hj9 => (pk_un3 (a := (v.1 0 15).toInt) rfl (om_2ab3f6b9f5 zo) (om_4fe904e9bf hj9)))⟩, by rw [ht9]; exact hP, hD⟩, hS.F ht9⟩) hS.2.2 dX13_operate_480
      ·
        by_cases h30 : pa = 45
        · refine lv_lookup (off := 141) (tgt := 150) hx hb dX13_operate_9 (by decide) (by rw [h30]; decide) (by decide) ?_
          refine lv_aload_n hx hb dX13_operate_150 rfl (lv_at hl 0 rfl) ?_
          refine lv_bipush (v := 32) hx hb dX13_operate_151 (by decide) ?_
          refine lv_iconst (v := 0) hx hb dX13_operate_153 (by decide) ?_
          refine lv_bipush (v := 10) hx hb dX13_operate_154 (by decide) ?_
          refine lv_iconst (v := 5) hx hb dX13_operate_156 (by decide) ?_
          refine lv_bipush (v := 10) hx hb dX13_operate_157 (by decide) ?_
          refine cu_s (mW_nd _ _ _ _ _ _) (rn_S (n := 5) (As := [.int 32, .int 0, .int 10, .int 5, .int 10]) (rest := [.ref (ad 0)]) hx hb hml hown ht hKK hFx hP hD hS hA (c_m_byR l dC dI cI cB cZ cJ cR tb H.size (32 : Int32) (0 : Int32) (10 : Int32) (5 : Int32) (10 : Int32) ) tw_67 tw_68 (by decide +kernel) rfl rfl ⟨Nat.le_of_ble_eq_true rfl, Nat.le_of_ble_eq_true rfl⟩ [] rfl rfl rfl hl.1 rfl (Nat.le_of_ble_eq_true rfl) dX13_operate_159 ⟨Nat.le_of_ble_eq_true rfl, Nat.le_of_ble_eq_true rfl⟩) hP hD hS hA (fun r33 H locs hw31 hP hD hS => ?_)
          refine W.widen (k := 0) (n := 0) (Nat.le_refl _) (Nat.le_refl _) ?_
          refine cu_i (rn_V (n := 1) (As := [.int r33]) (rest := []) hx hb hml hown ht hKK hFx hP hD hS hA (c_m_emit l dC dI cI cB cZ cJ cR tb H.size ad N (wA (wA (wA v 13 ((v.1 0 15).toNatClampNeg) (21 : Int32)) 14 ((v.1 0 15).toNatClampNeg) pa) 0 15 ((v.1 0 15) + (1 : Int32))) r33 (show 0 ≤ (v.1 0 12).toInt ∧ (v.1 0 12).toInt < 24000 from (om_bd95b2e5c4 zw))) tw_8 tw_9 (by decide +kernel) rfl rfl ⟨Nat.le_of_ble_eq_true rfl, Nat.le_of_ble_eq_true rfl⟩ (List.range (mW ad N cI cZ cJ (wA (wA (wA v 13 ((v.1 0 15).toNatClampNeg) (21 : Int32)) 14 ((v.1 0 15).toNatClampNeg) pa) 0 15 ((v.1 0 15) + (1 : Int32)))).length) (rg_map _) (mW_nd _ _ _ _ _ _) rfl rfl rfl rfl hl.1 rfl (Nat.le_of_ble_eq_true rfl) dX13_operate_162 ⟨Nat.le_of_ble_eq_true rfl, Nat.le_of_ble_eq_true rfl⟩) hP hD hS hA (fun r36 u35 H locs hw34 hP hD hS => ?_)
          obtain ⟨rfl, rfl⟩ := hw34
          have z37 : ((v.1 0 12) + (1 : Int32)).toInt = ((v.1 0 12).toInt) + 1 := add_z rfl (show (1 : Int32).toInt = 1 by decide) (om_92b4e2a060 zw) (om_46bacc0712 zw)
          have hP : va_P (dC, dI) vwCl (mW ad N cI cZ cJ (wA (wA (wA (wA (wA v 13 ((v.1 0 15).toNatClampNeg) (21 : Int32)) 14 ((v.1 0 15).toNatClampNeg) pa) 0 15 ((v.1 0 15) + (1 : Int32))) 11 ((v.1 0 12).toNatClampNeg) r33) 0 12 ((v.1 0 12) + (1 : Int32)))) H := hP
          have hD : va_D A (mW ad N cI cZ cJ (wA (wA (wA (wA (wA v 13 ((v.1 0 15).toNatClampNeg) (21 : Int32)) 14 ((v.1 0 15).toNatClampNeg) pa) 0 15 ((v.1 0 15) + (1 : Int32))) 11 ((v.1 0 12).toNatClampNeg) r33) 0 12 ((v.1 0 12) + (1 : Int32)))) := hD
          refine tp_i (y := (v.1 0 12)) (rfl) ?_
          refine W.widen (k := 0) (n := 0) (Nat.le_refl _) (Nat.le_refl _) ?_
          refine lv_pop hx hb dX13_operate_165 rfl ?_
          refine lv_goto (tgt := 480) hx hb dX13_operate_166 (by decide) ?_
          exact W.vret hx hb hr (fun t ht9 hW => ⟨⟨(wA (wA (wA (wA (wA v 13 ((v.1 0 15).toNatClampNeg) (21 : Int32)) 14 ((v.1 0 15).toNatClampNeg) pa) 0 15 ((v.1 0 15) + (1 : Int32))) 11 ((v.1 0 12).toNatClampNeg) r33) 0 12 ((v.1 0 12) + (1 : Int32))), rfl, ⟨(FG.f (FG.a (FG.f (FG.a (FG.a (FG.rf _) ((v.1 0 15).toNatClampNeg) (21 : Int32) (by decide) (by decide)) ((v.1 0 15).toNatClampNeg) pa (by decide) (by decide)) ((v.1 0 15) + (1 : Int32)) (by decide)) ((v.1 0 12).toNatClampNeg) r33 (by decide) (by decide)) ((v.1 0 12) + (1 : Int32)) (by decide)), (show (v.1 0 12).toInt ≤ ((v.1 0 12) + (1 : Int32)).toInt ∧ ((v.1 0 12) + (1 : Int32)).toInt ≤ (v.1 0 12).toInt + 3 from (om_c2ac57be1c z37)), (show ((v.1 0 15) + (1 : Int32)).toInt = (v.1 0 15).toInt + 1 from (om_b2e2930950 z4)), (show (v.1 0 43).toInt ≤ (v.1 0 43).toInt ∧ (v.1 0 43).toInt ≤ (v.1 0 43).toInt + 1 from om_b79dd2a91d), (fun (j9 : Nat) hj9 => (pk_un3 (a := (v.1 0 12).toInt) rfl (om_4842074e86 zw) (om_4fe904e9bf hj9))), (fun (j9 : Nat) hj9 => (pk_un3 (a := (v.1 0 15).toInt) rfl (om_2ab3f6b9f5 zo) (om_4fe904e9bf hj9))), (fun (j9 : Nat) hj9 => (pk_un3 (a := (v.1 0 15).toInt) rfl (om_2ab3f6b9f5 zo) (om_4fe904e9bf hj9)))⟩, by rw [ht9]; exact hP, hD⟩, hS.F ht9⟩) hS.2.2 dX13_operate_480
        ·
          by_cases h38 : pa = 60
          · refine lv_lookup (off := 253) (tgt := 262) hx hb dX13_operate_9 (by decide) (by rw [h38]; decide) (by decide) ?_
            refine lv_aload_n hx hb dX13_operate_262 rfl (lv_at hl 0 rfl) ?_
            refine lv_iconst (v := 0) hx hb dX13_operate_263 (by decide) ?_
            refine lv_iconst (v := 2) hx hb dX13_operate_264 (by decide) ?_
            refine lv_bipush (v := 10) hx hb dX13_operate_265 (by decide) ?_
            refine lv_iconst (v := 5) hx hb dX13_operate_267 (by decide) ?_
            refine lv_bipush (v := 10) hx hb dX13_operate_268 (by decide) ?_
            refine cu_s (mW_nd _ _ _ _ _ _) (rn_S (n := 5) (As := [.int 0, .int 2, .int 10, .int 5, .int 10]) (rest := [.ref (ad 0)]) hx hb hml hown ht hKK hFx hP hD hS hA (c_m_byR l dC dI cI cB cZ cJ cR tb H.size (0 : Int32) (2 : Int32) (10 : Int32) (5 : Int32) (10 : Int32) ) tw_67 tw_68 (by decide +kernel) rfl rfl ⟨Nat.le_of_ble_eq_true rfl, Nat.le_of_ble_eq_true rfl⟩ [] rfl rfl rfl hl.1 rfl (Nat.le_of_ble_eq_true rfl) dX13_operate_270 ⟨Nat.le_of_ble_eq_true rfl, Nat.le_of_ble_eq_true rfl⟩) hP hD hS hA (fun r41 H locs hw39 hP hD hS => ?_)
            refine W.widen (k := 0) (n := 0) (Nat.le_refl _) (Nat.le_refl _) ?_
            refine cu_i (rn_V (n := 1) (As := [.int r41]) (rest := []) hx hb hml hown ht hKK hFx hP hD hS hA (c_m_emit l dC dI cI cB cZ cJ cR tb H.size ad N (wA (wA (wA v 13 ((v.1 0 15).toNatClampNeg) (21 : Int32)) 14 ((v.1 0 15).toNatClampNeg) pa) 0 15 ((v.1 0 15) + (1 : Int32))) r41 (show 0 ≤ (v.1 0 12).toInt ∧ (v.1 0 12).toInt < 24000 from (om_bd95b2e5c4 zw))) tw_8 tw_9 (by decide +kernel) rfl rfl ⟨Nat.le_of_ble_eq_true rfl, Nat.le_of_ble_eq_true rfl⟩ (List.range (mW ad N cI cZ cJ (wA (wA (wA v 13 ((v.1 0 15).toNatClampNeg) (21 : Int32)) 14 ((v.1 0 15).toNatClampNeg) pa) 0 15 ((v.1 0 15) + (1 : Int32)))).length) (rg_map _) (mW_nd _ _ _ _ _ _) rfl rfl rfl rfl hl.1 rfl (Nat.le_of_ble_eq_true rfl) dX13_operate_273 ⟨Nat.le_of_ble_eq_true rfl, Nat.le_of_ble_eq_true rfl⟩) hP hD hS hA (fun r44 u43 H locs hw42 hP hD hS => ?_)
            obtain ⟨rfl, rfl⟩ := hw42
            have z45 : ((v.1 0 12) + (1 : Int32)).toInt = ((v.1 0 12).toInt) + 1 := add_z rfl (show (1 : Int32).toInt = 1 by decide) (om_92b4e2a060 zw) (om_46bacc0712 zw)
            have hP : va_P (dC, dI) vwCl (mW ad N cI cZ cJ (wA (wA (wA (wA (wA v 13 ((v.1 0 15).toNatClampNeg) (21 : Int32)) 14 ((v.1 0 15).toNatClampNeg) pa) 0 15 ((v.1 0 15) + (1 : Int32))) 11 ((v.1 0 12).toNatClampNeg) r41) 0 12 ((v.1 0 12) + (1 : Int32)))) H := hP
            have hD : va_D A (mW ad N cI cZ cJ (wA (wA (wA (wA (wA v 13 ((v.1 0 15).toNatClampNeg) (21 : Int32)) 14 ((v.1 0 15).toNatClampNeg) pa) 0 15 ((v.1 0 15) + (1 : Int32))) 11 ((v.1 0 12).toNatClampNeg) r41) 0 12 ((v.1 0 12) + (1 : Int32)))) := hD
            refine tp_i (y := (v.1 0 12)) (rfl) ?_
            refine W.widen (k := 0) (n := 0) (Nat.le_refl _) (Nat.le_refl _) ?_
            refine lv_pop hx hb dX13_operate_276 rfl ?_
            refine lv_goto (tgt := 480) hx hb dX13_operate_277 (by decide) ?_
            exact W.vret hx hb hr (fun t ht9 hW => ⟨⟨(wA (wA (wA (wA (wA v 13 ((v.1 0 15).toNatClampNeg) (21 : Int32)) 14 ((v.1 0 15).toNatClampNeg) pa) 0 15 ((v.1 0 15) + (1 : Int32))) 11 ((v.1 0 12).toNatClampNeg) r41) 0 12 ((v.1 0 12) + (1 : Int32))), rfl, ⟨(FG.f (FG.a (FG.f (FG.a (FG.a (FG.rf _) ((v.1 0 15).toNatClampNeg) (21 : Int32) (by decide) (by decide)) ((v.1 0 15).toNatClampNeg) pa (by decide) (by decide)) ((v.1 0 15) + (1 : Int32)) (by decide)) ((v.1 0 12).toNatClampNeg) r41 (by decide) (by decide)) ((v.1 0 12) + (1 : Int32)) (by decide)), (show (v.1 0 12).toInt ≤ ((v.1 0 12) + (1 : Int32)).toInt ∧ ((v.1 0 12) + (1 : Int32)).toInt ≤ (v.1 0 12).toInt + 3 from (om_c2ac57be1c z45)), (show ((v.1 0 15) + (1 : Int32)).toInt = (v.1 0 15).toInt + 1 from (om_b2e2930950 z4)), (show (v.1 0 43).toInt ≤ (v.1 0 43).toInt ∧ (v.1 0 43).toInt ≤ (v.1 0 43).toInt + 1 from om_b79dd2a91d), (fun (j9 : Nat) hj9 => (pk_un3 (a := (v.1 0 12).toInt) rfl (om_4842074e86 zw) (om_4fe904e9bf hj9))), (fun (j9 : Nat) hj9 => (pk_un3 (a := (v.1 0 15).toInt) rfl (om_2ab3f6b9f5 zo) (om_4fe904e9bf hj9))), (fun (j9 : Nat) hj9 => (pk_un3 (a := (v.1 0 15).toInt) rfl (om_2ab3f6b9f5 zo) (om_4fe904e9bf hj9)))⟩, by rw [ht9]; exact hP, hD⟩, hS.F ht9⟩) hS.2.2 dX13_operate_480
          ·
            by_cases h46 : pa = 62
            · refine lv_lookup (off := 271) (tgt := 280) hx hb dX13_operate_9 (by decide) (by rw [h46]; decide) (by decide) ?_
              refine lv_aload_n hx hb dX13_operate_280 rfl (lv_at hl 0 rfl) ?_
              refine lv_iconst (v := 0) hx hb dX13_operate_281 (by decide) ?_
              refine lv_iconst (v := 2) hx hb dX13_operate_282 (by decide) ?_
              refine lv_bipush (v := 10) hx hb dX13_operate_283 (by decide) ?_
              refine lv_bipush (v := 10) hx hb dX13_operate_285 (by decide) ?_
              refine lv_iconst (v := 5) hx hb dX13_operate_287 (by decide) ?_
              refine cu_s (mW_nd _ _ _ _ _ _) (rn_S (n := 5) (As := [.int 0, .int 2, .int 10, .int 10, .int 5]) (rest := [.ref (ad 0)]) hx hb hml hown ht hKK hFx hP hD hS hA (c_m_byR l dC dI cI cB cZ cJ cR tb H.size (0 : Int32) (2 : Int32) (10 : Int32) (10 : Int32) (5 : Int32) ) tw_67 tw_68 (by decide +kernel) rfl rfl ⟨Nat.le_of_ble_eq_true rfl, Nat.le_of_ble_eq_true rfl⟩ [] rfl rfl rfl hl.1 rfl (Nat.le_of_ble_eq_true rfl) dX13_operate_288 ⟨Nat.le_of_ble_eq_true rfl, Nat.le_of_ble_eq_true rfl⟩) hP hD hS hA (fun r49 H locs hw47 hP hD hS => ?_)
              refine W.widen (k := 0) (n := 0) (Nat.le_refl _) (Nat.le_refl _) ?_
              refine cu_i (rn_V (n := 1) (As := [.int r49]) (rest := []) hx hb hml hown ht hKK hFx hP hD hS hA (c_m_emit l dC dI cI cB cZ cJ cR tb H.size ad N (wA (wA (wA v 13 ((v.1 0 15).toNatClampNeg) (21 : Int32)) 14 ((v.1 0 15).toNatClampNeg) pa) 0 15 ((v.1 0 15) + (1 : Int32))) r49 (show 0 ≤ (v.1 0 12).toInt ∧ (v.1 0 12).toInt < 24000 from (om_bd95b2e5c4 zw))) tw_8 tw_9 (by decide +kernel) rfl rfl ⟨Nat.le_of_ble_eq_true rfl, Nat.le_of_ble_eq_true rfl⟩ (List.range (mW ad N cI cZ cJ (wA (wA (wA v 13 ((v.1 0 15).toNatClampNeg) (21 : Int32)) 14 ((v.1 0 15).toNatClampNeg) pa) 0 15 ((v.1 0 15) + (1 : Int32)))).length) (rg_map _) (mW_nd _ _ _ _ _ _) rfl rfl rfl rfl hl.1 rfl (Nat.le_of_ble_eq_true rfl) dX13_operate_291 ⟨Nat.le_of_ble_eq_true rfl, Nat.le_of_ble_eq_true rfl⟩) hP hD hS hA (fun r52 u51 H locs hw50 hP hD hS => ?_)
              obtain ⟨rfl, rfl⟩ := hw50
              have z53 : ((v.1 0 12) + (1 : Int32)).toInt = ((v.1 0 12).toInt) + 1 := add_z rfl (show (1 : Int32).toInt = 1 by decide) (om_92b4e2a060 zw) (om_46bacc0712 zw)
              have hP : va_P (dC, dI) vwCl (mW ad N cI cZ cJ (wA (wA (wA (wA (wA v 13 ((v.1 0 15).toNatClampNeg) (21 : Int32)) 14 ((v.1 0 15).toNatClampNeg) pa) 0 15 ((v.1 0 15) + (1 : Int32))) 11 ((v.1 0 12).toNatClampNeg) r49) 0 12 ((v.1 0 12) + (1 : Int32)))) H := hP
              have hD : va_D A (mW ad N cI cZ cJ (wA (wA (wA (wA (wA v 13 ((v.1 0 15).toNatClampNeg) (21 : Int32)) 14 ((v.1 0 15).toNatClampNeg) pa) 0 15 ((v.1 0 15) + (1 : Int32))) 11 ((v.1 0 12).toNatClampNeg) r49) 0 12 ((v.1 0 12) + (1 : Int32)))) := hD
              refine tp_i (y := (v.1 0 12)) (rfl) ?_
              refine W.widen (k := 0) (n := 0) (Nat.le_refl _) (Nat.le_refl _) ?_
              refine lv_pop hx hb dX13_operate_294 rfl ?_
              refine lv_goto (tgt := 480) hx hb dX13_operate_295 (by decide) ?_
              exact W.vret hx hb hr (fun t ht9 hW => ⟨⟨(wA (wA (wA (wA (wA v 13 ((v.1 0 15).toNatClampNeg) (21 : Int32)) 14 ((v.1 0 15).toNatClampNeg) pa) 0 15 ((v.1 0 15) + (1 : Int32))) 11 ((v.1 0 12).toNatClampNeg) r49) 0 12 ((v.1 0 12) + (1 : Int32))), rfl, ⟨(FG.f (FG.a (FG.f (FG.a (FG.a (FG.rf _) ((v.1 0 15).toNatClampNeg) (21 : Int32) (by decide) (by decide)) ((v.1 0 15).toNatClampNeg) pa (by decide) (by decide)) ((v.1 0 15) + (1 : Int32)) (by decide)) ((v.1 0 12).toNatClampNeg) r49 (by decide) (by decide)) ((v.1 0 12) + (1 : Int32)) (by decide)), (show (v.1 0 12).toInt ≤ ((v.1 0 12) + (1 : Int32)).toInt ∧ ((v.1 0 12) + (1 : Int32)).toInt ≤ (v.1 0 12).toInt + 3 from (om_c2ac57be1c z53)), (show ((v.1 0 15) + (1 : Int32)).toInt = (v.1 0 15).toInt + 1 from (om_b2e2930950 z4)), (show (v.1 0 43).toInt ≤ (v.1 0 43).toInt ∧ (v.1 0 43).toInt ≤ (v.1 0 43).toInt + 1 from om_b79dd2a91d), (fun (j9 : Nat) hj9 => (pk_un3 (a := (v.1 0 12).toInt) rfl (om_4842074e86 zw) (om_4fe904e9bf hj9))), (fun (j9 : Nat) hj9 => (pk_un3 (a := (v.1 0 15).toInt) rfl (om_2ab3f6b9f5 zo) (om_4fe904e9bf hj9))), (fun (j9 : Nat) hj9 => (pk_un3 (a := (v.1 0 15).toInt) rfl (om_2ab3f6b9f5 zo) (om_4fe904e9bf hj9)))⟩, by rw [ht9]; exact hP, hD⟩, hS.F ht9⟩) hS.2.2 dX13_operate_480
            ·
              by_cases h54 : pa = 94
              · refine lv_lookup (off := 198) (tgt := 207) hx hb dX13_operate_9 (by decide) (by rw [h54]; decide) (by decide) ?_
                refine lv_aload_n hx hb dX13_operate_207 rfl (lv_at hl 0 rfl) ?_
                refine lv_iconst (v := 0) hx hb dX13_operate_208 (by decide) ?_
                refine lv_iconst (v := 4) hx hb dX13_operate_209 (by decide) ?_
                refine lv_bipush (v := 10) hx hb dX13_operate_210 (by decide) ?_
                refine lv_iconst (v := 5) hx hb dX13_operate_212 (by decide) ?_
                refine lv_bipush (v := 10) hx hb dX13_operate_213 (by decide) ?_
                refine cu_s (mW_nd _ _ _ _ _ _) (rn_S (n := 5) (As := [.int 0, .int 4, .int 10, .int 5, .int 10]) (rest := [.ref (ad 0)]) hx hb hml hown ht hKK hFx hP hD hS hA (c_m_byR l dC dI cI cB cZ cJ cR tb H.size (0 : Int32) (4 : Int32) (10 : Int32) (5 : Int32) (10 : Int32) ) tw_67 tw_68 (by decide +kernel) rfl rfl ⟨Nat.le_of_ble_eq_true rfl, Nat.le_of_ble_eq_true rfl⟩ [] rfl rfl rfl hl.1 rfl (Nat.le_of_ble_eq_true rfl) dX13_operate_215 ⟨Nat.le_of_ble_eq_true rfl, Nat.le_of_ble_eq_true rfl⟩) hP hD hS hA (fun r57 H locs hw55 hP hD hS => ?_)
                refine W.widen (k := 0) (n := 0) (Nat.le_refl _) (Nat.le_refl _) ?_
                refine cu_i (rn_V (n := 1) (As := [.int r57]) (rest := []) hx hb hml hown ht hKK hFx hP hD hS hA (c_m_emit l dC dI cI cB cZ cJ cR tb H.size ad N (wA (wA (wA v 13 ((v.1 0 15).toNatClampNeg) (21 : Int32)) 14 ((v.1 0 15).toNatClampNeg) pa) 0 15 ((v.1 0 15) + (1 : Int32))) r57 (show 0 ≤ (v.1 0 12).toInt ∧ (v.1 0 12).toInt < 24000 from (om_bd95b2e5c4 zw))) tw_8 tw_9 (by decide +kernel) rfl rfl ⟨Nat.le_of_ble_eq_true rfl, Nat.le_of_ble_eq_true rfl⟩ (List.range (mW ad N cI cZ cJ (wA (wA (wA v 13 ((v.1 0 15).toNatClampNeg) (21 : Int32)) 14 ((v.1 0 15).toNatClampNeg) pa) 0 15 ((v.1 0 15) + (1 : Int32)))).length) (rg_map _) (mW_nd _ _ _ _ _ _) rfl rfl rfl rfl hl.1 rfl (Nat.le_of_ble_eq_true rfl) dX13_operate_218 ⟨Nat.le_of_ble_eq_true rfl, Nat.le_of_ble_eq_true rfl⟩) hP hD hS hA (fun r60 u59 H locs hw58 hP hD hS => ?_)
                obtain ⟨rfl, rfl⟩ := hw58
                have z61 : ((v.1 0 12) + (1 : Int32)).toInt = ((v.1 0 12).toInt) + 1 := add_z rfl (show (1 : Int32).toInt = 1 by decide) (om_92b4e2a060 zw) (om_46bacc0712 zw)
                have hP : va_P (dC, dI) vwCl (mW ad N cI cZ cJ (wA (wA (wA (wA (wA v 13 ((v.1 0 15).toNatClampNeg) (21 : Int32)) 14 ((v.1 0 15).toNatClampNeg) pa) 0 15 ((v.1 0 15) + (1 : Int32))) 11 ((v.1 0 12).toNatClampNeg) r57) 0 12 ((v.1 0 12) + (1 : Int32)))) H := hP
                have hD : va_D A (mW ad N cI cZ cJ (wA (wA (wA (wA (wA v 13 ((v.1 0 15).toNatClampNeg) (21 : Int32)) 14 ((v.1 0 15).toNatClampNeg) pa) 0 15 ((v.1 0 15) + (1 : Int32))) 11 ((v.1 0 12).toNatClampNeg) r57) 0 12 ((v.1 0 12) + (1 : Int32)))) := hD
                refine tp_i (y := (v.1 0 12)) (rfl) ?_
                refine W.widen (k := 0) (n := 0) (Nat.le_refl _) (Nat.le_refl _) ?_
                refine lv_pop hx hb dX13_operate_221 rfl ?_
                refine lv_goto (tgt := 480) hx hb dX13_operate_222 (by decide) ?_
                exact W.vret hx hb hr (fun t ht9 hW => ⟨⟨(wA (wA (wA (wA (wA v 13 ((v.1 0 15).toNatClampNeg) (21 : Int32)) 14 ((v.1 0 15).toNatClampNeg) pa) 0 15 ((v.1 0 15) + (1 : Int32))) 11 ((v.1 0 12).toNatClampNeg) r57) 0 12 ((v.1 0 12) + (1 : Int32))), rfl, ⟨(FG.f (FG.a (FG.f (FG.a (FG.a (FG.rf _) ((v.1 0 15).toNatClampNeg) (21 : Int32) (by decide) (by decide)) ((v.1 0 15).toNatClampNeg) pa (by decide) (by decide)) ((v.1 0 15) + (1 : Int32)) (by decide)) ((v.1 0 12).toNatClampNeg) r57 (by decide) (by decide)) ((v.1 0 12) + (1 : Int32)) (by decide)), (show (v.1 0 12).toInt ≤ ((v.1 0 12) + (1 : Int32)).toInt ∧ ((v.1 0 12) + (1 : Int32)).toInt ≤ (v.1 0 12).toInt + 3 from (om_c2ac57be1c z61)), (show ((v.1 0 15) + (1 : Int32)).toInt = (v.1 0 15).toInt + 1 from (om_b2e2930950 z4)), (show (v.1 0 43).toInt ≤ (v.1 0 43).toInt ∧ (v.1 0 43).toInt ≤ (v.1 0 43).toInt + 1 from om_b79dd2a91d), (fun (j9 : Nat) hj9 => (pk_un3 (a := (v.1 0 12).toInt) rfl (om_4842074e86 zw) (om_4fe904e9bf hj9))), (fun (j9 : Nat) hj9 => (pk_un3 (a := (v.1 0 15).toInt) rfl (om_2ab3f6b9f5 zo) (om_4fe904e9bf hj9))), (fun (j9 : Nat) hj9 => (pk_un3 (a := (v.1 0 15).toInt) rfl (om_2ab3f6b9f5 zo) (om_4fe904e9bf hj9)))⟩, by rw [ht9]; exact hP, hD⟩, hS.F ht9⟩) hS.2.2 dX13_operate_480
              ·
                by_cases h62 : pa = 124
                · refine lv_lookup (off := 179) (tgt := 188) hx hb dX13_operate_9 (by decide) (by rw [h62]; decide) (by decide) ?_
                  refine lv_aload_n hx hb dX13_operate_188 rfl (lv_at hl 0 rfl) ?_
                  refine lv_iconst (v := 0) hx hb dX13_operate_189 (by decide) ?_
                  refine lv_bipush (v := 6) hx hb dX13_operate_190 (by decide) ?_
                  refine lv_bipush (v := 10) hx hb dX13_operate_192 (by decide) ?_
                  refine lv_iconst (v := 5) hx hb dX13_operate_194 (by decide) ?_
                  refine lv_bipush (v := 10) hx hb dX13_operate_195 (by decide) ?_
                  refine cu_s (mW_nd _ _ _ _ _ _) (rn_S (n := 5) (As := [.int 0, .int 6, .int 10, .int 5, .int 10]) (rest := [.ref (ad 0)]) hx hb hml hown ht hKK hFx hP hD hS hA (c_m_byR l dC dI cI cB cZ cJ cR tb H.size (0 : Int32) (6 : Int32) (10 : Int32) (5 : Int32) (10 : Int32) ) tw_67 tw_68 (by decide +kernel) rfl rfl ⟨Nat.le_of_ble_eq_true rfl, Nat.le_of_ble_eq_true rfl⟩ [] rfl rfl rfl hl.1 rfl (Nat.le_of_ble_eq_true rfl) dX13_operate_197 ⟨Nat.le_of_ble_eq_true rfl, Nat.le_of_ble_eq_true rfl⟩) hP hD hS hA (fun r65 H locs hw63 hP hD hS => ?_)
                  refine W.widen (k := 0) (n := 0) (Nat.le_refl _) (Nat.le_refl _) ?_
                  refine cu_i (rn_V (n := 1) (As := [.int r65]) (rest := []) hx hb hml hown ht hKK hFx hP hD hS hA (c_m_emit l dC dI cI cB cZ cJ cR tb H.size ad N (wA (wA (wA v 13 ((v.1 0 15).toNatClampNeg) (21 : Int32)) 14 ((v.1 0 15).toNatClampNeg) pa) 0 15 ((v.1 0 15) + (1 : Int32))) r65 (show 0 ≤ (v.1 0 12).toInt ∧ (v.1 0 12).toInt < 24000 from (om_bd95b2e5c4 zw))) tw_8 tw_9 (by decide +kernel) rfl rfl ⟨Nat.le_of_ble_eq_true rfl, Nat.le_of_ble_eq_true rfl⟩ (List.range (mW ad N cI cZ cJ (wA (wA (wA v 13 ((v.1 0 15).toNatClampNeg) (21 : Int32)) 14 ((v.1 0 15).toNatClampNeg) pa) 0 15 ((v.1 0 15) + (1 : Int32)))).length) (rg_map _) (mW_nd _ _ _ _ _ _) rfl rfl rfl rfl hl.1 rfl (Nat.le_of_ble_eq_true rfl) dX13_operate_200 ⟨Nat.le_of_ble_eq_true rfl, Nat.le_of_ble_eq_true rfl⟩) hP hD hS hA (fun r68 u67 H locs hw66 hP hD hS => ?_)
                  obtain ⟨rfl, rfl⟩ := hw66
                  have z69 : ((v.1 0 12) + (1 : Int32)).toInt = ((v.1 0 12).toInt) + 1 := add_z rfl (show (1 : Int32).toInt = 1 by decide) (om_92b4e2a060 zw) (om_46bacc0712 zw)
                  have hP : va_P (dC, dI) vwCl (mW ad N cI cZ cJ (wA (wA (wA (wA (wA v 13 ((v.1 0 15).toNatClampNeg) (21 : Int32)) 14 ((v.1 0 15).toNatClampNeg) pa) 0 15 ((v.1 0 15) + (1 : Int32))) 11 ((v.1 0 12).toNatClampNeg) r65) 0 12 ((v.1 0 12) + (1 : Int32)))) H := hP
                  have hD : va_D A (mW ad N cI cZ cJ (wA (wA (wA (wA (wA v 13 ((v.1 0 15).toNatClampNeg) (21 : Int32)) 14 ((v.1 0 15).toNatClampNeg) pa) 0 15 ((v.1 0 15) + (1 : Int32))) 11 ((v.1 0 12).toNatClampNeg) r65) 0 12 ((v.1 0 12) + (1 : Int32)))) := hD
                  refine tp_i (y := (v.1 0 12)) (rfl) ?_
                  refine W.widen (k := 0) (n := 0) (Nat.le_refl _) (Nat.le_refl _) ?_
                  refine lv_pop hx hb dX13_operate_203 rfl ?_
                  refine lv_goto (tgt := 480) hx hb dX13_operate_204 (by decide) ?_
                  exact W.vret hx hb hr (fun t ht9 hW => ⟨⟨(wA (wA (wA (wA (wA v 13 ((v.1 0 15).toNatClampNeg) (21 : Int32)) 14 ((v.1 0 15).toNatClampNeg) pa) 0 15 ((v.1 0 15) + (1 : Int32))) 11 ((v.1 0 12).toNatClampNeg) r65) 0 12 ((v.1 0 12) + (1 : Int32))), rfl, ⟨(FG.f (FG.a (FG.f (FG.a (FG.a (FG.rf _) ((v.1 0 15).toNatClampNeg) (21 : Int32) (by decide) (by decide)) ((v.1 0 15).toNatClampNeg) pa (by decide) (by decide)) ((v.1 0 15) + (1 : Int32)) (by decide)) ((v.1 0 12).toNatClampNeg) r65 (by decide) (by decide)) ((v.1 0 12) + (1 : Int32)) (by decide)), (show (v.1 0 12).toInt ≤ ((v.1 0 12) + (1 : Int32)).toInt ∧ ((v.1 0 12) + (1 : Int32)).toInt ≤ (v.1 0 12).toInt + 3 from (om_c2ac57be1c z69)), (show ((v.1 0 15) + (1 : Int32)).toInt = (v.1 0 15).toInt + 1 from (om_b2e2930950 z4)), (show (v.1 0 43).toInt ≤ (v.1 0 43).toInt ∧ (v.1 0 43).toInt ≤ (v.1 0 43).toInt + 1 from om_b79dd2a91d), (fun (j9 : Nat) hj9 => (pk_un3 (a := (v.1 0 12).toInt) rfl (om_4842074e86 zw) (om_4fe904e9bf hj9))), (fun (j9 : Nat) hj9 => (pk_un3 (a := (v.1 0 15).toInt) rfl (om_2ab3f6b9f5 zo) (om_4fe904e9bf hj9))), (fun (j9 : Nat) hj9 => (pk_un3 (a := (v.1 0 15).toInt) rfl (om_2ab3f6b9f5 zo) (om_4fe904e9bf hj9)))⟩, by rw [ht9]; exact hP, hD⟩, hS.F ht9⟩) hS.2.2 dX13_operate_480
                ·
                  by_cases h70 : pa = 15420
                  · refine lv_lookup (off := 216) (tgt := 225) hx hb dX13_operate_9 (by decide) (by rw [h70]; decide) (by decide) ?_
                    refine lv_aload_n hx hb dX13_operate_225 rfl (lv_at hl 0 rfl) ?_
                    refine lv_iconst (v := 0) hx hb dX13_operate_226 (by decide) ?_
                    refine lv_iconst (v := 1) hx hb dX13_operate_227 (by decide) ?_
                    refine lv_bipush (v := 10) hx hb dX13_operate_228 (by decide) ?_
                    refine lv_iconst (v := 5) hx hb dX13_operate_230 (by decide) ?_
                    refine lv_bipush (v := 10) hx hb dX13_operate_231 (by decide) ?_
                    refine cu_s (mW_nd _ _ _ _ _ _) (rn_S (n := 5) (As := [.int 0, .int 1, .int 10, .int 5, .int 10]) (rest := [.ref (ad 0)]) hx hb hml hown ht hKK hFx hP hD hS hA (c_m_byR l dC dI cI cB cZ cJ cR tb H.size (0 : Int32) (1 : Int32) (10 : Int32) (5 : Int32) (10 : Int32) ) tw_67 tw_68 (by decide +kernel) rfl rfl ⟨Nat.le_of_ble_eq_true rfl, Nat.le_of_ble_eq_true rfl⟩ [] rfl rfl rfl hl.1 rfl (Nat.le_of_ble_eq_true rfl) dX13_operate_233 ⟨Nat.le_of_ble_eq_true rfl, Nat.le_of_ble_eq_true rfl⟩) hP hD hS hA (fun r73 H locs hw71 hP hD hS => ?_)
                    refine W.widen (k := 0) (n := 0) (Nat.le_refl _) (Nat.le_refl _) ?_
                    refine cu_i (rn_V (n := 1) (As := [.int r73]) (rest := []) hx hb hml hown ht hKK hFx hP hD hS hA (c_m_emit l dC dI cI cB cZ cJ cR tb H.size ad N (wA (wA (wA v 13 ((v.1 0 15).toNatClampNeg) (21 : Int32)) 14 ((v.1 0 15).toNatClampNeg) pa) 0 15 ((v.1 0 15) + (1 : Int32))) r73 (show 0 ≤ (v.1 0 12).toInt ∧ (v.1 0 12).toInt < 24000 from (om_bd95b2e5c4 zw))) tw_8 tw_9 (by decide +kernel) rfl rfl ⟨Nat.le_of_ble_eq_true rfl, Nat.le_of_ble_eq_true rfl⟩ (List.range (mW ad N cI cZ cJ (wA (wA (wA v 13 ((v.1 0 15).toNatClampNeg) (21 : Int32)) 14 ((v.1 0 15).toNatClampNeg) pa) 0 15 ((v.1 0 15) + (1 : Int32)))).length) (rg_map _) (mW_nd _ _ _ _ _ _) rfl rfl rfl rfl hl.1 rfl (Nat.le_of_ble_eq_true rfl) dX13_operate_236 ⟨Nat.le_of_ble_eq_true rfl, Nat.le_of_ble_eq_true rfl⟩) hP hD hS hA (fun r76 u75 H locs hw74 hP hD hS => ?_)
                    obtain ⟨rfl, rfl⟩ := hw74
                    have z77 : ((v.1 0 12) + (1 : Int32)).toInt = ((v.1 0 12).toInt) + 1 := add_z rfl (show (1 : Int32).toInt = 1 by decide) (om_92b4e2a060 zw) (om_46bacc0712 zw)
                    have hP : va_P (dC, dI) vwCl (mW ad N cI cZ cJ (wA (wA (wA (wA (wA v 13 ((v.1 0 15).toNatClampNeg) (21 : Int32)) 14 ((v.1 0 15).toNatClampNeg) pa) 0 15 ((v.1 0 15) + (1 : Int32))) 11 ((v.1 0 12).toNatClampNeg) r73) 0 12 ((v.1 0 12) + (1 : Int32)))) H := hP
                    have hD : va_D A (mW ad N cI cZ cJ (wA (wA (wA (wA (wA v 13 ((v.1 0 15).toNatClampNeg) (21 : Int32)) 14 ((v.1 0 15).toNatClampNeg) pa) 0 15 ((v.1 0 15) + (1 : Int32))) 11 ((v.1 0 12).toNatClampNeg) r73) 0 12 ((v.1 0 12) + (1 : Int32)))) := hD
                    refine tp_i (y := (v.1 0 12)) (rfl) ?_
                    refine W.widen (k := 0) (n := 0) (Nat.le_refl _) (Nat.le_refl _) ?_
                    refine lv_pop hx hb dX13_operate_239 rfl ?_
                    refine lv_goto (tgt := 480) hx hb dX13_operate_240 (by decide) ?_
                    exact W.vret hx hb hr (fun t ht9 hW => ⟨⟨(wA (wA (wA (wA (wA v 13 ((v.1 0 15).toNatClampNeg) (21 : Int32)) 14 ((v.1 0 15).toNatClampNeg) pa) 0 15 ((v.1 0 15) + (1 : Int32))) 11 ((v.1 0 12).toNatClampNeg) r73) 0 12 ((v.1 0 12) + (1 : Int32))), rfl, ⟨(FG.f (FG.a (FG.f (FG.a (FG.a (FG.rf _) ((v.1 0 15).toNatClampNeg) (21 : Int32) (by decide) (by decide)) ((v.1 0 15).toNatClampNeg) pa (by decide) (by decide)) ((v.1 0 15) + (1 : Int32)) (by decide)) ((v.1 0 12).toNatClampNeg) r73 (by decide) (by decide)) ((v.1 0 12) + (1 : Int32)) (by decide)), (show (v.1 0 12).toInt ≤ ((v.1 0 12) + (1 : Int32)).toInt ∧ ((v.1 0 12) + (1 : Int32)).toInt ≤ (v.1 0 12).toInt + 3 from (om_c2ac57be1c z77)), (show ((v.1 0 15) + (1 : Int32)).toInt = (v.1 0 15).toInt + 1 from (om_b2e2930950 z4)), (show (v.1 0 43).toInt ≤ (v.1 0 43).toInt ∧ (v.1 0 43).toInt ≤ (v.1 0 43).toInt + 1 from om_b79dd2a91d), (fun (j9 : Nat) hj9 => (pk_un3 (a := (v.1 0 12).toInt) rfl (om_4842074e86 zw) (om_4fe904e9bf hj9))), (fun (j9 : Nat) hj9 => (pk_un3 (a := (v.1 0 15).toInt) rfl (om_2ab3f6b9f5 zo) (om_4fe904e9bf hj9))), (fun (j9 : Nat) hj9 => (pk_un3 (a := (v.1 0 15).toInt) rfl (om_2ab3f6b9f5 zo) (om_4fe904e9bf hj9)))⟩, by rw [ht9]; exact hP, hD⟩, hS.F ht9⟩) hS.2.2 dX13_operate_480
                  ·
                    by_cases h78 : pa = 15649
                    · refine lv_lookup (off := 392) (tgt := 401) hx hb dX13_operate_9 (by decide) (by rw [h78]; decide) (by decide) ?_
                      refine lv_aload_n hx hb dX13_operate_401 rfl (lv_at hl 0 rfl) ?_
                      refine lv_bipush (v := 32) hx hb dX13_operate_402 (by decide) ?_
                      refine lv_iconst (v := 0) hx hb dX13_operate_404 (by decide) ?_
                      refine lv_bipush (v := 10) hx hb dX13_operate_405 (by decide) ?_
                      refine lv_iconst (v := 5) hx hb dX13_operate_407 (by decide) ?_
                      refine lv_bipush (v := 10) hx hb dX13_operate_408 (by decide) ?_
                      refine cu_s (mW_nd _ _ _ _ _ _) (rn_S (n := 5) (As := [.int 32, .int 0, .int 10, .int 5, .int 10]) (rest := [.ref (ad 0)]) hx hb hml hown ht hKK hFx hP hD hS hA (c_m_byR l dC dI cI cB cZ cJ cR tb H.size (32 : Int32) (0 : Int32) (10 : Int32) (5 : Int32) (10 : Int32) ) tw_67 tw_68 (by decide +kernel) rfl rfl ⟨Nat.le_of_ble_eq_true rfl, Nat.le_of_ble_eq_true rfl⟩ [] rfl rfl rfl hl.1 rfl (Nat.le_of_ble_eq_true rfl) dX13_operate_410 ⟨Nat.le_of_ble_eq_true rfl, Nat.le_of_ble_eq_true rfl⟩) hP hD hS hA (fun r81 H locs hw79 hP hD hS => ?_)
                      refine W.widen (k := 0) (n := 0) (Nat.le_refl _) (Nat.le_refl _) ?_
                      refine cu_i (rn_V (n := 1) (As := [.int r81]) (rest := []) hx hb hml hown ht hKK hFx hP hD hS hA (c_m_emit l dC dI cI cB cZ cJ cR tb H.size ad N (wA (wA (wA v 13 ((v.1 0 15).toNatClampNeg) (21 : Int32)) 14 ((v.1 0 15).toNatClampNeg) pa) 0 15 ((v.1 0 15) + (1 : Int32))) r81 (show 0 ≤ (v.1 0 12).toInt ∧ (v.1 0 12).toInt < 24000 from (om_bd95b2e5c4 zw))) tw_8 tw_9 (by decide +kernel) rfl rfl ⟨Nat.le_of_ble_eq_true rfl, Nat.le_of_ble_eq_true rfl⟩ (List.range (mW ad N cI cZ cJ (wA (wA (wA v 13 ((v.1 0 15).toNatClampNeg) (21 : Int32)) 14 ((v.1 0 15).toNatClampNeg) pa) 0 15 ((v.1 0 15) + (1 : Int32)))).length) (rg_map _) (mW_nd _ _ _ _ _ _) rfl rfl rfl rfl hl.1 rfl (Nat.le_of_ble_eq_true rfl) dX13_operate_413 ⟨Nat.le_of_ble_eq_true rfl, Nat.le_of_ble_eq_true rfl⟩) hP hD hS hA (fun r84 u83 H locs hw82 hP hD hS => ?_)
                      obtain ⟨rfl, rfl⟩ := hw82
                      have z85 : ((v.1 0 12) + (1 : Int32)).toInt = ((v.1 0 12).toInt) + 1 := add_z rfl (show (1 : Int32).toInt = 1 by decide) (om_92b4e2a060 zw) (om_46bacc0712 zw)
                      have hP : va_P (dC, dI) vwCl (mW ad N cI cZ cJ (wA (wA (wA (wA (wA v 13 ((v.1 0 15).toNatClampNeg) (21 : Int32)) 14 ((v.1 0 15).toNatClampNeg) pa) 0 15 ((v.1 0 15) + (1 : Int32))) 11 ((v.1 0 12).toNatClampNeg) r81) 0 12 ((v.1 0 12) + (1 : Int32)))) H := hP
                      have hD : va_D A (mW ad N cI cZ cJ (wA (wA (wA (wA (wA v 13 ((v.1 0 15).toNatClampNeg) (21 : Int32)) 14 ((v.1 0 15).toNatClampNeg) pa) 0 15 ((v.1 0 15) + (1 : Int32))) 11 ((v.1 0 12).toNatClampNeg) r81) 0 12 ((v.1 0 12) + (1 : Int32)))) := hD
                      refine tp_i (y := (v.1 0 12)) (rfl) ?_
                      refine W.widen (k := 0) (n := 0) (Nat.le_refl _) (Nat.le_refl _) ?_
                      refine lv_pop hx hb dX13_operate_416 rfl ?_
                      refine lv_aload_n hx hb dX13_operate_417 rfl (lv_at hl 0 rfl) ?_
                      refine lv_iconst (v := 0) hx hb dX13_operate_418 (by decide) ?_
                      refine lv_iconst (v := 3) hx hb dX13_operate_419 (by decide) ?_
                      refine lv_bipush (v := 10) hx hb dX13_operate_420 (by decide) ?_
                      refine lv_iconst (v := 0) hx hb dX13_operate_422 (by decide) ?_
                      refine lv_bipush (v := 10) hx hb dX13_operate_423 (by decide) ?_
                      refine cu_s (mW_nd _ _ _ _ _ _) (rn_S (n := 5) (As := [.int 0, .int 3, .int 10, .int 0, .int 10]) (rest := [.ref (ad 0)]) hx hb hml hown ht hKK hFx hP hD hS hA (c_m_byR l dC dI cI cB cZ cJ cR tb H.size (0 : Int32) (3 : Int32) (10 : Int32) (0 : Int32) (10 : Int32) ) tw_67 tw_68 (by decide +kernel) rfl rfl ⟨Nat.le_of_ble_eq_true rfl, Nat.le_of_ble_eq_true rfl⟩ [] rfl rfl rfl hl.1 rfl (Nat.le_of_ble_eq_true rfl) dX13_operate_425 ⟨Nat.le_of_ble_eq_true rfl, Nat.le_of_ble_eq_true rfl⟩) hP hD hS hA (fun r88 H locs hw86 hP hD hS => ?_)
                      refine W.widen (k := 0) (n := 0) (Nat.le_refl _) (Nat.le_refl _) ?_
                      refine cu_i (rn_V (n := 1) (As := [.int r88]) (rest := []) hx hb hml hown ht hKK hFx hP hD hS hA (c_m_emit l dC dI cI cB cZ cJ cR tb H.size ad N (wA (wA (wA (wA (wA v 13 ((v.1 0 15).toNatClampNeg) (21 : Int32)) 14 ((v.1 0 15).toNatClampNeg) pa) 0 15 ((v.1 0 15) + (1 : Int32))) 11 ((v.1 0 12).toNatClampNeg) r81) 0 12 ((v.1 0 12) + (1 : Int32))) r88 (show 0 ≤ ((v.1 0 12) + (1 : Int32)).toInt ∧ ((v.1 0 12) + (1 : Int32)).toInt < 24000 from (om_036dd2a3e0 zw z85))) tw_8 tw_9 (by decide +kernel) rfl rfl ⟨Nat.le_of_ble_eq_true rfl, Nat.le_of_ble_eq_true rfl⟩ (List.range (mW ad N cI cZ cJ (wA (wA (wA (wA (wA v 13 ((v.1 0 15).toNatClampNeg) (21 : Int32)) 14 ((v.1 0 15).toNatClampNeg) pa) 0 15 ((v.1 0 15) + (1 : Int32))) 11 ((v.1 0 12).toNatClampNeg) r81) 0 12 ((v.1 0 12) + (1 : Int32)))).length) (rg_map _) (mW_nd _ _ _ _ _ _) rfl rfl rfl rfl hl.1 rfl (Nat.le_of_ble_eq_true rfl) dX13_operate_428 ⟨Nat.le_of_ble_eq_true rfl, Nat.le_of_ble_eq_true rfl⟩) hP hD hS hA (fun r91 u90 H locs hw89 hP hD hS => ?_)
                      obtain ⟨rfl, rfl⟩ := hw89
                      have z92 : (((v.1 0 12) + (1 : Int32)) + (1 : Int32)).toInt = (((v.1 0 12).toInt) + 1) + 1 := add_z z85 (show (1 : Int32).toInt = 1 by decide) (om_f6b9a2a44c zw) (om_86af896540 zw)
                      have hP : va_P (dC, dI) vwCl (mW ad N cI cZ cJ (wA (wA (wA (wA (wA (wA (wA v 13 ((v.1 0 15).toNatClampNeg) (21 : Int32)) 14 ((v.1 0 15).toNatClampNeg) pa) 0 15 ((v.1 0 15) + (1 : Int32))) 11 ((v.1 0 12).toNatClampNeg) r81) 0 12 ((v.1 0 12) + (1 : Int32))) 11 (((v.1 0 12) + (1 : Int32)).toNatClampNeg) r88) 0 12 (((v.1 0 12) + (1 : Int32)) + (1 : Int32)))) H := hP
                      have hD : va_D A (mW ad N cI cZ cJ (wA (wA (wA (wA (wA (wA (wA v 13 ((v.1 0 15).toNatClampNeg) (21 : Int32)) 14 ((v.1 0 15).toNatClampNeg) pa) 0 15 ((v.1 0 15) + (1 : Int32))) 11 ((v.1 0 12).toNatClampNeg) r81) 0 12 ((v.1 0 12) + (1 : Int32))) 11 (((v.1 0 12) + (1 : Int32)).toNatClampNeg) r88) 0 12 (((v.1 0 12) + (1 : Int32)) + (1 : Int32)))) := hD
                      refine tp_i (y := ((v.1 0 12) + (1 : Int32))) (rfl) ?_
                      refine W.widen (k := 0) (n := 0) (Nat.le_refl _) (Nat.le_refl _) ?_
                      refine lv_pop hx hb dX13_operate_431 rfl ?_
                      refine lv_goto (tgt := 480) hx hb dX13_operate_432 (by decide) ?_
                      exact W.vret hx hb hr (fun t ht9 hW => ⟨⟨(wA (wA (wA (wA (wA (wA (wA v 13 ((v.1 0 15).toNatClampNeg) (21 : Int32)) 14 ((v.1 0 15).toNatClampNeg) pa) 0 15 ((v.1 0 15) + (1 : Int32))) 11 ((v.1 0 12).toNatClampNeg) r81) 0 12 ((v.1 0 12) + (1 : Int32))) 11 (((v.1 0 12) + (1 : Int32)).toNatClampNeg) r88) 0 12 (((v.1 0 12) + (1 : Int32)) + (1 : Int32))), rfl, ⟨(FG.f (FG.a (FG.f (FG.a (FG.f (FG.a (FG.a (FG.rf _) ((v.1 0 15).toNatClampNeg) (21 : Int32) (by decide) (by decide)) ((v.1 0 15).toNatClampNeg) pa (by decide) (by decide)) ((v.1 0 15) + (1 : Int32)) (by decide)) ((v.1 0 12).toNatClampNeg) r81 (by decide) (by decide)) ((v.1 0 12) + (1 : Int32)) (by decide)) (((v.1 0 12) + (1 : Int32)).toNatClampNeg) r88 (by decide) (by decide)) (((v.1 0 12) + (1 : Int32)) + (1 : Int32)) (by decide)), (show (v.1 0 12).toInt ≤ (((v.1 0 12) + (1 : Int32)) + (1 : Int32)).toInt ∧ (((v.1 0 12) + (1 : Int32)) + (1 : Int32)).toInt ≤ (v.1 0 12).toInt + 3 from (om_1d95865769 z92)), (show ((v.1 0 15) + (1 : Int32)).toInt = (v.1 0 15).toInt + 1 from (om_b2e2930950 z4)), (show (v.1 0 43).toInt ≤ (v.1 0 43).toInt ∧ (v.1 0 43).toInt ≤ (v.1 0 43).toInt + 1 from om_b79dd2a91d), (fun (j9 : Nat) hj9 => (Eq.trans (pk_un3 (a := ((v.1 0 12) + (1 : Int32)).toInt) rfl (om_e7e2a26263 zw z85) (om_3370121707 z85 hj9)) (pk_un3 (a := (v.1 0 12).toInt) rfl (om_4842074e86 zw) (om_4fe904e9bf hj9)))), (fun (j9 : Nat) hj9 => (pk_un3 (a := (v.1 0 15).toInt) rfl (om_2ab3f6b9f5 zo) (om_4fe904e9bf hj9))), (fun (j9 : Nat) hj9 => (pk_un3 (a := (v.1 0 15).toInt) rfl (om_2ab3f6b9f5 zo) (om_4fe904e9bf hj9)))⟩, by rw [ht9]; exact hP, hD⟩, hS.F ht9⟩) hS.2.2 dX13_operate_480
                    ·
                      by_cases h93 : pa = 15676
                      · refine lv_lookup (off := 289) (tgt := 298) hx hb dX13_operate_9 (by decide) (by rw [h93]; decide) (by decide) ?_
                        refine lv_aload_n hx hb dX13_operate_298 rfl (lv_at hl 0 rfl) ?_
                        refine lv_iconst (v := 0) hx hb dX13_operate_299 (by decide) ?_
                        refine lv_iconst (v := 2) hx hb dX13_operate_300 (by decide) ?_
                        refine lv_bipush (v := 10) hx hb dX13_operate_301 (by decide) ?_
                        refine lv_bipush (v := 10) hx hb dX13_operate_303 (by decide) ?_
                        refine lv_iconst (v := 5) hx hb dX13_operate_305 (by decide) ?_
                        refine cu_s (mW_nd _ _ _ _ _ _) (rn_S (n := 5) (As := [.int 0, .int 2, .int 10, .int 10, .int 5]) (rest := [.ref (ad 0)]) hx hb hml hown ht hKK hFx hP hD hS hA (c_m_byR l dC dI cI cB cZ cJ cR tb H.size (0 : Int32) (2 : Int32) (10 : Int32) (10 : Int32) (5 : Int32) ) tw_67 tw_68 (by decide +kernel) rfl rfl ⟨Nat.le_of_ble_eq_true rfl, Nat.le_of_ble_eq_true rfl⟩ [] rfl rfl rfl hl.1 rfl (Nat.le_of_ble_eq_true rfl) dX13_operate_306 ⟨Nat.le_of_ble_eq_true rfl, Nat.le_of_ble_eq_true rfl⟩) hP hD hS hA (fun r96 H locs hw94 hP hD hS => ?_)
                        refine W.widen (k := 0) (n := 0) (Nat.le_refl _) (Nat.le_refl _) ?_
                        refine cu_i (rn_V (n := 1) (As := [.int r96]) (rest := []) hx hb hml hown ht hKK hFx hP hD hS hA (c_m_emit l dC dI cI cB cZ cJ cR tb H.size ad N (wA (wA (wA v 13 ((v.1 0 15).toNatClampNeg) (21 : Int32)) 14 ((v.1 0 15).toNatClampNeg) pa) 0 15 ((v.1 0 15) + (1 : Int32))) r96 (show 0 ≤ (v.1 0 12).toInt ∧ (v.1 0 12).toInt < 24000 from (om_bd95b2e5c4 zw))) tw_8 tw_9 (by decide +kernel) rfl rfl ⟨Nat.le_of_ble_eq_true rfl, Nat.le_of_ble_eq_true rfl⟩ (List.range (mW ad N cI cZ cJ (wA (wA (wA v 13 ((v.1 0 15).toNatClampNeg) (21 : Int32)) 14 ((v.1 0 15).toNatClampNeg) pa) 0 15 ((v.1 0 15) + (1 : Int32)))).length) (rg_map _) (mW_nd _ _ _ _ _ _) rfl rfl rfl rfl hl.1 rfl (Nat.le_of_ble_eq_true rfl) dX13_operate_309 ⟨Nat.le_of_ble_eq_true rfl, Nat.le_of_ble_eq_true rfl⟩) hP hD hS hA (fun r99 u98 H locs hw97 hP hD hS => ?_)
                        obtain ⟨rfl, rfl⟩ := hw97
                        have z100 : ((v.1 0 12) + (1 : Int32)).toInt = ((v.1 0 12).toInt) + 1 := add_z rfl (show (1 : Int32).toInt = 1 by decide) (om_92b4e2a060 zw) (om_46bacc0712 zw)
                        have hP : va_P (dC, dI) vwCl (mW ad N cI cZ cJ (wA (wA (wA (wA (wA v 13 ((v.1 0 15).toNatClampNeg) (21 : Int32)) 14 ((v.1 0 15).toNatClampNeg) pa) 0 15 ((v.1 0 15) + (1 : Int32))) 11 ((v.1 0 12).toNatClampNeg) r96) 0 12 ((v.1 0 12) + (1 : Int32)))) H := hP
                        have hD : va_D A (mW ad N cI cZ cJ (wA (wA (wA (wA (wA v 13 ((v.1 0 15).toNatClampNeg) (21 : Int32)) 14 ((v.1 0 15).toNatClampNeg) pa) 0 15 ((v.1 0 15) + (1 : Int32))) 11 ((v.1 0 12).toNatClampNeg) r96) 0 12 ((v.1 0 12) + (1 : Int32)))) := hD
                        refine tp_i (y := (v.1 0 12)) (rfl) ?_
                        refine W.widen (k := 0) (n := 0) (Nat.le_refl _) (Nat.le_refl _) ?_
                        refine lv_pop hx hb dX13_operate_312 rfl ?_
                        refine lv_aload_n hx hb dX13_operate_313 rfl (lv_at hl 0 rfl) ?_
                        refine lv_bipush (v := 19) hx hb dX13_operate_314 (by decide) ?_
                        refine lv_iconst (v := 4) hx hb dX13_operate_316 (by decide) ?_
                        refine lv_bipush (v := 10) hx hb dX13_operate_317 (by decide) ?_
                        refine lv_bipush (v := 10) hx hb dX13_operate_319 (by decide) ?_
                        refine lv_iconst (v := 1) hx hb dX13_operate_321 (by decide) ?_
                        refine cu_s (mW_nd _ _ _ _ _ _) (rn_S (n := 5) (As := [.int 19, .int 4, .int 10, .int 10, .int 1]) (rest := [.ref (ad 0)]) hx hb hml hown ht hKK hFx hP hD hS hA (c_m_byI l dC dI cI cB cZ cJ cR tb H.size (19 : Int32) (4 : Int32) (10 : Int32) (10 : Int32) (1 : Int32) ) tw_2 tw_3 (by decide +kernel) rfl rfl ⟨Nat.le_of_ble_eq_true rfl, Nat.le_of_ble_eq_true rfl⟩ [] rfl rfl rfl hl.1 rfl (Nat.le_of_ble_eq_true rfl) dX13_operate_322 ⟨Nat.le_of_ble_eq_true rfl, Nat.le_of_ble_eq_true rfl⟩) hP hD hS hA (fun r103 H locs hw101 hP hD hS => ?_)
                        refine W.widen (k := 0) (n := 0) (Nat.le_refl _) (Nat.le_refl _) ?_
                        refine cu_i (rn_V (n := 1) (As := [.int r103]) (rest := []) hx hb hml hown ht hKK hFx hP hD hS hA (c_m_emit l dC dI cI cB cZ cJ cR tb H.size ad N (wA (wA (wA (wA (wA v 13 ((v.1 0 15).toNatClampNeg) (21 : Int32)) 14 ((v.1 0 15).toNatClampNeg) pa) 0 15 ((v.1 0 15) + (1 : Int32))) 11 ((v.1 0 12).toNatClampNeg) r96) 0 12 ((v.1 0 12) + (1 : Int32))) r103 (show 0 ≤ ((v.1 0 12) + (1 : Int32)).toInt ∧ ((v.1 0 12) + (1 : Int32)).toInt < 24000 from (om_036dd2a3e0 zw z100))) tw_8 tw_9 (by decide +kernel) rfl rfl ⟨Nat.le_of_ble_eq_true rfl, Nat.le_of_ble_eq_true rfl⟩ (List.range (mW ad N cI cZ cJ (wA (wA (wA (wA (wA v 13 ((v.1 0 15).toNatClampNeg) (21 : Int32)) 14 ((v.1 0 15).toNatClampNeg) pa) 0 15 ((v.1 0 15) + (1 : Int32))) 11 ((v.1 0 12).toNatClampNeg) r96) 0 12 ((v.1 0 12) + (1 : Int32)))).length) (rg_map _) (mW_nd _ _ _ _ _ _) rfl rfl rfl rfl hl.1 rfl (Nat.le_of_ble_eq_true rfl) dX13_operate_325 ⟨Nat.le_of_ble_eq_true rfl, Nat.le_of_ble_eq_true rfl⟩) hP hD hS hA (fun r106 u105 H locs hw104 hP hD hS => ?_)
                        obtain ⟨rfl, rfl⟩ := hw104
                        have z107 : (((v.1 0 12) + (1 : Int32)) + (1 : Int32)).toInt = (((v.1 0 12).toInt) + 1) + 1 := add_z z100 (show (1 : Int32).toInt = 1 by decide) (om_f6b9a2a44c zw) (om_86af896540 zw)
                        have hP : va_P (dC, dI) vwCl (mW ad N cI cZ cJ (wA (wA (wA (wA (wA (wA (wA v 13 ((v.1 0 15).toNatClampNeg) (21 : Int32)) 14 ((v.1 0 15).toNatClampNeg) pa) 0 15 ((v.1 0 15) + (1 : Int32))) 11 ((v.1 0 12).toNatClampNeg) r96) 0 12 ((v.1 0 12) + (1 : Int32))) 11 (((v.1 0 12) + (1 : Int32)).toNatClampNeg) r103) 0 12 (((v.1 0 12) + (1 : Int32)) + (1 : Int32)))) H := hP
                        have hD : va_D A (mW ad N cI cZ cJ (wA (wA (wA (wA (wA (wA (wA v 13 ((v.1 0 15).toNatClampNeg) (21 : Int32)) 14 ((v.1 0 15).toNatClampNeg) pa) 0 15 ((v.1 0 15) + (1 : Int32))) 11 ((v.1 0 12).toNatClampNeg) r96) 0 12 ((v.1 0 12) + (1 : Int32))) 11 (((v.1 0 12) + (1 : Int32)).toNatClampNeg) r103) 0 12 (((v.1 0 12) + (1 : Int32)) + (1 : Int32)))) := hD
                        refine tp_i (y := ((v.1 0 12) + (1 : Int32))) (rfl) ?_
                        refine W.widen (k := 0) (n := 0) (Nat.le_refl _) (Nat.le_refl _) ?_
                        refine lv_pop hx hb dX13_operate_328 rfl ?_
                        refine lv_goto (tgt := 480) hx hb dX13_operate_329 (by decide) ?_
                        exact W.vret hx hb hr (fun t ht9 hW => ⟨⟨(wA (wA (wA (wA (wA (wA (wA v 13 ((v.1 0 15).toNatClampNeg) (21 : Int32)) 14 ((v.1 0 15).toNatClampNeg) pa) 0 15 ((v.1 0 15) + (1 : Int32))) 11 ((v.1 0 12).toNatClampNeg) r96) 0 12 ((v.1 0 12) + (1 : Int32))) 11 (((v.1 0 12) + (1 : Int32)).toNatClampNeg) r103) 0 12 (((v.1 0 12) + (1 : Int32)) + (1 : Int32))), rfl, ⟨(FG.f (FG.a (FG.f (FG.a (FG.f (FG.a (FG.a (FG.rf _) ((v.1 0 15).toNatClampNeg) (21 : Int32) (by decide) (by decide)) ((v.1 0 15).toNatClampNeg) pa (by decide) (by decide)) ((v.1 0 15) + (1 : Int32)) (by decide)) ((v.1 0 12).toNatClampNeg) r96 (by decide) (by decide)) ((v.1 0 12) + (1 : Int32)) (by decide)) (((v.1 0 12) + (1 : Int32)).toNatClampNeg) r103 (by decide) (by decide)) (((v.1 0 12) + (1 : Int32)) + (1 : Int32)) (by decide)), (show (v.1 0 12).toInt ≤ (((v.1 0 12) + (1 : Int32)) + (1 : Int32)).toInt ∧ (((v.1 0 12) + (1 : Int32)) + (1 : Int32)).toInt ≤ (v.1 0 12).toInt + 3 from (om_1d95865769 z107)), (show ((v.1 0 15) + (1 : Int32)).toInt = (v.1 0 15).toInt + 1 from (om_b2e2930950 z4)), (show (v.1 0 43).toInt ≤ (v.1 0 43).toInt ∧ (v.1 0 43).toInt ≤ (v.1 0 43).toInt + 1 from om_b79dd2a91d), (fun (j9 : Nat) hj9 => (Eq.trans (pk_un3 (a := ((v.1 0 12) + (1 : Int32)).toInt) rfl (om_e7e2a26263 zw z100) (om_3370121707 z100 hj9)) (pk_un3 (a := (v.1 0 12).toInt) rfl (om_4842074e86 zw) (om_4fe904e9bf hj9)))), (fun (j9 : Nat) hj9 => (pk_un3 (a := (v.1 0 15).toInt) rfl (om_2ab3f6b9f5 zo) (om_4fe904e9bf hj9))), (fun (j9 : Nat) hj9 => (pk_un3 (a := (v.1 0 15).toInt) rfl (om_2ab3f6b9f5 zo) (om_4fe904e9bf hj9)))⟩, by rw [ht9]; exact hP, hD⟩, hS.F ht9⟩) hS.2.2 dX13_operate_480
                      ·
                        by_cases h108 : pa = 15677
                        · refine lv_lookup (off := 357) (tgt := 366) hx hb dX13_operate_9 (by decide) (by rw [h108]; decide) (by decide) ?_
                          refine lv_aload_n hx hb dX13_operate_366 rfl (lv_at hl 0 rfl) ?_
                          refine lv_bipush (v := 32) hx hb dX13_operate_367 (by decide) ?_
                          refine lv_iconst (v := 0) hx hb dX13_operate_369 (by decide) ?_
                          refine lv_bipush (v := 10) hx hb dX13_operate_370 (by decide) ?_
                          refine lv_iconst (v := 5) hx hb dX13_operate_372 (by decide) ?_
                          refine lv_bipush (v := 10) hx hb dX13_operate_373 (by decide) ?_
                          refine cu_s (mW_nd _ _ _ _ _ _) (rn_S (n := 5) (As := [.int 32, .int 0, .int 10, .int 5, .int 10]) (rest := [.ref (ad 0)]) hx hb hml hown ht hKK hFx hP hD hS hA (c_m_byR l dC dI cI cB cZ cJ cR tb H.size (32 : Int32) (0 : Int32) (10 : Int32) (5 : Int32) (10 : Int32) ) tw_67 tw_68 (by decide +kernel) rfl rfl ⟨Nat.le_of_ble_eq_true rfl, Nat.le_of_ble_eq_true rfl⟩ [] rfl rfl rfl hl.1 rfl (Nat.le_of_ble_eq_true rfl) dX13_operate_375 ⟨Nat.le_of_ble_eq_true rfl, Nat.le_of_ble_eq_true rfl⟩) hP hD hS hA (fun r111 H locs hw109 hP hD hS => ?_)
                          refine W.widen (k := 0) (n := 0) (Nat.le_refl _) (Nat.le_refl _) ?_
                          refine cu_i (rn_V (n := 1) (As := [.int r111]) (rest := []) hx hb hml hown ht hKK hFx hP hD hS hA (c_m_emit l dC dI cI cB cZ cJ cR tb H.size ad N (wA (wA (wA v 13 ((v.1 0 15).toNatClampNeg) (21 : Int32)) 14 ((v.1 0 15).toNatClampNeg) pa) 0 15 ((v.1 0 15) + (1 : Int32))) r111 (show 0 ≤ (v.1 0 12).toInt ∧ (v.1 0 12).toInt < 24000 from (om_bd95b2e5c4 zw))) tw_8 tw_9 (by decide +kernel) rfl rfl ⟨Nat.le_of_ble_eq_true rfl, Nat.le_of_ble_eq_true rfl⟩ (List.range (mW ad N cI cZ cJ (wA (wA (wA v 13 ((v.1 0 15).toNatClampNeg) (21 : Int32)) 14 ((v.1 0 15).toNatClampNeg) pa) 0 15 ((v.1 0 15) + (1 : Int32)))).length) (rg_map _) (mW_nd _ _ _ _ _ _) rfl rfl rfl rfl hl.1 rfl (Nat.le_of_ble_eq_true rfl) dX13_operate_378 ⟨Nat.le_of_ble_eq_true rfl, Nat.le_of_ble_eq_true rfl⟩) hP hD hS hA (fun r114 u113 H locs hw112 hP hD hS => ?_)
                          obtain ⟨rfl, rfl⟩ := hw112
                          have z115 : ((v.1 0 12) + (1 : Int32)).toInt = ((v.1 0 12).toInt) + 1 := add_z rfl (show (1 : Int32).toInt = 1 by decide) (om_92b4e2a060 zw) (om_46bacc0712 zw)
                          have hP : va_P (dC, dI) vwCl (mW ad N cI cZ cJ (wA (wA (wA (wA (wA v 13 ((v.1 0 15).toNatClampNeg) (21 : Int32)) 14 ((v.1 0 15).toNatClampNeg) pa) 0 15 ((v.1 0 15) + (1 : Int32))) 11 ((v.1 0 12).toNatClampNeg) r111) 0 12 ((v.1 0 12) + (1 : Int32)))) H := hP
                          have hD : va_D A (mW ad N cI cZ cJ (wA (wA (wA (wA (wA v 13 ((v.1 0 15).toNatClampNeg) (21 : Int32)) 14 ((v.1 0 15).toNatClampNeg) pa) 0 15 ((v.1 0 15) + (1 : Int32))) 11 ((v.1 0 12).toNatClampNeg) r111) 0 12 ((v.1 0 12) + (1 : Int32)))) := hD
                          refine tp_i (y := (v.1 0 12)) (rfl) ?_
                          refine W.widen (k := 0) (n := 0) (Nat.le_refl _) (Nat.le_refl _) ?_
                          refine lv_pop hx hb dX13_operate_381 rfl ?_
                          refine lv_aload_n hx hb dX13_operate_382 rfl (lv_at hl 0 rfl) ?_
                          refine lv_bipush (v := 19) hx hb dX13_operate_383 (by decide) ?_
                          refine lv_iconst (v := 3) hx hb dX13_operate_385 (by decide) ?_
                          refine lv_bipush (v := 10) hx hb dX13_operate_386 (by decide) ?_
                          refine lv_bipush (v := 10) hx hb dX13_operate_388 (by decide) ?_
                          refine lv_iconst (v := 1) hx hb dX13_operate_390 (by decide) ?_
                          refine cu_s (mW_nd _ _ _ _ _ _) (rn_S (n := 5) (As := [.int 19, .int 3, .int 10, .int 10, .int 1]) (rest := [.ref (ad 0)]) hx hb hml hown ht hKK hFx hP hD hS hA (c_m_byI l dC dI cI cB cZ cJ cR tb H.size (19 : Int32) (3 : Int32) (10 : Int32) (10 : Int32) (1 : Int32) ) tw_2 tw_3 (by decide +kernel) rfl rfl ⟨Nat.le_of_ble_eq_true rfl, Nat.le_of_ble_eq_true rfl⟩ [] rfl rfl rfl hl.1 rfl (Nat.le_of_ble_eq_true rfl) dX13_operate_391 ⟨Nat.le_of_ble_eq_true rfl, Nat.le_of_ble_eq_true rfl⟩) hP hD hS hA (fun r118 H locs hw116 hP hD hS => ?_)
                          refine W.widen (k := 0) (n := 0) (Nat.le_refl _) (Nat.le_refl _) ?_
                          refine cu_i (rn_V (n := 1) (As := [.int r118]) (rest := []) hx hb hml hown ht hKK hFx hP hD hS hA (c_m_emit l dC dI cI cB cZ cJ cR tb H.size ad N (wA (wA (wA (wA (wA v 13 ((v.1 0 15).toNatClampNeg) (21 : Int32)) 14 ((v.1 0 15).toNatClampNeg) pa) 0 15 ((v.1 0 15) + (1 : Int32))) 11 ((v.1 0 12).toNatClampNeg) r111) 0 12 ((v.1 0 12) + (1 : Int32))) r118 (show 0 ≤ ((v.1 0 12) + (1 : Int32)).toInt ∧ ((v.1 0 12) + (1 : Int32)).toInt < 24000 from (om_036dd2a3e0 zw z115))) tw_8 tw_9 (by decide +kernel) rfl rfl ⟨Nat.le_of_ble_eq_true rfl, Nat.le_of_ble_eq_true rfl⟩ (List.range (mW ad N cI cZ cJ (wA (wA (wA (wA (wA v 13 ((v.1 0 15).toNatClampNeg) (21 : Int32)) 14 ((v.1 0 15).toNatClampNeg) pa) 0 15 ((v.1 0 15) + (1 : Int32))) 11 ((v.1 0 12).toNatClampNeg) r111) 0 12 ((v.1 0 12) + (1 : Int32)))).length) (rg_map _) (mW_nd _ _ _ _ _ _) rfl rfl rfl rfl hl.1 rfl (Nat.le_of_ble_eq_true rfl) dX13_operate_394 ⟨Nat.le_of_ble_eq_true rfl, Nat.le_of_ble_eq_true rfl⟩) hP hD hS hA (fun r121 u120 H locs hw119 hP hD hS => ?_)
                          obtain ⟨rfl, rfl⟩ := hw119
                          have z122 : (((v.1 0 12) + (1 : Int32)) + (1 : Int32)).toInt = (((v.1 0 12).toInt) + 1) + 1 := add_z z115 (show (1 : Int32).toInt = 1 by decide) (om_f6b9a2a44c zw) (om_86af896540 zw)
                          have hP : va_P (dC, dI) vwCl (mW ad N cI cZ cJ (wA (wA (wA (wA (wA (wA (wA v 13 ((v.1 0 15).toNatClampNeg) (21 : Int32)) 14 ((v.1 0 15).toNatClampNeg) pa) 0 15 ((v.1 0 15) + (1 : Int32))) 11 ((v.1 0 12).toNatClampNeg) r111) 0 12 ((v.1 0 12) + (1 : Int32))) 11 (((v.1 0 12) + (1 : Int32)).toNatClampNeg) r118) 0 12 (((v.1 0 12) + (1 : Int32)) + (1 : Int32)))) H := hP
                          have hD : va_D A (mW ad N cI cZ cJ (wA (wA (wA (wA (wA (wA (wA v 13 ((v.1 0 15).toNatClampNeg) (21 : Int32)) 14 ((v.1 0 15).toNatClampNeg) pa) 0 15 ((v.1 0 15) + (1 : Int32))) 11 ((v.1 0 12).toNatClampNeg) r111) 0 12 ((v.1 0 12) + (1 : Int32))) 11 (((v.1 0 12) + (1 : Int32)).toNatClampNeg) r118) 0 12 (((v.1 0 12) + (1 : Int32)) + (1 : Int32)))) := hD
                          refine tp_i (y := ((v.1 0 12) + (1 : Int32))) (rfl) ?_
                          refine W.widen (k := 0) (n := 0) (Nat.le_refl _) (Nat.le_refl _) ?_
                          refine lv_pop hx hb dX13_operate_397 rfl ?_
                          refine lv_goto (tgt := 480) hx hb dX13_operate_398 (by decide) ?_
                          exact W.vret hx hb hr (fun t ht9 hW => ⟨⟨(wA (wA (wA (wA (wA (wA (wA v 13 ((v.1 0 15).toNatClampNeg) (21 : Int32)) 14 ((v.1 0 15).toNatClampNeg) pa) 0 15 ((v.1 0 15) + (1 : Int32))) 11 ((v.1 0 12).toNatClampNeg) r111) 0 12 ((v.1 0 12) + (1 : Int32))) 11 (((v.1 0 12) + (1 : Int32)).toNatClampNeg) r118) 0 12 (((v.1 0 12) + (1 : Int32)) + (1 : Int32))), rfl, ⟨(FG.f (FG.a (FG.f (FG.a (FG.f (FG.a (FG.a (FG.rf _) ((v.1 0 15).toNatClampNeg) (21 : Int32) (by decide) (by decide)) ((v.1 0 15).toNatClampNeg) pa (by decide) (by decide)) ((v.1 0 15) + (1 : Int32)) (by decide)) ((v.1 0 12).toNatClampNeg) r111 (by decide) (by decide)) ((v.1 0 12) + (1 : Int32)) (by decide)) (((v.1 0 12) + (1 : Int32)).toNatClampNeg) r118 (by decide) (by decide)) (((v.1 0 12) + (1 : Int32)) + (1 : Int32)) (by decide)), (show (v.1 0 12).toInt ≤ (((v.1 0 12) + (1 : Int32)) + (1 : Int32)).toInt ∧ (((v.1 0 12) + (1 : Int32)) + (1 : Int32)).toInt ≤ (v.1 0 12).toInt + 3 from (om_1d95865769 z122)), (show ((v.1 0 15) + (1 : Int32)).toInt = (v.1 0 15).toInt + 1 from (om_b2e2930950 z4)), (show (v.1 0 43).toInt ≤ (v.1 0 43).toInt ∧ (v.1 0 43).toInt ≤ (v.1 0 43).toInt + 1 from om_b79dd2a91d), (fun (j9 : Nat) hj9 => (Eq.trans (pk_un3 (a := ((v.1 0 12) + (1 : Int32)).toInt) rfl (om_e7e2a26263 zw z115) (om_3370121707 z115 hj9)) (pk_un3 (a := (v.1 0 12).toInt) rfl (om_4842074e86 zw) (om_4fe904e9bf hj9)))), (fun (j9 : Nat) hj9 => (pk_un3 (a := (v.1 0 15).toInt) rfl (om_2ab3f6b9f5 zo) (om_4fe904e9bf hj9))), (fun (j9 : Nat) hj9 => (pk_un3 (a := (v.1 0 15).toInt) rfl (om_2ab3f6b9f5 zo) (om_4fe904e9bf hj9)))⟩, by rw [ht9]; exact hP, hD⟩, hS.F ht9⟩) hS.2.2 dX13_operate_480
                        ·
                          by_cases h123 : pa = 15678
                          · refine lv_lookup (off := 323) (tgt := 332) hx hb dX13_operate_9 (by decide) (by rw [h123]; decide) (by decide) ?_
                            refine lv_aload_n hx hb dX13_operate_332 rfl (lv_at hl 0 rfl) ?_
                            refine lv_iconst (v := 0) hx hb dX13_operate_333 (by decide) ?_
                            refine lv_iconst (v := 2) hx hb dX13_operate_334 (by decide) ?_
                            refine lv_bipush (v := 10) hx hb dX13_operate_335 (by decide) ?_
                            refine lv_iconst (v := 5) hx hb dX13_operate_337 (by decide) ?_
                            refine lv_bipush (v := 10) hx hb dX13_operate_338 (by decide) ?_
                            refine cu_s (mW_nd _ _ _ _ _ _) (rn_S (n := 5) (As := [.int 0, .int 2, .int 10, .int 5, .int 10]) (rest := [.ref (ad 0)]) hx hb hml hown ht hKK hFx hP hD hS hA (c_m_byR l dC dI cI cB cZ cJ cR tb H.size (0 : Int32) (2 : Int32) (10 : Int32) (5 : Int32) (10 : Int32) ) tw_67 tw_68 (by decide +kernel) rfl rfl ⟨Nat.le_of_ble_eq_true rfl, Nat.le_of_ble_eq_true rfl⟩ [] rfl rfl rfl hl.1 rfl (Nat.le_of_ble_eq_true rfl) dX13_operate_340 ⟨Nat.le_of_ble_eq_true rfl, Nat.le_of_ble_eq_true rfl⟩) hP hD hS hA (fun r126 H locs hw124 hP hD hS => ?_)
                            refine W.widen (k := 0) (n := 0) (Nat.le_refl _) (Nat.le_refl _) ?_
                            refine cu_i (rn_V (n := 1) (As := [.int r126]) (rest := []) hx hb hml hown ht hKK hFx hP hD hS hA (c_m_emit l dC dI cI cB cZ cJ cR tb H.size ad N (wA (wA (wA v 13 ((v.1 0 15).toNatClampNeg) (21 : Int32)) 14 ((v.1 0 15).toNatClampNeg) pa) 0 15 ((v.1 0 15) + (1 : Int32))) r126 (show 0 ≤ (v.1 0 12).toInt ∧ (v.1 0 12).toInt < 24000 from (om_bd95b2e5c4 zw))) tw_8 tw_9 (by decide +kernel) rfl rfl ⟨Nat.le_of_ble_eq_true rfl, Nat.le_of_ble_eq_true rfl⟩ (List.range (mW ad N cI cZ cJ (wA (wA (wA v 13 ((v.1 0 15).toNatClampNeg) (21 : Int32)) 14 ((v.1 0 15).toNatClampNeg) pa) 0 15 ((v.1 0 15) + (1 : Int32)))).length) (rg_map _) (mW_nd _ _ _ _ _ _) rfl rfl rfl rfl hl.1 rfl (Nat.le_of_ble_eq_true rfl) dX13_operate_343 ⟨Nat.le_of_ble_eq_true rfl, Nat.le_of_ble_eq_true rfl⟩) hP hD hS hA (fun r129 u128 H locs hw127 hP hD hS => ?_)
                            obtain ⟨rfl, rfl⟩ := hw127
                            have z130 : ((v.1 0 12) + (1 : Int32)).toInt = ((v.1 0 12).toInt) + 1 := add_z rfl (show (1 : Int32).toInt = 1 by decide) (om_92b4e2a060 zw) (om_46bacc0712 zw)
                            have hP : va_P (dC, dI) vwCl (mW ad N cI cZ cJ (wA (wA (wA (wA (wA v 13 ((v.1 0 15).toNatClampNeg) (21 : Int32)) 14 ((v.1 0 15).toNatClampNeg) pa) 0 15 ((v.1 0 15) + (1 : Int32))) 11 ((v.1 0 12).toNatClampNeg) r126) 0 12 ((v.1 0 12) + (1 : Int32)))) H := hP
                            have hD : va_D A (mW ad N cI cZ cJ (wA (wA (wA (wA (wA v 13 ((v.1 0 15).toNatClampNeg) (21 : Int32)) 14 ((v.1 0 15).toNatClampNeg) pa) 0 15 ((v.1 0 15) + (1 : Int32))) 11 ((v.1 0 12).toNatClampNeg) r126) 0 12 ((v.1 0 12) + (1 : Int32)))) := hD
                            refine tp_i (y := (v.1 0 12)) (rfl) ?_
                            refine W.widen (k := 0) (n := 0) (Nat.le_refl _) (Nat.le_refl _) ?_
                            refine lv_pop hx hb dX13_operate_346 rfl ?_
                            refine lv_aload_n hx hb dX13_operate_347 rfl (lv_at hl 0 rfl) ?_
                            refine lv_bipush (v := 19) hx hb dX13_operate_348 (by decide) ?_
                            refine lv_iconst (v := 4) hx hb dX13_operate_350 (by decide) ?_
                            refine lv_bipush (v := 10) hx hb dX13_operate_351 (by decide) ?_
                            refine lv_bipush (v := 10) hx hb dX13_operate_353 (by decide) ?_
                            refine lv_iconst (v := 1) hx hb dX13_operate_355 (by decide) ?_
                            refine cu_s (mW_nd _ _ _ _ _ _) (rn_S (n := 5) (As := [.int 19, .int 4, .int 10, .int 10, .int 1]) (rest := [.ref (ad 0)]) hx hb hml hown ht hKK hFx hP hD hS hA (c_m_byI l dC dI cI cB cZ cJ cR tb H.size (19 : Int32) (4 : Int32) (10 : Int32) (10 : Int32) (1 : Int32) ) tw_2 tw_3 (by decide +kernel) rfl rfl ⟨Nat.le_of_ble_eq_true rfl, Nat.le_of_ble_eq_true rfl⟩ [] rfl rfl rfl hl.1 rfl (Nat.le_of_ble_eq_true rfl) dX13_operate_356 ⟨Nat.le_of_ble_eq_true rfl, Nat.le_of_ble_eq_true rfl⟩) hP hD hS hA (fun r133 H locs hw131 hP hD hS => ?_)
                            refine W.widen (k := 0) (n := 0) (Nat.le_refl _) (Nat.le_refl _) ?_
                            refine cu_i (rn_V (n := 1) (As := [.int r133]) (rest := []) hx hb hml hown ht hKK hFx hP hD hS hA (c_m_emit l dC dI cI cB cZ cJ cR tb H.size ad N (wA (wA (wA (wA (wA v 13 ((v.1 0 15).toNatClampNeg) (21 : Int32)) 14 ((v.1 0 15).toNatClampNeg) pa) 0 15 ((v.1 0 15) + (1 : Int32))) 11 ((v.1 0 12).toNatClampNeg) r126) 0 12 ((v.1 0 12) + (1 : Int32))) r133 (show 0 ≤ ((v.1 0 12) + (1 : Int32)).toInt ∧ ((v.1 0 12) + (1 : Int32)).toInt < 24000 from (om_036dd2a3e0 zw z130))) tw_8 tw_9 (by decide +kernel) rfl rfl ⟨Nat.le_of_ble_eq_true rfl, Nat.le_of_ble_eq_true rfl⟩ (List.range (mW ad N cI cZ cJ (wA (wA (wA (wA (wA v 13 ((v.1 0 15).toNatClampNeg) (21 : Int32)) 14 ((v.1 0 15).toNatClampNeg) pa) 0 15 ((v.1 0 15) + (1 : Int32))) 11 ((v.1 0 12).toNatClampNeg) r126) 0 12 ((v.1 0 12) + (1 : Int32)))).length) (rg_map _) (mW_nd _ _ _ _ _ _) rfl rfl rfl rfl hl.1 rfl (Nat.le_of_ble_eq_true rfl) dX13_operate_359 ⟨Nat.le_of_ble_eq_true rfl, Nat.le_of_ble_eq_true rfl⟩) hP hD hS hA (fun r136 u135 H locs hw134 hP hD hS => ?_)
                            obtain ⟨rfl, rfl⟩ := hw134
                            have z137 : (((v.1 0 12) + (1 : Int32)) + (1 : Int32)).toInt = (((v.1 0 12).toInt) + 1) + 1 := add_z z130 (show (1 : Int32).toInt = 1 by decide) (om_f6b9a2a44c zw) (om_86af896540 zw)
                            have hP : va_P (dC, dI) vwCl (mW ad N cI cZ cJ (wA (wA (wA (wA (wA (wA (wA v 13 ((v.1 0 15).toNatClampNeg) (21 : Int32)) 14 ((v.1 0 15).toNatClampNeg) pa) 0 15 ((v.1 0 15) + (1 : Int32))) 11 ((v.1 0 12).toNatClampNeg) r126) 0 12 ((v.1 0 12) + (1 : Int32))) 11 (((v.1 0 12) + (1 : Int32)).toNatClampNeg) r133) 0 12 (((v.1 0 12) + (1 : Int32)) + (1 : Int32)))) H := hP
                            have hD : va_D A (mW ad N cI cZ cJ (wA (wA (wA (wA (wA (wA (wA v 13 ((v.1 0 15).toNatClampNeg) (21 : Int32)) 14 ((v.1 0 15).toNatClampNeg) pa) 0 15 ((v.1 0 15) + (1 : Int32))) 11 ((v.1 0 12).toNatClampNeg) r126) 0 12 ((v.1 0 12) + (1 : Int32))) 11 (((v.1 0 12) + (1 : Int32)).toNatClampNeg) r133) 0 12 (((v.1 0 12) + (1 : Int32)) + (1 : Int32)))) := hD
                            refine tp_i (y := ((v.1 0 12) + (1 : Int32))) (rfl) ?_
                            refine W.widen (k := 0) (n := 0) (Nat.le_refl _) (Nat.le_refl _) ?_
                            refine lv_pop hx hb dX13_operate_362 rfl ?_
                            refine lv_goto (tgt := 480) hx hb dX13_operate_363 (by decide) ?_
                            exact W.vret hx hb hr (fun t ht9 hW => ⟨⟨(wA (wA (wA (wA (wA (wA (wA v 13 ((v.1 0 15).toNatClampNeg) (21 : Int32)) 14 ((v.1 0 15).toNatClampNeg) pa) 0 15 ((v.1 0 15) + (1 : Int32))) 11 ((v.1 0 12).toNatClampNeg) r126) 0 12 ((v.1 0 12) + (1 : Int32))) 11 (((v.1 0 12) + (1 : Int32)).toNatClampNeg) r133) 0 12 (((v.1 0 12) + (1 : Int32)) + (1 : Int32))), rfl, ⟨(FG.f (FG.a (FG.f (FG.a (FG.f (FG.a (FG.a (FG.rf _) ((v.1 0 15).toNatClampNeg) (21 : Int32) (by decide) (by decide)) ((v.1 0 15).toNatClampNeg) pa (by decide) (by decide)) ((v.1 0 15) + (1 : Int32)) (by decide)) ((v.1 0 12).toNatClampNeg) r126 (by decide) (by decide)) ((v.1 0 12) + (1 : Int32)) (by decide)) (((v.1 0 12) + (1 : Int32)).toNatClampNeg) r133 (by decide) (by decide)) (((v.1 0 12) + (1 : Int32)) + (1 : Int32)) (by decide)), (show (v.1 0 12).toInt ≤ (((v.1 0 12) + (1 : Int32)) + (1 : Int32)).toInt ∧ (((v.1 0 12) + (1 : Int32)) + (1 : Int32)).toInt ≤ (v.1 0 12).toInt + 3 from (om_1d95865769 z137)), (show ((v.1 0 15) + (1 : Int32)).toInt = (v.1 0 15).toInt + 1 from (om_b2e2930950 z4)), (show (v.1 0 43).toInt ≤ (v.1 0 43).toInt ∧ (v.1 0 43).toInt ≤ (v.1 0 43).toInt + 1 from om_b79dd2a91d), (fun (j9 : Nat) hj9 => (Eq.trans (pk_un3 (a := ((v.1 0 12) + (1 : Int32)).toInt) rfl (om_e7e2a26263 zw z130) (om_3370121707 z130 hj9)) (pk_un3 (a := (v.1 0 12).toInt) rfl (om_4842074e86 zw) (om_4fe904e9bf hj9)))), (fun (j9 : Nat) hj9 => (pk_un3 (a := (v.1 0 15).toInt) rfl (om_2ab3f6b9f5 zo) (om_4fe904e9bf hj9))), (fun (j9 : Nat) hj9 => (pk_un3 (a := (v.1 0 15).toInt) rfl (om_2ab3f6b9f5 zo) (om_4fe904e9bf hj9)))⟩, by rw [ht9]; exact hP, hD⟩, hS.F ht9⟩) hS.2.2 dX13_operate_480
                          ·
                            by_cases h138 : pa = 15934
                            · refine lv_lookup (off := 234) (tgt := 243) hx hb dX13_operate_9 (by decide) (by rw [h138]; decide) (by decide) ?_
                              refine lv_aload_n hx hb dX13_operate_243 rfl (lv_at hl 0 rfl) ?_
                              refine lv_bipush (v := 32) hx hb dX13_operate_244 (by decide) ?_
                              refine lv_iconst (v := 5) hx hb dX13_operate_246 (by decide) ?_
                              refine lv_bipush (v := 10) hx hb dX13_operate_247 (by decide) ?_
                              refine lv_iconst (v := 5) hx hb dX13_operate_249 (by decide) ?_
                              refine lv_bipush (v := 10) hx hb dX13_operate_250 (by decide) ?_
                              refine cu_s (mW_nd _ _ _ _ _ _) (rn_S (n := 5) (As := [.int 32, .int 5, .int 10, .int 5, .int 10]) (rest := [.ref (ad 0)]) hx hb hml hown ht hKK hFx hP hD hS hA (c_m_byR l dC dI cI cB cZ cJ cR tb H.size (32 : Int32) (5 : Int32) (10 : Int32) (5 : Int32) (10 : Int32) ) tw_67 tw_68 (by decide +kernel) rfl rfl ⟨Nat.le_of_ble_eq_true rfl, Nat.le_of_ble_eq_true rfl⟩ [] rfl rfl rfl hl.1 rfl (Nat.le_of_ble_eq_true rfl) dX13_operate_252 ⟨Nat.le_of_ble_eq_true rfl, Nat.le_of_ble_eq_true rfl⟩) hP hD hS hA (fun r141 H locs hw139 hP hD hS => ?_)
                              refine W.widen (k := 0) (n := 0) (Nat.le_refl _) (Nat.le_refl _) ?_
                              refine cu_i (rn_V (n := 1) (As := [.int r141]) (rest := []) hx hb hml hown ht hKK hFx hP hD hS hA (c_m_emit l dC dI cI cB cZ cJ cR tb H.size ad N (wA (wA (wA v 13 ((v.1 0 15).toNatClampNeg) (21 : Int32)) 14 ((v.1 0 15).toNatClampNeg) pa) 0 15 ((v.1 0 15) + (1 : Int32))) r141 (show 0 ≤ (v.1 0 12).toInt ∧ (v.1 0 12).toInt < 24000 from (om_bd95b2e5c4 zw))) tw_8 tw_9 (by decide +kernel) rfl rfl ⟨Nat.le_of_ble_eq_true rfl, Nat.le_of_ble_eq_true rfl⟩ (List.range (mW ad N cI cZ cJ (wA (wA (wA v 13 ((v.1 0 15).toNatClampNeg) (21 : Int32)) 14 ((v.1 0 15).toNatClampNeg) pa) 0 15 ((v.1 0 15) + (1 : Int32)))).length) (rg_map _) (mW_nd _ _ _ _ _ _) rfl rfl rfl rfl hl.1 rfl (Nat.le_of_ble_eq_true rfl) dX13_operate_255 ⟨Nat.le_of_ble_eq_true rfl, Nat.le_of_ble_eq_true rfl⟩) hP hD hS hA (fun r144 u143 H locs hw142 hP hD hS => ?_)
                              obtain ⟨rfl, rfl⟩ := hw142
                              have z145 : ((v.1 0 12) + (1 : Int32)).toInt = ((v.1 0 12).toInt) + 1 := add_z rfl (show (1 : Int32).toInt = 1 by decide) (om_92b4e2a060 zw) (om_46bacc0712 zw)
                              have hP : va_P (dC, dI) vwCl (mW ad N cI cZ cJ (wA (wA (wA (wA (wA v 13 ((v.1 0 15).toNatClampNeg) (21 : Int32)) 14 ((v.1 0 15).toNatClampNeg) pa) 0 15 ((v.1 0 15) + (1 : Int32))) 11 ((v.1 0 12).toNatClampNeg) r141) 0 12 ((v.1 0 12) + (1 : Int32)))) H := hP
                              have hD : va_D A (mW ad N cI cZ cJ (wA (wA (wA (wA (wA v 13 ((v.1 0 15).toNatClampNeg) (21 : Int32)) 14 ((v.1 0 15).toNatClampNeg) pa) 0 15 ((v.1 0 15) + (1 : Int32))) 11 ((v.1 0 12).toNatClampNeg) r141) 0 12 ((v.1 0 12) + (1 : Int32)))) := hD
                              refine tp_i (y := (v.1 0 12)) (rfl) ?_
                              refine W.widen (k := 0) (n := 0) (Nat.le_refl _) (Nat.le_refl _) ?_
                              refine lv_pop hx hb dX13_operate_258 rfl ?_
                              refine lv_goto (tgt := 480) hx hb dX13_operate_259 (by decide) ?_
                              exact W.vret hx hb hr (fun t ht9 hW => ⟨⟨(wA (wA (wA (wA (wA v 13 ((v.1 0 15).toNatClampNeg) (21 : Int32)) 14 ((v.1 0 15).toNatClampNeg) pa) 0 15 ((v.1 0 15) + (1 : Int32))) 11 ((v.1 0 12).toNatClampNeg) r141) 0 12 ((v.1 0 12) + (1 : Int32))), rfl, ⟨(FG.f (FG.a (FG.f (FG.a (FG.a (FG.rf _) ((v.1 0 15).toNatClampNeg) (21 : Int32) (by decide) (by decide)) ((v.1 0 15).toNatClampNeg) pa (by decide) (by decide)) ((v.1 0 15) + (1 : Int32)) (by decide)) ((v.1 0 12).toNatClampNeg) r141 (by decide) (by decide)) ((v.1 0 12) + (1 : Int32)) (by decide)), (show (v.1 0 12).toInt ≤ ((v.1 0 12) + (1 : Int32)).toInt ∧ ((v.1 0 12) + (1 : Int32)).toInt ≤ (v.1 0 12).toInt + 3 from (om_c2ac57be1c z145)), (show ((v.1 0 15) + (1 : Int32)).toInt = (v.1 0 15).toInt + 1 from (om_b2e2930950 z4)), (show (v.1 0 43).toInt ≤ (v.1 0 43).toInt ∧ (v.1 0 43).toInt ≤ (v.1 0 43).toInt + 1 from om_b79dd2a91d), (fun (j9 : Nat) hj9 => (pk_un3 (a := (v.1 0 12).toInt) rfl (om_4842074e86 zw) (om_4fe904e9bf hj9))), (fun (j9 : Nat) hj9 => (pk_un3 (a := (v.1 0 15).toInt) rfl (om_2ab3f6b9f5 zo) (om_4fe904e9bf hj9))), (fun (j9 : Nat) hj9 => (pk_un3 (a := (v.1 0 15).toInt) rfl (om_2ab3f6b9f5 zo) (om_4fe904e9bf hj9)))⟩, by rw [ht9]; exact hP, hD⟩, hS.F ht9⟩) hS.2.2 dX13_operate_480
                            ·
                              refine lv_lookup (off := 440) (tgt := 449) hx hb dX13_operate_9 (by decide) (by show Op.lookupswitch.offset [(38, 160), (42, 426), (43, 123), (45, 141), (60, 253), (62, 271), (94, 198), (124, 179), (15420, 216), (15649, 392), (15676, 289), (15677, 357), (15678, 323), (15934, 234)] 440 _ = 440; rw [lv_osw h5 (by decide), lv_osw h13 (by decide), lv_osw h22 (by decide), lv_osw h30 (by decide), lv_osw h38 (by decide), lv_osw h46 (by decide), lv_osw h54 (by decide), lv_osw h62 (by decide), lv_osw h70 (by decide), lv_osw h78 (by decide), lv_osw h93 (by decide), lv_osw h108 (by decide), lv_osw h123 (by decide), lv_osw h138 (by decide)]; rfl) (by decide) ?_
                              refine lv_aload_n hx hb dX13_operate_449 rfl (lv_at hl 0 rfl) ?_
                              refine lv_aload_n hx hb dX13_operate_450 rfl (lv_at hl 0 rfl) ?_
                              refine lv_iconst (v := 0) hx hb dX13_operate_451 (by decide) ?_
                              refine cu_i (rn_V (n := 1) (As := [.int 0]) (rest := [.ref (ad 0)]) hx hb hml hown ht hKK hFx hP hD hS hA (c_m_emit l dC dI cI cB cZ cJ cR tb H.size ad N (wA (wA (wA v 13 ((v.1 0 15).toNatClampNeg) (21 : Int32)) 14 ((v.1 0 15).toNatClampNeg) pa) 0 15 ((v.1 0 15) + (1 : Int32))) (0 : Int32) (show 0 ≤ (v.1 0 12).toInt ∧ (v.1 0 12).toInt < 24000 from (om_bd95b2e5c4 zw))) tw_8 tw_9 (by decide +kernel) rfl rfl ⟨Nat.le_of_ble_eq_true rfl, Nat.le_of_ble_eq_true rfl⟩ (List.range (mW ad N cI cZ cJ (wA (wA (wA v 13 ((v.1 0 15).toNatClampNeg) (21 : Int32)) 14 ((v.1 0 15).toNatClampNeg) pa) 0 15 ((v.1 0 15) + (1 : Int32)))).length) (rg_map _) (mW_nd _ _ _ _ _ _) rfl rfl rfl rfl hl.1 rfl (Nat.le_of_ble_eq_true rfl) dX13_operate_452 ⟨Nat.le_of_ble_eq_true rfl, Nat.le_of_ble_eq_true rfl⟩) hP hD hS hA (fun r148 u147 H locs hw146 hP hD hS => ?_)
                              obtain ⟨rfl, rfl⟩ := hw146
                              have z149 : ((v.1 0 12) + (1 : Int32)).toInt = ((v.1 0 12).toInt) + 1 := add_z rfl (show (1 : Int32).toInt = 1 by decide) (om_92b4e2a060 zw) (om_46bacc0712 zw)
                              have hP : va_P (dC, dI) vwCl (mW ad N cI cZ cJ (wA (wA (wA (wA (wA v 13 ((v.1 0 15).toNatClampNeg) (21 : Int32)) 14 ((v.1 0 15).toNatClampNeg) pa) 0 15 ((v.1 0 15) + (1 : Int32))) 11 ((v.1 0 12).toNatClampNeg) (0 : Int32)) 0 12 ((v.1 0 12) + (1 : Int32)))) H := hP
                              have hD : va_D A (mW ad N cI cZ cJ (wA (wA (wA (wA (wA v 13 ((v.1 0 15).toNatClampNeg) (21 : Int32)) 14 ((v.1 0 15).toNatClampNeg) pa) 0 15 ((v.1 0 15) + (1 : Int32))) 11 ((v.1 0 12).toNatClampNeg) (0 : Int32)) 0 12 ((v.1 0 12) + (1 : Int32)))) := hD
                              refine tp_i (y := (v.1 0 12)) (rfl) ?_
                              refine W.widen (k := 0) (n := 0) (Nat.le_refl _) (Nat.le_refl _) ?_
                              refine lv_bipush (v := -2) hx hb dX13_operate_455 (by decide) ?_
                              refine lv_iconst (v := 5) hx hb dX13_operate_457 (by decide) ?_
                              refine cu_v (rn_V (n := 3) (As := [.int (v.1 0 12), .int (-2), .int 5]) (rest := []) hx hb hml hown ht hKK hFx hP hD hS hA (c_m_fix l dC dI cI cB cZ cJ cR tb H.size ad N (wA (wA (wA (wA (wA v 13 ((v.1 0 15).toNatClampNeg) (21 : Int32)) 14 ((v.1 0 15).toNatClampNeg) pa) 0 15 ((v.1 0 15) + (1 : Int32))) 11 ((v.1 0 12).toNatClampNeg) (0 : Int32)) 0 12 ((v.1 0 12) + (1 : Int32))) (v.1 0 12) (-2 : Int32) (5 : Int32) (show 0 ≤ (v.1 0 43).toInt ∧ (v.1 0 43).toInt < 24000 from (om_bd95b2e5c4 zf))) tw_69 tw_70 (by decide +kernel) rfl rfl ⟨Nat.le_of_ble_eq_true rfl, Nat.le_of_ble_eq_true rfl⟩ (List.range (mW ad N cI cZ cJ (wA (wA (wA (wA (wA v 13 ((v.1 0 15).toNatClampNeg) (21 : Int32)) 14 ((v.1 0 15).toNatClampNeg) pa) 0 15 ((v.1 0 15) + (1 : Int32))) 11 ((v.1 0 12).toNatClampNeg) (0 : Int32)) 0 12 ((v.1 0 12) + (1 : Int32)))).length) (rg_map _) (mW_nd _ _ _ _ _ _) rfl rfl rfl rfl hl.1 rfl (Nat.le_of_ble_eq_true rfl) dX13_operate_458 ⟨Nat.le_of_ble_eq_true rfl, Nat.le_of_ble_eq_true rfl⟩) hP hD hS hA (fun u151 H locs hw150 hP hD hS => ?_)
                              obtain rfl := hw150
                              have z153 : ((v.1 0 43) + (1 : Int32)).toInt = ((v.1 0 43).toInt) + 1 := add_z rfl (show (1 : Int32).toInt = 1 by decide) (om_92b4e2a060 zf) (om_46bacc0712 zf)
                              have hP : va_P (dC, dI) vwCl (mW ad N cI cZ cJ (wA (wA (wA (wA (wA (wA (wA (wA (wA v 13 ((v.1 0 15).toNatClampNeg) (21 : Int32)) 14 ((v.1 0 15).toNatClampNeg) pa) 0 15 ((v.1 0 15) + (1 : Int32))) 11 ((v.1 0 12).toNatClampNeg) (0 : Int32)) 0 12 ((v.1 0 12) + (1 : Int32))) 40 ((v.1 0 43).toNatClampNeg) (v.1 0 12)) 41 ((v.1 0 43).toNatClampNeg) (-2 : Int32)) 42 ((v.1 0 43).toNatClampNeg) (5 : Int32)) 0 43 ((v.1 0 43) + (1 : Int32)))) H := hP
                              have hD : va_D A (mW ad N cI cZ cJ (wA (wA (wA (wA (wA (wA (wA (wA (wA v 13 ((v.1 0 15).toNatClampNeg) (21 : Int32)) 14 ((v.1 0 15).toNatClampNeg) pa) 0 15 ((v.1 0 15) + (1 : Int32))) 11 ((v.1 0 12).toNatClampNeg) (0 : Int32)) 0 12 ((v.1 0 12) + (1 : Int32))) 40 ((v.1 0 43).toNatClampNeg) (v.1 0 12)) 41 ((v.1 0 43).toNatClampNeg) (-2 : Int32)) 42 ((v.1 0 43).toNatClampNeg) (5 : Int32)) 0 43 ((v.1 0 43) + (1 : Int32)))) := hD
                              refine W.widen (k := 0) (n := 0) (Nat.le_refl _) (Nat.le_refl _) ?_
                              refine lv_iload_n hx hb dX13_operate_461 rfl (lv_at hl 1 rfl) ?_
                              refine lv_bipush (v := 37) hx hb dX13_operate_462 (by decide) ?_
                              refine lv_icmp_ne (tgt := 480) hx hb dX13_operate_464 (by decide) (fun h154 => ?_) (fun h154 => ?_)
                              · have z155 : pa.toInt ≠ 37 := ne_z rfl (show (37 : Int32).toInt = 37 by decide) h154
                                exact W.vret hx hb hr (fun t ht9 hW => ⟨⟨(wA (wA (wA (wA (wA (wA (wA (wA (wA v 13 ((v.1 0 15).toNatClampNeg) (21 : Int32)) 14 ((v.1 0 15).toNatClampNeg) pa) 0 15 ((v.1 0 15) + (1 : Int32))) 11 ((v.1 0 12).toNatClampNeg) (0 : Int32)) 0 12 ((v.1 0 12) + (1 : Int32))) 40 ((v.1 0 43).toNatClampNeg) (v.1 0 12)) 41 ((v.1 0 43).toNatClampNeg) (-2 : Int32)) 42 ((v.1 0 43).toNatClampNeg) (5 : Int32)) 0 43 ((v.1 0 43) + (1 : Int32))), rfl, ⟨(FG.f (FG.a (FG.a (FG.a (FG.f (FG.a (FG.f (FG.a (FG.a (FG.rf _) ((v.1 0 15).toNatClampNeg) (21 : Int32) (by decide) (by decide)) ((v.1 0 15).toNatClampNeg) pa (by decide) (by decide)) ((v.1 0 15) + (1 : Int32)) (by decide)) ((v.1 0 12).toNatClampNeg) (0 : Int32) (by decide) (by decide)) ((v.1 0 12) + (1 : Int32)) (by decide)) ((v.1 0 43).toNatClampNeg) (v.1 0 12) (by decide) (by decide)) ((v.1 0 43).toNatClampNeg) (-2 : Int32) (by decide) (by decide)) ((v.1 0 43).toNatClampNeg) (5 : Int32) (by decide) (by decide)) ((v.1 0 43) + (1 : Int32)) (by decide)), (show (v.1 0 12).toInt ≤ ((v.1 0 12) + (1 : Int32)).toInt ∧ ((v.1 0 12) + (1 : Int32)).toInt ≤ (v.1 0 12).toInt + 3 from (om_c2ac57be1c z149)), (show ((v.1 0 15) + (1 : Int32)).toInt = (v.1 0 15).toInt + 1 from (om_b2e2930950 z4)), (show (v.1 0 43).toInt ≤ ((v.1 0 43) + (1 : Int32)).toInt ∧ ((v.1 0 43) + (1 : Int32)).toInt ≤ (v.1 0 43).toInt + 1 from (om_4ef855bd84 z153)), (fun (j9 : Nat) hj9 => (pk_un3 (a := (v.1 0 12).toInt) rfl (om_4842074e86 zw) (om_4fe904e9bf hj9))), (fun (j9 : Nat) hj9 => (pk_un3 (a := (v.1 0 15).toInt) rfl (om_2ab3f6b9f5 zo) (om_4fe904e9bf hj9))), (fun (j9 : Nat) hj9 => (pk_un3 (a := (v.1 0 15).toInt) rfl (om_2ab3f6b9f5 zo) (om_4fe904e9bf hj9)))⟩, by rw [ht9]; exact hP, hD⟩, hS.F ht9⟩) hS.2.2 dX13_operate_480
                              · have z156 : pa.toInt = 37 := eq_z rfl (show (37 : Int32).toInt = 37 by decide) h154
                                refine lv_aload_n hx hb dX13_operate_467 rfl (lv_at hl 0 rfl) ?_
                                refine lv_bipush (v := 10) hx hb dX13_operate_468 (by decide) ?_
                                refine lv_bipush (v := 6) hx hb dX13_operate_470 (by decide) ?_
                                refine lv_iconst (v := 0) hx hb dX13_operate_472 (by decide) ?_
                                refine cu_s (mW_nd _ _ _ _ _ _) (rn_S (n := 3) (As := [.int 10, .int 6, .int 0]) (rest := [.ref (ad 0)]) hx hb hml hown ht hKK hFx hP hD hS hA (c_m_addi l dC dI cI cB cZ cJ cR tb H.size (10 : Int32) (6 : Int32) (0 : Int32) ) tw_65 tw_66 (by decide +kernel) rfl rfl ⟨Nat.le_of_ble_eq_true rfl, Nat.le_of_ble_eq_true rfl⟩ [] rfl rfl rfl hl.1 rfl (Nat.le_of_ble_eq_true rfl) dX13_operate_473 ⟨Nat.le_of_ble_eq_true rfl, Nat.le_of_ble_eq_true rfl⟩) hP hD hS hA (fun r159 H locs hw157 hP hD hS => ?_)
                                refine W.widen (k := 0) (n := 0) (Nat.le_refl _) (Nat.le_refl _) ?_
                                refine cu_i (rn_V (n := 1) (As := [.int r159]) (rest := []) hx hb hml hown ht hKK hFx hP hD hS hA (c_m_emit l dC dI cI cB cZ cJ cR tb H.size ad N (wA (wA (wA (wA (wA (wA (wA (wA (wA v 13 ((v.1 0 15).toNatClampNeg) (21 : Int32)) 14 ((v.1 0 15).toNatClampNeg) pa) 0 15 ((v.1 0 15) + (1 : Int32))) 11 ((v.1 0 12).toNatClampNeg) (0 : Int32)) 0 12 ((v.1 0 12) + (1 : Int32))) 40 ((v.1 0 43).toNatClampNeg) (v.1 0 12)) 41 ((v.1 0 43).toNatClampNeg) (-2 : Int32)) 42 ((v.1 0 43).toNatClampNeg) (5 : Int32)) 0 43 ((v.1 0 43) + (1 : Int32))) r159 (show 0 ≤ ((v.1 0 12) + (1 : Int32)).toInt ∧ ((v.1 0 12) + (1 : Int32)).toInt < 24000 from (om_036dd2a3e0 zw z149))) tw_8 tw_9 (by decide +kernel) rfl rfl ⟨Nat.le_of_ble_eq_true rfl, Nat.le_of_ble_eq_true rfl⟩ (List.range (mW ad N cI cZ cJ (wA (wA (wA (wA (wA (wA (wA (wA (wA v 13 ((v.1 0 15).toNatClampNeg) (21 : Int32)) 14 ((v.1 0 15).toNatClampNeg) pa) 0 15 ((v.1 0 15) + (1 : Int32))) 11 ((v.1 0 12).toNatClampNeg) (0 : Int32)) 0 12 ((v.1 0 12) + (1 : Int32))) 40 ((v.1 0 43).toNatClampNeg) (v.1 0 12)) 41 ((v.1 0 43).toNatClampNeg) (-2 : Int32)) 42 ((v.1 0 43).toNatClampNeg) (5 : Int32)) 0 43 ((v.1 0 43) + (1 : Int32)))).length) (rg_map _) (mW_nd _ _ _ _ _ _) rfl rfl rfl rfl hl.1 rfl (Nat.le_of_ble_eq_true rfl) dX13_operate_476 ⟨Nat.le_of_ble_eq_true rfl, Nat.le_of_ble_eq_true rfl⟩) hP hD hS hA (fun r162 u161 H locs hw160 hP hD hS => ?_)
                                obtain ⟨rfl, rfl⟩ := hw160
                                have z163 : (((v.1 0 12) + (1 : Int32)) + (1 : Int32)).toInt = (((v.1 0 12).toInt) + 1) + 1 := add_z z149 (show (1 : Int32).toInt = 1 by decide) (om_f6b9a2a44c zw) (om_86af896540 zw)
                                have hP : va_P (dC, dI) vwCl (mW ad N cI cZ cJ (wA (wA (wA (wA (wA (wA (wA (wA (wA (wA (wA v 13 ((v.1 0 15).toNatClampNeg) (21 : Int32)) 14 ((v.1 0 15).toNatClampNeg) pa) 0 15 ((v.1 0 15) + (1 : Int32))) 11 ((v.1 0 12).toNatClampNeg) (0 : Int32)) 0 12 ((v.1 0 12) + (1 : Int32))) 40 ((v.1 0 43).toNatClampNeg) (v.1 0 12)) 41 ((v.1 0 43).toNatClampNeg) (-2 : Int32)) 42 ((v.1 0 43).toNatClampNeg) (5 : Int32)) 0 43 ((v.1 0 43) + (1 : Int32))) 11 (((v.1 0 12) + (1 : Int32)).toNatClampNeg) r159) 0 12 (((v.1 0 12) + (1 : Int32)) + (1 : Int32)))) H := hP
                                have hD : va_D A (mW ad N cI cZ cJ (wA (wA (wA (wA (wA (wA (wA (wA (wA (wA (wA v 13 ((v.1 0 15).toNatClampNeg) (21 : Int32)) 14 ((v.1 0 15).toNatClampNeg) pa) 0 15 ((v.1 0 15) + (1 : Int32))) 11 ((v.1 0 12).toNatClampNeg) (0 : Int32)) 0 12 ((v.1 0 12) + (1 : Int32))) 40 ((v.1 0 43).toNatClampNeg) (v.1 0 12)) 41 ((v.1 0 43).toNatClampNeg) (-2 : Int32)) 42 ((v.1 0 43).toNatClampNeg) (5 : Int32)) 0 43 ((v.1 0 43) + (1 : Int32))) 11 (((v.1 0 12) + (1 : Int32)).toNatClampNeg) r159) 0 12 (((v.1 0 12) + (1 : Int32)) + (1 : Int32)))) := hD
                                refine tp_i (y := ((v.1 0 12) + (1 : Int32))) (rfl) ?_
                                refine W.widen (k := 0) (n := 0) (Nat.le_refl _) (Nat.le_refl _) ?_
                                refine lv_pop hx hb dX13_operate_479 rfl ?_
                                exact W.vret hx hb hr (fun t ht9 hW => ⟨⟨(wA (wA (wA (wA (wA (wA (wA (wA (wA (wA (wA v 13 ((v.1 0 15).toNatClampNeg) (21 : Int32)) 14 ((v.1 0 15).toNatClampNeg) pa) 0 15 ((v.1 0 15) + (1 : Int32))) 11 ((v.1 0 12).toNatClampNeg) (0 : Int32)) 0 12 ((v.1 0 12) + (1 : Int32))) 40 ((v.1 0 43).toNatClampNeg) (v.1 0 12)) 41 ((v.1 0 43).toNatClampNeg) (-2 : Int32)) 42 ((v.1 0 43).toNatClampNeg) (5 : Int32)) 0 43 ((v.1 0 43) + (1 : Int32))) 11 (((v.1 0 12) + (1 : Int32)).toNatClampNeg) r159) 0 12 (((v.1 0 12) + (1 : Int32)) + (1 : Int32))), rfl, ⟨(FG.f (FG.a (FG.f (FG.a (FG.a (FG.a (FG.f (FG.a (FG.f (FG.a (FG.a (FG.rf _) ((v.1 0 15).toNatClampNeg) (21 : Int32) (by decide) (by decide)) ((v.1 0 15).toNatClampNeg) pa (by decide) (by decide)) ((v.1 0 15) + (1 : Int32)) (by decide)) ((v.1 0 12).toNatClampNeg) (0 : Int32) (by decide) (by decide)) ((v.1 0 12) + (1 : Int32)) (by decide)) ((v.1 0 43).toNatClampNeg) (v.1 0 12) (by decide) (by decide)) ((v.1 0 43).toNatClampNeg) (-2 : Int32) (by decide) (by decide)) ((v.1 0 43).toNatClampNeg) (5 : Int32) (by decide) (by decide)) ((v.1 0 43) + (1 : Int32)) (by decide)) (((v.1 0 12) + (1 : Int32)).toNatClampNeg) r159 (by decide) (by decide)) (((v.1 0 12) + (1 : Int32)) + (1 : Int32)) (by decide)), (show (v.1 0 12).toInt ≤ (((v.1 0 12) + (1 : Int32)) + (1 : Int32)).toInt ∧ (((v.1 0 12) + (1 : Int32)) + (1 : Int32)).toInt ≤ (v.1 0 12).toInt + 3 from (om_1d95865769 z163)), (show ((v.1 0 15) + (1 : Int32)).toInt = (v.1 0 15).toInt + 1 from (om_b2e2930950 z4)), (show (v.1 0 43).toInt ≤ ((v.1 0 43) + (1 : Int32)).toInt ∧ ((v.1 0 43) + (1 : Int32)).toInt ≤ (v.1 0 43).toInt + 1 from (om_4ef855bd84 z153)), (fun (j9 : Nat) hj9 => (Eq.trans (pk_un3 (a := ((v.1 0 12) + (1 : Int32)).toInt) rfl (om_e7e2a26263 zw z149) (om_3370121707 z149 hj9)) (pk_un3 (a := (v.1 0 12).toInt) rfl (om_4842074e86 zw) (om_4fe904e9bf hj9)))), (fun (j9 : Nat) hj9 => (pk_un3 (a := (v.1 0 15).toInt) rfl (om_2ab3f6b9f5 zo) (om_4fe904e9bf hj9))), (fun (j9 : Nat) hj9 => (pk_un3 (a := (v.1 0 15).toInt) rfl (om_2ab3f6b9f5 zo) (om_4fe904e9bf hj9)))⟩, by rw [ht9]; exact hP, hD⟩, hS.F ht9⟩) hS.2.2 dX13_operate_480
theorem om_33313b89c8 {x0 x1 : Int} (h0 : 0 ≤ x0 ∨ (0 ≤ x1 ∧ x1 < 60)) (h1 : x0 < 0) : 0 ≤ x1 := by omega
theorem om_ae94cee08d {x0 x1 : Int} (h0 : 0 ≤ x0 ∨ (0 ≤ x1 ∧ x1 < 60)) (h1 : x0 < 0) : x1 < 60 := by omega
theorem om_798cb3402e {x0 : Int} : x0 ≤ x0 ∧ x0 ≤ x0 + 2 := by omega
set_option maxHeartbeats 4000000 in
set_option maxRecDepth 100000 in
theorem c_m_fetch (l : Launch) (dC : Nat → ClassId) (dI : Nat → Nat → Nat) (cI cB cZ cJ cR : ClassId) (tb : Nat → Nat) (sz : Nat) (ad : Nat → Nat) (N : Nat) (v : MS) (pa : Int32) (pb : Int32) (zw : 0 ≤ (v.1 0 12).toInt ∧ (v.1 0 12).toInt ≤ 23980) (zo : 0 ≤ (v.1 0 15).toInt ∧ (v.1 0 15).toInt ≤ 15980) (zf : 0 ≤ (v.1 0 43).toInt ∧ (v.1 0 43).toInt ≤ 23980) (zg : 0 ≤ pa.toInt ∨ (0 ≤ pb.toInt ∧ pb.toInt < 60)) : Met l yX13_fetch (Cond.code yX13_fetch cX13_fetch 3 none :: tw_W) ({ frames := 2, cells := 0, slots := 0, locals := 46 }) (pc_ (dC, dI) (tyS cI cB cZ cJ cR) tb (mW ad N cI cZ cJ v) sz [.ref (ad 0), .int pa, .int pb]) (qv_ (dC, dI) (mW ad N cI cZ cJ v) sz (fun (u : MS) => FG [12, 15, 43] [0, 11, 13, 14, 40, 41, 42] v u ∧ ((v.1 0 12).toInt ≤ (u.1 0 12).toInt ∧ (u.1 0 12).toInt ≤ (v.1 0 12).toInt + 2) ∧ ((u.1 0 15).toInt = (v.1 0 15).toInt + 1) ∧ ((v.1 0 43).toInt ≤ (u.1 0 43).toInt ∧ (u.1 0 43).toInt ≤ (v.1 0 43).toInt + 2) ∧ (∀ j : Nat, (j : Int) < (v.1 0 12).toInt → (u.1 11) j = (v.1 11) j) ∧ (∀ j : Nat, (j : Int) < (v.1 0 15).toInt → (u.1 13) j = (v.1 13) j) ∧ (∀ j : Nat, (j : Int) < (v.1 0 15).toInt → (u.1 14) j = (v.1 14) j)) (fun (u : MS) => (mW ad N cI cZ cJ u))) 0 0 (va_A (mW ad N cI cZ cJ v) sz) := by
  refine Met.ofW (cc := cX13_fetch) (maxL := 3) (ret := none) (by decide) rfl ?_
  intro p e s m args below meth c s₁ B hml hv
  obtain ⟨rfl, hsz, hP, hKK, hD0, hFx⟩ := hv
  have hK := hKK.1
  have hx := B.exec
  have hb := B.bytes
  have hr := B.returns
  have ht : ∀ w ∈ tw_W, w.before _ s = true := fun w h => atoms_spec (ws := Cond.code yX13_fetch cX13_fetch 3 none :: tw_W) B.pre w (List.mem_cons_of_mem _ h)
  have hown : s.vm.findClass RX13 = some m.cls := findClass_of_methodNamed B.named
  have hlocks := B.notSynchronized
  subst hsz
  unfold qv_
  have hD := hD0.self (sz := s.heap.size)
  generalize hAe : va_A (mW ad N cI cZ cJ v) s.heap.size = A at hD hFx ⊢
  have hA : ∀ q : Nat, s.heap.size ≤ q → A q := fun q h => by rw [← hAe]; exact Or.inr h
  have hS : va_S A s.heap s.heap [] := va_S.rf
  have hl := lv_entry ([.ref (ad 0), .int pa, .int pb]) (n := 3) (Nat.le_of_ble_eq_true rfl)
  rw [lg_entry_eq]
  generalize (lg_sl ([.ref (ad 0), .int pa, .int pb]) ++ List.replicate (3 - (lg_sl ([.ref (ad 0), .int pa, .int pb])).length) Slot.unset).toArray = ls at hl ⊢
  have hl : lv_has ls 3 [(0, .ref (ad 0)), (1, .int pa), (2, .int pb)] := hl
  refine lv_iload_n hx hb dX13_fetch_0 rfl (lv_at hl 1 rfl) ?_
  refine lv_if_lt (tgt := 30) hx hb dX13_fetch_1 (by decide) (fun h1 => ?_) (fun h1 => ?_)
  · have z2 : pa.toInt < 0 := lt_z rfl (show (0 : Int32).toInt = 0 by decide) h1
    refine lv_aload_n hx hb dX13_fetch_30 rfl (lv_at hl 0 rfl) ?_
    refine lv_aload_n hx hb dX13_fetch_31 rfl (lv_at hl 0 rfl) ?_
    refine lv_bipush (v := 6) hx hb dX13_fetch_32 (by decide) ?_
    refine lv_iconst (v := 0) hx hb dX13_fetch_34 (by decide) ?_
    refine cu_s (mW_nd _ _ _ _ _ _) (rn_S (n := 2) (As := [.int 6, .int 0]) (rest := [.ref (ad 0), .ref (ad 0)]) hx hb hml hown ht hKK hFx hP hD hS hA (c_m_lui l dC dI cI cB cZ cJ cR tb s.heap.size (6 : Int32) (0 : Int32) ) tw_61 tw_62 (by decide +kernel) rfl rfl ⟨Nat.le_of_ble_eq_true rfl, Nat.le_of_ble_eq_true rfl⟩ [] rfl rfl rfl hl.1 rfl (Nat.le_of_ble_eq_true rfl) dX13_fetch_35 ⟨Nat.le_of_ble_eq_true rfl, Nat.le_of_ble_eq_true rfl⟩) hP hD hS hA (fun r5 H locs hw3 hP hD hS => ?_)
    refine W.widen (k := 0) (n := 0) (Nat.le_refl _) (Nat.le_refl _) ?_
    refine cu_i (rn_V (n := 1) (As := [.int r5]) (rest := [.ref (ad 0)]) hx hb hml hown ht hKK hFx hP hD hS hA (c_m_emit l dC dI cI cB cZ cJ cR tb H.size ad N v r5 (show 0 ≤ (v.1 0 12).toInt ∧ (v.1 0 12).toInt < 24000 from (om_bd95b2e5c4 zw))) tw_8 tw_9 (by decide +kernel) rfl rfl ⟨Nat.le_of_ble_eq_true rfl, Nat.le_of_ble_eq_true rfl⟩ (List.range (mW ad N cI cZ cJ v).length) (rg_map _) (mW_nd _ _ _ _ _ _) rfl rfl rfl rfl hl.1 rfl (Nat.le_of_ble_eq_true rfl) dX13_fetch_38 ⟨Nat.le_of_ble_eq_true rfl, Nat.le_of_ble_eq_true rfl⟩) hP hD hS hA (fun r8 u7 H locs hw6 hP hD hS => ?_)
    obtain ⟨rfl, rfl⟩ := hw6
    have z9 : ((v.1 0 12) + (1 : Int32)).toInt = ((v.1 0 12).toInt) + 1 := add_z rfl (show (1 : Int32).toInt = 1 by decide) (om_92b4e2a060 zw) (om_46bacc0712 zw)
    have hP : va_P (dC, dI) vwCl (mW ad N cI cZ cJ (wA (wA v 11 ((v.1 0 12).toNatClampNeg) r5) 0 12 ((v.1 0 12) + (1 : Int32)))) H := hP
    have hD : va_D A (mW ad N cI cZ cJ (wA (wA v 11 ((v.1 0 12).toNatClampNeg) r5) 0 12 ((v.1 0 12) + (1 : Int32)))) := hD
    refine tp_i (y := (v.1 0 12)) (rfl) ?_
    refine W.widen (k := 0) (n := 0) (Nat.le_refl _) (Nat.le_refl _) ?_
    refine lv_iload_n hx hb dX13_fetch_41 rfl (lv_at hl 2 rfl) ?_
    refine lv_iconst (v := 0) hx hb dX13_fetch_42 (by decide) ?_
    refine cu_v (rn_V (n := 3) (As := [.int (v.1 0 12), .int pb, .int 0]) (rest := []) hx hb hml hown ht hKK hFx hP hD hS hA (c_m_fix l dC dI cI cB cZ cJ cR tb H.size ad N (wA (wA v 11 ((v.1 0 12).toNatClampNeg) r5) 0 12 ((v.1 0 12) + (1 : Int32))) (v.1 0 12) pb (0 : Int32) (show 0 ≤ (v.1 0 43).toInt ∧ (v.1 0 43).toInt < 24000 from (om_bd95b2e5c4 zf))) tw_69 tw_70 (by decide +kernel) rfl rfl ⟨Nat.le_of_ble_eq_true rfl, Nat.le_of_ble_eq_true rfl⟩ (List.range (mW ad N cI cZ cJ (wA (wA v 11 ((v.1 0 12).toNatClampNeg) r5) 0 12 ((v.1 0 12) + (1 : Int32)))).length) (rg_map _) (mW_nd _ _ _ _ _ _) rfl rfl rfl rfl hl.1 rfl (Nat.le_of_ble_eq_true rfl) dX13_fetch_43 ⟨Nat.le_of_ble_eq_true rfl, Nat.le_of_ble_eq_true rfl⟩) hP hD hS hA (fun u11 H locs hw10 hP hD hS => ?_)
    obtain rfl := hw10
    have z13 : ((v.1 0 43) + (1 : Int32)).toInt = ((v.1 0 43).toInt) + 1 := add_z rfl (show (1 : Int32).toInt = 1 by decide) (om_92b4e2a060 zf) (om_46bacc0712 zf)
    have hP : va_P (dC, dI) vwCl (mW ad N cI cZ cJ (wA (wA (wA (wA (wA (wA v 11 ((v.1 0 12).toNatClampNeg) r5) 0 12 ((v.1 0 12) + (1 : Int32))) 40 ((v.1 0 43).toNatClampNeg) (v.1 0 12)) 41 ((v.1 0 43).toNatClampNeg) pb) 42 ((v.1 0 43).toNatClampNeg) (0 : Int32)) 0 43 ((v.1 0 43) + (1 : Int32)))) H := hP
    have hD : va_D A (mW ad N cI cZ cJ (wA (wA (wA (wA (wA (wA v 11 ((v.1 0 12).toNatClampNeg) r5) 0 12 ((v.1 0 12) + (1 : Int32))) 40 ((v.1 0 43).toNatClampNeg) (v.1 0 12)) 41 ((v.1 0 43).toNatClampNeg) pb) 42 ((v.1 0 43).toNatClampNeg) (0 : Int32)) 0 43 ((v.1 0 43) + (1 : Int32)))) := hD
    refine W.widen (k := 0) (n := 0) (Nat.le_refl _) (Nat.le_refl _) ?_
    refine lv_aload_n hx hb dX13_fetch_46 rfl (lv_at hl 0 rfl) ?_
    refine lv_aload_n hx hb dX13_fetch_47 rfl (lv_at hl 0 rfl) ?_
    refine lv_bipush (v := 10) hx hb dX13_fetch_48 (by decide) ?_
    refine lv_iconst (v := 0) hx hb dX13_fetch_50 (by decide) ?_
    refine lv_bipush (v := 6) hx hb dX13_fetch_51 (by decide) ?_
    refine cu_s (mW_nd _ _ _ _ _ _) (rn_S (n := 3) (As := [.int 10, .int 0, .int 6]) (rest := [.ref (ad 0), .ref (ad 0)]) hx hb hml hown ht hKK hFx hP hD hS hA (c_m_lw l dC dI cI cB cZ cJ cR tb H.size (10 : Int32) (0 : Int32) (6 : Int32) ) tw_71 tw_72 (by decide +kernel) rfl rfl ⟨Nat.le_of_ble_eq_true rfl, Nat.le_of_ble_eq_true rfl⟩ [] rfl rfl rfl hl.1 rfl (Nat.le_of_ble_eq_true rfl) dX13_fetch_53 ⟨Nat.le_of_ble_eq_true rfl, Nat.le_of_ble_eq_true rfl⟩) hP hD hS hA (fun r16 H locs hw14 hP hD hS => ?_)
    refine W.widen (k := 0) (n := 0) (Nat.le_refl _) (Nat.le_refl _) ?_
    refine cu_i (rn_V (n := 1) (As := [.int r16]) (rest := [.ref (ad 0)]) hx hb hml hown ht hKK hFx hP hD hS hA (c_m_emit l dC dI cI cB cZ cJ cR tb H.size ad N (wA (wA (wA (wA (wA (wA v 11 ((v.1 0 12).toNatClampNeg) r5) 0 12 ((v.1 0 12) + (1 : Int32))) 40 ((v.1 0 43).toNatClampNeg) (v.1 0 12)) 41 ((v.1 0 43).toNatClampNeg) pb) 42 ((v.1 0 43).toNatClampNeg) (0 : Int32)) 0 43 ((v.1 0 43) + (1 : Int32))) r16 (show 0 ≤ ((v.1 0 12) + (1 : Int32)).toInt ∧ ((v.1 0 12) + (1 : Int32)).toInt < 24000 from (om_036dd2a3e0 zw z9))) tw_8 tw_9 (by decide +kernel) rfl rfl ⟨Nat.le_of_ble_eq_true rfl, Nat.le_of_ble_eq_true rfl⟩ (List.range (mW ad N cI cZ cJ (wA (wA (wA (wA (wA (wA v 11 ((v.1 0 12).toNatClampNeg) r5) 0 12 ((v.1 0 12) + (1 : Int32))) 40 ((v.1 0 43).toNatClampNeg) (v.1 0 12)) 41 ((v.1 0 43).toNatClampNeg) pb) 42 ((v.1 0 43).toNatClampNeg) (0 : Int32)) 0 43 ((v.1 0 43) + (1 : Int32)))).length) (rg_map _) (mW_nd _ _ _ _ _ _) rfl rfl rfl rfl hl.1 rfl (Nat.le_of_ble_eq_true rfl) dX13_fetch_56 ⟨Nat.le_of_ble_eq_true rfl, Nat.le_of_ble_eq_true rfl⟩) hP hD hS hA (fun r19 u18 H locs hw17 hP hD hS => ?_)
    obtain ⟨rfl, rfl⟩ := hw17
    have z20 : (((v.1 0 12) + (1 : Int32)) + (1 : Int32)).toInt = (((v.1 0 12).toInt) + 1) + 1 := add_z z9 (show (1 : Int32).toInt = 1 by decide) (om_f6b9a2a44c zw) (om_86af896540 zw)
    have hP : va_P (dC, dI) vwCl (mW ad N cI cZ cJ (wA (wA (wA (wA (wA (wA (wA (wA v 11 ((v.1 0 12).toNatClampNeg) r5) 0 12 ((v.1 0 12) + (1 : Int32))) 40 ((v.1 0 43).toNatClampNeg) (v.1 0 12)) 41 ((v.1 0 43).toNatClampNeg) pb) 42 ((v.1 0 43).toNatClampNeg) (0 : Int32)) 0 43 ((v.1 0 43) + (1 : Int32))) 11 (((v.1 0 12) + (1 : Int32)).toNatClampNeg) r16) 0 12 (((v.1 0 12) + (1 : Int32)) + (1 : Int32)))) H := hP
    have hD : va_D A (mW ad N cI cZ cJ (wA (wA (wA (wA (wA (wA (wA (wA v 11 ((v.1 0 12).toNatClampNeg) r5) 0 12 ((v.1 0 12) + (1 : Int32))) 40 ((v.1 0 43).toNatClampNeg) (v.1 0 12)) 41 ((v.1 0 43).toNatClampNeg) pb) 42 ((v.1 0 43).toNatClampNeg) (0 : Int32)) 0 43 ((v.1 0 43) + (1 : Int32))) 11 (((v.1 0 12) + (1 : Int32)).toNatClampNeg) r16) 0 12 (((v.1 0 12) + (1 : Int32)) + (1 : Int32)))) := hD
    refine tp_i (y := ((v.1 0 12) + (1 : Int32))) (rfl) ?_
    refine W.widen (k := 0) (n := 0) (Nat.le_refl _) (Nat.le_refl _) ?_
    refine lv_iload_n hx hb dX13_fetch_59 rfl (lv_at hl 2 rfl) ?_
    refine lv_iconst (v := 1) hx hb dX13_fetch_60 (by decide) ?_
    refine cu_v (rn_V (n := 3) (As := [.int ((v.1 0 12) + (1 : Int32)), .int pb, .int 1]) (rest := []) hx hb hml hown ht hKK hFx hP hD hS hA (c_m_fix l dC dI cI cB cZ cJ cR tb H.size ad N (wA (wA (wA (wA (wA (wA (wA (wA v 11 ((v.1 0 12).toNatClampNeg) r5) 0 12 ((v.1 0 12) + (1 : Int32))) 40 ((v.1 0 43).toNatClampNeg) (v.1 0 12)) 41 ((v.1 0 43).toNatClampNeg) pb) 42 ((v.1 0 43).toNatClampNeg) (0 : Int32)) 0 43 ((v.1 0 43) + (1 : Int32))) 11 (((v.1 0 12) + (1 : Int32)).toNatClampNeg) r16) 0 12 (((v.1 0 12) + (1 : Int32)) + (1 : Int32))) ((v.1 0 12) + (1 : Int32)) pb (1 : Int32) (show 0 ≤ ((v.1 0 43) + (1 : Int32)).toInt ∧ ((v.1 0 43) + (1 : Int32)).toInt < 24000 from (om_036dd2a3e0 zf z13))) tw_69 tw_70 (by decide +kernel) rfl rfl ⟨Nat.le_of_ble_eq_true rfl, Nat.le_of_ble_eq_true rfl⟩ (List.range (mW ad N cI cZ cJ (wA (wA (wA (wA (wA (wA (wA (wA v 11 ((v.1 0 12).toNatClampNeg) r5) 0 12 ((v.1 0 12) + (1 : Int32))) 40 ((v.1 0 43).toNatClampNeg) (v.1 0 12)) 41 ((v.1 0 43).toNatClampNeg) pb) 42 ((v.1 0 43).toNatClampNeg) (0 : Int32)) 0 43 ((v.1 0 43) + (1 : Int32))) 11 (((v.1 0 12) + (1 : Int32)).toNatClampNeg) r16) 0 12 (((v.1 0 12) + (1 : Int32)) + (1 : Int32)))).length) (rg_map _) (mW_nd _ _ _ _ _ _) rfl rfl rfl rfl hl.1 rfl (Nat.le_of_ble_eq_true rfl) dX13_fetch_61 ⟨Nat.le_of_ble_eq_true rfl, Nat.le_of_ble_eq_true rfl⟩) hP hD hS hA (fun u22 H locs hw21 hP hD hS => ?_)
    obtain rfl := hw21
    have z24 : (((v.1 0 43) + (1 : Int32)) + (1 : Int32)).toInt = (((v.1 0 43).toInt) + 1) + 1 := add_z z13 (show (1 : Int32).toInt = 1 by decide) (om_f6b9a2a44c zf) (om_86af896540 zf)
    have hP : va_P (dC, dI) vwCl (mW ad N cI cZ cJ (wA (wA (wA (wA (wA (wA (wA (wA (wA (wA (wA (wA v 11 ((v.1 0 12).toNatClampNeg) r5) 0 12 ((v.1 0 12) + (1 : Int32))) 40 ((v.1 0 43).toNatClampNeg) (v.1 0 12)) 41 ((v.1 0 43).toNatClampNeg) pb) 42 ((v.1 0 43).toNatClampNeg) (0 : Int32)) 0 43 ((v.1 0 43) + (1 : Int32))) 11 (((v.1 0 12) + (1 : Int32)).toNatClampNeg) r16) 0 12 (((v.1 0 12) + (1 : Int32)) + (1 : Int32))) 40 (((v.1 0 43) + (1 : Int32)).toNatClampNeg) ((v.1 0 12) + (1 : Int32))) 41 (((v.1 0 43) + (1 : Int32)).toNatClampNeg) pb) 42 (((v.1 0 43) + (1 : Int32)).toNatClampNeg) (1 : Int32)) 0 43 (((v.1 0 43) + (1 : Int32)) + (1 : Int32)))) H := hP
    have hD : va_D A (mW ad N cI cZ cJ (wA (wA (wA (wA (wA (wA (wA (wA (wA (wA (wA (wA v 11 ((v.1 0 12).toNatClampNeg) r5) 0 12 ((v.1 0 12) + (1 : Int32))) 40 ((v.1 0 43).toNatClampNeg) (v.1 0 12)) 41 ((v.1 0 43).toNatClampNeg) pb) 42 ((v.1 0 43).toNatClampNeg) (0 : Int32)) 0 43 ((v.1 0 43) + (1 : Int32))) 11 (((v.1 0 12) + (1 : Int32)).toNatClampNeg) r16) 0 12 (((v.1 0 12) + (1 : Int32)) + (1 : Int32))) 40 (((v.1 0 43) + (1 : Int32)).toNatClampNeg) ((v.1 0 12) + (1 : Int32))) 41 (((v.1 0 43) + (1 : Int32)).toNatClampNeg) pb) 42 (((v.1 0 43) + (1 : Int32)).toNatClampNeg) (1 : Int32)) 0 43 (((v.1 0 43) + (1 : Int32)) + (1 : Int32)))) := hD
    refine W.widen (k := 0) (n := 0) (Nat.le_refl _) (Nat.le_refl _) ?_
    refine lv_aload_n hx hb dX13_fetch_64 rfl (lv_at hl 0 rfl) ?_
    refine lv_iconst (v := 3) hx hb dX13_fetch_65 (by decide) ?_
    refine lv_aload_n hx hb dX13_fetch_66 rfl (lv_at hl 0 rfl) ?_
    refine va_get (D := (dC, dI)) (ci := 16) (fs := mF ad (wA (wA (wA (wA (wA (wA (wA (wA (wA (wA (wA (wA v 11 ((v.1 0 12).toNatClampNeg) r5) 0 12 ((v.1 0 12) + (1 : Int32))) 40 ((v.1 0 43).toNatClampNeg) (v.1 0 12)) 41 ((v.1 0 43).toNatClampNeg) pb) 42 ((v.1 0 43).toNatClampNeg) (0 : Int32)) 0 43 ((v.1 0 43) + (1 : Int32))) 11 (((v.1 0 12) + (1 : Int32)).toNatClampNeg) r16) 0 12 (((v.1 0 12) + (1 : Int32)) + (1 : Int32))) 40 (((v.1 0 43) + (1 : Int32)).toNatClampNeg) ((v.1 0 12) + (1 : Int32))) 41 (((v.1 0 43) + (1 : Int32)).toNatClampNeg) pb) 42 (((v.1 0 43) + (1 : Int32)).toNatClampNeg) (1 : Int32)) 0 43 (((v.1 0 43) + (1 : Int32)) + (1 : Int32)))) (v := .ref (ad 25)) (C := RX13) (T := TX13) (N := 124) hx hb ht itX13 hown hK hP 0 rfl rfl 25 (by decide) (ht _ tw_73) (fun _ h9 => h9) rfl dX13_fetch_67 ?_
    refine lv_iload_n hx hb dX13_fetch_70 rfl (lv_at hl 2 rfl) ?_
    refine va_iald (D := (dC, dI)) (f := (v.1 25)) hx hb hK hP 19 0 rfl rfl (in_y (a := pb.toInt) (b := 60) rfl (om_33313b89c8 zg z2) (om_ae94cee08d zg z2) rfl) dX13_fetch_71 ?_
    refine cu_i (rn_V (n := 2) (As := [.int 3, .int ((v.1 25) pb.toNatClampNeg)]) (rest := []) hx hb hml hown ht hKK hFx hP hD hS hA (c_m_say l dC dI cI cB cZ cJ cR tb H.size ad N (wA (wA (wA (wA (wA (wA (wA (wA (wA (wA (wA (wA v 11 ((v.1 0 12).toNatClampNeg) r5) 0 12 ((v.1 0 12) + (1 : Int32))) 40 ((v.1 0 43).toNatClampNeg) (v.1 0 12)) 41 ((v.1 0 43).toNatClampNeg) pb) 42 ((v.1 0 43).toNatClampNeg) (0 : Int32)) 0 43 ((v.1 0 43) + (1 : Int32))) 11 (((v.1 0 12) + (1 : Int32)).toNatClampNeg) r16) 0 12 (((v.1 0 12) + (1 : Int32)) + (1 : Int32))) 40 (((v.1 0 43) + (1 : Int32)).toNatClampNeg) ((v.1 0 12) + (1 : Int32))) 41 (((v.1 0 43) + (1 : Int32)).toNatClampNeg) pb) 42 (((v.1 0 43) + (1 : Int32)).toNatClampNeg) (1 : Int32)) 0 43 (((v.1 0 43) + (1 : Int32)) + (1 : Int32))) (3 : Int32) ((v.1 25) pb.toNatClampNeg) (show 0 ≤ (v.1 0 15).toInt ∧ (v.1 0 15).toInt < 16000 from (om_434853ee4d zo))) tw_59 tw_60 (by decide +kernel) rfl rfl ⟨Nat.le_of_ble_eq_true rfl, Nat.le_of_ble_eq_true rfl⟩ (List.range (mW ad N cI cZ cJ (wA (wA (wA (wA (wA (wA (wA (wA (wA (wA (wA (wA v 11 ((v.1 0 12).toNatClampNeg) r5) 0 12 ((v.1 0 12) + (1 : Int32))) 40 ((v.1 0 43).toNatClampNeg) (v.1 0 12)) 41 ((v.1 0 43).toNatClampNeg) pb) 42 ((v.1 0 43).toNatClampNeg) (0 : Int32)) 0 43 ((v.1 0 43) + (1 : Int32))) 11 (((v.1 0 12) + (1 : Int32)).toNatClampNeg) r16) 0 12 (((v.1 0 12) + (1 : Int32)) + (1 : Int32))) 40 (((v.1 0 43) + (1 : Int32)).toNatClampNeg) ((v.1 0 12) + (1 : Int32))) 41 (((v.1 0 43) + (1 : Int32)).toNatClampNeg) pb) 42 (((v.1 0 43) + (1 : Int32)).toNatClampNeg) (1 : Int32)) 0 43 (((v.1 0 43) + (1 : Int32)) + (1 : Int32)))).length) (rg_map _) (mW_nd _ _ _ _ _ _) rfl rfl rfl rfl hl.1 rfl (Nat.le_of_ble_eq_true rfl) dX13_fetch_72 ⟨Nat.le_of_ble_eq_true rfl, Nat.le_of_ble_eq_true rfl⟩) hP hD hS hA (fun r27 u26 H locs hw25 hP hD hS => ?_)
    obtain ⟨rfl, rfl⟩ := hw25
    have z28 : ((v.1 0 15) + (1 : Int32)).toInt = ((v.1 0 15).toInt) + 1 := add_z rfl (show (1 : Int32).toInt = 1 by decide) (om_9aa2e986af zo) (om_363e01920b zo)
    have hP : va_P (dC, dI) vwCl (mW ad N cI cZ cJ (wA (wA (wA (wA (wA (wA (wA (wA (wA (wA (wA (wA (wA (wA (wA v 11 ((v.1 0 12).toNatClampNeg) r5) 0 12 ((v.1 0 12) + (1 : Int32))) 40 ((v.1 0 43).toNatClampNeg) (v.1 0 12)) 41 ((v.1 0 43).toNatClampNeg) pb) 42 ((v.1 0 43).toNatClampNeg) (0 : Int32)) 0 43 ((v.1 0 43) + (1 : Int32))) 11 (((v.1 0 12) + (1 : Int32)).toNatClampNeg) r16) 0 12 (((v.1 0 12) + (1 : Int32)) + (1 : Int32))) 40 (((v.1 0 43) + (1 : Int32)).toNatClampNeg) ((v.1 0 12) + (1 : Int32))) 41 (((v.1 0 43) + (1 : Int32)).toNatClampNeg) pb) 42 (((v.1 0 43) + (1 : Int32)).toNatClampNeg) (1 : Int32)) 0 43 (((v.1 0 43) + (1 : Int32)) + (1 : Int32))) 13 ((v.1 0 15).toNatClampNeg) (3 : Int32)) 14 ((v.1 0 15).toNatClampNeg) ((v.1 25) pb.toNatClampNeg)) 0 15 ((v.1 0 15) + (1 : Int32)))) H := hP
    have hD : va_D A (mW ad N cI cZ cJ (wA (wA (wA (wA (wA (wA (wA (wA (wA (wA (wA (wA (wA (wA (wA v 11 ((v.1 0 12).toNatClampNeg) r5) 0 12 ((v.1 0 12) + (1 : Int32))) 40 ((v.1 0 43).toNatClampNeg) (v.1 0 12)) 41 ((v.1 0 43).toNatClampNeg) pb) 42 ((v.1 0 43).toNatClampNeg) (0 : Int32)) 0 43 ((v.1 0 43) + (1 : Int32))) 11 (((v.1 0 12) + (1 : Int32)).toNatClampNeg) r16) 0 12 (((v.1 0 12) + (1 : Int32)) + (1 : Int32))) 40 (((v.1 0 43) + (1 : Int32)).toNatClampNeg) ((v.1 0 12) + (1 : Int32))) 41 (((v.1 0 43) + (1 : Int32)).toNatClampNeg) pb) 42 (((v.1 0 43) + (1 : Int32)).toNatClampNeg) (1 : Int32)) 0 43 (((v.1 0 43) + (1 : Int32)) + (1 : Int32))) 13 ((v.1 0 15).toNatClampNeg) (3 : Int32)) 14 ((v.1 0 15).toNatClampNeg) ((v.1 25) pb.toNatClampNeg)) 0 15 ((v.1 0 15) + (1 : Int32)))) := hD
    refine tp_i (y := (v.1 0 15)) (rfl) ?_
    refine W.widen (k := 0) (n := 0) (Nat.le_refl _) (Nat.le_refl _) ?_
    refine lv_pop hx hb dX13_fetch_75 rfl ?_
    exact W.vret hx hb hr (fun t ht9 hW => ⟨⟨(wA (wA (wA (wA (wA (wA (wA (wA (wA (wA (wA (wA (wA (wA (wA v 11 ((v.1 0 12).toNatClampNeg) r5) 0 12 ((v.1 0 12) + (1 : Int32))) 40 ((v.1 0 43).toNatClampNeg) (v.1 0 12)) 41 ((v.1 0 43).toNatClampNeg) pb) 42 ((v.1 0 43).toNatClampNeg) (0 : Int32)) 0 43 ((v.1 0 43) + (1 : Int32))) 11 (((v.1 0 12) + (1 : Int32)).toNatClampNeg) r16) 0 12 (((v.1 0 12) + (1 : Int32)) + (1 : Int32))) 40 (((v.1 0 43) + (1 : Int32)).toNatClampNeg) ((v.1 0 12) + (1 : Int32))) 41 (((v.1 0 43) + (1 : Int32)).toNatClampNeg) pb) 42 (((v.1 0 43) + (1 : Int32)).toNatClampNeg) (1 : Int32)) 0 43 (((v.1 0 43) + (1 : Int32)) + (1 : Int32))) 13 ((v.1 0 15).toNatClampNeg) (3 : Int32)) 14 ((v.1 0 15).toNatClampNeg) ((v.1 25) pb.toNatClampNeg)) 0 15 ((v.1 0 15) + (1 : Int32))), rfl, ⟨(FG.f (FG.a (FG.a (FG.f (FG.a (FG.a (FG.a (FG.f (FG.a (FG.f (FG.a (FG.a (FG.a (FG.f (FG.a (FG.rf _) ((v.1 0 12).toNatClampNeg) r5 (by decide) (by decide)) ((v.1 0 12) + (1 : Int32)) (by decide)) ((v.1 0 43).toNatClampNeg) (v.1 0 12) (by decide) (by decide)) ((v.1 0 43).toNatClampNeg) pb (by decide) (by decide)) ((v.1 0 43).toNatClampNeg) (0 : Int32) (by decide) (by decide)) ((v.1 0 43) + (1 : Int32)) (by decide)) (((v.1 0 12) + (1 : Int32)).toNatClampNeg) r16 (by decide) (by decide)) (((v.1 0 12) + (1 : Int32)) + (1 : Int32)) (by decide)) (((v.1 0 43) + (1 : Int32)).toNatClampNeg) ((v.1 0 12) + (1 : Int32)) (by decide) (by decide)) (((v.1 0 43) + (1 : Int32)).toNatClampNeg) pb (by decide) (by decide)) (((v.1 0 43) + (1 : Int32)).toNatClampNeg) (1 : Int32) (by decide) (by decide)) (((v.1 0 43) + (1 : Int32)) + (1 : Int32)) (by decide)) ((v.1 0 15).toNatClampNeg) (3 : Int32) (by decide) (by decide)) ((v.1 0 15).toNatClampNeg) ((v.1 25) pb.toNatClampNeg) (by decide) (by decide)) ((v.1 0 15) + (1 : Int32)) (by decide)), (show (v.1 0 12).toInt ≤ (((v.1 0 12) + (1 : Int32)) + (1 : Int32)).toInt ∧ (((v.1 0 12) + (1 : Int32)) + (1 : Int32)).toInt ≤ (v.1 0 12).toInt + 2 from (om_57a8a81908 z20)), (show ((v.1 0 15) + (1 : Int32)).toInt = (v.1 0 15).toInt + 1 from (om_b2e2930950 z28)), (show (v.1 0 43).toInt ≤ (((v.1 0 43) + (1 : Int32)) + (1 : Int32)).toInt ∧ (((v.1 0 43) + (1 : Int32)) + (1 : Int32)).toInt ≤ (v.1 0 43).toInt + 2 from (om_57a8a81908 z24)), (fun (j9 : Nat) hj9 => (Eq.trans (pk_un3 (a := ((v.1 0 12) + (1 : Int32)).toInt) rfl (om_e7e2a26263 zw z9) (om_3370121707 z9 hj9)) (pk_un3 (a := (v.1 0 12).toInt) rfl (om_4842074e86 zw) (om_4fe904e9bf hj9)))), (fun (j9 : Nat) hj9 => (pk_un3 (a := (v.1 0 15).toInt) rfl (om_2ab3f6b9f5 zo) (om_4fe904e9bf hj9))), (fun (j9 : Nat) hj9 => (pk_un3 (a := (v.1 0 15).toInt) rfl (om_2ab3f6b9f5 zo) (om_4fe904e9bf hj9)))⟩, by rw [ht9]; exact hP, hD⟩, hS.F ht9⟩) hS.2.2 dX13_fetch_76
  · have z29 : 0 ≤ pa.toInt := nlt_z rfl (show (0 : Int32).toInt = 0 by decide) h1
    refine lv_aload_n hx hb dX13_fetch_4 rfl (lv_at hl 0 rfl) ?_
    refine lv_bipush (v := 10) hx hb dX13_fetch_5 (by decide) ?_
    refine lv_iload_n hx hb dX13_fetch_7 rfl (lv_at hl 1 rfl) ?_
    refine cu_s (mW_nd _ _ _ _ _ _) (rn_S (n := 1) (As := [.int pa]) (rest := [.int 10, .ref (ad 0)]) hx hb hml hown ht hKK hFx hP hD hS hA (c_m_slotAt l dC dI cI cB cZ cJ cR tb s.heap.size pa ) tw_74 tw_75 (by decide +kernel) rfl rfl ⟨Nat.le_of_ble_eq_true rfl, Nat.le_of_ble_eq_true rfl⟩ [] rfl rfl rfl hl.1 rfl (Nat.le_of_ble_eq_true rfl) dX13_fetch_8 ⟨Nat.le_of_ble_eq_true rfl, Nat.le_of_ble_eq_true rfl⟩) hP hD hS hA (fun r32 H locs hw30 hP hD hS => ?_)
    refine W.widen (k := 0) (n := 0) (Nat.le_refl _) (Nat.le_refl _) ?_
    refine lv_bipush (v := 8) hx hb dX13_fetch_11 (by decide) ?_
    refine cu_s (mW_nd _ _ _ _ _ _) (rn_S (n := 3) (As := [.int 10, .int r32, .int 8]) (rest := [.ref (ad 0)]) hx hb hml hown ht hKK hFx hP hD hS hA (c_m_lw l dC dI cI cB cZ cJ cR tb H.size (10 : Int32) r32 (8 : Int32) ) tw_71 tw_72 (by decide +kernel) rfl rfl ⟨Nat.le_of_ble_eq_true rfl, Nat.le_of_ble_eq_true rfl⟩ [] rfl rfl rfl hl.1 rfl (Nat.le_of_ble_eq_true rfl) dX13_fetch_13 ⟨Nat.le_of_ble_eq_true rfl, Nat.le_of_ble_eq_true rfl⟩) hP hD hS hA (fun r35 H locs hw33 hP hD hS => ?_)
    refine W.widen (k := 0) (n := 0) (Nat.le_refl _) (Nat.le_refl _) ?_
    refine cu_i (rn_V (n := 1) (As := [.int r35]) (rest := []) hx hb hml hown ht hKK hFx hP hD hS hA (c_m_emit l dC dI cI cB cZ cJ cR tb H.size ad N v r35 (show 0 ≤ (v.1 0 12).toInt ∧ (v.1 0 12).toInt < 24000 from (om_bd95b2e5c4 zw))) tw_8 tw_9 (by decide +kernel) rfl rfl ⟨Nat.le_of_ble_eq_true rfl, Nat.le_of_ble_eq_true rfl⟩ (List.range (mW ad N cI cZ cJ v).length) (rg_map _) (mW_nd _ _ _ _ _ _) rfl rfl rfl rfl hl.1 rfl (Nat.le_of_ble_eq_true rfl) dX13_fetch_16 ⟨Nat.le_of_ble_eq_true rfl, Nat.le_of_ble_eq_true rfl⟩) hP hD hS hA (fun r38 u37 H locs hw36 hP hD hS => ?_)
    obtain ⟨rfl, rfl⟩ := hw36
    have z39 : ((v.1 0 12) + (1 : Int32)).toInt = ((v.1 0 12).toInt) + 1 := add_z rfl (show (1 : Int32).toInt = 1 by decide) (om_92b4e2a060 zw) (om_46bacc0712 zw)
    have hP : va_P (dC, dI) vwCl (mW ad N cI cZ cJ (wA (wA v 11 ((v.1 0 12).toNatClampNeg) r35) 0 12 ((v.1 0 12) + (1 : Int32)))) H := hP
    have hD : va_D A (mW ad N cI cZ cJ (wA (wA v 11 ((v.1 0 12).toNatClampNeg) r35) 0 12 ((v.1 0 12) + (1 : Int32)))) := hD
    refine tp_i (y := (v.1 0 12)) (rfl) ?_
    refine W.widen (k := 0) (n := 0) (Nat.le_refl _) (Nat.le_refl _) ?_
    refine lv_pop hx hb dX13_fetch_19 rfl ?_
    refine lv_aload_n hx hb dX13_fetch_20 rfl (lv_at hl 0 rfl) ?_
    refine lv_iconst (v := 1) hx hb dX13_fetch_21 (by decide) ?_
    refine lv_iload_n hx hb dX13_fetch_22 rfl (lv_at hl 1 rfl) ?_
    refine cu_i (rn_V (n := 2) (As := [.int 1, .int pa]) (rest := []) hx hb hml hown ht hKK hFx hP hD hS hA (c_m_say l dC dI cI cB cZ cJ cR tb H.size ad N (wA (wA v 11 ((v.1 0 12).toNatClampNeg) r35) 0 12 ((v.1 0 12) + (1 : Int32))) (1 : Int32) pa (show 0 ≤ (v.1 0 15).toInt ∧ (v.1 0 15).toInt < 16000 from (om_434853ee4d zo))) tw_59 tw_60 (by decide +kernel) rfl rfl ⟨Nat.le_of_ble_eq_true rfl, Nat.le_of_ble_eq_true rfl⟩ (List.range (mW ad N cI cZ cJ (wA (wA v 11 ((v.1 0 12).toNatClampNeg) r35) 0 12 ((v.1 0 12) + (1 : Int32)))).length) (rg_map _) (mW_nd _ _ _ _ _ _) rfl rfl rfl rfl hl.1 rfl (Nat.le_of_ble_eq_true rfl) dX13_fetch_23 ⟨Nat.le_of_ble_eq_true rfl, Nat.le_of_ble_eq_true rfl⟩) hP hD hS hA (fun r42 u41 H locs hw40 hP hD hS => ?_)
    obtain ⟨rfl, rfl⟩ := hw40
    have z43 : ((v.1 0 15) + (1 : Int32)).toInt = ((v.1 0 15).toInt) + 1 := add_z rfl (show (1 : Int32).toInt = 1 by decide) (om_9aa2e986af zo) (om_363e01920b zo)
    have hP : va_P (dC, dI) vwCl (mW ad N cI cZ cJ (wA (wA (wA (wA (wA v 11 ((v.1 0 12).toNatClampNeg) r35) 0 12 ((v.1 0 12) + (1 : Int32))) 13 ((v.1 0 15).toNatClampNeg) (1 : Int32)) 14 ((v.1 0 15).toNatClampNeg) pa) 0 15 ((v.1 0 15) + (1 : Int32)))) H := hP
    have hD : va_D A (mW ad N cI cZ cJ (wA (wA (wA (wA (wA v 11 ((v.1 0 12).toNatClampNeg) r35) 0 12 ((v.1 0 12) + (1 : Int32))) 13 ((v.1 0 15).toNatClampNeg) (1 : Int32)) 14 ((v.1 0 15).toNatClampNeg) pa) 0 15 ((v.1 0 15) + (1 : Int32)))) := hD
    refine tp_i (y := (v.1 0 15)) (rfl) ?_
    refine W.widen (k := 0) (n := 0) (Nat.le_refl _) (Nat.le_refl _) ?_
    refine lv_pop hx hb dX13_fetch_26 rfl ?_
    refine lv_goto (tgt := 76) hx hb dX13_fetch_27 (by decide) ?_
    exact W.vret hx hb hr (fun t ht9 hW => ⟨⟨(wA (wA (wA (wA (wA v 11 ((v.1 0 12).toNatClampNeg) r35) 0 12 ((v.1 0 12) + (1 : Int32))) 13 ((v.1 0 15).toNatClampNeg) (1 : Int32)) 14 ((v.1 0 15).toNatClampNeg) pa) 0 15 ((v.1 0 15) + (1 : Int32))), rfl, ⟨(FG.f (FG.a (FG.a (FG.f (FG.a (FG.rf _) ((v.1 0 12).toNatClampNeg) r35 (by decide) (by decide)) ((v.1 0 12) + (1 : Int32)) (by decide)) ((v.1 0 15).toNatClampNeg) (1 : Int32) (by decide) (by decide)) ((v.1 0 15).toNatClampNeg) pa (by decide) (by decide)) ((v.1 0 15) + (1 : Int32)) (by decide)), (show (v.1 0 12).toInt ≤ ((v.1 0 12) + (1 : Int32)).toInt ∧ ((v.1 0 12) + (1 : Int32)).toInt ≤ (v.1 0 12).toInt + 2 from (om_2395c52f24 z39)), (show ((v.1 0 15) + (1 : Int32)).toInt = (v.1 0 15).toInt + 1 from (om_b2e2930950 z43)), (show (v.1 0 43).toInt ≤ (v.1 0 43).toInt ∧ (v.1 0 43).toInt ≤ (v.1 0 43).toInt + 2 from om_798cb3402e), (fun (j9 : Nat) hj9 => (pk_un3 (a := (v.1 0 12).toInt) rfl (om_4842074e86 zw) (om_4fe904e9bf hj9))), (fun (j9 : Nat) hj9 => (pk_un3 (a := (v.1 0 15).toInt) rfl (om_2ab3f6b9f5 zo) (om_4fe904e9bf hj9))), (fun (j9 : Nat) hj9 => (pk_un3 (a := (v.1 0 15).toInt) rfl (om_2ab3f6b9f5 zo) (om_4fe904e9bf hj9)))⟩, by rw [ht9]; exact hP, hD⟩, hS.F ht9⟩) hS.2.2 dX13_fetch_76
set_option maxHeartbeats 4000000 in
set_option maxRecDepth 100000 in
theorem c_m_store (l : Launch) (dC : Nat → ClassId) (dI : Nat → Nat → Nat) (cI cB cZ cJ cR : ClassId) (tb : Nat → Nat) (sz : Nat) (ad : Nat → Nat) (N : Nat) (v : MS) (pa : Int32) (pb : Int32) (zw : 0 ≤ (v.1 0 12).toInt ∧ (v.1 0 12).toInt ≤ 23980) (zo : 0 ≤ (v.1 0 15).toInt ∧ (v.1 0 15).toInt ≤ 15980) (zf : 0 ≤ (v.1 0 43).toInt ∧ (v.1 0 43).toInt ≤ 23980) (zg : 0 ≤ pa.toInt ∨ (0 ≤ pb.toInt ∧ pb.toInt < 60)) : Met l yX13_store (Cond.code yX13_store cX13_store 3 none :: tw_W) ({ frames := 1, cells := 0, slots := 0, locals := 23 }) (pc_ (dC, dI) (tyS cI cB cZ cJ cR) tb (mW ad N cI cZ cJ v) sz [.ref (ad 0), .int pa, .int pb]) (qv_ (dC, dI) (mW ad N cI cZ cJ v) sz (fun (u : MS) => FG [12, 15, 43] [0, 11, 13, 14, 40, 41, 42] v u ∧ ((v.1 0 12).toInt ≤ (u.1 0 12).toInt ∧ (u.1 0 12).toInt ≤ (v.1 0 12).toInt + 2) ∧ ((u.1 0 15).toInt = (v.1 0 15).toInt + 1) ∧ ((v.1 0 43).toInt ≤ (u.1 0 43).toInt ∧ (u.1 0 43).toInt ≤ (v.1 0 43).toInt + 2) ∧ (∀ j : Nat, (j : Int) < (v.1 0 12).toInt → (u.1 11) j = (v.1 11) j) ∧ (∀ j : Nat, (j : Int) < (v.1 0 15).toInt → (u.1 13) j = (v.1 13) j) ∧ (∀ j : Nat, (j : Int) < (v.1 0 15).toInt → (u.1 14) j = (v.1 14) j)) (fun (u : MS) => (mW ad N cI cZ cJ u))) 0 0 (va_A (mW ad N cI cZ cJ v) sz) := by
  refine Met.ofW (cc := cX13_store) (maxL := 3) (ret := none) (by decide) rfl ?_
  intro p e s m args below meth c s₁ B hml hv
  obtain ⟨rfl, hsz, hP, hKK, hD0, hFx⟩ := hv
  have hK := hKK.1
  have hx := B.exec
  have hb := B.bytes
  have hr := B.returns
  have ht : ∀ w ∈ tw_W, w.before _ s = true := fun w h => atoms_spec (ws := Cond.code yX13_store cX13_store 3 none :: tw_W) B.pre w (List.mem_cons_of_mem _ h)
  have hown : s.vm.findClass RX13 = some m.cls := findClass_of_methodNamed B.named
  have hlocks := B.notSynchronized
  subst hsz
  unfold qv_
  have hD := hD0.self (sz := s.heap.size)
  generalize hAe : va_A (mW ad N cI cZ cJ v) s.heap.size = A at hD hFx ⊢
  have hA : ∀ q : Nat, s.heap.size ≤ q → A q := fun q h => by rw [← hAe]; exact Or.inr h
  have hS : va_S A s.heap s.heap [] := va_S.rf
  have hl := lv_entry ([.ref (ad 0), .int pa, .int pb]) (n := 3) (Nat.le_of_ble_eq_true rfl)
  rw [lg_entry_eq]
  generalize (lg_sl ([.ref (ad 0), .int pa, .int pb]) ++ List.replicate (3 - (lg_sl ([.ref (ad 0), .int pa, .int pb])).length) Slot.unset).toArray = ls at hl ⊢
  have hl : lv_has ls 3 [(0, .ref (ad 0)), (1, .int pa), (2, .int pb)] := hl
  refine lv_iload_n hx hb dX13_store_0 rfl (lv_at hl 1 rfl) ?_
  refine lv_if_lt (tgt := 30) hx hb dX13_store_1 (by decide) (fun h1 => ?_) (fun h1 => ?_)
  · have z2 : pa.toInt < 0 := lt_z rfl (show (0 : Int32).toInt = 0 by decide) h1
    refine lv_aload_n hx hb dX13_store_30 rfl (lv_at hl 0 rfl) ?_
    refine lv_aload_n hx hb dX13_store_31 rfl (lv_at hl 0 rfl) ?_
    refine lv_bipush (v := 6) hx hb dX13_store_32 (by decide) ?_
    refine lv_iconst (v := 0) hx hb dX13_store_34 (by decide) ?_
    refine cu_s (mW_nd _ _ _ _ _ _) (rn_S (n := 2) (As := [.int 6, .int 0]) (rest := [.ref (ad 0), .ref (ad 0)]) hx hb hml hown ht hKK hFx hP hD hS hA (c_m_lui l dC dI cI cB cZ cJ cR tb s.heap.size (6 : Int32) (0 : Int32) ) tw_61 tw_62 (by decide +kernel) rfl rfl ⟨Nat.le_of_ble_eq_true rfl, Nat.le_of_ble_eq_true rfl⟩ [] rfl rfl rfl hl.1 rfl (Nat.le_of_ble_eq_true rfl) dX13_store_35 ⟨Nat.le_of_ble_eq_true rfl, Nat.le_of_ble_eq_true rfl⟩) hP hD hS hA (fun r5 H locs hw3 hP hD hS => ?_)
    refine W.widen (k := 0) (n := 0) (Nat.le_refl _) (Nat.le_refl _) ?_
    refine cu_i (rn_V (n := 1) (As := [.int r5]) (rest := [.ref (ad 0)]) hx hb hml hown ht hKK hFx hP hD hS hA (c_m_emit l dC dI cI cB cZ cJ cR tb H.size ad N v r5 (show 0 ≤ (v.1 0 12).toInt ∧ (v.1 0 12).toInt < 24000 from (om_bd95b2e5c4 zw))) tw_8 tw_9 (by decide +kernel) rfl rfl ⟨Nat.le_of_ble_eq_true rfl, Nat.le_of_ble_eq_true rfl⟩ (List.range (mW ad N cI cZ cJ v).length) (rg_map _) (mW_nd _ _ _ _ _ _) rfl rfl rfl rfl hl.1 rfl (Nat.le_of_ble_eq_true rfl) dX13_store_38 ⟨Nat.le_of_ble_eq_true rfl, Nat.le_of_ble_eq_true rfl⟩) hP hD hS hA (fun r8 u7 H locs hw6 hP hD hS => ?_)
    obtain ⟨rfl, rfl⟩ := hw6
    have z9 : ((v.1 0 12) + (1 : Int32)).toInt = ((v.1 0 12).toInt) + 1 := add_z rfl (show (1 : Int32).toInt = 1 by decide) (om_92b4e2a060 zw) (om_46bacc0712 zw)
    have hP : va_P (dC, dI) vwCl (mW ad N cI cZ cJ (wA (wA v 11 ((v.1 0 12).toNatClampNeg) r5) 0 12 ((v.1 0 12) + (1 : Int32)))) H := hP
    have hD : va_D A (mW ad N cI cZ cJ (wA (wA v 11 ((v.1 0 12).toNatClampNeg) r5) 0 12 ((v.1 0 12) + (1 : Int32)))) := hD
    refine tp_i (y := (v.1 0 12)) (rfl) ?_
    refine W.widen (k := 0) (n := 0) (Nat.le_refl _) (Nat.le_refl _) ?_
    refine lv_iload_n hx hb dX13_store_41 rfl (lv_at hl 2 rfl) ?_
    refine lv_iconst (v := 0) hx hb dX13_store_42 (by decide) ?_
    refine cu_v (rn_V (n := 3) (As := [.int (v.1 0 12), .int pb, .int 0]) (rest := []) hx hb hml hown ht hKK hFx hP hD hS hA (c_m_fix l dC dI cI cB cZ cJ cR tb H.size ad N (wA (wA v 11 ((v.1 0 12).toNatClampNeg) r5) 0 12 ((v.1 0 12) + (1 : Int32))) (v.1 0 12) pb (0 : Int32) (show 0 ≤ (v.1 0 43).toInt ∧ (v.1 0 43).toInt < 24000 from (om_bd95b2e5c4 zf))) tw_69 tw_70 (by decide +kernel) rfl rfl ⟨Nat.le_of_ble_eq_true rfl, Nat.le_of_ble_eq_true rfl⟩ (List.range (mW ad N cI cZ cJ (wA (wA v 11 ((v.1 0 12).toNatClampNeg) r5) 0 12 ((v.1 0 12) + (1 : Int32)))).length) (rg_map _) (mW_nd _ _ _ _ _ _) rfl rfl rfl rfl hl.1 rfl (Nat.le_of_ble_eq_true rfl) dX13_store_43 ⟨Nat.le_of_ble_eq_true rfl, Nat.le_of_ble_eq_true rfl⟩) hP hD hS hA (fun u11 H locs hw10 hP hD hS => ?_)
    obtain rfl := hw10
    have z13 : ((v.1 0 43) + (1 : Int32)).toInt = ((v.1 0 43).toInt) + 1 := add_z rfl (show (1 : Int32).toInt = 1 by decide) (om_92b4e2a060 zf) (om_46bacc0712 zf)
    have hP : va_P (dC, dI) vwCl (mW ad N cI cZ cJ (wA (wA (wA (wA (wA (wA v 11 ((v.1 0 12).toNatClampNeg) r5) 0 12 ((v.1 0 12) + (1 : Int32))) 40 ((v.1 0 43).toNatClampNeg) (v.1 0 12)) 41 ((v.1 0 43).toNatClampNeg) pb) 42 ((v.1 0 43).toNatClampNeg) (0 : Int32)) 0 43 ((v.1 0 43) + (1 : Int32)))) H := hP
    have hD : va_D A (mW ad N cI cZ cJ (wA (wA (wA (wA (wA (wA v 11 ((v.1 0 12).toNatClampNeg) r5) 0 12 ((v.1 0 12) + (1 : Int32))) 40 ((v.1 0 43).toNatClampNeg) (v.1 0 12)) 41 ((v.1 0 43).toNatClampNeg) pb) 42 ((v.1 0 43).toNatClampNeg) (0 : Int32)) 0 43 ((v.1 0 43) + (1 : Int32)))) := hD
    refine W.widen (k := 0) (n := 0) (Nat.le_refl _) (Nat.le_refl _) ?_
    refine lv_aload_n hx hb dX13_store_46 rfl (lv_at hl 0 rfl) ?_
    refine lv_aload_n hx hb dX13_store_47 rfl (lv_at hl 0 rfl) ?_
    refine lv_bipush (v := 10) hx hb dX13_store_48 (by decide) ?_
    refine lv_iconst (v := 0) hx hb dX13_store_50 (by decide) ?_
    refine lv_bipush (v := 6) hx hb dX13_store_51 (by decide) ?_
    refine cu_s (mW_nd _ _ _ _ _ _) (rn_S (n := 3) (As := [.int 10, .int 0, .int 6]) (rest := [.ref (ad 0), .ref (ad 0)]) hx hb hml hown ht hKK hFx hP hD hS hA (c_m_sw l dC dI cI cB cZ cJ cR tb H.size (10 : Int32) (0 : Int32) (6 : Int32) ) tw_76 tw_77 (by decide +kernel) rfl rfl ⟨Nat.le_of_ble_eq_true rfl, Nat.le_of_ble_eq_true rfl⟩ [] rfl rfl rfl hl.1 rfl (Nat.le_of_ble_eq_true rfl) dX13_store_53 ⟨Nat.le_of_ble_eq_true rfl, Nat.le_of_ble_eq_true rfl⟩) hP hD hS hA (fun r16 H locs hw14 hP hD hS => ?_)
    refine W.widen (k := 0) (n := 0) (Nat.le_refl _) (Nat.le_refl _) ?_
    refine cu_i (rn_V (n := 1) (As := [.int r16]) (rest := [.ref (ad 0)]) hx hb hml hown ht hKK hFx hP hD hS hA (c_m_emit l dC dI cI cB cZ cJ cR tb H.size ad N (wA (wA (wA (wA (wA (wA v 11 ((v.1 0 12).toNatClampNeg) r5) 0 12 ((v.1 0 12) + (1 : Int32))) 40 ((v.1 0 43).toNatClampNeg) (v.1 0 12)) 41 ((v.1 0 43).toNatClampNeg) pb) 42 ((v.1 0 43).toNatClampNeg) (0 : Int32)) 0 43 ((v.1 0 43) + (1 : Int32))) r16 (show 0 ≤ ((v.1 0 12) + (1 : Int32)).toInt ∧ ((v.1 0 12) + (1 : Int32)).toInt < 24000 from (om_036dd2a3e0 zw z9))) tw_8 tw_9 (by decide +kernel) rfl rfl ⟨Nat.le_of_ble_eq_true rfl, Nat.le_of_ble_eq_true rfl⟩ (List.range (mW ad N cI cZ cJ (wA (wA (wA (wA (wA (wA v 11 ((v.1 0 12).toNatClampNeg) r5) 0 12 ((v.1 0 12) + (1 : Int32))) 40 ((v.1 0 43).toNatClampNeg) (v.1 0 12)) 41 ((v.1 0 43).toNatClampNeg) pb) 42 ((v.1 0 43).toNatClampNeg) (0 : Int32)) 0 43 ((v.1 0 43) + (1 : Int32)))).length) (rg_map _) (mW_nd _ _ _ _ _ _) rfl rfl rfl rfl hl.1 rfl (Nat.le_of_ble_eq_true rfl) dX13_store_56 ⟨Nat.le_of_ble_eq_true rfl, Nat.le_of_ble_eq_true rfl⟩) hP hD hS hA (fun r19 u18 H locs hw17 hP hD hS => ?_)
    obtain ⟨rfl, rfl⟩ := hw17
    have z20 : (((v.1 0 12) + (1 : Int32)) + (1 : Int32)).toInt = (((v.1 0 12).toInt) + 1) + 1 := add_z z9 (show (1 : Int32).toInt = 1 by decide) (om_f6b9a2a44c zw) (om_86af896540 zw)
    have hP : va_P (dC, dI) vwCl (mW ad N cI cZ cJ (wA (wA (wA (wA (wA (wA (wA (wA v 11 ((v.1 0 12).toNatClampNeg) r5) 0 12 ((v.1 0 12) + (1 : Int32))) 40 ((v.1 0 43).toNatClampNeg) (v.1 0 12)) 41 ((v.1 0 43).toNatClampNeg) pb) 42 ((v.1 0 43).toNatClampNeg) (0 : Int32)) 0 43 ((v.1 0 43) + (1 : Int32))) 11 (((v.1 0 12) + (1 : Int32)).toNatClampNeg) r16) 0 12 (((v.1 0 12) + (1 : Int32)) + (1 : Int32)))) H := hP
    have hD : va_D A (mW ad N cI cZ cJ (wA (wA (wA (wA (wA (wA (wA (wA v 11 ((v.1 0 12).toNatClampNeg) r5) 0 12 ((v.1 0 12) + (1 : Int32))) 40 ((v.1 0 43).toNatClampNeg) (v.1 0 12)) 41 ((v.1 0 43).toNatClampNeg) pb) 42 ((v.1 0 43).toNatClampNeg) (0 : Int32)) 0 43 ((v.1 0 43) + (1 : Int32))) 11 (((v.1 0 12) + (1 : Int32)).toNatClampNeg) r16) 0 12 (((v.1 0 12) + (1 : Int32)) + (1 : Int32)))) := hD
    refine tp_i (y := ((v.1 0 12) + (1 : Int32))) (rfl) ?_
    refine W.widen (k := 0) (n := 0) (Nat.le_refl _) (Nat.le_refl _) ?_
    refine lv_iload_n hx hb dX13_store_59 rfl (lv_at hl 2 rfl) ?_
    refine lv_iconst (v := 2) hx hb dX13_store_60 (by decide) ?_
    refine cu_v (rn_V (n := 3) (As := [.int ((v.1 0 12) + (1 : Int32)), .int pb, .int 2]) (rest := []) hx hb hml hown ht hKK hFx hP hD hS hA (c_m_fix l dC dI cI cB cZ cJ cR tb H.size ad N (wA (wA (wA (wA (wA (wA (wA (wA v 11 ((v.1 0 12).toNatClampNeg) r5) 0 12 ((v.1 0 12) + (1 : Int32))) 40 ((v.1 0 43).toNatClampNeg) (v.1 0 12)) 41 ((v.1 0 43).toNatClampNeg) pb) 42 ((v.1 0 43).toNatClampNeg) (0 : Int32)) 0 43 ((v.1 0 43) + (1 : Int32))) 11 (((v.1 0 12) + (1 : Int32)).toNatClampNeg) r16) 0 12 (((v.1 0 12) + (1 : Int32)) + (1 : Int32))) ((v.1 0 12) + (1 : Int32)) pb (2 : Int32) (show 0 ≤ ((v.1 0 43) + (1 : Int32)).toInt ∧ ((v.1 0 43) + (1 : Int32)).toInt < 24000 from (om_036dd2a3e0 zf z13))) tw_69 tw_70 (by decide +kernel) rfl rfl ⟨Nat.le_of_ble_eq_true rfl, Nat.le_of_ble_eq_true rfl⟩ (List.range (mW ad N cI cZ cJ (wA (wA (wA (wA (wA (wA (wA (wA v 11 ((v.1 0 12).toNatClampNeg) r5) 0 12 ((v.1 0 12) + (1 : Int32))) 40 ((v.1 0 43).toNatClampNeg) (v.1 0 12)) 41 ((v.1 0 43).toNatClampNeg) pb) 42 ((v.1 0 43).toNatClampNeg) (0 : Int32)) 0 43 ((v.1 0 43) + (1 : Int32))) 11 (((v.1 0 12) + (1 : Int32)).toNatClampNeg) r16) 0 12 (((v.1 0 12) + (1 : Int32)) + (1 : Int32)))).length) (rg_map _) (mW_nd _ _ _ _ _ _) rfl rfl rfl rfl hl.1 rfl (Nat.le_of_ble_eq_true rfl) dX13_store_61 ⟨Nat.le_of_ble_eq_true rfl, Nat.le_of_ble_eq_true rfl⟩) hP hD hS hA (fun u22 H locs hw21 hP hD hS => ?_)
    obtain rfl := hw21
    have z24 : (((v.1 0 43) + (1 : Int32)) + (1 : Int32)).toInt = (((v.1 0 43).toInt) + 1) + 1 := add_z z13 (show (1 : Int32).toInt = 1 by decide) (om_f6b9a2a44c zf) (om_86af896540 zf)
    have hP : va_P (dC, dI) vwCl (mW ad N cI cZ cJ (wA (wA (wA (wA (wA (wA (wA (wA (wA (wA (wA (wA v 11 ((v.1 0 12).toNatClampNeg) r5) 0 12 ((v.1 0 12) + (1 : Int32))) 40 ((v.1 0 43).toNatClampNeg) (v.1 0 12)) 41 ((v.1 0 43).toNatClampNeg) pb) 42 ((v.1 0 43).toNatClampNeg) (0 : Int32)) 0 43 ((v.1 0 43) + (1 : Int32))) 11 (((v.1 0 12) + (1 : Int32)).toNatClampNeg) r16) 0 12 (((v.1 0 12) + (1 : Int32)) + (1 : Int32))) 40 (((v.1 0 43) + (1 : Int32)).toNatClampNeg) ((v.1 0 12) + (1 : Int32))) 41 (((v.1 0 43) + (1 : Int32)).toNatClampNeg) pb) 42 (((v.1 0 43) + (1 : Int32)).toNatClampNeg) (2 : Int32)) 0 43 (((v.1 0 43) + (1 : Int32)) + (1 : Int32)))) H := hP
    have hD : va_D A (mW ad N cI cZ cJ (wA (wA (wA (wA (wA (wA (wA (wA (wA (wA (wA (wA v 11 ((v.1 0 12).toNatClampNeg) r5) 0 12 ((v.1 0 12) + (1 : Int32))) 40 ((v.1 0 43).toNatClampNeg) (v.1 0 12)) 41 ((v.1 0 43).toNatClampNeg) pb) 42 ((v.1 0 43).toNatClampNeg) (0 : Int32)) 0 43 ((v.1 0 43) + (1 : Int32))) 11 (((v.1 0 12) + (1 : Int32)).toNatClampNeg) r16) 0 12 (((v.1 0 12) + (1 : Int32)) + (1 : Int32))) 40 (((v.1 0 43) + (1 : Int32)).toNatClampNeg) ((v.1 0 12) + (1 : Int32))) 41 (((v.1 0 43) + (1 : Int32)).toNatClampNeg) pb) 42 (((v.1 0 43) + (1 : Int32)).toNatClampNeg) (2 : Int32)) 0 43 (((v.1 0 43) + (1 : Int32)) + (1 : Int32)))) := hD
    refine W.widen (k := 0) (n := 0) (Nat.le_refl _) (Nat.le_refl _) ?_
    refine lv_aload_n hx hb dX13_store_64 rfl (lv_at hl 0 rfl) ?_
    refine lv_iconst (v := 4) hx hb dX13_store_65 (by decide) ?_
    refine lv_aload_n hx hb dX13_store_66 rfl (lv_at hl 0 rfl) ?_
    refine va_get (D := (dC, dI)) (ci := 16) (fs := mF ad (wA (wA (wA (wA (wA (wA (wA (wA (wA (wA (wA (wA v 11 ((v.1 0 12).toNatClampNeg) r5) 0 12 ((v.1 0 12) + (1 : Int32))) 40 ((v.1 0 43).toNatClampNeg) (v.1 0 12)) 41 ((v.1 0 43).toNatClampNeg) pb) 42 ((v.1 0 43).toNatClampNeg) (0 : Int32)) 0 43 ((v.1 0 43) + (1 : Int32))) 11 (((v.1 0 12) + (1 : Int32)).toNatClampNeg) r16) 0 12 (((v.1 0 12) + (1 : Int32)) + (1 : Int32))) 40 (((v.1 0 43) + (1 : Int32)).toNatClampNeg) ((v.1 0 12) + (1 : Int32))) 41 (((v.1 0 43) + (1 : Int32)).toNatClampNeg) pb) 42 (((v.1 0 43) + (1 : Int32)).toNatClampNeg) (2 : Int32)) 0 43 (((v.1 0 43) + (1 : Int32)) + (1 : Int32)))) (v := .ref (ad 25)) (C := RX13) (T := TX13) (N := 124) hx hb ht itX13 hown hK hP 0 rfl rfl 25 (by decide) (ht _ tw_73) (fun _ h9 => h9) rfl dX13_store_67 ?_
    refine lv_iload_n hx hb dX13_store_70 rfl (lv_at hl 2 rfl) ?_
    refine va_iald (D := (dC, dI)) (f := (v.1 25)) hx hb hK hP 19 0 rfl rfl (in_y (a := pb.toInt) (b := 60) rfl (om_33313b89c8 zg z2) (om_ae94cee08d zg z2) rfl) dX13_store_71 ?_
    refine cu_i (rn_V (n := 2) (As := [.int 4, .int ((v.1 25) pb.toNatClampNeg)]) (rest := []) hx hb hml hown ht hKK hFx hP hD hS hA (c_m_say l dC dI cI cB cZ cJ cR tb H.size ad N (wA (wA (wA (wA (wA (wA (wA (wA (wA (wA (wA (wA v 11 ((v.1 0 12).toNatClampNeg) r5) 0 12 ((v.1 0 12) + (1 : Int32))) 40 ((v.1 0 43).toNatClampNeg) (v.1 0 12)) 41 ((v.1 0 43).toNatClampNeg) pb) 42 ((v.1 0 43).toNatClampNeg) (0 : Int32)) 0 43 ((v.1 0 43) + (1 : Int32))) 11 (((v.1 0 12) + (1 : Int32)).toNatClampNeg) r16) 0 12 (((v.1 0 12) + (1 : Int32)) + (1 : Int32))) 40 (((v.1 0 43) + (1 : Int32)).toNatClampNeg) ((v.1 0 12) + (1 : Int32))) 41 (((v.1 0 43) + (1 : Int32)).toNatClampNeg) pb) 42 (((v.1 0 43) + (1 : Int32)).toNatClampNeg) (2 : Int32)) 0 43 (((v.1 0 43) + (1 : Int32)) + (1 : Int32))) (4 : Int32) ((v.1 25) pb.toNatClampNeg) (show 0 ≤ (v.1 0 15).toInt ∧ (v.1 0 15).toInt < 16000 from (om_434853ee4d zo))) tw_59 tw_60 (by decide +kernel) rfl rfl ⟨Nat.le_of_ble_eq_true rfl, Nat.le_of_ble_eq_true rfl⟩ (List.range (mW ad N cI cZ cJ (wA (wA (wA (wA (wA (wA (wA (wA (wA (wA (wA (wA v 11 ((v.1 0 12).toNatClampNeg) r5) 0 12 ((v.1 0 12) + (1 : Int32))) 40 ((v.1 0 43).toNatClampNeg) (v.1 0 12)) 41 ((v.1 0 43).toNatClampNeg) pb) 42 ((v.1 0 43).toNatClampNeg) (0 : Int32)) 0 43 ((v.1 0 43) + (1 : Int32))) 11 (((v.1 0 12) + (1 : Int32)).toNatClampNeg) r16) 0 12 (((v.1 0 12) + (1 : Int32)) + (1 : Int32))) 40 (((v.1 0 43) + (1 : Int32)).toNatClampNeg) ((v.1 0 12) + (1 : Int32))) 41 (((v.1 0 43) + (1 : Int32)).toNatClampNeg) pb) 42 (((v.1 0 43) + (1 : Int32)).toNatClampNeg) (2 : Int32)) 0 43 (((v.1 0 43) + (1 : Int32)) + (1 : Int32)))).length) (rg_map _) (mW_nd _ _ _ _ _ _) rfl rfl rfl rfl hl.1 rfl (Nat.le_of_ble_eq_true rfl) dX13_store_72 ⟨Nat.le_of_ble_eq_true rfl, Nat.le_of_ble_eq_true rfl⟩) hP hD hS hA (fun r27 u26 H locs hw25 hP hD hS => ?_)
    obtain ⟨rfl, rfl⟩ := hw25
    have z28 : ((v.1 0 15) + (1 : Int32)).toInt = ((v.1 0 15).toInt) + 1 := add_z rfl (show (1 : Int32).toInt = 1 by decide) (om_9aa2e986af zo) (om_363e01920b zo)
    have hP : va_P (dC, dI) vwCl (mW ad N cI cZ cJ (wA (wA (wA (wA (wA (wA (wA (wA (wA (wA (wA (wA (wA (wA (wA v 11 ((v.1 0 12).toNatClampNeg) r5) 0 12 ((v.1 0 12) + (1 : Int32))) 40 ((v.1 0 43).toNatClampNeg) (v.1 0 12)) 41 ((v.1 0 43).toNatClampNeg) pb) 42 ((v.1 0 43).toNatClampNeg) (0 : Int32)) 0 43 ((v.1 0 43) + (1 : Int32))) 11 (((v.1 0 12) + (1 : Int32)).toNatClampNeg) r16) 0 12 (((v.1 0 12) + (1 : Int32)) + (1 : Int32))) 40 (((v.1 0 43) + (1 : Int32)).toNatClampNeg) ((v.1 0 12) + (1 : Int32))) 41 (((v.1 0 43) + (1 : Int32)).toNatClampNeg) pb) 42 (((v.1 0 43) + (1 : Int32)).toNatClampNeg) (2 : Int32)) 0 43 (((v.1 0 43) + (1 : Int32)) + (1 : Int32))) 13 ((v.1 0 15).toNatClampNeg) (4 : Int32)) 14 ((v.1 0 15).toNatClampNeg) ((v.1 25) pb.toNatClampNeg)) 0 15 ((v.1 0 15) + (1 : Int32)))) H := hP
    have hD : va_D A (mW ad N cI cZ cJ (wA (wA (wA (wA (wA (wA (wA (wA (wA (wA (wA (wA (wA (wA (wA v 11 ((v.1 0 12).toNatClampNeg) r5) 0 12 ((v.1 0 12) + (1 : Int32))) 40 ((v.1 0 43).toNatClampNeg) (v.1 0 12)) 41 ((v.1 0 43).toNatClampNeg) pb) 42 ((v.1 0 43).toNatClampNeg) (0 : Int32)) 0 43 ((v.1 0 43) + (1 : Int32))) 11 (((v.1 0 12) + (1 : Int32)).toNatClampNeg) r16) 0 12 (((v.1 0 12) + (1 : Int32)) + (1 : Int32))) 40 (((v.1 0 43) + (1 : Int32)).toNatClampNeg) ((v.1 0 12) + (1 : Int32))) 41 (((v.1 0 43) + (1 : Int32)).toNatClampNeg) pb) 42 (((v.1 0 43) + (1 : Int32)).toNatClampNeg) (2 : Int32)) 0 43 (((v.1 0 43) + (1 : Int32)) + (1 : Int32))) 13 ((v.1 0 15).toNatClampNeg) (4 : Int32)) 14 ((v.1 0 15).toNatClampNeg) ((v.1 25) pb.toNatClampNeg)) 0 15 ((v.1 0 15) + (1 : Int32)))) := hD
    refine tp_i (y := (v.1 0 15)) (rfl) ?_
    refine W.widen (k := 0) (n := 0) (Nat.le_refl _) (Nat.le_refl _) ?_
    refine lv_pop hx hb dX13_store_75 rfl ?_
    exact W.vret hx hb hr (fun t ht9 hW => ⟨⟨(wA (wA (wA (wA (wA (wA (wA (wA (wA (wA (wA (wA (wA (wA (wA v 11 ((v.1 0 12).toNatClampNeg) r5) 0 12 ((v.1 0 12) + (1 : Int32))) 40 ((v.1 0 43).toNatClampNeg) (v.1 0 12)) 41 ((v.1 0 43).toNatClampNeg) pb) 42 ((v.1 0 43).toNatClampNeg) (0 : Int32)) 0 43 ((v.1 0 43) + (1 : Int32))) 11 (((v.1 0 12) + (1 : Int32)).toNatClampNeg) r16) 0 12 (((v.1 0 12) + (1 : Int32)) + (1 : Int32))) 40 (((v.1 0 43) + (1 : Int32)).toNatClampNeg) ((v.1 0 12) + (1 : Int32))) 41 (((v.1 0 43) + (1 : Int32)).toNatClampNeg) pb) 42 (((v.1 0 43) + (1 : Int32)).toNatClampNeg) (2 : Int32)) 0 43 (((v.1 0 43) + (1 : Int32)) + (1 : Int32))) 13 ((v.1 0 15).toNatClampNeg) (4 : Int32)) 14 ((v.1 0 15).toNatClampNeg) ((v.1 25) pb.toNatClampNeg)) 0 15 ((v.1 0 15) + (1 : Int32))), rfl, ⟨(FG.f (FG.a (FG.a (FG.f (FG.a (FG.a (FG.a (FG.f (FG.a (FG.f (FG.a (FG.a (FG.a (FG.f (FG.a (FG.rf _) ((v.1 0 12).toNatClampNeg) r5 (by decide) (by decide)) ((v.1 0 12) + (1 : Int32)) (by decide)) ((v.1 0 43).toNatClampNeg) (v.1 0 12) (by decide) (by decide)) ((v.1 0 43).toNatClampNeg) pb (by decide) (by decide)) ((v.1 0 43).toNatClampNeg) (0 : Int32) (by decide) (by decide)) ((v.1 0 43) + (1 : Int32)) (by decide)) (((v.1 0 12) + (1 : Int32)).toNatClampNeg) r16 (by decide) (by decide)) (((v.1 0 12) + (1 : Int32)) + (1 : Int32)) (by decide)) (((v.1 0 43) + (1 : Int32)).toNatClampNeg) ((v.1 0 12) + (1 : Int32)) (by decide) (by decide)) (((v.1 0 43) + (1 : Int32)).toNatClampNeg) pb (by decide) (by decide)) (((v.1 0 43) + (1 : Int32)).toNatClampNeg) (2 : Int32) (by decide) (by decide)) (((v.1 0 43) + (1 : Int32)) + (1 : Int32)) (by decide)) ((v.1 0 15).toNatClampNeg) (4 : Int32) (by decide) (by decide)) ((v.1 0 15).toNatClampNeg) ((v.1 25) pb.toNatClampNeg) (by decide) (by decide)) ((v.1 0 15) + (1 : Int32)) (by decide)), (show (v.1 0 12).toInt ≤ (((v.1 0 12) + (1 : Int32)) + (1 : Int32)).toInt ∧ (((v.1 0 12) + (1 : Int32)) + (1 : Int32)).toInt ≤ (v.1 0 12).toInt + 2 from (om_57a8a81908 z20)), (show ((v.1 0 15) + (1 : Int32)).toInt = (v.1 0 15).toInt + 1 from (om_b2e2930950 z28)), (show (v.1 0 43).toInt ≤ (((v.1 0 43) + (1 : Int32)) + (1 : Int32)).toInt ∧ (((v.1 0 43) + (1 : Int32)) + (1 : Int32)).toInt ≤ (v.1 0 43).toInt + 2 from (om_57a8a81908 z24)), (fun (j9 : Nat) hj9 => (Eq.trans (pk_un3 (a := ((v.1 0 12) + (1 : Int32)).toInt) rfl (om_e7e2a26263 zw z9) (om_3370121707 z9 hj9)) (pk_un3 (a := (v.1 0 12).toInt) rfl (om_4842074e86 zw) (om_4fe904e9bf hj9)))), (fun (j9 : Nat) hj9 => (pk_un3 (a := (v.1 0 15).toInt) rfl (om_2ab3f6b9f5 zo) (om_4fe904e9bf hj9))), (fun (j9 : Nat) hj9 => (pk_un3 (a := (v.1 0 15).toInt) rfl (om_2ab3f6b9f5 zo) (om_4fe904e9bf hj9)))⟩, by rw [ht9]; exact hP, hD⟩, hS.F ht9⟩) hS.2.2 dX13_store_76
  · have z29 : 0 ≤ pa.toInt := nlt_z rfl (show (0 : Int32).toInt = 0 by decide) h1
    refine lv_aload_n hx hb dX13_store_4 rfl (lv_at hl 0 rfl) ?_
    refine lv_bipush (v := 10) hx hb dX13_store_5 (by decide) ?_
    refine lv_iload_n hx hb dX13_store_7 rfl (lv_at hl 1 rfl) ?_
    refine cu_s (mW_nd _ _ _ _ _ _) (rn_S (n := 1) (As := [.int pa]) (rest := [.int 10, .ref (ad 0)]) hx hb hml hown ht hKK hFx hP hD hS hA (c_m_slotAt l dC dI cI cB cZ cJ cR tb s.heap.size pa ) tw_74 tw_75 (by decide +kernel) rfl rfl ⟨Nat.le_of_ble_eq_true rfl, Nat.le_of_ble_eq_true rfl⟩ [] rfl rfl rfl hl.1 rfl (Nat.le_of_ble_eq_true rfl) dX13_store_8 ⟨Nat.le_of_ble_eq_true rfl, Nat.le_of_ble_eq_true rfl⟩) hP hD hS hA (fun r32 H locs hw30 hP hD hS => ?_)
    refine W.widen (k := 0) (n := 0) (Nat.le_refl _) (Nat.le_refl _) ?_
    refine lv_bipush (v := 8) hx hb dX13_store_11 (by decide) ?_
    refine cu_s (mW_nd _ _ _ _ _ _) (rn_S (n := 3) (As := [.int 10, .int r32, .int 8]) (rest := [.ref (ad 0)]) hx hb hml hown ht hKK hFx hP hD hS hA (c_m_sw l dC dI cI cB cZ cJ cR tb H.size (10 : Int32) r32 (8 : Int32) ) tw_76 tw_77 (by decide +kernel) rfl rfl ⟨Nat.le_of_ble_eq_true rfl, Nat.le_of_ble_eq_true rfl⟩ [] rfl rfl rfl hl.1 rfl (Nat.le_of_ble_eq_true rfl) dX13_store_13 ⟨Nat.le_of_ble_eq_true rfl, Nat.le_of_ble_eq_true rfl⟩) hP hD hS hA (fun r35 H locs hw33 hP hD hS => ?_)
    refine W.widen (k := 0) (n := 0) (Nat.le_refl _) (Nat.le_refl _) ?_
    refine cu_i (rn_V (n := 1) (As := [.int r35]) (rest := []) hx hb hml hown ht hKK hFx hP hD hS hA (c_m_emit l dC dI cI cB cZ cJ cR tb H.size ad N v r35 (show 0 ≤ (v.1 0 12).toInt ∧ (v.1 0 12).toInt < 24000 from (om_bd95b2e5c4 zw))) tw_8 tw_9 (by decide +kernel) rfl rfl ⟨Nat.le_of_ble_eq_true rfl, Nat.le_of_ble_eq_true rfl⟩ (List.range (mW ad N cI cZ cJ v).length) (rg_map _) (mW_nd _ _ _ _ _ _) rfl rfl rfl rfl hl.1 rfl (Nat.le_of_ble_eq_true rfl) dX13_store_16 ⟨Nat.le_of_ble_eq_true rfl, Nat.le_of_ble_eq_true rfl⟩) hP hD hS hA (fun r38 u37 H locs hw36 hP hD hS => ?_)
    obtain ⟨rfl, rfl⟩ := hw36
    have z39 : ((v.1 0 12) + (1 : Int32)).toInt = ((v.1 0 12).toInt) + 1 := add_z rfl (show (1 : Int32).toInt = 1 by decide) (om_92b4e2a060 zw) (om_46bacc0712 zw)
    have hP : va_P (dC, dI) vwCl (mW ad N cI cZ cJ (wA (wA v 11 ((v.1 0 12).toNatClampNeg) r35) 0 12 ((v.1 0 12) + (1 : Int32)))) H := hP
    have hD : va_D A (mW ad N cI cZ cJ (wA (wA v 11 ((v.1 0 12).toNatClampNeg) r35) 0 12 ((v.1 0 12) + (1 : Int32)))) := hD
    refine tp_i (y := (v.1 0 12)) (rfl) ?_
    refine W.widen (k := 0) (n := 0) (Nat.le_refl _) (Nat.le_refl _) ?_
    refine lv_pop hx hb dX13_store_19 rfl ?_
    refine lv_aload_n hx hb dX13_store_20 rfl (lv_at hl 0 rfl) ?_
    refine lv_iconst (v := 2) hx hb dX13_store_21 (by decide) ?_
    refine lv_iload_n hx hb dX13_store_22 rfl (lv_at hl 1 rfl) ?_
    refine cu_i (rn_V (n := 2) (As := [.int 2, .int pa]) (rest := []) hx hb hml hown ht hKK hFx hP hD hS hA (c_m_say l dC dI cI cB cZ cJ cR tb H.size ad N (wA (wA v 11 ((v.1 0 12).toNatClampNeg) r35) 0 12 ((v.1 0 12) + (1 : Int32))) (2 : Int32) pa (show 0 ≤ (v.1 0 15).toInt ∧ (v.1 0 15).toInt < 16000 from (om_434853ee4d zo))) tw_59 tw_60 (by decide +kernel) rfl rfl ⟨Nat.le_of_ble_eq_true rfl, Nat.le_of_ble_eq_true rfl⟩ (List.range (mW ad N cI cZ cJ (wA (wA v 11 ((v.1 0 12).toNatClampNeg) r35) 0 12 ((v.1 0 12) + (1 : Int32)))).length) (rg_map _) (mW_nd _ _ _ _ _ _) rfl rfl rfl rfl hl.1 rfl (Nat.le_of_ble_eq_true rfl) dX13_store_23 ⟨Nat.le_of_ble_eq_true rfl, Nat.le_of_ble_eq_true rfl⟩) hP hD hS hA (fun r42 u41 H locs hw40 hP hD hS => ?_)
    obtain ⟨rfl, rfl⟩ := hw40
    have z43 : ((v.1 0 15) + (1 : Int32)).toInt = ((v.1 0 15).toInt) + 1 := add_z rfl (show (1 : Int32).toInt = 1 by decide) (om_9aa2e986af zo) (om_363e01920b zo)
    have hP : va_P (dC, dI) vwCl (mW ad N cI cZ cJ (wA (wA (wA (wA (wA v 11 ((v.1 0 12).toNatClampNeg) r35) 0 12 ((v.1 0 12) + (1 : Int32))) 13 ((v.1 0 15).toNatClampNeg) (2 : Int32)) 14 ((v.1 0 15).toNatClampNeg) pa) 0 15 ((v.1 0 15) + (1 : Int32)))) H := hP
    have hD : va_D A (mW ad N cI cZ cJ (wA (wA (wA (wA (wA v 11 ((v.1 0 12).toNatClampNeg) r35) 0 12 ((v.1 0 12) + (1 : Int32))) 13 ((v.1 0 15).toNatClampNeg) (2 : Int32)) 14 ((v.1 0 15).toNatClampNeg) pa) 0 15 ((v.1 0 15) + (1 : Int32)))) := hD
    refine tp_i (y := (v.1 0 15)) (rfl) ?_
    refine W.widen (k := 0) (n := 0) (Nat.le_refl _) (Nat.le_refl _) ?_
    refine lv_pop hx hb dX13_store_26 rfl ?_
    refine lv_goto (tgt := 76) hx hb dX13_store_27 (by decide) ?_
    exact W.vret hx hb hr (fun t ht9 hW => ⟨⟨(wA (wA (wA (wA (wA v 11 ((v.1 0 12).toNatClampNeg) r35) 0 12 ((v.1 0 12) + (1 : Int32))) 13 ((v.1 0 15).toNatClampNeg) (2 : Int32)) 14 ((v.1 0 15).toNatClampNeg) pa) 0 15 ((v.1 0 15) + (1 : Int32))), rfl, ⟨(FG.f (FG.a (FG.a (FG.f (FG.a (FG.rf _) ((v.1 0 12).toNatClampNeg) r35 (by decide) (by decide)) ((v.1 0 12) + (1 : Int32)) (by decide)) ((v.1 0 15).toNatClampNeg) (2 : Int32) (by decide) (by decide)) ((v.1 0 15).toNatClampNeg) pa (by decide) (by decide)) ((v.1 0 15) + (1 : Int32)) (by decide)), (show (v.1 0 12).toInt ≤ ((v.1 0 12) + (1 : Int32)).toInt ∧ ((v.1 0 12) + (1 : Int32)).toInt ≤ (v.1 0 12).toInt + 2 from (om_2395c52f24 z39)), (show ((v.1 0 15) + (1 : Int32)).toInt = (v.1 0 15).toInt + 1 from (om_b2e2930950 z43)), (show (v.1 0 43).toInt ≤ (v.1 0 43).toInt ∧ (v.1 0 43).toInt ≤ (v.1 0 43).toInt + 2 from om_798cb3402e), (fun (j9 : Nat) hj9 => (pk_un3 (a := (v.1 0 12).toInt) rfl (om_4842074e86 zw) (om_4fe904e9bf hj9))), (fun (j9 : Nat) hj9 => (pk_un3 (a := (v.1 0 15).toInt) rfl (om_2ab3f6b9f5 zo) (om_4fe904e9bf hj9))), (fun (j9 : Nat) hj9 => (pk_un3 (a := (v.1 0 15).toInt) rfl (om_2ab3f6b9f5 zo) (om_4fe904e9bf hj9)))⟩, by rw [ht9]; exact hP, hD⟩, hS.F ht9⟩) hS.2.2 dX13_store_76
