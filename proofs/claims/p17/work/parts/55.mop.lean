theorem dX13_operate_0 : decode cX13_operate 0 = .ok (.aload_n 0, 1) := by decide +kernel
theorem dX13_operate_1 : decode cX13_operate 1 = .ok (.bipush 21, 2) := by decide +kernel
theorem dX13_operate_3 : decode cX13_operate 3 = .ok (.iload_n 1, 1) := by decide +kernel
theorem dX13_operate_4 : decode cX13_operate 4 = .ok (.invokevirtual 210, 3) := by decide +kernel
theorem dX13_operate_7 : decode cX13_operate 7 = .ok (.pop, 1) := by decide +kernel
theorem dX13_operate_8 : decode cX13_operate 8 = .ok (.iload_n 1, 1) := by decide +kernel
theorem dX13_operate_9 : decode cX13_operate 9 = .ok (.lookupswitch 440 #[(38, 160), (42, 426), (43, 123), (45, 141), (60, 253), (62, 271), (94, 198), (124, 179), (15420, 216), (15649, 392), (15676, 289), (15677, 357), (15678, 323), (15934, 234)], 123) := by decide +kernel
theorem dX13_operate_169 : decode cX13_operate 169 = .ok (.aload_n 0, 1) := by decide +kernel
theorem dX13_operate_170 : decode cX13_operate 170 = .ok (.iconst 0, 1) := by decide +kernel
theorem dX13_operate_171 : decode cX13_operate 171 = .ok (.bipush 7, 2) := by decide +kernel
theorem dX13_operate_173 : decode cX13_operate 173 = .ok (.bipush 10, 2) := by decide +kernel
theorem dX13_operate_175 : decode cX13_operate 175 = .ok (.iconst 5, 1) := by decide +kernel
theorem dX13_operate_176 : decode cX13_operate 176 = .ok (.bipush 10, 2) := by decide +kernel
theorem dX13_operate_178 : decode cX13_operate 178 = .ok (.invokestatic 213, 3) := by decide +kernel
theorem tw_67 : (.code yX13_byR cX13_byR 5 (some .int) : Cond) ∈ tw_W := tw_in (by decide +kernel) (by decide +kernel)
theorem tw_68 : ∀ w ∈ ([.methodLink RX13 213 yX13_byR, .static yX13_byR, .initialized yX13_byR.cls] : List Cond), w ∈ tw_W := tw_all (by decide +kernel)
theorem dX13_operate_181 : decode cX13_operate 181 = .ok (.invokevirtual 111, 3) := by decide +kernel
theorem dX13_operate_184 : decode cX13_operate 184 = .ok (.pop, 1) := by decide +kernel
theorem dX13_operate_185 : decode cX13_operate 185 = .ok (.goto 295, 3) := by decide +kernel
theorem dX13_operate_480 : decode cX13_operate 480 = .ok (.return_, 1) := by decide +kernel
theorem dX13_operate_435 : decode cX13_operate 435 = .ok (.aload_n 0, 1) := by decide +kernel
theorem dX13_operate_436 : decode cX13_operate 436 = .ok (.aload_n 0, 1) := by decide +kernel
theorem dX13_operate_437 : decode cX13_operate 437 = .ok (.iconst 0, 1) := by decide +kernel
theorem dX13_operate_438 : decode cX13_operate 438 = .ok (.invokevirtual 111, 3) := by decide +kernel
theorem dX13_operate_441 : decode cX13_operate 441 = .ok (.iconst (-1), 1) := by decide +kernel
theorem dX13_operate_442 : decode cX13_operate 442 = .ok (.iconst 5, 1) := by decide +kernel
theorem dX13_operate_443 : decode cX13_operate 443 = .ok (.invokevirtual 216, 3) := by decide +kernel
theorem tw_69 : (.code yX13_fix cX13_fix 4 none : Cond) ∈ tw_W := tw_in (by decide +kernel) (by decide +kernel)
theorem tw_70 : ∀ w ∈ ([.methodLink RX13 216 yX13_fix, .instanceMethod yX13_fix, .selects RX13 yX13_fix yX13_fix, .initialized RX13] : List Cond), w ∈ tw_W := tw_all (by decide +kernel)
theorem dX13_operate_446 : decode cX13_operate 446 = .ok (.goto 34, 3) := by decide +kernel
theorem dX13_operate_132 : decode cX13_operate 132 = .ok (.aload_n 0, 1) := by decide +kernel
theorem dX13_operate_133 : decode cX13_operate 133 = .ok (.iconst 0, 1) := by decide +kernel
theorem dX13_operate_134 : decode cX13_operate 134 = .ok (.iconst 0, 1) := by decide +kernel
theorem dX13_operate_135 : decode cX13_operate 135 = .ok (.bipush 10, 2) := by decide +kernel
theorem dX13_operate_137 : decode cX13_operate 137 = .ok (.iconst 5, 1) := by decide +kernel
theorem dX13_operate_138 : decode cX13_operate 138 = .ok (.bipush 10, 2) := by decide +kernel
theorem dX13_operate_140 : decode cX13_operate 140 = .ok (.invokestatic 213, 3) := by decide +kernel
theorem dX13_operate_143 : decode cX13_operate 143 = .ok (.invokevirtual 111, 3) := by decide +kernel
theorem dX13_operate_146 : decode cX13_operate 146 = .ok (.pop, 1) := by decide +kernel
theorem dX13_operate_147 : decode cX13_operate 147 = .ok (.goto 333, 3) := by decide +kernel
theorem dX13_operate_150 : decode cX13_operate 150 = .ok (.aload_n 0, 1) := by decide +kernel
theorem dX13_operate_151 : decode cX13_operate 151 = .ok (.bipush 32, 2) := by decide +kernel
theorem dX13_operate_153 : decode cX13_operate 153 = .ok (.iconst 0, 1) := by decide +kernel
theorem dX13_operate_154 : decode cX13_operate 154 = .ok (.bipush 10, 2) := by decide +kernel
theorem dX13_operate_156 : decode cX13_operate 156 = .ok (.iconst 5, 1) := by decide +kernel
theorem dX13_operate_157 : decode cX13_operate 157 = .ok (.bipush 10, 2) := by decide +kernel
theorem dX13_operate_159 : decode cX13_operate 159 = .ok (.invokestatic 213, 3) := by decide +kernel
theorem dX13_operate_162 : decode cX13_operate 162 = .ok (.invokevirtual 111, 3) := by decide +kernel
theorem dX13_operate_165 : decode cX13_operate 165 = .ok (.pop, 1) := by decide +kernel
theorem dX13_operate_166 : decode cX13_operate 166 = .ok (.goto 314, 3) := by decide +kernel
theorem dX13_operate_262 : decode cX13_operate 262 = .ok (.aload_n 0, 1) := by decide +kernel
theorem dX13_operate_263 : decode cX13_operate 263 = .ok (.iconst 0, 1) := by decide +kernel
theorem dX13_operate_264 : decode cX13_operate 264 = .ok (.iconst 2, 1) := by decide +kernel
theorem dX13_operate_265 : decode cX13_operate 265 = .ok (.bipush 10, 2) := by decide +kernel
theorem dX13_operate_267 : decode cX13_operate 267 = .ok (.iconst 5, 1) := by decide +kernel
theorem dX13_operate_268 : decode cX13_operate 268 = .ok (.bipush 10, 2) := by decide +kernel
theorem dX13_operate_270 : decode cX13_operate 270 = .ok (.invokestatic 213, 3) := by decide +kernel
theorem dX13_operate_273 : decode cX13_operate 273 = .ok (.invokevirtual 111, 3) := by decide +kernel
theorem dX13_operate_276 : decode cX13_operate 276 = .ok (.pop, 1) := by decide +kernel
theorem dX13_operate_277 : decode cX13_operate 277 = .ok (.goto 203, 3) := by decide +kernel
theorem dX13_operate_280 : decode cX13_operate 280 = .ok (.aload_n 0, 1) := by decide +kernel
theorem dX13_operate_281 : decode cX13_operate 281 = .ok (.iconst 0, 1) := by decide +kernel
theorem dX13_operate_282 : decode cX13_operate 282 = .ok (.iconst 2, 1) := by decide +kernel
theorem dX13_operate_283 : decode cX13_operate 283 = .ok (.bipush 10, 2) := by decide +kernel
theorem dX13_operate_285 : decode cX13_operate 285 = .ok (.bipush 10, 2) := by decide +kernel
theorem dX13_operate_287 : decode cX13_operate 287 = .ok (.iconst 5, 1) := by decide +kernel
theorem dX13_operate_288 : decode cX13_operate 288 = .ok (.invokestatic 213, 3) := by decide +kernel
theorem dX13_operate_291 : decode cX13_operate 291 = .ok (.invokevirtual 111, 3) := by decide +kernel
theorem dX13_operate_294 : decode cX13_operate 294 = .ok (.pop, 1) := by decide +kernel
theorem dX13_operate_295 : decode cX13_operate 295 = .ok (.goto 185, 3) := by decide +kernel
theorem dX13_operate_207 : decode cX13_operate 207 = .ok (.aload_n 0, 1) := by decide +kernel
theorem dX13_operate_208 : decode cX13_operate 208 = .ok (.iconst 0, 1) := by decide +kernel
theorem dX13_operate_209 : decode cX13_operate 209 = .ok (.iconst 4, 1) := by decide +kernel
theorem dX13_operate_210 : decode cX13_operate 210 = .ok (.bipush 10, 2) := by decide +kernel
theorem dX13_operate_212 : decode cX13_operate 212 = .ok (.iconst 5, 1) := by decide +kernel
theorem dX13_operate_213 : decode cX13_operate 213 = .ok (.bipush 10, 2) := by decide +kernel
theorem dX13_operate_215 : decode cX13_operate 215 = .ok (.invokestatic 213, 3) := by decide +kernel
theorem dX13_operate_218 : decode cX13_operate 218 = .ok (.invokevirtual 111, 3) := by decide +kernel
theorem dX13_operate_221 : decode cX13_operate 221 = .ok (.pop, 1) := by decide +kernel
theorem dX13_operate_222 : decode cX13_operate 222 = .ok (.goto 258, 3) := by decide +kernel
theorem dX13_operate_188 : decode cX13_operate 188 = .ok (.aload_n 0, 1) := by decide +kernel
theorem dX13_operate_189 : decode cX13_operate 189 = .ok (.iconst 0, 1) := by decide +kernel
theorem dX13_operate_190 : decode cX13_operate 190 = .ok (.bipush 6, 2) := by decide +kernel
theorem dX13_operate_192 : decode cX13_operate 192 = .ok (.bipush 10, 2) := by decide +kernel
theorem dX13_operate_194 : decode cX13_operate 194 = .ok (.iconst 5, 1) := by decide +kernel
theorem dX13_operate_195 : decode cX13_operate 195 = .ok (.bipush 10, 2) := by decide +kernel
theorem dX13_operate_197 : decode cX13_operate 197 = .ok (.invokestatic 213, 3) := by decide +kernel
theorem dX13_operate_200 : decode cX13_operate 200 = .ok (.invokevirtual 111, 3) := by decide +kernel
theorem dX13_operate_203 : decode cX13_operate 203 = .ok (.pop, 1) := by decide +kernel
theorem dX13_operate_204 : decode cX13_operate 204 = .ok (.goto 276, 3) := by decide +kernel
theorem dX13_operate_225 : decode cX13_operate 225 = .ok (.aload_n 0, 1) := by decide +kernel
theorem dX13_operate_226 : decode cX13_operate 226 = .ok (.iconst 0, 1) := by decide +kernel
theorem dX13_operate_227 : decode cX13_operate 227 = .ok (.iconst 1, 1) := by decide +kernel
theorem dX13_operate_228 : decode cX13_operate 228 = .ok (.bipush 10, 2) := by decide +kernel
theorem dX13_operate_230 : decode cX13_operate 230 = .ok (.iconst 5, 1) := by decide +kernel
theorem dX13_operate_231 : decode cX13_operate 231 = .ok (.bipush 10, 2) := by decide +kernel
theorem dX13_operate_233 : decode cX13_operate 233 = .ok (.invokestatic 213, 3) := by decide +kernel
theorem dX13_operate_236 : decode cX13_operate 236 = .ok (.invokevirtual 111, 3) := by decide +kernel
theorem dX13_operate_239 : decode cX13_operate 239 = .ok (.pop, 1) := by decide +kernel
theorem dX13_operate_240 : decode cX13_operate 240 = .ok (.goto 240, 3) := by decide +kernel
theorem dX13_operate_401 : decode cX13_operate 401 = .ok (.aload_n 0, 1) := by decide +kernel
theorem dX13_operate_402 : decode cX13_operate 402 = .ok (.bipush 32, 2) := by decide +kernel
theorem dX13_operate_404 : decode cX13_operate 404 = .ok (.iconst 0, 1) := by decide +kernel
theorem dX13_operate_405 : decode cX13_operate 405 = .ok (.bipush 10, 2) := by decide +kernel
theorem dX13_operate_407 : decode cX13_operate 407 = .ok (.iconst 5, 1) := by decide +kernel
theorem dX13_operate_408 : decode cX13_operate 408 = .ok (.bipush 10, 2) := by decide +kernel
theorem dX13_operate_410 : decode cX13_operate 410 = .ok (.invokestatic 213, 3) := by decide +kernel
theorem dX13_operate_413 : decode cX13_operate 413 = .ok (.invokevirtual 111, 3) := by decide +kernel
theorem dX13_operate_416 : decode cX13_operate 416 = .ok (.pop, 1) := by decide +kernel
theorem dX13_operate_417 : decode cX13_operate 417 = .ok (.aload_n 0, 1) := by decide +kernel
theorem dX13_operate_418 : decode cX13_operate 418 = .ok (.iconst 0, 1) := by decide +kernel
theorem dX13_operate_419 : decode cX13_operate 419 = .ok (.iconst 3, 1) := by decide +kernel
theorem dX13_operate_420 : decode cX13_operate 420 = .ok (.bipush 10, 2) := by decide +kernel
theorem dX13_operate_422 : decode cX13_operate 422 = .ok (.iconst 0, 1) := by decide +kernel
theorem dX13_operate_423 : decode cX13_operate 423 = .ok (.bipush 10, 2) := by decide +kernel
theorem dX13_operate_425 : decode cX13_operate 425 = .ok (.invokestatic 213, 3) := by decide +kernel
theorem dX13_operate_428 : decode cX13_operate 428 = .ok (.invokevirtual 111, 3) := by decide +kernel
theorem dX13_operate_431 : decode cX13_operate 431 = .ok (.pop, 1) := by decide +kernel
theorem dX13_operate_432 : decode cX13_operate 432 = .ok (.goto 48, 3) := by decide +kernel
theorem dX13_operate_298 : decode cX13_operate 298 = .ok (.aload_n 0, 1) := by decide +kernel
theorem dX13_operate_299 : decode cX13_operate 299 = .ok (.iconst 0, 1) := by decide +kernel
theorem dX13_operate_300 : decode cX13_operate 300 = .ok (.iconst 2, 1) := by decide +kernel
theorem dX13_operate_301 : decode cX13_operate 301 = .ok (.bipush 10, 2) := by decide +kernel
theorem dX13_operate_303 : decode cX13_operate 303 = .ok (.bipush 10, 2) := by decide +kernel
theorem dX13_operate_305 : decode cX13_operate 305 = .ok (.iconst 5, 1) := by decide +kernel
theorem dX13_operate_306 : decode cX13_operate 306 = .ok (.invokestatic 213, 3) := by decide +kernel
theorem dX13_operate_309 : decode cX13_operate 309 = .ok (.invokevirtual 111, 3) := by decide +kernel
theorem dX13_operate_312 : decode cX13_operate 312 = .ok (.pop, 1) := by decide +kernel
theorem dX13_operate_313 : decode cX13_operate 313 = .ok (.aload_n 0, 1) := by decide +kernel
theorem dX13_operate_314 : decode cX13_operate 314 = .ok (.bipush 19, 2) := by decide +kernel
theorem dX13_operate_316 : decode cX13_operate 316 = .ok (.iconst 4, 1) := by decide +kernel
theorem dX13_operate_317 : decode cX13_operate 317 = .ok (.bipush 10, 2) := by decide +kernel
theorem dX13_operate_319 : decode cX13_operate 319 = .ok (.bipush 10, 2) := by decide +kernel
theorem dX13_operate_321 : decode cX13_operate 321 = .ok (.iconst 1, 1) := by decide +kernel
theorem dX13_operate_322 : decode cX13_operate 322 = .ok (.invokestatic 97, 3) := by decide +kernel
theorem dX13_operate_325 : decode cX13_operate 325 = .ok (.invokevirtual 111, 3) := by decide +kernel
theorem dX13_operate_328 : decode cX13_operate 328 = .ok (.pop, 1) := by decide +kernel
theorem dX13_operate_329 : decode cX13_operate 329 = .ok (.goto 151, 3) := by decide +kernel
theorem dX13_operate_366 : decode cX13_operate 366 = .ok (.aload_n 0, 1) := by decide +kernel
theorem dX13_operate_367 : decode cX13_operate 367 = .ok (.bipush 32, 2) := by decide +kernel
theorem dX13_operate_369 : decode cX13_operate 369 = .ok (.iconst 0, 1) := by decide +kernel
theorem dX13_operate_370 : decode cX13_operate 370 = .ok (.bipush 10, 2) := by decide +kernel
theorem dX13_operate_372 : decode cX13_operate 372 = .ok (.iconst 5, 1) := by decide +kernel
theorem dX13_operate_373 : decode cX13_operate 373 = .ok (.bipush 10, 2) := by decide +kernel
theorem dX13_operate_375 : decode cX13_operate 375 = .ok (.invokestatic 213, 3) := by decide +kernel
theorem dX13_operate_378 : decode cX13_operate 378 = .ok (.invokevirtual 111, 3) := by decide +kernel
theorem dX13_operate_381 : decode cX13_operate 381 = .ok (.pop, 1) := by decide +kernel
theorem dX13_operate_382 : decode cX13_operate 382 = .ok (.aload_n 0, 1) := by decide +kernel
theorem dX13_operate_383 : decode cX13_operate 383 = .ok (.bipush 19, 2) := by decide +kernel
theorem dX13_operate_385 : decode cX13_operate 385 = .ok (.iconst 3, 1) := by decide +kernel
theorem dX13_operate_386 : decode cX13_operate 386 = .ok (.bipush 10, 2) := by decide +kernel
theorem dX13_operate_388 : decode cX13_operate 388 = .ok (.bipush 10, 2) := by decide +kernel
theorem dX13_operate_390 : decode cX13_operate 390 = .ok (.iconst 1, 1) := by decide +kernel
theorem dX13_operate_391 : decode cX13_operate 391 = .ok (.invokestatic 97, 3) := by decide +kernel
theorem dX13_operate_394 : decode cX13_operate 394 = .ok (.invokevirtual 111, 3) := by decide +kernel
theorem dX13_operate_397 : decode cX13_operate 397 = .ok (.pop, 1) := by decide +kernel
theorem dX13_operate_398 : decode cX13_operate 398 = .ok (.goto 82, 3) := by decide +kernel
theorem dX13_operate_332 : decode cX13_operate 332 = .ok (.aload_n 0, 1) := by decide +kernel
theorem dX13_operate_333 : decode cX13_operate 333 = .ok (.iconst 0, 1) := by decide +kernel
theorem dX13_operate_334 : decode cX13_operate 334 = .ok (.iconst 2, 1) := by decide +kernel
theorem dX13_operate_335 : decode cX13_operate 335 = .ok (.bipush 10, 2) := by decide +kernel
theorem dX13_operate_337 : decode cX13_operate 337 = .ok (.iconst 5, 1) := by decide +kernel
theorem dX13_operate_338 : decode cX13_operate 338 = .ok (.bipush 10, 2) := by decide +kernel
theorem dX13_operate_340 : decode cX13_operate 340 = .ok (.invokestatic 213, 3) := by decide +kernel
theorem dX13_operate_343 : decode cX13_operate 343 = .ok (.invokevirtual 111, 3) := by decide +kernel
theorem dX13_operate_346 : decode cX13_operate 346 = .ok (.pop, 1) := by decide +kernel
theorem dX13_operate_347 : decode cX13_operate 347 = .ok (.aload_n 0, 1) := by decide +kernel
theorem dX13_operate_348 : decode cX13_operate 348 = .ok (.bipush 19, 2) := by decide +kernel
theorem dX13_operate_350 : decode cX13_operate 350 = .ok (.iconst 4, 1) := by decide +kernel
theorem dX13_operate_351 : decode cX13_operate 351 = .ok (.bipush 10, 2) := by decide +kernel
theorem dX13_operate_353 : decode cX13_operate 353 = .ok (.bipush 10, 2) := by decide +kernel
theorem dX13_operate_355 : decode cX13_operate 355 = .ok (.iconst 1, 1) := by decide +kernel
theorem dX13_operate_356 : decode cX13_operate 356 = .ok (.invokestatic 97, 3) := by decide +kernel
theorem dX13_operate_359 : decode cX13_operate 359 = .ok (.invokevirtual 111, 3) := by decide +kernel
theorem dX13_operate_362 : decode cX13_operate 362 = .ok (.pop, 1) := by decide +kernel
theorem dX13_operate_363 : decode cX13_operate 363 = .ok (.goto 117, 3) := by decide +kernel
theorem dX13_operate_243 : decode cX13_operate 243 = .ok (.aload_n 0, 1) := by decide +kernel
theorem dX13_operate_244 : decode cX13_operate 244 = .ok (.bipush 32, 2) := by decide +kernel
theorem dX13_operate_246 : decode cX13_operate 246 = .ok (.iconst 5, 1) := by decide +kernel
theorem dX13_operate_247 : decode cX13_operate 247 = .ok (.bipush 10, 2) := by decide +kernel
theorem dX13_operate_249 : decode cX13_operate 249 = .ok (.iconst 5, 1) := by decide +kernel
theorem dX13_operate_250 : decode cX13_operate 250 = .ok (.bipush 10, 2) := by decide +kernel
theorem dX13_operate_252 : decode cX13_operate 252 = .ok (.invokestatic 213, 3) := by decide +kernel
theorem dX13_operate_255 : decode cX13_operate 255 = .ok (.invokevirtual 111, 3) := by decide +kernel
theorem dX13_operate_258 : decode cX13_operate 258 = .ok (.pop, 1) := by decide +kernel
theorem dX13_operate_259 : decode cX13_operate 259 = .ok (.goto 221, 3) := by decide +kernel
theorem dX13_operate_449 : decode cX13_operate 449 = .ok (.aload_n 0, 1) := by decide +kernel
theorem dX13_operate_450 : decode cX13_operate 450 = .ok (.aload_n 0, 1) := by decide +kernel
theorem dX13_operate_451 : decode cX13_operate 451 = .ok (.iconst 0, 1) := by decide +kernel
theorem dX13_operate_452 : decode cX13_operate 452 = .ok (.invokevirtual 111, 3) := by decide +kernel
theorem dX13_operate_455 : decode cX13_operate 455 = .ok (.bipush (-2), 2) := by decide +kernel
theorem dX13_operate_457 : decode cX13_operate 457 = .ok (.iconst 5, 1) := by decide +kernel
theorem dX13_operate_458 : decode cX13_operate 458 = .ok (.invokevirtual 216, 3) := by decide +kernel
theorem dX13_operate_461 : decode cX13_operate 461 = .ok (.iload_n 1, 1) := by decide +kernel
theorem dX13_operate_462 : decode cX13_operate 462 = .ok (.bipush 37, 2) := by decide +kernel
theorem dX13_operate_464 : decode cX13_operate 464 = .ok (.if_icmp .ne 16, 3) := by decide +kernel
theorem dX13_operate_467 : decode cX13_operate 467 = .ok (.aload_n 0, 1) := by decide +kernel
theorem dX13_operate_468 : decode cX13_operate 468 = .ok (.bipush 10, 2) := by decide +kernel
theorem dX13_operate_470 : decode cX13_operate 470 = .ok (.bipush 6, 2) := by decide +kernel
theorem dX13_operate_472 : decode cX13_operate 472 = .ok (.iconst 0, 1) := by decide +kernel
theorem dX13_operate_473 : decode cX13_operate 473 = .ok (.invokestatic 219, 3) := by decide +kernel
theorem dX13_operate_476 : decode cX13_operate 476 = .ok (.invokevirtual 111, 3) := by decide +kernel
theorem dX13_operate_479 : decode cX13_operate 479 = .ok (.pop, 1) := by decide +kernel
theorem dX13_fetch_0 : decode cX13_fetch 0 = .ok (.iload_n 1, 1) := by decide +kernel
theorem dX13_fetch_1 : decode cX13_fetch 1 = .ok (.ifCond .lt 29, 3) := by decide +kernel
theorem dX13_fetch_30 : decode cX13_fetch 30 = .ok (.aload_n 0, 1) := by decide +kernel
theorem dX13_fetch_31 : decode cX13_fetch 31 = .ok (.aload_n 0, 1) := by decide +kernel
theorem dX13_fetch_32 : decode cX13_fetch 32 = .ok (.bipush 6, 2) := by decide +kernel
theorem dX13_fetch_34 : decode cX13_fetch 34 = .ok (.iconst 0, 1) := by decide +kernel
theorem dX13_fetch_35 : decode cX13_fetch 35 = .ok (.invokestatic 223, 3) := by decide +kernel
theorem dX13_fetch_38 : decode cX13_fetch 38 = .ok (.invokevirtual 111, 3) := by decide +kernel
theorem dX13_fetch_41 : decode cX13_fetch 41 = .ok (.iload_n 2, 1) := by decide +kernel
theorem dX13_fetch_42 : decode cX13_fetch 42 = .ok (.iconst 0, 1) := by decide +kernel
theorem dX13_fetch_43 : decode cX13_fetch 43 = .ok (.invokevirtual 216, 3) := by decide +kernel
theorem dX13_fetch_46 : decode cX13_fetch 46 = .ok (.aload_n 0, 1) := by decide +kernel
theorem dX13_fetch_47 : decode cX13_fetch 47 = .ok (.aload_n 0, 1) := by decide +kernel
theorem dX13_fetch_48 : decode cX13_fetch 48 = .ok (.bipush 10, 2) := by decide +kernel
theorem dX13_fetch_50 : decode cX13_fetch 50 = .ok (.iconst 0, 1) := by decide +kernel
theorem dX13_fetch_51 : decode cX13_fetch 51 = .ok (.bipush 6, 2) := by decide +kernel
theorem dX13_fetch_53 : decode cX13_fetch 53 = .ok (.invokestatic 265, 3) := by decide +kernel
theorem tw_71 : (.code yX13_lw cX13_lw 3 (some .int) : Cond) ∈ tw_W := tw_in (by decide +kernel) (by decide +kernel)
theorem tw_72 : ∀ w ∈ ([.methodLink RX13 265 yX13_lw, .static yX13_lw, .initialized yX13_lw.cls] : List Cond), w ∈ tw_W := tw_all (by decide +kernel)
theorem dX13_fetch_56 : decode cX13_fetch 56 = .ok (.invokevirtual 111, 3) := by decide +kernel
theorem dX13_fetch_59 : decode cX13_fetch 59 = .ok (.iload_n 2, 1) := by decide +kernel
theorem dX13_fetch_60 : decode cX13_fetch 60 = .ok (.iconst 1, 1) := by decide +kernel
theorem dX13_fetch_61 : decode cX13_fetch 61 = .ok (.invokevirtual 216, 3) := by decide +kernel
theorem dX13_fetch_64 : decode cX13_fetch 64 = .ok (.aload_n 0, 1) := by decide +kernel
theorem dX13_fetch_65 : decode cX13_fetch 65 = .ok (.iconst 3, 1) := by decide +kernel
theorem dX13_fetch_66 : decode cX13_fetch 66 = .ok (.aload_n 0, 1) := by decide +kernel
theorem dX13_fetch_67 : decode cX13_fetch 67 = .ok (.getfield 275, 3) := by decide +kernel
theorem tw_73 : (.fieldLink RX13 275 "PocketCompilerModel" "gFrom" "[I" : Cond) ∈ tw_W := tw_in (by decide +kernel) (by decide +kernel)
theorem dX13_fetch_70 : decode cX13_fetch 70 = .ok (.iload_n 2, 1) := by decide +kernel
theorem dX13_fetch_71 : decode cX13_fetch 71 = .ok (.iaload, 1) := by decide +kernel
theorem dX13_fetch_72 : decode cX13_fetch 72 = .ok (.invokevirtual 210, 3) := by decide +kernel
theorem dX13_fetch_75 : decode cX13_fetch 75 = .ok (.pop, 1) := by decide +kernel
theorem dX13_fetch_76 : decode cX13_fetch 76 = .ok (.return_, 1) := by decide +kernel
theorem dX13_fetch_4 : decode cX13_fetch 4 = .ok (.aload_n 0, 1) := by decide +kernel
theorem dX13_fetch_5 : decode cX13_fetch 5 = .ok (.bipush 10, 2) := by decide +kernel
theorem dX13_fetch_7 : decode cX13_fetch 7 = .ok (.iload_n 1, 1) := by decide +kernel
theorem dX13_fetch_8 : decode cX13_fetch 8 = .ok (.invokestatic 272, 3) := by decide +kernel
theorem tw_74 : (.code yX13_slotAt cX13_slotAt 1 (some .int) : Cond) ∈ tw_W := tw_in (by decide +kernel) (by decide +kernel)
theorem tw_75 : ∀ w ∈ ([.methodLink RX13 272 yX13_slotAt, .static yX13_slotAt, .initialized yX13_slotAt.cls] : List Cond), w ∈ tw_W := tw_all (by decide +kernel)
theorem dX13_fetch_11 : decode cX13_fetch 11 = .ok (.bipush 8, 2) := by decide +kernel
theorem dX13_fetch_13 : decode cX13_fetch 13 = .ok (.invokestatic 265, 3) := by decide +kernel
theorem dX13_fetch_16 : decode cX13_fetch 16 = .ok (.invokevirtual 111, 3) := by decide +kernel
theorem dX13_fetch_19 : decode cX13_fetch 19 = .ok (.pop, 1) := by decide +kernel
theorem dX13_fetch_20 : decode cX13_fetch 20 = .ok (.aload_n 0, 1) := by decide +kernel
theorem dX13_fetch_21 : decode cX13_fetch 21 = .ok (.iconst 1, 1) := by decide +kernel
theorem dX13_fetch_22 : decode cX13_fetch 22 = .ok (.iload_n 1, 1) := by decide +kernel
theorem dX13_fetch_23 : decode cX13_fetch 23 = .ok (.invokevirtual 210, 3) := by decide +kernel
theorem dX13_fetch_26 : decode cX13_fetch 26 = .ok (.pop, 1) := by decide +kernel
theorem dX13_fetch_27 : decode cX13_fetch 27 = .ok (.goto 49, 3) := by decide +kernel
theorem dX13_store_0 : decode cX13_store 0 = .ok (.iload_n 1, 1) := by decide +kernel
theorem dX13_store_1 : decode cX13_store 1 = .ok (.ifCond .lt 29, 3) := by decide +kernel
theorem dX13_store_30 : decode cX13_store 30 = .ok (.aload_n 0, 1) := by decide +kernel
theorem dX13_store_31 : decode cX13_store 31 = .ok (.aload_n 0, 1) := by decide +kernel
theorem dX13_store_32 : decode cX13_store 32 = .ok (.bipush 6, 2) := by decide +kernel
theorem dX13_store_34 : decode cX13_store 34 = .ok (.iconst 0, 1) := by decide +kernel
theorem dX13_store_35 : decode cX13_store 35 = .ok (.invokestatic 223, 3) := by decide +kernel
theorem dX13_store_38 : decode cX13_store 38 = .ok (.invokevirtual 111, 3) := by decide +kernel
theorem dX13_store_41 : decode cX13_store 41 = .ok (.iload_n 2, 1) := by decide +kernel
theorem dX13_store_42 : decode cX13_store 42 = .ok (.iconst 0, 1) := by decide +kernel
theorem dX13_store_43 : decode cX13_store 43 = .ok (.invokevirtual 216, 3) := by decide +kernel
theorem dX13_store_46 : decode cX13_store 46 = .ok (.aload_n 0, 1) := by decide +kernel
theorem dX13_store_47 : decode cX13_store 47 = .ok (.aload_n 0, 1) := by decide +kernel
theorem dX13_store_48 : decode cX13_store 48 = .ok (.bipush 10, 2) := by decide +kernel
theorem dX13_store_50 : decode cX13_store 50 = .ok (.iconst 0, 1) := by decide +kernel
theorem dX13_store_51 : decode cX13_store 51 = .ok (.bipush 6, 2) := by decide +kernel
theorem dX13_store_53 : decode cX13_store 53 = .ok (.invokestatic 278, 3) := by decide +kernel
theorem tw_76 : (.code yX13_sw cX13_sw 3 (some .int) : Cond) ∈ tw_W := tw_in (by decide +kernel) (by decide +kernel)
theorem tw_77 : ∀ w ∈ ([.methodLink RX13 278 yX13_sw, .static yX13_sw, .initialized yX13_sw.cls] : List Cond), w ∈ tw_W := tw_all (by decide +kernel)
theorem dX13_store_56 : decode cX13_store 56 = .ok (.invokevirtual 111, 3) := by decide +kernel
theorem dX13_store_59 : decode cX13_store 59 = .ok (.iload_n 2, 1) := by decide +kernel
theorem dX13_store_60 : decode cX13_store 60 = .ok (.iconst 2, 1) := by decide +kernel
theorem dX13_store_61 : decode cX13_store 61 = .ok (.invokevirtual 216, 3) := by decide +kernel
theorem dX13_store_64 : decode cX13_store 64 = .ok (.aload_n 0, 1) := by decide +kernel
theorem dX13_store_65 : decode cX13_store 65 = .ok (.iconst 4, 1) := by decide +kernel
theorem dX13_store_66 : decode cX13_store 66 = .ok (.aload_n 0, 1) := by decide +kernel
theorem dX13_store_67 : decode cX13_store 67 = .ok (.getfield 275, 3) := by decide +kernel
theorem dX13_store_70 : decode cX13_store 70 = .ok (.iload_n 2, 1) := by decide +kernel
theorem dX13_store_71 : decode cX13_store 71 = .ok (.iaload, 1) := by decide +kernel
theorem dX13_store_72 : decode cX13_store 72 = .ok (.invokevirtual 210, 3) := by decide +kernel
theorem dX13_store_75 : decode cX13_store 75 = .ok (.pop, 1) := by decide +kernel
theorem dX13_store_76 : decode cX13_store 76 = .ok (.return_, 1) := by decide +kernel
theorem dX13_store_4 : decode cX13_store 4 = .ok (.aload_n 0, 1) := by decide +kernel
theorem dX13_store_5 : decode cX13_store 5 = .ok (.bipush 10, 2) := by decide +kernel
theorem dX13_store_7 : decode cX13_store 7 = .ok (.iload_n 1, 1) := by decide +kernel
theorem dX13_store_8 : decode cX13_store 8 = .ok (.invokestatic 272, 3) := by decide +kernel
theorem dX13_store_11 : decode cX13_store 11 = .ok (.bipush 8, 2) := by decide +kernel
theorem dX13_store_13 : decode cX13_store 13 = .ok (.invokestatic 278, 3) := by decide +kernel
theorem dX13_store_16 : decode cX13_store 16 = .ok (.invokevirtual 111, 3) := by decide +kernel
theorem dX13_store_19 : decode cX13_store 19 = .ok (.pop, 1) := by decide +kernel
theorem dX13_store_20 : decode cX13_store 20 = .ok (.aload_n 0, 1) := by decide +kernel
theorem dX13_store_21 : decode cX13_store 21 = .ok (.iconst 2, 1) := by decide +kernel
theorem dX13_store_22 : decode cX13_store 22 = .ok (.iload_n 1, 1) := by decide +kernel
theorem dX13_store_23 : decode cX13_store 23 = .ok (.invokevirtual 210, 3) := by decide +kernel
theorem dX13_store_26 : decode cX13_store 26 = .ok (.pop, 1) := by decide +kernel
theorem dX13_store_27 : decode cX13_store 27 = .ok (.goto 49, 3) := by decide +kernel
theorem om_f646c5fae3 : (2 : Int) ≤ (2 : Int) := by omega
theorem om_68db4d56b8 : (1 : Int) ≤ (2 : Int) := by omega
theorem om_b79dd2a91d {x0 : Int} : x0 ≤ x0 ∧ x0 ≤ x0 + 1 := by omega
theorem om_9a87860940 : (5 : Int) = 5 ∨ (0 ≤ (-1 : Int) ∧ (-1 : Int) < 60) := by omega
theorem om_b87fb2bb94 : (5 : Int) = 5 ∨ (0 ≤ (-2 : Int) ∧ (-2 : Int) < 60) := by omega
set_option maxHeartbeats 4000000 in
set_option maxRecDepth 100000 in
theorem c_m_operate (l : Launch) (dC : Nat → ClassId) (dI : Nat → Nat → Nat) (cI cB cZ cJ cR : ClassId) (tb : Nat → Nat) (sz : Nat) (ad : Nat → Nat) (N : Nat) (v : MS) (pa : Int32) (zw : 0 ≤ (v.1 0 12).toInt ∧ (v.1 0 12).toInt ≤ 23980) (zo : 0 ≤ (v.1 0 15).toInt ∧ (v.1 0 15).toInt ≤ 15980) (zf : 0 ≤ (v.1 0 43).toInt ∧ (v.1 0 43).toInt ≤ 23980) (a40 : AR 40 0 23999 v) (fx : FX v) : Met l yX13_operate (Cond.code yX13_operate cX13_operate 2 none :: tw_W) ({ frames := 2, cells := 0, slots := 0, locals := 46 }) (pc_ (dC, dI) (tyS cI cB cZ cJ cR) tb (mW ad N cI cZ cJ v) sz [.ref (ad 0), .int pa]) (qv_ (dC, dI) (mW ad N cI cZ cJ v) sz (fun (u : MS) => FG [12, 15, 43] [0, 11, 13, 14, 40, 41, 42] v u ∧ ((v.1 0 12).toInt ≤ (u.1 0 12).toInt ∧ (u.1 0 12).toInt ≤ (v.1 0 12).toInt + 3) ∧ ((u.1 0 15).toInt = (v.1 0 15).toInt + 1) ∧ ((v.1 0 43).toInt ≤ (u.1 0 43).toInt ∧ (u.1 0 43).toInt ≤ (v.1 0 43).toInt + 1) ∧ (∀ j : Nat, (j : Int) < (v.1 0 12).toInt → (u.1 11) j = (v.1 11) j) ∧ (∀ j : Nat, (j : Int) < (v.1 0 15).toInt → (u.1 13) j = (v.1 13) j) ∧ (∀ j : Nat, (j : Int) < (v.1 0 15).toInt → (u.1 14) j = (v.1 14) j) ∧ (AR 40 0 23999 u) ∧ (FX u) ∧ (IV v → IV u) ∧ (SGE (v.1 0 30).toInt (v.1 0 28).toInt (v.1 0 27).toInt (u.1 13) (u.1 14) (u.1 36) (u.1 38) (v.1 0 15).toNatClampNeg (u.1 0 15).toNatClampNeg (v.1 0 39).toNatClampNeg (u.1 0 39).toNatClampNeg ([false, false]) [false] ((2 : Int)) [])) (fun (u : MS) => (mW ad N cI cZ cJ u))) 0 0 (va_A (mW ad N cI cZ cJ v) sz) := by
  refine Met.ofW (cc := cX13_operate) (maxL := 2) (ret := none) (by decide) rfl ?_
  intro p e s m args below meth c s₁ B hml hv
  obtain ⟨rfl, hsz, hP, hKK, hD0, hFx⟩ := hv
  have hK := hKK.1
  have hx := B.exec
  have hb := B.bytes
  have hr := B.returns
  have ht : ∀ w ∈ tw_W, w.before _ s = true := fun w h => atoms_spec (ws := Cond.code yX13_operate cX13_operate 2 none :: tw_W) B.pre w (List.mem_cons_of_mem _ h)
  have hown : s.vm.findClass RX13 = some m.cls := findClass_of_methodNamed B.named
  have hlocks := B.notSynchronized
  subst hsz
  unfold qv_
  have hD := hD0.self (sz := s.heap.size)
  generalize hAe : va_A (mW ad N cI cZ cJ v) s.heap.size = A at hD hFx ⊢
  have hA : ∀ q : Nat, s.heap.size ≤ q → A q := fun q h => by rw [← hAe]; exact Or.inr h
  have hS : va_S A s.heap s.heap [] := va_S.rf
  have hl := lv_entry ([.ref (ad 0), .int pa]) (n := 2) (Nat.le_of_ble_eq_true rfl)
  rw [lg_entry_eq]
  generalize (lg_sl ([.ref (ad 0), .int pa]) ++ List.replicate (2 - (lg_sl ([.ref (ad 0), .int pa])).length) Slot.unset).toArray = ls at hl ⊢
  have hl : lv_has ls 2 [(0, .ref (ad 0)), (1, .int pa)] := hl
  have sg1 : SGE (v.1 0 30).toInt (v.1 0 28).toInt (v.1 0 27).toInt (v.1 13) (v.1 14) (v.1 36) (v.1 38) (v.1 0 15).toNatClampNeg (v.1 0 15).toNatClampNeg (v.1 0 39).toNatClampNeg (v.1 0 39).toNatClampNeg ([false, false]) ([false, false]) ((2 : Int)) [] := SGE.nil rfl (lenle (2 : Int) (by decide) om_f646c5fae3)
  refine lv_aload_n hx hb dX13_operate_0 rfl (lv_at hl 0 rfl) ?_
  refine lv_bipush (v := 21) hx hb dX13_operate_1 (by decide) ?_
  refine lv_iload_n hx hb dX13_operate_3 rfl (lv_at hl 1 rfl) ?_
  refine cu_i (rn_V (n := 2) (As := [.int 21, .int pa]) (rest := []) hx hb hml hown ht hKK hFx hP hD hS hA (c_m_say l dC dI cI cB cZ cJ cR tb s.heap.size ad N v (21 : Int32) pa (show 0 ≤ ((v.1 0 15)).toInt ∧ ((v.1 0 15)).toInt < 16000 from (by omega))) tw_59 tw_60 (by decide +kernel) rfl rfl ⟨Nat.le_of_ble_eq_true rfl, Nat.le_of_ble_eq_true rfl⟩ (List.range (mW ad N cI cZ cJ v).length) (rg_map _) (mW_nd _ _ _ _ _ _) rfl rfl rfl rfl hl.1 rfl (Nat.le_of_ble_eq_true rfl) dX13_operate_4 ⟨Nat.le_of_ble_eq_true rfl, Nat.le_of_ble_eq_true rfl⟩) hP hD hS hA (fun r4 u3 H locs hw2 hP hD hS => ?_)
  obtain ⟨rfl, rfl⟩ := hw2
  have hP : va_P (dC, dI) vwCl (mW ad N cI cZ cJ (wA (wA (wA v 13 (((v.1 0 15)).toNatClampNeg) (21 : Int32)) 14 (((v.1 0 15)).toNatClampNeg) pa) 0 15 (((v.1 0 15)) + (1 : Int32)))) H := hP
  have hD : va_D A (mW ad N cI cZ cJ (wA (wA (wA v 13 (((v.1 0 15)).toNatClampNeg) (21 : Int32)) 14 (((v.1 0 15)).toNatClampNeg) pa) 0 15 (((v.1 0 15)) + (1 : Int32)))) := hD
  refine tp_i (y := ((v.1 0 15))) (rfl) ?_
  have sg5 : SGE (v.1 0 30).toInt (v.1 0 28).toInt (v.1 0 27).toInt (upd (v.1 13) (((v.1 0 15)).toNatClampNeg) (21 : Int32)) (upd (v.1 14) (((v.1 0 15)).toNatClampNeg) pa) (v.1 36) (v.1 38) (v.1 0 15).toNatClampNeg (((v.1 0 15)) + (1 : Int32)).toNatClampNeg (v.1 0 39).toNatClampNeg (v.1 0 39).toNatClampNeg ([false, false]) [false] ((2 : Int)) [] := SGE.say1 (x := (v.1 0 15)) (y := (((v.1 0 15)) + (1 : Int32))) sg1 (show 0 ≤ (v.1 0 15).toInt from (om_2ab3f6b9f5 zo)) (show (((v.1 0 15)) + (1 : Int32)).toInt = (v.1 0 15).toInt + 1 from (by omega)) (show (2 : Int) ≤ (2 : Int) from om_f646c5fae3) (lenle (1 : Int) (by decide) om_68db4d56b8) (ft_op (by decide)) (by decide) (by decide)
  refine W.widen (k := 0) (n := 0) (Nat.le_refl _) (Nat.le_refl _) ?_
  refine lv_pop hx hb dX13_operate_7 rfl ?_
  refine lv_iload_n hx hb dX13_operate_8 rfl (lv_at hl 1 rfl) ?_
  by_cases h6 : pa = 38
  · refine lv_lookup (off := 160) (tgt := 169) hx hb dX13_operate_9 (by decide) (by rw [h6]; decide) (by decide) ?_
    refine lv_aload_n hx hb dX13_operate_169 rfl (lv_at hl 0 rfl) ?_
    refine lv_iconst (v := 0) hx hb dX13_operate_170 (by decide) ?_
    refine lv_bipush (v := 7) hx hb dX13_operate_171 (by decide) ?_
    refine lv_bipush (v := 10) hx hb dX13_operate_173 (by decide) ?_
    refine lv_iconst (v := 5) hx hb dX13_operate_175 (by decide) ?_
    refine lv_bipush (v := 10) hx hb dX13_operate_176 (by decide) ?_
    refine cu_s (mW_nd _ _ _ _ _ _) (rn_S (n := 5) (As := [.int 0, .int 7, .int 10, .int 5, .int 10]) (rest := [.ref (ad 0)]) hx hb hml hown ht hKK hFx hP hD hS hA (c_m_byR l dC dI cI cB cZ cJ cR tb H.size (0 : Int32) (7 : Int32) (10 : Int32) (5 : Int32) (10 : Int32) ) tw_67 tw_68 (by decide +kernel) rfl rfl ⟨Nat.le_of_ble_eq_true rfl, Nat.le_of_ble_eq_true rfl⟩ [] rfl rfl rfl hl.1 rfl (Nat.le_of_ble_eq_true rfl) dX13_operate_178 ⟨Nat.le_of_ble_eq_true rfl, Nat.le_of_ble_eq_true rfl⟩) hP hD hS hA (fun r9 H locs hw7 hP hD hS => ?_)
    refine W.widen (k := 0) (n := 0) (Nat.le_refl _) (Nat.le_refl _) ?_
    refine cu_i (rn_V (n := 1) (As := [.int r9]) (rest := []) hx hb hml hown ht hKK hFx hP hD hS hA (c_m_emit l dC dI cI cB cZ cJ cR tb H.size ad N (wA (wA (wA v 13 (((v.1 0 15)).toNatClampNeg) (21 : Int32)) 14 (((v.1 0 15)).toNatClampNeg) pa) 0 15 (((v.1 0 15)) + (1 : Int32))) r9 (show 0 ≤ ((v.1 0 12)).toInt ∧ ((v.1 0 12)).toInt < 24000 from (by omega))) tw_8 tw_9 (by decide +kernel) rfl rfl ⟨Nat.le_of_ble_eq_true rfl, Nat.le_of_ble_eq_true rfl⟩ (List.range (mW ad N cI cZ cJ (wA (wA (wA v 13 (((v.1 0 15)).toNatClampNeg) (21 : Int32)) 14 (((v.1 0 15)).toNatClampNeg) pa) 0 15 (((v.1 0 15)) + (1 : Int32)))).length) (rg_map _) (mW_nd _ _ _ _ _ _) rfl rfl rfl rfl hl.1 rfl (Nat.le_of_ble_eq_true rfl) dX13_operate_181 ⟨Nat.le_of_ble_eq_true rfl, Nat.le_of_ble_eq_true rfl⟩) hP hD hS hA (fun r12 u11 H locs hw10 hP hD hS => ?_)
    obtain ⟨rfl, rfl⟩ := hw10
    have hP : va_P (dC, dI) vwCl (mW ad N cI cZ cJ (wA (wA (wA (wA (wA v 13 (((v.1 0 15)).toNatClampNeg) (21 : Int32)) 14 (((v.1 0 15)).toNatClampNeg) pa) 0 15 (((v.1 0 15)) + (1 : Int32))) 11 (((v.1 0 12)).toNatClampNeg) r9) 0 12 (((v.1 0 12)) + (1 : Int32)))) H := hP
    have hD : va_D A (mW ad N cI cZ cJ (wA (wA (wA (wA (wA v 13 (((v.1 0 15)).toNatClampNeg) (21 : Int32)) 14 (((v.1 0 15)).toNatClampNeg) pa) 0 15 (((v.1 0 15)) + (1 : Int32))) 11 (((v.1 0 12)).toNatClampNeg) r9) 0 12 (((v.1 0 12)) + (1 : Int32)))) := hD
    refine tp_i (y := ((v.1 0 12))) (rfl) ?_
    refine W.widen (k := 0) (n := 0) (Nat.le_refl _) (Nat.le_refl _) ?_
    refine lv_pop hx hb dX13_operate_184 rfl ?_
    refine lv_goto (tgt := 480) hx hb dX13_operate_185 (by decide) ?_
    exact W.vret hx hb hr (fun t ht9 hW => ⟨⟨(wA (wA (wA (wA (wA v 13 (((v.1 0 15)).toNatClampNeg) (21 : Int32)) 14 (((v.1 0 15)).toNatClampNeg) pa) 0 15 (((v.1 0 15)) + (1 : Int32))) 11 (((v.1 0 12)).toNatClampNeg) r9) 0 12 (((v.1 0 12)) + (1 : Int32))), rfl, ⟨(FG.f (FG.a (FG.f (FG.a (FG.a (FG.rf _) (((v.1 0 15)).toNatClampNeg) (21 : Int32) (by decide) (by decide)) (((v.1 0 15)).toNatClampNeg) pa (by decide) (by decide)) (((v.1 0 15)) + (1 : Int32)) (by decide)) (((v.1 0 12)).toNatClampNeg) r9 (by decide) (by decide)) (((v.1 0 12)) + (1 : Int32)) (by decide)), (show (v.1 0 12).toInt ≤ (((v.1 0 12)) + (1 : Int32)).toInt ∧ (((v.1 0 12)) + (1 : Int32)).toInt ≤ (v.1 0 12).toInt + 3 from (by omega)), (show (((v.1 0 15)) + (1 : Int32)).toInt = (v.1 0 15).toInt + 1 from (by omega)), (show (v.1 0 43).toInt ≤ (v.1 0 43).toInt ∧ (v.1 0 43).toInt ≤ (v.1 0 43).toInt + 1 from om_b79dd2a91d), (fun (j9 : Nat) hj9 => (pk_un3 (a := ((v.1 0 12)).toInt) rfl (by omega) (by omega))), (fun (j9 : Nat) hj9 => (pk_un3 (a := ((v.1 0 15)).toInt) rfl (by omega) (by omega))), (fun (j9 : Nat) hj9 => (pk_un3 (a := ((v.1 0 15)).toInt) rfl (by omega) (by omega))), (AR.o (AR.o (AR.o (AR.o (AR.o a40 (by decide)) (by decide)) (by decide)) (by decide)) (by decide)), (FX.o (FX.o (FX.o (FX.o (FX.o fx (by decide) (by decide)) (by decide) (by decide)) (by decide) (by decide)) (by decide) (by decide)) (by decide) (by decide)), (fun hiv => (IV.o (IV.o (IV.o (IV.o (IV.o hiv (by decide)) (by decide)) (by decide)) (by decide)) (by decide))), (SGE.mono (SGE.setB sg5 rfl) (show (2 : Int) ≤ (2 : Int) from om_f646c5fae3))⟩, by rw [ht9]; exact hP, hD⟩, hS.F ht9⟩) hS.2.2 dX13_operate_480
  ·
    by_cases h13 : pa = 42
    · refine lv_lookup (off := 426) (tgt := 435) hx hb dX13_operate_9 (by decide) (by rw [h13]; decide) (by decide) ?_
      refine lv_aload_n hx hb dX13_operate_435 rfl (lv_at hl 0 rfl) ?_
      refine lv_aload_n hx hb dX13_operate_436 rfl (lv_at hl 0 rfl) ?_
      refine lv_iconst (v := 0) hx hb dX13_operate_437 (by decide) ?_
      refine cu_i (rn_V (n := 1) (As := [.int 0]) (rest := [.ref (ad 0)]) hx hb hml hown ht hKK hFx hP hD hS hA (c_m_emit l dC dI cI cB cZ cJ cR tb H.size ad N (wA (wA (wA v 13 (((v.1 0 15)).toNatClampNeg) (21 : Int32)) 14 (((v.1 0 15)).toNatClampNeg) pa) 0 15 (((v.1 0 15)) + (1 : Int32))) (0 : Int32) (show 0 ≤ ((v.1 0 12)).toInt ∧ ((v.1 0 12)).toInt < 24000 from (by omega))) tw_8 tw_9 (by decide +kernel) rfl rfl ⟨Nat.le_of_ble_eq_true rfl, Nat.le_of_ble_eq_true rfl⟩ (List.range (mW ad N cI cZ cJ (wA (wA (wA v 13 (((v.1 0 15)).toNatClampNeg) (21 : Int32)) 14 (((v.1 0 15)).toNatClampNeg) pa) 0 15 (((v.1 0 15)) + (1 : Int32)))).length) (rg_map _) (mW_nd _ _ _ _ _ _) rfl rfl rfl rfl hl.1 rfl (Nat.le_of_ble_eq_true rfl) dX13_operate_438 ⟨Nat.le_of_ble_eq_true rfl, Nat.le_of_ble_eq_true rfl⟩) hP hD hS hA (fun r16 u15 H locs hw14 hP hD hS => ?_)
      obtain ⟨rfl, rfl⟩ := hw14
      have hP : va_P (dC, dI) vwCl (mW ad N cI cZ cJ (wA (wA (wA (wA (wA v 13 (((v.1 0 15)).toNatClampNeg) (21 : Int32)) 14 (((v.1 0 15)).toNatClampNeg) pa) 0 15 (((v.1 0 15)) + (1 : Int32))) 11 (((v.1 0 12)).toNatClampNeg) (0 : Int32)) 0 12 (((v.1 0 12)) + (1 : Int32)))) H := hP
      have hD : va_D A (mW ad N cI cZ cJ (wA (wA (wA (wA (wA v 13 (((v.1 0 15)).toNatClampNeg) (21 : Int32)) 14 (((v.1 0 15)).toNatClampNeg) pa) 0 15 (((v.1 0 15)) + (1 : Int32))) 11 (((v.1 0 12)).toNatClampNeg) (0 : Int32)) 0 12 (((v.1 0 12)) + (1 : Int32)))) := hD
      refine tp_i (y := ((v.1 0 12))) (rfl) ?_
      refine W.widen (k := 0) (n := 0) (Nat.le_refl _) (Nat.le_refl _) ?_
      refine lv_iconst (v := -1) hx hb dX13_operate_441 (by decide) ?_
      refine lv_iconst (v := 5) hx hb dX13_operate_442 (by decide) ?_
      refine cu_v (rn_V (n := 3) (As := [.int ((v.1 0 12)), .int (-1), .int 5]) (rest := []) hx hb hml hown ht hKK hFx hP hD hS hA (c_m_fix l dC dI cI cB cZ cJ cR tb H.size ad N (wA (wA (wA (wA (wA v 13 (((v.1 0 15)).toNatClampNeg) (21 : Int32)) 14 (((v.1 0 15)).toNatClampNeg) pa) 0 15 (((v.1 0 15)) + (1 : Int32))) 11 (((v.1 0 12)).toNatClampNeg) (0 : Int32)) 0 12 (((v.1 0 12)) + (1 : Int32))) ((v.1 0 12)) (-1 : Int32) (5 : Int32) (show 0 ≤ ((v.1 0 43)).toInt ∧ ((v.1 0 43)).toInt < 24000 from (by omega)) (show 0 ≤ ((v.1 0 12)).toInt ∧ ((v.1 0 12)).toInt < 24000 from (by omega)) (show (5 : Int) = 5 ∨ (0 ≤ (-1 : Int) ∧ (-1 : Int) < 60) from om_9a87860940) (show AR 40 0 23999 (wA (wA (wA (wA (wA v 13 (((v.1 0 15)).toNatClampNeg) (21 : Int32)) 14 (((v.1 0 15)).toNatClampNeg) ((v.1 0 12))) 0 15 (((v.1 0 15)) + (1 : Int32))) 11 (((v.1 0 12)).toNatClampNeg) (0 : Int32)) 0 12 (((v.1 0 12)) + (1 : Int32))) from (AR.o (AR.o (AR.o (AR.o (AR.o a40 (by decide)) (by decide)) (by decide)) (by decide)) (by decide))) (show FX (wA (wA (wA (wA (wA v 13 (((v.1 0 15)).toNatClampNeg) (21 : Int32)) 14 (((v.1 0 15)).toNatClampNeg) ((v.1 0 12))) 0 15 (((v.1 0 15)) + (1 : Int32))) 11 (((v.1 0 12)).toNatClampNeg) (0 : Int32)) 0 12 (((v.1 0 12)) + (1 : Int32))) from (FX.o (FX.o (FX.o (FX.o (FX.o fx (by decide) (by decide)) (by decide) (by decide)) (by decide) (by decide)) (by decide) (by decide)) (by decide) (by decide)))) tw_69 tw_70 (by decide +kernel) rfl rfl ⟨Nat.le_of_ble_eq_true rfl, Nat.le_of_ble_eq_true rfl⟩ (List.range (mW ad N cI cZ cJ (wA (wA (wA (wA (wA v 13 (((v.1 0 15)).toNatClampNeg) (21 : Int32)) 14 (((v.1 0 15)).toNatClampNeg) pa) 0 15 (((v.1 0 15)) + (1 : Int32))) 11 (((v.1 0 12)).toNatClampNeg) (0 : Int32)) 0 12 (((v.1 0 12)) + (1 : Int32)))).length) (rg_map _) (mW_nd _ _ _ _ _ _) rfl rfl rfl rfl hl.1 rfl (Nat.le_of_ble_eq_true rfl) dX13_operate_443 ⟨Nat.le_of_ble_eq_true rfl, Nat.le_of_ble_eq_true rfl⟩) hP hD hS hA (fun u18 H locs hw17 hP hD hS => ?_)
      obtain ⟨fr17, pf17, a4017, fx17, iv17⟩ := hw17
      have pf17 : (u18.1 0 43).toInt = ((v.1 0 43)).toInt + 1 := pf17
      have a4017 : AR 40 0 23999 u18 := a4017
      have fx17 : FX u18 := fx17
      have iv17 : IV (wA (wA (wA (wA (wA v 13 (((v.1 0 15)).toNatClampNeg) (21 : Int32)) 14 (((v.1 0 15)).toNatClampNeg) ((v.1 0 12))) 0 15 (((v.1 0 15)) + (1 : Int32))) 11 (((v.1 0 12)).toNatClampNeg) (0 : Int32)) 0 12 (((v.1 0 12)) + (1 : Int32))) → IV u18 := iv17
      have sg20 : SGE (v.1 0 30).toInt (v.1 0 28).toInt (v.1 0 27).toInt (u18.1 13) (u18.1 14) (u18.1 36) (u18.1 38) (v.1 0 15).toNatClampNeg (u18.1 0 15).toNatClampNeg (v.1 0 39).toNatClampNeg (u18.1 0 39).toNatClampNeg ([false, false]) [false] ((2 : Int)) [] := SGE.to sg5 (fun j9 _ => congrFun (fr17.2.2 13 (by decide)) j9) (fun j9 _ => congrFun (fr17.2.2 14 (by decide)) j9) (fun j9 _ _ => congrFun (fr17.2.2 36 (by decide)) j9) (fun j9 _ _ => congrFun (fr17.2.2 38 (by decide)) j9) (congrArg Int32.toNatClampNeg (fr17.2.1 15 (by decide))) (congrArg Int32.toNatClampNeg (fr17.2.1 39 (by decide))) (Int.le_refl _)
      refine W.widen (k := 0) (n := 0) (Nat.le_refl _) (Nat.le_refl _) ?_
      refine lv_goto (tgt := 480) hx hb dX13_operate_446 (by decide) ?_
      exact W.vret hx hb hr (fun t ht9 hW => ⟨⟨u18, rfl, ⟨(FG.tr (FG.f (FG.a (FG.f (FG.a (FG.a (FG.rf _) (((v.1 0 15)).toNatClampNeg) (21 : Int32) (by decide) (by decide)) (((v.1 0 15)).toNatClampNeg) pa (by decide) (by decide)) (((v.1 0 15)) + (1 : Int32)) (by decide)) (((v.1 0 12)).toNatClampNeg) (0 : Int32) (by decide) (by decide)) (((v.1 0 12)) + (1 : Int32)) (by decide)) (FG.up fr17 (by decide) (by decide))), (show (v.1 0 12).toInt ≤ (u18.1 0 12).toInt ∧ (u18.1 0 12).toInt ≤ (v.1 0 12).toInt + 3 from (by omega)), (show (u18.1 0 15).toInt = (v.1 0 15).toInt + 1 from (by omega)), (show (v.1 0 43).toInt ≤ (u18.1 0 43).toInt ∧ (u18.1 0 43).toInt ≤ (v.1 0 43).toInt + 1 from (by omega)), (fun (j9 : Nat) hj9 => (Eq.trans (congrFun (fr17.2.2 11 (by decide)) j9) (pk_un3 (a := ((v.1 0 12)).toInt) rfl (by omega) (by omega)))), (fun (j9 : Nat) hj9 => (Eq.trans (congrFun (fr17.2.2 13 (by decide)) j9) (pk_un3 (a := ((v.1 0 15)).toInt) rfl (by omega) (by omega)))), (fun (j9 : Nat) hj9 => (Eq.trans (congrFun (fr17.2.2 14 (by decide)) j9) (pk_un3 (a := ((v.1 0 15)).toInt) rfl (by omega) (by omega)))), a4017, fx17, (fun hiv => (iv17 (IV.o (IV.o (IV.o (IV.o (IV.o hiv (by decide)) (by decide)) (by decide)) (by decide)) (by decide)))), (SGE.mono (SGE.setB sg20 rfl) (show (2 : Int) ≤ (2 : Int) from om_f646c5fae3))⟩, by rw [ht9]; exact hP, hD⟩, hS.F ht9⟩) hS.2.2 dX13_operate_480
    ·
      by_cases h21 : pa = 43
      · refine lv_lookup (off := 123) (tgt := 132) hx hb dX13_operate_9 (by decide) (by rw [h21]; decide) (by decide) ?_
        refine lv_aload_n hx hb dX13_operate_132 rfl (lv_at hl 0 rfl) ?_
        refine lv_iconst (v := 0) hx hb dX13_operate_133 (by decide) ?_
        refine lv_iconst (v := 0) hx hb dX13_operate_134 (by decide) ?_
        refine lv_bipush (v := 10) hx hb dX13_operate_135 (by decide) ?_
        refine lv_iconst (v := 5) hx hb dX13_operate_137 (by decide) ?_
        refine lv_bipush (v := 10) hx hb dX13_operate_138 (by decide) ?_
        refine cu_s (mW_nd _ _ _ _ _ _) (rn_S (n := 5) (As := [.int 0, .int 0, .int 10, .int 5, .int 10]) (rest := [.ref (ad 0)]) hx hb hml hown ht hKK hFx hP hD hS hA (c_m_byR l dC dI cI cB cZ cJ cR tb H.size (0 : Int32) (0 : Int32) (10 : Int32) (5 : Int32) (10 : Int32) ) tw_67 tw_68 (by decide +kernel) rfl rfl ⟨Nat.le_of_ble_eq_true rfl, Nat.le_of_ble_eq_true rfl⟩ [] rfl rfl rfl hl.1 rfl (Nat.le_of_ble_eq_true rfl) dX13_operate_140 ⟨Nat.le_of_ble_eq_true rfl, Nat.le_of_ble_eq_true rfl⟩) hP hD hS hA (fun r24 H locs hw22 hP hD hS => ?_)
        refine W.widen (k := 0) (n := 0) (Nat.le_refl _) (Nat.le_refl _) ?_
        refine cu_i (rn_V (n := 1) (As := [.int r24]) (rest := []) hx hb hml hown ht hKK hFx hP hD hS hA (c_m_emit l dC dI cI cB cZ cJ cR tb H.size ad N (wA (wA (wA v 13 (((v.1 0 15)).toNatClampNeg) (21 : Int32)) 14 (((v.1 0 15)).toNatClampNeg) pa) 0 15 (((v.1 0 15)) + (1 : Int32))) r24 (show 0 ≤ ((v.1 0 12)).toInt ∧ ((v.1 0 12)).toInt < 24000 from (by omega))) tw_8 tw_9 (by decide +kernel) rfl rfl ⟨Nat.le_of_ble_eq_true rfl, Nat.le_of_ble_eq_true rfl⟩ (List.range (mW ad N cI cZ cJ (wA (wA (wA v 13 (((v.1 0 15)).toNatClampNeg) (21 : Int32)) 14 (((v.1 0 15)).toNatClampNeg) pa) 0 15 (((v.1 0 15)) + (1 : Int32)))).length) (rg_map _) (mW_nd _ _ _ _ _ _) rfl rfl rfl rfl hl.1 rfl (Nat.le_of_ble_eq_true rfl) dX13_operate_143 ⟨Nat.le_of_ble_eq_true rfl, Nat.le_of_ble_eq_true rfl⟩) hP hD hS hA (fun r27 u26 H locs hw25 hP hD hS => ?_)
        obtain ⟨rfl, rfl⟩ := hw25
        have hP : va_P (dC, dI) vwCl (mW ad N cI cZ cJ (wA (wA (wA (wA (wA v 13 (((v.1 0 15)).toNatClampNeg) (21 : Int32)) 14 (((v.1 0 15)).toNatClampNeg) pa) 0 15 (((v.1 0 15)) + (1 : Int32))) 11 (((v.1 0 12)).toNatClampNeg) r24) 0 12 (((v.1 0 12)) + (1 : Int32)))) H := hP
        have hD : va_D A (mW ad N cI cZ cJ (wA (wA (wA (wA (wA v 13 (((v.1 0 15)).toNatClampNeg) (21 : Int32)) 14 (((v.1 0 15)).toNatClampNeg) pa) 0 15 (((v.1 0 15)) + (1 : Int32))) 11 (((v.1 0 12)).toNatClampNeg) r24) 0 12 (((v.1 0 12)) + (1 : Int32)))) := hD
        refine tp_i (y := ((v.1 0 12))) (rfl) ?_
        refine W.widen (k := 0) (n := 0) (Nat.le_refl _) (Nat.le_refl _) ?_
        refine lv_pop hx hb dX13_operate_146 rfl ?_
        refine lv_goto (tgt := 480) hx hb dX13_operate_147 (by decide) ?_
        exact W.vret hx hb hr (fun t ht9 hW => ⟨⟨(wA (wA (wA (wA (wA v 13 (((v.1 0 15)).toNatClampNeg) (21 : Int32)) 14 (((v.1 0 15)).toNatClampNeg) pa) 0 15 (((v.1 0 15)) + (1 : Int32))) 11 (((v.1 0 12)).toNatClampNeg) r24) 0 12 (((v.1 0 12)) + (1 : Int32))), rfl, ⟨(FG.f (FG.a (FG.f (FG.a (FG.a (FG.rf _) (((v.1 0 15)).toNatClampNeg) (21 : Int32) (by decide) (by decide)) (((v.1 0 15)).toNatClampNeg) pa (by decide) (by decide)) (((v.1 0 15)) + (1 : Int32)) (by decide)) (((v.1 0 12)).toNatClampNeg) r24 (by decide) (by decide)) (((v.1 0 12)) + (1 : Int32)) (by decide)), (show (v.1 0 12).toInt ≤ (((v.1 0 12)) + (1 : Int32)).toInt ∧ (((v.1 0 12)) + (1 : Int32)).toInt ≤ (v.1 0 12).toInt + 3 from (by omega)), (show (((v.1 0 15)) + (1 : Int32)).toInt = (v.1 0 15).toInt + 1 from (by omega)), (show (v.1 0 43).toInt ≤ (v.1 0 43).toInt ∧ (v.1 0 43).toInt ≤ (v.1 0 43).toInt + 1 from om_b79dd2a91d), (fun (j9 : Nat) hj9 => (pk_un3 (a := ((v.1 0 12)).toInt) rfl (by omega) (by omega))), (fun (j9 : Nat) hj9 => (pk_un3 (a := ((v.1 0 15)).toInt) rfl (by omega) (by omega))), (fun (j9 : Nat) hj9 => (pk_un3 (a := ((v.1 0 15)).toInt) rfl (by omega) (by omega))), (AR.o (AR.o (AR.o (AR.o (AR.o a40 (by decide)) (by decide)) (by decide)) (by decide)) (by decide)), (FX.o (FX.o (FX.o (FX.o (FX.o fx (by decide) (by decide)) (by decide) (by decide)) (by decide) (by decide)) (by decide) (by decide)) (by decide) (by decide)), (fun hiv => (IV.o (IV.o (IV.o (IV.o (IV.o hiv (by decide)) (by decide)) (by decide)) (by decide)) (by decide))), (SGE.mono (SGE.setB sg5 rfl) (show (2 : Int) ≤ (2 : Int) from om_f646c5fae3))⟩, by rw [ht9]; exact hP, hD⟩, hS.F ht9⟩) hS.2.2 dX13_operate_480
      ·
        by_cases h28 : pa = 45
        · refine lv_lookup (off := 141) (tgt := 150) hx hb dX13_operate_9 (by decide) (by rw [h28]; decide) (by decide) ?_
          refine lv_aload_n hx hb dX13_operate_150 rfl (lv_at hl 0 rfl) ?_
          refine lv_bipush (v := 32) hx hb dX13_operate_151 (by decide) ?_
          refine lv_iconst (v := 0) hx hb dX13_operate_153 (by decide) ?_
          refine lv_bipush (v := 10) hx hb dX13_operate_154 (by decide) ?_
          refine lv_iconst (v := 5) hx hb dX13_operate_156 (by decide) ?_
          refine lv_bipush (v := 10) hx hb dX13_operate_157 (by decide) ?_
          refine cu_s (mW_nd _ _ _ _ _ _) (rn_S (n := 5) (As := [.int 32, .int 0, .int 10, .int 5, .int 10]) (rest := [.ref (ad 0)]) hx hb hml hown ht hKK hFx hP hD hS hA (c_m_byR l dC dI cI cB cZ cJ cR tb H.size (32 : Int32) (0 : Int32) (10 : Int32) (5 : Int32) (10 : Int32) ) tw_67 tw_68 (by decide +kernel) rfl rfl ⟨Nat.le_of_ble_eq_true rfl, Nat.le_of_ble_eq_true rfl⟩ [] rfl rfl rfl hl.1 rfl (Nat.le_of_ble_eq_true rfl) dX13_operate_159 ⟨Nat.le_of_ble_eq_true rfl, Nat.le_of_ble_eq_true rfl⟩) hP hD hS hA (fun r31 H locs hw29 hP hD hS => ?_)
          refine W.widen (k := 0) (n := 0) (Nat.le_refl _) (Nat.le_refl _) ?_
          refine cu_i (rn_V (n := 1) (As := [.int r31]) (rest := []) hx hb hml hown ht hKK hFx hP hD hS hA (c_m_emit l dC dI cI cB cZ cJ cR tb H.size ad N (wA (wA (wA v 13 (((v.1 0 15)).toNatClampNeg) (21 : Int32)) 14 (((v.1 0 15)).toNatClampNeg) pa) 0 15 (((v.1 0 15)) + (1 : Int32))) r31 (show 0 ≤ ((v.1 0 12)).toInt ∧ ((v.1 0 12)).toInt < 24000 from (by omega))) tw_8 tw_9 (by decide +kernel) rfl rfl ⟨Nat.le_of_ble_eq_true rfl, Nat.le_of_ble_eq_true rfl⟩ (List.range (mW ad N cI cZ cJ (wA (wA (wA v 13 (((v.1 0 15)).toNatClampNeg) (21 : Int32)) 14 (((v.1 0 15)).toNatClampNeg) pa) 0 15 (((v.1 0 15)) + (1 : Int32)))).length) (rg_map _) (mW_nd _ _ _ _ _ _) rfl rfl rfl rfl hl.1 rfl (Nat.le_of_ble_eq_true rfl) dX13_operate_162 ⟨Nat.le_of_ble_eq_true rfl, Nat.le_of_ble_eq_true rfl⟩) hP hD hS hA (fun r34 u33 H locs hw32 hP hD hS => ?_)
          obtain ⟨rfl, rfl⟩ := hw32
          have hP : va_P (dC, dI) vwCl (mW ad N cI cZ cJ (wA (wA (wA (wA (wA v 13 (((v.1 0 15)).toNatClampNeg) (21 : Int32)) 14 (((v.1 0 15)).toNatClampNeg) pa) 0 15 (((v.1 0 15)) + (1 : Int32))) 11 (((v.1 0 12)).toNatClampNeg) r31) 0 12 (((v.1 0 12)) + (1 : Int32)))) H := hP
          have hD : va_D A (mW ad N cI cZ cJ (wA (wA (wA (wA (wA v 13 (((v.1 0 15)).toNatClampNeg) (21 : Int32)) 14 (((v.1 0 15)).toNatClampNeg) pa) 0 15 (((v.1 0 15)) + (1 : Int32))) 11 (((v.1 0 12)).toNatClampNeg) r31) 0 12 (((v.1 0 12)) + (1 : Int32)))) := hD
          refine tp_i (y := ((v.1 0 12))) (rfl) ?_
          refine W.widen (k := 0) (n := 0) (Nat.le_refl _) (Nat.le_refl _) ?_
          refine lv_pop hx hb dX13_operate_165 rfl ?_
          refine lv_goto (tgt := 480) hx hb dX13_operate_166 (by decide) ?_
          exact W.vret hx hb hr (fun t ht9 hW => ⟨⟨(wA (wA (wA (wA (wA v 13 (((v.1 0 15)).toNatClampNeg) (21 : Int32)) 14 (((v.1 0 15)).toNatClampNeg) pa) 0 15 (((v.1 0 15)) + (1 : Int32))) 11 (((v.1 0 12)).toNatClampNeg) r31) 0 12 (((v.1 0 12)) + (1 : Int32))), rfl, ⟨(FG.f (FG.a (FG.f (FG.a (FG.a (FG.rf _) (((v.1 0 15)).toNatClampNeg) (21 : Int32) (by decide) (by decide)) (((v.1 0 15)).toNatClampNeg) pa (by decide) (by decide)) (((v.1 0 15)) + (1 : Int32)) (by decide)) (((v.1 0 12)).toNatClampNeg) r31 (by decide) (by decide)) (((v.1 0 12)) + (1 : Int32)) (by decide)), (show (v.1 0 12).toInt ≤ (((v.1 0 12)) + (1 : Int32)).toInt ∧ (((v.1 0 12)) + (1 : Int32)).toInt ≤ (v.1 0 12).toInt + 3 from (by omega)), (show (((v.1 0 15)) + (1 : Int32)).toInt = (v.1 0 15).toInt + 1 from (by omega)), (show (v.1 0 43).toInt ≤ (v.1 0 43).toInt ∧ (v.1 0 43).toInt ≤ (v.1 0 43).toInt + 1 from om_b79dd2a91d), (fun (j9 : Nat) hj9 => (pk_un3 (a := ((v.1 0 12)).toInt) rfl (by omega) (by omega))), (fun (j9 : Nat) hj9 => (pk_un3 (a := ((v.1 0 15)).toInt) rfl (by omega) (by omega))), (fun (j9 : Nat) hj9 => (pk_un3 (a := ((v.1 0 15)).toInt) rfl (by omega) (by omega))), (AR.o (AR.o (AR.o (AR.o (AR.o a40 (by decide)) (by decide)) (by decide)) (by decide)) (by decide)), (FX.o (FX.o (FX.o (FX.o (FX.o fx (by decide) (by decide)) (by decide) (by decide)) (by decide) (by decide)) (by decide) (by decide)) (by decide) (by decide)), (fun hiv => (IV.o (IV.o (IV.o (IV.o (IV.o hiv (by decide)) (by decide)) (by decide)) (by decide)) (by decide))), (SGE.mono (SGE.setB sg5 rfl) (show (2 : Int) ≤ (2 : Int) from om_f646c5fae3))⟩, by rw [ht9]; exact hP, hD⟩, hS.F ht9⟩) hS.2.2 dX13_operate_480
        ·
          by_cases h35 : pa = 60
          · refine lv_lookup (off := 253) (tgt := 262) hx hb dX13_operate_9 (by decide) (by rw [h35]; decide) (by decide) ?_
            refine lv_aload_n hx hb dX13_operate_262 rfl (lv_at hl 0 rfl) ?_
            refine lv_iconst (v := 0) hx hb dX13_operate_263 (by decide) ?_
            refine lv_iconst (v := 2) hx hb dX13_operate_264 (by decide) ?_
            refine lv_bipush (v := 10) hx hb dX13_operate_265 (by decide) ?_
            refine lv_iconst (v := 5) hx hb dX13_operate_267 (by decide) ?_
            refine lv_bipush (v := 10) hx hb dX13_operate_268 (by decide) ?_
            refine cu_s (mW_nd _ _ _ _ _ _) (rn_S (n := 5) (As := [.int 0, .int 2, .int 10, .int 5, .int 10]) (rest := [.ref (ad 0)]) hx hb hml hown ht hKK hFx hP hD hS hA (c_m_byR l dC dI cI cB cZ cJ cR tb H.size (0 : Int32) (2 : Int32) (10 : Int32) (5 : Int32) (10 : Int32) ) tw_67 tw_68 (by decide +kernel) rfl rfl ⟨Nat.le_of_ble_eq_true rfl, Nat.le_of_ble_eq_true rfl⟩ [] rfl rfl rfl hl.1 rfl (Nat.le_of_ble_eq_true rfl) dX13_operate_270 ⟨Nat.le_of_ble_eq_true rfl, Nat.le_of_ble_eq_true rfl⟩) hP hD hS hA (fun r38 H locs hw36 hP hD hS => ?_)
            refine W.widen (k := 0) (n := 0) (Nat.le_refl _) (Nat.le_refl _) ?_
            refine cu_i (rn_V (n := 1) (As := [.int r38]) (rest := []) hx hb hml hown ht hKK hFx hP hD hS hA (c_m_emit l dC dI cI cB cZ cJ cR tb H.size ad N (wA (wA (wA v 13 (((v.1 0 15)).toNatClampNeg) (21 : Int32)) 14 (((v.1 0 15)).toNatClampNeg) pa) 0 15 (((v.1 0 15)) + (1 : Int32))) r38 (show 0 ≤ ((v.1 0 12)).toInt ∧ ((v.1 0 12)).toInt < 24000 from (by omega))) tw_8 tw_9 (by decide +kernel) rfl rfl ⟨Nat.le_of_ble_eq_true rfl, Nat.le_of_ble_eq_true rfl⟩ (List.range (mW ad N cI cZ cJ (wA (wA (wA v 13 (((v.1 0 15)).toNatClampNeg) (21 : Int32)) 14 (((v.1 0 15)).toNatClampNeg) pa) 0 15 (((v.1 0 15)) + (1 : Int32)))).length) (rg_map _) (mW_nd _ _ _ _ _ _) rfl rfl rfl rfl hl.1 rfl (Nat.le_of_ble_eq_true rfl) dX13_operate_273 ⟨Nat.le_of_ble_eq_true rfl, Nat.le_of_ble_eq_true rfl⟩) hP hD hS hA (fun r41 u40 H locs hw39 hP hD hS => ?_)
            obtain ⟨rfl, rfl⟩ := hw39
            have hP : va_P (dC, dI) vwCl (mW ad N cI cZ cJ (wA (wA (wA (wA (wA v 13 (((v.1 0 15)).toNatClampNeg) (21 : Int32)) 14 (((v.1 0 15)).toNatClampNeg) pa) 0 15 (((v.1 0 15)) + (1 : Int32))) 11 (((v.1 0 12)).toNatClampNeg) r38) 0 12 (((v.1 0 12)) + (1 : Int32)))) H := hP
            have hD : va_D A (mW ad N cI cZ cJ (wA (wA (wA (wA (wA v 13 (((v.1 0 15)).toNatClampNeg) (21 : Int32)) 14 (((v.1 0 15)).toNatClampNeg) pa) 0 15 (((v.1 0 15)) + (1 : Int32))) 11 (((v.1 0 12)).toNatClampNeg) r38) 0 12 (((v.1 0 12)) + (1 : Int32)))) := hD
            refine tp_i (y := ((v.1 0 12))) (rfl) ?_
            refine W.widen (k := 0) (n := 0) (Nat.le_refl _) (Nat.le_refl _) ?_
            refine lv_pop hx hb dX13_operate_276 rfl ?_
            refine lv_goto (tgt := 480) hx hb dX13_operate_277 (by decide) ?_
            exact W.vret hx hb hr (fun t ht9 hW => ⟨⟨(wA (wA (wA (wA (wA v 13 (((v.1 0 15)).toNatClampNeg) (21 : Int32)) 14 (((v.1 0 15)).toNatClampNeg) pa) 0 15 (((v.1 0 15)) + (1 : Int32))) 11 (((v.1 0 12)).toNatClampNeg) r38) 0 12 (((v.1 0 12)) + (1 : Int32))), rfl, ⟨(FG.f (FG.a (FG.f (FG.a (FG.a (FG.rf _) (((v.1 0 15)).toNatClampNeg) (21 : Int32) (by decide) (by decide)) (((v.1 0 15)).toNatClampNeg) pa (by decide) (by decide)) (((v.1 0 15)) + (1 : Int32)) (by decide)) (((v.1 0 12)).toNatClampNeg) r38 (by decide) (by decide)) (((v.1 0 12)) + (1 : Int32)) (by decide)), (show (v.1 0 12).toInt ≤ (((v.1 0 12)) + (1 : Int32)).toInt ∧ (((v.1 0 12)) + (1 : Int32)).toInt ≤ (v.1 0 12).toInt + 3 from (by omega)), (show (((v.1 0 15)) + (1 : Int32)).toInt = (v.1 0 15).toInt + 1 from (by omega)), (show (v.1 0 43).toInt ≤ (v.1 0 43).toInt ∧ (v.1 0 43).toInt ≤ (v.1 0 43).toInt + 1 from om_b79dd2a91d), (fun (j9 : Nat) hj9 => (pk_un3 (a := ((v.1 0 12)).toInt) rfl (by omega) (by omega))), (fun (j9 : Nat) hj9 => (pk_un3 (a := ((v.1 0 15)).toInt) rfl (by omega) (by omega))), (fun (j9 : Nat) hj9 => (pk_un3 (a := ((v.1 0 15)).toInt) rfl (by omega) (by omega))), (AR.o (AR.o (AR.o (AR.o (AR.o a40 (by decide)) (by decide)) (by decide)) (by decide)) (by decide)), (FX.o (FX.o (FX.o (FX.o (FX.o fx (by decide) (by decide)) (by decide) (by decide)) (by decide) (by decide)) (by decide) (by decide)) (by decide) (by decide)), (fun hiv => (IV.o (IV.o (IV.o (IV.o (IV.o hiv (by decide)) (by decide)) (by decide)) (by decide)) (by decide))), (SGE.mono (SGE.setB sg5 rfl) (show (2 : Int) ≤ (2 : Int) from om_f646c5fae3))⟩, by rw [ht9]; exact hP, hD⟩, hS.F ht9⟩) hS.2.2 dX13_operate_480
          ·
            by_cases h42 : pa = 62
            · refine lv_lookup (off := 271) (tgt := 280) hx hb dX13_operate_9 (by decide) (by rw [h42]; decide) (by decide) ?_
              refine lv_aload_n hx hb dX13_operate_280 rfl (lv_at hl 0 rfl) ?_
              refine lv_iconst (v := 0) hx hb dX13_operate_281 (by decide) ?_
              refine lv_iconst (v := 2) hx hb dX13_operate_282 (by decide) ?_
              refine lv_bipush (v := 10) hx hb dX13_operate_283 (by decide) ?_
              refine lv_bipush (v := 10) hx hb dX13_operate_285 (by decide) ?_
              refine lv_iconst (v := 5) hx hb dX13_operate_287 (by decide) ?_
              refine cu_s (mW_nd _ _ _ _ _ _) (rn_S (n := 5) (As := [.int 0, .int 2, .int 10, .int 10, .int 5]) (rest := [.ref (ad 0)]) hx hb hml hown ht hKK hFx hP hD hS hA (c_m_byR l dC dI cI cB cZ cJ cR tb H.size (0 : Int32) (2 : Int32) (10 : Int32) (10 : Int32) (5 : Int32) ) tw_67 tw_68 (by decide +kernel) rfl rfl ⟨Nat.le_of_ble_eq_true rfl, Nat.le_of_ble_eq_true rfl⟩ [] rfl rfl rfl hl.1 rfl (Nat.le_of_ble_eq_true rfl) dX13_operate_288 ⟨Nat.le_of_ble_eq_true rfl, Nat.le_of_ble_eq_true rfl⟩) hP hD hS hA (fun r45 H locs hw43 hP hD hS => ?_)
              refine W.widen (k := 0) (n := 0) (Nat.le_refl _) (Nat.le_refl _) ?_
              refine cu_i (rn_V (n := 1) (As := [.int r45]) (rest := []) hx hb hml hown ht hKK hFx hP hD hS hA (c_m_emit l dC dI cI cB cZ cJ cR tb H.size ad N (wA (wA (wA v 13 (((v.1 0 15)).toNatClampNeg) (21 : Int32)) 14 (((v.1 0 15)).toNatClampNeg) pa) 0 15 (((v.1 0 15)) + (1 : Int32))) r45 (show 0 ≤ ((v.1 0 12)).toInt ∧ ((v.1 0 12)).toInt < 24000 from (by omega))) tw_8 tw_9 (by decide +kernel) rfl rfl ⟨Nat.le_of_ble_eq_true rfl, Nat.le_of_ble_eq_true rfl⟩ (List.range (mW ad N cI cZ cJ (wA (wA (wA v 13 (((v.1 0 15)).toNatClampNeg) (21 : Int32)) 14 (((v.1 0 15)).toNatClampNeg) pa) 0 15 (((v.1 0 15)) + (1 : Int32)))).length) (rg_map _) (mW_nd _ _ _ _ _ _) rfl rfl rfl rfl hl.1 rfl (Nat.le_of_ble_eq_true rfl) dX13_operate_291 ⟨Nat.le_of_ble_eq_true rfl, Nat.le_of_ble_eq_true rfl⟩) hP hD hS hA (fun r48 u47 H locs hw46 hP hD hS => ?_)
              obtain ⟨rfl, rfl⟩ := hw46
              have hP : va_P (dC, dI) vwCl (mW ad N cI cZ cJ (wA (wA (wA (wA (wA v 13 (((v.1 0 15)).toNatClampNeg) (21 : Int32)) 14 (((v.1 0 15)).toNatClampNeg) pa) 0 15 (((v.1 0 15)) + (1 : Int32))) 11 (((v.1 0 12)).toNatClampNeg) r45) 0 12 (((v.1 0 12)) + (1 : Int32)))) H := hP
              have hD : va_D A (mW ad N cI cZ cJ (wA (wA (wA (wA (wA v 13 (((v.1 0 15)).toNatClampNeg) (21 : Int32)) 14 (((v.1 0 15)).toNatClampNeg) pa) 0 15 (((v.1 0 15)) + (1 : Int32))) 11 (((v.1 0 12)).toNatClampNeg) r45) 0 12 (((v.1 0 12)) + (1 : Int32)))) := hD
              refine tp_i (y := ((v.1 0 12))) (rfl) ?_
              refine W.widen (k := 0) (n := 0) (Nat.le_refl _) (Nat.le_refl _) ?_
              refine lv_pop hx hb dX13_operate_294 rfl ?_
              refine lv_goto (tgt := 480) hx hb dX13_operate_295 (by decide) ?_
              exact W.vret hx hb hr (fun t ht9 hW => ⟨⟨(wA (wA (wA (wA (wA v 13 (((v.1 0 15)).toNatClampNeg) (21 : Int32)) 14 (((v.1 0 15)).toNatClampNeg) pa) 0 15 (((v.1 0 15)) + (1 : Int32))) 11 (((v.1 0 12)).toNatClampNeg) r45) 0 12 (((v.1 0 12)) + (1 : Int32))), rfl, ⟨(FG.f (FG.a (FG.f (FG.a (FG.a (FG.rf _) (((v.1 0 15)).toNatClampNeg) (21 : Int32) (by decide) (by decide)) (((v.1 0 15)).toNatClampNeg) pa (by decide) (by decide)) (((v.1 0 15)) + (1 : Int32)) (by decide)) (((v.1 0 12)).toNatClampNeg) r45 (by decide) (by decide)) (((v.1 0 12)) + (1 : Int32)) (by decide)), (show (v.1 0 12).toInt ≤ (((v.1 0 12)) + (1 : Int32)).toInt ∧ (((v.1 0 12)) + (1 : Int32)).toInt ≤ (v.1 0 12).toInt + 3 from (by omega)), (show (((v.1 0 15)) + (1 : Int32)).toInt = (v.1 0 15).toInt + 1 from (by omega)), (show (v.1 0 43).toInt ≤ (v.1 0 43).toInt ∧ (v.1 0 43).toInt ≤ (v.1 0 43).toInt + 1 from om_b79dd2a91d), (fun (j9 : Nat) hj9 => (pk_un3 (a := ((v.1 0 12)).toInt) rfl (by omega) (by omega))), (fun (j9 : Nat) hj9 => (pk_un3 (a := ((v.1 0 15)).toInt) rfl (by omega) (by omega))), (fun (j9 : Nat) hj9 => (pk_un3 (a := ((v.1 0 15)).toInt) rfl (by omega) (by omega))), (AR.o (AR.o (AR.o (AR.o (AR.o a40 (by decide)) (by decide)) (by decide)) (by decide)) (by decide)), (FX.o (FX.o (FX.o (FX.o (FX.o fx (by decide) (by decide)) (by decide) (by decide)) (by decide) (by decide)) (by decide) (by decide)) (by decide) (by decide)), (fun hiv => (IV.o (IV.o (IV.o (IV.o (IV.o hiv (by decide)) (by decide)) (by decide)) (by decide)) (by decide))), (SGE.mono (SGE.setB sg5 rfl) (show (2 : Int) ≤ (2 : Int) from om_f646c5fae3))⟩, by rw [ht9]; exact hP, hD⟩, hS.F ht9⟩) hS.2.2 dX13_operate_480
            ·
              by_cases h49 : pa = 94
              · refine lv_lookup (off := 198) (tgt := 207) hx hb dX13_operate_9 (by decide) (by rw [h49]; decide) (by decide) ?_
                refine lv_aload_n hx hb dX13_operate_207 rfl (lv_at hl 0 rfl) ?_
                refine lv_iconst (v := 0) hx hb dX13_operate_208 (by decide) ?_
                refine lv_iconst (v := 4) hx hb dX13_operate_209 (by decide) ?_
                refine lv_bipush (v := 10) hx hb dX13_operate_210 (by decide) ?_
                refine lv_iconst (v := 5) hx hb dX13_operate_212 (by decide) ?_
                refine lv_bipush (v := 10) hx hb dX13_operate_213 (by decide) ?_
                refine cu_s (mW_nd _ _ _ _ _ _) (rn_S (n := 5) (As := [.int 0, .int 4, .int 10, .int 5, .int 10]) (rest := [.ref (ad 0)]) hx hb hml hown ht hKK hFx hP hD hS hA (c_m_byR l dC dI cI cB cZ cJ cR tb H.size (0 : Int32) (4 : Int32) (10 : Int32) (5 : Int32) (10 : Int32) ) tw_67 tw_68 (by decide +kernel) rfl rfl ⟨Nat.le_of_ble_eq_true rfl, Nat.le_of_ble_eq_true rfl⟩ [] rfl rfl rfl hl.1 rfl (Nat.le_of_ble_eq_true rfl) dX13_operate_215 ⟨Nat.le_of_ble_eq_true rfl, Nat.le_of_ble_eq_true rfl⟩) hP hD hS hA (fun r52 H locs hw50 hP hD hS => ?_)
                refine W.widen (k := 0) (n := 0) (Nat.le_refl _) (Nat.le_refl _) ?_
                refine cu_i (rn_V (n := 1) (As := [.int r52]) (rest := []) hx hb hml hown ht hKK hFx hP hD hS hA (c_m_emit l dC dI cI cB cZ cJ cR tb H.size ad N (wA (wA (wA v 13 (((v.1 0 15)).toNatClampNeg) (21 : Int32)) 14 (((v.1 0 15)).toNatClampNeg) pa) 0 15 (((v.1 0 15)) + (1 : Int32))) r52 (show 0 ≤ ((v.1 0 12)).toInt ∧ ((v.1 0 12)).toInt < 24000 from (by omega))) tw_8 tw_9 (by decide +kernel) rfl rfl ⟨Nat.le_of_ble_eq_true rfl, Nat.le_of_ble_eq_true rfl⟩ (List.range (mW ad N cI cZ cJ (wA (wA (wA v 13 (((v.1 0 15)).toNatClampNeg) (21 : Int32)) 14 (((v.1 0 15)).toNatClampNeg) pa) 0 15 (((v.1 0 15)) + (1 : Int32)))).length) (rg_map _) (mW_nd _ _ _ _ _ _) rfl rfl rfl rfl hl.1 rfl (Nat.le_of_ble_eq_true rfl) dX13_operate_218 ⟨Nat.le_of_ble_eq_true rfl, Nat.le_of_ble_eq_true rfl⟩) hP hD hS hA (fun r55 u54 H locs hw53 hP hD hS => ?_)
                obtain ⟨rfl, rfl⟩ := hw53
                have hP : va_P (dC, dI) vwCl (mW ad N cI cZ cJ (wA (wA (wA (wA (wA v 13 (((v.1 0 15)).toNatClampNeg) (21 : Int32)) 14 (((v.1 0 15)).toNatClampNeg) pa) 0 15 (((v.1 0 15)) + (1 : Int32))) 11 (((v.1 0 12)).toNatClampNeg) r52) 0 12 (((v.1 0 12)) + (1 : Int32)))) H := hP
                have hD : va_D A (mW ad N cI cZ cJ (wA (wA (wA (wA (wA v 13 (((v.1 0 15)).toNatClampNeg) (21 : Int32)) 14 (((v.1 0 15)).toNatClampNeg) pa) 0 15 (((v.1 0 15)) + (1 : Int32))) 11 (((v.1 0 12)).toNatClampNeg) r52) 0 12 (((v.1 0 12)) + (1 : Int32)))) := hD
                refine tp_i (y := ((v.1 0 12))) (rfl) ?_
                refine W.widen (k := 0) (n := 0) (Nat.le_refl _) (Nat.le_refl _) ?_
                refine lv_pop hx hb dX13_operate_221 rfl ?_
                refine lv_goto (tgt := 480) hx hb dX13_operate_222 (by decide) ?_
                exact W.vret hx hb hr (fun t ht9 hW => ⟨⟨(wA (wA (wA (wA (wA v 13 (((v.1 0 15)).toNatClampNeg) (21 : Int32)) 14 (((v.1 0 15)).toNatClampNeg) pa) 0 15 (((v.1 0 15)) + (1 : Int32))) 11 (((v.1 0 12)).toNatClampNeg) r52) 0 12 (((v.1 0 12)) + (1 : Int32))), rfl, ⟨(FG.f (FG.a (FG.f (FG.a (FG.a (FG.rf _) (((v.1 0 15)).toNatClampNeg) (21 : Int32) (by decide) (by decide)) (((v.1 0 15)).toNatClampNeg) pa (by decide) (by decide)) (((v.1 0 15)) + (1 : Int32)) (by decide)) (((v.1 0 12)).toNatClampNeg) r52 (by decide) (by decide)) (((v.1 0 12)) + (1 : Int32)) (by decide)), (show (v.1 0 12).toInt ≤ (((v.1 0 12)) + (1 : Int32)).toInt ∧ (((v.1 0 12)) + (1 : Int32)).toInt ≤ (v.1 0 12).toInt + 3 from (by omega)), (show (((v.1 0 15)) + (1 : Int32)).toInt = (v.1 0 15).toInt + 1 from (by omega)), (show (v.1 0 43).toInt ≤ (v.1 0 43).toInt ∧ (v.1 0 43).toInt ≤ (v.1 0 43).toInt + 1 from om_b79dd2a91d), (fun (j9 : Nat) hj9 => (pk_un3 (a := ((v.1 0 12)).toInt) rfl (by omega) (by omega))), (fun (j9 : Nat) hj9 => (pk_un3 (a := ((v.1 0 15)).toInt) rfl (by omega) (by omega))), (fun (j9 : Nat) hj9 => (pk_un3 (a := ((v.1 0 15)).toInt) rfl (by omega) (by omega))), (AR.o (AR.o (AR.o (AR.o (AR.o a40 (by decide)) (by decide)) (by decide)) (by decide)) (by decide)), (FX.o (FX.o (FX.o (FX.o (FX.o fx (by decide) (by decide)) (by decide) (by decide)) (by decide) (by decide)) (by decide) (by decide)) (by decide) (by decide)), (fun hiv => (IV.o (IV.o (IV.o (IV.o (IV.o hiv (by decide)) (by decide)) (by decide)) (by decide)) (by decide))), (SGE.mono (SGE.setB sg5 rfl) (show (2 : Int) ≤ (2 : Int) from om_f646c5fae3))⟩, by rw [ht9]; exact hP, hD⟩, hS.F ht9⟩) hS.2.2 dX13_operate_480
              ·
                by_cases h56 : pa = 124
                · refine lv_lookup (off := 179) (tgt := 188) hx hb dX13_operate_9 (by decide) (by rw [h56]; decide) (by decide) ?_
                  refine lv_aload_n hx hb dX13_operate_188 rfl (lv_at hl 0 rfl) ?_
                  refine lv_iconst (v := 0) hx hb dX13_operate_189 (by decide) ?_
                  refine lv_bipush (v := 6) hx hb dX13_operate_190 (by decide) ?_
                  refine lv_bipush (v := 10) hx hb dX13_operate_192 (by decide) ?_
                  refine lv_iconst (v := 5) hx hb dX13_operate_194 (by decide) ?_
                  refine lv_bipush (v := 10) hx hb dX13_operate_195 (by decide) ?_
                  refine cu_s (mW_nd _ _ _ _ _ _) (rn_S (n := 5) (As := [.int 0, .int 6, .int 10, .int 5, .int 10]) (rest := [.ref (ad 0)]) hx hb hml hown ht hKK hFx hP hD hS hA (c_m_byR l dC dI cI cB cZ cJ cR tb H.size (0 : Int32) (6 : Int32) (10 : Int32) (5 : Int32) (10 : Int32) ) tw_67 tw_68 (by decide +kernel) rfl rfl ⟨Nat.le_of_ble_eq_true rfl, Nat.le_of_ble_eq_true rfl⟩ [] rfl rfl rfl hl.1 rfl (Nat.le_of_ble_eq_true rfl) dX13_operate_197 ⟨Nat.le_of_ble_eq_true rfl, Nat.le_of_ble_eq_true rfl⟩) hP hD hS hA (fun r59 H locs hw57 hP hD hS => ?_)
                  refine W.widen (k := 0) (n := 0) (Nat.le_refl _) (Nat.le_refl _) ?_
                  refine cu_i (rn_V (n := 1) (As := [.int r59]) (rest := []) hx hb hml hown ht hKK hFx hP hD hS hA (c_m_emit l dC dI cI cB cZ cJ cR tb H.size ad N (wA (wA (wA v 13 (((v.1 0 15)).toNatClampNeg) (21 : Int32)) 14 (((v.1 0 15)).toNatClampNeg) pa) 0 15 (((v.1 0 15)) + (1 : Int32))) r59 (show 0 ≤ ((v.1 0 12)).toInt ∧ ((v.1 0 12)).toInt < 24000 from (by omega))) tw_8 tw_9 (by decide +kernel) rfl rfl ⟨Nat.le_of_ble_eq_true rfl, Nat.le_of_ble_eq_true rfl⟩ (List.range (mW ad N cI cZ cJ (wA (wA (wA v 13 (((v.1 0 15)).toNatClampNeg) (21 : Int32)) 14 (((v.1 0 15)).toNatClampNeg) pa) 0 15 (((v.1 0 15)) + (1 : Int32)))).length) (rg_map _) (mW_nd _ _ _ _ _ _) rfl rfl rfl rfl hl.1 rfl (Nat.le_of_ble_eq_true rfl) dX13_operate_200 ⟨Nat.le_of_ble_eq_true rfl, Nat.le_of_ble_eq_true rfl⟩) hP hD hS hA (fun r62 u61 H locs hw60 hP hD hS => ?_)
                  obtain ⟨rfl, rfl⟩ := hw60
                  have hP : va_P (dC, dI) vwCl (mW ad N cI cZ cJ (wA (wA (wA (wA (wA v 13 (((v.1 0 15)).toNatClampNeg) (21 : Int32)) 14 (((v.1 0 15)).toNatClampNeg) pa) 0 15 (((v.1 0 15)) + (1 : Int32))) 11 (((v.1 0 12)).toNatClampNeg) r59) 0 12 (((v.1 0 12)) + (1 : Int32)))) H := hP
                  have hD : va_D A (mW ad N cI cZ cJ (wA (wA (wA (wA (wA v 13 (((v.1 0 15)).toNatClampNeg) (21 : Int32)) 14 (((v.1 0 15)).toNatClampNeg) pa) 0 15 (((v.1 0 15)) + (1 : Int32))) 11 (((v.1 0 12)).toNatClampNeg) r59) 0 12 (((v.1 0 12)) + (1 : Int32)))) := hD
                  refine tp_i (y := ((v.1 0 12))) (rfl) ?_
                  refine W.widen (k := 0) (n := 0) (Nat.le_refl _) (Nat.le_refl _) ?_
                  refine lv_pop hx hb dX13_operate_203 rfl ?_
                  refine lv_goto (tgt := 480) hx hb dX13_operate_204 (by decide) ?_
                  exact W.vret hx hb hr (fun t ht9 hW => ⟨⟨(wA (wA (wA (wA (wA v 13 (((v.1 0 15)).toNatClampNeg) (21 : Int32)) 14 (((v.1 0 15)).toNatClampNeg) pa) 0 15 (((v.1 0 15)) + (1 : Int32))) 11 (((v.1 0 12)).toNatClampNeg) r59) 0 12 (((v.1 0 12)) + (1 : Int32))), rfl, ⟨(FG.f (FG.a (FG.f (FG.a (FG.a (FG.rf _) (((v.1 0 15)).toNatClampNeg) (21 : Int32) (by decide) (by decide)) (((v.1 0 15)).toNatClampNeg) pa (by decide) (by decide)) (((v.1 0 15)) + (1 : Int32)) (by decide)) (((v.1 0 12)).toNatClampNeg) r59 (by decide) (by decide)) (((v.1 0 12)) + (1 : Int32)) (by decide)), (show (v.1 0 12).toInt ≤ (((v.1 0 12)) + (1 : Int32)).toInt ∧ (((v.1 0 12)) + (1 : Int32)).toInt ≤ (v.1 0 12).toInt + 3 from (by omega)), (show (((v.1 0 15)) + (1 : Int32)).toInt = (v.1 0 15).toInt + 1 from (by omega)), (show (v.1 0 43).toInt ≤ (v.1 0 43).toInt ∧ (v.1 0 43).toInt ≤ (v.1 0 43).toInt + 1 from om_b79dd2a91d), (fun (j9 : Nat) hj9 => (pk_un3 (a := ((v.1 0 12)).toInt) rfl (by omega) (by omega))), (fun (j9 : Nat) hj9 => (pk_un3 (a := ((v.1 0 15)).toInt) rfl (by omega) (by omega))), (fun (j9 : Nat) hj9 => (pk_un3 (a := ((v.1 0 15)).toInt) rfl (by omega) (by omega))), (AR.o (AR.o (AR.o (AR.o (AR.o a40 (by decide)) (by decide)) (by decide)) (by decide)) (by decide)), (FX.o (FX.o (FX.o (FX.o (FX.o fx (by decide) (by decide)) (by decide) (by decide)) (by decide) (by decide)) (by decide) (by decide)) (by decide) (by decide)), (fun hiv => (IV.o (IV.o (IV.o (IV.o (IV.o hiv (by decide)) (by decide)) (by decide)) (by decide)) (by decide))), (SGE.mono (SGE.setB sg5 rfl) (show (2 : Int) ≤ (2 : Int) from om_f646c5fae3))⟩, by rw [ht9]; exact hP, hD⟩, hS.F ht9⟩) hS.2.2 dX13_operate_480
                ·
                  by_cases h63 : pa = 15420
                  · refine lv_lookup (off := 216) (tgt := 225) hx hb dX13_operate_9 (by decide) (by rw [h63]; decide) (by decide) ?_
                    refine lv_aload_n hx hb dX13_operate_225 rfl (lv_at hl 0 rfl) ?_
                    refine lv_iconst (v := 0) hx hb dX13_operate_226 (by decide) ?_
                    refine lv_iconst (v := 1) hx hb dX13_operate_227 (by decide) ?_
                    refine lv_bipush (v := 10) hx hb dX13_operate_228 (by decide) ?_
                    refine lv_iconst (v := 5) hx hb dX13_operate_230 (by decide) ?_
                    refine lv_bipush (v := 10) hx hb dX13_operate_231 (by decide) ?_
                    refine cu_s (mW_nd _ _ _ _ _ _) (rn_S (n := 5) (As := [.int 0, .int 1, .int 10, .int 5, .int 10]) (rest := [.ref (ad 0)]) hx hb hml hown ht hKK hFx hP hD hS hA (c_m_byR l dC dI cI cB cZ cJ cR tb H.size (0 : Int32) (1 : Int32) (10 : Int32) (5 : Int32) (10 : Int32) ) tw_67 tw_68 (by decide +kernel) rfl rfl ⟨Nat.le_of_ble_eq_true rfl, Nat.le_of_ble_eq_true rfl⟩ [] rfl rfl rfl hl.1 rfl (Nat.le_of_ble_eq_true rfl) dX13_operate_233 ⟨Nat.le_of_ble_eq_true rfl, Nat.le_of_ble_eq_true rfl⟩) hP hD hS hA (fun r66 H locs hw64 hP hD hS => ?_)
                    refine W.widen (k := 0) (n := 0) (Nat.le_refl _) (Nat.le_refl _) ?_
                    refine cu_i (rn_V (n := 1) (As := [.int r66]) (rest := []) hx hb hml hown ht hKK hFx hP hD hS hA (c_m_emit l dC dI cI cB cZ cJ cR tb H.size ad N (wA (wA (wA v 13 (((v.1 0 15)).toNatClampNeg) (21 : Int32)) 14 (((v.1 0 15)).toNatClampNeg) pa) 0 15 (((v.1 0 15)) + (1 : Int32))) r66 (show 0 ≤ ((v.1 0 12)).toInt ∧ ((v.1 0 12)).toInt < 24000 from (by omega))) tw_8 tw_9 (by decide +kernel) rfl rfl ⟨Nat.le_of_ble_eq_true rfl, Nat.le_of_ble_eq_true rfl⟩ (List.range (mW ad N cI cZ cJ (wA (wA (wA v 13 (((v.1 0 15)).toNatClampNeg) (21 : Int32)) 14 (((v.1 0 15)).toNatClampNeg) pa) 0 15 (((v.1 0 15)) + (1 : Int32)))).length) (rg_map _) (mW_nd _ _ _ _ _ _) rfl rfl rfl rfl hl.1 rfl (Nat.le_of_ble_eq_true rfl) dX13_operate_236 ⟨Nat.le_of_ble_eq_true rfl, Nat.le_of_ble_eq_true rfl⟩) hP hD hS hA (fun r69 u68 H locs hw67 hP hD hS => ?_)
                    obtain ⟨rfl, rfl⟩ := hw67
                    have hP : va_P (dC, dI) vwCl (mW ad N cI cZ cJ (wA (wA (wA (wA (wA v 13 (((v.1 0 15)).toNatClampNeg) (21 : Int32)) 14 (((v.1 0 15)).toNatClampNeg) pa) 0 15 (((v.1 0 15)) + (1 : Int32))) 11 (((v.1 0 12)).toNatClampNeg) r66) 0 12 (((v.1 0 12)) + (1 : Int32)))) H := hP
                    have hD : va_D A (mW ad N cI cZ cJ (wA (wA (wA (wA (wA v 13 (((v.1 0 15)).toNatClampNeg) (21 : Int32)) 14 (((v.1 0 15)).toNatClampNeg) pa) 0 15 (((v.1 0 15)) + (1 : Int32))) 11 (((v.1 0 12)).toNatClampNeg) r66) 0 12 (((v.1 0 12)) + (1 : Int32)))) := hD
                    refine tp_i (y := ((v.1 0 12))) (rfl) ?_
                    refine W.widen (k := 0) (n := 0) (Nat.le_refl _) (Nat.le_refl _) ?_
                    refine lv_pop hx hb dX13_operate_239 rfl ?_
                    refine lv_goto (tgt := 480) hx hb dX13_operate_240 (by decide) ?_
                    exact W.vret hx hb hr (fun t ht9 hW => ⟨⟨(wA (wA (wA (wA (wA v 13 (((v.1 0 15)).toNatClampNeg) (21 : Int32)) 14 (((v.1 0 15)).toNatClampNeg) pa) 0 15 (((v.1 0 15)) + (1 : Int32))) 11 (((v.1 0 12)).toNatClampNeg) r66) 0 12 (((v.1 0 12)) + (1 : Int32))), rfl, ⟨(FG.f (FG.a (FG.f (FG.a (FG.a (FG.rf _) (((v.1 0 15)).toNatClampNeg) (21 : Int32) (by decide) (by decide)) (((v.1 0 15)).toNatClampNeg) pa (by decide) (by decide)) (((v.1 0 15)) + (1 : Int32)) (by decide)) (((v.1 0 12)).toNatClampNeg) r66 (by decide) (by decide)) (((v.1 0 12)) + (1 : Int32)) (by decide)), (show (v.1 0 12).toInt ≤ (((v.1 0 12)) + (1 : Int32)).toInt ∧ (((v.1 0 12)) + (1 : Int32)).toInt ≤ (v.1 0 12).toInt + 3 from (by omega)), (show (((v.1 0 15)) + (1 : Int32)).toInt = (v.1 0 15).toInt + 1 from (by omega)), (show (v.1 0 43).toInt ≤ (v.1 0 43).toInt ∧ (v.1 0 43).toInt ≤ (v.1 0 43).toInt + 1 from om_b79dd2a91d), (fun (j9 : Nat) hj9 => (pk_un3 (a := ((v.1 0 12)).toInt) rfl (by omega) (by omega))), (fun (j9 : Nat) hj9 => (pk_un3 (a := ((v.1 0 15)).toInt) rfl (by omega) (by omega))), (fun (j9 : Nat) hj9 => (pk_un3 (a := ((v.1 0 15)).toInt) rfl (by omega) (by omega))), (AR.o (AR.o (AR.o (AR.o (AR.o a40 (by decide)) (by decide)) (by decide)) (by decide)) (by decide)), (FX.o (FX.o (FX.o (FX.o (FX.o fx (by decide) (by decide)) (by decide) (by decide)) (by decide) (by decide)) (by decide) (by decide)) (by decide) (by decide)), (fun hiv => (IV.o (IV.o (IV.o (IV.o (IV.o hiv (by decide)) (by decide)) (by decide)) (by decide)) (by decide))), (SGE.mono (SGE.setB sg5 rfl) (show (2 : Int) ≤ (2 : Int) from om_f646c5fae3))⟩, by rw [ht9]; exact hP, hD⟩, hS.F ht9⟩) hS.2.2 dX13_operate_480
                  ·
                    by_cases h70 : pa = 15649
                    · refine lv_lookup (off := 392) (tgt := 401) hx hb dX13_operate_9 (by decide) (by rw [h70]; decide) (by decide) ?_
                      refine lv_aload_n hx hb dX13_operate_401 rfl (lv_at hl 0 rfl) ?_
                      refine lv_bipush (v := 32) hx hb dX13_operate_402 (by decide) ?_
                      refine lv_iconst (v := 0) hx hb dX13_operate_404 (by decide) ?_
                      refine lv_bipush (v := 10) hx hb dX13_operate_405 (by decide) ?_
                      refine lv_iconst (v := 5) hx hb dX13_operate_407 (by decide) ?_
                      refine lv_bipush (v := 10) hx hb dX13_operate_408 (by decide) ?_
                      refine cu_s (mW_nd _ _ _ _ _ _) (rn_S (n := 5) (As := [.int 32, .int 0, .int 10, .int 5, .int 10]) (rest := [.ref (ad 0)]) hx hb hml hown ht hKK hFx hP hD hS hA (c_m_byR l dC dI cI cB cZ cJ cR tb H.size (32 : Int32) (0 : Int32) (10 : Int32) (5 : Int32) (10 : Int32) ) tw_67 tw_68 (by decide +kernel) rfl rfl ⟨Nat.le_of_ble_eq_true rfl, Nat.le_of_ble_eq_true rfl⟩ [] rfl rfl rfl hl.1 rfl (Nat.le_of_ble_eq_true rfl) dX13_operate_410 ⟨Nat.le_of_ble_eq_true rfl, Nat.le_of_ble_eq_true rfl⟩) hP hD hS hA (fun r73 H locs hw71 hP hD hS => ?_)
                      refine W.widen (k := 0) (n := 0) (Nat.le_refl _) (Nat.le_refl _) ?_
                      refine cu_i (rn_V (n := 1) (As := [.int r73]) (rest := []) hx hb hml hown ht hKK hFx hP hD hS hA (c_m_emit l dC dI cI cB cZ cJ cR tb H.size ad N (wA (wA (wA v 13 (((v.1 0 15)).toNatClampNeg) (21 : Int32)) 14 (((v.1 0 15)).toNatClampNeg) pa) 0 15 (((v.1 0 15)) + (1 : Int32))) r73 (show 0 ≤ ((v.1 0 12)).toInt ∧ ((v.1 0 12)).toInt < 24000 from (by omega))) tw_8 tw_9 (by decide +kernel) rfl rfl ⟨Nat.le_of_ble_eq_true rfl, Nat.le_of_ble_eq_true rfl⟩ (List.range (mW ad N cI cZ cJ (wA (wA (wA v 13 (((v.1 0 15)).toNatClampNeg) (21 : Int32)) 14 (((v.1 0 15)).toNatClampNeg) pa) 0 15 (((v.1 0 15)) + (1 : Int32)))).length) (rg_map _) (mW_nd _ _ _ _ _ _) rfl rfl rfl rfl hl.1 rfl (Nat.le_of_ble_eq_true rfl) dX13_operate_413 ⟨Nat.le_of_ble_eq_true rfl, Nat.le_of_ble_eq_true rfl⟩) hP hD hS hA (fun r76 u75 H locs hw74 hP hD hS => ?_)
                      obtain ⟨rfl, rfl⟩ := hw74
                      have hP : va_P (dC, dI) vwCl (mW ad N cI cZ cJ (wA (wA (wA (wA (wA v 13 (((v.1 0 15)).toNatClampNeg) (21 : Int32)) 14 (((v.1 0 15)).toNatClampNeg) pa) 0 15 (((v.1 0 15)) + (1 : Int32))) 11 (((v.1 0 12)).toNatClampNeg) r73) 0 12 (((v.1 0 12)) + (1 : Int32)))) H := hP
                      have hD : va_D A (mW ad N cI cZ cJ (wA (wA (wA (wA (wA v 13 (((v.1 0 15)).toNatClampNeg) (21 : Int32)) 14 (((v.1 0 15)).toNatClampNeg) pa) 0 15 (((v.1 0 15)) + (1 : Int32))) 11 (((v.1 0 12)).toNatClampNeg) r73) 0 12 (((v.1 0 12)) + (1 : Int32)))) := hD
                      refine tp_i (y := ((v.1 0 12))) (rfl) ?_
                      refine W.widen (k := 0) (n := 0) (Nat.le_refl _) (Nat.le_refl _) ?_
                      refine lv_pop hx hb dX13_operate_416 rfl ?_
                      refine lv_aload_n hx hb dX13_operate_417 rfl (lv_at hl 0 rfl) ?_
                      refine lv_iconst (v := 0) hx hb dX13_operate_418 (by decide) ?_
                      refine lv_iconst (v := 3) hx hb dX13_operate_419 (by decide) ?_
                      refine lv_bipush (v := 10) hx hb dX13_operate_420 (by decide) ?_
                      refine lv_iconst (v := 0) hx hb dX13_operate_422 (by decide) ?_
                      refine lv_bipush (v := 10) hx hb dX13_operate_423 (by decide) ?_
                      refine cu_s (mW_nd _ _ _ _ _ _) (rn_S (n := 5) (As := [.int 0, .int 3, .int 10, .int 0, .int 10]) (rest := [.ref (ad 0)]) hx hb hml hown ht hKK hFx hP hD hS hA (c_m_byR l dC dI cI cB cZ cJ cR tb H.size (0 : Int32) (3 : Int32) (10 : Int32) (0 : Int32) (10 : Int32) ) tw_67 tw_68 (by decide +kernel) rfl rfl ⟨Nat.le_of_ble_eq_true rfl, Nat.le_of_ble_eq_true rfl⟩ [] rfl rfl rfl hl.1 rfl (Nat.le_of_ble_eq_true rfl) dX13_operate_425 ⟨Nat.le_of_ble_eq_true rfl, Nat.le_of_ble_eq_true rfl⟩) hP hD hS hA (fun r79 H locs hw77 hP hD hS => ?_)
                      refine W.widen (k := 0) (n := 0) (Nat.le_refl _) (Nat.le_refl _) ?_
                      refine cu_i (rn_V (n := 1) (As := [.int r79]) (rest := []) hx hb hml hown ht hKK hFx hP hD hS hA (c_m_emit l dC dI cI cB cZ cJ cR tb H.size ad N (wA (wA (wA (wA (wA v 13 (((v.1 0 15)).toNatClampNeg) (21 : Int32)) 14 (((v.1 0 15)).toNatClampNeg) pa) 0 15 (((v.1 0 15)) + (1 : Int32))) 11 (((v.1 0 12)).toNatClampNeg) r73) 0 12 (((v.1 0 12)) + (1 : Int32))) r79 (show 0 ≤ ((((((v.1 0 12)) + (1 : Int32)))) + (1 : Int32)).toInt ∧ ((((((v.1 0 12)) + (1 : Int32)))) + (1 : Int32)).toInt < 24000 from (by omega))) tw_8 tw_9 (by decide +kernel) rfl rfl ⟨Nat.le_of_ble_eq_true rfl, Nat.le_of_ble_eq_true rfl⟩ (List.range (mW ad N cI cZ cJ (wA (wA (wA (wA (wA v 13 (((v.1 0 15)).toNatClampNeg) (21 : Int32)) 14 (((v.1 0 15)).toNatClampNeg) pa) 0 15 (((v.1 0 15)) + (1 : Int32))) 11 (((v.1 0 12)).toNatClampNeg) r73) 0 12 (((v.1 0 12)) + (1 : Int32)))).length) (rg_map _) (mW_nd _ _ _ _ _ _) rfl rfl rfl rfl hl.1 rfl (Nat.le_of_ble_eq_true rfl) dX13_operate_428 ⟨Nat.le_of_ble_eq_true rfl, Nat.le_of_ble_eq_true rfl⟩) hP hD hS hA (fun r82 u81 H locs hw80 hP hD hS => ?_)
                      obtain ⟨rfl, rfl⟩ := hw80
                      have hP : va_P (dC, dI) vwCl (mW ad N cI cZ cJ (wA (wA (wA (wA (wA (wA (wA v 13 (((v.1 0 15)).toNatClampNeg) (21 : Int32)) 14 (((v.1 0 15)).toNatClampNeg) pa) 0 15 (((v.1 0 15)) + (1 : Int32))) 11 (((v.1 0 12)).toNatClampNeg) r73) 0 12 (((v.1 0 12)) + (1 : Int32))) 11 (((((((v.1 0 12)) + (1 : Int32)))) + (1 : Int32)).toNatClampNeg) r79) 0 12 (((((((v.1 0 12)) + (1 : Int32)))) + (1 : Int32)) + (1 : Int32)))) H := hP
                      have hD : va_D A (mW ad N cI cZ cJ (wA (wA (wA (wA (wA (wA (wA v 13 (((v.1 0 15)).toNatClampNeg) (21 : Int32)) 14 (((v.1 0 15)).toNatClampNeg) pa) 0 15 (((v.1 0 15)) + (1 : Int32))) 11 (((v.1 0 12)).toNatClampNeg) r73) 0 12 (((v.1 0 12)) + (1 : Int32))) 11 (((((((v.1 0 12)) + (1 : Int32)))) + (1 : Int32)).toNatClampNeg) r79) 0 12 (((((((v.1 0 12)) + (1 : Int32)))) + (1 : Int32)) + (1 : Int32)))) := hD
                      refine tp_i (y := ((((((v.1 0 12)) + (1 : Int32)))) + (1 : Int32))) (rfl) ?_
                      refine W.widen (k := 0) (n := 0) (Nat.le_refl _) (Nat.le_refl _) ?_
                      refine lv_pop hx hb dX13_operate_431 rfl ?_
                      refine lv_goto (tgt := 480) hx hb dX13_operate_432 (by decide) ?_
                      exact W.vret hx hb hr (fun t ht9 hW => ⟨⟨(wA (wA (wA (wA (wA (wA (wA v 13 (((v.1 0 15)).toNatClampNeg) (21 : Int32)) 14 (((v.1 0 15)).toNatClampNeg) pa) 0 15 (((v.1 0 15)) + (1 : Int32))) 11 (((v.1 0 12)).toNatClampNeg) r73) 0 12 (((v.1 0 12)) + (1 : Int32))) 11 (((((((v.1 0 12)) + (1 : Int32)))) + (1 : Int32)).toNatClampNeg) r79) 0 12 (((((((v.1 0 12)) + (1 : Int32)))) + (1 : Int32)) + (1 : Int32))), rfl, ⟨(FG.f (FG.a (FG.f (FG.a (FG.f (FG.a (FG.a (FG.rf _) (((v.1 0 15)).toNatClampNeg) (21 : Int32) (by decide) (by decide)) (((v.1 0 15)).toNatClampNeg) pa (by decide) (by decide)) (((v.1 0 15)) + (1 : Int32)) (by decide)) (((v.1 0 12)).toNatClampNeg) r73 (by decide) (by decide)) (((v.1 0 12)) + (1 : Int32)) (by decide)) (((((((v.1 0 12)) + (1 : Int32)))) + (1 : Int32)).toNatClampNeg) r79 (by decide) (by decide)) (((((((v.1 0 12)) + (1 : Int32)))) + (1 : Int32)) + (1 : Int32)) (by decide)), (show (v.1 0 12).toInt ≤ (((((((v.1 0 12)) + (1 : Int32)))) + (1 : Int32)) + (1 : Int32)).toInt ∧ (((((((v.1 0 12)) + (1 : Int32)))) + (1 : Int32)) + (1 : Int32)).toInt ≤ (v.1 0 12).toInt + 3 from (by omega)), (show (((v.1 0 15)) + (1 : Int32)).toInt = (v.1 0 15).toInt + 1 from (by omega)), (show (v.1 0 43).toInt ≤ (v.1 0 43).toInt ∧ (v.1 0 43).toInt ≤ (v.1 0 43).toInt + 1 from om_b79dd2a91d), (fun (j9 : Nat) hj9 => (Eq.trans (pk_un3 (a := ((((((v.1 0 12)) + (1 : Int32)))) + (1 : Int32)).toInt) rfl (by omega) (by omega)) (pk_un3 (a := ((v.1 0 12)).toInt) rfl (by omega) (by omega)))), (fun (j9 : Nat) hj9 => (pk_un3 (a := ((v.1 0 15)).toInt) rfl (by omega) (by omega))), (fun (j9 : Nat) hj9 => (pk_un3 (a := ((v.1 0 15)).toInt) rfl (by omega) (by omega))), (AR.o (AR.o (AR.o (AR.o (AR.o (AR.o (AR.o a40 (by decide)) (by decide)) (by decide)) (by decide)) (by decide)) (by decide)) (by decide)), (FX.o (FX.o (FX.o (FX.o (FX.o (FX.o (FX.o fx (by decide) (by decide)) (by decide) (by decide)) (by decide) (by decide)) (by decide) (by decide)) (by decide) (by decide)) (by decide) (by decide)) (by decide) (by decide)), (fun hiv => (IV.o (IV.o (IV.o (IV.o (IV.o (IV.o (IV.o hiv (by decide)) (by decide)) (by decide)) (by decide)) (by decide)) (by decide)) (by decide))), (SGE.mono (SGE.setB sg5 rfl) (show (2 : Int) ≤ (2 : Int) from om_f646c5fae3))⟩, by rw [ht9]; exact hP, hD⟩, hS.F ht9⟩) hS.2.2 dX13_operate_480
                    ·
                      by_cases h83 : pa = 15676
                      · refine lv_lookup (off := 289) (tgt := 298) hx hb dX13_operate_9 (by decide) (by rw [h83]; decide) (by decide) ?_
                        refine lv_aload_n hx hb dX13_operate_298 rfl (lv_at hl 0 rfl) ?_
                        refine lv_iconst (v := 0) hx hb dX13_operate_299 (by decide) ?_
                        refine lv_iconst (v := 2) hx hb dX13_operate_300 (by decide) ?_
                        refine lv_bipush (v := 10) hx hb dX13_operate_301 (by decide) ?_
                        refine lv_bipush (v := 10) hx hb dX13_operate_303 (by decide) ?_
                        refine lv_iconst (v := 5) hx hb dX13_operate_305 (by decide) ?_
                        refine cu_s (mW_nd _ _ _ _ _ _) (rn_S (n := 5) (As := [.int 0, .int 2, .int 10, .int 10, .int 5]) (rest := [.ref (ad 0)]) hx hb hml hown ht hKK hFx hP hD hS hA (c_m_byR l dC dI cI cB cZ cJ cR tb H.size (0 : Int32) (2 : Int32) (10 : Int32) (10 : Int32) (5 : Int32) ) tw_67 tw_68 (by decide +kernel) rfl rfl ⟨Nat.le_of_ble_eq_true rfl, Nat.le_of_ble_eq_true rfl⟩ [] rfl rfl rfl hl.1 rfl (Nat.le_of_ble_eq_true rfl) dX13_operate_306 ⟨Nat.le_of_ble_eq_true rfl, Nat.le_of_ble_eq_true rfl⟩) hP hD hS hA (fun r86 H locs hw84 hP hD hS => ?_)
                        refine W.widen (k := 0) (n := 0) (Nat.le_refl _) (Nat.le_refl _) ?_
                        refine cu_i (rn_V (n := 1) (As := [.int r86]) (rest := []) hx hb hml hown ht hKK hFx hP hD hS hA (c_m_emit l dC dI cI cB cZ cJ cR tb H.size ad N (wA (wA (wA v 13 (((v.1 0 15)).toNatClampNeg) (21 : Int32)) 14 (((v.1 0 15)).toNatClampNeg) pa) 0 15 (((v.1 0 15)) + (1 : Int32))) r86 (show 0 ≤ ((v.1 0 12)).toInt ∧ ((v.1 0 12)).toInt < 24000 from (by omega))) tw_8 tw_9 (by decide +kernel) rfl rfl ⟨Nat.le_of_ble_eq_true rfl, Nat.le_of_ble_eq_true rfl⟩ (List.range (mW ad N cI cZ cJ (wA (wA (wA v 13 (((v.1 0 15)).toNatClampNeg) (21 : Int32)) 14 (((v.1 0 15)).toNatClampNeg) pa) 0 15 (((v.1 0 15)) + (1 : Int32)))).length) (rg_map _) (mW_nd _ _ _ _ _ _) rfl rfl rfl rfl hl.1 rfl (Nat.le_of_ble_eq_true rfl) dX13_operate_309 ⟨Nat.le_of_ble_eq_true rfl, Nat.le_of_ble_eq_true rfl⟩) hP hD hS hA (fun r89 u88 H locs hw87 hP hD hS => ?_)
                        obtain ⟨rfl, rfl⟩ := hw87
                        have hP : va_P (dC, dI) vwCl (mW ad N cI cZ cJ (wA (wA (wA (wA (wA v 13 (((v.1 0 15)).toNatClampNeg) (21 : Int32)) 14 (((v.1 0 15)).toNatClampNeg) pa) 0 15 (((v.1 0 15)) + (1 : Int32))) 11 (((v.1 0 12)).toNatClampNeg) r86) 0 12 (((v.1 0 12)) + (1 : Int32)))) H := hP
                        have hD : va_D A (mW ad N cI cZ cJ (wA (wA (wA (wA (wA v 13 (((v.1 0 15)).toNatClampNeg) (21 : Int32)) 14 (((v.1 0 15)).toNatClampNeg) pa) 0 15 (((v.1 0 15)) + (1 : Int32))) 11 (((v.1 0 12)).toNatClampNeg) r86) 0 12 (((v.1 0 12)) + (1 : Int32)))) := hD
                        refine tp_i (y := ((v.1 0 12))) (rfl) ?_
                        refine W.widen (k := 0) (n := 0) (Nat.le_refl _) (Nat.le_refl _) ?_
                        refine lv_pop hx hb dX13_operate_312 rfl ?_
                        refine lv_aload_n hx hb dX13_operate_313 rfl (lv_at hl 0 rfl) ?_
                        refine lv_bipush (v := 19) hx hb dX13_operate_314 (by decide) ?_
                        refine lv_iconst (v := 4) hx hb dX13_operate_316 (by decide) ?_
                        refine lv_bipush (v := 10) hx hb dX13_operate_317 (by decide) ?_
                        refine lv_bipush (v := 10) hx hb dX13_operate_319 (by decide) ?_
                        refine lv_iconst (v := 1) hx hb dX13_operate_321 (by decide) ?_
                        refine cu_s (mW_nd _ _ _ _ _ _) (rn_S (n := 5) (As := [.int 19, .int 4, .int 10, .int 10, .int 1]) (rest := [.ref (ad 0)]) hx hb hml hown ht hKK hFx hP hD hS hA (c_m_byI l dC dI cI cB cZ cJ cR tb H.size (19 : Int32) (4 : Int32) (10 : Int32) (10 : Int32) (1 : Int32) ) tw_2 tw_3 (by decide +kernel) rfl rfl ⟨Nat.le_of_ble_eq_true rfl, Nat.le_of_ble_eq_true rfl⟩ [] rfl rfl rfl hl.1 rfl (Nat.le_of_ble_eq_true rfl) dX13_operate_322 ⟨Nat.le_of_ble_eq_true rfl, Nat.le_of_ble_eq_true rfl⟩) hP hD hS hA (fun r92 H locs hw90 hP hD hS => ?_)
                        refine W.widen (k := 0) (n := 0) (Nat.le_refl _) (Nat.le_refl _) ?_
                        refine cu_i (rn_V (n := 1) (As := [.int r92]) (rest := []) hx hb hml hown ht hKK hFx hP hD hS hA (c_m_emit l dC dI cI cB cZ cJ cR tb H.size ad N (wA (wA (wA (wA (wA v 13 (((v.1 0 15)).toNatClampNeg) (21 : Int32)) 14 (((v.1 0 15)).toNatClampNeg) pa) 0 15 (((v.1 0 15)) + (1 : Int32))) 11 (((v.1 0 12)).toNatClampNeg) r86) 0 12 (((v.1 0 12)) + (1 : Int32))) r92 (show 0 ≤ ((((((v.1 0 12)) + (1 : Int32)))) + (1 : Int32)).toInt ∧ ((((((v.1 0 12)) + (1 : Int32)))) + (1 : Int32)).toInt < 24000 from (by omega))) tw_8 tw_9 (by decide +kernel) rfl rfl ⟨Nat.le_of_ble_eq_true rfl, Nat.le_of_ble_eq_true rfl⟩ (List.range (mW ad N cI cZ cJ (wA (wA (wA (wA (wA v 13 (((v.1 0 15)).toNatClampNeg) (21 : Int32)) 14 (((v.1 0 15)).toNatClampNeg) pa) 0 15 (((v.1 0 15)) + (1 : Int32))) 11 (((v.1 0 12)).toNatClampNeg) r86) 0 12 (((v.1 0 12)) + (1 : Int32)))).length) (rg_map _) (mW_nd _ _ _ _ _ _) rfl rfl rfl rfl hl.1 rfl (Nat.le_of_ble_eq_true rfl) dX13_operate_325 ⟨Nat.le_of_ble_eq_true rfl, Nat.le_of_ble_eq_true rfl⟩) hP hD hS hA (fun r95 u94 H locs hw93 hP hD hS => ?_)
                        obtain ⟨rfl, rfl⟩ := hw93
                        have hP : va_P (dC, dI) vwCl (mW ad N cI cZ cJ (wA (wA (wA (wA (wA (wA (wA v 13 (((v.1 0 15)).toNatClampNeg) (21 : Int32)) 14 (((v.1 0 15)).toNatClampNeg) pa) 0 15 (((v.1 0 15)) + (1 : Int32))) 11 (((v.1 0 12)).toNatClampNeg) r86) 0 12 (((v.1 0 12)) + (1 : Int32))) 11 (((((((v.1 0 12)) + (1 : Int32)))) + (1 : Int32)).toNatClampNeg) r92) 0 12 (((((((v.1 0 12)) + (1 : Int32)))) + (1 : Int32)) + (1 : Int32)))) H := hP
                        have hD : va_D A (mW ad N cI cZ cJ (wA (wA (wA (wA (wA (wA (wA v 13 (((v.1 0 15)).toNatClampNeg) (21 : Int32)) 14 (((v.1 0 15)).toNatClampNeg) pa) 0 15 (((v.1 0 15)) + (1 : Int32))) 11 (((v.1 0 12)).toNatClampNeg) r86) 0 12 (((v.1 0 12)) + (1 : Int32))) 11 (((((((v.1 0 12)) + (1 : Int32)))) + (1 : Int32)).toNatClampNeg) r92) 0 12 (((((((v.1 0 12)) + (1 : Int32)))) + (1 : Int32)) + (1 : Int32)))) := hD
                        refine tp_i (y := ((((((v.1 0 12)) + (1 : Int32)))) + (1 : Int32))) (rfl) ?_
                        refine W.widen (k := 0) (n := 0) (Nat.le_refl _) (Nat.le_refl _) ?_
                        refine lv_pop hx hb dX13_operate_328 rfl ?_
                        refine lv_goto (tgt := 480) hx hb dX13_operate_329 (by decide) ?_
                        exact W.vret hx hb hr (fun t ht9 hW => ⟨⟨(wA (wA (wA (wA (wA (wA (wA v 13 (((v.1 0 15)).toNatClampNeg) (21 : Int32)) 14 (((v.1 0 15)).toNatClampNeg) pa) 0 15 (((v.1 0 15)) + (1 : Int32))) 11 (((v.1 0 12)).toNatClampNeg) r86) 0 12 (((v.1 0 12)) + (1 : Int32))) 11 (((((((v.1 0 12)) + (1 : Int32)))) + (1 : Int32)).toNatClampNeg) r92) 0 12 (((((((v.1 0 12)) + (1 : Int32)))) + (1 : Int32)) + (1 : Int32))), rfl, ⟨(FG.f (FG.a (FG.f (FG.a (FG.f (FG.a (FG.a (FG.rf _) (((v.1 0 15)).toNatClampNeg) (21 : Int32) (by decide) (by decide)) (((v.1 0 15)).toNatClampNeg) pa (by decide) (by decide)) (((v.1 0 15)) + (1 : Int32)) (by decide)) (((v.1 0 12)).toNatClampNeg) r86 (by decide) (by decide)) (((v.1 0 12)) + (1 : Int32)) (by decide)) (((((((v.1 0 12)) + (1 : Int32)))) + (1 : Int32)).toNatClampNeg) r92 (by decide) (by decide)) (((((((v.1 0 12)) + (1 : Int32)))) + (1 : Int32)) + (1 : Int32)) (by decide)), (show (v.1 0 12).toInt ≤ (((((((v.1 0 12)) + (1 : Int32)))) + (1 : Int32)) + (1 : Int32)).toInt ∧ (((((((v.1 0 12)) + (1 : Int32)))) + (1 : Int32)) + (1 : Int32)).toInt ≤ (v.1 0 12).toInt + 3 from (by omega)), (show (((v.1 0 15)) + (1 : Int32)).toInt = (v.1 0 15).toInt + 1 from (by omega)), (show (v.1 0 43).toInt ≤ (v.1 0 43).toInt ∧ (v.1 0 43).toInt ≤ (v.1 0 43).toInt + 1 from om_b79dd2a91d), (fun (j9 : Nat) hj9 => (Eq.trans (pk_un3 (a := ((((((v.1 0 12)) + (1 : Int32)))) + (1 : Int32)).toInt) rfl (by omega) (by omega)) (pk_un3 (a := ((v.1 0 12)).toInt) rfl (by omega) (by omega)))), (fun (j9 : Nat) hj9 => (pk_un3 (a := ((v.1 0 15)).toInt) rfl (by omega) (by omega))), (fun (j9 : Nat) hj9 => (pk_un3 (a := ((v.1 0 15)).toInt) rfl (by omega) (by omega))), (AR.o (AR.o (AR.o (AR.o (AR.o (AR.o (AR.o a40 (by decide)) (by decide)) (by decide)) (by decide)) (by decide)) (by decide)) (by decide)), (FX.o (FX.o (FX.o (FX.o (FX.o (FX.o (FX.o fx (by decide) (by decide)) (by decide) (by decide)) (by decide) (by decide)) (by decide) (by decide)) (by decide) (by decide)) (by decide) (by decide)) (by decide) (by decide)), (fun hiv => (IV.o (IV.o (IV.o (IV.o (IV.o (IV.o (IV.o hiv (by decide)) (by decide)) (by decide)) (by decide)) (by decide)) (by decide)) (by decide))), (SGE.mono (SGE.setB sg5 rfl) (show (2 : Int) ≤ (2 : Int) from om_f646c5fae3))⟩, by rw [ht9]; exact hP, hD⟩, hS.F ht9⟩) hS.2.2 dX13_operate_480
                      ·
                        by_cases h96 : pa = 15677
                        · refine lv_lookup (off := 357) (tgt := 366) hx hb dX13_operate_9 (by decide) (by rw [h96]; decide) (by decide) ?_
                          refine lv_aload_n hx hb dX13_operate_366 rfl (lv_at hl 0 rfl) ?_
                          refine lv_bipush (v := 32) hx hb dX13_operate_367 (by decide) ?_
                          refine lv_iconst (v := 0) hx hb dX13_operate_369 (by decide) ?_
                          refine lv_bipush (v := 10) hx hb dX13_operate_370 (by decide) ?_
                          refine lv_iconst (v := 5) hx hb dX13_operate_372 (by decide) ?_
                          refine lv_bipush (v := 10) hx hb dX13_operate_373 (by decide) ?_
                          refine cu_s (mW_nd _ _ _ _ _ _) (rn_S (n := 5) (As := [.int 32, .int 0, .int 10, .int 5, .int 10]) (rest := [.ref (ad 0)]) hx hb hml hown ht hKK hFx hP hD hS hA (c_m_byR l dC dI cI cB cZ cJ cR tb H.size (32 : Int32) (0 : Int32) (10 : Int32) (5 : Int32) (10 : Int32) ) tw_67 tw_68 (by decide +kernel) rfl rfl ⟨Nat.le_of_ble_eq_true rfl, Nat.le_of_ble_eq_true rfl⟩ [] rfl rfl rfl hl.1 rfl (Nat.le_of_ble_eq_true rfl) dX13_operate_375 ⟨Nat.le_of_ble_eq_true rfl, Nat.le_of_ble_eq_true rfl⟩) hP hD hS hA (fun r99 H locs hw97 hP hD hS => ?_)
                          refine W.widen (k := 0) (n := 0) (Nat.le_refl _) (Nat.le_refl _) ?_
                          refine cu_i (rn_V (n := 1) (As := [.int r99]) (rest := []) hx hb hml hown ht hKK hFx hP hD hS hA (c_m_emit l dC dI cI cB cZ cJ cR tb H.size ad N (wA (wA (wA v 13 (((v.1 0 15)).toNatClampNeg) (21 : Int32)) 14 (((v.1 0 15)).toNatClampNeg) pa) 0 15 (((v.1 0 15)) + (1 : Int32))) r99 (show 0 ≤ ((v.1 0 12)).toInt ∧ ((v.1 0 12)).toInt < 24000 from (by omega))) tw_8 tw_9 (by decide +kernel) rfl rfl ⟨Nat.le_of_ble_eq_true rfl, Nat.le_of_ble_eq_true rfl⟩ (List.range (mW ad N cI cZ cJ (wA (wA (wA v 13 (((v.1 0 15)).toNatClampNeg) (21 : Int32)) 14 (((v.1 0 15)).toNatClampNeg) pa) 0 15 (((v.1 0 15)) + (1 : Int32)))).length) (rg_map _) (mW_nd _ _ _ _ _ _) rfl rfl rfl rfl hl.1 rfl (Nat.le_of_ble_eq_true rfl) dX13_operate_378 ⟨Nat.le_of_ble_eq_true rfl, Nat.le_of_ble_eq_true rfl⟩) hP hD hS hA (fun r102 u101 H locs hw100 hP hD hS => ?_)
                          obtain ⟨rfl, rfl⟩ := hw100
                          have hP : va_P (dC, dI) vwCl (mW ad N cI cZ cJ (wA (wA (wA (wA (wA v 13 (((v.1 0 15)).toNatClampNeg) (21 : Int32)) 14 (((v.1 0 15)).toNatClampNeg) pa) 0 15 (((v.1 0 15)) + (1 : Int32))) 11 (((v.1 0 12)).toNatClampNeg) r99) 0 12 (((v.1 0 12)) + (1 : Int32)))) H := hP
                          have hD : va_D A (mW ad N cI cZ cJ (wA (wA (wA (wA (wA v 13 (((v.1 0 15)).toNatClampNeg) (21 : Int32)) 14 (((v.1 0 15)).toNatClampNeg) pa) 0 15 (((v.1 0 15)) + (1 : Int32))) 11 (((v.1 0 12)).toNatClampNeg) r99) 0 12 (((v.1 0 12)) + (1 : Int32)))) := hD
                          refine tp_i (y := ((v.1 0 12))) (rfl) ?_
                          refine W.widen (k := 0) (n := 0) (Nat.le_refl _) (Nat.le_refl _) ?_
                          refine lv_pop hx hb dX13_operate_381 rfl ?_
                          refine lv_aload_n hx hb dX13_operate_382 rfl (lv_at hl 0 rfl) ?_
                          refine lv_bipush (v := 19) hx hb dX13_operate_383 (by decide) ?_
                          refine lv_iconst (v := 3) hx hb dX13_operate_385 (by decide) ?_
                          refine lv_bipush (v := 10) hx hb dX13_operate_386 (by decide) ?_
                          refine lv_bipush (v := 10) hx hb dX13_operate_388 (by decide) ?_
                          refine lv_iconst (v := 1) hx hb dX13_operate_390 (by decide) ?_
                          refine cu_s (mW_nd _ _ _ _ _ _) (rn_S (n := 5) (As := [.int 19, .int 3, .int 10, .int 10, .int 1]) (rest := [.ref (ad 0)]) hx hb hml hown ht hKK hFx hP hD hS hA (c_m_byI l dC dI cI cB cZ cJ cR tb H.size (19 : Int32) (3 : Int32) (10 : Int32) (10 : Int32) (1 : Int32) ) tw_2 tw_3 (by decide +kernel) rfl rfl ⟨Nat.le_of_ble_eq_true rfl, Nat.le_of_ble_eq_true rfl⟩ [] rfl rfl rfl hl.1 rfl (Nat.le_of_ble_eq_true rfl) dX13_operate_391 ⟨Nat.le_of_ble_eq_true rfl, Nat.le_of_ble_eq_true rfl⟩) hP hD hS hA (fun r105 H locs hw103 hP hD hS => ?_)
                          refine W.widen (k := 0) (n := 0) (Nat.le_refl _) (Nat.le_refl _) ?_
                          refine cu_i (rn_V (n := 1) (As := [.int r105]) (rest := []) hx hb hml hown ht hKK hFx hP hD hS hA (c_m_emit l dC dI cI cB cZ cJ cR tb H.size ad N (wA (wA (wA (wA (wA v 13 (((v.1 0 15)).toNatClampNeg) (21 : Int32)) 14 (((v.1 0 15)).toNatClampNeg) pa) 0 15 (((v.1 0 15)) + (1 : Int32))) 11 (((v.1 0 12)).toNatClampNeg) r99) 0 12 (((v.1 0 12)) + (1 : Int32))) r105 (show 0 ≤ ((((((v.1 0 12)) + (1 : Int32)))) + (1 : Int32)).toInt ∧ ((((((v.1 0 12)) + (1 : Int32)))) + (1 : Int32)).toInt < 24000 from (by omega))) tw_8 tw_9 (by decide +kernel) rfl rfl ⟨Nat.le_of_ble_eq_true rfl, Nat.le_of_ble_eq_true rfl⟩ (List.range (mW ad N cI cZ cJ (wA (wA (wA (wA (wA v 13 (((v.1 0 15)).toNatClampNeg) (21 : Int32)) 14 (((v.1 0 15)).toNatClampNeg) pa) 0 15 (((v.1 0 15)) + (1 : Int32))) 11 (((v.1 0 12)).toNatClampNeg) r99) 0 12 (((v.1 0 12)) + (1 : Int32)))).length) (rg_map _) (mW_nd _ _ _ _ _ _) rfl rfl rfl rfl hl.1 rfl (Nat.le_of_ble_eq_true rfl) dX13_operate_394 ⟨Nat.le_of_ble_eq_true rfl, Nat.le_of_ble_eq_true rfl⟩) hP hD hS hA (fun r108 u107 H locs hw106 hP hD hS => ?_)
                          obtain ⟨rfl, rfl⟩ := hw106
                          have hP : va_P (dC, dI) vwCl (mW ad N cI cZ cJ (wA (wA (wA (wA (wA (wA (wA v 13 (((v.1 0 15)).toNatClampNeg) (21 : Int32)) 14 (((v.1 0 15)).toNatClampNeg) pa) 0 15 (((v.1 0 15)) + (1 : Int32))) 11 (((v.1 0 12)).toNatClampNeg) r99) 0 12 (((v.1 0 12)) + (1 : Int32))) 11 (((((((v.1 0 12)) + (1 : Int32)))) + (1 : Int32)).toNatClampNeg) r105) 0 12 (((((((v.1 0 12)) + (1 : Int32)))) + (1 : Int32)) + (1 : Int32)))) H := hP
                          have hD : va_D A (mW ad N cI cZ cJ (wA (wA (wA (wA (wA (wA (wA v 13 (((v.1 0 15)).toNatClampNeg) (21 : Int32)) 14 (((v.1 0 15)).toNatClampNeg) pa) 0 15 (((v.1 0 15)) + (1 : Int32))) 11 (((v.1 0 12)).toNatClampNeg) r99) 0 12 (((v.1 0 12)) + (1 : Int32))) 11 (((((((v.1 0 12)) + (1 : Int32)))) + (1 : Int32)).toNatClampNeg) r105) 0 12 (((((((v.1 0 12)) + (1 : Int32)))) + (1 : Int32)) + (1 : Int32)))) := hD
                          refine tp_i (y := ((((((v.1 0 12)) + (1 : Int32)))) + (1 : Int32))) (rfl) ?_
                          refine W.widen (k := 0) (n := 0) (Nat.le_refl _) (Nat.le_refl _) ?_
                          refine lv_pop hx hb dX13_operate_397 rfl ?_
                          refine lv_goto (tgt := 480) hx hb dX13_operate_398 (by decide) ?_
                          exact W.vret hx hb hr (fun t ht9 hW => ⟨⟨(wA (wA (wA (wA (wA (wA (wA v 13 (((v.1 0 15)).toNatClampNeg) (21 : Int32)) 14 (((v.1 0 15)).toNatClampNeg) pa) 0 15 (((v.1 0 15)) + (1 : Int32))) 11 (((v.1 0 12)).toNatClampNeg) r99) 0 12 (((v.1 0 12)) + (1 : Int32))) 11 (((((((v.1 0 12)) + (1 : Int32)))) + (1 : Int32)).toNatClampNeg) r105) 0 12 (((((((v.1 0 12)) + (1 : Int32)))) + (1 : Int32)) + (1 : Int32))), rfl, ⟨(FG.f (FG.a (FG.f (FG.a (FG.f (FG.a (FG.a (FG.rf _) (((v.1 0 15)).toNatClampNeg) (21 : Int32) (by decide) (by decide)) (((v.1 0 15)).toNatClampNeg) pa (by decide) (by decide)) (((v.1 0 15)) + (1 : Int32)) (by decide)) (((v.1 0 12)).toNatClampNeg) r99 (by decide) (by decide)) (((v.1 0 12)) + (1 : Int32)) (by decide)) (((((((v.1 0 12)) + (1 : Int32)))) + (1 : Int32)).toNatClampNeg) r105 (by decide) (by decide)) (((((((v.1 0 12)) + (1 : Int32)))) + (1 : Int32)) + (1 : Int32)) (by decide)), (show (v.1 0 12).toInt ≤ (((((((v.1 0 12)) + (1 : Int32)))) + (1 : Int32)) + (1 : Int32)).toInt ∧ (((((((v.1 0 12)) + (1 : Int32)))) + (1 : Int32)) + (1 : Int32)).toInt ≤ (v.1 0 12).toInt + 3 from (by omega)), (show (((v.1 0 15)) + (1 : Int32)).toInt = (v.1 0 15).toInt + 1 from (by omega)), (show (v.1 0 43).toInt ≤ (v.1 0 43).toInt ∧ (v.1 0 43).toInt ≤ (v.1 0 43).toInt + 1 from om_b79dd2a91d), (fun (j9 : Nat) hj9 => (Eq.trans (pk_un3 (a := ((((((v.1 0 12)) + (1 : Int32)))) + (1 : Int32)).toInt) rfl (by omega) (by omega)) (pk_un3 (a := ((v.1 0 12)).toInt) rfl (by omega) (by omega)))), (fun (j9 : Nat) hj9 => (pk_un3 (a := ((v.1 0 15)).toInt) rfl (by omega) (by omega))), (fun (j9 : Nat) hj9 => (pk_un3 (a := ((v.1 0 15)).toInt) rfl (by omega) (by omega))), (AR.o (AR.o (AR.o (AR.o (AR.o (AR.o (AR.o a40 (by decide)) (by decide)) (by decide)) (by decide)) (by decide)) (by decide)) (by decide)), (FX.o (FX.o (FX.o (FX.o (FX.o (FX.o (FX.o fx (by decide) (by decide)) (by decide) (by decide)) (by decide) (by decide)) (by decide) (by decide)) (by decide) (by decide)) (by decide) (by decide)) (by decide) (by decide)), (fun hiv => (IV.o (IV.o (IV.o (IV.o (IV.o (IV.o (IV.o hiv (by decide)) (by decide)) (by decide)) (by decide)) (by decide)) (by decide)) (by decide))), (SGE.mono (SGE.setB sg5 rfl) (show (2 : Int) ≤ (2 : Int) from om_f646c5fae3))⟩, by rw [ht9]; exact hP, hD⟩, hS.F ht9⟩) hS.2.2 dX13_operate_480
                        ·
                          by_cases h109 : pa = 15678
                          · refine lv_lookup (off := 323) (tgt := 332) hx hb dX13_operate_9 (by decide) (by rw [h109]; decide) (by decide) ?_
                            refine lv_aload_n hx hb dX13_operate_332 rfl (lv_at hl 0 rfl) ?_
                            refine lv_iconst (v := 0) hx hb dX13_operate_333 (by decide) ?_
                            refine lv_iconst (v := 2) hx hb dX13_operate_334 (by decide) ?_
                            refine lv_bipush (v := 10) hx hb dX13_operate_335 (by decide) ?_
                            refine lv_iconst (v := 5) hx hb dX13_operate_337 (by decide) ?_
                            refine lv_bipush (v := 10) hx hb dX13_operate_338 (by decide) ?_
                            refine cu_s (mW_nd _ _ _ _ _ _) (rn_S (n := 5) (As := [.int 0, .int 2, .int 10, .int 5, .int 10]) (rest := [.ref (ad 0)]) hx hb hml hown ht hKK hFx hP hD hS hA (c_m_byR l dC dI cI cB cZ cJ cR tb H.size (0 : Int32) (2 : Int32) (10 : Int32) (5 : Int32) (10 : Int32) ) tw_67 tw_68 (by decide +kernel) rfl rfl ⟨Nat.le_of_ble_eq_true rfl, Nat.le_of_ble_eq_true rfl⟩ [] rfl rfl rfl hl.1 rfl (Nat.le_of_ble_eq_true rfl) dX13_operate_340 ⟨Nat.le_of_ble_eq_true rfl, Nat.le_of_ble_eq_true rfl⟩) hP hD hS hA (fun r112 H locs hw110 hP hD hS => ?_)
                            refine W.widen (k := 0) (n := 0) (Nat.le_refl _) (Nat.le_refl _) ?_
                            refine cu_i (rn_V (n := 1) (As := [.int r112]) (rest := []) hx hb hml hown ht hKK hFx hP hD hS hA (c_m_emit l dC dI cI cB cZ cJ cR tb H.size ad N (wA (wA (wA v 13 (((v.1 0 15)).toNatClampNeg) (21 : Int32)) 14 (((v.1 0 15)).toNatClampNeg) pa) 0 15 (((v.1 0 15)) + (1 : Int32))) r112 (show 0 ≤ ((v.1 0 12)).toInt ∧ ((v.1 0 12)).toInt < 24000 from (by omega))) tw_8 tw_9 (by decide +kernel) rfl rfl ⟨Nat.le_of_ble_eq_true rfl, Nat.le_of_ble_eq_true rfl⟩ (List.range (mW ad N cI cZ cJ (wA (wA (wA v 13 (((v.1 0 15)).toNatClampNeg) (21 : Int32)) 14 (((v.1 0 15)).toNatClampNeg) pa) 0 15 (((v.1 0 15)) + (1 : Int32)))).length) (rg_map _) (mW_nd _ _ _ _ _ _) rfl rfl rfl rfl hl.1 rfl (Nat.le_of_ble_eq_true rfl) dX13_operate_343 ⟨Nat.le_of_ble_eq_true rfl, Nat.le_of_ble_eq_true rfl⟩) hP hD hS hA (fun r115 u114 H locs hw113 hP hD hS => ?_)
                            obtain ⟨rfl, rfl⟩ := hw113
                            have hP : va_P (dC, dI) vwCl (mW ad N cI cZ cJ (wA (wA (wA (wA (wA v 13 (((v.1 0 15)).toNatClampNeg) (21 : Int32)) 14 (((v.1 0 15)).toNatClampNeg) pa) 0 15 (((v.1 0 15)) + (1 : Int32))) 11 (((v.1 0 12)).toNatClampNeg) r112) 0 12 (((v.1 0 12)) + (1 : Int32)))) H := hP
                            have hD : va_D A (mW ad N cI cZ cJ (wA (wA (wA (wA (wA v 13 (((v.1 0 15)).toNatClampNeg) (21 : Int32)) 14 (((v.1 0 15)).toNatClampNeg) pa) 0 15 (((v.1 0 15)) + (1 : Int32))) 11 (((v.1 0 12)).toNatClampNeg) r112) 0 12 (((v.1 0 12)) + (1 : Int32)))) := hD
                            refine tp_i (y := ((v.1 0 12))) (rfl) ?_
                            refine W.widen (k := 0) (n := 0) (Nat.le_refl _) (Nat.le_refl _) ?_
                            refine lv_pop hx hb dX13_operate_346 rfl ?_
                            refine lv_aload_n hx hb dX13_operate_347 rfl (lv_at hl 0 rfl) ?_
                            refine lv_bipush (v := 19) hx hb dX13_operate_348 (by decide) ?_
                            refine lv_iconst (v := 4) hx hb dX13_operate_350 (by decide) ?_
                            refine lv_bipush (v := 10) hx hb dX13_operate_351 (by decide) ?_
                            refine lv_bipush (v := 10) hx hb dX13_operate_353 (by decide) ?_
                            refine lv_iconst (v := 1) hx hb dX13_operate_355 (by decide) ?_
                            refine cu_s (mW_nd _ _ _ _ _ _) (rn_S (n := 5) (As := [.int 19, .int 4, .int 10, .int 10, .int 1]) (rest := [.ref (ad 0)]) hx hb hml hown ht hKK hFx hP hD hS hA (c_m_byI l dC dI cI cB cZ cJ cR tb H.size (19 : Int32) (4 : Int32) (10 : Int32) (10 : Int32) (1 : Int32) ) tw_2 tw_3 (by decide +kernel) rfl rfl ⟨Nat.le_of_ble_eq_true rfl, Nat.le_of_ble_eq_true rfl⟩ [] rfl rfl rfl hl.1 rfl (Nat.le_of_ble_eq_true rfl) dX13_operate_356 ⟨Nat.le_of_ble_eq_true rfl, Nat.le_of_ble_eq_true rfl⟩) hP hD hS hA (fun r118 H locs hw116 hP hD hS => ?_)
                            refine W.widen (k := 0) (n := 0) (Nat.le_refl _) (Nat.le_refl _) ?_
                            refine cu_i (rn_V (n := 1) (As := [.int r118]) (rest := []) hx hb hml hown ht hKK hFx hP hD hS hA (c_m_emit l dC dI cI cB cZ cJ cR tb H.size ad N (wA (wA (wA (wA (wA v 13 (((v.1 0 15)).toNatClampNeg) (21 : Int32)) 14 (((v.1 0 15)).toNatClampNeg) pa) 0 15 (((v.1 0 15)) + (1 : Int32))) 11 (((v.1 0 12)).toNatClampNeg) r112) 0 12 (((v.1 0 12)) + (1 : Int32))) r118 (show 0 ≤ ((((((v.1 0 12)) + (1 : Int32)))) + (1 : Int32)).toInt ∧ ((((((v.1 0 12)) + (1 : Int32)))) + (1 : Int32)).toInt < 24000 from (by omega))) tw_8 tw_9 (by decide +kernel) rfl rfl ⟨Nat.le_of_ble_eq_true rfl, Nat.le_of_ble_eq_true rfl⟩ (List.range (mW ad N cI cZ cJ (wA (wA (wA (wA (wA v 13 (((v.1 0 15)).toNatClampNeg) (21 : Int32)) 14 (((v.1 0 15)).toNatClampNeg) pa) 0 15 (((v.1 0 15)) + (1 : Int32))) 11 (((v.1 0 12)).toNatClampNeg) r112) 0 12 (((v.1 0 12)) + (1 : Int32)))).length) (rg_map _) (mW_nd _ _ _ _ _ _) rfl rfl rfl rfl hl.1 rfl (Nat.le_of_ble_eq_true rfl) dX13_operate_359 ⟨Nat.le_of_ble_eq_true rfl, Nat.le_of_ble_eq_true rfl⟩) hP hD hS hA (fun r121 u120 H locs hw119 hP hD hS => ?_)
                            obtain ⟨rfl, rfl⟩ := hw119
                            have hP : va_P (dC, dI) vwCl (mW ad N cI cZ cJ (wA (wA (wA (wA (wA (wA (wA v 13 (((v.1 0 15)).toNatClampNeg) (21 : Int32)) 14 (((v.1 0 15)).toNatClampNeg) pa) 0 15 (((v.1 0 15)) + (1 : Int32))) 11 (((v.1 0 12)).toNatClampNeg) r112) 0 12 (((v.1 0 12)) + (1 : Int32))) 11 (((((((v.1 0 12)) + (1 : Int32)))) + (1 : Int32)).toNatClampNeg) r118) 0 12 (((((((v.1 0 12)) + (1 : Int32)))) + (1 : Int32)) + (1 : Int32)))) H := hP
                            have hD : va_D A (mW ad N cI cZ cJ (wA (wA (wA (wA (wA (wA (wA v 13 (((v.1 0 15)).toNatClampNeg) (21 : Int32)) 14 (((v.1 0 15)).toNatClampNeg) pa) 0 15 (((v.1 0 15)) + (1 : Int32))) 11 (((v.1 0 12)).toNatClampNeg) r112) 0 12 (((v.1 0 12)) + (1 : Int32))) 11 (((((((v.1 0 12)) + (1 : Int32)))) + (1 : Int32)).toNatClampNeg) r118) 0 12 (((((((v.1 0 12)) + (1 : Int32)))) + (1 : Int32)) + (1 : Int32)))) := hD
                            refine tp_i (y := ((((((v.1 0 12)) + (1 : Int32)))) + (1 : Int32))) (rfl) ?_
                            refine W.widen (k := 0) (n := 0) (Nat.le_refl _) (Nat.le_refl _) ?_
                            refine lv_pop hx hb dX13_operate_362 rfl ?_
                            refine lv_goto (tgt := 480) hx hb dX13_operate_363 (by decide) ?_
                            exact W.vret hx hb hr (fun t ht9 hW => ⟨⟨(wA (wA (wA (wA (wA (wA (wA v 13 (((v.1 0 15)).toNatClampNeg) (21 : Int32)) 14 (((v.1 0 15)).toNatClampNeg) pa) 0 15 (((v.1 0 15)) + (1 : Int32))) 11 (((v.1 0 12)).toNatClampNeg) r112) 0 12 (((v.1 0 12)) + (1 : Int32))) 11 (((((((v.1 0 12)) + (1 : Int32)))) + (1 : Int32)).toNatClampNeg) r118) 0 12 (((((((v.1 0 12)) + (1 : Int32)))) + (1 : Int32)) + (1 : Int32))), rfl, ⟨(FG.f (FG.a (FG.f (FG.a (FG.f (FG.a (FG.a (FG.rf _) (((v.1 0 15)).toNatClampNeg) (21 : Int32) (by decide) (by decide)) (((v.1 0 15)).toNatClampNeg) pa (by decide) (by decide)) (((v.1 0 15)) + (1 : Int32)) (by decide)) (((v.1 0 12)).toNatClampNeg) r112 (by decide) (by decide)) (((v.1 0 12)) + (1 : Int32)) (by decide)) (((((((v.1 0 12)) + (1 : Int32)))) + (1 : Int32)).toNatClampNeg) r118 (by decide) (by decide)) (((((((v.1 0 12)) + (1 : Int32)))) + (1 : Int32)) + (1 : Int32)) (by decide)), (show (v.1 0 12).toInt ≤ (((((((v.1 0 12)) + (1 : Int32)))) + (1 : Int32)) + (1 : Int32)).toInt ∧ (((((((v.1 0 12)) + (1 : Int32)))) + (1 : Int32)) + (1 : Int32)).toInt ≤ (v.1 0 12).toInt + 3 from (by omega)), (show (((v.1 0 15)) + (1 : Int32)).toInt = (v.1 0 15).toInt + 1 from (by omega)), (show (v.1 0 43).toInt ≤ (v.1 0 43).toInt ∧ (v.1 0 43).toInt ≤ (v.1 0 43).toInt + 1 from om_b79dd2a91d), (fun (j9 : Nat) hj9 => (Eq.trans (pk_un3 (a := ((((((v.1 0 12)) + (1 : Int32)))) + (1 : Int32)).toInt) rfl (by omega) (by omega)) (pk_un3 (a := ((v.1 0 12)).toInt) rfl (by omega) (by omega)))), (fun (j9 : Nat) hj9 => (pk_un3 (a := ((v.1 0 15)).toInt) rfl (by omega) (by omega))), (fun (j9 : Nat) hj9 => (pk_un3 (a := ((v.1 0 15)).toInt) rfl (by omega) (by omega))), (AR.o (AR.o (AR.o (AR.o (AR.o (AR.o (AR.o a40 (by decide)) (by decide)) (by decide)) (by decide)) (by decide)) (by decide)) (by decide)), (FX.o (FX.o (FX.o (FX.o (FX.o (FX.o (FX.o fx (by decide) (by decide)) (by decide) (by decide)) (by decide) (by decide)) (by decide) (by decide)) (by decide) (by decide)) (by decide) (by decide)) (by decide) (by decide)), (fun hiv => (IV.o (IV.o (IV.o (IV.o (IV.o (IV.o (IV.o hiv (by decide)) (by decide)) (by decide)) (by decide)) (by decide)) (by decide)) (by decide))), (SGE.mono (SGE.setB sg5 rfl) (show (2 : Int) ≤ (2 : Int) from om_f646c5fae3))⟩, by rw [ht9]; exact hP, hD⟩, hS.F ht9⟩) hS.2.2 dX13_operate_480
                          ·
                            by_cases h122 : pa = 15934
                            · refine lv_lookup (off := 234) (tgt := 243) hx hb dX13_operate_9 (by decide) (by rw [h122]; decide) (by decide) ?_
                              refine lv_aload_n hx hb dX13_operate_243 rfl (lv_at hl 0 rfl) ?_
                              refine lv_bipush (v := 32) hx hb dX13_operate_244 (by decide) ?_
                              refine lv_iconst (v := 5) hx hb dX13_operate_246 (by decide) ?_
                              refine lv_bipush (v := 10) hx hb dX13_operate_247 (by decide) ?_
                              refine lv_iconst (v := 5) hx hb dX13_operate_249 (by decide) ?_
                              refine lv_bipush (v := 10) hx hb dX13_operate_250 (by decide) ?_
                              refine cu_s (mW_nd _ _ _ _ _ _) (rn_S (n := 5) (As := [.int 32, .int 5, .int 10, .int 5, .int 10]) (rest := [.ref (ad 0)]) hx hb hml hown ht hKK hFx hP hD hS hA (c_m_byR l dC dI cI cB cZ cJ cR tb H.size (32 : Int32) (5 : Int32) (10 : Int32) (5 : Int32) (10 : Int32) ) tw_67 tw_68 (by decide +kernel) rfl rfl ⟨Nat.le_of_ble_eq_true rfl, Nat.le_of_ble_eq_true rfl⟩ [] rfl rfl rfl hl.1 rfl (Nat.le_of_ble_eq_true rfl) dX13_operate_252 ⟨Nat.le_of_ble_eq_true rfl, Nat.le_of_ble_eq_true rfl⟩) hP hD hS hA (fun r125 H locs hw123 hP hD hS => ?_)
                              refine W.widen (k := 0) (n := 0) (Nat.le_refl _) (Nat.le_refl _) ?_
                              refine cu_i (rn_V (n := 1) (As := [.int r125]) (rest := []) hx hb hml hown ht hKK hFx hP hD hS hA (c_m_emit l dC dI cI cB cZ cJ cR tb H.size ad N (wA (wA (wA v 13 (((v.1 0 15)).toNatClampNeg) (21 : Int32)) 14 (((v.1 0 15)).toNatClampNeg) pa) 0 15 (((v.1 0 15)) + (1 : Int32))) r125 (show 0 ≤ ((v.1 0 12)).toInt ∧ ((v.1 0 12)).toInt < 24000 from (by omega))) tw_8 tw_9 (by decide +kernel) rfl rfl ⟨Nat.le_of_ble_eq_true rfl, Nat.le_of_ble_eq_true rfl⟩ (List.range (mW ad N cI cZ cJ (wA (wA (wA v 13 (((v.1 0 15)).toNatClampNeg) (21 : Int32)) 14 (((v.1 0 15)).toNatClampNeg) pa) 0 15 (((v.1 0 15)) + (1 : Int32)))).length) (rg_map _) (mW_nd _ _ _ _ _ _) rfl rfl rfl rfl hl.1 rfl (Nat.le_of_ble_eq_true rfl) dX13_operate_255 ⟨Nat.le_of_ble_eq_true rfl, Nat.le_of_ble_eq_true rfl⟩) hP hD hS hA (fun r128 u127 H locs hw126 hP hD hS => ?_)
                              obtain ⟨rfl, rfl⟩ := hw126
                              have hP : va_P (dC, dI) vwCl (mW ad N cI cZ cJ (wA (wA (wA (wA (wA v 13 (((v.1 0 15)).toNatClampNeg) (21 : Int32)) 14 (((v.1 0 15)).toNatClampNeg) pa) 0 15 (((v.1 0 15)) + (1 : Int32))) 11 (((v.1 0 12)).toNatClampNeg) r125) 0 12 (((v.1 0 12)) + (1 : Int32)))) H := hP
                              have hD : va_D A (mW ad N cI cZ cJ (wA (wA (wA (wA (wA v 13 (((v.1 0 15)).toNatClampNeg) (21 : Int32)) 14 (((v.1 0 15)).toNatClampNeg) pa) 0 15 (((v.1 0 15)) + (1 : Int32))) 11 (((v.1 0 12)).toNatClampNeg) r125) 0 12 (((v.1 0 12)) + (1 : Int32)))) := hD
                              refine tp_i (y := ((v.1 0 12))) (rfl) ?_
                              refine W.widen (k := 0) (n := 0) (Nat.le_refl _) (Nat.le_refl _) ?_
                              refine lv_pop hx hb dX13_operate_258 rfl ?_
                              refine lv_goto (tgt := 480) hx hb dX13_operate_259 (by decide) ?_
                              exact W.vret hx hb hr (fun t ht9 hW => ⟨⟨(wA (wA (wA (wA (wA v 13 (((v.1 0 15)).toNatClampNeg) (21 : Int32)) 14 (((v.1 0 15)).toNatClampNeg) pa) 0 15 (((v.1 0 15)) + (1 : Int32))) 11 (((v.1 0 12)).toNatClampNeg) r125) 0 12 (((v.1 0 12)) + (1 : Int32))), rfl, ⟨(FG.f (FG.a (FG.f (FG.a (FG.a (FG.rf _) (((v.1 0 15)).toNatClampNeg) (21 : Int32) (by decide) (by decide)) (((v.1 0 15)).toNatClampNeg) pa (by decide) (by decide)) (((v.1 0 15)) + (1 : Int32)) (by decide)) (((v.1 0 12)).toNatClampNeg) r125 (by decide) (by decide)) (((v.1 0 12)) + (1 : Int32)) (by decide)), (show (v.1 0 12).toInt ≤ (((v.1 0 12)) + (1 : Int32)).toInt ∧ (((v.1 0 12)) + (1 : Int32)).toInt ≤ (v.1 0 12).toInt + 3 from (by omega)), (show (((v.1 0 15)) + (1 : Int32)).toInt = (v.1 0 15).toInt + 1 from (by omega)), (show (v.1 0 43).toInt ≤ (v.1 0 43).toInt ∧ (v.1 0 43).toInt ≤ (v.1 0 43).toInt + 1 from om_b79dd2a91d), (fun (j9 : Nat) hj9 => (pk_un3 (a := ((v.1 0 12)).toInt) rfl (by omega) (by omega))), (fun (j9 : Nat) hj9 => (pk_un3 (a := ((v.1 0 15)).toInt) rfl (by omega) (by omega))), (fun (j9 : Nat) hj9 => (pk_un3 (a := ((v.1 0 15)).toInt) rfl (by omega) (by omega))), (AR.o (AR.o (AR.o (AR.o (AR.o a40 (by decide)) (by decide)) (by decide)) (by decide)) (by decide)), (FX.o (FX.o (FX.o (FX.o (FX.o fx (by decide) (by decide)) (by decide) (by decide)) (by decide) (by decide)) (by decide) (by decide)) (by decide) (by decide)), (fun hiv => (IV.o (IV.o (IV.o (IV.o (IV.o hiv (by decide)) (by decide)) (by decide)) (by decide)) (by decide))), (SGE.mono (SGE.setB sg5 rfl) (show (2 : Int) ≤ (2 : Int) from om_f646c5fae3))⟩, by rw [ht9]; exact hP, hD⟩, hS.F ht9⟩) hS.2.2 dX13_operate_480
                            ·
                              refine lv_lookup (off := 440) (tgt := 449) hx hb dX13_operate_9 (by decide) (by show Op.lookupswitch.offset [(38, 160), (42, 426), (43, 123), (45, 141), (60, 253), (62, 271), (94, 198), (124, 179), (15420, 216), (15649, 392), (15676, 289), (15677, 357), (15678, 323), (15934, 234)] 440 _ = 440; rw [lv_osw h6 (by decide), lv_osw h13 (by decide), lv_osw h21 (by decide), lv_osw h28 (by decide), lv_osw h35 (by decide), lv_osw h42 (by decide), lv_osw h49 (by decide), lv_osw h56 (by decide), lv_osw h63 (by decide), lv_osw h70 (by decide), lv_osw h83 (by decide), lv_osw h96 (by decide), lv_osw h109 (by decide), lv_osw h122 (by decide)]; rfl) (by decide) ?_
                              refine lv_aload_n hx hb dX13_operate_449 rfl (lv_at hl 0 rfl) ?_
                              refine lv_aload_n hx hb dX13_operate_450 rfl (lv_at hl 0 rfl) ?_
                              refine lv_iconst (v := 0) hx hb dX13_operate_451 (by decide) ?_
                              refine cu_i (rn_V (n := 1) (As := [.int 0]) (rest := [.ref (ad 0)]) hx hb hml hown ht hKK hFx hP hD hS hA (c_m_emit l dC dI cI cB cZ cJ cR tb H.size ad N (wA (wA (wA v 13 (((v.1 0 15)).toNatClampNeg) (21 : Int32)) 14 (((v.1 0 15)).toNatClampNeg) pa) 0 15 (((v.1 0 15)) + (1 : Int32))) (0 : Int32) (show 0 ≤ ((v.1 0 12)).toInt ∧ ((v.1 0 12)).toInt < 24000 from (by omega))) tw_8 tw_9 (by decide +kernel) rfl rfl ⟨Nat.le_of_ble_eq_true rfl, Nat.le_of_ble_eq_true rfl⟩ (List.range (mW ad N cI cZ cJ (wA (wA (wA v 13 (((v.1 0 15)).toNatClampNeg) (21 : Int32)) 14 (((v.1 0 15)).toNatClampNeg) pa) 0 15 (((v.1 0 15)) + (1 : Int32)))).length) (rg_map _) (mW_nd _ _ _ _ _ _) rfl rfl rfl rfl hl.1 rfl (Nat.le_of_ble_eq_true rfl) dX13_operate_452 ⟨Nat.le_of_ble_eq_true rfl, Nat.le_of_ble_eq_true rfl⟩) hP hD hS hA (fun r131 u130 H locs hw129 hP hD hS => ?_)
                              obtain ⟨rfl, rfl⟩ := hw129
                              have hP : va_P (dC, dI) vwCl (mW ad N cI cZ cJ (wA (wA (wA (wA (wA v 13 (((v.1 0 15)).toNatClampNeg) (21 : Int32)) 14 (((v.1 0 15)).toNatClampNeg) pa) 0 15 (((v.1 0 15)) + (1 : Int32))) 11 (((v.1 0 12)).toNatClampNeg) (0 : Int32)) 0 12 (((v.1 0 12)) + (1 : Int32)))) H := hP
                              have hD : va_D A (mW ad N cI cZ cJ (wA (wA (wA (wA (wA v 13 (((v.1 0 15)).toNatClampNeg) (21 : Int32)) 14 (((v.1 0 15)).toNatClampNeg) pa) 0 15 (((v.1 0 15)) + (1 : Int32))) 11 (((v.1 0 12)).toNatClampNeg) (0 : Int32)) 0 12 (((v.1 0 12)) + (1 : Int32)))) := hD
                              refine tp_i (y := ((v.1 0 12))) (rfl) ?_
                              refine W.widen (k := 0) (n := 0) (Nat.le_refl _) (Nat.le_refl _) ?_
                              refine lv_bipush (v := -2) hx hb dX13_operate_455 (by decide) ?_
                              refine lv_iconst (v := 5) hx hb dX13_operate_457 (by decide) ?_
                              refine cu_v (rn_V (n := 3) (As := [.int ((v.1 0 12)), .int (-2), .int 5]) (rest := []) hx hb hml hown ht hKK hFx hP hD hS hA (c_m_fix l dC dI cI cB cZ cJ cR tb H.size ad N (wA (wA (wA (wA (wA v 13 (((v.1 0 15)).toNatClampNeg) (21 : Int32)) 14 (((v.1 0 15)).toNatClampNeg) pa) 0 15 (((v.1 0 15)) + (1 : Int32))) 11 (((v.1 0 12)).toNatClampNeg) (0 : Int32)) 0 12 (((v.1 0 12)) + (1 : Int32))) ((v.1 0 12)) (-2 : Int32) (5 : Int32) (show 0 ≤ ((v.1 0 43)).toInt ∧ ((v.1 0 43)).toInt < 24000 from (by omega)) (show 0 ≤ ((v.1 0 12)).toInt ∧ ((v.1 0 12)).toInt < 24000 from (by omega)) (show (5 : Int) = 5 ∨ (0 ≤ (-2 : Int) ∧ (-2 : Int) < 60) from om_b87fb2bb94) (show AR 40 0 23999 (wA (wA (wA (wA (wA v 13 (((v.1 0 15)).toNatClampNeg) (21 : Int32)) 14 (((v.1 0 15)).toNatClampNeg) ((v.1 0 12))) 0 15 (((v.1 0 15)) + (1 : Int32))) 11 (((v.1 0 12)).toNatClampNeg) (0 : Int32)) 0 12 (((v.1 0 12)) + (1 : Int32))) from (AR.o (AR.o (AR.o (AR.o (AR.o a40 (by decide)) (by decide)) (by decide)) (by decide)) (by decide))) (show FX (wA (wA (wA (wA (wA v 13 (((v.1 0 15)).toNatClampNeg) (21 : Int32)) 14 (((v.1 0 15)).toNatClampNeg) ((v.1 0 12))) 0 15 (((v.1 0 15)) + (1 : Int32))) 11 (((v.1 0 12)).toNatClampNeg) (0 : Int32)) 0 12 (((v.1 0 12)) + (1 : Int32))) from (FX.o (FX.o (FX.o (FX.o (FX.o fx (by decide) (by decide)) (by decide) (by decide)) (by decide) (by decide)) (by decide) (by decide)) (by decide) (by decide)))) tw_69 tw_70 (by decide +kernel) rfl rfl ⟨Nat.le_of_ble_eq_true rfl, Nat.le_of_ble_eq_true rfl⟩ (List.range (mW ad N cI cZ cJ (wA (wA (wA (wA (wA v 13 (((v.1 0 15)).toNatClampNeg) (21 : Int32)) 14 (((v.1 0 15)).toNatClampNeg) pa) 0 15 (((v.1 0 15)) + (1 : Int32))) 11 (((v.1 0 12)).toNatClampNeg) (0 : Int32)) 0 12 (((v.1 0 12)) + (1 : Int32)))).length) (rg_map _) (mW_nd _ _ _ _ _ _) rfl rfl rfl rfl hl.1 rfl (Nat.le_of_ble_eq_true rfl) dX13_operate_458 ⟨Nat.le_of_ble_eq_true rfl, Nat.le_of_ble_eq_true rfl⟩) hP hD hS hA (fun u133 H locs hw132 hP hD hS => ?_)
                              obtain ⟨fr132, pf132, a40132, fx132, iv132⟩ := hw132
                              have pf132 : (u133.1 0 43).toInt = ((v.1 0 43)).toInt + 1 := pf132
                              have a40132 : AR 40 0 23999 u133 := a40132
                              have fx132 : FX u133 := fx132
                              have iv132 : IV (wA (wA (wA (wA (wA v 13 (((v.1 0 15)).toNatClampNeg) (21 : Int32)) 14 (((v.1 0 15)).toNatClampNeg) ((v.1 0 12))) 0 15 (((v.1 0 15)) + (1 : Int32))) 11 (((v.1 0 12)).toNatClampNeg) (0 : Int32)) 0 12 (((v.1 0 12)) + (1 : Int32))) → IV u133 := iv132
                              have sg135 : SGE (v.1 0 30).toInt (v.1 0 28).toInt (v.1 0 27).toInt (u133.1 13) (u133.1 14) (u133.1 36) (u133.1 38) (v.1 0 15).toNatClampNeg (u133.1 0 15).toNatClampNeg (v.1 0 39).toNatClampNeg (u133.1 0 39).toNatClampNeg ([false, false]) [false] ((2 : Int)) [] := SGE.to sg5 (fun j9 _ => congrFun (fr132.2.2 13 (by decide)) j9) (fun j9 _ => congrFun (fr132.2.2 14 (by decide)) j9) (fun j9 _ _ => congrFun (fr132.2.2 36 (by decide)) j9) (fun j9 _ _ => congrFun (fr132.2.2 38 (by decide)) j9) (congrArg Int32.toNatClampNeg (fr132.2.1 15 (by decide))) (congrArg Int32.toNatClampNeg (fr132.2.1 39 (by decide))) (Int.le_refl _)
                              refine W.widen (k := 0) (n := 0) (Nat.le_refl _) (Nat.le_refl _) ?_
                              refine lv_iload_n hx hb dX13_operate_461 rfl (lv_at hl 1 rfl) ?_
                              refine lv_bipush (v := 37) hx hb dX13_operate_462 (by decide) ?_
                              refine lv_icmp_ne (tgt := 480) hx hb dX13_operate_464 (by decide) (fun h136 => ?_) (fun h136 => ?_)
                              · have z137 : pa.toInt ≠ (37 : Int) := ne_z rfl (show (37 : Int32).toInt = (37 : Int) by decide) h136
                                exact W.vret hx hb hr (fun t ht9 hW => ⟨⟨u133, rfl, ⟨(FG.tr (FG.f (FG.a (FG.f (FG.a (FG.a (FG.rf _) (((v.1 0 15)).toNatClampNeg) (21 : Int32) (by decide) (by decide)) (((v.1 0 15)).toNatClampNeg) pa (by decide) (by decide)) (((v.1 0 15)) + (1 : Int32)) (by decide)) (((v.1 0 12)).toNatClampNeg) (0 : Int32) (by decide) (by decide)) (((v.1 0 12)) + (1 : Int32)) (by decide)) (FG.up fr132 (by decide) (by decide))), (show (v.1 0 12).toInt ≤ (u133.1 0 12).toInt ∧ (u133.1 0 12).toInt ≤ (v.1 0 12).toInt + 3 from (by omega)), (show (u133.1 0 15).toInt = (v.1 0 15).toInt + 1 from (by omega)), (show (v.1 0 43).toInt ≤ (u133.1 0 43).toInt ∧ (u133.1 0 43).toInt ≤ (v.1 0 43).toInt + 1 from (by omega)), (fun (j9 : Nat) hj9 => (Eq.trans (congrFun (fr132.2.2 11 (by decide)) j9) (pk_un3 (a := ((v.1 0 12)).toInt) rfl (by omega) (by omega)))), (fun (j9 : Nat) hj9 => (Eq.trans (congrFun (fr132.2.2 13 (by decide)) j9) (pk_un3 (a := ((v.1 0 15)).toInt) rfl (by omega) (by omega)))), (fun (j9 : Nat) hj9 => (Eq.trans (congrFun (fr132.2.2 14 (by decide)) j9) (pk_un3 (a := ((v.1 0 15)).toInt) rfl (by omega) (by omega)))), a40132, fx132, (fun hiv => (iv132 (IV.o (IV.o (IV.o (IV.o (IV.o hiv (by decide)) (by decide)) (by decide)) (by decide)) (by decide)))), (SGE.mono (SGE.setB sg135 rfl) (show (2 : Int) ≤ (2 : Int) from om_f646c5fae3))⟩, by rw [ht9]; exact hP, hD⟩, hS.F ht9⟩) hS.2.2 dX13_operate_480
                              · have z138 : pa.toInt = (37 : Int) := eq_z rfl (show (37 : Int32).toInt = (37 : Int) by decide) h136
                                refine lv_aload_n hx hb dX13_operate_467 rfl (lv_at hl 0 rfl) ?_
                                refine lv_bipush (v := 10) hx hb dX13_operate_468 (by decide) ?_
                                refine lv_bipush (v := 6) hx hb dX13_operate_470 (by decide) ?_
                                refine lv_iconst (v := 0) hx hb dX13_operate_472 (by decide) ?_
                                refine cu_s (mW_nd _ _ _ _ _ _) (rn_S (n := 3) (As := [.int 10, .int 6, .int 0]) (rest := [.ref (ad 0)]) hx hb hml hown ht hKK hFx hP hD hS hA (c_m_addi l dC dI cI cB cZ cJ cR tb H.size (10 : Int32) (6 : Int32) (0 : Int32) ) tw_65 tw_66 (by decide +kernel) rfl rfl ⟨Nat.le_of_ble_eq_true rfl, Nat.le_of_ble_eq_true rfl⟩ [] rfl rfl rfl hl.1 rfl (Nat.le_of_ble_eq_true rfl) dX13_operate_473 ⟨Nat.le_of_ble_eq_true rfl, Nat.le_of_ble_eq_true rfl⟩) hP hD hS hA (fun r141 H locs hw139 hP hD hS => ?_)
                                refine W.widen (k := 0) (n := 0) (Nat.le_refl _) (Nat.le_refl _) ?_
                                refine cu_i (rn_V (n := 1) (As := [.int r141]) (rest := []) hx hb hml hown ht hKK hFx hP hD hS hA (c_m_emit l dC dI cI cB cZ cJ cR tb H.size ad N u133 r141 (show 0 ≤ (u133.1 0 12).toInt ∧ (u133.1 0 12).toInt < 24000 from (by omega))) tw_8 tw_9 (by decide +kernel) rfl rfl ⟨Nat.le_of_ble_eq_true rfl, Nat.le_of_ble_eq_true rfl⟩ (List.range (mW ad N cI cZ cJ u133).length) (rg_map _) (mW_nd _ _ _ _ _ _) rfl rfl rfl rfl hl.1 rfl (Nat.le_of_ble_eq_true rfl) dX13_operate_476 ⟨Nat.le_of_ble_eq_true rfl, Nat.le_of_ble_eq_true rfl⟩) hP hD hS hA (fun r144 u143 H locs hw142 hP hD hS => ?_)
                                obtain ⟨rfl, rfl⟩ := hw142
                                have hP : va_P (dC, dI) vwCl (mW ad N cI cZ cJ (wA (wA u133 11 ((u133.1 0 12).toNatClampNeg) r141) 0 12 ((u133.1 0 12) + (1 : Int32)))) H := hP
                                have hD : va_D A (mW ad N cI cZ cJ (wA (wA u133 11 ((u133.1 0 12).toNatClampNeg) r141) 0 12 ((u133.1 0 12) + (1 : Int32)))) := hD
                                refine tp_i (y := (u133.1 0 12)) (rfl) ?_
                                refine W.widen (k := 0) (n := 0) (Nat.le_refl _) (Nat.le_refl _) ?_
                                refine lv_pop hx hb dX13_operate_479 rfl ?_
                                exact W.vret hx hb hr (fun t ht9 hW => ⟨⟨(wA (wA u133 11 ((u133.1 0 12).toNatClampNeg) r141) 0 12 ((u133.1 0 12) + (1 : Int32))), rfl, ⟨(FG.f (FG.a (FG.tr (FG.f (FG.a (FG.f (FG.a (FG.a (FG.rf _) (((v.1 0 15)).toNatClampNeg) (21 : Int32) (by decide) (by decide)) (((v.1 0 15)).toNatClampNeg) pa (by decide) (by decide)) (((v.1 0 15)) + (1 : Int32)) (by decide)) (((v.1 0 12)).toNatClampNeg) (0 : Int32) (by decide) (by decide)) (((v.1 0 12)) + (1 : Int32)) (by decide)) (FG.up fr132 (by decide) (by decide))) ((u133.1 0 12).toNatClampNeg) r141 (by decide) (by decide)) ((u133.1 0 12) + (1 : Int32)) (by decide)), (show (v.1 0 12).toInt ≤ ((u133.1 0 12) + (1 : Int32)).toInt ∧ ((u133.1 0 12) + (1 : Int32)).toInt ≤ (v.1 0 12).toInt + 3 from (by omega)), (show (u133.1 0 15).toInt = (v.1 0 15).toInt + 1 from (by omega)), (show (v.1 0 43).toInt ≤ (u133.1 0 43).toInt ∧ (u133.1 0 43).toInt ≤ (v.1 0 43).toInt + 1 from (by omega)), (fun (j9 : Nat) hj9 => (Eq.trans (pk_un3 (a := (u133.1 0 12).toInt) rfl (by omega) (by omega)) (Eq.trans (congrFun (fr132.2.2 11 (by decide)) j9) (pk_un3 (a := ((v.1 0 12)).toInt) rfl (by omega) (by omega))))), (fun (j9 : Nat) hj9 => (Eq.trans (congrFun (fr132.2.2 13 (by decide)) j9) (pk_un3 (a := ((v.1 0 15)).toInt) rfl (by omega) (by omega)))), (fun (j9 : Nat) hj9 => (Eq.trans (congrFun (fr132.2.2 14 (by decide)) j9) (pk_un3 (a := ((v.1 0 15)).toInt) rfl (by omega) (by omega)))), (AR.o (AR.o a40132 (by decide)) (by decide)), (FX.o (FX.o fx132 (by decide) (by decide)) (by decide) (by decide)), (fun hiv => (IV.o (IV.o (iv132 (IV.o (IV.o (IV.o (IV.o (IV.o hiv (by decide)) (by decide)) (by decide)) (by decide)) (by decide))) (by decide)) (by decide))), (SGE.mono (SGE.setB sg135 rfl) (show (2 : Int) ≤ (2 : Int) from om_f646c5fae3))⟩, by rw [ht9]; exact hP, hD⟩, hS.F ht9⟩) hS.2.2 dX13_operate_480
theorem om_246a963eff {x0 x1 x2 x3 : Int} (h0 : (0 ≤ x0 ∨ (0 ≤ x1 ∧ x1 < x2)) ∧ x0 < x3 ∧ x2 ≤ 60) (h1 : x0 < (0 : Int)) : (0 : Int) = 5 ∨ (0 ≤ x1 ∧ x1 < 60) := by omega
theorem om_8b89f6d161 {x0 x1 x2 x3 : Int} (h0 : (0 ≤ x0 ∨ (0 ≤ x1 ∧ x1 < x2)) ∧ x0 < x3 ∧ x2 ≤ 60) (h1 : x0 < (0 : Int)) : (1 : Int) = 5 ∨ (0 ≤ x1 ∧ x1 < 60) := by omega
theorem om_6eab8eb682 {x0 x1 x2 x3 : Int} (h0 : (0 ≤ x0 ∨ (0 ≤ x1 ∧ x1 < x2)) ∧ x0 < x3 ∧ x2 ≤ 60) (h1 : x0 < (0 : Int)) : 0 ≤ x1 := by omega
theorem om_8363739f4d {x0 x1 x2 x3 : Int} (h0 : (0 ≤ x0 ∨ (0 ≤ x1 ∧ x1 < x2)) ∧ x0 < x3 ∧ x2 ≤ 60) (h1 : x0 < (0 : Int)) : x1 < 60 := by omega
theorem om_f695bc8f0e {x0 x1 x2 x3 x4 x5 : Int} (h0 : (0 ≤ x0 ∨ (0 ≤ x1 ∧ x1 < x2)) ∧ x0 < x3 ∧ x2 ≤ 60) (h1 : x0 < (0 : Int)) (h2 : x4 = x2) (h3 : x5 = x4) : x1 < x5 := by omega
theorem om_11b92a7bac {x0 x1 x2 : Int} (h0 : 0 ≤ x0 ∧ x0 ≤ 15980) (h1 : x1 = x0) (h2 : x2 = x1) : 0 ≤ x2 ∧ x2 < 16000 := by omega
theorem om_1db8b32f2a {x0 x1 x2 : Int} (h0 : 0 ≤ x0 ∧ x0 ≤ 15980) (h1 : x1 = x0) (h2 : x2 = x1) : -2147483648 ≤ (x2) + (1 : Int) := by omega
theorem om_1d362dd496 {x0 x1 x2 : Int} (h0 : 0 ≤ x0 ∧ x0 ≤ 15980) (h1 : x1 = x0) (h2 : x2 = x1) : (x2) + (1 : Int) < 2147483648 := by omega
theorem om_333b46aa40 {x0 x1 x2 x3 x4 : Int} (h0 : x0 = x1) (h1 : x2 = x0) (h2 : 0 ≤ x3 ∧ 1 ≤ x4 ∧ x3 + x4 ≤ x2) : 0 ≤ x3 ∧ x3 < x1 := by omega
theorem om_256c01d5aa {x0 x1 x2 : Int} (h0 : 0 ≤ x0 ∧ x0 ≤ 15980) (h1 : x1 = x0) (h2 : x2 = x1) : 0 ≤ x2 := by omega
theorem om_04bc2837ae {x0 x1 x2 x3 : Int} (h0 : x0 = x1) (h1 : x2 = x0) (h2 : x3 = (x2) + (1 : Int)) : x3 = x1 + 1 := by omega
theorem om_2a5d4a8f22 {x0 x1 x2 : Int} {n3 : Nat} (h0 : x0 = x1) (h1 : x2 = x0) (h2 : (n3 : Int) < x1) : (n3 : Int) < x2 := by omega
theorem om_0ed08f574b {x0 x1 x2 x3 : Int} (h0 : (0 ≤ x0 ∨ (0 ≤ x1 ∧ x1 < x2)) ∧ x0 < x3 ∧ x2 ≤ 60) (h1 : (0 : Int) ≤ x0) : 0 ≤ x0 ∧ x0 < x3 := by omega
theorem om_798cb3402e {x0 : Int} : x0 ≤ x0 ∧ x0 ≤ x0 + 2 := by omega
set_option maxHeartbeats 4000000 in
set_option maxRecDepth 100000 in
theorem c_m_fetch (l : Launch) (dC : Nat → ClassId) (dI : Nat → Nat → Nat) (cI cB cZ cJ cR : ClassId) (tb : Nat → Nat) (sz : Nat) (ad : Nat → Nat) (N : Nat) (v : MS) (pa : Int32) (pb : Int32) (zw : 0 ≤ (v.1 0 12).toInt ∧ (v.1 0 12).toInt ≤ 23980) (zo : 0 ≤ (v.1 0 15).toInt ∧ (v.1 0 15).toInt ≤ 15980) (zf : 0 ≤ (v.1 0 43).toInt ∧ (v.1 0 43).toInt ≤ 23980) (zg : (0 ≤ pa.toInt ∨ (0 ≤ pb.toInt ∧ pb.toInt < (v.1 0 27).toInt)) ∧ pa.toInt < (v.1 0 30).toInt ∧ (v.1 0 27).toInt ≤ 60) (a40 : AR 40 0 23999 v) (fx : FX v) (gf : GF v) : Met l yX13_fetch (Cond.code yX13_fetch cX13_fetch 3 none :: tw_W) ({ frames := 2, cells := 0, slots := 0, locals := 46 }) (pc_ (dC, dI) (tyS cI cB cZ cJ cR) tb (mW ad N cI cZ cJ v) sz [.ref (ad 0), .int pa, .int pb]) (qv_ (dC, dI) (mW ad N cI cZ cJ v) sz (fun (u : MS) => FG [12, 15, 43] [0, 11, 13, 14, 40, 41, 42] v u ∧ ((v.1 0 12).toInt ≤ (u.1 0 12).toInt ∧ (u.1 0 12).toInt ≤ (v.1 0 12).toInt + 2) ∧ ((u.1 0 15).toInt = (v.1 0 15).toInt + 1) ∧ ((v.1 0 43).toInt ≤ (u.1 0 43).toInt ∧ (u.1 0 43).toInt ≤ (v.1 0 43).toInt + 2) ∧ (∀ j : Nat, (j : Int) < (v.1 0 12).toInt → (u.1 11) j = (v.1 11) j) ∧ (∀ j : Nat, (j : Int) < (v.1 0 15).toInt → (u.1 13) j = (v.1 13) j) ∧ (∀ j : Nat, (j : Int) < (v.1 0 15).toInt → (u.1 14) j = (v.1 14) j) ∧ (AR 40 0 23999 u) ∧ (FX u) ∧ (IV v → IV u) ∧ (SGE (v.1 0 30).toInt (v.1 0 28).toInt (v.1 0 27).toInt (u.1 13) (u.1 14) (u.1 36) (u.1 38) (v.1 0 15).toNatClampNeg (u.1 0 15).toNatClampNeg (v.1 0 39).toNatClampNeg (u.1 0 39).toNatClampNeg [] [false] ((1 : Int)) [])) (fun (u : MS) => (mW ad N cI cZ cJ u))) 0 0 (va_A (mW ad N cI cZ cJ v) sz) := by
  refine Met.ofW (cc := cX13_fetch) (maxL := 3) (ret := none) (by decide) rfl ?_
  intro p e s m args below meth c s₁ B hml hv
  obtain ⟨rfl, hsz, hP, hKK, hD0, hFx⟩ := hv
  have hK := hKK.1
  have hx := B.exec
  have hb := B.bytes
  have hr := B.returns
  have ht : ∀ w ∈ tw_W, w.before _ s = true := fun w h => atoms_spec (ws := Cond.code yX13_fetch cX13_fetch 3 none :: tw_W) B.pre w (List.mem_cons_of_mem _ h)
  have hown : s.vm.findClass RX13 = some m.cls := findClass_of_methodNamed B.named
  have hlocks := B.notSynchronized
  subst hsz
  unfold qv_
  have hD := hD0.self (sz := s.heap.size)
  generalize hAe : va_A (mW ad N cI cZ cJ v) s.heap.size = A at hD hFx ⊢
  have hA : ∀ q : Nat, s.heap.size ≤ q → A q := fun q h => by rw [← hAe]; exact Or.inr h
  have hS : va_S A s.heap s.heap [] := va_S.rf
  have hl := lv_entry ([.ref (ad 0), .int pa, .int pb]) (n := 3) (Nat.le_of_ble_eq_true rfl)
  rw [lg_entry_eq]
  generalize (lg_sl ([.ref (ad 0), .int pa, .int pb]) ++ List.replicate (3 - (lg_sl ([.ref (ad 0), .int pa, .int pb])).length) Slot.unset).toArray = ls at hl ⊢
  have hl : lv_has ls 3 [(0, .ref (ad 0)), (1, .int pa), (2, .int pb)] := hl
  have sg1 : SGE (v.1 0 30).toInt (v.1 0 28).toInt (v.1 0 27).toInt (v.1 13) (v.1 14) (v.1 36) (v.1 38) (v.1 0 15).toNatClampNeg (v.1 0 15).toNatClampNeg (v.1 0 39).toNatClampNeg (v.1 0 39).toNatClampNeg [] [] ((1 : Int)) [] := SGE.nil rfl (lenle (0 : Int) (by decide) om_0f34b291e9)
  refine lv_iload_n hx hb dX13_fetch_0 rfl (lv_at hl 1 rfl) ?_
  refine lv_if_lt (tgt := 30) hx hb dX13_fetch_1 (by decide) (fun h2 => ?_) (fun h2 => ?_)
  · have z3 : pa.toInt < (0 : Int) := lt_z rfl (show (0 : Int32).toInt = (0 : Int) by decide) h2
    refine lv_aload_n hx hb dX13_fetch_30 rfl (lv_at hl 0 rfl) ?_
    refine lv_aload_n hx hb dX13_fetch_31 rfl (lv_at hl 0 rfl) ?_
    refine lv_bipush (v := 6) hx hb dX13_fetch_32 (by decide) ?_
    refine lv_iconst (v := 0) hx hb dX13_fetch_34 (by decide) ?_
    refine cu_s (mW_nd _ _ _ _ _ _) (rn_S (n := 2) (As := [.int 6, .int 0]) (rest := [.ref (ad 0), .ref (ad 0)]) hx hb hml hown ht hKK hFx hP hD hS hA (c_m_lui l dC dI cI cB cZ cJ cR tb s.heap.size (6 : Int32) (0 : Int32) ) tw_61 tw_62 (by decide +kernel) rfl rfl ⟨Nat.le_of_ble_eq_true rfl, Nat.le_of_ble_eq_true rfl⟩ [] rfl rfl rfl hl.1 rfl (Nat.le_of_ble_eq_true rfl) dX13_fetch_35 ⟨Nat.le_of_ble_eq_true rfl, Nat.le_of_ble_eq_true rfl⟩) hP hD hS hA (fun r6 H locs hw4 hP hD hS => ?_)
    refine W.widen (k := 0) (n := 0) (Nat.le_refl _) (Nat.le_refl _) ?_
    refine cu_i (rn_V (n := 1) (As := [.int r6]) (rest := [.ref (ad 0)]) hx hb hml hown ht hKK hFx hP hD hS hA (c_m_emit l dC dI cI cB cZ cJ cR tb H.size ad N v r6 (show 0 ≤ ((v.1 0 12)).toInt ∧ ((v.1 0 12)).toInt < 24000 from (by omega))) tw_8 tw_9 (by decide +kernel) rfl rfl ⟨Nat.le_of_ble_eq_true rfl, Nat.le_of_ble_eq_true rfl⟩ (List.range (mW ad N cI cZ cJ v).length) (rg_map _) (mW_nd _ _ _ _ _ _) rfl rfl rfl rfl hl.1 rfl (Nat.le_of_ble_eq_true rfl) dX13_fetch_38 ⟨Nat.le_of_ble_eq_true rfl, Nat.le_of_ble_eq_true rfl⟩) hP hD hS hA (fun r9 u8 H locs hw7 hP hD hS => ?_)
    obtain ⟨rfl, rfl⟩ := hw7
    have hP : va_P (dC, dI) vwCl (mW ad N cI cZ cJ (wA (wA v 11 (((v.1 0 12)).toNatClampNeg) r6) 0 12 (((v.1 0 12)) + (1 : Int32)))) H := hP
    have hD : va_D A (mW ad N cI cZ cJ (wA (wA v 11 (((v.1 0 12)).toNatClampNeg) r6) 0 12 (((v.1 0 12)) + (1 : Int32)))) := hD
    refine tp_i (y := ((v.1 0 12))) (rfl) ?_
    refine W.widen (k := 0) (n := 0) (Nat.le_refl _) (Nat.le_refl _) ?_
    refine lv_iload_n hx hb dX13_fetch_41 rfl (lv_at hl 2 rfl) ?_
    refine lv_iconst (v := 0) hx hb dX13_fetch_42 (by decide) ?_
    refine cu_v (rn_V (n := 3) (As := [.int ((v.1 0 12)), .int pb, .int 0]) (rest := []) hx hb hml hown ht hKK hFx hP hD hS hA (c_m_fix l dC dI cI cB cZ cJ cR tb H.size ad N (wA (wA v 11 (((v.1 0 12)).toNatClampNeg) r6) 0 12 (((v.1 0 12)) + (1 : Int32))) ((v.1 0 12)) pb (0 : Int32) (show 0 ≤ ((v.1 0 43)).toInt ∧ ((v.1 0 43)).toInt < 24000 from (by omega)) (show 0 ≤ ((v.1 0 12)).toInt ∧ ((v.1 0 12)).toInt < 24000 from (by omega)) (show (0 : Int) = 5 ∨ (0 ≤ pb.toInt ∧ pb.toInt < 60) from (om_246a963eff zg z3)) (show AR 40 0 23999 (wA (wA v 11 (((v.1 0 12)).toNatClampNeg) r6) 0 12 (((v.1 0 12)) + (1 : Int32))) from (AR.o (AR.o a40 (by decide)) (by decide))) (show FX (wA (wA v 11 (((v.1 0 12)).toNatClampNeg) r6) 0 12 (((v.1 0 12)) + (1 : Int32))) from (FX.o (FX.o fx (by decide) (by decide)) (by decide) (by decide)))) tw_69 tw_70 (by decide +kernel) rfl rfl ⟨Nat.le_of_ble_eq_true rfl, Nat.le_of_ble_eq_true rfl⟩ (List.range (mW ad N cI cZ cJ (wA (wA v 11 (((v.1 0 12)).toNatClampNeg) r6) 0 12 (((v.1 0 12)) + (1 : Int32)))).length) (rg_map _) (mW_nd _ _ _ _ _ _) rfl rfl rfl rfl hl.1 rfl (Nat.le_of_ble_eq_true rfl) dX13_fetch_43 ⟨Nat.le_of_ble_eq_true rfl, Nat.le_of_ble_eq_true rfl⟩) hP hD hS hA (fun u11 H locs hw10 hP hD hS => ?_)
    obtain ⟨fr10, pf10, a4010, fx10, iv10⟩ := hw10
    have pf10 : (u11.1 0 43).toInt = ((v.1 0 43)).toInt + 1 := pf10
    have a4010 : AR 40 0 23999 u11 := a4010
    have fx10 : FX u11 := fx10
    have iv10 : IV (wA (wA v 11 (((v.1 0 12)).toNatClampNeg) r6) 0 12 (((v.1 0 12)) + (1 : Int32))) → IV u11 := iv10
    have sg13 : SGE (v.1 0 30).toInt (v.1 0 28).toInt (v.1 0 27).toInt (u11.1 13) (u11.1 14) (u11.1 36) (u11.1 38) (v.1 0 15).toNatClampNeg (u11.1 0 15).toNatClampNeg (v.1 0 39).toNatClampNeg (u11.1 0 39).toNatClampNeg [] [] ((1 : Int)) [] := SGE.to sg1 (fun j9 _ => congrFun (fr10.2.2 13 (by decide)) j9) (fun j9 _ => congrFun (fr10.2.2 14 (by decide)) j9) (fun j9 _ _ => congrFun (fr10.2.2 36 (by decide)) j9) (fun j9 _ _ => congrFun (fr10.2.2 38 (by decide)) j9) (congrArg Int32.toNatClampNeg (fr10.2.1 15 (by decide))) (congrArg Int32.toNatClampNeg (fr10.2.1 39 (by decide))) (Int.le_refl _)
    refine W.widen (k := 0) (n := 0) (Nat.le_refl _) (Nat.le_refl _) ?_
    refine lv_aload_n hx hb dX13_fetch_46 rfl (lv_at hl 0 rfl) ?_
    refine lv_aload_n hx hb dX13_fetch_47 rfl (lv_at hl 0 rfl) ?_
    refine lv_bipush (v := 10) hx hb dX13_fetch_48 (by decide) ?_
    refine lv_iconst (v := 0) hx hb dX13_fetch_50 (by decide) ?_
    refine lv_bipush (v := 6) hx hb dX13_fetch_51 (by decide) ?_
    refine cu_s (mW_nd _ _ _ _ _ _) (rn_S (n := 3) (As := [.int 10, .int 0, .int 6]) (rest := [.ref (ad 0), .ref (ad 0)]) hx hb hml hown ht hKK hFx hP hD hS hA (c_m_lw l dC dI cI cB cZ cJ cR tb H.size (10 : Int32) (0 : Int32) (6 : Int32) ) tw_71 tw_72 (by decide +kernel) rfl rfl ⟨Nat.le_of_ble_eq_true rfl, Nat.le_of_ble_eq_true rfl⟩ [] rfl rfl rfl hl.1 rfl (Nat.le_of_ble_eq_true rfl) dX13_fetch_53 ⟨Nat.le_of_ble_eq_true rfl, Nat.le_of_ble_eq_true rfl⟩) hP hD hS hA (fun r16 H locs hw14 hP hD hS => ?_)
    refine W.widen (k := 0) (n := 0) (Nat.le_refl _) (Nat.le_refl _) ?_
    refine cu_i (rn_V (n := 1) (As := [.int r16]) (rest := [.ref (ad 0)]) hx hb hml hown ht hKK hFx hP hD hS hA (c_m_emit l dC dI cI cB cZ cJ cR tb H.size ad N u11 r16 (show 0 ≤ (u11.1 0 12).toInt ∧ (u11.1 0 12).toInt < 24000 from (by omega))) tw_8 tw_9 (by decide +kernel) rfl rfl ⟨Nat.le_of_ble_eq_true rfl, Nat.le_of_ble_eq_true rfl⟩ (List.range (mW ad N cI cZ cJ u11).length) (rg_map _) (mW_nd _ _ _ _ _ _) rfl rfl rfl rfl hl.1 rfl (Nat.le_of_ble_eq_true rfl) dX13_fetch_56 ⟨Nat.le_of_ble_eq_true rfl, Nat.le_of_ble_eq_true rfl⟩) hP hD hS hA (fun r19 u18 H locs hw17 hP hD hS => ?_)
    obtain ⟨rfl, rfl⟩ := hw17
    have hP : va_P (dC, dI) vwCl (mW ad N cI cZ cJ (wA (wA u11 11 ((u11.1 0 12).toNatClampNeg) r16) 0 12 ((u11.1 0 12) + (1 : Int32)))) H := hP
    have hD : va_D A (mW ad N cI cZ cJ (wA (wA u11 11 ((u11.1 0 12).toNatClampNeg) r16) 0 12 ((u11.1 0 12) + (1 : Int32)))) := hD
    refine tp_i (y := (u11.1 0 12)) (rfl) ?_
    refine W.widen (k := 0) (n := 0) (Nat.le_refl _) (Nat.le_refl _) ?_
    refine lv_iload_n hx hb dX13_fetch_59 rfl (lv_at hl 2 rfl) ?_
    refine lv_iconst (v := 1) hx hb dX13_fetch_60 (by decide) ?_
    refine cu_v (rn_V (n := 3) (As := [.int (u11.1 0 12), .int pb, .int 1]) (rest := []) hx hb hml hown ht hKK hFx hP hD hS hA (c_m_fix l dC dI cI cB cZ cJ cR tb H.size ad N (wA (wA u11 11 ((u11.1 0 12).toNatClampNeg) r16) 0 12 ((u11.1 0 12) + (1 : Int32))) (u11.1 0 12) pb (1 : Int32) (show 0 ≤ (u11.1 0 43).toInt ∧ (u11.1 0 43).toInt < 24000 from (by omega)) (show 0 ≤ (u11.1 0 12).toInt ∧ (u11.1 0 12).toInt < 24000 from (by omega)) (show (1 : Int) = 5 ∨ (0 ≤ pb.toInt ∧ pb.toInt < 60) from (om_8b89f6d161 zg z3)) (show AR 40 0 23999 (wA (wA u11 11 ((u11.1 0 12).toNatClampNeg) r16) 0 12 ((u11.1 0 12) + (1 : Int32))) from (AR.o (AR.o a4010 (by decide)) (by decide))) (show FX (wA (wA u11 11 ((u11.1 0 12).toNatClampNeg) r16) 0 12 ((u11.1 0 12) + (1 : Int32))) from (FX.o (FX.o fx10 (by decide) (by decide)) (by decide) (by decide)))) tw_69 tw_70 (by decide +kernel) rfl rfl ⟨Nat.le_of_ble_eq_true rfl, Nat.le_of_ble_eq_true rfl⟩ (List.range (mW ad N cI cZ cJ (wA (wA u11 11 ((u11.1 0 12).toNatClampNeg) r16) 0 12 ((u11.1 0 12) + (1 : Int32)))).length) (rg_map _) (mW_nd _ _ _ _ _ _) rfl rfl rfl rfl hl.1 rfl (Nat.le_of_ble_eq_true rfl) dX13_fetch_61 ⟨Nat.le_of_ble_eq_true rfl, Nat.le_of_ble_eq_true rfl⟩) hP hD hS hA (fun u21 H locs hw20 hP hD hS => ?_)
    obtain ⟨fr20, pf20, a4020, fx20, iv20⟩ := hw20
    have pf20 : (u21.1 0 43).toInt = (u11.1 0 43).toInt + 1 := pf20
    have a4020 : AR 40 0 23999 u21 := a4020
    have fx20 : FX u21 := fx20
    have iv20 : IV (wA (wA u11 11 ((u11.1 0 12).toNatClampNeg) r16) 0 12 ((u11.1 0 12) + (1 : Int32))) → IV u21 := iv20
    have sg23 : SGE (v.1 0 30).toInt (v.1 0 28).toInt (v.1 0 27).toInt (u21.1 13) (u21.1 14) (u21.1 36) (u21.1 38) (v.1 0 15).toNatClampNeg (u21.1 0 15).toNatClampNeg (v.1 0 39).toNatClampNeg (u21.1 0 39).toNatClampNeg [] [] ((1 : Int)) [] := SGE.to sg13 (fun j9 _ => congrFun (fr20.2.2 13 (by decide)) j9) (fun j9 _ => congrFun (fr20.2.2 14 (by decide)) j9) (fun j9 _ _ => congrFun (fr20.2.2 36 (by decide)) j9) (fun j9 _ _ => congrFun (fr20.2.2 38 (by decide)) j9) (congrArg Int32.toNatClampNeg (fr20.2.1 15 (by decide))) (congrArg Int32.toNatClampNeg (fr20.2.1 39 (by decide))) (Int.le_refl _)
    refine W.widen (k := 0) (n := 0) (Nat.le_refl _) (Nat.le_refl _) ?_
    refine lv_aload_n hx hb dX13_fetch_64 rfl (lv_at hl 0 rfl) ?_
    refine lv_iconst (v := 3) hx hb dX13_fetch_65 (by decide) ?_
    refine lv_aload_n hx hb dX13_fetch_66 rfl (lv_at hl 0 rfl) ?_
    refine va_get (D := (dC, dI)) (ci := 16) (fs := mF ad u21) (v := .ref (ad 25)) (C := RX13) (T := TX13) (N := 124) hx hb ht itX13 hown hK hP 0 rfl rfl 25 (by decide) (ht _ tw_73) (fun _ h9 => h9) rfl dX13_fetch_67 ?_
    refine lv_iload_n hx hb dX13_fetch_70 rfl (lv_at hl 2 rfl) ?_
    refine va_iald (D := (dC, dI)) (f := (u21.1 25)) hx hb hK hP 19 0 rfl rfl (in_y (a := pb.toInt) (b := 60) rfl (om_6eab8eb682 zg z3) (om_8363739f4d zg z3) rfl) dX13_fetch_71 ?_
    have q25 : (u11.1 0 27).toInt = (v.1 0 27).toInt := congrArg Int32.toInt ((fr10.2.1 27 (by decide)).trans (show (wA (wA v 11 (((v.1 0 12)).toNatClampNeg) r6) 0 12 (((v.1 0 12)) + (1 : Int32))).1 0 27 = (v.1 0 27) by rfl))
    have q26 : (u21.1 0 27).toInt = (u11.1 0 27).toInt := congrArg Int32.toInt ((fr20.2.1 27 (by decide)).trans (show (wA (wA u11 11 ((u11.1 0 12).toNatClampNeg) r16) 0 12 ((u11.1 0 12) + (1 : Int32))).1 0 27 = (u11.1 0 27) by rfl))
    have gz24 : 0 ≤ ((u21.1 25) pb.toNatClampNeg).toInt ∧ 1 ≤ ((u21.1 24) pb.toNatClampNeg).toInt ∧ ((u21.1 25) pb.toNatClampNeg).toInt + ((u21.1 24) pb.toNatClampNeg).toInt ≤ (u21.1 0 28).toInt := GF.at (v := u21) (x := pb) (GF.fr (fl := [43]) (al := [0, 40, 41, 42]) fr20 (by decide) (by decide) (GF.of (GF.o (GF.fr (fl := [43]) (al := [0, 40, 41, 42]) fr10 (by decide) (by decide) (GF.of (GF.o gf (by decide)) (by decide))) (by decide)) (by decide))) rfl (om_6eab8eb682 zg z3) (show pb.toInt < (u21.1 0 27).toInt from (om_f695bc8f0e zg z3 q25 q26))
    have q27 : (u11.1 0 15).toInt = (v.1 0 15).toInt := congrArg Int32.toInt ((fr10.2.1 15 (by decide)).trans (show (wA (wA v 11 (((v.1 0 12)).toNatClampNeg) r6) 0 12 (((v.1 0 12)) + (1 : Int32))).1 0 15 = (v.1 0 15) by rfl))
    have q28 : (u21.1 0 15).toInt = (u11.1 0 15).toInt := congrArg Int32.toInt ((fr20.2.1 15 (by decide)).trans (show (wA (wA u11 11 ((u11.1 0 12).toNatClampNeg) r16) 0 12 ((u11.1 0 12) + (1 : Int32))).1 0 15 = (u11.1 0 15) by rfl))
    refine cu_i (rn_V (n := 2) (As := [.int 3, .int ((u21.1 25) pb.toNatClampNeg)]) (rest := []) hx hb hml hown ht hKK hFx hP hD hS hA (c_m_say l dC dI cI cB cZ cJ cR tb H.size ad N u21 (3 : Int32) ((u21.1 25) pb.toNatClampNeg) (show 0 ≤ (u21.1 0 15).toInt ∧ (u21.1 0 15).toInt < 16000 from (om_11b92a7bac zo q27 q28))) tw_59 tw_60 (by decide +kernel) rfl rfl ⟨Nat.le_of_ble_eq_true rfl, Nat.le_of_ble_eq_true rfl⟩ (List.range (mW ad N cI cZ cJ u21).length) (rg_map _) (mW_nd _ _ _ _ _ _) rfl rfl rfl rfl hl.1 rfl (Nat.le_of_ble_eq_true rfl) dX13_fetch_72 ⟨Nat.le_of_ble_eq_true rfl, Nat.le_of_ble_eq_true rfl⟩) hP hD hS hA (fun r31 u30 H locs hw29 hP hD hS => ?_)
    obtain ⟨rfl, rfl⟩ := hw29
    have z32 : ((u21.1 0 15) + (1 : Int32)).toInt = ((u21.1 0 15).toInt) + (1 : Int) := add_z rfl (show (1 : Int32).toInt = (1 : Int) by decide) (om_1db8b32f2a zo q27 q28) (om_1d362dd496 zo q27 q28)
    have hP : va_P (dC, dI) vwCl (mW ad N cI cZ cJ (wA (wA (wA u21 13 ((u21.1 0 15).toNatClampNeg) (3 : Int32)) 14 ((u21.1 0 15).toNatClampNeg) ((u21.1 25) pb.toNatClampNeg)) 0 15 ((u21.1 0 15) + (1 : Int32)))) H := hP
    have hD : va_D A (mW ad N cI cZ cJ (wA (wA (wA u21 13 ((u21.1 0 15).toNatClampNeg) (3 : Int32)) 14 ((u21.1 0 15).toNatClampNeg) ((u21.1 25) pb.toNatClampNeg)) 0 15 ((u21.1 0 15) + (1 : Int32)))) := hD
    refine tp_i (y := (u21.1 0 15)) (rfl) ?_
    have q33 : (u11.1 0 28).toInt = (v.1 0 28).toInt := congrArg Int32.toInt ((fr10.2.1 28 (by decide)).trans (show (wA (wA v 11 (((v.1 0 12)).toNatClampNeg) r6) 0 12 (((v.1 0 12)) + (1 : Int32))).1 0 28 = (v.1 0 28) by rfl))
    have q34 : (u21.1 0 28).toInt = (u11.1 0 28).toInt := congrArg Int32.toInt ((fr20.2.1 28 (by decide)).trans (show (wA (wA u11 11 ((u11.1 0 12).toNatClampNeg) r16) 0 12 ((u11.1 0 12) + (1 : Int32))).1 0 28 = (u11.1 0 28) by rfl))
    have sg35 : SGE (v.1 0 30).toInt (v.1 0 28).toInt (v.1 0 27).toInt (upd (u21.1 13) ((u21.1 0 15).toNatClampNeg) (3 : Int32)) (upd (u21.1 14) ((u21.1 0 15).toNatClampNeg) ((u21.1 25) pb.toNatClampNeg)) (u21.1 36) (u21.1 38) (v.1 0 15).toNatClampNeg ((u21.1 0 15) + (1 : Int32)).toNatClampNeg (v.1 0 39).toNatClampNeg (u21.1 0 39).toNatClampNeg [] [false] ((1 : Int)) [] := SGE.say1 (x := (u21.1 0 15)) (y := ((u21.1 0 15) + (1 : Int32))) sg23 (show 0 ≤ (u21.1 0 15).toInt from (om_256c01d5aa zo q27 q28)) (show ((u21.1 0 15) + (1 : Int32)).toInt = (u21.1 0 15).toInt + 1 from (om_5bccfc38cf z32)) (show (1 : Int) ≤ (1 : Int) from om_007919dbf5) (lenle (1 : Int) (by decide) om_007919dbf5) (ft_glo (by decide) (show 0 ≤ ((u21.1 25) pb.toNatClampNeg).toInt ∧ ((u21.1 25) pb.toNatClampNeg).toInt < (v.1 0 28).toInt from (om_333b46aa40 q33 q34 gz24))) (by decide) (by decide)
    refine W.widen (k := 0) (n := 0) (Nat.le_refl _) (Nat.le_refl _) ?_
    refine lv_pop hx hb dX13_fetch_75 rfl ?_
    exact W.vret hx hb hr (fun t ht9 hW => ⟨⟨(wA (wA (wA u21 13 ((u21.1 0 15).toNatClampNeg) (3 : Int32)) 14 ((u21.1 0 15).toNatClampNeg) ((u21.1 25) pb.toNatClampNeg)) 0 15 ((u21.1 0 15) + (1 : Int32))), rfl, ⟨(FG.f (FG.a (FG.a (FG.tr (FG.f (FG.a (FG.tr (FG.f (FG.a (FG.rf _) (((v.1 0 12)).toNatClampNeg) r6 (by decide) (by decide)) (((v.1 0 12)) + (1 : Int32)) (by decide)) (FG.up fr10 (by decide) (by decide))) ((u11.1 0 12).toNatClampNeg) r16 (by decide) (by decide)) ((u11.1 0 12) + (1 : Int32)) (by decide)) (FG.up fr20 (by decide) (by decide))) ((u21.1 0 15).toNatClampNeg) (3 : Int32) (by decide) (by decide)) ((u21.1 0 15).toNatClampNeg) ((u21.1 25) pb.toNatClampNeg) (by decide) (by decide)) ((u21.1 0 15) + (1 : Int32)) (by decide)), (show (v.1 0 12).toInt ≤ (u21.1 0 12).toInt ∧ (u21.1 0 12).toInt ≤ (v.1 0 12).toInt + 2 from (by omega)), (show ((u21.1 0 15) + (1 : Int32)).toInt = (v.1 0 15).toInt + 1 from (om_04bc2837ae q27 q28 z32)), (show (v.1 0 43).toInt ≤ (u21.1 0 43).toInt ∧ (u21.1 0 43).toInt ≤ (v.1 0 43).toInt + 2 from (by omega)), (fun (j9 : Nat) hj9 => (Eq.trans (congrFun (fr20.2.2 11 (by decide)) j9) (Eq.trans (pk_un3 (a := (u11.1 0 12).toInt) rfl (by omega) (by omega)) (Eq.trans (congrFun (fr10.2.2 11 (by decide)) j9) (pk_un3 (a := ((v.1 0 12)).toInt) rfl (by omega) (by omega)))))), (fun (j9 : Nat) hj9 => (Eq.trans (pk_un3 (a := (u21.1 0 15).toInt) rfl (om_256c01d5aa zo q27 q28) (om_2a5d4a8f22 q27 q28 hj9)) (Eq.trans (congrFun (fr20.2.2 13 (by decide)) j9) (congrFun (fr10.2.2 13 (by decide)) j9)))), (fun (j9 : Nat) hj9 => (Eq.trans (pk_un3 (a := (u21.1 0 15).toInt) rfl (om_256c01d5aa zo q27 q28) (om_2a5d4a8f22 q27 q28 hj9)) (Eq.trans (congrFun (fr20.2.2 14 (by decide)) j9) (congrFun (fr10.2.2 14 (by decide)) j9)))), (AR.o (AR.o (AR.o a4020 (by decide)) (by decide)) (by decide)), (FX.o (FX.o (FX.o fx20 (by decide) (by decide)) (by decide) (by decide)) (by decide) (by decide)), (fun hiv => (IV.o (IV.o (IV.o (iv20 (IV.o (IV.o (iv10 (IV.o (IV.o hiv (by decide)) (by decide))) (by decide)) (by decide))) (by decide)) (by decide)) (by decide))), (SGE.mono (SGE.setB sg35 rfl) (show (1 : Int) ≤ (1 : Int) from om_007919dbf5))⟩, by rw [ht9]; exact hP, hD⟩, hS.F ht9⟩) hS.2.2 dX13_fetch_76
  · have z36 : (0 : Int) ≤ pa.toInt := nlt_z rfl (show (0 : Int32).toInt = (0 : Int) by decide) h2
    refine lv_aload_n hx hb dX13_fetch_4 rfl (lv_at hl 0 rfl) ?_
    refine lv_bipush (v := 10) hx hb dX13_fetch_5 (by decide) ?_
    refine lv_iload_n hx hb dX13_fetch_7 rfl (lv_at hl 1 rfl) ?_
    refine cu_s (mW_nd _ _ _ _ _ _) (rn_S (n := 1) (As := [.int pa]) (rest := [.int 10, .ref (ad 0)]) hx hb hml hown ht hKK hFx hP hD hS hA (c_m_slotAt l dC dI cI cB cZ cJ cR tb s.heap.size pa ) tw_74 tw_75 (by decide +kernel) rfl rfl ⟨Nat.le_of_ble_eq_true rfl, Nat.le_of_ble_eq_true rfl⟩ [] rfl rfl rfl hl.1 rfl (Nat.le_of_ble_eq_true rfl) dX13_fetch_8 ⟨Nat.le_of_ble_eq_true rfl, Nat.le_of_ble_eq_true rfl⟩) hP hD hS hA (fun r39 H locs hw37 hP hD hS => ?_)
    refine W.widen (k := 0) (n := 0) (Nat.le_refl _) (Nat.le_refl _) ?_
    refine lv_bipush (v := 8) hx hb dX13_fetch_11 (by decide) ?_
    refine cu_s (mW_nd _ _ _ _ _ _) (rn_S (n := 3) (As := [.int 10, .int r39, .int 8]) (rest := [.ref (ad 0)]) hx hb hml hown ht hKK hFx hP hD hS hA (c_m_lw l dC dI cI cB cZ cJ cR tb H.size (10 : Int32) r39 (8 : Int32) ) tw_71 tw_72 (by decide +kernel) rfl rfl ⟨Nat.le_of_ble_eq_true rfl, Nat.le_of_ble_eq_true rfl⟩ [] rfl rfl rfl hl.1 rfl (Nat.le_of_ble_eq_true rfl) dX13_fetch_13 ⟨Nat.le_of_ble_eq_true rfl, Nat.le_of_ble_eq_true rfl⟩) hP hD hS hA (fun r42 H locs hw40 hP hD hS => ?_)
    refine W.widen (k := 0) (n := 0) (Nat.le_refl _) (Nat.le_refl _) ?_
    refine cu_i (rn_V (n := 1) (As := [.int r42]) (rest := []) hx hb hml hown ht hKK hFx hP hD hS hA (c_m_emit l dC dI cI cB cZ cJ cR tb H.size ad N v r42 (show 0 ≤ ((v.1 0 12)).toInt ∧ ((v.1 0 12)).toInt < 24000 from (by omega))) tw_8 tw_9 (by decide +kernel) rfl rfl ⟨Nat.le_of_ble_eq_true rfl, Nat.le_of_ble_eq_true rfl⟩ (List.range (mW ad N cI cZ cJ v).length) (rg_map _) (mW_nd _ _ _ _ _ _) rfl rfl rfl rfl hl.1 rfl (Nat.le_of_ble_eq_true rfl) dX13_fetch_16 ⟨Nat.le_of_ble_eq_true rfl, Nat.le_of_ble_eq_true rfl⟩) hP hD hS hA (fun r45 u44 H locs hw43 hP hD hS => ?_)
    obtain ⟨rfl, rfl⟩ := hw43
    have hP : va_P (dC, dI) vwCl (mW ad N cI cZ cJ (wA (wA v 11 (((v.1 0 12)).toNatClampNeg) r42) 0 12 (((v.1 0 12)) + (1 : Int32)))) H := hP
    have hD : va_D A (mW ad N cI cZ cJ (wA (wA v 11 (((v.1 0 12)).toNatClampNeg) r42) 0 12 (((v.1 0 12)) + (1 : Int32)))) := hD
    refine tp_i (y := ((v.1 0 12))) (rfl) ?_
    refine W.widen (k := 0) (n := 0) (Nat.le_refl _) (Nat.le_refl _) ?_
    refine lv_pop hx hb dX13_fetch_19 rfl ?_
    refine lv_aload_n hx hb dX13_fetch_20 rfl (lv_at hl 0 rfl) ?_
    refine lv_iconst (v := 1) hx hb dX13_fetch_21 (by decide) ?_
    refine lv_iload_n hx hb dX13_fetch_22 rfl (lv_at hl 1 rfl) ?_
    refine cu_i (rn_V (n := 2) (As := [.int 1, .int pa]) (rest := []) hx hb hml hown ht hKK hFx hP hD hS hA (c_m_say l dC dI cI cB cZ cJ cR tb H.size ad N (wA (wA v 11 (((v.1 0 12)).toNatClampNeg) r42) 0 12 (((v.1 0 12)) + (1 : Int32))) (1 : Int32) pa (show 0 ≤ ((v.1 0 15)).toInt ∧ ((v.1 0 15)).toInt < 16000 from (by omega))) tw_59 tw_60 (by decide +kernel) rfl rfl ⟨Nat.le_of_ble_eq_true rfl, Nat.le_of_ble_eq_true rfl⟩ (List.range (mW ad N cI cZ cJ (wA (wA v 11 (((v.1 0 12)).toNatClampNeg) r42) 0 12 (((v.1 0 12)) + (1 : Int32)))).length) (rg_map _) (mW_nd _ _ _ _ _ _) rfl rfl rfl rfl hl.1 rfl (Nat.le_of_ble_eq_true rfl) dX13_fetch_23 ⟨Nat.le_of_ble_eq_true rfl, Nat.le_of_ble_eq_true rfl⟩) hP hD hS hA (fun r48 u47 H locs hw46 hP hD hS => ?_)
    obtain ⟨rfl, rfl⟩ := hw46
    have hP : va_P (dC, dI) vwCl (mW ad N cI cZ cJ (wA (wA (wA (wA (wA v 11 (((v.1 0 12)).toNatClampNeg) r42) 0 12 (((v.1 0 12)) + (1 : Int32))) 13 (((v.1 0 15)).toNatClampNeg) (1 : Int32)) 14 (((v.1 0 15)).toNatClampNeg) pa) 0 15 (((v.1 0 15)) + (1 : Int32)))) H := hP
    have hD : va_D A (mW ad N cI cZ cJ (wA (wA (wA (wA (wA v 11 (((v.1 0 12)).toNatClampNeg) r42) 0 12 (((v.1 0 12)) + (1 : Int32))) 13 (((v.1 0 15)).toNatClampNeg) (1 : Int32)) 14 (((v.1 0 15)).toNatClampNeg) pa) 0 15 (((v.1 0 15)) + (1 : Int32)))) := hD
    refine tp_i (y := ((v.1 0 15))) (rfl) ?_
    have sg49 : SGE (v.1 0 30).toInt (v.1 0 28).toInt (v.1 0 27).toInt (upd (v.1 13) (((v.1 0 15)).toNatClampNeg) (1 : Int32)) (upd (v.1 14) (((v.1 0 15)).toNatClampNeg) pa) (v.1 36) (v.1 38) (v.1 0 15).toNatClampNeg (((v.1 0 15)) + (1 : Int32)).toNatClampNeg (v.1 0 39).toNatClampNeg (v.1 0 39).toNatClampNeg [] [false] ((1 : Int)) [] := SGE.say1 (x := (v.1 0 15)) (y := (((v.1 0 15)) + (1 : Int32))) sg1 (show 0 ≤ (v.1 0 15).toInt from (om_2ab3f6b9f5 zo)) (show (((v.1 0 15)) + (1 : Int32)).toInt = (v.1 0 15).toInt + 1 from (by omega)) (show (1 : Int) ≤ (1 : Int) from om_007919dbf5) (lenle (1 : Int) (by decide) om_007919dbf5) (ft_loc (by decide) (show 0 ≤ pa.toInt ∧ pa.toInt < (v.1 0 30).toInt from (om_0ed08f574b zg z36))) (by decide) (by decide)
    refine W.widen (k := 0) (n := 0) (Nat.le_refl _) (Nat.le_refl _) ?_
    refine lv_pop hx hb dX13_fetch_26 rfl ?_
    refine lv_goto (tgt := 76) hx hb dX13_fetch_27 (by decide) ?_
    exact W.vret hx hb hr (fun t ht9 hW => ⟨⟨(wA (wA (wA (wA (wA v 11 (((v.1 0 12)).toNatClampNeg) r42) 0 12 (((v.1 0 12)) + (1 : Int32))) 13 (((v.1 0 15)).toNatClampNeg) (1 : Int32)) 14 (((v.1 0 15)).toNatClampNeg) pa) 0 15 (((v.1 0 15)) + (1 : Int32))), rfl, ⟨(FG.f (FG.a (FG.a (FG.f (FG.a (FG.rf _) (((v.1 0 12)).toNatClampNeg) r42 (by decide) (by decide)) (((v.1 0 12)) + (1 : Int32)) (by decide)) (((v.1 0 15)).toNatClampNeg) (1 : Int32) (by decide) (by decide)) (((v.1 0 15)).toNatClampNeg) pa (by decide) (by decide)) (((v.1 0 15)) + (1 : Int32)) (by decide)), (show (v.1 0 12).toInt ≤ (((v.1 0 12)) + (1 : Int32)).toInt ∧ (((v.1 0 12)) + (1 : Int32)).toInt ≤ (v.1 0 12).toInt + 2 from (by omega)), (show (((v.1 0 15)) + (1 : Int32)).toInt = (v.1 0 15).toInt + 1 from (by omega)), (show (v.1 0 43).toInt ≤ (v.1 0 43).toInt ∧ (v.1 0 43).toInt ≤ (v.1 0 43).toInt + 2 from om_798cb3402e), (fun (j9 : Nat) hj9 => (pk_un3 (a := ((v.1 0 12)).toInt) rfl (by omega) (by omega))), (fun (j9 : Nat) hj9 => (pk_un3 (a := ((v.1 0 15)).toInt) rfl (by omega) (by omega))), (fun (j9 : Nat) hj9 => (pk_un3 (a := ((v.1 0 15)).toInt) rfl (by omega) (by omega))), (AR.o (AR.o (AR.o (AR.o (AR.o a40 (by decide)) (by decide)) (by decide)) (by decide)) (by decide)), (FX.o (FX.o (FX.o (FX.o (FX.o fx (by decide) (by decide)) (by decide) (by decide)) (by decide) (by decide)) (by decide) (by decide)) (by decide) (by decide)), (fun hiv => (IV.o (IV.o (IV.o (IV.o (IV.o hiv (by decide)) (by decide)) (by decide)) (by decide)) (by decide))), (SGE.mono (SGE.setB sg49 rfl) (show (1 : Int) ≤ (1 : Int) from om_007919dbf5))⟩, by rw [ht9]; exact hP, hD⟩, hS.F ht9⟩) hS.2.2 dX13_fetch_76
theorem om_1701efd4fc {x0 x1 x2 x3 : Int} (h0 : (0 ≤ x0 ∨ (0 ≤ x1 ∧ x1 < x2)) ∧ x0 < x3 ∧ x2 ≤ 60) (h1 : x0 < (0 : Int)) : (2 : Int) = 5 ∨ (0 ≤ x1 ∧ x1 < 60) := by omega
set_option maxHeartbeats 4000000 in
set_option maxRecDepth 100000 in
theorem c_m_store (l : Launch) (dC : Nat → ClassId) (dI : Nat → Nat → Nat) (cI cB cZ cJ cR : ClassId) (tb : Nat → Nat) (sz : Nat) (ad : Nat → Nat) (N : Nat) (v : MS) (pa : Int32) (pb : Int32) (zw : 0 ≤ (v.1 0 12).toInt ∧ (v.1 0 12).toInt ≤ 23980) (zo : 0 ≤ (v.1 0 15).toInt ∧ (v.1 0 15).toInt ≤ 15980) (zf : 0 ≤ (v.1 0 43).toInt ∧ (v.1 0 43).toInt ≤ 23980) (zg : (0 ≤ pa.toInt ∨ (0 ≤ pb.toInt ∧ pb.toInt < (v.1 0 27).toInt)) ∧ pa.toInt < (v.1 0 30).toInt ∧ (v.1 0 27).toInt ≤ 60) (a40 : AR 40 0 23999 v) (fx : FX v) (gf : GF v) : Met l yX13_store (Cond.code yX13_store cX13_store 3 none :: tw_W) ({ frames := 1, cells := 0, slots := 0, locals := 23 }) (pc_ (dC, dI) (tyS cI cB cZ cJ cR) tb (mW ad N cI cZ cJ v) sz [.ref (ad 0), .int pa, .int pb]) (qv_ (dC, dI) (mW ad N cI cZ cJ v) sz (fun (u : MS) => FG [12, 15, 43] [0, 11, 13, 14, 40, 41, 42] v u ∧ ((v.1 0 12).toInt ≤ (u.1 0 12).toInt ∧ (u.1 0 12).toInt ≤ (v.1 0 12).toInt + 2) ∧ ((u.1 0 15).toInt = (v.1 0 15).toInt + 1) ∧ ((v.1 0 43).toInt ≤ (u.1 0 43).toInt ∧ (u.1 0 43).toInt ≤ (v.1 0 43).toInt + 2) ∧ (∀ j : Nat, (j : Int) < (v.1 0 12).toInt → (u.1 11) j = (v.1 11) j) ∧ (∀ j : Nat, (j : Int) < (v.1 0 15).toInt → (u.1 13) j = (v.1 13) j) ∧ (∀ j : Nat, (j : Int) < (v.1 0 15).toInt → (u.1 14) j = (v.1 14) j) ∧ (AR 40 0 23999 u) ∧ (FX u) ∧ (IV v → IV u) ∧ (SGE (v.1 0 30).toInt (v.1 0 28).toInt (v.1 0 27).toInt (u.1 13) (u.1 14) (u.1 36) (u.1 38) (v.1 0 15).toNatClampNeg (u.1 0 15).toNatClampNeg (v.1 0 39).toNatClampNeg (u.1 0 39).toNatClampNeg [false] [false] ((1 : Int)) [])) (fun (u : MS) => (mW ad N cI cZ cJ u))) 0 0 (va_A (mW ad N cI cZ cJ v) sz) := by
  refine Met.ofW (cc := cX13_store) (maxL := 3) (ret := none) (by decide) rfl ?_
  intro p e s m args below meth c s₁ B hml hv
  obtain ⟨rfl, hsz, hP, hKK, hD0, hFx⟩ := hv
  have hK := hKK.1
  have hx := B.exec
  have hb := B.bytes
  have hr := B.returns
  have ht : ∀ w ∈ tw_W, w.before _ s = true := fun w h => atoms_spec (ws := Cond.code yX13_store cX13_store 3 none :: tw_W) B.pre w (List.mem_cons_of_mem _ h)
  have hown : s.vm.findClass RX13 = some m.cls := findClass_of_methodNamed B.named
  have hlocks := B.notSynchronized
  subst hsz
  unfold qv_
  have hD := hD0.self (sz := s.heap.size)
  generalize hAe : va_A (mW ad N cI cZ cJ v) s.heap.size = A at hD hFx ⊢
  have hA : ∀ q : Nat, s.heap.size ≤ q → A q := fun q h => by rw [← hAe]; exact Or.inr h
  have hS : va_S A s.heap s.heap [] := va_S.rf
  have hl := lv_entry ([.ref (ad 0), .int pa, .int pb]) (n := 3) (Nat.le_of_ble_eq_true rfl)
  rw [lg_entry_eq]
  generalize (lg_sl ([.ref (ad 0), .int pa, .int pb]) ++ List.replicate (3 - (lg_sl ([.ref (ad 0), .int pa, .int pb])).length) Slot.unset).toArray = ls at hl ⊢
  have hl : lv_has ls 3 [(0, .ref (ad 0)), (1, .int pa), (2, .int pb)] := hl
  have sg1 : SGE (v.1 0 30).toInt (v.1 0 28).toInt (v.1 0 27).toInt (v.1 13) (v.1 14) (v.1 36) (v.1 38) (v.1 0 15).toNatClampNeg (v.1 0 15).toNatClampNeg (v.1 0 39).toNatClampNeg (v.1 0 39).toNatClampNeg [false] [false] ((1 : Int)) [] := SGE.nil rfl (lenle (1 : Int) (by decide) om_007919dbf5)
  refine lv_iload_n hx hb dX13_store_0 rfl (lv_at hl 1 rfl) ?_
  refine lv_if_lt (tgt := 30) hx hb dX13_store_1 (by decide) (fun h2 => ?_) (fun h2 => ?_)
  · have z3 : pa.toInt < (0 : Int) := lt_z rfl (show (0 : Int32).toInt = (0 : Int) by decide) h2
    refine lv_aload_n hx hb dX13_store_30 rfl (lv_at hl 0 rfl) ?_
    refine lv_aload_n hx hb dX13_store_31 rfl (lv_at hl 0 rfl) ?_
    refine lv_bipush (v := 6) hx hb dX13_store_32 (by decide) ?_
    refine lv_iconst (v := 0) hx hb dX13_store_34 (by decide) ?_
    refine cu_s (mW_nd _ _ _ _ _ _) (rn_S (n := 2) (As := [.int 6, .int 0]) (rest := [.ref (ad 0), .ref (ad 0)]) hx hb hml hown ht hKK hFx hP hD hS hA (c_m_lui l dC dI cI cB cZ cJ cR tb s.heap.size (6 : Int32) (0 : Int32) ) tw_61 tw_62 (by decide +kernel) rfl rfl ⟨Nat.le_of_ble_eq_true rfl, Nat.le_of_ble_eq_true rfl⟩ [] rfl rfl rfl hl.1 rfl (Nat.le_of_ble_eq_true rfl) dX13_store_35 ⟨Nat.le_of_ble_eq_true rfl, Nat.le_of_ble_eq_true rfl⟩) hP hD hS hA (fun r6 H locs hw4 hP hD hS => ?_)
    refine W.widen (k := 0) (n := 0) (Nat.le_refl _) (Nat.le_refl _) ?_
    refine cu_i (rn_V (n := 1) (As := [.int r6]) (rest := [.ref (ad 0)]) hx hb hml hown ht hKK hFx hP hD hS hA (c_m_emit l dC dI cI cB cZ cJ cR tb H.size ad N v r6 (show 0 ≤ ((v.1 0 12)).toInt ∧ ((v.1 0 12)).toInt < 24000 from (by omega))) tw_8 tw_9 (by decide +kernel) rfl rfl ⟨Nat.le_of_ble_eq_true rfl, Nat.le_of_ble_eq_true rfl⟩ (List.range (mW ad N cI cZ cJ v).length) (rg_map _) (mW_nd _ _ _ _ _ _) rfl rfl rfl rfl hl.1 rfl (Nat.le_of_ble_eq_true rfl) dX13_store_38 ⟨Nat.le_of_ble_eq_true rfl, Nat.le_of_ble_eq_true rfl⟩) hP hD hS hA (fun r9 u8 H locs hw7 hP hD hS => ?_)
    obtain ⟨rfl, rfl⟩ := hw7
    have hP : va_P (dC, dI) vwCl (mW ad N cI cZ cJ (wA (wA v 11 (((v.1 0 12)).toNatClampNeg) r6) 0 12 (((v.1 0 12)) + (1 : Int32)))) H := hP
    have hD : va_D A (mW ad N cI cZ cJ (wA (wA v 11 (((v.1 0 12)).toNatClampNeg) r6) 0 12 (((v.1 0 12)) + (1 : Int32)))) := hD
    refine tp_i (y := ((v.1 0 12))) (rfl) ?_
    refine W.widen (k := 0) (n := 0) (Nat.le_refl _) (Nat.le_refl _) ?_
    refine lv_iload_n hx hb dX13_store_41 rfl (lv_at hl 2 rfl) ?_
    refine lv_iconst (v := 0) hx hb dX13_store_42 (by decide) ?_
    refine cu_v (rn_V (n := 3) (As := [.int ((v.1 0 12)), .int pb, .int 0]) (rest := []) hx hb hml hown ht hKK hFx hP hD hS hA (c_m_fix l dC dI cI cB cZ cJ cR tb H.size ad N (wA (wA v 11 (((v.1 0 12)).toNatClampNeg) r6) 0 12 (((v.1 0 12)) + (1 : Int32))) ((v.1 0 12)) pb (0 : Int32) (show 0 ≤ ((v.1 0 43)).toInt ∧ ((v.1 0 43)).toInt < 24000 from (by omega)) (show 0 ≤ ((v.1 0 12)).toInt ∧ ((v.1 0 12)).toInt < 24000 from (by omega)) (show (0 : Int) = 5 ∨ (0 ≤ pb.toInt ∧ pb.toInt < 60) from (om_246a963eff zg z3)) (show AR 40 0 23999 (wA (wA v 11 (((v.1 0 12)).toNatClampNeg) r6) 0 12 (((v.1 0 12)) + (1 : Int32))) from (AR.o (AR.o a40 (by decide)) (by decide))) (show FX (wA (wA v 11 (((v.1 0 12)).toNatClampNeg) r6) 0 12 (((v.1 0 12)) + (1 : Int32))) from (FX.o (FX.o fx (by decide) (by decide)) (by decide) (by decide)))) tw_69 tw_70 (by decide +kernel) rfl rfl ⟨Nat.le_of_ble_eq_true rfl, Nat.le_of_ble_eq_true rfl⟩ (List.range (mW ad N cI cZ cJ (wA (wA v 11 (((v.1 0 12)).toNatClampNeg) r6) 0 12 (((v.1 0 12)) + (1 : Int32)))).length) (rg_map _) (mW_nd _ _ _ _ _ _) rfl rfl rfl rfl hl.1 rfl (Nat.le_of_ble_eq_true rfl) dX13_store_43 ⟨Nat.le_of_ble_eq_true rfl, Nat.le_of_ble_eq_true rfl⟩) hP hD hS hA (fun u11 H locs hw10 hP hD hS => ?_)
    obtain ⟨fr10, pf10, a4010, fx10, iv10⟩ := hw10
    have pf10 : (u11.1 0 43).toInt = ((v.1 0 43)).toInt + 1 := pf10
    have a4010 : AR 40 0 23999 u11 := a4010
    have fx10 : FX u11 := fx10
    have iv10 : IV (wA (wA v 11 (((v.1 0 12)).toNatClampNeg) r6) 0 12 (((v.1 0 12)) + (1 : Int32))) → IV u11 := iv10
    have sg13 : SGE (v.1 0 30).toInt (v.1 0 28).toInt (v.1 0 27).toInt (u11.1 13) (u11.1 14) (u11.1 36) (u11.1 38) (v.1 0 15).toNatClampNeg (u11.1 0 15).toNatClampNeg (v.1 0 39).toNatClampNeg (u11.1 0 39).toNatClampNeg [false] [false] ((1 : Int)) [] := SGE.to sg1 (fun j9 _ => congrFun (fr10.2.2 13 (by decide)) j9) (fun j9 _ => congrFun (fr10.2.2 14 (by decide)) j9) (fun j9 _ _ => congrFun (fr10.2.2 36 (by decide)) j9) (fun j9 _ _ => congrFun (fr10.2.2 38 (by decide)) j9) (congrArg Int32.toNatClampNeg (fr10.2.1 15 (by decide))) (congrArg Int32.toNatClampNeg (fr10.2.1 39 (by decide))) (Int.le_refl _)
    refine W.widen (k := 0) (n := 0) (Nat.le_refl _) (Nat.le_refl _) ?_
    refine lv_aload_n hx hb dX13_store_46 rfl (lv_at hl 0 rfl) ?_
    refine lv_aload_n hx hb dX13_store_47 rfl (lv_at hl 0 rfl) ?_
    refine lv_bipush (v := 10) hx hb dX13_store_48 (by decide) ?_
    refine lv_iconst (v := 0) hx hb dX13_store_50 (by decide) ?_
    refine lv_bipush (v := 6) hx hb dX13_store_51 (by decide) ?_
    refine cu_s (mW_nd _ _ _ _ _ _) (rn_S (n := 3) (As := [.int 10, .int 0, .int 6]) (rest := [.ref (ad 0), .ref (ad 0)]) hx hb hml hown ht hKK hFx hP hD hS hA (c_m_sw l dC dI cI cB cZ cJ cR tb H.size (10 : Int32) (0 : Int32) (6 : Int32) ) tw_76 tw_77 (by decide +kernel) rfl rfl ⟨Nat.le_of_ble_eq_true rfl, Nat.le_of_ble_eq_true rfl⟩ [] rfl rfl rfl hl.1 rfl (Nat.le_of_ble_eq_true rfl) dX13_store_53 ⟨Nat.le_of_ble_eq_true rfl, Nat.le_of_ble_eq_true rfl⟩) hP hD hS hA (fun r16 H locs hw14 hP hD hS => ?_)
    refine W.widen (k := 0) (n := 0) (Nat.le_refl _) (Nat.le_refl _) ?_
    refine cu_i (rn_V (n := 1) (As := [.int r16]) (rest := [.ref (ad 0)]) hx hb hml hown ht hKK hFx hP hD hS hA (c_m_emit l dC dI cI cB cZ cJ cR tb H.size ad N u11 r16 (show 0 ≤ (u11.1 0 12).toInt ∧ (u11.1 0 12).toInt < 24000 from (by omega))) tw_8 tw_9 (by decide +kernel) rfl rfl ⟨Nat.le_of_ble_eq_true rfl, Nat.le_of_ble_eq_true rfl⟩ (List.range (mW ad N cI cZ cJ u11).length) (rg_map _) (mW_nd _ _ _ _ _ _) rfl rfl rfl rfl hl.1 rfl (Nat.le_of_ble_eq_true rfl) dX13_store_56 ⟨Nat.le_of_ble_eq_true rfl, Nat.le_of_ble_eq_true rfl⟩) hP hD hS hA (fun r19 u18 H locs hw17 hP hD hS => ?_)
    obtain ⟨rfl, rfl⟩ := hw17
    have hP : va_P (dC, dI) vwCl (mW ad N cI cZ cJ (wA (wA u11 11 ((u11.1 0 12).toNatClampNeg) r16) 0 12 ((u11.1 0 12) + (1 : Int32)))) H := hP
    have hD : va_D A (mW ad N cI cZ cJ (wA (wA u11 11 ((u11.1 0 12).toNatClampNeg) r16) 0 12 ((u11.1 0 12) + (1 : Int32)))) := hD
    refine tp_i (y := (u11.1 0 12)) (rfl) ?_
    refine W.widen (k := 0) (n := 0) (Nat.le_refl _) (Nat.le_refl _) ?_
    refine lv_iload_n hx hb dX13_store_59 rfl (lv_at hl 2 rfl) ?_
    refine lv_iconst (v := 2) hx hb dX13_store_60 (by decide) ?_
    refine cu_v (rn_V (n := 3) (As := [.int (u11.1 0 12), .int pb, .int 2]) (rest := []) hx hb hml hown ht hKK hFx hP hD hS hA (c_m_fix l dC dI cI cB cZ cJ cR tb H.size ad N (wA (wA u11 11 ((u11.1 0 12).toNatClampNeg) r16) 0 12 ((u11.1 0 12) + (1 : Int32))) (u11.1 0 12) pb (2 : Int32) (show 0 ≤ (u11.1 0 43).toInt ∧ (u11.1 0 43).toInt < 24000 from (by omega)) (show 0 ≤ (u11.1 0 12).toInt ∧ (u11.1 0 12).toInt < 24000 from (by omega)) (show (2 : Int) = 5 ∨ (0 ≤ pb.toInt ∧ pb.toInt < 60) from (om_1701efd4fc zg z3)) (show AR 40 0 23999 (wA (wA u11 11 ((u11.1 0 12).toNatClampNeg) r16) 0 12 ((u11.1 0 12) + (1 : Int32))) from (AR.o (AR.o a4010 (by decide)) (by decide))) (show FX (wA (wA u11 11 ((u11.1 0 12).toNatClampNeg) r16) 0 12 ((u11.1 0 12) + (1 : Int32))) from (FX.o (FX.o fx10 (by decide) (by decide)) (by decide) (by decide)))) tw_69 tw_70 (by decide +kernel) rfl rfl ⟨Nat.le_of_ble_eq_true rfl, Nat.le_of_ble_eq_true rfl⟩ (List.range (mW ad N cI cZ cJ (wA (wA u11 11 ((u11.1 0 12).toNatClampNeg) r16) 0 12 ((u11.1 0 12) + (1 : Int32)))).length) (rg_map _) (mW_nd _ _ _ _ _ _) rfl rfl rfl rfl hl.1 rfl (Nat.le_of_ble_eq_true rfl) dX13_store_61 ⟨Nat.le_of_ble_eq_true rfl, Nat.le_of_ble_eq_true rfl⟩) hP hD hS hA (fun u21 H locs hw20 hP hD hS => ?_)
    obtain ⟨fr20, pf20, a4020, fx20, iv20⟩ := hw20
    have pf20 : (u21.1 0 43).toInt = (u11.1 0 43).toInt + 1 := pf20
    have a4020 : AR 40 0 23999 u21 := a4020
    have fx20 : FX u21 := fx20
    have iv20 : IV (wA (wA u11 11 ((u11.1 0 12).toNatClampNeg) r16) 0 12 ((u11.1 0 12) + (1 : Int32))) → IV u21 := iv20
    have sg23 : SGE (v.1 0 30).toInt (v.1 0 28).toInt (v.1 0 27).toInt (u21.1 13) (u21.1 14) (u21.1 36) (u21.1 38) (v.1 0 15).toNatClampNeg (u21.1 0 15).toNatClampNeg (v.1 0 39).toNatClampNeg (u21.1 0 39).toNatClampNeg [false] [false] ((1 : Int)) [] := SGE.to sg13 (fun j9 _ => congrFun (fr20.2.2 13 (by decide)) j9) (fun j9 _ => congrFun (fr20.2.2 14 (by decide)) j9) (fun j9 _ _ => congrFun (fr20.2.2 36 (by decide)) j9) (fun j9 _ _ => congrFun (fr20.2.2 38 (by decide)) j9) (congrArg Int32.toNatClampNeg (fr20.2.1 15 (by decide))) (congrArg Int32.toNatClampNeg (fr20.2.1 39 (by decide))) (Int.le_refl _)
    refine W.widen (k := 0) (n := 0) (Nat.le_refl _) (Nat.le_refl _) ?_
    refine lv_aload_n hx hb dX13_store_64 rfl (lv_at hl 0 rfl) ?_
    refine lv_iconst (v := 4) hx hb dX13_store_65 (by decide) ?_
    refine lv_aload_n hx hb dX13_store_66 rfl (lv_at hl 0 rfl) ?_
    refine va_get (D := (dC, dI)) (ci := 16) (fs := mF ad u21) (v := .ref (ad 25)) (C := RX13) (T := TX13) (N := 124) hx hb ht itX13 hown hK hP 0 rfl rfl 25 (by decide) (ht _ tw_73) (fun _ h9 => h9) rfl dX13_store_67 ?_
    refine lv_iload_n hx hb dX13_store_70 rfl (lv_at hl 2 rfl) ?_
    refine va_iald (D := (dC, dI)) (f := (u21.1 25)) hx hb hK hP 19 0 rfl rfl (in_y (a := pb.toInt) (b := 60) rfl (om_6eab8eb682 zg z3) (om_8363739f4d zg z3) rfl) dX13_store_71 ?_
    have q25 : (u11.1 0 27).toInt = (v.1 0 27).toInt := congrArg Int32.toInt ((fr10.2.1 27 (by decide)).trans (show (wA (wA v 11 (((v.1 0 12)).toNatClampNeg) r6) 0 12 (((v.1 0 12)) + (1 : Int32))).1 0 27 = (v.1 0 27) by rfl))
    have q26 : (u21.1 0 27).toInt = (u11.1 0 27).toInt := congrArg Int32.toInt ((fr20.2.1 27 (by decide)).trans (show (wA (wA u11 11 ((u11.1 0 12).toNatClampNeg) r16) 0 12 ((u11.1 0 12) + (1 : Int32))).1 0 27 = (u11.1 0 27) by rfl))
    have gz24 : 0 ≤ ((u21.1 25) pb.toNatClampNeg).toInt ∧ 1 ≤ ((u21.1 24) pb.toNatClampNeg).toInt ∧ ((u21.1 25) pb.toNatClampNeg).toInt + ((u21.1 24) pb.toNatClampNeg).toInt ≤ (u21.1 0 28).toInt := GF.at (v := u21) (x := pb) (GF.fr (fl := [43]) (al := [0, 40, 41, 42]) fr20 (by decide) (by decide) (GF.of (GF.o (GF.fr (fl := [43]) (al := [0, 40, 41, 42]) fr10 (by decide) (by decide) (GF.of (GF.o gf (by decide)) (by decide))) (by decide)) (by decide))) rfl (om_6eab8eb682 zg z3) (show pb.toInt < (u21.1 0 27).toInt from (om_f695bc8f0e zg z3 q25 q26))
    have q27 : (u11.1 0 15).toInt = (v.1 0 15).toInt := congrArg Int32.toInt ((fr10.2.1 15 (by decide)).trans (show (wA (wA v 11 (((v.1 0 12)).toNatClampNeg) r6) 0 12 (((v.1 0 12)) + (1 : Int32))).1 0 15 = (v.1 0 15) by rfl))
    have q28 : (u21.1 0 15).toInt = (u11.1 0 15).toInt := congrArg Int32.toInt ((fr20.2.1 15 (by decide)).trans (show (wA (wA u11 11 ((u11.1 0 12).toNatClampNeg) r16) 0 12 ((u11.1 0 12) + (1 : Int32))).1 0 15 = (u11.1 0 15) by rfl))
    refine cu_i (rn_V (n := 2) (As := [.int 4, .int ((u21.1 25) pb.toNatClampNeg)]) (rest := []) hx hb hml hown ht hKK hFx hP hD hS hA (c_m_say l dC dI cI cB cZ cJ cR tb H.size ad N u21 (4 : Int32) ((u21.1 25) pb.toNatClampNeg) (show 0 ≤ (u21.1 0 15).toInt ∧ (u21.1 0 15).toInt < 16000 from (om_11b92a7bac zo q27 q28))) tw_59 tw_60 (by decide +kernel) rfl rfl ⟨Nat.le_of_ble_eq_true rfl, Nat.le_of_ble_eq_true rfl⟩ (List.range (mW ad N cI cZ cJ u21).length) (rg_map _) (mW_nd _ _ _ _ _ _) rfl rfl rfl rfl hl.1 rfl (Nat.le_of_ble_eq_true rfl) dX13_store_72 ⟨Nat.le_of_ble_eq_true rfl, Nat.le_of_ble_eq_true rfl⟩) hP hD hS hA (fun r31 u30 H locs hw29 hP hD hS => ?_)
    obtain ⟨rfl, rfl⟩ := hw29
    have z32 : ((u21.1 0 15) + (1 : Int32)).toInt = ((u21.1 0 15).toInt) + (1 : Int) := add_z rfl (show (1 : Int32).toInt = (1 : Int) by decide) (om_1db8b32f2a zo q27 q28) (om_1d362dd496 zo q27 q28)
    have hP : va_P (dC, dI) vwCl (mW ad N cI cZ cJ (wA (wA (wA u21 13 ((u21.1 0 15).toNatClampNeg) (4 : Int32)) 14 ((u21.1 0 15).toNatClampNeg) ((u21.1 25) pb.toNatClampNeg)) 0 15 ((u21.1 0 15) + (1 : Int32)))) H := hP
    have hD : va_D A (mW ad N cI cZ cJ (wA (wA (wA u21 13 ((u21.1 0 15).toNatClampNeg) (4 : Int32)) 14 ((u21.1 0 15).toNatClampNeg) ((u21.1 25) pb.toNatClampNeg)) 0 15 ((u21.1 0 15) + (1 : Int32)))) := hD
    refine tp_i (y := (u21.1 0 15)) (rfl) ?_
    have q33 : (u11.1 0 28).toInt = (v.1 0 28).toInt := congrArg Int32.toInt ((fr10.2.1 28 (by decide)).trans (show (wA (wA v 11 (((v.1 0 12)).toNatClampNeg) r6) 0 12 (((v.1 0 12)) + (1 : Int32))).1 0 28 = (v.1 0 28) by rfl))
    have q34 : (u21.1 0 28).toInt = (u11.1 0 28).toInt := congrArg Int32.toInt ((fr20.2.1 28 (by decide)).trans (show (wA (wA u11 11 ((u11.1 0 12).toNatClampNeg) r16) 0 12 ((u11.1 0 12) + (1 : Int32))).1 0 28 = (u11.1 0 28) by rfl))
    have sg35 : SGE (v.1 0 30).toInt (v.1 0 28).toInt (v.1 0 27).toInt (upd (u21.1 13) ((u21.1 0 15).toNatClampNeg) (4 : Int32)) (upd (u21.1 14) ((u21.1 0 15).toNatClampNeg) ((u21.1 25) pb.toNatClampNeg)) (u21.1 36) (u21.1 38) (v.1 0 15).toNatClampNeg ((u21.1 0 15) + (1 : Int32)).toNatClampNeg (v.1 0 39).toNatClampNeg (u21.1 0 39).toNatClampNeg [false] [false] ((1 : Int)) [] := SGE.say1 (x := (u21.1 0 15)) (y := ((u21.1 0 15) + (1 : Int32))) sg23 (show 0 ≤ (u21.1 0 15).toInt from (om_256c01d5aa zo q27 q28)) (show ((u21.1 0 15) + (1 : Int32)).toInt = (u21.1 0 15).toInt + 1 from (om_5bccfc38cf z32)) (show (1 : Int) ≤ (1 : Int) from om_007919dbf5) (lenle (1 : Int) (by decide) om_007919dbf5) (ft_sglo (by decide) (show 0 ≤ ((u21.1 25) pb.toNatClampNeg).toInt ∧ ((u21.1 25) pb.toNatClampNeg).toInt < (v.1 0 28).toInt from (om_333b46aa40 q33 q34 gz24))) (by decide) (by decide)
    refine W.widen (k := 0) (n := 0) (Nat.le_refl _) (Nat.le_refl _) ?_
    refine lv_pop hx hb dX13_store_75 rfl ?_
    exact W.vret hx hb hr (fun t ht9 hW => ⟨⟨(wA (wA (wA u21 13 ((u21.1 0 15).toNatClampNeg) (4 : Int32)) 14 ((u21.1 0 15).toNatClampNeg) ((u21.1 25) pb.toNatClampNeg)) 0 15 ((u21.1 0 15) + (1 : Int32))), rfl, ⟨(FG.f (FG.a (FG.a (FG.tr (FG.f (FG.a (FG.tr (FG.f (FG.a (FG.rf _) (((v.1 0 12)).toNatClampNeg) r6 (by decide) (by decide)) (((v.1 0 12)) + (1 : Int32)) (by decide)) (FG.up fr10 (by decide) (by decide))) ((u11.1 0 12).toNatClampNeg) r16 (by decide) (by decide)) ((u11.1 0 12) + (1 : Int32)) (by decide)) (FG.up fr20 (by decide) (by decide))) ((u21.1 0 15).toNatClampNeg) (4 : Int32) (by decide) (by decide)) ((u21.1 0 15).toNatClampNeg) ((u21.1 25) pb.toNatClampNeg) (by decide) (by decide)) ((u21.1 0 15) + (1 : Int32)) (by decide)), (show (v.1 0 12).toInt ≤ (u21.1 0 12).toInt ∧ (u21.1 0 12).toInt ≤ (v.1 0 12).toInt + 2 from (by omega)), (show ((u21.1 0 15) + (1 : Int32)).toInt = (v.1 0 15).toInt + 1 from (om_04bc2837ae q27 q28 z32)), (show (v.1 0 43).toInt ≤ (u21.1 0 43).toInt ∧ (u21.1 0 43).toInt ≤ (v.1 0 43).toInt + 2 from (by omega)), (fun (j9 : Nat) hj9 => (Eq.trans (congrFun (fr20.2.2 11 (by decide)) j9) (Eq.trans (pk_un3 (a := (u11.1 0 12).toInt) rfl (by omega) (by omega)) (Eq.trans (congrFun (fr10.2.2 11 (by decide)) j9) (pk_un3 (a := ((v.1 0 12)).toInt) rfl (by omega) (by omega)))))), (fun (j9 : Nat) hj9 => (Eq.trans (pk_un3 (a := (u21.1 0 15).toInt) rfl (om_256c01d5aa zo q27 q28) (om_2a5d4a8f22 q27 q28 hj9)) (Eq.trans (congrFun (fr20.2.2 13 (by decide)) j9) (congrFun (fr10.2.2 13 (by decide)) j9)))), (fun (j9 : Nat) hj9 => (Eq.trans (pk_un3 (a := (u21.1 0 15).toInt) rfl (om_256c01d5aa zo q27 q28) (om_2a5d4a8f22 q27 q28 hj9)) (Eq.trans (congrFun (fr20.2.2 14 (by decide)) j9) (congrFun (fr10.2.2 14 (by decide)) j9)))), (AR.o (AR.o (AR.o a4020 (by decide)) (by decide)) (by decide)), (FX.o (FX.o (FX.o fx20 (by decide) (by decide)) (by decide) (by decide)) (by decide) (by decide)), (fun hiv => (IV.o (IV.o (IV.o (iv20 (IV.o (IV.o (iv10 (IV.o (IV.o hiv (by decide)) (by decide))) (by decide)) (by decide))) (by decide)) (by decide)) (by decide))), (SGE.mono (SGE.setB sg35 rfl) (show (1 : Int) ≤ (1 : Int) from om_007919dbf5))⟩, by rw [ht9]; exact hP, hD⟩, hS.F ht9⟩) hS.2.2 dX13_store_76
  · have z36 : (0 : Int) ≤ pa.toInt := nlt_z rfl (show (0 : Int32).toInt = (0 : Int) by decide) h2
    refine lv_aload_n hx hb dX13_store_4 rfl (lv_at hl 0 rfl) ?_
    refine lv_bipush (v := 10) hx hb dX13_store_5 (by decide) ?_
    refine lv_iload_n hx hb dX13_store_7 rfl (lv_at hl 1 rfl) ?_
    refine cu_s (mW_nd _ _ _ _ _ _) (rn_S (n := 1) (As := [.int pa]) (rest := [.int 10, .ref (ad 0)]) hx hb hml hown ht hKK hFx hP hD hS hA (c_m_slotAt l dC dI cI cB cZ cJ cR tb s.heap.size pa ) tw_74 tw_75 (by decide +kernel) rfl rfl ⟨Nat.le_of_ble_eq_true rfl, Nat.le_of_ble_eq_true rfl⟩ [] rfl rfl rfl hl.1 rfl (Nat.le_of_ble_eq_true rfl) dX13_store_8 ⟨Nat.le_of_ble_eq_true rfl, Nat.le_of_ble_eq_true rfl⟩) hP hD hS hA (fun r39 H locs hw37 hP hD hS => ?_)
    refine W.widen (k := 0) (n := 0) (Nat.le_refl _) (Nat.le_refl _) ?_
    refine lv_bipush (v := 8) hx hb dX13_store_11 (by decide) ?_
    refine cu_s (mW_nd _ _ _ _ _ _) (rn_S (n := 3) (As := [.int 10, .int r39, .int 8]) (rest := [.ref (ad 0)]) hx hb hml hown ht hKK hFx hP hD hS hA (c_m_sw l dC dI cI cB cZ cJ cR tb H.size (10 : Int32) r39 (8 : Int32) ) tw_76 tw_77 (by decide +kernel) rfl rfl ⟨Nat.le_of_ble_eq_true rfl, Nat.le_of_ble_eq_true rfl⟩ [] rfl rfl rfl hl.1 rfl (Nat.le_of_ble_eq_true rfl) dX13_store_13 ⟨Nat.le_of_ble_eq_true rfl, Nat.le_of_ble_eq_true rfl⟩) hP hD hS hA (fun r42 H locs hw40 hP hD hS => ?_)
    refine W.widen (k := 0) (n := 0) (Nat.le_refl _) (Nat.le_refl _) ?_
    refine cu_i (rn_V (n := 1) (As := [.int r42]) (rest := []) hx hb hml hown ht hKK hFx hP hD hS hA (c_m_emit l dC dI cI cB cZ cJ cR tb H.size ad N v r42 (show 0 ≤ ((v.1 0 12)).toInt ∧ ((v.1 0 12)).toInt < 24000 from (by omega))) tw_8 tw_9 (by decide +kernel) rfl rfl ⟨Nat.le_of_ble_eq_true rfl, Nat.le_of_ble_eq_true rfl⟩ (List.range (mW ad N cI cZ cJ v).length) (rg_map _) (mW_nd _ _ _ _ _ _) rfl rfl rfl rfl hl.1 rfl (Nat.le_of_ble_eq_true rfl) dX13_store_16 ⟨Nat.le_of_ble_eq_true rfl, Nat.le_of_ble_eq_true rfl⟩) hP hD hS hA (fun r45 u44 H locs hw43 hP hD hS => ?_)
    obtain ⟨rfl, rfl⟩ := hw43
    have hP : va_P (dC, dI) vwCl (mW ad N cI cZ cJ (wA (wA v 11 (((v.1 0 12)).toNatClampNeg) r42) 0 12 (((v.1 0 12)) + (1 : Int32)))) H := hP
    have hD : va_D A (mW ad N cI cZ cJ (wA (wA v 11 (((v.1 0 12)).toNatClampNeg) r42) 0 12 (((v.1 0 12)) + (1 : Int32)))) := hD
    refine tp_i (y := ((v.1 0 12))) (rfl) ?_
    refine W.widen (k := 0) (n := 0) (Nat.le_refl _) (Nat.le_refl _) ?_
    refine lv_pop hx hb dX13_store_19 rfl ?_
    refine lv_aload_n hx hb dX13_store_20 rfl (lv_at hl 0 rfl) ?_
    refine lv_iconst (v := 2) hx hb dX13_store_21 (by decide) ?_
    refine lv_iload_n hx hb dX13_store_22 rfl (lv_at hl 1 rfl) ?_
    refine cu_i (rn_V (n := 2) (As := [.int 2, .int pa]) (rest := []) hx hb hml hown ht hKK hFx hP hD hS hA (c_m_say l dC dI cI cB cZ cJ cR tb H.size ad N (wA (wA v 11 (((v.1 0 12)).toNatClampNeg) r42) 0 12 (((v.1 0 12)) + (1 : Int32))) (2 : Int32) pa (show 0 ≤ ((v.1 0 15)).toInt ∧ ((v.1 0 15)).toInt < 16000 from (by omega))) tw_59 tw_60 (by decide +kernel) rfl rfl ⟨Nat.le_of_ble_eq_true rfl, Nat.le_of_ble_eq_true rfl⟩ (List.range (mW ad N cI cZ cJ (wA (wA v 11 (((v.1 0 12)).toNatClampNeg) r42) 0 12 (((v.1 0 12)) + (1 : Int32)))).length) (rg_map _) (mW_nd _ _ _ _ _ _) rfl rfl rfl rfl hl.1 rfl (Nat.le_of_ble_eq_true rfl) dX13_store_23 ⟨Nat.le_of_ble_eq_true rfl, Nat.le_of_ble_eq_true rfl⟩) hP hD hS hA (fun r48 u47 H locs hw46 hP hD hS => ?_)
    obtain ⟨rfl, rfl⟩ := hw46
    have hP : va_P (dC, dI) vwCl (mW ad N cI cZ cJ (wA (wA (wA (wA (wA v 11 (((v.1 0 12)).toNatClampNeg) r42) 0 12 (((v.1 0 12)) + (1 : Int32))) 13 (((v.1 0 15)).toNatClampNeg) (2 : Int32)) 14 (((v.1 0 15)).toNatClampNeg) pa) 0 15 (((v.1 0 15)) + (1 : Int32)))) H := hP
    have hD : va_D A (mW ad N cI cZ cJ (wA (wA (wA (wA (wA v 11 (((v.1 0 12)).toNatClampNeg) r42) 0 12 (((v.1 0 12)) + (1 : Int32))) 13 (((v.1 0 15)).toNatClampNeg) (2 : Int32)) 14 (((v.1 0 15)).toNatClampNeg) pa) 0 15 (((v.1 0 15)) + (1 : Int32)))) := hD
    refine tp_i (y := ((v.1 0 15))) (rfl) ?_
    have sg49 : SGE (v.1 0 30).toInt (v.1 0 28).toInt (v.1 0 27).toInt (upd (v.1 13) (((v.1 0 15)).toNatClampNeg) (2 : Int32)) (upd (v.1 14) (((v.1 0 15)).toNatClampNeg) pa) (v.1 36) (v.1 38) (v.1 0 15).toNatClampNeg (((v.1 0 15)) + (1 : Int32)).toNatClampNeg (v.1 0 39).toNatClampNeg (v.1 0 39).toNatClampNeg [false] [false] ((1 : Int)) [] := SGE.say1 (x := (v.1 0 15)) (y := (((v.1 0 15)) + (1 : Int32))) sg1 (show 0 ≤ (v.1 0 15).toInt from (om_2ab3f6b9f5 zo)) (show (((v.1 0 15)) + (1 : Int32)).toInt = (v.1 0 15).toInt + 1 from (by omega)) (show (1 : Int) ≤ (1 : Int) from om_007919dbf5) (lenle (1 : Int) (by decide) om_007919dbf5) (ft_sloc (by decide) (show 0 ≤ pa.toInt ∧ pa.toInt < (v.1 0 30).toInt from (om_0ed08f574b zg z36))) (by decide) (by decide)
    refine W.widen (k := 0) (n := 0) (Nat.le_refl _) (Nat.le_refl _) ?_
    refine lv_pop hx hb dX13_store_26 rfl ?_
    refine lv_goto (tgt := 76) hx hb dX13_store_27 (by decide) ?_
    exact W.vret hx hb hr (fun t ht9 hW => ⟨⟨(wA (wA (wA (wA (wA v 11 (((v.1 0 12)).toNatClampNeg) r42) 0 12 (((v.1 0 12)) + (1 : Int32))) 13 (((v.1 0 15)).toNatClampNeg) (2 : Int32)) 14 (((v.1 0 15)).toNatClampNeg) pa) 0 15 (((v.1 0 15)) + (1 : Int32))), rfl, ⟨(FG.f (FG.a (FG.a (FG.f (FG.a (FG.rf _) (((v.1 0 12)).toNatClampNeg) r42 (by decide) (by decide)) (((v.1 0 12)) + (1 : Int32)) (by decide)) (((v.1 0 15)).toNatClampNeg) (2 : Int32) (by decide) (by decide)) (((v.1 0 15)).toNatClampNeg) pa (by decide) (by decide)) (((v.1 0 15)) + (1 : Int32)) (by decide)), (show (v.1 0 12).toInt ≤ (((v.1 0 12)) + (1 : Int32)).toInt ∧ (((v.1 0 12)) + (1 : Int32)).toInt ≤ (v.1 0 12).toInt + 2 from (by omega)), (show (((v.1 0 15)) + (1 : Int32)).toInt = (v.1 0 15).toInt + 1 from (by omega)), (show (v.1 0 43).toInt ≤ (v.1 0 43).toInt ∧ (v.1 0 43).toInt ≤ (v.1 0 43).toInt + 2 from om_798cb3402e), (fun (j9 : Nat) hj9 => (pk_un3 (a := ((v.1 0 12)).toInt) rfl (by omega) (by omega))), (fun (j9 : Nat) hj9 => (pk_un3 (a := ((v.1 0 15)).toInt) rfl (by omega) (by omega))), (fun (j9 : Nat) hj9 => (pk_un3 (a := ((v.1 0 15)).toInt) rfl (by omega) (by omega))), (AR.o (AR.o (AR.o (AR.o (AR.o a40 (by decide)) (by decide)) (by decide)) (by decide)) (by decide)), (FX.o (FX.o (FX.o (FX.o (FX.o fx (by decide) (by decide)) (by decide) (by decide)) (by decide) (by decide)) (by decide) (by decide)) (by decide) (by decide)), (fun hiv => (IV.o (IV.o (IV.o (IV.o (IV.o hiv (by decide)) (by decide)) (by decide)) (by decide)) (by decide))), (SGE.mono (SGE.setB sg49 rfl) (show (1 : Int) ≤ (1 : Int) from om_007919dbf5))⟩, by rw [ht9]; exact hP, hD⟩, hS.F ht9⟩) hS.2.2 dX13_store_76
