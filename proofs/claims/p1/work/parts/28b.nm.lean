theorem sdX13_nameOf_0 : decode cX13_nameOf 0 = .ok (.iload_n 0, 1) := by decide +kernel
theorem sdX13_nameOf_1 : decode cX13_nameOf 1 = .ok (.bipush 12, 2) := by decide +kernel
theorem sdX13_nameOf_3 : decode cX13_nameOf 3 = .ok (.ishr, 1) := by decide +kernel
theorem sdX13_nameOf_4 : decode cX13_nameOf 4 = .ok (.bipush 7, 2) := by decide +kernel
theorem sdX13_nameOf_6 : decode cX13_nameOf 6 = .ok (.iand, 1) := by decide +kernel
theorem sdX13_nameOf_7 : decode cX13_nameOf 7 = .ok (.istore_n 1, 1) := by decide +kernel
theorem sdX13_nameOf_8 : decode cX13_nameOf 8 = .ok (.iload_n 0, 1) := by decide +kernel
theorem sdX13_nameOf_9 : decode cX13_nameOf 9 = .ok (.bipush 25, 2) := by decide +kernel
theorem sdX13_nameOf_11 : decode cX13_nameOf 11 = .ok (.iushr, 1) := by decide +kernel
theorem sdX13_nameOf_12 : decode cX13_nameOf 12 = .ok (.istore_n 2, 1) := by decide +kernel
theorem sdX13_nameOf_13 : decode cX13_nameOf 13 = .ok (.bipush 8, 2) := by decide +kernel
theorem sdX13_nameOf_15 : decode cX13_nameOf 15 = .ok (.anewarray 85, 3) := by decide +kernel
theorem sw_146 : (.classLink RX13 85 "java/lang/String" : Cond) ∈ tw_W := tw_in (by decide +kernel) (by decide +kernel)
theorem sdX13_nameOf_18 : decode cX13_nameOf 18 = .ok (.dup, 1) := by decide +kernel
theorem sdX13_nameOf_19 : decode cX13_nameOf 19 = .ok (.iconst 0, 1) := by decide +kernel
theorem sdX13_nameOf_20 : decode cX13_nameOf 20 = .ok (.ldc_w 717, 3) := by decide +kernel
theorem sdX13_nameOf_23 : decode cX13_nameOf 23 = .ok (.aastore, 1) := by decide +kernel
theorem sdX13_nameOf_24 : decode cX13_nameOf 24 = .ok (.dup, 1) := by decide +kernel
theorem sdX13_nameOf_25 : decode cX13_nameOf 25 = .ok (.iconst 1, 1) := by decide +kernel
theorem sdX13_nameOf_26 : decode cX13_nameOf 26 = .ok (.ldc_w 719, 3) := by decide +kernel
theorem sdX13_nameOf_29 : decode cX13_nameOf 29 = .ok (.aastore, 1) := by decide +kernel
theorem sdX13_nameOf_30 : decode cX13_nameOf 30 = .ok (.dup, 1) := by decide +kernel
theorem sdX13_nameOf_31 : decode cX13_nameOf 31 = .ok (.iconst 2, 1) := by decide +kernel
theorem sdX13_nameOf_32 : decode cX13_nameOf 32 = .ok (.aconst_null, 1) := by decide +kernel
theorem sdX13_nameOf_33 : decode cX13_nameOf 33 = .ok (.aastore, 1) := by decide +kernel
theorem sdX13_nameOf_34 : decode cX13_nameOf 34 = .ok (.dup, 1) := by decide +kernel
theorem sdX13_nameOf_35 : decode cX13_nameOf 35 = .ok (.iconst 3, 1) := by decide +kernel
theorem sdX13_nameOf_36 : decode cX13_nameOf 36 = .ok (.aconst_null, 1) := by decide +kernel
theorem sdX13_nameOf_37 : decode cX13_nameOf 37 = .ok (.aastore, 1) := by decide +kernel
theorem sdX13_nameOf_38 : decode cX13_nameOf 38 = .ok (.dup, 1) := by decide +kernel
theorem sdX13_nameOf_39 : decode cX13_nameOf 39 = .ok (.iconst 4, 1) := by decide +kernel
theorem sdX13_nameOf_40 : decode cX13_nameOf 40 = .ok (.ldc_w 721, 3) := by decide +kernel
theorem sdX13_nameOf_43 : decode cX13_nameOf 43 = .ok (.aastore, 1) := by decide +kernel
theorem sdX13_nameOf_44 : decode cX13_nameOf 44 = .ok (.dup, 1) := by decide +kernel
theorem sdX13_nameOf_45 : decode cX13_nameOf 45 = .ok (.iconst 5, 1) := by decide +kernel
theorem sdX13_nameOf_46 : decode cX13_nameOf 46 = .ok (.ldc_w 723, 3) := by decide +kernel
theorem sdX13_nameOf_49 : decode cX13_nameOf 49 = .ok (.aastore, 1) := by decide +kernel
theorem sdX13_nameOf_50 : decode cX13_nameOf 50 = .ok (.dup, 1) := by decide +kernel
theorem sdX13_nameOf_51 : decode cX13_nameOf 51 = .ok (.bipush 6, 2) := by decide +kernel
theorem sdX13_nameOf_53 : decode cX13_nameOf 53 = .ok (.ldc_w 725, 3) := by decide +kernel
theorem sdX13_nameOf_56 : decode cX13_nameOf 56 = .ok (.aastore, 1) := by decide +kernel
theorem sdX13_nameOf_57 : decode cX13_nameOf 57 = .ok (.dup, 1) := by decide +kernel
theorem sdX13_nameOf_58 : decode cX13_nameOf 58 = .ok (.bipush 7, 2) := by decide +kernel
theorem sdX13_nameOf_60 : decode cX13_nameOf 60 = .ok (.ldc_w 727, 3) := by decide +kernel
theorem sdX13_nameOf_63 : decode cX13_nameOf 63 = .ok (.aastore, 1) := by decide +kernel
theorem sdX13_nameOf_64 : decode cX13_nameOf 64 = .ok (.astore_n 3, 1) := by decide +kernel
theorem sdX13_nameOf_65 : decode cX13_nameOf 65 = .ok (.bipush 8, 2) := by decide +kernel
theorem sdX13_nameOf_67 : decode cX13_nameOf 67 = .ok (.anewarray 85, 3) := by decide +kernel
theorem sdX13_nameOf_70 : decode cX13_nameOf 70 = .ok (.dup, 1) := by decide +kernel
theorem sdX13_nameOf_71 : decode cX13_nameOf 71 = .ok (.iconst 0, 1) := by decide +kernel
theorem sdX13_nameOf_72 : decode cX13_nameOf 72 = .ok (.ldc_w 729, 3) := by decide +kernel
theorem sdX13_nameOf_75 : decode cX13_nameOf 75 = .ok (.aastore, 1) := by decide +kernel
theorem sdX13_nameOf_76 : decode cX13_nameOf 76 = .ok (.dup, 1) := by decide +kernel
theorem sdX13_nameOf_77 : decode cX13_nameOf 77 = .ok (.iconst 1, 1) := by decide +kernel
theorem sdX13_nameOf_78 : decode cX13_nameOf 78 = .ok (.ldc_w 731, 3) := by decide +kernel
theorem sdX13_nameOf_81 : decode cX13_nameOf 81 = .ok (.aastore, 1) := by decide +kernel
theorem sdX13_nameOf_82 : decode cX13_nameOf 82 = .ok (.dup, 1) := by decide +kernel
theorem sdX13_nameOf_83 : decode cX13_nameOf 83 = .ok (.iconst 2, 1) := by decide +kernel
theorem sdX13_nameOf_84 : decode cX13_nameOf 84 = .ok (.ldc_w 733, 3) := by decide +kernel
theorem sdX13_nameOf_87 : decode cX13_nameOf 87 = .ok (.aastore, 1) := by decide +kernel
theorem sdX13_nameOf_88 : decode cX13_nameOf 88 = .ok (.dup, 1) := by decide +kernel
theorem sdX13_nameOf_89 : decode cX13_nameOf 89 = .ok (.iconst 3, 1) := by decide +kernel
theorem sdX13_nameOf_90 : decode cX13_nameOf 90 = .ok (.aconst_null, 1) := by decide +kernel
theorem sdX13_nameOf_91 : decode cX13_nameOf 91 = .ok (.aastore, 1) := by decide +kernel
theorem sdX13_nameOf_92 : decode cX13_nameOf 92 = .ok (.dup, 1) := by decide +kernel
theorem sdX13_nameOf_93 : decode cX13_nameOf 93 = .ok (.iconst 4, 1) := by decide +kernel
theorem sdX13_nameOf_94 : decode cX13_nameOf 94 = .ok (.ldc_w 734, 3) := by decide +kernel
theorem sdX13_nameOf_97 : decode cX13_nameOf 97 = .ok (.aastore, 1) := by decide +kernel
theorem sdX13_nameOf_98 : decode cX13_nameOf 98 = .ok (.dup, 1) := by decide +kernel
theorem sdX13_nameOf_99 : decode cX13_nameOf 99 = .ok (.iconst 5, 1) := by decide +kernel
theorem sdX13_nameOf_100 : decode cX13_nameOf 100 = .ok (.ldc_w 736, 3) := by decide +kernel
theorem sdX13_nameOf_103 : decode cX13_nameOf 103 = .ok (.aastore, 1) := by decide +kernel
theorem sdX13_nameOf_104 : decode cX13_nameOf 104 = .ok (.dup, 1) := by decide +kernel
theorem sdX13_nameOf_105 : decode cX13_nameOf 105 = .ok (.bipush 6, 2) := by decide +kernel
theorem sdX13_nameOf_107 : decode cX13_nameOf 107 = .ok (.aconst_null, 1) := by decide +kernel
theorem sdX13_nameOf_108 : decode cX13_nameOf 108 = .ok (.aastore, 1) := by decide +kernel
theorem sdX13_nameOf_109 : decode cX13_nameOf 109 = .ok (.dup, 1) := by decide +kernel
theorem sdX13_nameOf_110 : decode cX13_nameOf 110 = .ok (.bipush 7, 2) := by decide +kernel
theorem sdX13_nameOf_112 : decode cX13_nameOf 112 = .ok (.aconst_null, 1) := by decide +kernel
theorem sdX13_nameOf_113 : decode cX13_nameOf 113 = .ok (.aastore, 1) := by decide +kernel
theorem sdX13_nameOf_114 : decode cX13_nameOf 114 = .ok (.astore 4, 2) := by decide +kernel
theorem sdX13_nameOf_116 : decode cX13_nameOf 116 = .ok (.bipush 8, 2) := by decide +kernel
theorem sdX13_nameOf_118 : decode cX13_nameOf 118 = .ok (.anewarray 85, 3) := by decide +kernel
theorem sdX13_nameOf_121 : decode cX13_nameOf 121 = .ok (.dup, 1) := by decide +kernel
theorem sdX13_nameOf_122 : decode cX13_nameOf 122 = .ok (.iconst 0, 1) := by decide +kernel
theorem sdX13_nameOf_123 : decode cX13_nameOf 123 = .ok (.ldc_w 738, 3) := by decide +kernel
theorem sdX13_nameOf_126 : decode cX13_nameOf 126 = .ok (.aastore, 1) := by decide +kernel
theorem sdX13_nameOf_127 : decode cX13_nameOf 127 = .ok (.dup, 1) := by decide +kernel
theorem sdX13_nameOf_128 : decode cX13_nameOf 128 = .ok (.iconst 1, 1) := by decide +kernel
theorem sdX13_nameOf_129 : decode cX13_nameOf 129 = .ok (.ldc_w 739, 3) := by decide +kernel
theorem sdX13_nameOf_132 : decode cX13_nameOf 132 = .ok (.aastore, 1) := by decide +kernel
theorem sdX13_nameOf_133 : decode cX13_nameOf 133 = .ok (.dup, 1) := by decide +kernel
theorem sdX13_nameOf_134 : decode cX13_nameOf 134 = .ok (.iconst 2, 1) := by decide +kernel
theorem sdX13_nameOf_135 : decode cX13_nameOf 135 = .ok (.ldc_w 741, 3) := by decide +kernel
theorem sdX13_nameOf_138 : decode cX13_nameOf 138 = .ok (.aastore, 1) := by decide +kernel
theorem sdX13_nameOf_139 : decode cX13_nameOf 139 = .ok (.dup, 1) := by decide +kernel
theorem sdX13_nameOf_140 : decode cX13_nameOf 140 = .ok (.iconst 3, 1) := by decide +kernel
theorem sdX13_nameOf_141 : decode cX13_nameOf 141 = .ok (.ldc_w 743, 3) := by decide +kernel
theorem sdX13_nameOf_144 : decode cX13_nameOf 144 = .ok (.aastore, 1) := by decide +kernel
theorem sdX13_nameOf_145 : decode cX13_nameOf 145 = .ok (.dup, 1) := by decide +kernel
theorem sdX13_nameOf_146 : decode cX13_nameOf 146 = .ok (.iconst 4, 1) := by decide +kernel
theorem sdX13_nameOf_147 : decode cX13_nameOf 147 = .ok (.ldc_w 745, 3) := by decide +kernel
theorem sdX13_nameOf_150 : decode cX13_nameOf 150 = .ok (.aastore, 1) := by decide +kernel
theorem sdX13_nameOf_151 : decode cX13_nameOf 151 = .ok (.dup, 1) := by decide +kernel
theorem sdX13_nameOf_152 : decode cX13_nameOf 152 = .ok (.iconst 5, 1) := by decide +kernel
theorem sdX13_nameOf_153 : decode cX13_nameOf 153 = .ok (.ldc_w 747, 3) := by decide +kernel
theorem sdX13_nameOf_156 : decode cX13_nameOf 156 = .ok (.aastore, 1) := by decide +kernel
theorem sdX13_nameOf_157 : decode cX13_nameOf 157 = .ok (.dup, 1) := by decide +kernel
theorem sdX13_nameOf_158 : decode cX13_nameOf 158 = .ok (.bipush 6, 2) := by decide +kernel
theorem sdX13_nameOf_160 : decode cX13_nameOf 160 = .ok (.ldc_w 749, 3) := by decide +kernel
theorem sdX13_nameOf_163 : decode cX13_nameOf 163 = .ok (.aastore, 1) := by decide +kernel
theorem sdX13_nameOf_164 : decode cX13_nameOf 164 = .ok (.dup, 1) := by decide +kernel
theorem sdX13_nameOf_165 : decode cX13_nameOf 165 = .ok (.bipush 7, 2) := by decide +kernel
theorem sdX13_nameOf_167 : decode cX13_nameOf 167 = .ok (.ldc_w 751, 3) := by decide +kernel
theorem sdX13_nameOf_170 : decode cX13_nameOf 170 = .ok (.aastore, 1) := by decide +kernel
theorem sdX13_nameOf_171 : decode cX13_nameOf 171 = .ok (.astore 5, 2) := by decide +kernel
theorem sdX13_nameOf_173 : decode cX13_nameOf 173 = .ok (.bipush 8, 2) := by decide +kernel
theorem sdX13_nameOf_175 : decode cX13_nameOf 175 = .ok (.anewarray 85, 3) := by decide +kernel
theorem sdX13_nameOf_178 : decode cX13_nameOf 178 = .ok (.dup, 1) := by decide +kernel
theorem sdX13_nameOf_179 : decode cX13_nameOf 179 = .ok (.iconst 0, 1) := by decide +kernel
theorem sdX13_nameOf_180 : decode cX13_nameOf 180 = .ok (.ldc_w 753, 3) := by decide +kernel
theorem sdX13_nameOf_183 : decode cX13_nameOf 183 = .ok (.aastore, 1) := by decide +kernel
theorem sdX13_nameOf_184 : decode cX13_nameOf 184 = .ok (.dup, 1) := by decide +kernel
theorem sdX13_nameOf_185 : decode cX13_nameOf 185 = .ok (.iconst 1, 1) := by decide +kernel
theorem sdX13_nameOf_186 : decode cX13_nameOf 186 = .ok (.ldc_w 755, 3) := by decide +kernel
theorem sdX13_nameOf_189 : decode cX13_nameOf 189 = .ok (.aastore, 1) := by decide +kernel
theorem sdX13_nameOf_190 : decode cX13_nameOf 190 = .ok (.dup, 1) := by decide +kernel
theorem sdX13_nameOf_191 : decode cX13_nameOf 191 = .ok (.iconst 2, 1) := by decide +kernel
theorem sdX13_nameOf_192 : decode cX13_nameOf 192 = .ok (.ldc_w 757, 3) := by decide +kernel
theorem sdX13_nameOf_195 : decode cX13_nameOf 195 = .ok (.aastore, 1) := by decide +kernel
theorem sdX13_nameOf_196 : decode cX13_nameOf 196 = .ok (.dup, 1) := by decide +kernel
theorem sdX13_nameOf_197 : decode cX13_nameOf 197 = .ok (.iconst 3, 1) := by decide +kernel
theorem sdX13_nameOf_198 : decode cX13_nameOf 198 = .ok (.ldc_w 759, 3) := by decide +kernel
theorem sdX13_nameOf_201 : decode cX13_nameOf 201 = .ok (.aastore, 1) := by decide +kernel
theorem sdX13_nameOf_202 : decode cX13_nameOf 202 = .ok (.dup, 1) := by decide +kernel
theorem sdX13_nameOf_203 : decode cX13_nameOf 203 = .ok (.iconst 4, 1) := by decide +kernel
theorem sdX13_nameOf_204 : decode cX13_nameOf 204 = .ok (.ldc_w 761, 3) := by decide +kernel
theorem sdX13_nameOf_207 : decode cX13_nameOf 207 = .ok (.aastore, 1) := by decide +kernel
theorem sdX13_nameOf_208 : decode cX13_nameOf 208 = .ok (.dup, 1) := by decide +kernel
theorem sdX13_nameOf_209 : decode cX13_nameOf 209 = .ok (.iconst 5, 1) := by decide +kernel
theorem sdX13_nameOf_210 : decode cX13_nameOf 210 = .ok (.ldc_w 763, 3) := by decide +kernel
theorem sdX13_nameOf_213 : decode cX13_nameOf 213 = .ok (.aastore, 1) := by decide +kernel
theorem sdX13_nameOf_214 : decode cX13_nameOf 214 = .ok (.dup, 1) := by decide +kernel
theorem sdX13_nameOf_215 : decode cX13_nameOf 215 = .ok (.bipush 6, 2) := by decide +kernel
theorem sdX13_nameOf_217 : decode cX13_nameOf 217 = .ok (.ldc_w 765, 3) := by decide +kernel
theorem sdX13_nameOf_220 : decode cX13_nameOf 220 = .ok (.aastore, 1) := by decide +kernel
theorem sdX13_nameOf_221 : decode cX13_nameOf 221 = .ok (.dup, 1) := by decide +kernel
theorem sdX13_nameOf_222 : decode cX13_nameOf 222 = .ok (.bipush 7, 2) := by decide +kernel
theorem sdX13_nameOf_224 : decode cX13_nameOf 224 = .ok (.ldc_w 767, 3) := by decide +kernel
theorem sdX13_nameOf_227 : decode cX13_nameOf 227 = .ok (.aastore, 1) := by decide +kernel
theorem sdX13_nameOf_228 : decode cX13_nameOf 228 = .ok (.astore 6, 2) := by decide +kernel
theorem sdX13_nameOf_230 : decode cX13_nameOf 230 = .ok (.iload_n 0, 1) := by decide +kernel
theorem sdX13_nameOf_231 : decode cX13_nameOf 231 = .ok (.bipush 127, 2) := by decide +kernel
theorem sdX13_nameOf_233 : decode cX13_nameOf 233 = .ok (.iand, 1) := by decide +kernel
theorem sdX13_nameOf_234 : decode cX13_nameOf 234 = .ok (.lookupswitch 258 #[(3, 118), (15, 246), (19, 157), (23, 94), (35, 123), (51, 200), (55, 90), (99, 114), (103, 102), (111, 98)], 90) := by decide +kernel
theorem sdX13_nameOf_352 : decode cX13_nameOf 352 = .ok (.aload 4, 2) := by decide +kernel
theorem sdX13_nameOf_354 : decode cX13_nameOf 354 = .ok (.iload_n 1, 1) := by decide +kernel
theorem sdX13_nameOf_355 : decode cX13_nameOf 355 = .ok (.aaload, 1) := by decide +kernel
theorem sdX13_nameOf_356 : decode cX13_nameOf 356 = .ok (.areturn, 1) := by decide +kernel
theorem sdX13_nameOf_480 : decode cX13_nameOf 480 = .ok (.iload_n 1, 1) := by decide +kernel
theorem sdX13_nameOf_481 : decode cX13_nameOf 481 = .ok (.ifCond .ne 9, 3) := by decide +kernel
theorem sdX13_nameOf_490 : decode cX13_nameOf 490 = .ok (.aconst_null, 1) := by decide +kernel
theorem sdX13_nameOf_491 : decode cX13_nameOf 491 = .ok (.areturn, 1) := by decide +kernel
theorem sdX13_nameOf_484 : decode cX13_nameOf 484 = .ok (.ldc_w 787, 3) := by decide +kernel
theorem sdX13_nameOf_487 : decode cX13_nameOf 487 = .ok (.goto 4, 3) := by decide +kernel
theorem sdX13_nameOf_391 : decode cX13_nameOf 391 = .ok (.iload_n 1, 1) := by decide +kernel
theorem sdX13_nameOf_392 : decode cX13_nameOf 392 = .ok (.iconst 1, 1) := by decide +kernel
theorem sdX13_nameOf_393 : decode cX13_nameOf 393 = .ok (.if_icmp .ne 11, 3) := by decide +kernel
theorem sdX13_nameOf_404 : decode cX13_nameOf 404 = .ok (.iload_n 1, 1) := by decide +kernel
theorem sdX13_nameOf_405 : decode cX13_nameOf 405 = .ok (.iconst 5, 1) := by decide +kernel
theorem sdX13_nameOf_406 : decode cX13_nameOf 406 = .ok (.if_icmp .ne 7, 3) := by decide +kernel
theorem sdX13_nameOf_413 : decode cX13_nameOf 413 = .ok (.aload 5, 2) := by decide +kernel
theorem sdX13_nameOf_415 : decode cX13_nameOf 415 = .ok (.iload_n 1, 1) := by decide +kernel
theorem sdX13_nameOf_416 : decode cX13_nameOf 416 = .ok (.aaload, 1) := by decide +kernel
theorem sdX13_nameOf_417 : decode cX13_nameOf 417 = .ok (.goto 16, 3) := by decide +kernel
theorem sdX13_nameOf_433 : decode cX13_nameOf 433 = .ok (.areturn, 1) := by decide +kernel
theorem sdX13_nameOf_409 : decode cX13_nameOf 409 = .ok (.iload_n 2, 1) := by decide +kernel
theorem sdX13_nameOf_410 : decode cX13_nameOf 410 = .ok (.ifCond .ne 10, 3) := by decide +kernel
theorem sdX13_nameOf_420 : decode cX13_nameOf 420 = .ok (.iload_n 2, 1) := by decide +kernel
theorem sdX13_nameOf_421 : decode cX13_nameOf 421 = .ok (.bipush 32, 2) := by decide +kernel
theorem sdX13_nameOf_423 : decode cX13_nameOf 423 = .ok (.if_icmp .ne 9, 3) := by decide +kernel
theorem sdX13_nameOf_432 : decode cX13_nameOf 432 = .ok (.aconst_null, 1) := by decide +kernel
theorem sdX13_nameOf_426 : decode cX13_nameOf 426 = .ok (.ldc_w 781, 3) := by decide +kernel
theorem sdX13_nameOf_429 : decode cX13_nameOf 429 = .ok (.goto 4, 3) := by decide +kernel
theorem sdX13_nameOf_396 : decode cX13_nameOf 396 = .ok (.iload_n 2, 1) := by decide +kernel
theorem sdX13_nameOf_397 : decode cX13_nameOf 397 = .ok (.ifCond .eq 7, 3) := by decide +kernel
theorem sdX13_nameOf_400 : decode cX13_nameOf 400 = .ok (.aconst_null, 1) := by decide +kernel
theorem sdX13_nameOf_401 : decode cX13_nameOf 401 = .ok (.goto 32, 3) := by decide +kernel
theorem sdX13_nameOf_328 : decode cX13_nameOf 328 = .ok (.ldc_w 770, 3) := by decide +kernel
theorem sdX13_nameOf_331 : decode cX13_nameOf 331 = .ok (.areturn, 1) := by decide +kernel
theorem sdX13_nameOf_357 : decode cX13_nameOf 357 = .ok (.iload_n 1, 1) := by decide +kernel
theorem sdX13_nameOf_358 : decode cX13_nameOf 358 = .ok (.ifCond .ne 9, 3) := by decide +kernel
theorem sdX13_nameOf_367 : decode cX13_nameOf 367 = .ok (.iload_n 1, 1) := by decide +kernel
theorem sdX13_nameOf_368 : decode cX13_nameOf 368 = .ok (.iconst 1, 1) := by decide +kernel
theorem sdX13_nameOf_369 : decode cX13_nameOf 369 = .ok (.if_icmp .ne 9, 3) := by decide +kernel
theorem sdX13_nameOf_378 : decode cX13_nameOf 378 = .ok (.iload_n 1, 1) := by decide +kernel
theorem sdX13_nameOf_379 : decode cX13_nameOf 379 = .ok (.iconst 2, 1) := by decide +kernel
theorem sdX13_nameOf_380 : decode cX13_nameOf 380 = .ok (.if_icmp .ne 9, 3) := by decide +kernel
theorem sdX13_nameOf_389 : decode cX13_nameOf 389 = .ok (.aconst_null, 1) := by decide +kernel
theorem sdX13_nameOf_390 : decode cX13_nameOf 390 = .ok (.areturn, 1) := by decide +kernel
theorem sdX13_nameOf_383 : decode cX13_nameOf 383 = .ok (.ldc_w 780, 3) := by decide +kernel
theorem sdX13_nameOf_386 : decode cX13_nameOf 386 = .ok (.goto 4, 3) := by decide +kernel
theorem sdX13_nameOf_372 : decode cX13_nameOf 372 = .ok (.ldc_w 778, 3) := by decide +kernel
theorem sdX13_nameOf_375 : decode cX13_nameOf 375 = .ok (.goto 15, 3) := by decide +kernel
theorem sdX13_nameOf_361 : decode cX13_nameOf 361 = .ok (.ldc_w 776, 3) := by decide +kernel
theorem sdX13_nameOf_364 : decode cX13_nameOf 364 = .ok (.goto 26, 3) := by decide +kernel
theorem sdX13_nameOf_434 : decode cX13_nameOf 434 = .ok (.iload_n 2, 1) := by decide +kernel
theorem sdX13_nameOf_435 : decode cX13_nameOf 435 = .ok (.ifCond .ne 10, 3) := by decide +kernel
theorem sdX13_nameOf_445 : decode cX13_nameOf 445 = .ok (.iload_n 2, 1) := by decide +kernel
theorem sdX13_nameOf_446 : decode cX13_nameOf 446 = .ok (.bipush 32, 2) := by decide +kernel
theorem sdX13_nameOf_448 : decode cX13_nameOf 448 = .ok (.if_icmp .ne 13, 3) := by decide +kernel
theorem sdX13_nameOf_461 : decode cX13_nameOf 461 = .ok (.iload_n 2, 1) := by decide +kernel
theorem sdX13_nameOf_462 : decode cX13_nameOf 462 = .ok (.bipush 32, 2) := by decide +kernel
theorem sdX13_nameOf_464 : decode cX13_nameOf 464 = .ok (.if_icmp .ne 14, 3) := by decide +kernel
theorem sdX13_nameOf_478 : decode cX13_nameOf 478 = .ok (.aconst_null, 1) := by decide +kernel
theorem sdX13_nameOf_479 : decode cX13_nameOf 479 = .ok (.areturn, 1) := by decide +kernel
theorem sdX13_nameOf_451 : decode cX13_nameOf 451 = .ok (.iload_n 1, 1) := by decide +kernel
theorem sdX13_nameOf_452 : decode cX13_nameOf 452 = .ok (.ifCond .ne 9, 3) := by decide +kernel
theorem sdX13_nameOf_467 : decode cX13_nameOf 467 = .ok (.iload_n 1, 1) := by decide +kernel
theorem sdX13_nameOf_468 : decode cX13_nameOf 468 = .ok (.iconst 5, 1) := by decide +kernel
theorem sdX13_nameOf_469 : decode cX13_nameOf 469 = .ok (.if_icmp .ne 9, 3) := by decide +kernel
theorem sdX13_nameOf_472 : decode cX13_nameOf 472 = .ok (.ldc_w 785, 3) := by decide +kernel
theorem sdX13_nameOf_475 : decode cX13_nameOf 475 = .ok (.goto 4, 3) := by decide +kernel
theorem sdX13_nameOf_455 : decode cX13_nameOf 455 = .ok (.ldc_w 783, 3) := by decide +kernel
theorem sdX13_nameOf_458 : decode cX13_nameOf 458 = .ok (.goto 21, 3) := by decide +kernel
theorem sdX13_nameOf_438 : decode cX13_nameOf 438 = .ok (.aload 6, 2) := by decide +kernel
theorem sdX13_nameOf_440 : decode cX13_nameOf 440 = .ok (.iload_n 1, 1) := by decide +kernel
theorem sdX13_nameOf_441 : decode cX13_nameOf 441 = .ok (.aaload, 1) := by decide +kernel
theorem sdX13_nameOf_442 : decode cX13_nameOf 442 = .ok (.goto 37, 3) := by decide +kernel
theorem sdX13_nameOf_324 : decode cX13_nameOf 324 = .ok (.ldc_w 769, 3) := by decide +kernel
theorem sdX13_nameOf_327 : decode cX13_nameOf 327 = .ok (.areturn, 1) := by decide +kernel
theorem sdX13_nameOf_348 : decode cX13_nameOf 348 = .ok (.aload_n 3, 1) := by decide +kernel
theorem sdX13_nameOf_349 : decode cX13_nameOf 349 = .ok (.iload_n 1, 1) := by decide +kernel
theorem sdX13_nameOf_350 : decode cX13_nameOf 350 = .ok (.aaload, 1) := by decide +kernel
theorem sdX13_nameOf_351 : decode cX13_nameOf 351 = .ok (.areturn, 1) := by decide +kernel
theorem sdX13_nameOf_336 : decode cX13_nameOf 336 = .ok (.iload_n 1, 1) := by decide +kernel
theorem sdX13_nameOf_337 : decode cX13_nameOf 337 = .ok (.ifCond .ne 9, 3) := by decide +kernel
theorem sdX13_nameOf_346 : decode cX13_nameOf 346 = .ok (.aconst_null, 1) := by decide +kernel
theorem sdX13_nameOf_347 : decode cX13_nameOf 347 = .ok (.areturn, 1) := by decide +kernel
theorem sdX13_nameOf_340 : decode cX13_nameOf 340 = .ok (.ldc_w 774, 3) := by decide +kernel
theorem sdX13_nameOf_343 : decode cX13_nameOf 343 = .ok (.goto 4, 3) := by decide +kernel
theorem sdX13_nameOf_332 : decode cX13_nameOf 332 = .ok (.ldc_w 772, 3) := by decide +kernel
theorem sdX13_nameOf_335 : decode cX13_nameOf 335 = .ok (.areturn, 1) := by decide +kernel
theorem sdX13_nameOf_492 : decode cX13_nameOf 492 = .ok (.iload_n 0, 1) := by decide +kernel
theorem sdX13_nameOf_493 : decode cX13_nameOf 493 = .ok (.bipush 115, 2) := by decide +kernel
theorem sdX13_nameOf_495 : decode cX13_nameOf 495 = .ok (.if_icmp .ne 9, 3) := by decide +kernel
theorem sdX13_nameOf_504 : decode cX13_nameOf 504 = .ok (.iload_n 0, 1) := by decide +kernel
theorem sdX13_nameOf_505 : decode cX13_nameOf 505 = .ok (.ldc_w 297, 3) := by decide +kernel
theorem sw_147 : (.constant RX13 297 (1048691) : Cond) ∈ tw_W := tw_in (by decide +kernel) (by decide +kernel)
theorem sdX13_nameOf_508 : decode cX13_nameOf 508 = .ok (.if_icmp .ne 9, 3) := by decide +kernel
theorem sdX13_nameOf_517 : decode cX13_nameOf 517 = .ok (.aconst_null, 1) := by decide +kernel
theorem sdX13_nameOf_518 : decode cX13_nameOf 518 = .ok (.areturn, 1) := by decide +kernel
theorem sdX13_nameOf_511 : decode cX13_nameOf 511 = .ok (.ldc_w 791, 3) := by decide +kernel
theorem sdX13_nameOf_514 : decode cX13_nameOf 514 = .ok (.goto 4, 3) := by decide +kernel
theorem sdX13_nameOf_498 : decode cX13_nameOf 498 = .ok (.ldc_w 789, 3) := by decide +kernel
theorem sdX13_nameOf_501 : decode cX13_nameOf 501 = .ok (.goto 17, 3) := by decide +kernel
def nmI (w : Int32) : Option Nat := (if (w &&& 127) = 3 then ([some 31, some 32, some 33, none, some 34, some 35, none, none].getD ((w >>> (12 &&& 31)) &&& 7).toNatClampNeg none) else (if (w &&& 127) = 15 then (if ((w >>> (12 &&& 31)) &&& 7) = 0 then (some 62) else none) else (if (w &&& 127) = 19 then (if ((w >>> (12 &&& 31)) &&& 7) = 1 then (if ((w.toUInt32 >>> ((25 : Int32).toUInt32 &&& Int32.toUInt32 31)).toInt32) = 0 then ([some 36, some 37, some 38, some 39, some 40, some 41, some 42, some 43].getD ((w >>> (12 &&& 31)) &&& 7).toNatClampNeg none) else none) else (if ((w >>> (12 &&& 31)) &&& 7) = 5 then (if ((w.toUInt32 >>> ((25 : Int32).toUInt32 &&& Int32.toUInt32 31)).toInt32) = 0 then ([some 36, some 37, some 38, some 39, some 40, some 41, some 42, some 43].getD ((w >>> (12 &&& 31)) &&& 7).toNatClampNeg none) else (if ((w.toUInt32 >>> ((25 : Int32).toUInt32 &&& Int32.toUInt32 31)).toInt32) = 32 then (some 59) else none)) else ([some 36, some 37, some 38, some 39, some 40, some 41, some 42, some 43].getD ((w >>> (12 &&& 31)) &&& 7).toNatClampNeg none))) else (if (w &&& 127) = 23 then (some 53) else (if (w &&& 127) = 35 then (if ((w >>> (12 &&& 31)) &&& 7) = 0 then (some 56) else (if ((w >>> (12 &&& 31)) &&& 7) = 1 then (some 57) else (if ((w >>> (12 &&& 31)) &&& 7) = 2 then (some 58) else none))) else (if (w &&& 127) = 51 then (if ((w.toUInt32 >>> ((25 : Int32).toUInt32 &&& Int32.toUInt32 31)).toInt32) = 0 then ([some 44, some 45, some 46, some 47, some 48, some 49, some 50, some 51].getD ((w >>> (12 &&& 31)) &&& 7).toNatClampNeg none) else (if ((w.toUInt32 >>> ((25 : Int32).toUInt32 &&& Int32.toUInt32 31)).toInt32) = 32 then (if ((w >>> (12 &&& 31)) &&& 7) = 0 then (some 60) else (if ((w >>> (12 &&& 31)) &&& 7) = 5 then (some 61) else none)) else none)) else (if (w &&& 127) = 55 then (some 52) else (if (w &&& 127) = 99 then ([some 25, some 26, none, none, some 27, some 28, some 29, some 30].getD ((w >>> (12 &&& 31)) &&& 7).toNatClampNeg none) else (if (w &&& 127) = 103 then (if ((w >>> (12 &&& 31)) &&& 7) = 0 then (some 55) else none) else (if (w &&& 127) = 111 then (some 54) else (if w = 115 then (some 63) else (if w = 1048691 then (some 64) else none))))))))))))
set_option maxHeartbeats 16000000 in
set_option maxRecDepth 100000 in
/-- nameOf -/
theorem c_sh_nameOf (l : Launch) (dC : Nat → ClassId) (dI : Nat → Nat → Nat) (cI cB cZ cJ cR : ClassId) (tb : Nat → Nat) (sz : Nat) (w : Int32)  : Met l yX13_nameOf (Cond.code yX13_nameOf cX13_nameOf 7 (some (.object "java/lang/String")) :: tw_W) ({ frames := 0, cells := 4, slots := 32, locals := 0 }) (pc_ (dC, dI) (tyS cI cB cZ cJ cR) tb [] sz [.int w]) (qq_ (dC, dI) [] sz (fun (r : Option Nat) (u : Unit) => r = (nmI w).map (fun i => tb (100 + i))) (fun (u : Unit) => [])) 4 32 (va_A [] sz) := by
  refine Met.ofW (cc := cX13_nameOf) (maxL := 7) (ret := (some (.object "java/lang/String"))) (by decide) rfl ?_
  intro p e s m9 args below meth c s₁ B hml hv
  obtain ⟨rfl, hsz, hP, hKK, hD0, hFx⟩ := hv
  have hK := hKK.1
  have hx := B.exec
  have hb := B.bytes
  have hr := B.returns
  have ht : ∀ w ∈ tw_W, w.before _ s = true := fun w h => atoms_spec (ws := Cond.code yX13_nameOf cX13_nameOf 7 (some (.object "java/lang/String")) :: tw_W) B.pre w (List.mem_cons_of_mem _ h)
  have hown : s.vm.findClass RX13 = some m9.cls := findClass_of_methodNamed B.named
  have hlocks := B.notSynchronized
  subst hsz
  unfold qq_
  have hD := hD0.self (sz := s.heap.size)
  generalize hAe : va_A [] s.heap.size = A at hD hFx ⊢
  have hA : ∀ q : Nat, s.heap.size ≤ q → A q := fun q h => by rw [← hAe]; exact Or.inr h
  have hS : va_S A s.heap s.heap [] := va_S.rf
  have hP : va_P (dC, dI) vwCl [] s.heap := hP
  have hl := lv_entry ([.int w]) (n := 7) (Nat.le_of_ble_eq_true rfl)
  rw [lg_entry_eq]
  generalize (lg_sl ([.int w]) ++ List.replicate (7 - (lg_sl ([.int w])).length) Slot.unset).toArray = ls at hl ⊢
  have hl : lv_has ls 7 [(0, .int w)] := hl
  refine lv_iload_n hx hb sdX13_nameOf_0 rfl (lv_at hl 0 rfl) ?_
  refine lv_bipush (v := 12) hx hb sdX13_nameOf_1 (by decide) ?_
  refine lv_ishr hx hb sdX13_nameOf_3 ?_
  refine lv_bipush (v := 7) hx hb sdX13_nameOf_4 (by decide) ?_
  refine lv_iand hx hb sdX13_nameOf_6 ?_
  refine lv_istore_n (lv' := [(1, .int ((w >>> (12 &&& 31)) &&& 7)), (0, .int w)]) hx hb sdX13_nameOf_7 rfl hl (by decide) rfl (fun ls hl => ?_)
  refine lv_iload_n hx hb sdX13_nameOf_8 rfl (lv_at hl 1 rfl) ?_
  refine lv_bipush (v := 25) hx hb sdX13_nameOf_9 (by decide) ?_
  refine lv_iushr hx hb sdX13_nameOf_11 rfl ?_
  refine lv_istore_n (lv' := [(2, .int ((w.toUInt32 >>> ((25 : Int32).toUInt32 &&& Int32.toUInt32 31)).toInt32)), (1, .int ((w >>> (12 &&& 31)) &&& 7)), (0, .int w)]) hx hb sdX13_nameOf_12 rfl hl (by decide) rfl (fun ls hl => ?_)
  refine lv_bipush (v := 8) hx hb sdX13_nameOf_13 (by decide) ?_
  refine va_newq (N' := 8) hx hb hown (ht _ sw_146) hKK.2.1.2 hK hP hD hS hA (by decide) (by decide) (by decide) (Nat.le_of_ble_eq_true rfl) (Nat.le_of_ble_eq_true rfl) sdX13_nameOf_15 (fun q1 cA2 H hK hP hD hS => ?_)
  have hP : va_P (dC, dI) vwCl [(q1, .inl (cA2, 8, .inr (.inr (.inr (.inr (fun _ => none))))))] H := hP
  have hD : va_D A [(q1, .inl (cA2, 8, .inr (.inr (.inr (.inr (fun _ => none))))))] := hD
  refine W.widen (k := 1) (n := 8) (by omega) (by omega) ?_
  refine lv_dup hx hb sdX13_nameOf_18 rfl ?_
  refine lv_iconst (v := 0) hx hb sdX13_nameOf_19 (by decide) ?_
  refine va_ldcSW hx hb hown (hKK.2.2.2.2.1 _ (List.mem_of_getElem? (i := 25) rfl)) sdX13_nameOf_20 ?_
  refine va_astqM hx hb hK hP hD hS 0 5 rfl rfl (str_any hFx hS 25 (by decide)) (vp_in_iff.mpr (by decide)) sdX13_nameOf_23 (fun H locs hP hD hS => ?_)
  have hP : va_P (dC, dI) vwCl [(q1, .inl (cA2, 8, .inr (.inr (.inr (.inr (va_up (fun _ => none) 0 (some (tb (100 + 25)))))))))] H := hP
  sorry
