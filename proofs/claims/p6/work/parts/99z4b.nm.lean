theorem xdX13_nameOf_0 : decode cX13_nameOf 0 = .ok (.iload_n 0, 1) := by decide +kernel
theorem xdX13_nameOf_1 : decode cX13_nameOf 1 = .ok (.bipush 12, 2) := by decide +kernel
theorem xdX13_nameOf_3 : decode cX13_nameOf 3 = .ok (.ishr, 1) := by decide +kernel
theorem xdX13_nameOf_4 : decode cX13_nameOf 4 = .ok (.bipush 7, 2) := by decide +kernel
theorem xdX13_nameOf_6 : decode cX13_nameOf 6 = .ok (.iand, 1) := by decide +kernel
theorem xdX13_nameOf_7 : decode cX13_nameOf 7 = .ok (.istore_n 1, 1) := by decide +kernel
theorem xdX13_nameOf_8 : decode cX13_nameOf 8 = .ok (.iload_n 0, 1) := by decide +kernel
theorem xdX13_nameOf_9 : decode cX13_nameOf 9 = .ok (.bipush 25, 2) := by decide +kernel
theorem xdX13_nameOf_11 : decode cX13_nameOf 11 = .ok (.iushr, 1) := by decide +kernel
theorem xdX13_nameOf_12 : decode cX13_nameOf 12 = .ok (.istore_n 2, 1) := by decide +kernel
theorem xdX13_nameOf_13 : decode cX13_nameOf 13 = .ok (.bipush 8, 2) := by decide +kernel
theorem xdX13_nameOf_15 : decode cX13_nameOf 15 = .ok (.anewarray 85, 3) := by decide +kernel
theorem xw_158 : (.classLink RX13 85 "java/lang/String" : Cond) ∈ tw_W := tw_in (t8_12 (List.mem_of_getElem? (i := 190) rfl)) rfl
theorem xdX13_nameOf_18 : decode cX13_nameOf 18 = .ok (.dup, 1) := by decide +kernel
theorem xdX13_nameOf_19 : decode cX13_nameOf 19 = .ok (.iconst 0, 1) := by decide +kernel
theorem xdX13_nameOf_20 : decode cX13_nameOf 20 = .ok (.ldc_w 717, 3) := by decide +kernel
theorem xdX13_nameOf_23 : decode cX13_nameOf 23 = .ok (.aastore, 1) := by decide +kernel
theorem xdX13_nameOf_24 : decode cX13_nameOf 24 = .ok (.dup, 1) := by decide +kernel
theorem xdX13_nameOf_25 : decode cX13_nameOf 25 = .ok (.iconst 1, 1) := by decide +kernel
theorem xdX13_nameOf_26 : decode cX13_nameOf 26 = .ok (.ldc_w 719, 3) := by decide +kernel
theorem xdX13_nameOf_29 : decode cX13_nameOf 29 = .ok (.aastore, 1) := by decide +kernel
theorem xdX13_nameOf_30 : decode cX13_nameOf 30 = .ok (.dup, 1) := by decide +kernel
theorem xdX13_nameOf_31 : decode cX13_nameOf 31 = .ok (.iconst 2, 1) := by decide +kernel
theorem xdX13_nameOf_32 : decode cX13_nameOf 32 = .ok (.aconst_null, 1) := by decide +kernel
theorem xdX13_nameOf_33 : decode cX13_nameOf 33 = .ok (.aastore, 1) := by decide +kernel
theorem xdX13_nameOf_34 : decode cX13_nameOf 34 = .ok (.dup, 1) := by decide +kernel
theorem xdX13_nameOf_35 : decode cX13_nameOf 35 = .ok (.iconst 3, 1) := by decide +kernel
theorem xdX13_nameOf_36 : decode cX13_nameOf 36 = .ok (.aconst_null, 1) := by decide +kernel
theorem xdX13_nameOf_37 : decode cX13_nameOf 37 = .ok (.aastore, 1) := by decide +kernel
theorem xdX13_nameOf_38 : decode cX13_nameOf 38 = .ok (.dup, 1) := by decide +kernel
theorem xdX13_nameOf_39 : decode cX13_nameOf 39 = .ok (.iconst 4, 1) := by decide +kernel
theorem xdX13_nameOf_40 : decode cX13_nameOf 40 = .ok (.ldc_w 721, 3) := by decide +kernel
theorem xdX13_nameOf_43 : decode cX13_nameOf 43 = .ok (.aastore, 1) := by decide +kernel
theorem xdX13_nameOf_44 : decode cX13_nameOf 44 = .ok (.dup, 1) := by decide +kernel
theorem xdX13_nameOf_45 : decode cX13_nameOf 45 = .ok (.iconst 5, 1) := by decide +kernel
theorem xdX13_nameOf_46 : decode cX13_nameOf 46 = .ok (.ldc_w 723, 3) := by decide +kernel
theorem xdX13_nameOf_49 : decode cX13_nameOf 49 = .ok (.aastore, 1) := by decide +kernel
theorem xdX13_nameOf_50 : decode cX13_nameOf 50 = .ok (.dup, 1) := by decide +kernel
theorem xdX13_nameOf_51 : decode cX13_nameOf 51 = .ok (.bipush 6, 2) := by decide +kernel
theorem xdX13_nameOf_53 : decode cX13_nameOf 53 = .ok (.ldc_w 725, 3) := by decide +kernel
theorem xdX13_nameOf_56 : decode cX13_nameOf 56 = .ok (.aastore, 1) := by decide +kernel
theorem xdX13_nameOf_57 : decode cX13_nameOf 57 = .ok (.dup, 1) := by decide +kernel
theorem xdX13_nameOf_58 : decode cX13_nameOf 58 = .ok (.bipush 7, 2) := by decide +kernel
theorem xdX13_nameOf_60 : decode cX13_nameOf 60 = .ok (.ldc_w 727, 3) := by decide +kernel
theorem xdX13_nameOf_63 : decode cX13_nameOf 63 = .ok (.aastore, 1) := by decide +kernel
theorem xdX13_nameOf_64 : decode cX13_nameOf 64 = .ok (.astore_n 3, 1) := by decide +kernel
theorem xdX13_nameOf_65 : decode cX13_nameOf 65 = .ok (.bipush 8, 2) := by decide +kernel
theorem xdX13_nameOf_67 : decode cX13_nameOf 67 = .ok (.anewarray 85, 3) := by decide +kernel
theorem xdX13_nameOf_70 : decode cX13_nameOf 70 = .ok (.dup, 1) := by decide +kernel
theorem xdX13_nameOf_71 : decode cX13_nameOf 71 = .ok (.iconst 0, 1) := by decide +kernel
theorem xdX13_nameOf_72 : decode cX13_nameOf 72 = .ok (.ldc_w 729, 3) := by decide +kernel
theorem xdX13_nameOf_75 : decode cX13_nameOf 75 = .ok (.aastore, 1) := by decide +kernel
theorem xdX13_nameOf_76 : decode cX13_nameOf 76 = .ok (.dup, 1) := by decide +kernel
theorem xdX13_nameOf_77 : decode cX13_nameOf 77 = .ok (.iconst 1, 1) := by decide +kernel
theorem xdX13_nameOf_78 : decode cX13_nameOf 78 = .ok (.ldc_w 731, 3) := by decide +kernel
theorem xdX13_nameOf_81 : decode cX13_nameOf 81 = .ok (.aastore, 1) := by decide +kernel
theorem xdX13_nameOf_82 : decode cX13_nameOf 82 = .ok (.dup, 1) := by decide +kernel
theorem xdX13_nameOf_83 : decode cX13_nameOf 83 = .ok (.iconst 2, 1) := by decide +kernel
theorem xdX13_nameOf_84 : decode cX13_nameOf 84 = .ok (.ldc_w 733, 3) := by decide +kernel
theorem xdX13_nameOf_87 : decode cX13_nameOf 87 = .ok (.aastore, 1) := by decide +kernel
theorem xdX13_nameOf_88 : decode cX13_nameOf 88 = .ok (.dup, 1) := by decide +kernel
theorem xdX13_nameOf_89 : decode cX13_nameOf 89 = .ok (.iconst 3, 1) := by decide +kernel
theorem xdX13_nameOf_90 : decode cX13_nameOf 90 = .ok (.aconst_null, 1) := by decide +kernel
theorem xdX13_nameOf_91 : decode cX13_nameOf 91 = .ok (.aastore, 1) := by decide +kernel
theorem xdX13_nameOf_92 : decode cX13_nameOf 92 = .ok (.dup, 1) := by decide +kernel
theorem xdX13_nameOf_93 : decode cX13_nameOf 93 = .ok (.iconst 4, 1) := by decide +kernel
theorem xdX13_nameOf_94 : decode cX13_nameOf 94 = .ok (.ldc_w 734, 3) := by decide +kernel
theorem xdX13_nameOf_97 : decode cX13_nameOf 97 = .ok (.aastore, 1) := by decide +kernel
theorem xdX13_nameOf_98 : decode cX13_nameOf 98 = .ok (.dup, 1) := by decide +kernel
theorem xdX13_nameOf_99 : decode cX13_nameOf 99 = .ok (.iconst 5, 1) := by decide +kernel
theorem xdX13_nameOf_100 : decode cX13_nameOf 100 = .ok (.ldc_w 736, 3) := by decide +kernel
theorem xdX13_nameOf_103 : decode cX13_nameOf 103 = .ok (.aastore, 1) := by decide +kernel
theorem xdX13_nameOf_104 : decode cX13_nameOf 104 = .ok (.dup, 1) := by decide +kernel
theorem xdX13_nameOf_105 : decode cX13_nameOf 105 = .ok (.bipush 6, 2) := by decide +kernel
theorem xdX13_nameOf_107 : decode cX13_nameOf 107 = .ok (.aconst_null, 1) := by decide +kernel
theorem xdX13_nameOf_108 : decode cX13_nameOf 108 = .ok (.aastore, 1) := by decide +kernel
theorem xdX13_nameOf_109 : decode cX13_nameOf 109 = .ok (.dup, 1) := by decide +kernel
theorem xdX13_nameOf_110 : decode cX13_nameOf 110 = .ok (.bipush 7, 2) := by decide +kernel
theorem xdX13_nameOf_112 : decode cX13_nameOf 112 = .ok (.aconst_null, 1) := by decide +kernel
theorem xdX13_nameOf_113 : decode cX13_nameOf 113 = .ok (.aastore, 1) := by decide +kernel
theorem xdX13_nameOf_114 : decode cX13_nameOf 114 = .ok (.astore 4, 2) := by decide +kernel
theorem xdX13_nameOf_116 : decode cX13_nameOf 116 = .ok (.bipush 8, 2) := by decide +kernel
theorem xdX13_nameOf_118 : decode cX13_nameOf 118 = .ok (.anewarray 85, 3) := by decide +kernel
theorem xdX13_nameOf_121 : decode cX13_nameOf 121 = .ok (.dup, 1) := by decide +kernel
theorem xdX13_nameOf_122 : decode cX13_nameOf 122 = .ok (.iconst 0, 1) := by decide +kernel
theorem xdX13_nameOf_123 : decode cX13_nameOf 123 = .ok (.ldc_w 738, 3) := by decide +kernel
theorem xdX13_nameOf_126 : decode cX13_nameOf 126 = .ok (.aastore, 1) := by decide +kernel
theorem xdX13_nameOf_127 : decode cX13_nameOf 127 = .ok (.dup, 1) := by decide +kernel
theorem xdX13_nameOf_128 : decode cX13_nameOf 128 = .ok (.iconst 1, 1) := by decide +kernel
theorem xdX13_nameOf_129 : decode cX13_nameOf 129 = .ok (.ldc_w 739, 3) := by decide +kernel
theorem xdX13_nameOf_132 : decode cX13_nameOf 132 = .ok (.aastore, 1) := by decide +kernel
theorem xdX13_nameOf_133 : decode cX13_nameOf 133 = .ok (.dup, 1) := by decide +kernel
theorem xdX13_nameOf_134 : decode cX13_nameOf 134 = .ok (.iconst 2, 1) := by decide +kernel
theorem xdX13_nameOf_135 : decode cX13_nameOf 135 = .ok (.ldc_w 741, 3) := by decide +kernel
theorem xdX13_nameOf_138 : decode cX13_nameOf 138 = .ok (.aastore, 1) := by decide +kernel
theorem xdX13_nameOf_139 : decode cX13_nameOf 139 = .ok (.dup, 1) := by decide +kernel
theorem xdX13_nameOf_140 : decode cX13_nameOf 140 = .ok (.iconst 3, 1) := by decide +kernel
theorem xdX13_nameOf_141 : decode cX13_nameOf 141 = .ok (.ldc_w 743, 3) := by decide +kernel
theorem xdX13_nameOf_144 : decode cX13_nameOf 144 = .ok (.aastore, 1) := by decide +kernel
theorem xdX13_nameOf_145 : decode cX13_nameOf 145 = .ok (.dup, 1) := by decide +kernel
theorem xdX13_nameOf_146 : decode cX13_nameOf 146 = .ok (.iconst 4, 1) := by decide +kernel
theorem xdX13_nameOf_147 : decode cX13_nameOf 147 = .ok (.ldc_w 745, 3) := by decide +kernel
theorem xdX13_nameOf_150 : decode cX13_nameOf 150 = .ok (.aastore, 1) := by decide +kernel
theorem xdX13_nameOf_151 : decode cX13_nameOf 151 = .ok (.dup, 1) := by decide +kernel
theorem xdX13_nameOf_152 : decode cX13_nameOf 152 = .ok (.iconst 5, 1) := by decide +kernel
theorem xdX13_nameOf_153 : decode cX13_nameOf 153 = .ok (.ldc_w 747, 3) := by decide +kernel
theorem xdX13_nameOf_156 : decode cX13_nameOf 156 = .ok (.aastore, 1) := by decide +kernel
theorem xdX13_nameOf_157 : decode cX13_nameOf 157 = .ok (.dup, 1) := by decide +kernel
theorem xdX13_nameOf_158 : decode cX13_nameOf 158 = .ok (.bipush 6, 2) := by decide +kernel
theorem xdX13_nameOf_160 : decode cX13_nameOf 160 = .ok (.ldc_w 749, 3) := by decide +kernel
theorem xdX13_nameOf_163 : decode cX13_nameOf 163 = .ok (.aastore, 1) := by decide +kernel
theorem xdX13_nameOf_164 : decode cX13_nameOf 164 = .ok (.dup, 1) := by decide +kernel
theorem xdX13_nameOf_165 : decode cX13_nameOf 165 = .ok (.bipush 7, 2) := by decide +kernel
theorem xdX13_nameOf_167 : decode cX13_nameOf 167 = .ok (.ldc_w 751, 3) := by decide +kernel
theorem xdX13_nameOf_170 : decode cX13_nameOf 170 = .ok (.aastore, 1) := by decide +kernel
theorem xdX13_nameOf_171 : decode cX13_nameOf 171 = .ok (.astore 5, 2) := by decide +kernel
theorem xdX13_nameOf_173 : decode cX13_nameOf 173 = .ok (.bipush 8, 2) := by decide +kernel
theorem xdX13_nameOf_175 : decode cX13_nameOf 175 = .ok (.anewarray 85, 3) := by decide +kernel
theorem xdX13_nameOf_178 : decode cX13_nameOf 178 = .ok (.dup, 1) := by decide +kernel
theorem xdX13_nameOf_179 : decode cX13_nameOf 179 = .ok (.iconst 0, 1) := by decide +kernel
theorem xdX13_nameOf_180 : decode cX13_nameOf 180 = .ok (.ldc_w 753, 3) := by decide +kernel
theorem xdX13_nameOf_183 : decode cX13_nameOf 183 = .ok (.aastore, 1) := by decide +kernel
theorem xdX13_nameOf_184 : decode cX13_nameOf 184 = .ok (.dup, 1) := by decide +kernel
theorem xdX13_nameOf_185 : decode cX13_nameOf 185 = .ok (.iconst 1, 1) := by decide +kernel
theorem xdX13_nameOf_186 : decode cX13_nameOf 186 = .ok (.ldc_w 755, 3) := by decide +kernel
theorem xdX13_nameOf_189 : decode cX13_nameOf 189 = .ok (.aastore, 1) := by decide +kernel
theorem xdX13_nameOf_190 : decode cX13_nameOf 190 = .ok (.dup, 1) := by decide +kernel
theorem xdX13_nameOf_191 : decode cX13_nameOf 191 = .ok (.iconst 2, 1) := by decide +kernel
theorem xdX13_nameOf_192 : decode cX13_nameOf 192 = .ok (.ldc_w 757, 3) := by decide +kernel
theorem xdX13_nameOf_195 : decode cX13_nameOf 195 = .ok (.aastore, 1) := by decide +kernel
theorem xdX13_nameOf_196 : decode cX13_nameOf 196 = .ok (.dup, 1) := by decide +kernel
theorem xdX13_nameOf_197 : decode cX13_nameOf 197 = .ok (.iconst 3, 1) := by decide +kernel
theorem xdX13_nameOf_198 : decode cX13_nameOf 198 = .ok (.ldc_w 759, 3) := by decide +kernel
theorem xdX13_nameOf_201 : decode cX13_nameOf 201 = .ok (.aastore, 1) := by decide +kernel
theorem xdX13_nameOf_202 : decode cX13_nameOf 202 = .ok (.dup, 1) := by decide +kernel
theorem xdX13_nameOf_203 : decode cX13_nameOf 203 = .ok (.iconst 4, 1) := by decide +kernel
theorem xdX13_nameOf_204 : decode cX13_nameOf 204 = .ok (.ldc_w 761, 3) := by decide +kernel
theorem xdX13_nameOf_207 : decode cX13_nameOf 207 = .ok (.aastore, 1) := by decide +kernel
theorem xdX13_nameOf_208 : decode cX13_nameOf 208 = .ok (.dup, 1) := by decide +kernel
theorem xdX13_nameOf_209 : decode cX13_nameOf 209 = .ok (.iconst 5, 1) := by decide +kernel
theorem xdX13_nameOf_210 : decode cX13_nameOf 210 = .ok (.ldc_w 763, 3) := by decide +kernel
theorem xdX13_nameOf_213 : decode cX13_nameOf 213 = .ok (.aastore, 1) := by decide +kernel
theorem xdX13_nameOf_214 : decode cX13_nameOf 214 = .ok (.dup, 1) := by decide +kernel
theorem xdX13_nameOf_215 : decode cX13_nameOf 215 = .ok (.bipush 6, 2) := by decide +kernel
theorem xdX13_nameOf_217 : decode cX13_nameOf 217 = .ok (.ldc_w 765, 3) := by decide +kernel
theorem xdX13_nameOf_220 : decode cX13_nameOf 220 = .ok (.aastore, 1) := by decide +kernel
theorem xdX13_nameOf_221 : decode cX13_nameOf 221 = .ok (.dup, 1) := by decide +kernel
theorem xdX13_nameOf_222 : decode cX13_nameOf 222 = .ok (.bipush 7, 2) := by decide +kernel
theorem xdX13_nameOf_224 : decode cX13_nameOf 224 = .ok (.ldc_w 767, 3) := by decide +kernel
theorem xdX13_nameOf_227 : decode cX13_nameOf 227 = .ok (.aastore, 1) := by decide +kernel
theorem xdX13_nameOf_228 : decode cX13_nameOf 228 = .ok (.astore 6, 2) := by decide +kernel
theorem xdX13_nameOf_230 : decode cX13_nameOf 230 = .ok (.iload_n 0, 1) := by decide +kernel
theorem xdX13_nameOf_231 : decode cX13_nameOf 231 = .ok (.bipush 127, 2) := by decide +kernel
theorem xdX13_nameOf_233 : decode cX13_nameOf 233 = .ok (.iand, 1) := by decide +kernel
theorem xdX13_nameOf_234 : decode cX13_nameOf 234 = .ok (.lookupswitch 258 #[(3, 118), (15, 246), (19, 157), (23, 94), (35, 123), (51, 200), (55, 90), (99, 114), (103, 102), (111, 98)], 90) := by decide +kernel
theorem xdX13_nameOf_352 : decode cX13_nameOf 352 = .ok (.aload 4, 2) := by decide +kernel
theorem xdX13_nameOf_354 : decode cX13_nameOf 354 = .ok (.iload_n 1, 1) := by decide +kernel
theorem xdX13_nameOf_355 : decode cX13_nameOf 355 = .ok (.aaload, 1) := by decide +kernel
theorem xdX13_nameOf_356 : decode cX13_nameOf 356 = .ok (.areturn, 1) := by decide +kernel
theorem xdX13_nameOf_480 : decode cX13_nameOf 480 = .ok (.iload_n 1, 1) := by decide +kernel
theorem xdX13_nameOf_481 : decode cX13_nameOf 481 = .ok (.ifCond .ne 9, 3) := by decide +kernel
theorem xdX13_nameOf_490 : decode cX13_nameOf 490 = .ok (.aconst_null, 1) := by decide +kernel
theorem xdX13_nameOf_491 : decode cX13_nameOf 491 = .ok (.areturn, 1) := by decide +kernel
theorem xdX13_nameOf_484 : decode cX13_nameOf 484 = .ok (.ldc_w 787, 3) := by decide +kernel
theorem xdX13_nameOf_487 : decode cX13_nameOf 487 = .ok (.goto 4, 3) := by decide +kernel
theorem xdX13_nameOf_391 : decode cX13_nameOf 391 = .ok (.iload_n 1, 1) := by decide +kernel
theorem xdX13_nameOf_392 : decode cX13_nameOf 392 = .ok (.iconst 1, 1) := by decide +kernel
theorem xdX13_nameOf_393 : decode cX13_nameOf 393 = .ok (.if_icmp .ne 11, 3) := by decide +kernel
theorem xdX13_nameOf_404 : decode cX13_nameOf 404 = .ok (.iload_n 1, 1) := by decide +kernel
theorem xdX13_nameOf_405 : decode cX13_nameOf 405 = .ok (.iconst 5, 1) := by decide +kernel
theorem xdX13_nameOf_406 : decode cX13_nameOf 406 = .ok (.if_icmp .ne 7, 3) := by decide +kernel
theorem xdX13_nameOf_413 : decode cX13_nameOf 413 = .ok (.aload 5, 2) := by decide +kernel
theorem xdX13_nameOf_415 : decode cX13_nameOf 415 = .ok (.iload_n 1, 1) := by decide +kernel
theorem xdX13_nameOf_416 : decode cX13_nameOf 416 = .ok (.aaload, 1) := by decide +kernel
theorem xdX13_nameOf_417 : decode cX13_nameOf 417 = .ok (.goto 16, 3) := by decide +kernel
theorem xdX13_nameOf_433 : decode cX13_nameOf 433 = .ok (.areturn, 1) := by decide +kernel
theorem xdX13_nameOf_409 : decode cX13_nameOf 409 = .ok (.iload_n 2, 1) := by decide +kernel
theorem xdX13_nameOf_410 : decode cX13_nameOf 410 = .ok (.ifCond .ne 10, 3) := by decide +kernel
theorem xdX13_nameOf_420 : decode cX13_nameOf 420 = .ok (.iload_n 2, 1) := by decide +kernel
theorem xdX13_nameOf_421 : decode cX13_nameOf 421 = .ok (.bipush 32, 2) := by decide +kernel
theorem xdX13_nameOf_423 : decode cX13_nameOf 423 = .ok (.if_icmp .ne 9, 3) := by decide +kernel
theorem xdX13_nameOf_432 : decode cX13_nameOf 432 = .ok (.aconst_null, 1) := by decide +kernel
theorem xdX13_nameOf_426 : decode cX13_nameOf 426 = .ok (.ldc_w 781, 3) := by decide +kernel
theorem xdX13_nameOf_429 : decode cX13_nameOf 429 = .ok (.goto 4, 3) := by decide +kernel
theorem xdX13_nameOf_396 : decode cX13_nameOf 396 = .ok (.iload_n 2, 1) := by decide +kernel
theorem xdX13_nameOf_397 : decode cX13_nameOf 397 = .ok (.ifCond .eq 7, 3) := by decide +kernel
theorem xdX13_nameOf_400 : decode cX13_nameOf 400 = .ok (.aconst_null, 1) := by decide +kernel
theorem xdX13_nameOf_401 : decode cX13_nameOf 401 = .ok (.goto 32, 3) := by decide +kernel
theorem xdX13_nameOf_328 : decode cX13_nameOf 328 = .ok (.ldc_w 770, 3) := by decide +kernel
theorem xdX13_nameOf_331 : decode cX13_nameOf 331 = .ok (.areturn, 1) := by decide +kernel
theorem xdX13_nameOf_357 : decode cX13_nameOf 357 = .ok (.iload_n 1, 1) := by decide +kernel
theorem xdX13_nameOf_358 : decode cX13_nameOf 358 = .ok (.ifCond .ne 9, 3) := by decide +kernel
theorem xdX13_nameOf_367 : decode cX13_nameOf 367 = .ok (.iload_n 1, 1) := by decide +kernel
theorem xdX13_nameOf_368 : decode cX13_nameOf 368 = .ok (.iconst 1, 1) := by decide +kernel
theorem xdX13_nameOf_369 : decode cX13_nameOf 369 = .ok (.if_icmp .ne 9, 3) := by decide +kernel
theorem xdX13_nameOf_378 : decode cX13_nameOf 378 = .ok (.iload_n 1, 1) := by decide +kernel
theorem xdX13_nameOf_379 : decode cX13_nameOf 379 = .ok (.iconst 2, 1) := by decide +kernel
theorem xdX13_nameOf_380 : decode cX13_nameOf 380 = .ok (.if_icmp .ne 9, 3) := by decide +kernel
theorem xdX13_nameOf_389 : decode cX13_nameOf 389 = .ok (.aconst_null, 1) := by decide +kernel
theorem xdX13_nameOf_390 : decode cX13_nameOf 390 = .ok (.areturn, 1) := by decide +kernel
theorem xdX13_nameOf_383 : decode cX13_nameOf 383 = .ok (.ldc_w 780, 3) := by decide +kernel
theorem xdX13_nameOf_386 : decode cX13_nameOf 386 = .ok (.goto 4, 3) := by decide +kernel
theorem xdX13_nameOf_372 : decode cX13_nameOf 372 = .ok (.ldc_w 778, 3) := by decide +kernel
theorem xdX13_nameOf_375 : decode cX13_nameOf 375 = .ok (.goto 15, 3) := by decide +kernel
theorem xdX13_nameOf_361 : decode cX13_nameOf 361 = .ok (.ldc_w 776, 3) := by decide +kernel
theorem xdX13_nameOf_364 : decode cX13_nameOf 364 = .ok (.goto 26, 3) := by decide +kernel
theorem xdX13_nameOf_434 : decode cX13_nameOf 434 = .ok (.iload_n 2, 1) := by decide +kernel
theorem xdX13_nameOf_435 : decode cX13_nameOf 435 = .ok (.ifCond .ne 10, 3) := by decide +kernel
theorem xdX13_nameOf_445 : decode cX13_nameOf 445 = .ok (.iload_n 2, 1) := by decide +kernel
theorem xdX13_nameOf_446 : decode cX13_nameOf 446 = .ok (.bipush 32, 2) := by decide +kernel
theorem xdX13_nameOf_448 : decode cX13_nameOf 448 = .ok (.if_icmp .ne 13, 3) := by decide +kernel
theorem xdX13_nameOf_461 : decode cX13_nameOf 461 = .ok (.iload_n 2, 1) := by decide +kernel
theorem xdX13_nameOf_462 : decode cX13_nameOf 462 = .ok (.bipush 32, 2) := by decide +kernel
theorem xdX13_nameOf_464 : decode cX13_nameOf 464 = .ok (.if_icmp .ne 14, 3) := by decide +kernel
theorem xdX13_nameOf_478 : decode cX13_nameOf 478 = .ok (.aconst_null, 1) := by decide +kernel
theorem xdX13_nameOf_479 : decode cX13_nameOf 479 = .ok (.areturn, 1) := by decide +kernel
theorem xdX13_nameOf_451 : decode cX13_nameOf 451 = .ok (.iload_n 1, 1) := by decide +kernel
theorem xdX13_nameOf_452 : decode cX13_nameOf 452 = .ok (.ifCond .ne 9, 3) := by decide +kernel
theorem xdX13_nameOf_467 : decode cX13_nameOf 467 = .ok (.iload_n 1, 1) := by decide +kernel
theorem xdX13_nameOf_468 : decode cX13_nameOf 468 = .ok (.iconst 5, 1) := by decide +kernel
theorem xdX13_nameOf_469 : decode cX13_nameOf 469 = .ok (.if_icmp .ne 9, 3) := by decide +kernel
theorem xdX13_nameOf_472 : decode cX13_nameOf 472 = .ok (.ldc_w 785, 3) := by decide +kernel
theorem xdX13_nameOf_475 : decode cX13_nameOf 475 = .ok (.goto 4, 3) := by decide +kernel
theorem xdX13_nameOf_455 : decode cX13_nameOf 455 = .ok (.ldc_w 783, 3) := by decide +kernel
theorem xdX13_nameOf_458 : decode cX13_nameOf 458 = .ok (.goto 21, 3) := by decide +kernel
theorem xdX13_nameOf_438 : decode cX13_nameOf 438 = .ok (.aload 6, 2) := by decide +kernel
theorem xdX13_nameOf_440 : decode cX13_nameOf 440 = .ok (.iload_n 1, 1) := by decide +kernel
theorem xdX13_nameOf_441 : decode cX13_nameOf 441 = .ok (.aaload, 1) := by decide +kernel
theorem xdX13_nameOf_442 : decode cX13_nameOf 442 = .ok (.goto 37, 3) := by decide +kernel
theorem xdX13_nameOf_324 : decode cX13_nameOf 324 = .ok (.ldc_w 769, 3) := by decide +kernel
theorem xdX13_nameOf_327 : decode cX13_nameOf 327 = .ok (.areturn, 1) := by decide +kernel
theorem xdX13_nameOf_348 : decode cX13_nameOf 348 = .ok (.aload_n 3, 1) := by decide +kernel
theorem xdX13_nameOf_349 : decode cX13_nameOf 349 = .ok (.iload_n 1, 1) := by decide +kernel
theorem xdX13_nameOf_350 : decode cX13_nameOf 350 = .ok (.aaload, 1) := by decide +kernel
theorem xdX13_nameOf_351 : decode cX13_nameOf 351 = .ok (.areturn, 1) := by decide +kernel
theorem xdX13_nameOf_336 : decode cX13_nameOf 336 = .ok (.iload_n 1, 1) := by decide +kernel
theorem xdX13_nameOf_337 : decode cX13_nameOf 337 = .ok (.ifCond .ne 9, 3) := by decide +kernel
theorem xdX13_nameOf_346 : decode cX13_nameOf 346 = .ok (.aconst_null, 1) := by decide +kernel
theorem xdX13_nameOf_347 : decode cX13_nameOf 347 = .ok (.areturn, 1) := by decide +kernel
theorem xdX13_nameOf_340 : decode cX13_nameOf 340 = .ok (.ldc_w 774, 3) := by decide +kernel
theorem xdX13_nameOf_343 : decode cX13_nameOf 343 = .ok (.goto 4, 3) := by decide +kernel
theorem xdX13_nameOf_332 : decode cX13_nameOf 332 = .ok (.ldc_w 772, 3) := by decide +kernel
theorem xdX13_nameOf_335 : decode cX13_nameOf 335 = .ok (.areturn, 1) := by decide +kernel
theorem xdX13_nameOf_492 : decode cX13_nameOf 492 = .ok (.iload_n 0, 1) := by decide +kernel
theorem xdX13_nameOf_493 : decode cX13_nameOf 493 = .ok (.bipush 115, 2) := by decide +kernel
theorem xdX13_nameOf_495 : decode cX13_nameOf 495 = .ok (.if_icmp .ne 9, 3) := by decide +kernel
theorem xdX13_nameOf_504 : decode cX13_nameOf 504 = .ok (.iload_n 0, 1) := by decide +kernel
theorem xdX13_nameOf_505 : decode cX13_nameOf 505 = .ok (.ldc_w 297, 3) := by decide +kernel
theorem xw_159 : (.constant RX13 297 (1048691) : Cond) ∈ tw_W := tw_in (t8_9 (List.mem_of_getElem? (i := 128) rfl)) rfl
theorem xdX13_nameOf_508 : decode cX13_nameOf 508 = .ok (.if_icmp .ne 9, 3) := by decide +kernel
theorem xdX13_nameOf_517 : decode cX13_nameOf 517 = .ok (.aconst_null, 1) := by decide +kernel
theorem xdX13_nameOf_518 : decode cX13_nameOf 518 = .ok (.areturn, 1) := by decide +kernel
theorem xdX13_nameOf_511 : decode cX13_nameOf 511 = .ok (.ldc_w 791, 3) := by decide +kernel
theorem xdX13_nameOf_514 : decode cX13_nameOf 514 = .ok (.goto 4, 3) := by decide +kernel
theorem xdX13_nameOf_498 : decode cX13_nameOf 498 = .ok (.ldc_w 789, 3) := by decide +kernel
theorem xdX13_nameOf_501 : decode cX13_nameOf 501 = .ok (.goto 17, 3) := by decide +kernel
def nmI (w : Int32) : Option Nat := (if (w &&& 127) = 3 then ([some 31, some 32, some 33, none, some 34, some 35, none, none].getD ((w >>> (12 &&& 31)) &&& 7).toNatClampNeg none) else (if (w &&& 127) = 15 then (if ((w >>> (12 &&& 31)) &&& 7) = 0 then (some 62) else none) else (if (w &&& 127) = 19 then (if ((w >>> (12 &&& 31)) &&& 7) = 1 then (if ((w.toUInt32 >>> ((25 : Int32).toUInt32 &&& Int32.toUInt32 31)).toInt32) = 0 then ([some 36, some 37, some 38, some 39, some 40, some 41, some 42, some 43].getD ((w >>> (12 &&& 31)) &&& 7).toNatClampNeg none) else none) else (if ((w >>> (12 &&& 31)) &&& 7) = 5 then (if ((w.toUInt32 >>> ((25 : Int32).toUInt32 &&& Int32.toUInt32 31)).toInt32) = 0 then ([some 36, some 37, some 38, some 39, some 40, some 41, some 42, some 43].getD ((w >>> (12 &&& 31)) &&& 7).toNatClampNeg none) else (if ((w.toUInt32 >>> ((25 : Int32).toUInt32 &&& Int32.toUInt32 31)).toInt32) = 32 then (some 59) else none)) else ([some 36, some 37, some 38, some 39, some 40, some 41, some 42, some 43].getD ((w >>> (12 &&& 31)) &&& 7).toNatClampNeg none))) else (if (w &&& 127) = 23 then (some 53) else (if (w &&& 127) = 35 then (if ((w >>> (12 &&& 31)) &&& 7) = 0 then (some 56) else (if ((w >>> (12 &&& 31)) &&& 7) = 1 then (some 57) else (if ((w >>> (12 &&& 31)) &&& 7) = 2 then (some 58) else none))) else (if (w &&& 127) = 51 then (if ((w.toUInt32 >>> ((25 : Int32).toUInt32 &&& Int32.toUInt32 31)).toInt32) = 0 then ([some 44, some 45, some 46, some 47, some 48, some 49, some 50, some 51].getD ((w >>> (12 &&& 31)) &&& 7).toNatClampNeg none) else (if ((w.toUInt32 >>> ((25 : Int32).toUInt32 &&& Int32.toUInt32 31)).toInt32) = 32 then (if ((w >>> (12 &&& 31)) &&& 7) = 0 then (some 60) else (if ((w >>> (12 &&& 31)) &&& 7) = 5 then (some 61) else none)) else none)) else (if (w &&& 127) = 55 then (some 52) else (if (w &&& 127) = 99 then ([some 25, some 26, none, none, some 27, some 28, some 29, some 30].getD ((w >>> (12 &&& 31)) &&& 7).toNatClampNeg none) else (if (w &&& 127) = 103 then (if ((w >>> (12 &&& 31)) &&& 7) = 0 then (some 55) else none) else (if (w &&& 127) = 111 then (some 54) else (if w = 115 then (some 63) else (if w = 1048691 then (some 64) else none))))))))))))
set_option maxHeartbeats 16000000 in
set_option maxRecDepth 100000 in
/-- nameOf -/
theorem c_sx_nameOf (l : Launch) (dC : Nat → ClassId) (dI : Nat → Nat → Nat) (cI cB cZ cJ cR : ClassId) (tb : Nat → Nat) (sz : Nat) (w : Int32)  : Met l yX13_nameOf (Cond.code yX13_nameOf cX13_nameOf 7 (some (.object "java/lang/String")) :: tw_W) ({ frames := 0, cells := 4, slots := 32, locals := 0 }) (pc_ (dC, dI) (tyS cI cB cZ cJ cR) tb [] sz [.int w]) (qq_ (dC, dI) [] sz (fun (r : Option Nat) (u : Unit) => r = (nmI w).map (fun i => tb (100 + i))) (fun (u : Unit) => [])) 4 32 (va_A [] sz) := by
  refine Met.ofW (cc := cX13_nameOf) (maxL := 7) (ret := (some (.object "java/lang/String"))) (by decide) rfl ?_
  intro p e s m9 args below meth c s₁ B hml hv
  obtain ⟨rfl, hsz, hP, hKK, hD0, hFx⟩ := hv
  have hK := hKK.1
  have hx := B.exec
  have hb := B.bytes
  have hr := B.returns
  have ht : ∀ w ∈ tw_W, w.before _ s = true := fun w h => atoms_spec (ws := Cond.code yX13_nameOf cX13_nameOf 7 (some (.object "java/lang/String")) :: tw_W) B.pre w (List.mem_cons_of_mem _ h)
  have hown : s.vm.findClass RX13 = some m9.cls := findClass_of_methodNamed B.named
  have hlocks := B.notSynchronized
  subst hsz
  unfold qq_
  have hD := hD0.self (sz := s.heap.size)
  generalize hAe : va_A [] s.heap.size = A at hD hFx ⊢
  have hA : ∀ q : Nat, s.heap.size ≤ q → A q := fun q h => by rw [← hAe]; exact Or.inr h
  have hS : va_S A s.heap s.heap [] := va_S.rf
  have hP : va_P (dC, dI) vwCl [] s.heap := hP
  have hl := lv_entry ([.int w]) (n := 7) (Nat.le_of_ble_eq_true rfl)
  rw [lg_entry_eq]
  generalize (lg_sl ([.int w]) ++ List.replicate (7 - (lg_sl ([.int w])).length) Slot.unset).toArray = ls at hl ⊢
  have hl : lv_has ls 7 [(0, .int w)] := hl
  refine lv_iload_n hx hb xdX13_nameOf_0 rfl (lv_at hl 0 rfl) ?_
  refine lv_bipush (v := 12) hx hb xdX13_nameOf_1 (by decide) ?_
  refine lv_ishr hx hb xdX13_nameOf_3 ?_
  refine lv_bipush (v := 7) hx hb xdX13_nameOf_4 (by decide) ?_
  refine lv_iand hx hb xdX13_nameOf_6 ?_
  refine lv_istore_n (lv' := [(1, .int ((w >>> (12 &&& 31)) &&& 7)), (0, .int w)]) hx hb xdX13_nameOf_7 rfl hl (by decide) rfl (fun ls hl => ?_)
  refine lv_iload_n hx hb xdX13_nameOf_8 rfl (lv_at hl 1 rfl) ?_
  refine lv_bipush (v := 25) hx hb xdX13_nameOf_9 (by decide) ?_
  refine lv_iushr hx hb xdX13_nameOf_11 rfl ?_
  refine lv_istore_n (lv' := [(2, .int ((w.toUInt32 >>> ((25 : Int32).toUInt32 &&& Int32.toUInt32 31)).toInt32)), (1, .int ((w >>> (12 &&& 31)) &&& 7)), (0, .int w)]) hx hb xdX13_nameOf_12 rfl hl (by decide) rfl (fun ls hl => ?_)
  refine lv_bipush (v := 8) hx hb xdX13_nameOf_13 (by decide) ?_
  refine va_newq (N' := 8) hx hb hown (ht _ xw_158) hKK.2.1.2 hK hP hD hS hA (by decide) (by decide) (by decide) (Nat.le_of_ble_eq_true rfl) (Nat.le_of_ble_eq_true rfl) xdX13_nameOf_15 (fun q1 cA2 H hK hP hD hS => ?_)
  have hP : va_P (dC, dI) vwCl [(q1, .inl (cA2, 8, .inr (.inr (.inr (.inr (fun _ => none))))))] H := hP
  have hD : va_D A [(q1, .inl (cA2, 8, .inr (.inr (.inr (.inr (fun _ => none))))))] := hD
  refine W.widen (k := 1) (n := 8) (by omega) (by omega) ?_
  refine lv_dup hx hb xdX13_nameOf_18 rfl ?_
  refine lv_iconst (v := 0) hx hb xdX13_nameOf_19 (by decide) ?_
  refine va_ldcSW hx hb hown (st_ hKK 25 (own := RX13) (idx := 717) (tx := "beq") (n := 25) rfl) xdX13_nameOf_20 ?_
  refine va_astqM hx hb hK hP hD hS 0 5 rfl rfl (str_any hFx hS 25 (by decide)) (vp_in_iff.mpr (by decide)) xdX13_nameOf_23 (fun H locs hP hD hS => ?_)
  have hP : va_P (dC, dI) vwCl [(q1, .inl (cA2, 8, .inr (.inr (.inr (.inr (va_up (fun _ => none) 0 (some (tb (100 + 25)))))))))] H := hP
  have hD : va_D A [(q1, .inl (cA2, 8, .inr (.inr (.inr (.inr (va_up (fun _ => none) 0 (some (tb (100 + 25)))))))))] := hD
  refine lv_dup hx hb xdX13_nameOf_24 rfl ?_
  refine lv_iconst (v := 1) hx hb xdX13_nameOf_25 (by decide) ?_
  refine va_ldcSW hx hb hown (st_ hKK 26 (own := RX13) (idx := 719) (tx := "bne") (n := 26) rfl) xdX13_nameOf_26 ?_
  refine va_astqM hx hb hK hP hD hS 0 5 rfl rfl (str_any hFx hS 26 (by decide)) (vp_in_iff.mpr (by decide)) xdX13_nameOf_29 (fun H locs hP hD hS => ?_)
  have hP : va_P (dC, dI) vwCl [(q1, .inl (cA2, 8, .inr (.inr (.inr (.inr (va_up (va_up (fun _ => none) 0 (some (tb (100 + 25)))) 1 (some (tb (100 + 26)))))))))] H := hP
  have hD : va_D A [(q1, .inl (cA2, 8, .inr (.inr (.inr (.inr (va_up (va_up (fun _ => none) 0 (some (tb (100 + 25)))) 1 (some (tb (100 + 26)))))))))] := hD
  refine lv_dup hx hb xdX13_nameOf_30 rfl ?_
  refine lv_iconst (v := 2) hx hb xdX13_nameOf_31 (by decide) ?_
  refine lv_null hx hb xdX13_nameOf_32 ?_
  refine va_astqN hx hb hK hP hD hS 0 5 rfl rfl (vp_in_iff.mpr (by decide)) xdX13_nameOf_33 (fun H locs hP hD hS => ?_)
  have hP : va_P (dC, dI) vwCl [(q1, .inl (cA2, 8, .inr (.inr (.inr (.inr (va_up (va_up (va_up (fun _ => none) 0 (some (tb (100 + 25)))) 1 (some (tb (100 + 26)))) 2 none))))))] H := hP
  have hD : va_D A [(q1, .inl (cA2, 8, .inr (.inr (.inr (.inr (va_up (va_up (va_up (fun _ => none) 0 (some (tb (100 + 25)))) 1 (some (tb (100 + 26)))) 2 none))))))] := hD
  refine lv_dup hx hb xdX13_nameOf_34 rfl ?_
  refine lv_iconst (v := 3) hx hb xdX13_nameOf_35 (by decide) ?_
  refine lv_null hx hb xdX13_nameOf_36 ?_
  refine va_astqN hx hb hK hP hD hS 0 5 rfl rfl (vp_in_iff.mpr (by decide)) xdX13_nameOf_37 (fun H locs hP hD hS => ?_)
  have hP : va_P (dC, dI) vwCl [(q1, .inl (cA2, 8, .inr (.inr (.inr (.inr (va_up (va_up (va_up (va_up (fun _ => none) 0 (some (tb (100 + 25)))) 1 (some (tb (100 + 26)))) 2 none) 3 none))))))] H := hP
  have hD : va_D A [(q1, .inl (cA2, 8, .inr (.inr (.inr (.inr (va_up (va_up (va_up (va_up (fun _ => none) 0 (some (tb (100 + 25)))) 1 (some (tb (100 + 26)))) 2 none) 3 none))))))] := hD
  refine lv_dup hx hb xdX13_nameOf_38 rfl ?_
  refine lv_iconst (v := 4) hx hb xdX13_nameOf_39 (by decide) ?_
  refine va_ldcSW hx hb hown (st_ hKK 27 (own := RX13) (idx := 721) (tx := "blt") (n := 27) rfl) xdX13_nameOf_40 ?_
  refine va_astqM hx hb hK hP hD hS 0 5 rfl rfl (str_any hFx hS 27 (by decide)) (vp_in_iff.mpr (by decide)) xdX13_nameOf_43 (fun H locs hP hD hS => ?_)
  have hP : va_P (dC, dI) vwCl [(q1, .inl (cA2, 8, .inr (.inr (.inr (.inr (va_up (va_up (va_up (va_up (va_up (fun _ => none) 0 (some (tb (100 + 25)))) 1 (some (tb (100 + 26)))) 2 none) 3 none) 4 (some (tb (100 + 27)))))))))] H := hP
  have hD : va_D A [(q1, .inl (cA2, 8, .inr (.inr (.inr (.inr (va_up (va_up (va_up (va_up (va_up (fun _ => none) 0 (some (tb (100 + 25)))) 1 (some (tb (100 + 26)))) 2 none) 3 none) 4 (some (tb (100 + 27)))))))))] := hD
  refine lv_dup hx hb xdX13_nameOf_44 rfl ?_
  refine lv_iconst (v := 5) hx hb xdX13_nameOf_45 (by decide) ?_
  refine va_ldcSW hx hb hown (st_ hKK 28 (own := RX13) (idx := 723) (tx := "bge") (n := 28) rfl) xdX13_nameOf_46 ?_
  refine va_astqM hx hb hK hP hD hS 0 5 rfl rfl (str_any hFx hS 28 (by decide)) (vp_in_iff.mpr (by decide)) xdX13_nameOf_49 (fun H locs hP hD hS => ?_)
  have hP : va_P (dC, dI) vwCl [(q1, .inl (cA2, 8, .inr (.inr (.inr (.inr (va_up (va_up (va_up (va_up (va_up (va_up (fun _ => none) 0 (some (tb (100 + 25)))) 1 (some (tb (100 + 26)))) 2 none) 3 none) 4 (some (tb (100 + 27)))) 5 (some (tb (100 + 28)))))))))] H := hP
  have hD : va_D A [(q1, .inl (cA2, 8, .inr (.inr (.inr (.inr (va_up (va_up (va_up (va_up (va_up (va_up (fun _ => none) 0 (some (tb (100 + 25)))) 1 (some (tb (100 + 26)))) 2 none) 3 none) 4 (some (tb (100 + 27)))) 5 (some (tb (100 + 28)))))))))] := hD
  refine lv_dup hx hb xdX13_nameOf_50 rfl ?_
  refine lv_bipush (v := 6) hx hb xdX13_nameOf_51 (by decide) ?_
  refine va_ldcSW hx hb hown (st_ hKK 29 (own := RX13) (idx := 725) (tx := "bltu") (n := 29) rfl) xdX13_nameOf_53 ?_
  refine va_astqM hx hb hK hP hD hS 0 5 rfl rfl (str_any hFx hS 29 (by decide)) (vp_in_iff.mpr (by decide)) xdX13_nameOf_56 (fun H locs hP hD hS => ?_)
  have hP : va_P (dC, dI) vwCl [(q1, .inl (cA2, 8, .inr (.inr (.inr (.inr (va_up (va_up (va_up (va_up (va_up (va_up (va_up (fun _ => none) 0 (some (tb (100 + 25)))) 1 (some (tb (100 + 26)))) 2 none) 3 none) 4 (some (tb (100 + 27)))) 5 (some (tb (100 + 28)))) 6 (some (tb (100 + 29)))))))))] H := hP
  have hD : va_D A [(q1, .inl (cA2, 8, .inr (.inr (.inr (.inr (va_up (va_up (va_up (va_up (va_up (va_up (va_up (fun _ => none) 0 (some (tb (100 + 25)))) 1 (some (tb (100 + 26)))) 2 none) 3 none) 4 (some (tb (100 + 27)))) 5 (some (tb (100 + 28)))) 6 (some (tb (100 + 29)))))))))] := hD
  refine lv_dup hx hb xdX13_nameOf_57 rfl ?_
  refine lv_bipush (v := 7) hx hb xdX13_nameOf_58 (by decide) ?_
  refine va_ldcSW hx hb hown (st_ hKK 30 (own := RX13) (idx := 727) (tx := "bgeu") (n := 30) rfl) xdX13_nameOf_60 ?_
  refine va_astqM hx hb hK hP hD hS 0 5 rfl rfl (str_any hFx hS 30 (by decide)) (vp_in_iff.mpr (by decide)) xdX13_nameOf_63 (fun H locs hP hD hS => ?_)
  have hP : va_P (dC, dI) vwCl [(q1, .inl (cA2, 8, .inr (.inr (.inr (.inr (va_up (va_up (va_up (va_up (va_up (va_up (va_up (va_up (fun _ => none) 0 (some (tb (100 + 25)))) 1 (some (tb (100 + 26)))) 2 none) 3 none) 4 (some (tb (100 + 27)))) 5 (some (tb (100 + 28)))) 6 (some (tb (100 + 29)))) 7 (some (tb (100 + 30)))))))))] H := hP
  have hD : va_D A [(q1, .inl (cA2, 8, .inr (.inr (.inr (.inr (va_up (va_up (va_up (va_up (va_up (va_up (va_up (va_up (fun _ => none) 0 (some (tb (100 + 25)))) 1 (some (tb (100 + 26)))) 2 none) 3 none) 4 (some (tb (100 + 27)))) 5 (some (tb (100 + 28)))) 6 (some (tb (100 + 29)))) 7 (some (tb (100 + 30)))))))))] := hD
  have hg_g3 : ∀ j, j < 8 → (va_up (va_up (va_up (va_up (va_up (va_up (va_up (va_up (fun _ => none) 0 (some (tb (100 + 25)))) 1 (some (tb (100 + 26)))) 2 none) 3 none) 4 (some (tb (100 + 27)))) 5 (some (tb (100 + 28)))) 6 (some (tb (100 + 29)))) 7 (some (tb (100 + 30)))) j = [some (tb (100 + 25)), some (tb (100 + 26)), none, none, some (tb (100 + 27)), some (tb (100 + 28)), some (tb (100 + 29)), some (tb (100 + 30))].getD j none := fun j hj => up8 _ _ _ _ _ _ _ _ hj
  generalize va_up (va_up (va_up (va_up (va_up (va_up (va_up (va_up (fun _ => none) 0 (some (tb (100 + 25)))) 1 (some (tb (100 + 26)))) 2 none) 3 none) 4 (some (tb (100 + 27)))) 5 (some (tb (100 + 28)))) 6 (some (tb (100 + 29)))) 7 (some (tb (100 + 30))) = g3 at hP hD hg_g3
  refine lv_astore_n (lv' := [(3, .ref q1), (2, .int ((w.toUInt32 >>> ((25 : Int32).toUInt32 &&& Int32.toUInt32 31)).toInt32)), (1, .int ((w >>> (12 &&& 31)) &&& 7)), (0, .int w)]) hx hb xdX13_nameOf_64 rfl hl (by decide) rfl (fun ls hl => ?_)
  refine lv_bipush (v := 8) hx hb xdX13_nameOf_65 (by decide) ?_
  refine va_newq (N' := 8) hx hb hown (ht _ xw_158) hKK.2.1.2 hK hP hD hS hA (by decide) (by decide) (by decide) (Nat.le_of_ble_eq_true rfl) (Nat.le_of_ble_eq_true rfl) xdX13_nameOf_67 (fun q4 cA5 H hK hP hD hS => ?_)
  have hP : va_P (dC, dI) vwCl [(q1, .inl (cA2, 8, .inr (.inr (.inr (.inr g3))))), (q4, .inl (cA5, 8, .inr (.inr (.inr (.inr (fun _ => none))))))] H := hP
  have hD : va_D A [(q1, .inl (cA2, 8, .inr (.inr (.inr (.inr g3))))), (q4, .inl (cA5, 8, .inr (.inr (.inr (.inr (fun _ => none))))))] := hD
  refine W.widen (k := 2) (n := 16) (by omega) (by omega) ?_
  refine lv_dup hx hb xdX13_nameOf_70 rfl ?_
  refine lv_iconst (v := 0) hx hb xdX13_nameOf_71 (by decide) ?_
  refine va_ldcSW hx hb hown (st_ hKK 31 (own := RX13) (idx := 729) (tx := "lb") (n := 31) rfl) xdX13_nameOf_72 ?_
  refine va_astqM hx hb hK hP hD hS 1 6 rfl rfl (str_any hFx hS 31 (by decide)) (vp_in_iff.mpr (by decide)) xdX13_nameOf_75 (fun H locs hP hD hS => ?_)
  have hP : va_P (dC, dI) vwCl [(q1, .inl (cA2, 8, .inr (.inr (.inr (.inr g3))))), (q4, .inl (cA5, 8, .inr (.inr (.inr (.inr (va_up (fun _ => none) 0 (some (tb (100 + 31)))))))))] H := hP
  have hD : va_D A [(q1, .inl (cA2, 8, .inr (.inr (.inr (.inr g3))))), (q4, .inl (cA5, 8, .inr (.inr (.inr (.inr (va_up (fun _ => none) 0 (some (tb (100 + 31)))))))))] := hD
  refine lv_dup hx hb xdX13_nameOf_76 rfl ?_
  refine lv_iconst (v := 1) hx hb xdX13_nameOf_77 (by decide) ?_
  refine va_ldcSW hx hb hown (st_ hKK 32 (own := RX13) (idx := 731) (tx := "lh") (n := 32) rfl) xdX13_nameOf_78 ?_
  refine va_astqM hx hb hK hP hD hS 1 6 rfl rfl (str_any hFx hS 32 (by decide)) (vp_in_iff.mpr (by decide)) xdX13_nameOf_81 (fun H locs hP hD hS => ?_)
  have hP : va_P (dC, dI) vwCl [(q1, .inl (cA2, 8, .inr (.inr (.inr (.inr g3))))), (q4, .inl (cA5, 8, .inr (.inr (.inr (.inr (va_up (va_up (fun _ => none) 0 (some (tb (100 + 31)))) 1 (some (tb (100 + 32)))))))))] H := hP
  have hD : va_D A [(q1, .inl (cA2, 8, .inr (.inr (.inr (.inr g3))))), (q4, .inl (cA5, 8, .inr (.inr (.inr (.inr (va_up (va_up (fun _ => none) 0 (some (tb (100 + 31)))) 1 (some (tb (100 + 32)))))))))] := hD
  refine lv_dup hx hb xdX13_nameOf_82 rfl ?_
  refine lv_iconst (v := 2) hx hb xdX13_nameOf_83 (by decide) ?_
  refine va_ldcSW hx hb hown (st_ hKK 33 (own := RX13) (idx := 733) (tx := "lw") (n := 33) rfl) xdX13_nameOf_84 ?_
  refine va_astqM hx hb hK hP hD hS 1 6 rfl rfl (str_any hFx hS 33 (by decide)) (vp_in_iff.mpr (by decide)) xdX13_nameOf_87 (fun H locs hP hD hS => ?_)
  have hP : va_P (dC, dI) vwCl [(q1, .inl (cA2, 8, .inr (.inr (.inr (.inr g3))))), (q4, .inl (cA5, 8, .inr (.inr (.inr (.inr (va_up (va_up (va_up (fun _ => none) 0 (some (tb (100 + 31)))) 1 (some (tb (100 + 32)))) 2 (some (tb (100 + 33)))))))))] H := hP
  have hD : va_D A [(q1, .inl (cA2, 8, .inr (.inr (.inr (.inr g3))))), (q4, .inl (cA5, 8, .inr (.inr (.inr (.inr (va_up (va_up (va_up (fun _ => none) 0 (some (tb (100 + 31)))) 1 (some (tb (100 + 32)))) 2 (some (tb (100 + 33)))))))))] := hD
  refine lv_dup hx hb xdX13_nameOf_88 rfl ?_
  refine lv_iconst (v := 3) hx hb xdX13_nameOf_89 (by decide) ?_
  refine lv_null hx hb xdX13_nameOf_90 ?_
  refine va_astqN hx hb hK hP hD hS 1 6 rfl rfl (vp_in_iff.mpr (by decide)) xdX13_nameOf_91 (fun H locs hP hD hS => ?_)
  have hP : va_P (dC, dI) vwCl [(q1, .inl (cA2, 8, .inr (.inr (.inr (.inr g3))))), (q4, .inl (cA5, 8, .inr (.inr (.inr (.inr (va_up (va_up (va_up (va_up (fun _ => none) 0 (some (tb (100 + 31)))) 1 (some (tb (100 + 32)))) 2 (some (tb (100 + 33)))) 3 none))))))] H := hP
  have hD : va_D A [(q1, .inl (cA2, 8, .inr (.inr (.inr (.inr g3))))), (q4, .inl (cA5, 8, .inr (.inr (.inr (.inr (va_up (va_up (va_up (va_up (fun _ => none) 0 (some (tb (100 + 31)))) 1 (some (tb (100 + 32)))) 2 (some (tb (100 + 33)))) 3 none))))))] := hD
  refine lv_dup hx hb xdX13_nameOf_92 rfl ?_
  refine lv_iconst (v := 4) hx hb xdX13_nameOf_93 (by decide) ?_
  refine va_ldcSW hx hb hown (st_ hKK 34 (own := RX13) (idx := 734) (tx := "lbu") (n := 34) rfl) xdX13_nameOf_94 ?_
  refine va_astqM hx hb hK hP hD hS 1 6 rfl rfl (str_any hFx hS 34 (by decide)) (vp_in_iff.mpr (by decide)) xdX13_nameOf_97 (fun H locs hP hD hS => ?_)
  have hP : va_P (dC, dI) vwCl [(q1, .inl (cA2, 8, .inr (.inr (.inr (.inr g3))))), (q4, .inl (cA5, 8, .inr (.inr (.inr (.inr (va_up (va_up (va_up (va_up (va_up (fun _ => none) 0 (some (tb (100 + 31)))) 1 (some (tb (100 + 32)))) 2 (some (tb (100 + 33)))) 3 none) 4 (some (tb (100 + 34)))))))))] H := hP
  have hD : va_D A [(q1, .inl (cA2, 8, .inr (.inr (.inr (.inr g3))))), (q4, .inl (cA5, 8, .inr (.inr (.inr (.inr (va_up (va_up (va_up (va_up (va_up (fun _ => none) 0 (some (tb (100 + 31)))) 1 (some (tb (100 + 32)))) 2 (some (tb (100 + 33)))) 3 none) 4 (some (tb (100 + 34)))))))))] := hD
  refine lv_dup hx hb xdX13_nameOf_98 rfl ?_
  refine lv_iconst (v := 5) hx hb xdX13_nameOf_99 (by decide) ?_
  refine va_ldcSW hx hb hown (st_ hKK 35 (own := RX13) (idx := 736) (tx := "lhu") (n := 35) rfl) xdX13_nameOf_100 ?_
  refine va_astqM hx hb hK hP hD hS 1 6 rfl rfl (str_any hFx hS 35 (by decide)) (vp_in_iff.mpr (by decide)) xdX13_nameOf_103 (fun H locs hP hD hS => ?_)
  have hP : va_P (dC, dI) vwCl [(q1, .inl (cA2, 8, .inr (.inr (.inr (.inr g3))))), (q4, .inl (cA5, 8, .inr (.inr (.inr (.inr (va_up (va_up (va_up (va_up (va_up (va_up (fun _ => none) 0 (some (tb (100 + 31)))) 1 (some (tb (100 + 32)))) 2 (some (tb (100 + 33)))) 3 none) 4 (some (tb (100 + 34)))) 5 (some (tb (100 + 35)))))))))] H := hP
  have hD : va_D A [(q1, .inl (cA2, 8, .inr (.inr (.inr (.inr g3))))), (q4, .inl (cA5, 8, .inr (.inr (.inr (.inr (va_up (va_up (va_up (va_up (va_up (va_up (fun _ => none) 0 (some (tb (100 + 31)))) 1 (some (tb (100 + 32)))) 2 (some (tb (100 + 33)))) 3 none) 4 (some (tb (100 + 34)))) 5 (some (tb (100 + 35)))))))))] := hD
  refine lv_dup hx hb xdX13_nameOf_104 rfl ?_
  refine lv_bipush (v := 6) hx hb xdX13_nameOf_105 (by decide) ?_
  refine lv_null hx hb xdX13_nameOf_107 ?_
  refine va_astqN hx hb hK hP hD hS 1 6 rfl rfl (vp_in_iff.mpr (by decide)) xdX13_nameOf_108 (fun H locs hP hD hS => ?_)
  have hP : va_P (dC, dI) vwCl [(q1, .inl (cA2, 8, .inr (.inr (.inr (.inr g3))))), (q4, .inl (cA5, 8, .inr (.inr (.inr (.inr (va_up (va_up (va_up (va_up (va_up (va_up (va_up (fun _ => none) 0 (some (tb (100 + 31)))) 1 (some (tb (100 + 32)))) 2 (some (tb (100 + 33)))) 3 none) 4 (some (tb (100 + 34)))) 5 (some (tb (100 + 35)))) 6 none))))))] H := hP
  have hD : va_D A [(q1, .inl (cA2, 8, .inr (.inr (.inr (.inr g3))))), (q4, .inl (cA5, 8, .inr (.inr (.inr (.inr (va_up (va_up (va_up (va_up (va_up (va_up (va_up (fun _ => none) 0 (some (tb (100 + 31)))) 1 (some (tb (100 + 32)))) 2 (some (tb (100 + 33)))) 3 none) 4 (some (tb (100 + 34)))) 5 (some (tb (100 + 35)))) 6 none))))))] := hD
  refine lv_dup hx hb xdX13_nameOf_109 rfl ?_
  refine lv_bipush (v := 7) hx hb xdX13_nameOf_110 (by decide) ?_
  refine lv_null hx hb xdX13_nameOf_112 ?_
  refine va_astqN hx hb hK hP hD hS 1 6 rfl rfl (vp_in_iff.mpr (by decide)) xdX13_nameOf_113 (fun H locs hP hD hS => ?_)
  have hP : va_P (dC, dI) vwCl [(q1, .inl (cA2, 8, .inr (.inr (.inr (.inr g3))))), (q4, .inl (cA5, 8, .inr (.inr (.inr (.inr (va_up (va_up (va_up (va_up (va_up (va_up (va_up (va_up (fun _ => none) 0 (some (tb (100 + 31)))) 1 (some (tb (100 + 32)))) 2 (some (tb (100 + 33)))) 3 none) 4 (some (tb (100 + 34)))) 5 (some (tb (100 + 35)))) 6 none) 7 none))))))] H := hP
  have hD : va_D A [(q1, .inl (cA2, 8, .inr (.inr (.inr (.inr g3))))), (q4, .inl (cA5, 8, .inr (.inr (.inr (.inr (va_up (va_up (va_up (va_up (va_up (va_up (va_up (va_up (fun _ => none) 0 (some (tb (100 + 31)))) 1 (some (tb (100 + 32)))) 2 (some (tb (100 + 33)))) 3 none) 4 (some (tb (100 + 34)))) 5 (some (tb (100 + 35)))) 6 none) 7 none))))))] := hD
  have hg_g6 : ∀ j, j < 8 → (va_up (va_up (va_up (va_up (va_up (va_up (va_up (va_up (fun _ => none) 0 (some (tb (100 + 31)))) 1 (some (tb (100 + 32)))) 2 (some (tb (100 + 33)))) 3 none) 4 (some (tb (100 + 34)))) 5 (some (tb (100 + 35)))) 6 none) 7 none) j = [some (tb (100 + 31)), some (tb (100 + 32)), some (tb (100 + 33)), none, some (tb (100 + 34)), some (tb (100 + 35)), none, none].getD j none := fun j hj => up8 _ _ _ _ _ _ _ _ hj
  generalize va_up (va_up (va_up (va_up (va_up (va_up (va_up (va_up (fun _ => none) 0 (some (tb (100 + 31)))) 1 (some (tb (100 + 32)))) 2 (some (tb (100 + 33)))) 3 none) 4 (some (tb (100 + 34)))) 5 (some (tb (100 + 35)))) 6 none) 7 none = g6 at hP hD hg_g6
  refine lv_astore (lv' := [(4, .ref q4), (3, .ref q1), (2, .int ((w.toUInt32 >>> ((25 : Int32).toUInt32 &&& Int32.toUInt32 31)).toInt32)), (1, .int ((w >>> (12 &&& 31)) &&& 7)), (0, .int w)]) hx hb xdX13_nameOf_114 hl (by decide) rfl (fun ls hl => ?_)
  refine lv_bipush (v := 8) hx hb xdX13_nameOf_116 (by decide) ?_
  refine va_newq (N' := 8) hx hb hown (ht _ xw_158) hKK.2.1.2 hK hP hD hS hA (by decide) (by decide) (by decide) (Nat.le_of_ble_eq_true rfl) (Nat.le_of_ble_eq_true rfl) xdX13_nameOf_118 (fun q7 cA8 H hK hP hD hS => ?_)
  have hP : va_P (dC, dI) vwCl [(q1, .inl (cA2, 8, .inr (.inr (.inr (.inr g3))))), (q4, .inl (cA5, 8, .inr (.inr (.inr (.inr g6))))), (q7, .inl (cA8, 8, .inr (.inr (.inr (.inr (fun _ => none))))))] H := hP
  have hD : va_D A [(q1, .inl (cA2, 8, .inr (.inr (.inr (.inr g3))))), (q4, .inl (cA5, 8, .inr (.inr (.inr (.inr g6))))), (q7, .inl (cA8, 8, .inr (.inr (.inr (.inr (fun _ => none))))))] := hD
  refine W.widen (k := 3) (n := 24) (by omega) (by omega) ?_
  refine lv_dup hx hb xdX13_nameOf_121 rfl ?_
  refine lv_iconst (v := 0) hx hb xdX13_nameOf_122 (by decide) ?_
  refine va_ldcSW hx hb hown (st_ hKK 36 (own := RX13) (idx := 738) (tx := "addi") (n := 36) rfl) xdX13_nameOf_123 ?_
  refine va_astqM hx hb hK hP hD hS 2 7 rfl rfl (str_any hFx hS 36 (by decide)) (vp_in_iff.mpr (by decide)) xdX13_nameOf_126 (fun H locs hP hD hS => ?_)
  have hP : va_P (dC, dI) vwCl [(q1, .inl (cA2, 8, .inr (.inr (.inr (.inr g3))))), (q4, .inl (cA5, 8, .inr (.inr (.inr (.inr g6))))), (q7, .inl (cA8, 8, .inr (.inr (.inr (.inr (va_up (fun _ => none) 0 (some (tb (100 + 36)))))))))] H := hP
  have hD : va_D A [(q1, .inl (cA2, 8, .inr (.inr (.inr (.inr g3))))), (q4, .inl (cA5, 8, .inr (.inr (.inr (.inr g6))))), (q7, .inl (cA8, 8, .inr (.inr (.inr (.inr (va_up (fun _ => none) 0 (some (tb (100 + 36)))))))))] := hD
  refine lv_dup hx hb xdX13_nameOf_127 rfl ?_
  refine lv_iconst (v := 1) hx hb xdX13_nameOf_128 (by decide) ?_
  refine va_ldcSW hx hb hown (st_ hKK 37 (own := RX13) (idx := 739) (tx := "slli") (n := 37) rfl) xdX13_nameOf_129 ?_
  refine va_astqM hx hb hK hP hD hS 2 7 rfl rfl (str_any hFx hS 37 (by decide)) (vp_in_iff.mpr (by decide)) xdX13_nameOf_132 (fun H locs hP hD hS => ?_)
  have hP : va_P (dC, dI) vwCl [(q1, .inl (cA2, 8, .inr (.inr (.inr (.inr g3))))), (q4, .inl (cA5, 8, .inr (.inr (.inr (.inr g6))))), (q7, .inl (cA8, 8, .inr (.inr (.inr (.inr (va_up (va_up (fun _ => none) 0 (some (tb (100 + 36)))) 1 (some (tb (100 + 37)))))))))] H := hP
  have hD : va_D A [(q1, .inl (cA2, 8, .inr (.inr (.inr (.inr g3))))), (q4, .inl (cA5, 8, .inr (.inr (.inr (.inr g6))))), (q7, .inl (cA8, 8, .inr (.inr (.inr (.inr (va_up (va_up (fun _ => none) 0 (some (tb (100 + 36)))) 1 (some (tb (100 + 37)))))))))] := hD
  refine lv_dup hx hb xdX13_nameOf_133 rfl ?_
  refine lv_iconst (v := 2) hx hb xdX13_nameOf_134 (by decide) ?_
  refine va_ldcSW hx hb hown (st_ hKK 38 (own := RX13) (idx := 741) (tx := "slti") (n := 38) rfl) xdX13_nameOf_135 ?_
  refine va_astqM hx hb hK hP hD hS 2 7 rfl rfl (str_any hFx hS 38 (by decide)) (vp_in_iff.mpr (by decide)) xdX13_nameOf_138 (fun H locs hP hD hS => ?_)
  have hP : va_P (dC, dI) vwCl [(q1, .inl (cA2, 8, .inr (.inr (.inr (.inr g3))))), (q4, .inl (cA5, 8, .inr (.inr (.inr (.inr g6))))), (q7, .inl (cA8, 8, .inr (.inr (.inr (.inr (va_up (va_up (va_up (fun _ => none) 0 (some (tb (100 + 36)))) 1 (some (tb (100 + 37)))) 2 (some (tb (100 + 38)))))))))] H := hP
  have hD : va_D A [(q1, .inl (cA2, 8, .inr (.inr (.inr (.inr g3))))), (q4, .inl (cA5, 8, .inr (.inr (.inr (.inr g6))))), (q7, .inl (cA8, 8, .inr (.inr (.inr (.inr (va_up (va_up (va_up (fun _ => none) 0 (some (tb (100 + 36)))) 1 (some (tb (100 + 37)))) 2 (some (tb (100 + 38)))))))))] := hD
  refine lv_dup hx hb xdX13_nameOf_139 rfl ?_
  refine lv_iconst (v := 3) hx hb xdX13_nameOf_140 (by decide) ?_
  refine va_ldcSW hx hb hown (st_ hKK 39 (own := RX13) (idx := 743) (tx := "sltiu") (n := 39) rfl) xdX13_nameOf_141 ?_
  refine va_astqM hx hb hK hP hD hS 2 7 rfl rfl (str_any hFx hS 39 (by decide)) (vp_in_iff.mpr (by decide)) xdX13_nameOf_144 (fun H locs hP hD hS => ?_)
  have hP : va_P (dC, dI) vwCl [(q1, .inl (cA2, 8, .inr (.inr (.inr (.inr g3))))), (q4, .inl (cA5, 8, .inr (.inr (.inr (.inr g6))))), (q7, .inl (cA8, 8, .inr (.inr (.inr (.inr (va_up (va_up (va_up (va_up (fun _ => none) 0 (some (tb (100 + 36)))) 1 (some (tb (100 + 37)))) 2 (some (tb (100 + 38)))) 3 (some (tb (100 + 39)))))))))] H := hP
  have hD : va_D A [(q1, .inl (cA2, 8, .inr (.inr (.inr (.inr g3))))), (q4, .inl (cA5, 8, .inr (.inr (.inr (.inr g6))))), (q7, .inl (cA8, 8, .inr (.inr (.inr (.inr (va_up (va_up (va_up (va_up (fun _ => none) 0 (some (tb (100 + 36)))) 1 (some (tb (100 + 37)))) 2 (some (tb (100 + 38)))) 3 (some (tb (100 + 39)))))))))] := hD
  refine lv_dup hx hb xdX13_nameOf_145 rfl ?_
  refine lv_iconst (v := 4) hx hb xdX13_nameOf_146 (by decide) ?_
  refine va_ldcSW hx hb hown (st_ hKK 40 (own := RX13) (idx := 745) (tx := "xori") (n := 40) rfl) xdX13_nameOf_147 ?_
  refine va_astqM hx hb hK hP hD hS 2 7 rfl rfl (str_any hFx hS 40 (by decide)) (vp_in_iff.mpr (by decide)) xdX13_nameOf_150 (fun H locs hP hD hS => ?_)
  have hP : va_P (dC, dI) vwCl [(q1, .inl (cA2, 8, .inr (.inr (.inr (.inr g3))))), (q4, .inl (cA5, 8, .inr (.inr (.inr (.inr g6))))), (q7, .inl (cA8, 8, .inr (.inr (.inr (.inr (va_up (va_up (va_up (va_up (va_up (fun _ => none) 0 (some (tb (100 + 36)))) 1 (some (tb (100 + 37)))) 2 (some (tb (100 + 38)))) 3 (some (tb (100 + 39)))) 4 (some (tb (100 + 40)))))))))] H := hP
  have hD : va_D A [(q1, .inl (cA2, 8, .inr (.inr (.inr (.inr g3))))), (q4, .inl (cA5, 8, .inr (.inr (.inr (.inr g6))))), (q7, .inl (cA8, 8, .inr (.inr (.inr (.inr (va_up (va_up (va_up (va_up (va_up (fun _ => none) 0 (some (tb (100 + 36)))) 1 (some (tb (100 + 37)))) 2 (some (tb (100 + 38)))) 3 (some (tb (100 + 39)))) 4 (some (tb (100 + 40)))))))))] := hD
  refine lv_dup hx hb xdX13_nameOf_151 rfl ?_
  refine lv_iconst (v := 5) hx hb xdX13_nameOf_152 (by decide) ?_
  refine va_ldcSW hx hb hown (st_ hKK 41 (own := RX13) (idx := 747) (tx := "srli") (n := 41) rfl) xdX13_nameOf_153 ?_
  refine va_astqM hx hb hK hP hD hS 2 7 rfl rfl (str_any hFx hS 41 (by decide)) (vp_in_iff.mpr (by decide)) xdX13_nameOf_156 (fun H locs hP hD hS => ?_)
  have hP : va_P (dC, dI) vwCl [(q1, .inl (cA2, 8, .inr (.inr (.inr (.inr g3))))), (q4, .inl (cA5, 8, .inr (.inr (.inr (.inr g6))))), (q7, .inl (cA8, 8, .inr (.inr (.inr (.inr (va_up (va_up (va_up (va_up (va_up (va_up (fun _ => none) 0 (some (tb (100 + 36)))) 1 (some (tb (100 + 37)))) 2 (some (tb (100 + 38)))) 3 (some (tb (100 + 39)))) 4 (some (tb (100 + 40)))) 5 (some (tb (100 + 41)))))))))] H := hP
  have hD : va_D A [(q1, .inl (cA2, 8, .inr (.inr (.inr (.inr g3))))), (q4, .inl (cA5, 8, .inr (.inr (.inr (.inr g6))))), (q7, .inl (cA8, 8, .inr (.inr (.inr (.inr (va_up (va_up (va_up (va_up (va_up (va_up (fun _ => none) 0 (some (tb (100 + 36)))) 1 (some (tb (100 + 37)))) 2 (some (tb (100 + 38)))) 3 (some (tb (100 + 39)))) 4 (some (tb (100 + 40)))) 5 (some (tb (100 + 41)))))))))] := hD
  refine lv_dup hx hb xdX13_nameOf_157 rfl ?_
  refine lv_bipush (v := 6) hx hb xdX13_nameOf_158 (by decide) ?_
  refine va_ldcSW hx hb hown (st_ hKK 42 (own := RX13) (idx := 749) (tx := "ori") (n := 42) rfl) xdX13_nameOf_160 ?_
  refine va_astqM hx hb hK hP hD hS 2 7 rfl rfl (str_any hFx hS 42 (by decide)) (vp_in_iff.mpr (by decide)) xdX13_nameOf_163 (fun H locs hP hD hS => ?_)
  have hP : va_P (dC, dI) vwCl [(q1, .inl (cA2, 8, .inr (.inr (.inr (.inr g3))))), (q4, .inl (cA5, 8, .inr (.inr (.inr (.inr g6))))), (q7, .inl (cA8, 8, .inr (.inr (.inr (.inr (va_up (va_up (va_up (va_up (va_up (va_up (va_up (fun _ => none) 0 (some (tb (100 + 36)))) 1 (some (tb (100 + 37)))) 2 (some (tb (100 + 38)))) 3 (some (tb (100 + 39)))) 4 (some (tb (100 + 40)))) 5 (some (tb (100 + 41)))) 6 (some (tb (100 + 42)))))))))] H := hP
  have hD : va_D A [(q1, .inl (cA2, 8, .inr (.inr (.inr (.inr g3))))), (q4, .inl (cA5, 8, .inr (.inr (.inr (.inr g6))))), (q7, .inl (cA8, 8, .inr (.inr (.inr (.inr (va_up (va_up (va_up (va_up (va_up (va_up (va_up (fun _ => none) 0 (some (tb (100 + 36)))) 1 (some (tb (100 + 37)))) 2 (some (tb (100 + 38)))) 3 (some (tb (100 + 39)))) 4 (some (tb (100 + 40)))) 5 (some (tb (100 + 41)))) 6 (some (tb (100 + 42)))))))))] := hD
  refine lv_dup hx hb xdX13_nameOf_164 rfl ?_
  refine lv_bipush (v := 7) hx hb xdX13_nameOf_165 (by decide) ?_
  refine va_ldcSW hx hb hown (st_ hKK 43 (own := RX13) (idx := 751) (tx := "andi") (n := 43) rfl) xdX13_nameOf_167 ?_
  refine va_astqM hx hb hK hP hD hS 2 7 rfl rfl (str_any hFx hS 43 (by decide)) (vp_in_iff.mpr (by decide)) xdX13_nameOf_170 (fun H locs hP hD hS => ?_)
  have hP : va_P (dC, dI) vwCl [(q1, .inl (cA2, 8, .inr (.inr (.inr (.inr g3))))), (q4, .inl (cA5, 8, .inr (.inr (.inr (.inr g6))))), (q7, .inl (cA8, 8, .inr (.inr (.inr (.inr (va_up (va_up (va_up (va_up (va_up (va_up (va_up (va_up (fun _ => none) 0 (some (tb (100 + 36)))) 1 (some (tb (100 + 37)))) 2 (some (tb (100 + 38)))) 3 (some (tb (100 + 39)))) 4 (some (tb (100 + 40)))) 5 (some (tb (100 + 41)))) 6 (some (tb (100 + 42)))) 7 (some (tb (100 + 43)))))))))] H := hP
  have hD : va_D A [(q1, .inl (cA2, 8, .inr (.inr (.inr (.inr g3))))), (q4, .inl (cA5, 8, .inr (.inr (.inr (.inr g6))))), (q7, .inl (cA8, 8, .inr (.inr (.inr (.inr (va_up (va_up (va_up (va_up (va_up (va_up (va_up (va_up (fun _ => none) 0 (some (tb (100 + 36)))) 1 (some (tb (100 + 37)))) 2 (some (tb (100 + 38)))) 3 (some (tb (100 + 39)))) 4 (some (tb (100 + 40)))) 5 (some (tb (100 + 41)))) 6 (some (tb (100 + 42)))) 7 (some (tb (100 + 43)))))))))] := hD
  have hg_g9 : ∀ j, j < 8 → (va_up (va_up (va_up (va_up (va_up (va_up (va_up (va_up (fun _ => none) 0 (some (tb (100 + 36)))) 1 (some (tb (100 + 37)))) 2 (some (tb (100 + 38)))) 3 (some (tb (100 + 39)))) 4 (some (tb (100 + 40)))) 5 (some (tb (100 + 41)))) 6 (some (tb (100 + 42)))) 7 (some (tb (100 + 43)))) j = [some (tb (100 + 36)), some (tb (100 + 37)), some (tb (100 + 38)), some (tb (100 + 39)), some (tb (100 + 40)), some (tb (100 + 41)), some (tb (100 + 42)), some (tb (100 + 43))].getD j none := fun j hj => up8 _ _ _ _ _ _ _ _ hj
  generalize va_up (va_up (va_up (va_up (va_up (va_up (va_up (va_up (fun _ => none) 0 (some (tb (100 + 36)))) 1 (some (tb (100 + 37)))) 2 (some (tb (100 + 38)))) 3 (some (tb (100 + 39)))) 4 (some (tb (100 + 40)))) 5 (some (tb (100 + 41)))) 6 (some (tb (100 + 42)))) 7 (some (tb (100 + 43))) = g9 at hP hD hg_g9
  refine lv_astore (lv' := [(5, .ref q7), (4, .ref q4), (3, .ref q1), (2, .int ((w.toUInt32 >>> ((25 : Int32).toUInt32 &&& Int32.toUInt32 31)).toInt32)), (1, .int ((w >>> (12 &&& 31)) &&& 7)), (0, .int w)]) hx hb xdX13_nameOf_171 hl (by decide) rfl (fun ls hl => ?_)
  refine lv_bipush (v := 8) hx hb xdX13_nameOf_173 (by decide) ?_
  refine va_newq (N' := 8) hx hb hown (ht _ xw_158) hKK.2.1.2 hK hP hD hS hA (by decide) (by decide) (by decide) (Nat.le_of_ble_eq_true rfl) (Nat.le_of_ble_eq_true rfl) xdX13_nameOf_175 (fun q10 cA11 H hK hP hD hS => ?_)
  have hP : va_P (dC, dI) vwCl [(q1, .inl (cA2, 8, .inr (.inr (.inr (.inr g3))))), (q4, .inl (cA5, 8, .inr (.inr (.inr (.inr g6))))), (q7, .inl (cA8, 8, .inr (.inr (.inr (.inr g9))))), (q10, .inl (cA11, 8, .inr (.inr (.inr (.inr (fun _ => none))))))] H := hP
  have hD : va_D A [(q1, .inl (cA2, 8, .inr (.inr (.inr (.inr g3))))), (q4, .inl (cA5, 8, .inr (.inr (.inr (.inr g6))))), (q7, .inl (cA8, 8, .inr (.inr (.inr (.inr g9))))), (q10, .inl (cA11, 8, .inr (.inr (.inr (.inr (fun _ => none))))))] := hD
  refine W.widen (k := 4) (n := 32) (by omega) (by omega) ?_
  refine lv_dup hx hb xdX13_nameOf_178 rfl ?_
  refine lv_iconst (v := 0) hx hb xdX13_nameOf_179 (by decide) ?_
  refine va_ldcSW hx hb hown (st_ hKK 44 (own := RX13) (idx := 753) (tx := "add") (n := 44) rfl) xdX13_nameOf_180 ?_
  refine va_astqM hx hb hK hP hD hS 3 8 rfl rfl (str_any hFx hS 44 (by decide)) (vp_in_iff.mpr (by decide)) xdX13_nameOf_183 (fun H locs hP hD hS => ?_)
  have hP : va_P (dC, dI) vwCl [(q1, .inl (cA2, 8, .inr (.inr (.inr (.inr g3))))), (q4, .inl (cA5, 8, .inr (.inr (.inr (.inr g6))))), (q7, .inl (cA8, 8, .inr (.inr (.inr (.inr g9))))), (q10, .inl (cA11, 8, .inr (.inr (.inr (.inr (va_up (fun _ => none) 0 (some (tb (100 + 44)))))))))] H := hP
  have hD : va_D A [(q1, .inl (cA2, 8, .inr (.inr (.inr (.inr g3))))), (q4, .inl (cA5, 8, .inr (.inr (.inr (.inr g6))))), (q7, .inl (cA8, 8, .inr (.inr (.inr (.inr g9))))), (q10, .inl (cA11, 8, .inr (.inr (.inr (.inr (va_up (fun _ => none) 0 (some (tb (100 + 44)))))))))] := hD
  refine lv_dup hx hb xdX13_nameOf_184 rfl ?_
  refine lv_iconst (v := 1) hx hb xdX13_nameOf_185 (by decide) ?_
  refine va_ldcSW hx hb hown (st_ hKK 45 (own := RX13) (idx := 755) (tx := "sll") (n := 45) rfl) xdX13_nameOf_186 ?_
  refine va_astqM hx hb hK hP hD hS 3 8 rfl rfl (str_any hFx hS 45 (by decide)) (vp_in_iff.mpr (by decide)) xdX13_nameOf_189 (fun H locs hP hD hS => ?_)
  have hP : va_P (dC, dI) vwCl [(q1, .inl (cA2, 8, .inr (.inr (.inr (.inr g3))))), (q4, .inl (cA5, 8, .inr (.inr (.inr (.inr g6))))), (q7, .inl (cA8, 8, .inr (.inr (.inr (.inr g9))))), (q10, .inl (cA11, 8, .inr (.inr (.inr (.inr (va_up (va_up (fun _ => none) 0 (some (tb (100 + 44)))) 1 (some (tb (100 + 45)))))))))] H := hP
  have hD : va_D A [(q1, .inl (cA2, 8, .inr (.inr (.inr (.inr g3))))), (q4, .inl (cA5, 8, .inr (.inr (.inr (.inr g6))))), (q7, .inl (cA8, 8, .inr (.inr (.inr (.inr g9))))), (q10, .inl (cA11, 8, .inr (.inr (.inr (.inr (va_up (va_up (fun _ => none) 0 (some (tb (100 + 44)))) 1 (some (tb (100 + 45)))))))))] := hD
  refine lv_dup hx hb xdX13_nameOf_190 rfl ?_
  refine lv_iconst (v := 2) hx hb xdX13_nameOf_191 (by decide) ?_
  refine va_ldcSW hx hb hown (st_ hKK 46 (own := RX13) (idx := 757) (tx := "slt") (n := 46) rfl) xdX13_nameOf_192 ?_
  refine va_astqM hx hb hK hP hD hS 3 8 rfl rfl (str_any hFx hS 46 (by decide)) (vp_in_iff.mpr (by decide)) xdX13_nameOf_195 (fun H locs hP hD hS => ?_)
  have hP : va_P (dC, dI) vwCl [(q1, .inl (cA2, 8, .inr (.inr (.inr (.inr g3))))), (q4, .inl (cA5, 8, .inr (.inr (.inr (.inr g6))))), (q7, .inl (cA8, 8, .inr (.inr (.inr (.inr g9))))), (q10, .inl (cA11, 8, .inr (.inr (.inr (.inr (va_up (va_up (va_up (fun _ => none) 0 (some (tb (100 + 44)))) 1 (some (tb (100 + 45)))) 2 (some (tb (100 + 46)))))))))] H := hP
  have hD : va_D A [(q1, .inl (cA2, 8, .inr (.inr (.inr (.inr g3))))), (q4, .inl (cA5, 8, .inr (.inr (.inr (.inr g6))))), (q7, .inl (cA8, 8, .inr (.inr (.inr (.inr g9))))), (q10, .inl (cA11, 8, .inr (.inr (.inr (.inr (va_up (va_up (va_up (fun _ => none) 0 (some (tb (100 + 44)))) 1 (some (tb (100 + 45)))) 2 (some (tb (100 + 46)))))))))] := hD
  refine lv_dup hx hb xdX13_nameOf_196 rfl ?_
  refine lv_iconst (v := 3) hx hb xdX13_nameOf_197 (by decide) ?_
  refine va_ldcSW hx hb hown (st_ hKK 47 (own := RX13) (idx := 759) (tx := "sltu") (n := 47) rfl) xdX13_nameOf_198 ?_
  refine va_astqM hx hb hK hP hD hS 3 8 rfl rfl (str_any hFx hS 47 (by decide)) (vp_in_iff.mpr (by decide)) xdX13_nameOf_201 (fun H locs hP hD hS => ?_)
  have hP : va_P (dC, dI) vwCl [(q1, .inl (cA2, 8, .inr (.inr (.inr (.inr g3))))), (q4, .inl (cA5, 8, .inr (.inr (.inr (.inr g6))))), (q7, .inl (cA8, 8, .inr (.inr (.inr (.inr g9))))), (q10, .inl (cA11, 8, .inr (.inr (.inr (.inr (va_up (va_up (va_up (va_up (fun _ => none) 0 (some (tb (100 + 44)))) 1 (some (tb (100 + 45)))) 2 (some (tb (100 + 46)))) 3 (some (tb (100 + 47)))))))))] H := hP
  have hD : va_D A [(q1, .inl (cA2, 8, .inr (.inr (.inr (.inr g3))))), (q4, .inl (cA5, 8, .inr (.inr (.inr (.inr g6))))), (q7, .inl (cA8, 8, .inr (.inr (.inr (.inr g9))))), (q10, .inl (cA11, 8, .inr (.inr (.inr (.inr (va_up (va_up (va_up (va_up (fun _ => none) 0 (some (tb (100 + 44)))) 1 (some (tb (100 + 45)))) 2 (some (tb (100 + 46)))) 3 (some (tb (100 + 47)))))))))] := hD
  refine lv_dup hx hb xdX13_nameOf_202 rfl ?_
  refine lv_iconst (v := 4) hx hb xdX13_nameOf_203 (by decide) ?_
  refine va_ldcSW hx hb hown (st_ hKK 48 (own := RX13) (idx := 761) (tx := "xor") (n := 48) rfl) xdX13_nameOf_204 ?_
  refine va_astqM hx hb hK hP hD hS 3 8 rfl rfl (str_any hFx hS 48 (by decide)) (vp_in_iff.mpr (by decide)) xdX13_nameOf_207 (fun H locs hP hD hS => ?_)
  have hP : va_P (dC, dI) vwCl [(q1, .inl (cA2, 8, .inr (.inr (.inr (.inr g3))))), (q4, .inl (cA5, 8, .inr (.inr (.inr (.inr g6))))), (q7, .inl (cA8, 8, .inr (.inr (.inr (.inr g9))))), (q10, .inl (cA11, 8, .inr (.inr (.inr (.inr (va_up (va_up (va_up (va_up (va_up (fun _ => none) 0 (some (tb (100 + 44)))) 1 (some (tb (100 + 45)))) 2 (some (tb (100 + 46)))) 3 (some (tb (100 + 47)))) 4 (some (tb (100 + 48)))))))))] H := hP
  have hD : va_D A [(q1, .inl (cA2, 8, .inr (.inr (.inr (.inr g3))))), (q4, .inl (cA5, 8, .inr (.inr (.inr (.inr g6))))), (q7, .inl (cA8, 8, .inr (.inr (.inr (.inr g9))))), (q10, .inl (cA11, 8, .inr (.inr (.inr (.inr (va_up (va_up (va_up (va_up (va_up (fun _ => none) 0 (some (tb (100 + 44)))) 1 (some (tb (100 + 45)))) 2 (some (tb (100 + 46)))) 3 (some (tb (100 + 47)))) 4 (some (tb (100 + 48)))))))))] := hD
  refine lv_dup hx hb xdX13_nameOf_208 rfl ?_
  refine lv_iconst (v := 5) hx hb xdX13_nameOf_209 (by decide) ?_
  refine va_ldcSW hx hb hown (st_ hKK 49 (own := RX13) (idx := 763) (tx := "srl") (n := 49) rfl) xdX13_nameOf_210 ?_
  refine va_astqM hx hb hK hP hD hS 3 8 rfl rfl (str_any hFx hS 49 (by decide)) (vp_in_iff.mpr (by decide)) xdX13_nameOf_213 (fun H locs hP hD hS => ?_)
  have hP : va_P (dC, dI) vwCl [(q1, .inl (cA2, 8, .inr (.inr (.inr (.inr g3))))), (q4, .inl (cA5, 8, .inr (.inr (.inr (.inr g6))))), (q7, .inl (cA8, 8, .inr (.inr (.inr (.inr g9))))), (q10, .inl (cA11, 8, .inr (.inr (.inr (.inr (va_up (va_up (va_up (va_up (va_up (va_up (fun _ => none) 0 (some (tb (100 + 44)))) 1 (some (tb (100 + 45)))) 2 (some (tb (100 + 46)))) 3 (some (tb (100 + 47)))) 4 (some (tb (100 + 48)))) 5 (some (tb (100 + 49)))))))))] H := hP
  have hD : va_D A [(q1, .inl (cA2, 8, .inr (.inr (.inr (.inr g3))))), (q4, .inl (cA5, 8, .inr (.inr (.inr (.inr g6))))), (q7, .inl (cA8, 8, .inr (.inr (.inr (.inr g9))))), (q10, .inl (cA11, 8, .inr (.inr (.inr (.inr (va_up (va_up (va_up (va_up (va_up (va_up (fun _ => none) 0 (some (tb (100 + 44)))) 1 (some (tb (100 + 45)))) 2 (some (tb (100 + 46)))) 3 (some (tb (100 + 47)))) 4 (some (tb (100 + 48)))) 5 (some (tb (100 + 49)))))))))] := hD
  refine lv_dup hx hb xdX13_nameOf_214 rfl ?_
  refine lv_bipush (v := 6) hx hb xdX13_nameOf_215 (by decide) ?_
  refine va_ldcSW hx hb hown (st_ hKK 50 (own := RX13) (idx := 765) (tx := "or") (n := 50) rfl) xdX13_nameOf_217 ?_
  refine va_astqM hx hb hK hP hD hS 3 8 rfl rfl (str_any hFx hS 50 (by decide)) (vp_in_iff.mpr (by decide)) xdX13_nameOf_220 (fun H locs hP hD hS => ?_)
  have hP : va_P (dC, dI) vwCl [(q1, .inl (cA2, 8, .inr (.inr (.inr (.inr g3))))), (q4, .inl (cA5, 8, .inr (.inr (.inr (.inr g6))))), (q7, .inl (cA8, 8, .inr (.inr (.inr (.inr g9))))), (q10, .inl (cA11, 8, .inr (.inr (.inr (.inr (va_up (va_up (va_up (va_up (va_up (va_up (va_up (fun _ => none) 0 (some (tb (100 + 44)))) 1 (some (tb (100 + 45)))) 2 (some (tb (100 + 46)))) 3 (some (tb (100 + 47)))) 4 (some (tb (100 + 48)))) 5 (some (tb (100 + 49)))) 6 (some (tb (100 + 50)))))))))] H := hP
  have hD : va_D A [(q1, .inl (cA2, 8, .inr (.inr (.inr (.inr g3))))), (q4, .inl (cA5, 8, .inr (.inr (.inr (.inr g6))))), (q7, .inl (cA8, 8, .inr (.inr (.inr (.inr g9))))), (q10, .inl (cA11, 8, .inr (.inr (.inr (.inr (va_up (va_up (va_up (va_up (va_up (va_up (va_up (fun _ => none) 0 (some (tb (100 + 44)))) 1 (some (tb (100 + 45)))) 2 (some (tb (100 + 46)))) 3 (some (tb (100 + 47)))) 4 (some (tb (100 + 48)))) 5 (some (tb (100 + 49)))) 6 (some (tb (100 + 50)))))))))] := hD
  refine lv_dup hx hb xdX13_nameOf_221 rfl ?_
  refine lv_bipush (v := 7) hx hb xdX13_nameOf_222 (by decide) ?_
  refine va_ldcSW hx hb hown (st_ hKK 51 (own := RX13) (idx := 767) (tx := "and") (n := 51) rfl) xdX13_nameOf_224 ?_
  refine va_astqM hx hb hK hP hD hS 3 8 rfl rfl (str_any hFx hS 51 (by decide)) (vp_in_iff.mpr (by decide)) xdX13_nameOf_227 (fun H locs hP hD hS => ?_)
  have hP : va_P (dC, dI) vwCl [(q1, .inl (cA2, 8, .inr (.inr (.inr (.inr g3))))), (q4, .inl (cA5, 8, .inr (.inr (.inr (.inr g6))))), (q7, .inl (cA8, 8, .inr (.inr (.inr (.inr g9))))), (q10, .inl (cA11, 8, .inr (.inr (.inr (.inr (va_up (va_up (va_up (va_up (va_up (va_up (va_up (va_up (fun _ => none) 0 (some (tb (100 + 44)))) 1 (some (tb (100 + 45)))) 2 (some (tb (100 + 46)))) 3 (some (tb (100 + 47)))) 4 (some (tb (100 + 48)))) 5 (some (tb (100 + 49)))) 6 (some (tb (100 + 50)))) 7 (some (tb (100 + 51)))))))))] H := hP
  have hD : va_D A [(q1, .inl (cA2, 8, .inr (.inr (.inr (.inr g3))))), (q4, .inl (cA5, 8, .inr (.inr (.inr (.inr g6))))), (q7, .inl (cA8, 8, .inr (.inr (.inr (.inr g9))))), (q10, .inl (cA11, 8, .inr (.inr (.inr (.inr (va_up (va_up (va_up (va_up (va_up (va_up (va_up (va_up (fun _ => none) 0 (some (tb (100 + 44)))) 1 (some (tb (100 + 45)))) 2 (some (tb (100 + 46)))) 3 (some (tb (100 + 47)))) 4 (some (tb (100 + 48)))) 5 (some (tb (100 + 49)))) 6 (some (tb (100 + 50)))) 7 (some (tb (100 + 51)))))))))] := hD
  have hg_g12 : ∀ j, j < 8 → (va_up (va_up (va_up (va_up (va_up (va_up (va_up (va_up (fun _ => none) 0 (some (tb (100 + 44)))) 1 (some (tb (100 + 45)))) 2 (some (tb (100 + 46)))) 3 (some (tb (100 + 47)))) 4 (some (tb (100 + 48)))) 5 (some (tb (100 + 49)))) 6 (some (tb (100 + 50)))) 7 (some (tb (100 + 51)))) j = [some (tb (100 + 44)), some (tb (100 + 45)), some (tb (100 + 46)), some (tb (100 + 47)), some (tb (100 + 48)), some (tb (100 + 49)), some (tb (100 + 50)), some (tb (100 + 51))].getD j none := fun j hj => up8 _ _ _ _ _ _ _ _ hj
  generalize va_up (va_up (va_up (va_up (va_up (va_up (va_up (va_up (fun _ => none) 0 (some (tb (100 + 44)))) 1 (some (tb (100 + 45)))) 2 (some (tb (100 + 46)))) 3 (some (tb (100 + 47)))) 4 (some (tb (100 + 48)))) 5 (some (tb (100 + 49)))) 6 (some (tb (100 + 50)))) 7 (some (tb (100 + 51))) = g12 at hP hD hg_g12
  refine lv_astore (lv' := [(6, .ref q10), (5, .ref q7), (4, .ref q4), (3, .ref q1), (2, .int ((w.toUInt32 >>> ((25 : Int32).toUInt32 &&& Int32.toUInt32 31)).toInt32)), (1, .int ((w >>> (12 &&& 31)) &&& 7)), (0, .int w)]) hx hb xdX13_nameOf_228 hl (by decide) rfl (fun ls hl => ?_)
  refine lv_iload_n hx hb xdX13_nameOf_230 rfl (lv_at hl 6 rfl) ?_
  refine lv_bipush (v := 127) hx hb xdX13_nameOf_231 (by decide) ?_
  refine lv_iand hx hb xdX13_nameOf_233 ?_
  by_cases h13 : (w &&& 127) = 3
  · refine lv_lookup (off := 118) (tgt := 352) hx hb xdX13_nameOf_234 (by decide) (by rw [h13]; decide) (by decide) ?_
    refine lv_aload hx hb xdX13_nameOf_352 (lv_at hl 2 rfl) ?_
    refine lv_iload_n hx hb xdX13_nameOf_354 rfl (lv_at hl 5 rfl) ?_
    refine va_aldq hx hb hK hP 1 6 rfl rfl (pk_andIn (w >>> (12 &&& 31)) 3 (by decide) (by decide)) xdX13_nameOf_355 ?_
    refine W.eq (g2 := F0 m9 356 ls [va_rf ([some (tb (100 + 31)), some (tb (100 + 32)), some (tb (100 + 33)), none, some (tb (100 + 34)), some (tb (100 + 35)), none, none].getD ((w >>> (12 &&& 31)) &&& 7).toNatClampNeg none)]) (by rw [hg_g6 _ (and7_lt _)]) ?_
    have hP9 := hP.sub (ws' := []) [] rfl
    have hD9 := hD.sub (ws' := []) [] (by decide) rfl
    refine W.widen (k := 4) (n := 32) (by omega) (by omega) ?_
    exact W.aret (v := va_rf ([some (tb (100 + 31)), some (tb (100 + 32)), some (tb (100 + 33)), none, some (tb (100 + 34)), some (tb (100 + 35)), none, none].getD ((w >>> (12 &&& 31)) &&& 7).toNatClampNeg none)) hx hb hr (Or.inl ⟨_, rfl⟩) (rf_or _) (fun t ht9 hW => ⟨⟨([some (tb (100 + 31)), some (tb (100 + 32)), some (tb (100 + 33)), none, some (tb (100 + 34)), some (tb (100 + 35)), none, none].getD ((w >>> (12 &&& 31)) &&& 7).toNatClampNeg none), (), rfl, (by unfold nmI; rw [if_pos h13]; exact (gd_map (fun i => tb (100 + i)) [some 31, some 32, some 33, none, some 34, some 35, none, none] _).symm), by rw [ht9]; exact hP9, hD9⟩, hS.F ht9⟩) hS.2.2 xdX13_nameOf_356
  ·
    by_cases h14 : (w &&& 127) = 15
    · refine lv_lookup (off := 246) (tgt := 480) hx hb xdX13_nameOf_234 (by decide) (by rw [h14]; decide) (by decide) ?_
      refine lv_iload_n hx hb xdX13_nameOf_480 rfl (lv_at hl 5 rfl) ?_
      refine lv_if_ne (tgt := 490) hx hb xdX13_nameOf_481 (by decide) (fun h15 => ?_) (fun h15 => ?_)
      · refine lv_null hx hb xdX13_nameOf_490 ?_
        have hP9 := hP.sub (ws' := []) [] rfl
        have hD9 := hD.sub (ws' := []) [] (by decide) rfl
        refine W.widen (k := 4) (n := 32) (by omega) (by omega) ?_
        exact W.aret (v := va_rf none) hx hb hr (Or.inl ⟨_, rfl⟩) (Or.inl rfl) (fun t ht9 hW => ⟨⟨none, (), rfl, (by unfold nmI; rw [if_neg h13, if_pos h14, if_neg h15]; rfl), by rw [ht9]; exact hP9, hD9⟩, hS.F ht9⟩) hS.2.2 xdX13_nameOf_491
      · refine va_ldcSW hx hb hown (st_ hKK 62 (own := RX13) (idx := 787) (tx := "fence") (n := 62) rfl) xdX13_nameOf_484 ?_
        refine lv_goto (tgt := 491) hx hb xdX13_nameOf_487 (by decide) ?_
        have hP9 := hP.sub (ws' := []) [] rfl
        have hD9 := hD.sub (ws' := []) [] (by decide) rfl
        refine W.widen (k := 4) (n := 32) (by omega) (by omega) ?_
        exact W.aret (v := va_rf (some (tb (100 + 62)))) hx hb hr (Or.inl ⟨_, rfl⟩) (Or.inr ⟨_, rfl⟩) (fun t ht9 hW => ⟨⟨(some (tb (100 + 62))), (), rfl, (by unfold nmI; rw [if_neg h13, if_pos h14, if_pos h15]; rfl), by rw [ht9]; exact hP9, hD9⟩, hS.F ht9⟩) hS.2.2 xdX13_nameOf_491
    ·
      by_cases h16 : (w &&& 127) = 19
      · refine lv_lookup (off := 157) (tgt := 391) hx hb xdX13_nameOf_234 (by decide) (by rw [h16]; decide) (by decide) ?_
        refine lv_iload_n hx hb xdX13_nameOf_391 rfl (lv_at hl 5 rfl) ?_
        refine lv_iconst (v := 1) hx hb xdX13_nameOf_392 (by decide) ?_
        refine lv_icmp_ne (tgt := 404) hx hb xdX13_nameOf_393 (by decide) (fun h17 => ?_) (fun h17 => ?_)
        · refine lv_iload_n hx hb xdX13_nameOf_404 rfl (lv_at hl 5 rfl) ?_
          refine lv_iconst (v := 5) hx hb xdX13_nameOf_405 (by decide) ?_
          refine lv_icmp_ne (tgt := 413) hx hb xdX13_nameOf_406 (by decide) (fun h18 => ?_) (fun h18 => ?_)
          · refine lv_aload hx hb xdX13_nameOf_413 (lv_at hl 1 rfl) ?_
            refine lv_iload_n hx hb xdX13_nameOf_415 rfl (lv_at hl 5 rfl) ?_
            refine va_aldq hx hb hK hP 2 7 rfl rfl (pk_andIn (w >>> (12 &&& 31)) 3 (by decide) (by decide)) xdX13_nameOf_416 ?_
            refine W.eq (g2 := F0 m9 417 ls [va_rf ([some (tb (100 + 36)), some (tb (100 + 37)), some (tb (100 + 38)), some (tb (100 + 39)), some (tb (100 + 40)), some (tb (100 + 41)), some (tb (100 + 42)), some (tb (100 + 43))].getD ((w >>> (12 &&& 31)) &&& 7).toNatClampNeg none)]) (by rw [hg_g9 _ (and7_lt _)]) ?_
            refine lv_goto (tgt := 433) hx hb xdX13_nameOf_417 (by decide) ?_
            have hP9 := hP.sub (ws' := []) [] rfl
            have hD9 := hD.sub (ws' := []) [] (by decide) rfl
            refine W.widen (k := 4) (n := 32) (by omega) (by omega) ?_
            exact W.aret (v := va_rf ([some (tb (100 + 36)), some (tb (100 + 37)), some (tb (100 + 38)), some (tb (100 + 39)), some (tb (100 + 40)), some (tb (100 + 41)), some (tb (100 + 42)), some (tb (100 + 43))].getD ((w >>> (12 &&& 31)) &&& 7).toNatClampNeg none)) hx hb hr (Or.inl ⟨_, rfl⟩) (rf_or _) (fun t ht9 hW => ⟨⟨([some (tb (100 + 36)), some (tb (100 + 37)), some (tb (100 + 38)), some (tb (100 + 39)), some (tb (100 + 40)), some (tb (100 + 41)), some (tb (100 + 42)), some (tb (100 + 43))].getD ((w >>> (12 &&& 31)) &&& 7).toNatClampNeg none), (), rfl, (by unfold nmI; rw [if_neg h13, if_neg h14, if_pos h16, if_neg h17, if_neg h18]; exact (gd_map (fun i => tb (100 + i)) [some 36, some 37, some 38, some 39, some 40, some 41, some 42, some 43] _).symm), by rw [ht9]; exact hP9, hD9⟩, hS.F ht9⟩) hS.2.2 xdX13_nameOf_433
          · refine lv_iload_n hx hb xdX13_nameOf_409 rfl (lv_at hl 4 rfl) ?_
            refine lv_if_ne (tgt := 420) hx hb xdX13_nameOf_410 (by decide) (fun h19 => ?_) (fun h19 => ?_)
            · refine lv_iload_n hx hb xdX13_nameOf_420 rfl (lv_at hl 4 rfl) ?_
              refine lv_bipush (v := 32) hx hb xdX13_nameOf_421 (by decide) ?_
              refine lv_icmp_ne (tgt := 432) hx hb xdX13_nameOf_423 (by decide) (fun h20 => ?_) (fun h20 => ?_)
              · refine lv_null hx hb xdX13_nameOf_432 ?_
                have hP9 := hP.sub (ws' := []) [] rfl
                have hD9 := hD.sub (ws' := []) [] (by decide) rfl
                refine W.widen (k := 4) (n := 32) (by omega) (by omega) ?_
                exact W.aret (v := va_rf none) hx hb hr (Or.inl ⟨_, rfl⟩) (Or.inl rfl) (fun t ht9 hW => ⟨⟨none, (), rfl, (by unfold nmI; rw [if_neg h13, if_neg h14, if_pos h16, if_neg h17, if_pos h18, if_neg h19, if_neg h20]; rfl), by rw [ht9]; exact hP9, hD9⟩, hS.F ht9⟩) hS.2.2 xdX13_nameOf_433
              · refine va_ldcSW hx hb hown (st_ hKK 59 (own := RX13) (idx := 781) (tx := "srai") (n := 59) rfl) xdX13_nameOf_426 ?_
                refine lv_goto (tgt := 433) hx hb xdX13_nameOf_429 (by decide) ?_
                have hP9 := hP.sub (ws' := []) [] rfl
                have hD9 := hD.sub (ws' := []) [] (by decide) rfl
                refine W.widen (k := 4) (n := 32) (by omega) (by omega) ?_
                exact W.aret (v := va_rf (some (tb (100 + 59)))) hx hb hr (Or.inl ⟨_, rfl⟩) (Or.inr ⟨_, rfl⟩) (fun t ht9 hW => ⟨⟨(some (tb (100 + 59))), (), rfl, (by unfold nmI; rw [if_neg h13, if_neg h14, if_pos h16, if_neg h17, if_pos h18, if_neg h19, if_pos h20]; rfl), by rw [ht9]; exact hP9, hD9⟩, hS.F ht9⟩) hS.2.2 xdX13_nameOf_433
            · refine lv_aload hx hb xdX13_nameOf_413 (lv_at hl 1 rfl) ?_
              refine lv_iload_n hx hb xdX13_nameOf_415 rfl (lv_at hl 5 rfl) ?_
              refine va_aldq hx hb hK hP 2 7 rfl rfl (pk_andIn (w >>> (12 &&& 31)) 3 (by decide) (by decide)) xdX13_nameOf_416 ?_
              refine W.eq (g2 := F0 m9 417 ls [va_rf ([some (tb (100 + 36)), some (tb (100 + 37)), some (tb (100 + 38)), some (tb (100 + 39)), some (tb (100 + 40)), some (tb (100 + 41)), some (tb (100 + 42)), some (tb (100 + 43))].getD ((w >>> (12 &&& 31)) &&& 7).toNatClampNeg none)]) (by rw [hg_g9 _ (and7_lt _)]) ?_
              refine lv_goto (tgt := 433) hx hb xdX13_nameOf_417 (by decide) ?_
              have hP9 := hP.sub (ws' := []) [] rfl
              have hD9 := hD.sub (ws' := []) [] (by decide) rfl
              refine W.widen (k := 4) (n := 32) (by omega) (by omega) ?_
              exact W.aret (v := va_rf ([some (tb (100 + 36)), some (tb (100 + 37)), some (tb (100 + 38)), some (tb (100 + 39)), some (tb (100 + 40)), some (tb (100 + 41)), some (tb (100 + 42)), some (tb (100 + 43))].getD ((w >>> (12 &&& 31)) &&& 7).toNatClampNeg none)) hx hb hr (Or.inl ⟨_, rfl⟩) (rf_or _) (fun t ht9 hW => ⟨⟨([some (tb (100 + 36)), some (tb (100 + 37)), some (tb (100 + 38)), some (tb (100 + 39)), some (tb (100 + 40)), some (tb (100 + 41)), some (tb (100 + 42)), some (tb (100 + 43))].getD ((w >>> (12 &&& 31)) &&& 7).toNatClampNeg none), (), rfl, (by unfold nmI; rw [if_neg h13, if_neg h14, if_pos h16, if_neg h17, if_pos h18, if_pos h19]; exact (gd_map (fun i => tb (100 + i)) [some 36, some 37, some 38, some 39, some 40, some 41, some 42, some 43] _).symm), by rw [ht9]; exact hP9, hD9⟩, hS.F ht9⟩) hS.2.2 xdX13_nameOf_433
        · refine lv_iload_n hx hb xdX13_nameOf_396 rfl (lv_at hl 4 rfl) ?_
          refine lv_if_eq (tgt := 404) hx hb xdX13_nameOf_397 (by decide) (fun h21 => ?_) (fun h21 => ?_)
          · refine lv_iload_n hx hb xdX13_nameOf_404 rfl (lv_at hl 5 rfl) ?_
            refine lv_iconst (v := 5) hx hb xdX13_nameOf_405 (by decide) ?_
            refine lv_icmp_ne (tgt := 413) hx hb xdX13_nameOf_406 (by decide) (fun _ => ?_) (fun k22 => False.elim (by rw [← Int32.toInt_inj] at h17; rw [← Int32.toInt_inj] at k22; have : (1 : Int32).toInt = 1 := (by decide); have : (5 : Int32).toInt = 5 := (by decide); omega))
            refine lv_aload hx hb xdX13_nameOf_413 (lv_at hl 1 rfl) ?_
            refine lv_iload_n hx hb xdX13_nameOf_415 rfl (lv_at hl 5 rfl) ?_
            refine va_aldq hx hb hK hP 2 7 rfl rfl (pk_andIn (w >>> (12 &&& 31)) 3 (by decide) (by decide)) xdX13_nameOf_416 ?_
            refine W.eq (g2 := F0 m9 417 ls [va_rf ([some (tb (100 + 36)), some (tb (100 + 37)), some (tb (100 + 38)), some (tb (100 + 39)), some (tb (100 + 40)), some (tb (100 + 41)), some (tb (100 + 42)), some (tb (100 + 43))].getD ((w >>> (12 &&& 31)) &&& 7).toNatClampNeg none)]) (by rw [hg_g9 _ (and7_lt _)]) ?_
            refine lv_goto (tgt := 433) hx hb xdX13_nameOf_417 (by decide) ?_
            have hP9 := hP.sub (ws' := []) [] rfl
            have hD9 := hD.sub (ws' := []) [] (by decide) rfl
            refine W.widen (k := 4) (n := 32) (by omega) (by omega) ?_
            exact W.aret (v := va_rf ([some (tb (100 + 36)), some (tb (100 + 37)), some (tb (100 + 38)), some (tb (100 + 39)), some (tb (100 + 40)), some (tb (100 + 41)), some (tb (100 + 42)), some (tb (100 + 43))].getD ((w >>> (12 &&& 31)) &&& 7).toNatClampNeg none)) hx hb hr (Or.inl ⟨_, rfl⟩) (rf_or _) (fun t ht9 hW => ⟨⟨([some (tb (100 + 36)), some (tb (100 + 37)), some (tb (100 + 38)), some (tb (100 + 39)), some (tb (100 + 40)), some (tb (100 + 41)), some (tb (100 + 42)), some (tb (100 + 43))].getD ((w >>> (12 &&& 31)) &&& 7).toNatClampNeg none), (), rfl, (by unfold nmI; rw [if_neg h13, if_neg h14, if_pos h16, if_pos h17, if_pos h21]; exact (gd_map (fun i => tb (100 + i)) [some 36, some 37, some 38, some 39, some 40, some 41, some 42, some 43] _).symm), by rw [ht9]; exact hP9, hD9⟩, hS.F ht9⟩) hS.2.2 xdX13_nameOf_433
          · refine lv_null hx hb xdX13_nameOf_400 ?_
            refine lv_goto (tgt := 433) hx hb xdX13_nameOf_401 (by decide) ?_
            have hP9 := hP.sub (ws' := []) [] rfl
            have hD9 := hD.sub (ws' := []) [] (by decide) rfl
            refine W.widen (k := 4) (n := 32) (by omega) (by omega) ?_
            exact W.aret (v := va_rf none) hx hb hr (Or.inl ⟨_, rfl⟩) (Or.inl rfl) (fun t ht9 hW => ⟨⟨none, (), rfl, (by unfold nmI; rw [if_neg h13, if_neg h14, if_pos h16, if_pos h17, if_neg h21]; rfl), by rw [ht9]; exact hP9, hD9⟩, hS.F ht9⟩) hS.2.2 xdX13_nameOf_433
      ·
        by_cases h23 : (w &&& 127) = 23
        · refine lv_lookup (off := 94) (tgt := 328) hx hb xdX13_nameOf_234 (by decide) (by rw [h23]; decide) (by decide) ?_
          refine va_ldcSW hx hb hown (st_ hKK 53 (own := RX13) (idx := 770) (tx := "auipc") (n := 53) rfl) xdX13_nameOf_328 ?_
          have hP9 := hP.sub (ws' := []) [] rfl
          have hD9 := hD.sub (ws' := []) [] (by decide) rfl
          refine W.widen (k := 4) (n := 32) (by omega) (by omega) ?_
          exact W.aret (v := va_rf (some (tb (100 + 53)))) hx hb hr (Or.inl ⟨_, rfl⟩) (Or.inr ⟨_, rfl⟩) (fun t ht9 hW => ⟨⟨(some (tb (100 + 53))), (), rfl, (by unfold nmI; rw [if_neg h13, if_neg h14, if_neg h16, if_pos h23]; rfl), by rw [ht9]; exact hP9, hD9⟩, hS.F ht9⟩) hS.2.2 xdX13_nameOf_331
        ·
          by_cases h24 : (w &&& 127) = 35
          · refine lv_lookup (off := 123) (tgt := 357) hx hb xdX13_nameOf_234 (by decide) (by rw [h24]; decide) (by decide) ?_
            refine lv_iload_n hx hb xdX13_nameOf_357 rfl (lv_at hl 5 rfl) ?_
            refine lv_if_ne (tgt := 367) hx hb xdX13_nameOf_358 (by decide) (fun h25 => ?_) (fun h25 => ?_)
            · refine lv_iload_n hx hb xdX13_nameOf_367 rfl (lv_at hl 5 rfl) ?_
              refine lv_iconst (v := 1) hx hb xdX13_nameOf_368 (by decide) ?_
              refine lv_icmp_ne (tgt := 378) hx hb xdX13_nameOf_369 (by decide) (fun h26 => ?_) (fun h26 => ?_)
              · refine lv_iload_n hx hb xdX13_nameOf_378 rfl (lv_at hl 5 rfl) ?_
                refine lv_iconst (v := 2) hx hb xdX13_nameOf_379 (by decide) ?_
                refine lv_icmp_ne (tgt := 389) hx hb xdX13_nameOf_380 (by decide) (fun h27 => ?_) (fun h27 => ?_)
                · refine lv_null hx hb xdX13_nameOf_389 ?_
                  have hP9 := hP.sub (ws' := []) [] rfl
                  have hD9 := hD.sub (ws' := []) [] (by decide) rfl
                  refine W.widen (k := 4) (n := 32) (by omega) (by omega) ?_
                  exact W.aret (v := va_rf none) hx hb hr (Or.inl ⟨_, rfl⟩) (Or.inl rfl) (fun t ht9 hW => ⟨⟨none, (), rfl, (by unfold nmI; rw [if_neg h13, if_neg h14, if_neg h16, if_neg h23, if_pos h24, if_neg h25, if_neg h26, if_neg h27]; rfl), by rw [ht9]; exact hP9, hD9⟩, hS.F ht9⟩) hS.2.2 xdX13_nameOf_390
                · refine va_ldcSW hx hb hown (st_ hKK 58 (own := RX13) (idx := 780) (tx := "sw") (n := 58) rfl) xdX13_nameOf_383 ?_
                  refine lv_goto (tgt := 390) hx hb xdX13_nameOf_386 (by decide) ?_
                  have hP9 := hP.sub (ws' := []) [] rfl
                  have hD9 := hD.sub (ws' := []) [] (by decide) rfl
                  refine W.widen (k := 4) (n := 32) (by omega) (by omega) ?_
                  exact W.aret (v := va_rf (some (tb (100 + 58)))) hx hb hr (Or.inl ⟨_, rfl⟩) (Or.inr ⟨_, rfl⟩) (fun t ht9 hW => ⟨⟨(some (tb (100 + 58))), (), rfl, (by unfold nmI; rw [if_neg h13, if_neg h14, if_neg h16, if_neg h23, if_pos h24, if_neg h25, if_neg h26, if_pos h27]; rfl), by rw [ht9]; exact hP9, hD9⟩, hS.F ht9⟩) hS.2.2 xdX13_nameOf_390
              · refine va_ldcSW hx hb hown (st_ hKK 57 (own := RX13) (idx := 778) (tx := "sh") (n := 57) rfl) xdX13_nameOf_372 ?_
                refine lv_goto (tgt := 390) hx hb xdX13_nameOf_375 (by decide) ?_
                have hP9 := hP.sub (ws' := []) [] rfl
                have hD9 := hD.sub (ws' := []) [] (by decide) rfl
                refine W.widen (k := 4) (n := 32) (by omega) (by omega) ?_
                exact W.aret (v := va_rf (some (tb (100 + 57)))) hx hb hr (Or.inl ⟨_, rfl⟩) (Or.inr ⟨_, rfl⟩) (fun t ht9 hW => ⟨⟨(some (tb (100 + 57))), (), rfl, (by unfold nmI; rw [if_neg h13, if_neg h14, if_neg h16, if_neg h23, if_pos h24, if_neg h25, if_pos h26]; rfl), by rw [ht9]; exact hP9, hD9⟩, hS.F ht9⟩) hS.2.2 xdX13_nameOf_390
            · refine va_ldcSW hx hb hown (st_ hKK 56 (own := RX13) (idx := 776) (tx := "sb") (n := 56) rfl) xdX13_nameOf_361 ?_
              refine lv_goto (tgt := 390) hx hb xdX13_nameOf_364 (by decide) ?_
              have hP9 := hP.sub (ws' := []) [] rfl
              have hD9 := hD.sub (ws' := []) [] (by decide) rfl
              refine W.widen (k := 4) (n := 32) (by omega) (by omega) ?_
              exact W.aret (v := va_rf (some (tb (100 + 56)))) hx hb hr (Or.inl ⟨_, rfl⟩) (Or.inr ⟨_, rfl⟩) (fun t ht9 hW => ⟨⟨(some (tb (100 + 56))), (), rfl, (by unfold nmI; rw [if_neg h13, if_neg h14, if_neg h16, if_neg h23, if_pos h24, if_pos h25]; rfl), by rw [ht9]; exact hP9, hD9⟩, hS.F ht9⟩) hS.2.2 xdX13_nameOf_390
          ·
            by_cases h28 : (w &&& 127) = 51
            · refine lv_lookup (off := 200) (tgt := 434) hx hb xdX13_nameOf_234 (by decide) (by rw [h28]; decide) (by decide) ?_
              refine lv_iload_n hx hb xdX13_nameOf_434 rfl (lv_at hl 4 rfl) ?_
              refine lv_if_ne (tgt := 445) hx hb xdX13_nameOf_435 (by decide) (fun h29 => ?_) (fun h29 => ?_)
              · refine lv_iload_n hx hb xdX13_nameOf_445 rfl (lv_at hl 4 rfl) ?_
                refine lv_bipush (v := 32) hx hb xdX13_nameOf_446 (by decide) ?_
                refine lv_icmp_ne (tgt := 461) hx hb xdX13_nameOf_448 (by decide) (fun h30 => ?_) (fun h30 => ?_)
                · refine lv_iload_n hx hb xdX13_nameOf_461 rfl (lv_at hl 4 rfl) ?_
                  refine lv_bipush (v := 32) hx hb xdX13_nameOf_462 (by decide) ?_
                  refine lv_icmp_ne (tgt := 478) hx hb xdX13_nameOf_464 (by decide) (fun _ => ?_) (fun k31 => False.elim (by rw [← Int32.toInt_inj] at h29; rw [← Int32.toInt_inj] at h30; rw [← Int32.toInt_inj] at k31; have : (0 : Int32).toInt = 0 := (by decide); have : (32 : Int32).toInt = 32 := (by decide); omega))
                  refine lv_null hx hb xdX13_nameOf_478 ?_
                  have hP9 := hP.sub (ws' := []) [] rfl
                  have hD9 := hD.sub (ws' := []) [] (by decide) rfl
                  refine W.widen (k := 4) (n := 32) (by omega) (by omega) ?_
                  exact W.aret (v := va_rf none) hx hb hr (Or.inl ⟨_, rfl⟩) (Or.inl rfl) (fun t ht9 hW => ⟨⟨none, (), rfl, (by unfold nmI; rw [if_neg h13, if_neg h14, if_neg h16, if_neg h23, if_neg h24, if_pos h28, if_neg h29, if_neg h30]; rfl), by rw [ht9]; exact hP9, hD9⟩, hS.F ht9⟩) hS.2.2 xdX13_nameOf_479
                · refine lv_iload_n hx hb xdX13_nameOf_451 rfl (lv_at hl 5 rfl) ?_
                  refine lv_if_ne (tgt := 461) hx hb xdX13_nameOf_452 (by decide) (fun h32 => ?_) (fun h32 => ?_)
                  · refine lv_iload_n hx hb xdX13_nameOf_461 rfl (lv_at hl 4 rfl) ?_
                    refine lv_bipush (v := 32) hx hb xdX13_nameOf_462 (by decide) ?_
                    refine lv_icmp_ne (tgt := 478) hx hb xdX13_nameOf_464 (by decide) (fun k33 => False.elim (by rw [← Int32.toInt_inj] at h29; rw [← Int32.toInt_inj] at h30; rw [← Int32.toInt_inj] at k33; have : (0 : Int32).toInt = 0 := (by decide); have : (32 : Int32).toInt = 32 := (by decide); omega)) (fun _ => ?_)
                    refine lv_iload_n hx hb xdX13_nameOf_467 rfl (lv_at hl 5 rfl) ?_
                    refine lv_iconst (v := 5) hx hb xdX13_nameOf_468 (by decide) ?_
                    refine lv_icmp_ne (tgt := 478) hx hb xdX13_nameOf_469 (by decide) (fun h34 => ?_) (fun h34 => ?_)
                    · refine lv_null hx hb xdX13_nameOf_478 ?_
                      have hP9 := hP.sub (ws' := []) [] rfl
                      have hD9 := hD.sub (ws' := []) [] (by decide) rfl
                      refine W.widen (k := 4) (n := 32) (by omega) (by omega) ?_
                      exact W.aret (v := va_rf none) hx hb hr (Or.inl ⟨_, rfl⟩) (Or.inl rfl) (fun t ht9 hW => ⟨⟨none, (), rfl, (by unfold nmI; rw [if_neg h13, if_neg h14, if_neg h16, if_neg h23, if_neg h24, if_pos h28, if_neg h29, if_pos h30, if_neg h32, if_neg h34]; rfl), by rw [ht9]; exact hP9, hD9⟩, hS.F ht9⟩) hS.2.2 xdX13_nameOf_479
                    · refine va_ldcSW hx hb hown (st_ hKK 61 (own := RX13) (idx := 785) (tx := "sra") (n := 61) rfl) xdX13_nameOf_472 ?_
                      refine lv_goto (tgt := 479) hx hb xdX13_nameOf_475 (by decide) ?_
                      have hP9 := hP.sub (ws' := []) [] rfl
                      have hD9 := hD.sub (ws' := []) [] (by decide) rfl
                      refine W.widen (k := 4) (n := 32) (by omega) (by omega) ?_
                      exact W.aret (v := va_rf (some (tb (100 + 61)))) hx hb hr (Or.inl ⟨_, rfl⟩) (Or.inr ⟨_, rfl⟩) (fun t ht9 hW => ⟨⟨(some (tb (100 + 61))), (), rfl, (by unfold nmI; rw [if_neg h13, if_neg h14, if_neg h16, if_neg h23, if_neg h24, if_pos h28, if_neg h29, if_pos h30, if_neg h32, if_pos h34]; rfl), by rw [ht9]; exact hP9, hD9⟩, hS.F ht9⟩) hS.2.2 xdX13_nameOf_479
                  · refine va_ldcSW hx hb hown (st_ hKK 60 (own := RX13) (idx := 783) (tx := "sub") (n := 60) rfl) xdX13_nameOf_455 ?_
                    refine lv_goto (tgt := 479) hx hb xdX13_nameOf_458 (by decide) ?_
                    have hP9 := hP.sub (ws' := []) [] rfl
                    have hD9 := hD.sub (ws' := []) [] (by decide) rfl
                    refine W.widen (k := 4) (n := 32) (by omega) (by omega) ?_
                    exact W.aret (v := va_rf (some (tb (100 + 60)))) hx hb hr (Or.inl ⟨_, rfl⟩) (Or.inr ⟨_, rfl⟩) (fun t ht9 hW => ⟨⟨(some (tb (100 + 60))), (), rfl, (by unfold nmI; rw [if_neg h13, if_neg h14, if_neg h16, if_neg h23, if_neg h24, if_pos h28, if_neg h29, if_pos h30, if_pos h32]; rfl), by rw [ht9]; exact hP9, hD9⟩, hS.F ht9⟩) hS.2.2 xdX13_nameOf_479
              · refine lv_aload hx hb xdX13_nameOf_438 (lv_at hl 0 rfl) ?_
                refine lv_iload_n hx hb xdX13_nameOf_440 rfl (lv_at hl 5 rfl) ?_
                refine va_aldq hx hb hK hP 3 8 rfl rfl (pk_andIn (w >>> (12 &&& 31)) 3 (by decide) (by decide)) xdX13_nameOf_441 ?_
                refine W.eq (g2 := F0 m9 442 ls [va_rf ([some (tb (100 + 44)), some (tb (100 + 45)), some (tb (100 + 46)), some (tb (100 + 47)), some (tb (100 + 48)), some (tb (100 + 49)), some (tb (100 + 50)), some (tb (100 + 51))].getD ((w >>> (12 &&& 31)) &&& 7).toNatClampNeg none)]) (by rw [hg_g12 _ (and7_lt _)]) ?_
                refine lv_goto (tgt := 479) hx hb xdX13_nameOf_442 (by decide) ?_
                have hP9 := hP.sub (ws' := []) [] rfl
                have hD9 := hD.sub (ws' := []) [] (by decide) rfl
                refine W.widen (k := 4) (n := 32) (by omega) (by omega) ?_
                exact W.aret (v := va_rf ([some (tb (100 + 44)), some (tb (100 + 45)), some (tb (100 + 46)), some (tb (100 + 47)), some (tb (100 + 48)), some (tb (100 + 49)), some (tb (100 + 50)), some (tb (100 + 51))].getD ((w >>> (12 &&& 31)) &&& 7).toNatClampNeg none)) hx hb hr (Or.inl ⟨_, rfl⟩) (rf_or _) (fun t ht9 hW => ⟨⟨([some (tb (100 + 44)), some (tb (100 + 45)), some (tb (100 + 46)), some (tb (100 + 47)), some (tb (100 + 48)), some (tb (100 + 49)), some (tb (100 + 50)), some (tb (100 + 51))].getD ((w >>> (12 &&& 31)) &&& 7).toNatClampNeg none), (), rfl, (by unfold nmI; rw [if_neg h13, if_neg h14, if_neg h16, if_neg h23, if_neg h24, if_pos h28, if_pos h29]; exact (gd_map (fun i => tb (100 + i)) [some 44, some 45, some 46, some 47, some 48, some 49, some 50, some 51] _).symm), by rw [ht9]; exact hP9, hD9⟩, hS.F ht9⟩) hS.2.2 xdX13_nameOf_479
            ·
              by_cases h35 : (w &&& 127) = 55
              · refine lv_lookup (off := 90) (tgt := 324) hx hb xdX13_nameOf_234 (by decide) (by rw [h35]; decide) (by decide) ?_
                refine va_ldcSW hx hb hown (st_ hKK 52 (own := RX13) (idx := 769) (tx := "lui") (n := 52) rfl) xdX13_nameOf_324 ?_
                have hP9 := hP.sub (ws' := []) [] rfl
                have hD9 := hD.sub (ws' := []) [] (by decide) rfl
                refine W.widen (k := 4) (n := 32) (by omega) (by omega) ?_
                exact W.aret (v := va_rf (some (tb (100 + 52)))) hx hb hr (Or.inl ⟨_, rfl⟩) (Or.inr ⟨_, rfl⟩) (fun t ht9 hW => ⟨⟨(some (tb (100 + 52))), (), rfl, (by unfold nmI; rw [if_neg h13, if_neg h14, if_neg h16, if_neg h23, if_neg h24, if_neg h28, if_pos h35]; rfl), by rw [ht9]; exact hP9, hD9⟩, hS.F ht9⟩) hS.2.2 xdX13_nameOf_327
              ·
                by_cases h36 : (w &&& 127) = 99
                · refine lv_lookup (off := 114) (tgt := 348) hx hb xdX13_nameOf_234 (by decide) (by rw [h36]; decide) (by decide) ?_
                  refine lv_aload_n hx hb xdX13_nameOf_348 rfl (lv_at hl 3 rfl) ?_
                  refine lv_iload_n hx hb xdX13_nameOf_349 rfl (lv_at hl 5 rfl) ?_
                  refine va_aldq hx hb hK hP 0 5 rfl rfl (pk_andIn (w >>> (12 &&& 31)) 3 (by decide) (by decide)) xdX13_nameOf_350 ?_
                  refine W.eq (g2 := F0 m9 351 ls [va_rf ([some (tb (100 + 25)), some (tb (100 + 26)), none, none, some (tb (100 + 27)), some (tb (100 + 28)), some (tb (100 + 29)), some (tb (100 + 30))].getD ((w >>> (12 &&& 31)) &&& 7).toNatClampNeg none)]) (by rw [hg_g3 _ (and7_lt _)]) ?_
                  have hP9 := hP.sub (ws' := []) [] rfl
                  have hD9 := hD.sub (ws' := []) [] (by decide) rfl
                  refine W.widen (k := 4) (n := 32) (by omega) (by omega) ?_
                  exact W.aret (v := va_rf ([some (tb (100 + 25)), some (tb (100 + 26)), none, none, some (tb (100 + 27)), some (tb (100 + 28)), some (tb (100 + 29)), some (tb (100 + 30))].getD ((w >>> (12 &&& 31)) &&& 7).toNatClampNeg none)) hx hb hr (Or.inl ⟨_, rfl⟩) (rf_or _) (fun t ht9 hW => ⟨⟨([some (tb (100 + 25)), some (tb (100 + 26)), none, none, some (tb (100 + 27)), some (tb (100 + 28)), some (tb (100 + 29)), some (tb (100 + 30))].getD ((w >>> (12 &&& 31)) &&& 7).toNatClampNeg none), (), rfl, (by unfold nmI; rw [if_neg h13, if_neg h14, if_neg h16, if_neg h23, if_neg h24, if_neg h28, if_neg h35, if_pos h36]; exact (gd_map (fun i => tb (100 + i)) [some 25, some 26, none, none, some 27, some 28, some 29, some 30] _).symm), by rw [ht9]; exact hP9, hD9⟩, hS.F ht9⟩) hS.2.2 xdX13_nameOf_351
                ·
                  by_cases h37 : (w &&& 127) = 103
                  · refine lv_lookup (off := 102) (tgt := 336) hx hb xdX13_nameOf_234 (by decide) (by rw [h37]; decide) (by decide) ?_
                    refine lv_iload_n hx hb xdX13_nameOf_336 rfl (lv_at hl 5 rfl) ?_
                    refine lv_if_ne (tgt := 346) hx hb xdX13_nameOf_337 (by decide) (fun h38 => ?_) (fun h38 => ?_)
                    · refine lv_null hx hb xdX13_nameOf_346 ?_
                      have hP9 := hP.sub (ws' := []) [] rfl
                      have hD9 := hD.sub (ws' := []) [] (by decide) rfl
                      refine W.widen (k := 4) (n := 32) (by omega) (by omega) ?_
                      exact W.aret (v := va_rf none) hx hb hr (Or.inl ⟨_, rfl⟩) (Or.inl rfl) (fun t ht9 hW => ⟨⟨none, (), rfl, (by unfold nmI; rw [if_neg h13, if_neg h14, if_neg h16, if_neg h23, if_neg h24, if_neg h28, if_neg h35, if_neg h36, if_pos h37, if_neg h38]; rfl), by rw [ht9]; exact hP9, hD9⟩, hS.F ht9⟩) hS.2.2 xdX13_nameOf_347
                    · refine va_ldcSW hx hb hown (st_ hKK 55 (own := RX13) (idx := 774) (tx := "jalr") (n := 55) rfl) xdX13_nameOf_340 ?_
                      refine lv_goto (tgt := 347) hx hb xdX13_nameOf_343 (by decide) ?_
                      have hP9 := hP.sub (ws' := []) [] rfl
                      have hD9 := hD.sub (ws' := []) [] (by decide) rfl
                      refine W.widen (k := 4) (n := 32) (by omega) (by omega) ?_
                      exact W.aret (v := va_rf (some (tb (100 + 55)))) hx hb hr (Or.inl ⟨_, rfl⟩) (Or.inr ⟨_, rfl⟩) (fun t ht9 hW => ⟨⟨(some (tb (100 + 55))), (), rfl, (by unfold nmI; rw [if_neg h13, if_neg h14, if_neg h16, if_neg h23, if_neg h24, if_neg h28, if_neg h35, if_neg h36, if_pos h37, if_pos h38]; rfl), by rw [ht9]; exact hP9, hD9⟩, hS.F ht9⟩) hS.2.2 xdX13_nameOf_347
                  ·
                    by_cases h39 : (w &&& 127) = 111
                    · refine lv_lookup (off := 98) (tgt := 332) hx hb xdX13_nameOf_234 (by decide) (by rw [h39]; decide) (by decide) ?_
                      refine va_ldcSW hx hb hown (st_ hKK 54 (own := RX13) (idx := 772) (tx := "jal") (n := 54) rfl) xdX13_nameOf_332 ?_
                      have hP9 := hP.sub (ws' := []) [] rfl
                      have hD9 := hD.sub (ws' := []) [] (by decide) rfl
                      refine W.widen (k := 4) (n := 32) (by omega) (by omega) ?_
                      exact W.aret (v := va_rf (some (tb (100 + 54)))) hx hb hr (Or.inl ⟨_, rfl⟩) (Or.inr ⟨_, rfl⟩) (fun t ht9 hW => ⟨⟨(some (tb (100 + 54))), (), rfl, (by unfold nmI; rw [if_neg h13, if_neg h14, if_neg h16, if_neg h23, if_neg h24, if_neg h28, if_neg h35, if_neg h36, if_neg h37, if_pos h39]; rfl), by rw [ht9]; exact hP9, hD9⟩, hS.F ht9⟩) hS.2.2 xdX13_nameOf_335
                    ·
                      refine lv_lookup (off := 258) (tgt := 492) hx hb xdX13_nameOf_234 (by decide) (by show Op.lookupswitch.offset [(3, 118), (15, 246), (19, 157), (23, 94), (35, 123), (51, 200), (55, 90), (99, 114), (103, 102), (111, 98)] 258 _ = 258; rw [lv_osw h13 (by decide), lv_osw h14 (by decide), lv_osw h16 (by decide), lv_osw h23 (by decide), lv_osw h24 (by decide), lv_osw h28 (by decide), lv_osw h35 (by decide), lv_osw h36 (by decide), lv_osw h37 (by decide), lv_osw h39 (by decide)]; rfl) (by decide) ?_
                      refine lv_iload_n hx hb xdX13_nameOf_492 rfl (lv_at hl 6 rfl) ?_
                      refine lv_bipush (v := 115) hx hb xdX13_nameOf_493 (by decide) ?_
                      refine lv_icmp_ne (tgt := 504) hx hb xdX13_nameOf_495 (by decide) (fun h40 => ?_) (fun h40 => ?_)
                      · refine lv_iload_n hx hb xdX13_nameOf_504 rfl (lv_at hl 6 rfl) ?_
                        refine lv_ldcw (v := 1048691) hx hb hown (ht _ xw_159) xdX13_nameOf_505 ?_
                        refine lv_icmp_ne (tgt := 517) hx hb xdX13_nameOf_508 (by decide) (fun h41 => ?_) (fun h41 => ?_)
                        · refine lv_null hx hb xdX13_nameOf_517 ?_
                          have hP9 := hP.sub (ws' := []) [] rfl
                          have hD9 := hD.sub (ws' := []) [] (by decide) rfl
                          refine W.widen (k := 4) (n := 32) (by omega) (by omega) ?_
                          exact W.aret (v := va_rf none) hx hb hr (Or.inl ⟨_, rfl⟩) (Or.inl rfl) (fun t ht9 hW => ⟨⟨none, (), rfl, (by unfold nmI; rw [if_neg h13, if_neg h14, if_neg h16, if_neg h23, if_neg h24, if_neg h28, if_neg h35, if_neg h36, if_neg h37, if_neg h39, if_neg h40, if_neg h41]; rfl), by rw [ht9]; exact hP9, hD9⟩, hS.F ht9⟩) hS.2.2 xdX13_nameOf_518
                        · refine va_ldcSW hx hb hown (st_ hKK 64 (own := RX13) (idx := 791) (tx := "ebreak") (n := 64) rfl) xdX13_nameOf_511 ?_
                          refine lv_goto (tgt := 518) hx hb xdX13_nameOf_514 (by decide) ?_
                          have hP9 := hP.sub (ws' := []) [] rfl
                          have hD9 := hD.sub (ws' := []) [] (by decide) rfl
                          refine W.widen (k := 4) (n := 32) (by omega) (by omega) ?_
                          exact W.aret (v := va_rf (some (tb (100 + 64)))) hx hb hr (Or.inl ⟨_, rfl⟩) (Or.inr ⟨_, rfl⟩) (fun t ht9 hW => ⟨⟨(some (tb (100 + 64))), (), rfl, (by unfold nmI; rw [if_neg h13, if_neg h14, if_neg h16, if_neg h23, if_neg h24, if_neg h28, if_neg h35, if_neg h36, if_neg h37, if_neg h39, if_neg h40, if_pos h41]; rfl), by rw [ht9]; exact hP9, hD9⟩, hS.F ht9⟩) hS.2.2 xdX13_nameOf_518
                      · refine va_ldcSW hx hb hown (st_ hKK 63 (own := RX13) (idx := 789) (tx := "ecall") (n := 63) rfl) xdX13_nameOf_498 ?_
                        refine lv_goto (tgt := 518) hx hb xdX13_nameOf_501 (by decide) ?_
                        have hP9 := hP.sub (ws' := []) [] rfl
                        have hD9 := hD.sub (ws' := []) [] (by decide) rfl
                        refine W.widen (k := 4) (n := 32) (by omega) (by omega) ?_
                        exact W.aret (v := va_rf (some (tb (100 + 63)))) hx hb hr (Or.inl ⟨_, rfl⟩) (Or.inr ⟨_, rfl⟩) (fun t ht9 hW => ⟨⟨(some (tb (100 + 63))), (), rfl, (by unfold nmI; rw [if_neg h13, if_neg h14, if_neg h16, if_neg h23, if_neg h24, if_neg h28, if_neg h35, if_neg h36, if_neg h37, if_neg h39, if_pos h40]; rfl), by rw [ht9]; exact hP9, hD9⟩, hS.F ht9⟩) hS.2.2 xdX13_nameOf_518
