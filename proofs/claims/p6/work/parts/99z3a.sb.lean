theorem xdJ0_coder_7d493_0 : decode cJ0_coder_7d493 0 = .ok (.getstatic 38, 3) := by decide +kernel
theorem xw_0 : (.fieldLink RJ0 38 "java/lang/String" "COMPACT_STRINGS" "Z" : Cond) ∈ tw_W := tw_in (t8_3 (List.mem_of_getElem? (i := 19) rfl)) rfl
theorem xdJ0_coder_7d493_3 : decode cJ0_coder_7d493 3 = .ok (.ifCond .eq 10, 3) := by decide +kernel
theorem xdJ0_coder_7d493_6 : decode cJ0_coder_7d493 6 = .ok (.aload_n 0, 1) := by decide +kernel
theorem xdJ0_coder_7d493_7 : decode cJ0_coder_7d493 7 = .ok (.getfield 15, 3) := by decide +kernel
theorem xw_1 : (.fieldLink RJ0 15 "java/lang/String" "coder" "B" : Cond) ∈ tw_W := tw_in (t8_7 (List.mem_of_getElem? (i := 120) rfl)) rfl
theorem xdJ0_coder_7d493_10 : decode cJ0_coder_7d493 10 = .ok (.goto 4, 3) := by decide +kernel
theorem xdJ0_coder_7d493_14 : decode cJ0_coder_7d493 14 = .ok (.ireturn, 1) := by decide +kernel
theorem xdJ0_isLatin1_aae02_0 : decode cJ0_isLatin1_aae02 0 = .ok (.getstatic 38, 3) := by decide +kernel
theorem xdJ0_isLatin1_aae02_3 : decode cJ0_isLatin1_aae02 3 = .ok (.ifCond .eq 14, 3) := by decide +kernel
theorem xdJ0_isLatin1_aae02_6 : decode cJ0_isLatin1_aae02 6 = .ok (.aload_n 0, 1) := by decide +kernel
theorem xdJ0_isLatin1_aae02_7 : decode cJ0_isLatin1_aae02 7 = .ok (.getfield 15, 3) := by decide +kernel
theorem xdJ0_isLatin1_aae02_10 : decode cJ0_isLatin1_aae02 10 = .ok (.ifCond .ne 7, 3) := by decide +kernel
theorem xdJ0_isLatin1_aae02_13 : decode cJ0_isLatin1_aae02 13 = .ok (.iconst 1, 1) := by decide +kernel
theorem xdJ0_isLatin1_aae02_14 : decode cJ0_isLatin1_aae02 14 = .ok (.goto 4, 3) := by decide +kernel
theorem xdJ0_isLatin1_aae02_18 : decode cJ0_isLatin1_aae02 18 = .ok (.ireturn, 1) := by decide +kernel
theorem xdJ0_length_8abf5_0 : decode cJ0_length_8abf5 0 = .ok (.aload_n 0, 1) := by decide +kernel
theorem xdJ0_length_8abf5_1 : decode cJ0_length_8abf5 1 = .ok (.getfield 9, 3) := by decide +kernel
theorem xw_2 : (.fieldLink RJ0 9 "java/lang/String" "value" "[B" : Cond) ∈ tw_W := tw_in (t8_7 (List.mem_of_getElem? (i := 119) rfl)) rfl
theorem xdJ0_length_8abf5_4 : decode cJ0_length_8abf5 4 = .ok (.arraylength, 1) := by decide +kernel
theorem xdJ0_length_8abf5_5 : decode cJ0_length_8abf5 5 = .ok (.aload_n 0, 1) := by decide +kernel
theorem xdJ0_length_8abf5_6 : decode cJ0_length_8abf5 6 = .ok (.invokevirtual 335, 3) := by decide +kernel
theorem xw_3 : (.code yJ0_coder_7d493 cJ0_coder_7d493 1 (some .byte) : Cond) ∈ tw_W := tw_in (t8_3 (List.mem_of_getElem? (i := 18) rfl)) rfl
theorem xw_4 : ∀ w ∈ ([.methodLink RJ0 335 yJ0_coder_7d493, .instanceMethod yJ0_coder_7d493, .selects "java/lang/String" yJ0_coder_7d493 yJ0_coder_7d493, .initialized "java/lang/String"] : List Cond), w ∈ tw_W := al_c (tw_in (t8_3 (List.mem_of_getElem? (i := 15) rfl)) rfl) (al_c (tw_in (t8_3 (List.mem_of_getElem? (i := 16) rfl)) rfl) (al_c (tw_in (t8_3 (List.mem_of_getElem? (i := 17) rfl)) rfl) (al_c (tw_in (t8_1 (List.mem_of_getElem? (i := 6) rfl)) rfl) al_n)))
theorem xdJ0_length_8abf5_9 : decode cJ0_length_8abf5 9 = .ok (.ishr, 1) := by decide +kernel
theorem xdJ0_length_8abf5_10 : decode cJ0_length_8abf5 10 = .ok (.ireturn, 1) := by decide +kernel
theorem xdJ3_checkIndex_8e157_0 : decode cJ3_checkIndex_8e157 0 = .ok (.iload_n 0, 1) := by decide +kernel
theorem xdJ3_checkIndex_8e157_1 : decode cJ3_checkIndex_8e157 1 = .ok (.ifCond .lt 8, 3) := by decide +kernel
theorem xdJ3_checkIndex_8e157_4 : decode cJ3_checkIndex_8e157 4 = .ok (.iload_n 0, 1) := by decide +kernel
theorem xdJ3_checkIndex_8e157_5 : decode cJ3_checkIndex_8e157 5 = .ok (.iload_n 1, 1) := by decide +kernel
theorem xdJ3_checkIndex_8e157_6 : decode cJ3_checkIndex_8e157 6 = .ok (.if_icmp .lt 10, 3) := by decide +kernel
theorem xdJ3_checkIndex_8e157_16 : decode cJ3_checkIndex_8e157 16 = .ok (.iload_n 0, 1) := by decide +kernel
theorem xdJ3_checkIndex_8e157_17 : decode cJ3_checkIndex_8e157 17 = .ok (.ireturn, 1) := by decide +kernel
theorem xdJ0_checkIndex_df160_0 : decode cJ0_checkIndex_df160 0 = .ok (.iload_n 0, 1) := by decide +kernel
theorem xdJ0_checkIndex_df160_1 : decode cJ0_checkIndex_df160 1 = .ok (.iload_n 1, 1) := by decide +kernel
theorem xdJ0_checkIndex_df160_2 : decode cJ0_checkIndex_df160 2 = .ok (.getstatic 1053, 3) := by decide +kernel
theorem xw_5 : (.fieldLink RJ0 1053 "jdk/internal/util/Preconditions" "SIOOBE_FORMATTER" "Ljava/util/function/BiFunction;" : Cond) ∈ tw_W := tw_in (t8_3 (List.mem_of_getElem? (i := 38) rfl)) rfl
theorem xdJ0_checkIndex_df160_5 : decode cJ0_checkIndex_df160 5 = .ok (.invokestatic 1059, 3) := by decide +kernel
theorem xw_6 : (.code yJ3_checkIndex_8e157 cJ3_checkIndex_8e157 3 (some .int) : Cond) ∈ tw_W := tw_in (t8_3 (List.mem_of_getElem? (i := 42) rfl)) rfl
theorem xw_7 : ∀ w ∈ ([.methodLink RJ0 1059 yJ3_checkIndex_8e157, .static yJ3_checkIndex_8e157, .initialized yJ3_checkIndex_8e157.cls] : List Cond), w ∈ tw_W := al_c (tw_in (t8_3 (List.mem_of_getElem? (i := 40) rfl)) rfl) (al_c (tw_in (t8_3 (List.mem_of_getElem? (i := 41) rfl)) rfl) (al_c (tw_in (t8_1 (List.mem_of_getElem? (i := 17) rfl)) rfl) al_n))
theorem xdJ0_checkIndex_df160_8 : decode cJ0_checkIndex_df160 8 = .ok (.pop, 1) := by decide +kernel
theorem xdJ0_checkIndex_df160_9 : decode cJ0_checkIndex_df160 9 = .ok (.return_, 1) := by decide +kernel
theorem xdJ1_charAt_3b067_0 : decode cJ1_charAt_3b067 0 = .ok (.iload_n 1, 1) := by decide +kernel
theorem xdJ1_charAt_3b067_1 : decode cJ1_charAt_3b067 1 = .ok (.aload_n 0, 1) := by decide +kernel
theorem xdJ1_charAt_3b067_2 : decode cJ1_charAt_3b067 2 = .ok (.arraylength, 1) := by decide +kernel
theorem xdJ1_charAt_3b067_3 : decode cJ1_charAt_3b067 3 = .ok (.invokestatic 9, 3) := by decide +kernel
theorem xw_8 : (.code yJ0_checkIndex_df160 cJ0_checkIndex_df160 2 none : Cond) ∈ tw_W := tw_in (t8_3 (List.mem_of_getElem? (i := 37) rfl)) rfl
theorem xw_9 : ∀ w ∈ ([.methodLink RJ1 9 yJ0_checkIndex_df160, .static yJ0_checkIndex_df160, .initialized yJ0_checkIndex_df160.cls] : List Cond), w ∈ tw_W := al_c (tw_in (t8_3 (List.mem_of_getElem? (i := 35) rfl)) rfl) (al_c (tw_in (t8_3 (List.mem_of_getElem? (i := 36) rfl)) rfl) (al_c (tw_in (t8_1 (List.mem_of_getElem? (i := 6) rfl)) rfl) al_n))
theorem xdJ1_charAt_3b067_6 : decode cJ1_charAt_3b067 6 = .ok (.aload_n 0, 1) := by decide +kernel
theorem xdJ1_charAt_3b067_7 : decode cJ1_charAt_3b067 7 = .ok (.iload_n 1, 1) := by decide +kernel
theorem xdJ1_charAt_3b067_8 : decode cJ1_charAt_3b067 8 = .ok (.baload, 1) := by decide +kernel
theorem xdJ1_charAt_3b067_9 : decode cJ1_charAt_3b067 9 = .ok (.sipush 255, 3) := by decide +kernel
theorem xdJ1_charAt_3b067_12 : decode cJ1_charAt_3b067 12 = .ok (.iand, 1) := by decide +kernel
theorem xdJ1_charAt_3b067_13 : decode cJ1_charAt_3b067 13 = .ok (.i2c, 1) := by decide +kernel
theorem xdJ1_charAt_3b067_14 : decode cJ1_charAt_3b067 14 = .ok (.ireturn, 1) := by decide +kernel
theorem xdJ0_charAt_5068e_0 : decode cJ0_charAt_5068e 0 = .ok (.aload_n 0, 1) := by decide +kernel
theorem xdJ0_charAt_5068e_1 : decode cJ0_charAt_5068e 1 = .ok (.invokevirtual 492, 3) := by decide +kernel
theorem xw_10 : (.code yJ0_isLatin1_aae02 cJ0_isLatin1_aae02 1 (some .boolean) : Cond) ∈ tw_W := tw_in (t8_3 (List.mem_of_getElem? (i := 31) rfl)) rfl
theorem xw_11 : ∀ w ∈ ([.methodLink RJ0 492 yJ0_isLatin1_aae02, .instanceMethod yJ0_isLatin1_aae02, .selects "java/lang/String" yJ0_isLatin1_aae02 yJ0_isLatin1_aae02, .initialized "java/lang/String"] : List Cond), w ∈ tw_W := al_c (tw_in (t8_3 (List.mem_of_getElem? (i := 28) rfl)) rfl) (al_c (tw_in (t8_3 (List.mem_of_getElem? (i := 29) rfl)) rfl) (al_c (tw_in (t8_3 (List.mem_of_getElem? (i := 30) rfl)) rfl) (al_c (tw_in (t8_1 (List.mem_of_getElem? (i := 6) rfl)) rfl) al_n)))
theorem xdJ0_charAt_5068e_4 : decode cJ0_charAt_5068e 4 = .ok (.ifCond .eq 12, 3) := by decide +kernel
theorem xdJ0_charAt_5068e_7 : decode cJ0_charAt_5068e 7 = .ok (.aload_n 0, 1) := by decide +kernel
theorem xdJ0_charAt_5068e_8 : decode cJ0_charAt_5068e 8 = .ok (.getfield 9, 3) := by decide +kernel
theorem xdJ0_charAt_5068e_11 : decode cJ0_charAt_5068e 11 = .ok (.iload_n 1, 1) := by decide +kernel
theorem xdJ0_charAt_5068e_12 : decode cJ0_charAt_5068e 12 = .ok (.invokestatic 495, 3) := by decide +kernel
theorem xw_12 : (.code yJ1_charAt_3b067 cJ1_charAt_3b067 2 (some .char) : Cond) ∈ tw_W := tw_in (t8_3 (List.mem_of_getElem? (i := 34) rfl)) rfl
theorem xw_13 : ∀ w ∈ ([.methodLink RJ0 495 yJ1_charAt_3b067, .static yJ1_charAt_3b067, .initialized yJ1_charAt_3b067.cls] : List Cond), w ∈ tw_W := al_c (tw_in (t8_3 (List.mem_of_getElem? (i := 32) rfl)) rfl) (al_c (tw_in (t8_3 (List.mem_of_getElem? (i := 33) rfl)) rfl) (al_c (tw_in (t8_1 (List.mem_of_getElem? (i := 16) rfl)) rfl) al_n))
theorem xdJ0_charAt_5068e_15 : decode cJ0_charAt_5068e 15 = .ok (.ireturn, 1) := by decide +kernel
theorem xdJ5_isLatin1_aae02_0 : decode cJ5_isLatin1_aae02 0 = .ok (.getstatic 18, 3) := by decide +kernel
theorem xw_14 : (.fieldLink RJ5 18 "java/lang/String" "COMPACT_STRINGS" "Z" : Cond) ∈ tw_W := tw_in (t8_1 (List.mem_of_getElem? (i := 76) rfl)) rfl
theorem xdJ5_isLatin1_aae02_3 : decode cJ5_isLatin1_aae02 3 = .ok (.ifCond .eq 14, 3) := by decide +kernel
theorem xdJ5_isLatin1_aae02_6 : decode cJ5_isLatin1_aae02 6 = .ok (.aload_n 0, 1) := by decide +kernel
theorem xdJ5_isLatin1_aae02_7 : decode cJ5_isLatin1_aae02 7 = .ok (.getfield 22, 3) := by decide +kernel
theorem xw_15 : (.fieldLink RJ5 22 "java/lang/AbstractStringBuilder" "coder" "B" : Cond) ∈ tw_W := tw_in (t8_1 (List.mem_of_getElem? (i := 86) rfl)) rfl
theorem xiJ4 : ∀ w ∈ wsJ40, w ∈ tw_W := tw_all (by decide +kernel)
theorem xdJ5_isLatin1_aae02_10 : decode cJ5_isLatin1_aae02 10 = .ok (.ifCond .ne 7, 3) := by decide +kernel
theorem xdJ5_isLatin1_aae02_13 : decode cJ5_isLatin1_aae02 13 = .ok (.iconst 1, 1) := by decide +kernel
theorem xdJ5_isLatin1_aae02_14 : decode cJ5_isLatin1_aae02 14 = .ok (.goto 4, 3) := by decide +kernel
theorem xdJ5_isLatin1_aae02_18 : decode cJ5_isLatin1_aae02 18 = .ok (.ireturn, 1) := by decide +kernel
theorem xdJ1_canEncode_fc78d_0 : decode cJ1_canEncode_fc78d 0 = .ok (.iload_n 0, 1) := by decide +kernel
theorem xdJ1_canEncode_fc78d_1 : decode cJ1_canEncode_fc78d 1 = .ok (.sipush 255, 3) := by decide +kernel
theorem xdJ1_canEncode_fc78d_4 : decode cJ1_canEncode_fc78d 4 = .ok (.if_icmp .gt 7, 3) := by decide +kernel
theorem xdJ1_canEncode_fc78d_7 : decode cJ1_canEncode_fc78d 7 = .ok (.iconst 1, 1) := by decide +kernel
theorem xdJ1_canEncode_fc78d_8 : decode cJ1_canEncode_fc78d 8 = .ok (.goto 4, 3) := by decide +kernel
theorem xdJ1_canEncode_fc78d_12 : decode cJ1_canEncode_fc78d 12 = .ok (.ireturn, 1) := by decide +kernel
theorem xdJ8_newLength_cabcc_0 : decode cJ8_newLength_cabcc 0 = .ok (.iload_n 0, 1) := by decide +kernel
theorem xdJ8_newLength_cabcc_1 : decode cJ8_newLength_cabcc 1 = .ok (.iload_n 1, 1) := by decide +kernel
theorem xdJ8_newLength_cabcc_2 : decode cJ8_newLength_cabcc 2 = .ok (.iload_n 2, 1) := by decide +kernel
theorem xdJ8_newLength_cabcc_3 : decode cJ8_newLength_cabcc 3 = .ok (.invokestatic 194, 3) := by decide +kernel
theorem xw_16 : (.methodLink RJ8 194 Lib.Math.max.name : Cond) ∈ tw_W := tw_in (t8_6 (List.mem_of_getElem? (i := 194) rfl)) rfl
theorem xw_17 : (.static Lib.Math.max.name : Cond) ∈ tw_W := tw_in (t8_4 (List.mem_of_getElem? (i := 41) rfl)) rfl
theorem xw_18 : (.initialized "java/lang/Math" : Cond) ∈ tw_W := tw_in (t8_1 (List.mem_of_getElem? (i := 22) rfl)) rfl
theorem xw_19 : (.code Lib.Math.max.name Lib.Math.max.code 2 (some .int) : Cond) ∈ tw_W := tw_in (by decide +kernel) (by decide +kernel)
theorem xdJ8_newLength_cabcc_6 : decode cJ8_newLength_cabcc 6 = .ok (.iadd, 1) := by decide +kernel
theorem xdJ8_newLength_cabcc_7 : decode cJ8_newLength_cabcc 7 = .ok (.istore_n 3, 1) := by decide +kernel
theorem xdJ8_newLength_cabcc_8 : decode cJ8_newLength_cabcc 8 = .ok (.iconst 0, 1) := by decide +kernel
theorem xdJ8_newLength_cabcc_9 : decode cJ8_newLength_cabcc 9 = .ok (.iload_n 3, 1) := by decide +kernel
theorem xdJ8_newLength_cabcc_10 : decode cJ8_newLength_cabcc 10 = .ok (.if_icmp .ge 11, 3) := by decide +kernel
theorem xdJ8_newLength_cabcc_13 : decode cJ8_newLength_cabcc 13 = .ok (.iload_n 3, 1) := by decide +kernel
theorem xdJ8_newLength_cabcc_14 : decode cJ8_newLength_cabcc 14 = .ok (.ldc 200, 2) := by decide +kernel
theorem xw_20 : (.constant RJ8 200 (2147483639) : Cond) ∈ tw_W := tw_in (t8_6 (List.mem_of_getElem? (i := 195) rfl)) rfl
theorem xdJ8_newLength_cabcc_16 : decode cJ8_newLength_cabcc 16 = .ok (.if_icmp .gt 5, 3) := by decide +kernel
theorem xdJ8_newLength_cabcc_19 : decode cJ8_newLength_cabcc 19 = .ok (.iload_n 3, 1) := by decide +kernel
theorem xdJ8_newLength_cabcc_20 : decode cJ8_newLength_cabcc 20 = .ok (.ireturn, 1) := by decide +kernel
theorem xdJ5_newCapacity_0f7a4_0 : decode cJ5_newCapacity_0f7a4 0 = .ok (.aload_n 0, 1) := by decide +kernel
theorem xdJ5_newCapacity_0f7a4_1 : decode cJ5_newCapacity_0f7a4 1 = .ok (.getfield 15, 3) := by decide +kernel
theorem xw_21 : (.fieldLink RJ5 15 "java/lang/AbstractStringBuilder" "value" "[B" : Cond) ∈ tw_W := tw_in (t8_1 (List.mem_of_getElem? (i := 85) rfl)) rfl
theorem xdJ5_newCapacity_0f7a4_4 : decode cJ5_newCapacity_0f7a4 4 = .ok (.arraylength, 1) := by decide +kernel
theorem xdJ5_newCapacity_0f7a4_5 : decode cJ5_newCapacity_0f7a4 5 = .ok (.istore_n 2, 1) := by decide +kernel
theorem xdJ5_newCapacity_0f7a4_6 : decode cJ5_newCapacity_0f7a4 6 = .ok (.iload_n 1, 1) := by decide +kernel
theorem xdJ5_newCapacity_0f7a4_7 : decode cJ5_newCapacity_0f7a4 7 = .ok (.aload_n 0, 1) := by decide +kernel
theorem xdJ5_newCapacity_0f7a4_8 : decode cJ5_newCapacity_0f7a4 8 = .ok (.getfield 22, 3) := by decide +kernel
theorem xdJ5_newCapacity_0f7a4_11 : decode cJ5_newCapacity_0f7a4 11 = .ok (.ishl, 1) := by decide +kernel
theorem xdJ5_newCapacity_0f7a4_12 : decode cJ5_newCapacity_0f7a4 12 = .ok (.istore_n 3, 1) := by decide +kernel
theorem xdJ5_newCapacity_0f7a4_13 : decode cJ5_newCapacity_0f7a4 13 = .ok (.iload_n 3, 1) := by decide +kernel
theorem xdJ5_newCapacity_0f7a4_14 : decode cJ5_newCapacity_0f7a4 14 = .ok (.iload_n 2, 1) := by decide +kernel
theorem xdJ5_newCapacity_0f7a4_15 : decode cJ5_newCapacity_0f7a4 15 = .ok (.isub, 1) := by decide +kernel
theorem xdJ5_newCapacity_0f7a4_16 : decode cJ5_newCapacity_0f7a4 16 = .ok (.istore 4, 2) := by decide +kernel
theorem xdJ5_newCapacity_0f7a4_18 : decode cJ5_newCapacity_0f7a4 18 = .ok (.iload_n 2, 1) := by decide +kernel
theorem xdJ5_newCapacity_0f7a4_19 : decode cJ5_newCapacity_0f7a4 19 = .ok (.iload 4, 2) := by decide +kernel
theorem xdJ5_newCapacity_0f7a4_21 : decode cJ5_newCapacity_0f7a4 21 = .ok (.iload_n 2, 1) := by decide +kernel
theorem xdJ5_newCapacity_0f7a4_22 : decode cJ5_newCapacity_0f7a4 22 = .ok (.iconst 2, 1) := by decide +kernel
theorem xdJ5_newCapacity_0f7a4_23 : decode cJ5_newCapacity_0f7a4 23 = .ok (.aload_n 0, 1) := by decide +kernel
theorem xdJ5_newCapacity_0f7a4_24 : decode cJ5_newCapacity_0f7a4 24 = .ok (.getfield 22, 3) := by decide +kernel
theorem xdJ5_newCapacity_0f7a4_27 : decode cJ5_newCapacity_0f7a4 27 = .ok (.ishl, 1) := by decide +kernel
theorem xdJ5_newCapacity_0f7a4_28 : decode cJ5_newCapacity_0f7a4 28 = .ok (.iadd, 1) := by decide +kernel
theorem xdJ5_newCapacity_0f7a4_29 : decode cJ5_newCapacity_0f7a4 29 = .ok (.invokestatic 114, 3) := by decide +kernel
theorem xw_22 : (.code yJ8_newLength_cabcc cJ8_newLength_cabcc 4 (some .int) : Cond) ∈ tw_W := tw_in (t8_6 (List.mem_of_getElem? (i := 193) rfl)) rfl
theorem xw_23 : ∀ w ∈ ([.methodLink RJ5 114 yJ8_newLength_cabcc, .static yJ8_newLength_cabcc, .initialized yJ8_newLength_cabcc.cls] : List Cond), w ∈ tw_W := al_c (tw_in (t8_6 (List.mem_of_getElem? (i := 191) rfl)) rfl) (al_c (tw_in (t8_6 (List.mem_of_getElem? (i := 192) rfl)) rfl) (al_c (tw_in (t8_1 (List.mem_of_getElem? (i := 33) rfl)) rfl) al_n))
theorem xdJ5_newCapacity_0f7a4_32 : decode cJ5_newCapacity_0f7a4 32 = .ok (.istore 5, 2) := by decide +kernel
theorem xdJ5_newCapacity_0f7a4_34 : decode cJ5_newCapacity_0f7a4 34 = .ok (.iload 5, 2) := by decide +kernel
theorem xdJ5_newCapacity_0f7a4_36 : decode cJ5_newCapacity_0f7a4 36 = .ok (.ldc 39, 2) := by decide +kernel
theorem xw_24 : (.constant RJ5 39 (2147483647) : Cond) ∈ tw_W := tw_in (t8_6 (List.mem_of_getElem? (i := 199) rfl)) rfl
theorem xdJ5_newCapacity_0f7a4_38 : decode cJ5_newCapacity_0f7a4 38 = .ok (.if_icmp .ne 13, 3) := by decide +kernel
theorem xdJ5_newCapacity_0f7a4_51 : decode cJ5_newCapacity_0f7a4 51 = .ok (.iload 5, 2) := by decide +kernel
theorem xdJ5_newCapacity_0f7a4_53 : decode cJ5_newCapacity_0f7a4 53 = .ok (.aload_n 0, 1) := by decide +kernel
theorem xdJ5_newCapacity_0f7a4_54 : decode cJ5_newCapacity_0f7a4 54 = .ok (.getfield 22, 3) := by decide +kernel
theorem xdJ5_newCapacity_0f7a4_57 : decode cJ5_newCapacity_0f7a4 57 = .ok (.ishr, 1) := by decide +kernel
theorem xdJ5_newCapacity_0f7a4_58 : decode cJ5_newCapacity_0f7a4 58 = .ok (.ireturn, 1) := by decide +kernel
theorem xdJ7_copyOf_9075b_0 : decode cJ7_copyOf_9075b 0 = .ok (.iload_n 1, 1) := by decide +kernel
theorem xdJ7_copyOf_9075b_1 : decode cJ7_copyOf_9075b 1 = .ok (.aload_n 0, 1) := by decide +kernel
theorem xdJ7_copyOf_9075b_2 : decode cJ7_copyOf_9075b 2 = .ok (.arraylength, 1) := by decide +kernel
theorem xdJ7_copyOf_9075b_3 : decode cJ7_copyOf_9075b 3 = .ok (.if_icmp .ne 11, 3) := by decide +kernel
theorem xdJ7_copyOf_9075b_14 : decode cJ7_copyOf_9075b 14 = .ok (.iload_n 1, 1) := by decide +kernel
theorem xdJ7_copyOf_9075b_15 : decode cJ7_copyOf_9075b 15 = .ok (.newarray .byte, 2) := by decide +kernel
theorem xw_25 : (.arrayClass .byte : Cond) ∈ tw_W := tw_in (t8_1 (List.mem_of_getElem? (i := 99) rfl)) rfl
theorem xdJ7_copyOf_9075b_17 : decode cJ7_copyOf_9075b 17 = .ok (.astore_n 2, 1) := by decide +kernel
theorem xdJ7_copyOf_9075b_18 : decode cJ7_copyOf_9075b 18 = .ok (.aload_n 0, 1) := by decide +kernel
theorem xdJ7_copyOf_9075b_19 : decode cJ7_copyOf_9075b 19 = .ok (.iconst 0, 1) := by decide +kernel
theorem xdJ7_copyOf_9075b_20 : decode cJ7_copyOf_9075b 20 = .ok (.aload_n 2, 1) := by decide +kernel
theorem xdJ7_copyOf_9075b_21 : decode cJ7_copyOf_9075b 21 = .ok (.iconst 0, 1) := by decide +kernel
theorem xdJ7_copyOf_9075b_22 : decode cJ7_copyOf_9075b 22 = .ok (.aload_n 0, 1) := by decide +kernel
theorem xdJ7_copyOf_9075b_23 : decode cJ7_copyOf_9075b 23 = .ok (.arraylength, 1) := by decide +kernel
theorem xdJ7_copyOf_9075b_24 : decode cJ7_copyOf_9075b 24 = .ok (.iload_n 1, 1) := by decide +kernel
theorem xdJ7_copyOf_9075b_25 : decode cJ7_copyOf_9075b 25 = .ok (.invokestatic 304, 3) := by decide +kernel
theorem xw_26 : (.methodLink RJ7 304 Lib.Math.min.name : Cond) ∈ tw_W := tw_in (t8_6 (List.mem_of_getElem? (i := 210) rfl)) rfl
theorem xw_27 : (.static Lib.Math.min.name : Cond) ∈ tw_W := tw_in (t8_4 (List.mem_of_getElem? (i := 30) rfl)) rfl
theorem xw_28 : (.code Lib.Math.min.name Lib.Math.min.code 2 (some .int) : Cond) ∈ tw_W := tw_in (by decide +kernel) (by decide +kernel)
theorem xdJ7_copyOf_9075b_28 : decode cJ7_copyOf_9075b 28 = .ok (.invokestatic 150, 3) := by decide +kernel
theorem xw_29 : (.methodLink RJ7 150 arraycopyName : Cond) ∈ tw_W := tw_in (t8_6 (List.mem_of_getElem? (i := 211) rfl)) rfl
theorem xw_30 : (.native arraycopyName : Cond) ∈ tw_W := tw_in (t8_5 (List.mem_of_getElem? (i := 209) rfl)) rfl
theorem xw_31 : (.static arraycopyName : Cond) ∈ tw_W := tw_in (t8_5 (List.mem_of_getElem? (i := 208) rfl)) rfl
theorem xw_32 : (.initialized "java/lang/System" : Cond) ∈ tw_W := tw_in (t8_1 (List.mem_of_getElem? (i := 25) rfl)) rfl
theorem xdJ7_copyOf_9075b_31 : decode cJ7_copyOf_9075b 31 = .ok (.aload_n 2, 1) := by decide +kernel
theorem xdJ7_copyOf_9075b_32 : decode cJ7_copyOf_9075b 32 = .ok (.areturn, 1) := by decide +kernel
theorem xdJ5_ensureCapacityInternal_d00df_0 : decode cJ5_ensureCapacityInternal_d00df 0 = .ok (.aload_n 0, 1) := by decide +kernel
theorem xdJ5_ensureCapacityInternal_d00df_1 : decode cJ5_ensureCapacityInternal_d00df 1 = .ok (.getfield 15, 3) := by decide +kernel
theorem xdJ5_ensureCapacityInternal_d00df_4 : decode cJ5_ensureCapacityInternal_d00df 4 = .ok (.arraylength, 1) := by decide +kernel
theorem xdJ5_ensureCapacityInternal_d00df_5 : decode cJ5_ensureCapacityInternal_d00df 5 = .ok (.aload_n 0, 1) := by decide +kernel
theorem xdJ5_ensureCapacityInternal_d00df_6 : decode cJ5_ensureCapacityInternal_d00df 6 = .ok (.getfield 22, 3) := by decide +kernel
theorem xdJ5_ensureCapacityInternal_d00df_9 : decode cJ5_ensureCapacityInternal_d00df 9 = .ok (.ishr, 1) := by decide +kernel
theorem xdJ5_ensureCapacityInternal_d00df_10 : decode cJ5_ensureCapacityInternal_d00df 10 = .ok (.istore_n 2, 1) := by decide +kernel
theorem xdJ5_ensureCapacityInternal_d00df_11 : decode cJ5_ensureCapacityInternal_d00df 11 = .ok (.iload_n 1, 1) := by decide +kernel
theorem xdJ5_ensureCapacityInternal_d00df_12 : decode cJ5_ensureCapacityInternal_d00df 12 = .ok (.iload_n 2, 1) := by decide +kernel
theorem xdJ5_ensureCapacityInternal_d00df_13 : decode cJ5_ensureCapacityInternal_d00df 13 = .ok (.isub, 1) := by decide +kernel
theorem xdJ5_ensureCapacityInternal_d00df_14 : decode cJ5_ensureCapacityInternal_d00df 14 = .ok (.ifCond .le 24, 3) := by decide +kernel
theorem xdJ5_ensureCapacityInternal_d00df_38 : decode cJ5_ensureCapacityInternal_d00df 38 = .ok (.return_, 1) := by decide +kernel
theorem xdJ5_ensureCapacityInternal_d00df_17 : decode cJ5_ensureCapacityInternal_d00df 17 = .ok (.aload_n 0, 1) := by decide +kernel
theorem xdJ5_ensureCapacityInternal_d00df_18 : decode cJ5_ensureCapacityInternal_d00df 18 = .ok (.aload_n 0, 1) := by decide +kernel
theorem xdJ5_ensureCapacityInternal_d00df_19 : decode cJ5_ensureCapacityInternal_d00df 19 = .ok (.getfield 15, 3) := by decide +kernel
theorem xdJ5_ensureCapacityInternal_d00df_22 : decode cJ5_ensureCapacityInternal_d00df 22 = .ok (.aload_n 0, 1) := by decide +kernel
theorem xdJ5_ensureCapacityInternal_d00df_23 : decode cJ5_ensureCapacityInternal_d00df 23 = .ok (.iload_n 1, 1) := by decide +kernel
theorem xdJ5_ensureCapacityInternal_d00df_24 : decode cJ5_ensureCapacityInternal_d00df 24 = .ok (.invokevirtual 104, 3) := by decide +kernel
theorem xw_33 : (.code yJ5_newCapacity_0f7a4 cJ5_newCapacity_0f7a4 6 (some .int) : Cond) ∈ tw_W := tw_in (t8_6 (List.mem_of_getElem? (i := 190) rfl)) rfl
theorem xw_34 : (.methodLink RJ5 104 yJ5_newCapacity_0f7a4 : Cond) ∈ tw_W := tw_in (t8_6 (List.mem_of_getElem? (i := 187) rfl)) rfl
theorem xw_35 : (.sameMethod yJ5_newCapacity_0f7a4.cls yJ5_newCapacity_0f7a4.cls yJ5_newCapacity_0f7a4.name yJ5_newCapacity_0f7a4.desc : Cond) ∈ tw_W := tw_in (t8_13 (List.mem_of_getElem? (i := 86) rfl)) rfl
theorem xw_36 : (.instanceMethod yJ5_newCapacity_0f7a4 : Cond) ∈ tw_W := tw_in (t8_6 (List.mem_of_getElem? (i := 189) rfl)) rfl
theorem xw_37 : (.initialized yJ5_newCapacity_0f7a4.cls : Cond) ∈ tw_W := tw_in (t8_1 (List.mem_of_getElem? (i := 4) rfl)) rfl
theorem xdJ5_ensureCapacityInternal_d00df_27 : decode cJ5_ensureCapacityInternal_d00df 27 = .ok (.aload_n 0, 1) := by decide +kernel
theorem xdJ5_ensureCapacityInternal_d00df_28 : decode cJ5_ensureCapacityInternal_d00df 28 = .ok (.getfield 22, 3) := by decide +kernel
theorem xdJ5_ensureCapacityInternal_d00df_31 : decode cJ5_ensureCapacityInternal_d00df 31 = .ok (.ishl, 1) := by decide +kernel
theorem xdJ5_ensureCapacityInternal_d00df_32 : decode cJ5_ensureCapacityInternal_d00df 32 = .ok (.invokestatic 108, 3) := by decide +kernel
theorem xw_38 : (.code yJ7_copyOf_9075b cJ7_copyOf_9075b 3 (some (.array .byte)) : Cond) ∈ tw_W := tw_in (t8_6 (List.mem_of_getElem? (i := 202) rfl)) rfl
theorem xw_39 : ∀ w ∈ ([.methodLink RJ5 108 yJ7_copyOf_9075b, .static yJ7_copyOf_9075b, .initialized yJ7_copyOf_9075b.cls] : List Cond), w ∈ tw_W := al_c (tw_in (t8_6 (List.mem_of_getElem? (i := 200) rfl)) rfl) (al_c (tw_in (t8_6 (List.mem_of_getElem? (i := 201) rfl)) rfl) (al_c (tw_in (t8_1 (List.mem_of_getElem? (i := 28) rfl)) rfl) al_n))
theorem xdJ5_ensureCapacityInternal_d00df_35 : decode cJ5_ensureCapacityInternal_d00df 35 = .ok (.putfield 15, 3) := by decide +kernel
theorem xdJ5_append_3fe6f_0 : decode cJ5_append_3fe6f 0 = .ok (.aload_n 0, 1) := by decide +kernel
theorem xdJ5_append_3fe6f_1 : decode cJ5_append_3fe6f 1 = .ok (.aload_n 0, 1) := by decide +kernel
theorem xdJ5_append_3fe6f_2 : decode cJ5_append_3fe6f 2 = .ok (.getfield 79, 3) := by decide +kernel
theorem xw_40 : (.fieldLink RJ5 79 "java/lang/AbstractStringBuilder" "count" "I" : Cond) ∈ tw_W := tw_in (t8_1 (List.mem_of_getElem? (i := 89) rfl)) rfl
theorem xdJ5_append_3fe6f_5 : decode cJ5_append_3fe6f 5 = .ok (.iconst 1, 1) := by decide +kernel
theorem xdJ5_append_3fe6f_6 : decode cJ5_append_3fe6f 6 = .ok (.iadd, 1) := by decide +kernel
theorem xdJ5_append_3fe6f_7 : decode cJ5_append_3fe6f 7 = .ok (.invokevirtual 100, 3) := by decide +kernel
theorem xw_41 : (.code yJ5_ensureCapacityInternal_d00df cJ5_ensureCapacityInternal_d00df 3 none : Cond) ∈ tw_W := tw_in (t8_6 (List.mem_of_getElem? (i := 186) rfl)) rfl
theorem xw_42 : (.methodLink RJ5 100 yJ5_ensureCapacityInternal_d00df : Cond) ∈ tw_W := tw_in (t8_6 (List.mem_of_getElem? (i := 183) rfl)) rfl
theorem xw_43 : (.sameMethod yJ5_ensureCapacityInternal_d00df.cls yJ5_ensureCapacityInternal_d00df.cls yJ5_ensureCapacityInternal_d00df.name yJ5_ensureCapacityInternal_d00df.desc : Cond) ∈ tw_W := tw_in (t8_13 (List.mem_of_getElem? (i := 85) rfl)) rfl
theorem xw_44 : (.instanceMethod yJ5_ensureCapacityInternal_d00df : Cond) ∈ tw_W := tw_in (t8_6 (List.mem_of_getElem? (i := 185) rfl)) rfl
theorem xw_45 : (.initialized yJ5_ensureCapacityInternal_d00df.cls : Cond) ∈ tw_W := tw_in (t8_1 (List.mem_of_getElem? (i := 4) rfl)) rfl
theorem xdJ5_append_3fe6f_10 : decode cJ5_append_3fe6f 10 = .ok (.aload_n 0, 1) := by decide +kernel
theorem xdJ5_append_3fe6f_11 : decode cJ5_append_3fe6f 11 = .ok (.invokevirtual 83, 3) := by decide +kernel
theorem xw_46 : (.code yJ5_isLatin1_aae02 cJ5_isLatin1_aae02 1 (some .boolean) : Cond) ∈ tw_W := tw_in (t8_6 (List.mem_of_getElem? (i := 216) rfl)) rfl
theorem xw_47 : (.methodLink RJ5 83 yJ5_isLatin1_aae02 : Cond) ∈ tw_W := tw_in (t8_6 (List.mem_of_getElem? (i := 212) rfl)) rfl
theorem xw_48 : (.sameMethod yJ5_isLatin1_aae02.cls yJ5_isLatin1_aae02.cls yJ5_isLatin1_aae02.name yJ5_isLatin1_aae02.desc : Cond) ∈ tw_W := tw_in (t8_6 (List.mem_of_getElem? (i := 214) rfl)) rfl
theorem xw_49 : (.selects RJ4 yJ5_isLatin1_aae02 yJ5_isLatin1_aae02 : Cond) ∈ tw_W := tw_in (t8_6 (List.mem_of_getElem? (i := 215) rfl)) rfl
theorem xw_50 : (.instanceMethod yJ5_isLatin1_aae02 : Cond) ∈ tw_W := tw_in (t8_6 (List.mem_of_getElem? (i := 213) rfl)) rfl
theorem xw_51 : (.initialized yJ5_isLatin1_aae02.cls : Cond) ∈ tw_W := tw_in (t8_1 (List.mem_of_getElem? (i := 4) rfl)) rfl
theorem xdJ5_append_3fe6f_14 : decode cJ5_append_3fe6f 14 = .ok (.ifCond .eq 31, 3) := by decide +kernel
theorem xdJ5_append_3fe6f_17 : decode cJ5_append_3fe6f 17 = .ok (.iload_n 1, 1) := by decide +kernel
theorem xdJ5_append_3fe6f_18 : decode cJ5_append_3fe6f 18 = .ok (.invokestatic 191, 3) := by decide +kernel
theorem xw_52 : (.code yJ1_canEncode_fc78d cJ1_canEncode_fc78d 1 (some .boolean) : Cond) ∈ tw_W := tw_in (t8_7 (List.mem_of_getElem? (i := 196) rfl)) rfl
theorem xw_53 : ∀ w ∈ ([.methodLink RJ5 191 yJ1_canEncode_fc78d, .static yJ1_canEncode_fc78d, .initialized yJ1_canEncode_fc78d.cls] : List Cond), w ∈ tw_W := al_c (tw_in (t8_7 (List.mem_of_getElem? (i := 194) rfl)) rfl) (al_c (tw_in (t8_7 (List.mem_of_getElem? (i := 195) rfl)) rfl) (al_c (tw_in (t8_1 (List.mem_of_getElem? (i := 16) rfl)) rfl) al_n))
theorem xdJ5_append_3fe6f_21 : decode cJ5_append_3fe6f 21 = .ok (.ifCond .eq 24, 3) := by decide +kernel
theorem xdJ5_append_3fe6f_24 : decode cJ5_append_3fe6f 24 = .ok (.aload_n 0, 1) := by decide +kernel
theorem xdJ5_append_3fe6f_25 : decode cJ5_append_3fe6f 25 = .ok (.getfield 15, 3) := by decide +kernel
theorem xdJ5_append_3fe6f_28 : decode cJ5_append_3fe6f 28 = .ok (.aload_n 0, 1) := by decide +kernel
theorem xdJ5_append_3fe6f_29 : decode cJ5_append_3fe6f 29 = .ok (.dup, 1) := by decide +kernel
theorem xdJ5_append_3fe6f_30 : decode cJ5_append_3fe6f 30 = .ok (.getfield 79, 3) := by decide +kernel
theorem xdJ5_append_3fe6f_33 : decode cJ5_append_3fe6f 33 = .ok (.dup_x1, 1) := by decide +kernel
theorem xdJ5_append_3fe6f_34 : decode cJ5_append_3fe6f 34 = .ok (.iconst 1, 1) := by decide +kernel
theorem xdJ5_append_3fe6f_35 : decode cJ5_append_3fe6f 35 = .ok (.iadd, 1) := by decide +kernel
theorem xdJ5_append_3fe6f_36 : decode cJ5_append_3fe6f 36 = .ok (.putfield 79, 3) := by decide +kernel
theorem xdJ5_append_3fe6f_39 : decode cJ5_append_3fe6f 39 = .ok (.iload_n 1, 1) := by decide +kernel
theorem xdJ5_append_3fe6f_40 : decode cJ5_append_3fe6f 40 = .ok (.i2b, 1) := by decide +kernel
theorem xdJ5_append_3fe6f_41 : decode cJ5_append_3fe6f 41 = .ok (.bastore, 1) := by decide +kernel
theorem xdJ5_append_3fe6f_42 : decode cJ5_append_3fe6f 42 = .ok (.goto 33, 3) := by decide +kernel
theorem xdJ5_append_3fe6f_75 : decode cJ5_append_3fe6f 75 = .ok (.aload_n 0, 1) := by decide +kernel
theorem xdJ5_append_3fe6f_76 : decode cJ5_append_3fe6f 76 = .ok (.areturn, 1) := by decide +kernel
theorem xdJ4_append_cf468_0 : decode cJ4_append_cf468 0 = .ok (.aload_n 0, 1) := by decide +kernel
theorem xdJ4_append_cf468_1 : decode cJ4_append_cf468 1 = .ok (.iload_n 1, 1) := by decide +kernel
theorem xdJ4_append_cf468_2 : decode cJ4_append_cf468 2 = .ok (.invokespecial 50, 3) := by decide +kernel
theorem xw_54 : (.code yJ5_append_3fe6f cJ5_append_3fe6f 2 (some (.object "java/lang/AbstractStringBuilder")) : Cond) ∈ tw_W := tw_in (t8_7 (List.mem_of_getElem? (i := 193) rfl)) rfl
theorem xw_55 : ∀ w ∈ ([.methodLink RJ4 50 yJ5_append_3fe6f, .sameMethod yJ5_append_3fe6f.cls yJ5_append_3fe6f.cls yJ5_append_3fe6f.name yJ5_append_3fe6f.desc, .superclass RJ4 yJ5_append_3fe6f.cls, .instanceMethod yJ5_append_3fe6f, .initialized yJ5_append_3fe6f.cls] : List Cond), w ∈ tw_W := al_c (tw_in (t8_7 (List.mem_of_getElem? (i := 191) rfl)) rfl) (al_c (tw_in (t8_13 (List.mem_of_getElem? (i := 91) rfl)) rfl) (al_c (tw_in (t8_1 (List.mem_of_getElem? (i := 98) rfl)) rfl) (al_c (tw_in (t8_7 (List.mem_of_getElem? (i := 192) rfl)) rfl) (al_c (tw_in (t8_1 (List.mem_of_getElem? (i := 4) rfl)) rfl) al_n))))
theorem xdJ4_append_cf468_5 : decode cJ4_append_cf468 5 = .ok (.pop, 1) := by decide +kernel
theorem xdJ4_append_cf468_6 : decode cJ4_append_cf468 6 = .ok (.aload_n 0, 1) := by decide +kernel
theorem xdJ4_append_cf468_7 : decode cJ4_append_cf468 7 = .ok (.areturn, 1) := by decide +kernel
theorem xdJ5_inflateIfNeededFor_a7421_0 : decode cJ5_inflateIfNeededFor_a7421 0 = .ok (.getstatic 18, 3) := by decide +kernel
theorem xdJ5_inflateIfNeededFor_a7421_3 : decode cJ5_inflateIfNeededFor_a7421 3 = .ok (.ifCond .eq 18, 3) := by decide +kernel
theorem xdJ5_inflateIfNeededFor_a7421_6 : decode cJ5_inflateIfNeededFor_a7421 6 = .ok (.aload_n 0, 1) := by decide +kernel
theorem xdJ5_inflateIfNeededFor_a7421_7 : decode cJ5_inflateIfNeededFor_a7421 7 = .ok (.getfield 22, 3) := by decide +kernel
theorem xdJ5_inflateIfNeededFor_a7421_10 : decode cJ5_inflateIfNeededFor_a7421 10 = .ok (.aload_n 1, 1) := by decide +kernel
theorem xdJ5_inflateIfNeededFor_a7421_11 : decode cJ5_inflateIfNeededFor_a7421 11 = .ok (.invokevirtual 40, 3) := by decide +kernel
theorem xw_56 : ∀ w ∈ ([.methodLink RJ5 40 yJ0_coder_7d493, .instanceMethod yJ0_coder_7d493, .selects "java/lang/String" yJ0_coder_7d493 yJ0_coder_7d493, .initialized "java/lang/String"] : List Cond), w ∈ tw_W := al_c (tw_in (t8_7 (List.mem_of_getElem? (i := 1) rfl)) rfl) (al_c (tw_in (t8_3 (List.mem_of_getElem? (i := 16) rfl)) rfl) (al_c (tw_in (t8_3 (List.mem_of_getElem? (i := 17) rfl)) rfl) (al_c (tw_in (t8_1 (List.mem_of_getElem? (i := 6) rfl)) rfl) al_n)))
theorem xdJ5_inflateIfNeededFor_a7421_14 : decode cJ5_inflateIfNeededFor_a7421 14 = .ok (.if_icmp .eq 7, 3) := by decide +kernel
theorem xdJ5_inflateIfNeededFor_a7421_21 : decode cJ5_inflateIfNeededFor_a7421 21 = .ok (.return_, 1) := by decide +kernel
theorem xdJ0_getBytes_840e7_0 : decode cJ0_getBytes_840e7 0 = .ok (.aload_n 0, 1) := by decide +kernel
theorem xdJ0_getBytes_840e7_1 : decode cJ0_getBytes_840e7 1 = .ok (.invokevirtual 335, 3) := by decide +kernel
theorem xdJ0_getBytes_840e7_4 : decode cJ0_getBytes_840e7 4 = .ok (.iload_n 3, 1) := by decide +kernel
theorem xdJ0_getBytes_840e7_5 : decode cJ0_getBytes_840e7 5 = .ok (.if_icmp .ne 23, 3) := by decide +kernel
theorem xdJ0_getBytes_840e7_8 : decode cJ0_getBytes_840e7 8 = .ok (.aload_n 0, 1) := by decide +kernel
theorem xdJ0_getBytes_840e7_9 : decode cJ0_getBytes_840e7 9 = .ok (.getfield 9, 3) := by decide +kernel
theorem xdJ0_getBytes_840e7_12 : decode cJ0_getBytes_840e7 12 = .ok (.iconst 0, 1) := by decide +kernel
theorem xdJ0_getBytes_840e7_13 : decode cJ0_getBytes_840e7 13 = .ok (.aload_n 1, 1) := by decide +kernel
theorem xdJ0_getBytes_840e7_14 : decode cJ0_getBytes_840e7 14 = .ok (.iload_n 2, 1) := by decide +kernel
theorem xdJ0_getBytes_840e7_15 : decode cJ0_getBytes_840e7 15 = .ok (.iload_n 3, 1) := by decide +kernel
theorem xdJ0_getBytes_840e7_16 : decode cJ0_getBytes_840e7 16 = .ok (.ishl, 1) := by decide +kernel
theorem xdJ0_getBytes_840e7_17 : decode cJ0_getBytes_840e7 17 = .ok (.aload_n 0, 1) := by decide +kernel
theorem xdJ0_getBytes_840e7_18 : decode cJ0_getBytes_840e7 18 = .ok (.getfield 9, 3) := by decide +kernel
theorem xdJ0_getBytes_840e7_21 : decode cJ0_getBytes_840e7 21 = .ok (.arraylength, 1) := by decide +kernel
theorem xdJ0_getBytes_840e7_22 : decode cJ0_getBytes_840e7 22 = .ok (.invokestatic 212, 3) := by decide +kernel
theorem xw_57 : (.methodLink RJ0 212 arraycopyName : Cond) ∈ tw_W := tw_in (t8_7 (List.mem_of_getElem? (i := 25) rfl)) rfl
theorem xdJ0_getBytes_840e7_25 : decode cJ0_getBytes_840e7 25 = .ok (.goto 18, 3) := by decide +kernel
theorem xdJ0_getBytes_840e7_43 : decode cJ0_getBytes_840e7 43 = .ok (.return_, 1) := by decide +kernel
theorem xdJ5_putStringAt_47b60_0 : decode cJ5_putStringAt_47b60 0 = .ok (.aload_n 0, 1) := by decide +kernel
theorem xdJ5_putStringAt_47b60_1 : decode cJ5_putStringAt_47b60 1 = .ok (.aload_n 2, 1) := by decide +kernel
theorem xdJ5_putStringAt_47b60_2 : decode cJ5_putStringAt_47b60 2 = .ok (.invokevirtual 397, 3) := by decide +kernel
theorem xw_58 : (.code yJ5_inflateIfNeededFor_a7421 cJ5_inflateIfNeededFor_a7421 2 none : Cond) ∈ tw_W := tw_in (t8_7 (List.mem_of_getElem? (i := 0) rfl)) rfl
theorem xw_59 : (.methodLink RJ5 397 yJ5_inflateIfNeededFor_a7421 : Cond) ∈ tw_W := tw_in (t8_6 (List.mem_of_getElem? (i := 237) rfl)) rfl
theorem xw_60 : (.sameMethod yJ5_inflateIfNeededFor_a7421.cls yJ5_inflateIfNeededFor_a7421.cls yJ5_inflateIfNeededFor_a7421.name yJ5_inflateIfNeededFor_a7421.desc : Cond) ∈ tw_W := tw_in (t8_13 (List.mem_of_getElem? (i := 88) rfl)) rfl
theorem xw_61 : (.instanceMethod yJ5_inflateIfNeededFor_a7421 : Cond) ∈ tw_W := tw_in (t8_6 (List.mem_of_getElem? (i := 239) rfl)) rfl
theorem xw_62 : (.initialized yJ5_inflateIfNeededFor_a7421.cls : Cond) ∈ tw_W := tw_in (t8_1 (List.mem_of_getElem? (i := 4) rfl)) rfl
theorem xdJ5_putStringAt_47b60_5 : decode cJ5_putStringAt_47b60 5 = .ok (.aload_n 2, 1) := by decide +kernel
theorem xdJ5_putStringAt_47b60_6 : decode cJ5_putStringAt_47b60 6 = .ok (.aload_n 0, 1) := by decide +kernel
theorem xdJ5_putStringAt_47b60_7 : decode cJ5_putStringAt_47b60 7 = .ok (.getfield 15, 3) := by decide +kernel
theorem xdJ5_putStringAt_47b60_10 : decode cJ5_putStringAt_47b60 10 = .ok (.iload_n 1, 1) := by decide +kernel
theorem xdJ5_putStringAt_47b60_11 : decode cJ5_putStringAt_47b60 11 = .ok (.aload_n 0, 1) := by decide +kernel
theorem xdJ5_putStringAt_47b60_12 : decode cJ5_putStringAt_47b60 12 = .ok (.getfield 22, 3) := by decide +kernel
theorem xdJ5_putStringAt_47b60_15 : decode cJ5_putStringAt_47b60 15 = .ok (.invokevirtual 399, 3) := by decide +kernel
theorem xw_63 : (.code yJ0_getBytes_840e7 cJ0_getBytes_840e7 4 none : Cond) ∈ tw_W := tw_in (t8_7 (List.mem_of_getElem? (i := 24) rfl)) rfl
theorem xw_64 : ∀ w ∈ ([.methodLink RJ5 399 yJ0_getBytes_840e7, .instanceMethod yJ0_getBytes_840e7, .selects "java/lang/String" yJ0_getBytes_840e7 yJ0_getBytes_840e7, .initialized "java/lang/String"] : List Cond), w ∈ tw_W := al_c (tw_in (t8_7 (List.mem_of_getElem? (i := 21) rfl)) rfl) (al_c (tw_in (t8_7 (List.mem_of_getElem? (i := 22) rfl)) rfl) (al_c (tw_in (t8_7 (List.mem_of_getElem? (i := 23) rfl)) rfl) (al_c (tw_in (t8_1 (List.mem_of_getElem? (i := 6) rfl)) rfl) al_n)))
theorem xdJ5_putStringAt_47b60_18 : decode cJ5_putStringAt_47b60 18 = .ok (.return_, 1) := by decide +kernel
theorem xdJ5_append_cf1ce_0 : decode cJ5_append_cf1ce 0 = .ok (.aload_n 1, 1) := by decide +kernel
theorem xdJ5_append_cf1ce_1 : decode cJ5_append_cf1ce 1 = .ok (.ifnonnull 8, 3) := by decide +kernel
theorem xdJ5_append_cf1ce_9 : decode cJ5_append_cf1ce 9 = .ok (.aload_n 1, 1) := by decide +kernel
theorem xdJ5_append_cf1ce_10 : decode cJ5_append_cf1ce 10 = .ok (.invokevirtual 32, 3) := by decide +kernel
theorem xw_65 : (.code yJ0_length_8abf5 cJ0_length_8abf5 1 (some .int) : Cond) ∈ tw_W := tw_in (t8_3 (List.mem_of_getElem? (i := 14) rfl)) rfl
theorem xw_66 : ∀ w ∈ ([.methodLink RJ5 32 yJ0_length_8abf5, .instanceMethod yJ0_length_8abf5, .selects "java/lang/String" yJ0_length_8abf5 yJ0_length_8abf5, .initialized "java/lang/String"] : List Cond), w ∈ tw_W := al_c (tw_in (t8_6 (List.mem_of_getElem? (i := 232) rfl)) rfl) (al_c (tw_in (t8_3 (List.mem_of_getElem? (i := 12) rfl)) rfl) (al_c (tw_in (t8_3 (List.mem_of_getElem? (i := 13) rfl)) rfl) (al_c (tw_in (t8_1 (List.mem_of_getElem? (i := 6) rfl)) rfl) al_n)))
theorem xdJ5_append_cf1ce_13 : decode cJ5_append_cf1ce 13 = .ok (.istore_n 2, 1) := by decide +kernel
theorem xdJ5_append_cf1ce_14 : decode cJ5_append_cf1ce 14 = .ok (.aload_n 0, 1) := by decide +kernel
theorem xdJ5_append_cf1ce_15 : decode cJ5_append_cf1ce 15 = .ok (.aload_n 0, 1) := by decide +kernel
theorem xdJ5_append_cf1ce_16 : decode cJ5_append_cf1ce 16 = .ok (.getfield 79, 3) := by decide +kernel
theorem xdJ5_append_cf1ce_19 : decode cJ5_append_cf1ce 19 = .ok (.iload_n 2, 1) := by decide +kernel
theorem xdJ5_append_cf1ce_20 : decode cJ5_append_cf1ce 20 = .ok (.iadd, 1) := by decide +kernel
theorem xdJ5_append_cf1ce_21 : decode cJ5_append_cf1ce 21 = .ok (.invokevirtual 100, 3) := by decide +kernel
theorem xdJ5_append_cf1ce_24 : decode cJ5_append_cf1ce 24 = .ok (.aload_n 0, 1) := by decide +kernel
theorem xdJ5_append_cf1ce_25 : decode cJ5_append_cf1ce 25 = .ok (.aload_n 0, 1) := by decide +kernel
theorem xdJ5_append_cf1ce_26 : decode cJ5_append_cf1ce 26 = .ok (.getfield 79, 3) := by decide +kernel
theorem xdJ5_append_cf1ce_29 : decode cJ5_append_cf1ce 29 = .ok (.aload_n 1, 1) := by decide +kernel
theorem xdJ5_append_cf1ce_30 : decode cJ5_append_cf1ce 30 = .ok (.invokevirtual 208, 3) := by decide +kernel
theorem xw_67 : (.code yJ5_putStringAt_47b60 cJ5_putStringAt_47b60 3 none : Cond) ∈ tw_W := tw_in (t8_6 (List.mem_of_getElem? (i := 236) rfl)) rfl
theorem xw_68 : (.methodLink RJ5 208 yJ5_putStringAt_47b60 : Cond) ∈ tw_W := tw_in (t8_6 (List.mem_of_getElem? (i := 233) rfl)) rfl
theorem xw_69 : (.sameMethod yJ5_putStringAt_47b60.cls yJ5_putStringAt_47b60.cls yJ5_putStringAt_47b60.name yJ5_putStringAt_47b60.desc : Cond) ∈ tw_W := tw_in (t8_13 (List.mem_of_getElem? (i := 87) rfl)) rfl
theorem xw_70 : (.instanceMethod yJ5_putStringAt_47b60 : Cond) ∈ tw_W := tw_in (t8_6 (List.mem_of_getElem? (i := 235) rfl)) rfl
theorem xw_71 : (.initialized yJ5_putStringAt_47b60.cls : Cond) ∈ tw_W := tw_in (t8_1 (List.mem_of_getElem? (i := 4) rfl)) rfl
theorem xdJ5_append_cf1ce_33 : decode cJ5_append_cf1ce 33 = .ok (.aload_n 0, 1) := by decide +kernel
theorem xdJ5_append_cf1ce_34 : decode cJ5_append_cf1ce 34 = .ok (.dup, 1) := by decide +kernel
theorem xdJ5_append_cf1ce_35 : decode cJ5_append_cf1ce 35 = .ok (.getfield 79, 3) := by decide +kernel
theorem xdJ5_append_cf1ce_38 : decode cJ5_append_cf1ce 38 = .ok (.iload_n 2, 1) := by decide +kernel
theorem xdJ5_append_cf1ce_39 : decode cJ5_append_cf1ce 39 = .ok (.iadd, 1) := by decide +kernel
theorem xdJ5_append_cf1ce_40 : decode cJ5_append_cf1ce 40 = .ok (.putfield 79, 3) := by decide +kernel
theorem xdJ5_append_cf1ce_43 : decode cJ5_append_cf1ce 43 = .ok (.aload_n 0, 1) := by decide +kernel
theorem xdJ5_append_cf1ce_44 : decode cJ5_append_cf1ce 44 = .ok (.areturn, 1) := by decide +kernel
theorem xdJ4_append_15ec4_0 : decode cJ4_append_15ec4 0 = .ok (.aload_n 0, 1) := by decide +kernel
theorem xdJ4_append_15ec4_1 : decode cJ4_append_15ec4 1 = .ok (.aload_n 1, 1) := by decide +kernel
theorem xdJ4_append_15ec4_2 : decode cJ4_append_15ec4 2 = .ok (.invokespecial 29, 3) := by decide +kernel
theorem xw_72 : (.code yJ5_append_cf1ce cJ5_append_cf1ce 3 (some (.object "java/lang/AbstractStringBuilder")) : Cond) ∈ tw_W := tw_in (t8_6 (List.mem_of_getElem? (i := 178) rfl)) rfl
theorem xw_73 : ∀ w ∈ ([.methodLink RJ4 29 yJ5_append_cf1ce, .sameMethod yJ5_append_cf1ce.cls yJ5_append_cf1ce.cls yJ5_append_cf1ce.name yJ5_append_cf1ce.desc, .superclass RJ4 yJ5_append_cf1ce.cls, .instanceMethod yJ5_append_cf1ce, .initialized yJ5_append_cf1ce.cls] : List Cond), w ∈ tw_W := al_c (tw_in (t8_6 (List.mem_of_getElem? (i := 176) rfl)) rfl) (al_c (tw_in (t8_13 (List.mem_of_getElem? (i := 83) rfl)) rfl) (al_c (tw_in (t8_1 (List.mem_of_getElem? (i := 98) rfl)) rfl) (al_c (tw_in (t8_6 (List.mem_of_getElem? (i := 177) rfl)) rfl) (al_c (tw_in (t8_1 (List.mem_of_getElem? (i := 4) rfl)) rfl) al_n))))
theorem xdJ4_append_15ec4_5 : decode cJ4_append_15ec4 5 = .ok (.pop, 1) := by decide +kernel
theorem xdJ4_append_15ec4_6 : decode cJ4_append_15ec4 6 = .ok (.aload_n 0, 1) := by decide +kernel
theorem xdJ4_append_15ec4_7 : decode cJ4_append_15ec4 7 = .ok (.areturn, 1) := by decide +kernel
theorem xdJ5_setLength_d00df_0 : decode cJ5_setLength_d00df 0 = .ok (.iload_n 1, 1) := by decide +kernel
theorem xdJ5_setLength_d00df_1 : decode cJ5_setLength_d00df 1 = .ok (.ifCond .ge 12, 3) := by decide +kernel
theorem xdJ5_setLength_d00df_13 : decode cJ5_setLength_d00df 13 = .ok (.aload_n 0, 1) := by decide +kernel
theorem xdJ5_setLength_d00df_14 : decode cJ5_setLength_d00df 14 = .ok (.iload_n 1, 1) := by decide +kernel
theorem xdJ5_setLength_d00df_15 : decode cJ5_setLength_d00df 15 = .ok (.invokevirtual 100, 3) := by decide +kernel
theorem xdJ5_setLength_d00df_18 : decode cJ5_setLength_d00df 18 = .ok (.aload_n 0, 1) := by decide +kernel
theorem xdJ5_setLength_d00df_19 : decode cJ5_setLength_d00df 19 = .ok (.getfield 79, 3) := by decide +kernel
theorem xdJ5_setLength_d00df_22 : decode cJ5_setLength_d00df 22 = .ok (.iload_n 1, 1) := by decide +kernel
theorem xdJ5_setLength_d00df_23 : decode cJ5_setLength_d00df 23 = .ok (.if_icmp .ge 40, 3) := by decide +kernel
theorem xdJ5_setLength_d00df_63 : decode cJ5_setLength_d00df 63 = .ok (.aload_n 0, 1) := by decide +kernel
theorem xdJ5_setLength_d00df_64 : decode cJ5_setLength_d00df 64 = .ok (.getfield 79, 3) := by decide +kernel
theorem xdJ5_setLength_d00df_67 : decode cJ5_setLength_d00df 67 = .ok (.iload_n 1, 1) := by decide +kernel
theorem xdJ5_setLength_d00df_68 : decode cJ5_setLength_d00df 68 = .ok (.if_icmp .le 8, 3) := by decide +kernel
theorem xdJ5_setLength_d00df_76 : decode cJ5_setLength_d00df 76 = .ok (.aload_n 0, 1) := by decide +kernel
theorem xdJ5_setLength_d00df_77 : decode cJ5_setLength_d00df 77 = .ok (.iload_n 1, 1) := by decide +kernel
theorem xdJ5_setLength_d00df_78 : decode cJ5_setLength_d00df 78 = .ok (.putfield 79, 3) := by decide +kernel
theorem xdJ5_setLength_d00df_81 : decode cJ5_setLength_d00df 81 = .ok (.return_, 1) := by decide +kernel
theorem xdJ5_setLength_d00df_71 : decode cJ5_setLength_d00df 71 = .ok (.aload_n 0, 1) := by decide +kernel
theorem xdJ5_setLength_d00df_72 : decode cJ5_setLength_d00df 72 = .ok (.iconst 1, 1) := by decide +kernel
theorem xdJ5_setLength_d00df_73 : decode cJ5_setLength_d00df 73 = .ok (.putfield 73, 3) := by decide +kernel
theorem xw_74 : (.fieldLink RJ5 73 "java/lang/AbstractStringBuilder" "maybeLatin1" "Z" : Cond) ∈ tw_W := tw_in (t8_1 (List.mem_of_getElem? (i := 87) rfl)) rfl
theorem xdJ4_setLength_d00df_0 : decode cJ4_setLength_d00df 0 = .ok (.aload_n 0, 1) := by decide +kernel
theorem xdJ4_setLength_d00df_1 : decode cJ4_setLength_d00df 1 = .ok (.iload_n 1, 1) := by decide +kernel
theorem xdJ4_setLength_d00df_2 : decode cJ4_setLength_d00df 2 = .ok (.invokespecial 333, 3) := by decide +kernel
theorem xw_75 : (.code yJ5_setLength_d00df cJ5_setLength_d00df 2 none : Cond) ∈ tw_W := tw_in (t8_6 (List.mem_of_getElem? (i := 163) rfl)) rfl
theorem xw_76 : ∀ w ∈ ([.methodLink RJ4 333 yJ5_setLength_d00df, .sameMethod yJ5_setLength_d00df.cls yJ5_setLength_d00df.cls yJ5_setLength_d00df.name yJ5_setLength_d00df.desc, .superclass RJ4 yJ5_setLength_d00df.cls, .instanceMethod yJ5_setLength_d00df, .initialized yJ5_setLength_d00df.cls] : List Cond), w ∈ tw_W := al_c (tw_in (t8_6 (List.mem_of_getElem? (i := 161) rfl)) rfl) (al_c (tw_in (t8_13 (List.mem_of_getElem? (i := 82) rfl)) rfl) (al_c (tw_in (t8_1 (List.mem_of_getElem? (i := 98) rfl)) rfl) (al_c (tw_in (t8_6 (List.mem_of_getElem? (i := 162) rfl)) rfl) (al_c (tw_in (t8_1 (List.mem_of_getElem? (i := 4) rfl)) rfl) al_n))))
theorem xdJ4_setLength_d00df_5 : decode cJ4_setLength_d00df 5 = .ok (.return_, 1) := by decide +kernel
theorem xdJ5_length_8abf5_0 : decode cJ5_length_8abf5 0 = .ok (.aload_n 0, 1) := by decide +kernel
theorem xdJ5_length_8abf5_1 : decode cJ5_length_8abf5 1 = .ok (.getfield 79, 3) := by decide +kernel
theorem xdJ5_length_8abf5_4 : decode cJ5_length_8abf5 4 = .ok (.ireturn, 1) := by decide +kernel
theorem xdJ4_length_8abf5_0 : decode cJ4_length_8abf5 0 = .ok (.aload_n 0, 1) := by decide +kernel
theorem xdJ4_length_8abf5_1 : decode cJ4_length_8abf5 1 = .ok (.invokespecial 343, 3) := by decide +kernel
theorem xw_77 : (.code yJ5_length_8abf5 cJ5_length_8abf5 1 (some .int) : Cond) ∈ tw_W := tw_in (t8_7 (List.mem_of_getElem? (i := 77) rfl)) rfl
theorem xw_78 : ∀ w ∈ ([.methodLink RJ4 343 yJ5_length_8abf5, .sameMethod yJ5_length_8abf5.cls yJ5_length_8abf5.cls yJ5_length_8abf5.name yJ5_length_8abf5.desc, .superclass RJ4 yJ5_length_8abf5.cls, .instanceMethod yJ5_length_8abf5, .initialized yJ5_length_8abf5.cls] : List Cond), w ∈ tw_W := al_c (tw_in (t8_7 (List.mem_of_getElem? (i := 76) rfl)) rfl) (al_c (tw_in (t8_7 (List.mem_of_getElem? (i := 72) rfl)) rfl) (al_c (tw_in (t8_1 (List.mem_of_getElem? (i := 98) rfl)) rfl) (al_c (tw_in (t8_7 (List.mem_of_getElem? (i := 71) rfl)) rfl) (al_c (tw_in (t8_1 (List.mem_of_getElem? (i := 4) rfl)) rfl) al_n))))
theorem xdJ4_length_8abf5_4 : decode cJ4_length_8abf5 4 = .ok (.ireturn, 1) := by decide +kernel
theorem xdJ5_charAt_5068e_0 : decode cJ5_charAt_5068e 0 = .ok (.aload_n 0, 1) := by decide +kernel
theorem xdJ5_charAt_5068e_1 : decode cJ5_charAt_5068e 1 = .ok (.getfield 22, 3) := by decide +kernel
theorem xdJ5_charAt_5068e_4 : decode cJ5_charAt_5068e 4 = .ok (.istore_n 2, 1) := by decide +kernel
theorem xdJ5_charAt_5068e_5 : decode cJ5_charAt_5068e 5 = .ok (.aload_n 0, 1) := by decide +kernel
theorem xdJ5_charAt_5068e_6 : decode cJ5_charAt_5068e 6 = .ok (.getfield 15, 3) := by decide +kernel
theorem xdJ5_charAt_5068e_9 : decode cJ5_charAt_5068e 9 = .ok (.astore_n 3, 1) := by decide +kernel
theorem xdJ5_charAt_5068e_10 : decode cJ5_charAt_5068e 10 = .ok (.aload_n 0, 1) := by decide +kernel
theorem xdJ5_charAt_5068e_11 : decode cJ5_charAt_5068e 11 = .ok (.getfield 79, 3) := by decide +kernel
theorem xdJ5_charAt_5068e_14 : decode cJ5_charAt_5068e 14 = .ok (.aload_n 3, 1) := by decide +kernel
theorem xdJ5_charAt_5068e_15 : decode cJ5_charAt_5068e 15 = .ok (.arraylength, 1) := by decide +kernel
theorem xdJ5_charAt_5068e_16 : decode cJ5_charAt_5068e 16 = .ok (.iload_n 2, 1) := by decide +kernel
theorem xdJ5_charAt_5068e_17 : decode cJ5_charAt_5068e 17 = .ok (.ishr, 1) := by decide +kernel
theorem xdJ5_charAt_5068e_18 : decode cJ5_charAt_5068e 18 = .ok (.invokestatic 138, 3) := by decide +kernel
theorem xw_79 : (.methodLink RJ5 138 Lib.Math.min.name : Cond) ∈ tw_W := tw_in (t8_8 (List.mem_of_getElem? (i := 5) rfl)) rfl
theorem xdJ5_charAt_5068e_21 : decode cJ5_charAt_5068e 21 = .ok (.istore 4, 2) := by decide +kernel
theorem xdJ5_charAt_5068e_23 : decode cJ5_charAt_5068e 23 = .ok (.iload_n 1, 1) := by decide +kernel
theorem xdJ5_charAt_5068e_24 : decode cJ5_charAt_5068e 24 = .ok (.iload 4, 2) := by decide +kernel
theorem xdJ5_charAt_5068e_26 : decode cJ5_charAt_5068e 26 = .ok (.invokestatic 144, 3) := by decide +kernel
theorem xw_80 : ∀ w ∈ ([.methodLink RJ5 144 yJ0_checkIndex_df160, .static yJ0_checkIndex_df160, .initialized yJ0_checkIndex_df160.cls] : List Cond), w ∈ tw_W := al_c (tw_in (t8_8 (List.mem_of_getElem? (i := 6) rfl)) rfl) (al_c (tw_in (t8_3 (List.mem_of_getElem? (i := 36) rfl)) rfl) (al_c (tw_in (t8_1 (List.mem_of_getElem? (i := 6) rfl)) rfl) al_n))
theorem xdJ5_charAt_5068e_29 : decode cJ5_charAt_5068e 29 = .ok (.iload_n 2, 1) := by decide +kernel
theorem xdJ5_charAt_5068e_30 : decode cJ5_charAt_5068e 30 = .ok (.ifCond .ne 12, 3) := by decide +kernel
theorem xdJ5_charAt_5068e_33 : decode cJ5_charAt_5068e 33 = .ok (.aload_n 3, 1) := by decide +kernel
theorem xdJ5_charAt_5068e_34 : decode cJ5_charAt_5068e 34 = .ok (.iload_n 1, 1) := by decide +kernel
theorem xdJ5_charAt_5068e_35 : decode cJ5_charAt_5068e 35 = .ok (.baload, 1) := by decide +kernel
theorem xdJ5_charAt_5068e_36 : decode cJ5_charAt_5068e 36 = .ok (.sipush 255, 3) := by decide +kernel
theorem xdJ5_charAt_5068e_39 : decode cJ5_charAt_5068e 39 = .ok (.iand, 1) := by decide +kernel
theorem xdJ5_charAt_5068e_40 : decode cJ5_charAt_5068e 40 = .ok (.i2c, 1) := by decide +kernel
theorem xdJ5_charAt_5068e_41 : decode cJ5_charAt_5068e 41 = .ok (.ireturn, 1) := by decide +kernel
theorem xdJ4_charAt_5068e_0 : decode cJ4_charAt_5068e 0 = .ok (.aload_n 0, 1) := by decide +kernel
theorem xdJ4_charAt_5068e_1 : decode cJ4_charAt_5068e 1 = .ok (.iload_n 1, 1) := by decide +kernel
theorem xdJ4_charAt_5068e_2 : decode cJ4_charAt_5068e 2 = .ok (.invokespecial 329, 3) := by decide +kernel
theorem xw_81 : (.code yJ5_charAt_5068e cJ5_charAt_5068e 5 (some .char) : Cond) ∈ tw_W := tw_in (t8_8 (List.mem_of_getElem? (i := 4) rfl)) rfl
theorem xw_82 : ∀ w ∈ ([.methodLink RJ4 329 yJ5_charAt_5068e, .sameMethod yJ5_charAt_5068e.cls yJ5_charAt_5068e.cls yJ5_charAt_5068e.name yJ5_charAt_5068e.desc, .superclass RJ4 yJ5_charAt_5068e.cls, .instanceMethod yJ5_charAt_5068e, .initialized yJ5_charAt_5068e.cls] : List Cond), w ∈ tw_W := al_c (tw_in (t8_8 (List.mem_of_getElem? (i := 2) rfl)) rfl) (al_c (tw_in (t8_13 (List.mem_of_getElem? (i := 93) rfl)) rfl) (al_c (tw_in (t8_1 (List.mem_of_getElem? (i := 98) rfl)) rfl) (al_c (tw_in (t8_8 (List.mem_of_getElem? (i := 3) rfl)) rfl) (al_c (tw_in (t8_1 (List.mem_of_getElem? (i := 4) rfl)) rfl) al_n))))
theorem xdJ4_charAt_5068e_5 : decode cJ4_charAt_5068e 5 = .ok (.ireturn, 1) := by decide +kernel
set_option maxHeartbeats 16000000 in
set_option maxRecDepth 100000 in
/-- String.coder -/
theorem c_sx_coder (l : Launch) (dC : Nat → ClassId) (dI : Nat → Nat → Nat) (cI cB cZ cJ cR : ClassId) (tb : Nat → Nat) (sz : Nat) (i : Nat) (hi : i < 66) : Met l yJ0_coder_7d493 (Cond.code yJ0_coder_7d493 cJ0_coder_7d493 1 (some .byte) :: tw_W) ({ frames := 0, cells := 0, slots := 0, locals := 0 }) (pc_ (dC, dI) (tyS cI cB cZ cJ cR) tb [] sz [.ref (tb (100 + i))]) (qi_ (dC, dI) [] sz (fun (r : Int32) (u : Unit) => r = 0) (fun (u : Unit) => [])) 0 0 (va_A [] sz) := by
  refine Met.ofW (cc := cJ0_coder_7d493) (maxL := 1) (ret := (some .byte)) (by decide) rfl ?_
  intro p e s m9 args below meth c s₁ B hml hv
  obtain ⟨rfl, hsz, hP, hKK, hD0, hFx⟩ := hv
  have hK := hKK.1
  have hx := B.exec
  have hb := B.bytes
  have hr := B.returns
  have ht : ∀ w ∈ tw_W, w.before _ s = true := fun w h => atoms_spec (ws := Cond.code yJ0_coder_7d493 cJ0_coder_7d493 1 (some .byte) :: tw_W) B.pre w (List.mem_cons_of_mem _ h)
  have hown : s.vm.findClass RJ0 = some m9.cls := findClass_of_methodNamed B.named
  have hlocks := B.notSynchronized
  subst hsz
  unfold qi_
  have hD := hD0.self (sz := s.heap.size)
  generalize hAe : va_A [] s.heap.size = A at hD hFx ⊢
  have hA : ∀ q : Nat, s.heap.size ≤ q → A q := fun q h => by rw [← hAe]; exact Or.inr h
  have hS : va_S A s.heap s.heap [] := va_S.rf
  have hP : va_P (dC, dI) vwCl [] s.heap := hP
  have hl := lv_entry ([.ref (tb (100 + i))]) (n := 1) (Nat.le_of_ble_eq_true rfl)
  rw [lg_entry_eq]
  generalize (lg_sl ([.ref (tb (100 + i))]) ++ List.replicate (1 - (lg_sl ([.ref (tb (100 + i))])).length) Slot.unset).toArray = ls at hl ⊢
  have hl : lv_has ls 1 [(0, .ref (tb (100 + i)))] := hl
  refine va_gets hx hb hFx.1 hS hown (ht _ xw_0) (fun _ h9 => h9) xdJ0_coder_7d493_0 ?_
  refine lv_if_eq (tgt := 13) hx hb xdJ0_coder_7d493_3 (by decide) (fun k1 => absurd k1 (by decide)) (fun _ => ?_)
  refine lv_aload_n hx hb xdJ0_coder_7d493_6 rfl (lv_at hl 0 rfl) ?_
  refine vk_getf hx hb (hFx.2.2.2.2.2.2.1 i (by assumption)).2.1 hS hown (ht _ xw_1) (fun _ h9 => h9) xdJ0_coder_7d493_7 ?_
  refine lv_goto (tgt := 14) hx hb xdJ0_coder_7d493_10 (by decide) ?_
  have hP9 := hP.sub (ws' := []) [] rfl
  have hD9 := hD.sub (ws' := []) [] (by decide) rfl
  refine W.widen (k := 0) (n := 0) (by omega) (by omega) ?_
  exact W.zret (v := 0) hx hb hr rfl (fun t ht9 hW => ⟨⟨0, (), rfl, rfl, by rw [ht9]; exact hP9, hD9⟩, hS.F ht9⟩) hS.2.2 xdJ0_coder_7d493_14
set_option maxHeartbeats 16000000 in
set_option maxRecDepth 100000 in
/-- String.isLatin1 -/
theorem c_sx_strLat (l : Launch) (dC : Nat → ClassId) (dI : Nat → Nat → Nat) (cI cB cZ cJ cR : ClassId) (tb : Nat → Nat) (sz : Nat) (i : Nat) (hi : i < 66) : Met l yJ0_isLatin1_aae02 (Cond.code yJ0_isLatin1_aae02 cJ0_isLatin1_aae02 1 (some .boolean) :: tw_W) ({ frames := 0, cells := 0, slots := 0, locals := 0 }) (pc_ (dC, dI) (tyS cI cB cZ cJ cR) tb [] sz [.ref (tb (100 + i))]) (qi_ (dC, dI) [] sz (fun (r : Int32) (u : Unit) => r = 1) (fun (u : Unit) => [])) 0 0 (va_A [] sz) := by
  refine Met.ofW (cc := cJ0_isLatin1_aae02) (maxL := 1) (ret := (some .boolean)) (by decide) rfl ?_
  intro p e s m9 args below meth c s₁ B hml hv
  obtain ⟨rfl, hsz, hP, hKK, hD0, hFx⟩ := hv
  have hK := hKK.1
  have hx := B.exec
  have hb := B.bytes
  have hr := B.returns
  have ht : ∀ w ∈ tw_W, w.before _ s = true := fun w h => atoms_spec (ws := Cond.code yJ0_isLatin1_aae02 cJ0_isLatin1_aae02 1 (some .boolean) :: tw_W) B.pre w (List.mem_cons_of_mem _ h)
  have hown : s.vm.findClass RJ0 = some m9.cls := findClass_of_methodNamed B.named
  have hlocks := B.notSynchronized
  subst hsz
  unfold qi_
  have hD := hD0.self (sz := s.heap.size)
  generalize hAe : va_A [] s.heap.size = A at hD hFx ⊢
  have hA : ∀ q : Nat, s.heap.size ≤ q → A q := fun q h => by rw [← hAe]; exact Or.inr h
  have hS : va_S A s.heap s.heap [] := va_S.rf
  have hP : va_P (dC, dI) vwCl [] s.heap := hP
  have hl := lv_entry ([.ref (tb (100 + i))]) (n := 1) (Nat.le_of_ble_eq_true rfl)
  rw [lg_entry_eq]
  generalize (lg_sl ([.ref (tb (100 + i))]) ++ List.replicate (1 - (lg_sl ([.ref (tb (100 + i))])).length) Slot.unset).toArray = ls at hl ⊢
  have hl : lv_has ls 1 [(0, .ref (tb (100 + i)))] := hl
  refine va_gets hx hb hFx.1 hS hown (ht _ xw_0) (fun _ h9 => h9) xdJ0_isLatin1_aae02_0 ?_
  refine lv_if_eq (tgt := 17) hx hb xdJ0_isLatin1_aae02_3 (by decide) (fun k1 => absurd k1 (by decide)) (fun _ => ?_)
  refine lv_aload_n hx hb xdJ0_isLatin1_aae02_6 rfl (lv_at hl 0 rfl) ?_
  refine vk_getf hx hb (hFx.2.2.2.2.2.2.1 i (by assumption)).2.1 hS hown (ht _ xw_1) (fun _ h9 => h9) xdJ0_isLatin1_aae02_7 ?_
  refine lv_if_ne (tgt := 17) hx hb xdJ0_isLatin1_aae02_10 (by decide) (fun k2 => absurd k2 (by decide)) (fun _ => ?_)
  refine lv_iconst (v := 1) hx hb xdJ0_isLatin1_aae02_13 (by decide) ?_
  refine lv_goto (tgt := 18) hx hb xdJ0_isLatin1_aae02_14 (by decide) ?_
  have hP9 := hP.sub (ws' := []) [] rfl
  have hD9 := hD.sub (ws' := []) [] (by decide) rfl
  refine W.widen (k := 0) (n := 0) (by omega) (by omega) ?_
  exact W.zret (v := 1) hx hb hr rfl (fun t ht9 hW => ⟨⟨1, (), rfl, rfl, by rw [ht9]; exact hP9, hD9⟩, hS.F ht9⟩) hS.2.2 xdJ0_isLatin1_aae02_18
set_option maxHeartbeats 16000000 in
set_option maxRecDepth 100000 in
/-- String.length -/
theorem c_sx_strLen (l : Launch) (dC : Nat → ClassId) (dI : Nat → Nat → Nat) (cI cB cZ cJ cR : ClassId) (tb : Nat → Nat) (sz : Nat) (i : Nat) (hi : i < 66) : Met l yJ0_length_8abf5 (Cond.code yJ0_length_8abf5 cJ0_length_8abf5 1 (some .int) :: tw_W) ({ frames := 1, cells := 0, slots := 0, locals := 20 }) (pc_ (dC, dI) (tyS cI cB cZ cJ cR) tb [] sz [.ref (tb (100 + i))]) (qi_ (dC, dI) [] sz (fun (r : Int32) (u : Unit) => r = nI (lenS.getD i 0)) (fun (u : Unit) => [])) 0 0 (va_A [] sz) := by
  refine Met.ofW (cc := cJ0_length_8abf5) (maxL := 1) (ret := (some .int)) (by decide) rfl ?_
  intro p e s m9 args below meth c s₁ B hml hv
  obtain ⟨rfl, hsz, hP, hKK, hD0, hFx⟩ := hv
  have hK := hKK.1
  have hx := B.exec
  have hb := B.bytes
  have hr := B.returns
  have ht : ∀ w ∈ tw_W, w.before _ s = true := fun w h => atoms_spec (ws := Cond.code yJ0_length_8abf5 cJ0_length_8abf5 1 (some .int) :: tw_W) B.pre w (List.mem_cons_of_mem _ h)
  have hown : s.vm.findClass RJ0 = some m9.cls := findClass_of_methodNamed B.named
  have hlocks := B.notSynchronized
  subst hsz
  unfold qi_
  have hD := hD0.self (sz := s.heap.size)
  generalize hAe : va_A [] s.heap.size = A at hD hFx ⊢
  have hA : ∀ q : Nat, s.heap.size ≤ q → A q := fun q h => by rw [← hAe]; exact Or.inr h
  have hS : va_S A s.heap s.heap [] := va_S.rf
  have hP : va_P (dC, dI) vwCl [] s.heap := hP
  have hl := lv_entry ([.ref (tb (100 + i))]) (n := 1) (Nat.le_of_ble_eq_true rfl)
  rw [lg_entry_eq]
  generalize (lg_sl ([.ref (tb (100 + i))]) ++ List.replicate (1 - (lg_sl ([.ref (tb (100 + i))])).length) Slot.unset).toArray = ls at hl ⊢
  have hl : lv_has ls 1 [(0, .ref (tb (100 + i)))] := hl
  refine lv_aload_n hx hb xdJ0_length_8abf5_0 rfl (lv_at hl 0 rfl) ?_
  refine vk_getf hx hb (hFx.2.2.2.2.2.2.1 i (by assumption)).2.2.1 hS hown (ht _ xw_2) (fun _ h9 => h9) xdJ0_length_8abf5_1 ?_
  refine va_tlen (v := (nI (lenS.getD i 0))) hx hb (hFx.2.2.2.2.2.2.1 i (by assumption)).2.2.2 hS rfl xdJ0_length_8abf5_4 ?_
  refine lv_aload_n hx hb xdJ0_length_8abf5_5 rfl (lv_at hl 0 rfl) ?_
  refine ca_i (wr := []) (rn_VS (n := 0) (As := []) (rest := [.int (nI (lenS.getD i 0))]) hx hb hml hown ht hKK hFx hP hD hS hA (i := i) (by assumption) (c_sx_coder l dC dI cI cB cZ cJ cR tb s.heap.size i (by first | assumption | omega | rfl | exact sb_fit0)) xw_3 xw_4 (by decide +kernel) rfl rfl ⟨Nat.le_of_ble_eq_true rfl, Nat.le_of_ble_eq_true rfl⟩ [] rfl (by decide) rfl hl.1 rfl (Nat.le_of_ble_eq_true rfl) xdJ0_length_8abf5_6 ⟨Nat.le_of_ble_eq_true rfl, Nat.le_of_ble_eq_true rfl⟩) hP hD hS hA (isC := []) (isR := []) rfl rfl (by decide) (by decide) (fun r2 u H locs hw1 hP hD hS => ?_)
  subst hw1
  have hP : va_P (dC, dI) vwCl [] H := hP
  have hD : va_D A [] := hD
  refine W.widen (k := 0) (n := 0) (by omega) (by omega) ?_
  refine lv_ishr hx hb xdJ0_length_8abf5_9 ?_
  refine tp_i (y := (nI (lenS.getD i 0))) (sb_shr0 _) ?_
  have hP9 := hP.sub (ws' := []) [] rfl
  have hD9 := hD.sub (ws' := []) [] (by decide) rfl
  refine W.widen (k := 0) (n := 0) (by omega) (by omega) ?_
  exact W.iret (v := (nI (lenS.getD i 0))) hx hb hr (fun t ht9 hW => ⟨⟨(nI (lenS.getD i 0)), (), rfl, rfl, by rw [ht9]; exact hP9, hD9⟩, hS.F ht9⟩) hS.2.2 xdJ0_length_8abf5_10
set_option maxHeartbeats 16000000 in
set_option maxRecDepth 100000 in
/-- Preconditions.checkIndex -/
theorem c_sx_pchkR (l : Launch) (dC : Nat → ClassId) (dI : Nat → Nat → Nat) (cI cB cZ cJ cR : ClassId) (tb : Nat → Nat) (sz : Nat) (k : Nat) (n : Nat) (o : Nat) (hk : k < n) (hn : n < 100000) : Met l yJ3_checkIndex_8e157 (Cond.code yJ3_checkIndex_8e157 cJ3_checkIndex_8e157 3 (some .int) :: tw_W) ({ frames := 0, cells := 0, slots := 0, locals := 0 }) (pc_ (dC, dI) (tyS cI cB cZ cJ cR) tb [] sz [.int (nI k), .int (nI n), .ref o]) (qi_ (dC, dI) [] sz (fun (r : Int32) (u : Unit) => r = nI k) (fun (u : Unit) => [])) 0 0 (va_A [] sz) := by
  refine Met.ofW (cc := cJ3_checkIndex_8e157) (maxL := 3) (ret := (some .int)) (by decide) rfl ?_
  intro p e s m9 args below meth c s₁ B hml hv
  obtain ⟨rfl, hsz, hP, hKK, hD0, hFx⟩ := hv
  have hK := hKK.1
  have hx := B.exec
  have hb := B.bytes
  have hr := B.returns
  have ht : ∀ w ∈ tw_W, w.before _ s = true := fun w h => atoms_spec (ws := Cond.code yJ3_checkIndex_8e157 cJ3_checkIndex_8e157 3 (some .int) :: tw_W) B.pre w (List.mem_cons_of_mem _ h)
  have hown : s.vm.findClass RJ3 = some m9.cls := findClass_of_methodNamed B.named
  have hlocks := B.notSynchronized
  subst hsz
  unfold qi_
  have hD := hD0.self (sz := s.heap.size)
  generalize hAe : va_A [] s.heap.size = A at hD hFx ⊢
  have hA : ∀ q : Nat, s.heap.size ≤ q → A q := fun q h => by rw [← hAe]; exact Or.inr h
  have hS : va_S A s.heap s.heap [] := va_S.rf
  have hP : va_P (dC, dI) vwCl [] s.heap := hP
  have hl := lv_entry ([.int (nI k), .int (nI n), .ref o]) (n := 3) (Nat.le_of_ble_eq_true rfl)
  rw [lg_entry_eq]
  generalize (lg_sl ([.int (nI k), .int (nI n), .ref o]) ++ List.replicate (3 - (lg_sl ([.int (nI k), .int (nI n), .ref o])).length) Slot.unset).toArray = ls at hl ⊢
  have hl : lv_has ls 3 [(0, .int (nI k)), (1, .int (nI n)), (2, .ref o)] := hl
  refine lv_iload_n hx hb xdJ3_checkIndex_8e157_0 rfl (lv_at hl 0 rfl) ?_
  refine lv_if_lt (tgt := 9) hx hb xdJ3_checkIndex_8e157_1 (by decide) (fun k1 => absurd k1 (show ¬ nI k < nI 0 from nI_nlt (by omega) (by omega))) (fun _ => ?_)
  refine lv_iload_n hx hb xdJ3_checkIndex_8e157_4 rfl (lv_at hl 0 rfl) ?_
  refine lv_iload_n hx hb xdJ3_checkIndex_8e157_5 rfl (lv_at hl 1 rfl) ?_
  refine lv_icmp_lt (tgt := 16) hx hb xdJ3_checkIndex_8e157_6 (by decide) (fun _ => ?_) (fun k2 => absurd (show nI k < nI n from nI_lt (by omega) (by omega)) k2)
  refine lv_iload_n hx hb xdJ3_checkIndex_8e157_16 rfl (lv_at hl 0 rfl) ?_
  have hP9 := hP.sub (ws' := []) [] rfl
  have hD9 := hD.sub (ws' := []) [] (by decide) rfl
  refine W.widen (k := 0) (n := 0) (by omega) (by omega) ?_
  exact W.iret (v := (nI k)) hx hb hr (fun t ht9 hW => ⟨⟨(nI k), (), rfl, rfl, by rw [ht9]; exact hP9, hD9⟩, hS.F ht9⟩) hS.2.2 xdJ3_checkIndex_8e157_17
set_option maxHeartbeats 16000000 in
set_option maxRecDepth 100000 in
/-- Preconditions.checkIndex -/
theorem c_sx_pchkN (l : Launch) (dC : Nat → ClassId) (dI : Nat → Nat → Nat) (cI cB cZ cJ cR : ClassId) (tb : Nat → Nat) (sz : Nat) (k : Nat) (n : Nat) (hk : k < n) (hn : n < 100000) : Met l yJ3_checkIndex_8e157 (Cond.code yJ3_checkIndex_8e157 cJ3_checkIndex_8e157 3 (some .int) :: tw_W) ({ frames := 0, cells := 0, slots := 0, locals := 0 }) (pc_ (dC, dI) (tyS cI cB cZ cJ cR) tb [] sz [.int (nI k), .int (nI n), .null]) (qi_ (dC, dI) [] sz (fun (r : Int32) (u : Unit) => r = nI k) (fun (u : Unit) => [])) 0 0 (va_A [] sz) := by
  refine Met.ofW (cc := cJ3_checkIndex_8e157) (maxL := 3) (ret := (some .int)) (by decide) rfl ?_
  intro p e s m9 args below meth c s₁ B hml hv
  obtain ⟨rfl, hsz, hP, hKK, hD0, hFx⟩ := hv
  have hK := hKK.1
  have hx := B.exec
  have hb := B.bytes
  have hr := B.returns
  have ht : ∀ w ∈ tw_W, w.before _ s = true := fun w h => atoms_spec (ws := Cond.code yJ3_checkIndex_8e157 cJ3_checkIndex_8e157 3 (some .int) :: tw_W) B.pre w (List.mem_cons_of_mem _ h)
  have hown : s.vm.findClass RJ3 = some m9.cls := findClass_of_methodNamed B.named
  have hlocks := B.notSynchronized
  subst hsz
  unfold qi_
  have hD := hD0.self (sz := s.heap.size)
  generalize hAe : va_A [] s.heap.size = A at hD hFx ⊢
  have hA : ∀ q : Nat, s.heap.size ≤ q → A q := fun q h => by rw [← hAe]; exact Or.inr h
  have hS : va_S A s.heap s.heap [] := va_S.rf
  have hP : va_P (dC, dI) vwCl [] s.heap := hP
  have hl := lv_entry ([.int (nI k), .int (nI n), .null]) (n := 3) (Nat.le_of_ble_eq_true rfl)
  rw [lg_entry_eq]
  generalize (lg_sl ([.int (nI k), .int (nI n), .null]) ++ List.replicate (3 - (lg_sl ([.int (nI k), .int (nI n), .null])).length) Slot.unset).toArray = ls at hl ⊢
  have hl : lv_has ls 3 [(0, .int (nI k)), (1, .int (nI n)), (2, .null)] := hl
  refine lv_iload_n hx hb xdJ3_checkIndex_8e157_0 rfl (lv_at hl 0 rfl) ?_
  refine lv_if_lt (tgt := 9) hx hb xdJ3_checkIndex_8e157_1 (by decide) (fun k1 => absurd k1 (show ¬ nI k < nI 0 from nI_nlt (by omega) (by omega))) (fun _ => ?_)
  refine lv_iload_n hx hb xdJ3_checkIndex_8e157_4 rfl (lv_at hl 0 rfl) ?_
  refine lv_iload_n hx hb xdJ3_checkIndex_8e157_5 rfl (lv_at hl 1 rfl) ?_
  refine lv_icmp_lt (tgt := 16) hx hb xdJ3_checkIndex_8e157_6 (by decide) (fun _ => ?_) (fun k2 => absurd (show nI k < nI n from nI_lt (by omega) (by omega)) k2)
  refine lv_iload_n hx hb xdJ3_checkIndex_8e157_16 rfl (lv_at hl 0 rfl) ?_
  have hP9 := hP.sub (ws' := []) [] rfl
  have hD9 := hD.sub (ws' := []) [] (by decide) rfl
  refine W.widen (k := 0) (n := 0) (by omega) (by omega) ?_
  exact W.iret (v := (nI k)) hx hb hr (fun t ht9 hW => ⟨⟨(nI k), (), rfl, rfl, by rw [ht9]; exact hP9, hD9⟩, hS.F ht9⟩) hS.2.2 xdJ3_checkIndex_8e157_17
set_option maxHeartbeats 16000000 in
set_option maxRecDepth 100000 in
/-- String.checkIndex -/
theorem c_sx_schk (l : Launch) (dC : Nat → ClassId) (dI : Nat → Nat → Nat) (cI cB cZ cJ cR : ClassId) (tb : Nat → Nat) (sz : Nat) (k : Nat) (n : Nat) (hk : k < n) (hn : n < 100000) : Met l yJ0_checkIndex_df160 (Cond.code yJ0_checkIndex_df160 cJ0_checkIndex_df160 2 none :: tw_W) ({ frames := 1, cells := 0, slots := 0, locals := 22 }) (pc_ (dC, dI) (tyS cI cB cZ cJ cR) tb [] sz [.int (nI k), .int (nI n)]) (qv_ (dC, dI) [] sz (fun (u : Unit) => True) (fun (u : Unit) => [])) 0 0 (va_A [] sz) := by
  refine Met.ofW (cc := cJ0_checkIndex_df160) (maxL := 2) (ret := none) (by decide) rfl ?_
  intro p e s m9 args below meth c s₁ B hml hv
  obtain ⟨rfl, hsz, hP, hKK, hD0, hFx⟩ := hv
  have hK := hKK.1
  have hx := B.exec
  have hb := B.bytes
  have hr := B.returns
  have ht : ∀ w ∈ tw_W, w.before _ s = true := fun w h => atoms_spec (ws := Cond.code yJ0_checkIndex_df160 cJ0_checkIndex_df160 2 none :: tw_W) B.pre w (List.mem_cons_of_mem _ h)
  have hown : s.vm.findClass RJ0 = some m9.cls := findClass_of_methodNamed B.named
  have hlocks := B.notSynchronized
  subst hsz
  unfold qv_
  have hD := hD0.self (sz := s.heap.size)
  generalize hAe : va_A [] s.heap.size = A at hD hFx ⊢
  have hA : ∀ q : Nat, s.heap.size ≤ q → A q := fun q h => by rw [← hAe]; exact Or.inr h
  have hS : va_S A s.heap s.heap [] := va_S.rf
  have hP : va_P (dC, dI) vwCl [] s.heap := hP
  have hl := lv_entry ([.int (nI k), .int (nI n)]) (n := 2) (Nat.le_of_ble_eq_true rfl)
  rw [lg_entry_eq]
  generalize (lg_sl ([.int (nI k), .int (nI n)]) ++ List.replicate (2 - (lg_sl ([.int (nI k), .int (nI n)])).length) Slot.unset).toArray = ls at hl ⊢
  have hl : lv_has ls 2 [(0, .int (nI k)), (1, .int (nI n))] := hl
  refine lv_iload_n hx hb xdJ0_checkIndex_df160_0 rfl (lv_at hl 0 rfl) ?_
  refine lv_iload_n hx hb xdJ0_checkIndex_df160_1 rfl (lv_at hl 1 rfl) ?_
  rcases hFx.2.2.2.1 with hz1 | ⟨q2, hz1⟩
  · refine va_gets hx hb hz1 hS hown (ht _ xw_5) (fun _ h9 => h9) xdJ0_checkIndex_df160_2 ?_
    refine ca_i (wr := []) (rn_S (n := 3) (As := [.int (nI k), .int (nI n), .null]) (rest := []) hx hb hml hown ht hKK hFx hP hD hS hA (c_sx_pchkN l dC dI cI cB cZ cJ cR tb s.heap.size k n (by first | assumption | omega | rfl | exact sb_fit0) (by first | assumption | omega | rfl | exact sb_fit0)) xw_6 xw_7 (by decide +kernel) rfl rfl ⟨Nat.le_of_ble_eq_true rfl, Nat.le_of_ble_eq_true rfl⟩ [] rfl (by decide) rfl hl.1 rfl (Nat.le_of_ble_eq_true rfl) xdJ0_checkIndex_df160_5 ⟨Nat.le_of_ble_eq_true rfl, Nat.le_of_ble_eq_true rfl⟩) hP hD hS hA (isC := []) (isR := []) rfl rfl (by decide) (by decide) (fun r4 u H locs hw3 hP hD hS => ?_)
    subst hw3
    have hP : va_P (dC, dI) vwCl [] H := hP
    have hD : va_D A [] := hD
    refine W.widen (k := 0) (n := 0) (by omega) (by omega) ?_
    refine lv_pop hx hb xdJ0_checkIndex_df160_8 rfl ?_
    have hP9 := hP.sub (ws' := []) [] rfl
    have hD9 := hD.sub (ws' := []) [] (by decide) rfl
    refine W.widen (k := 0) (n := 0) (by omega) (by omega) ?_
    exact W.vret hx hb hr (fun t ht9 hW => ⟨⟨(), rfl, trivial, by rw [ht9]; exact hP9, hD9⟩, hS.F ht9⟩) hS.2.2 xdJ0_checkIndex_df160_9
  · refine va_gets hx hb hz1 hS hown (ht _ xw_5) (fun _ h9 => h9) xdJ0_checkIndex_df160_2 ?_
    refine ca_i (wr := []) (rn_S (n := 3) (As := [.int (nI k), .int (nI n), .ref q2]) (rest := []) hx hb hml hown ht hKK hFx hP hD hS hA (c_sx_pchkR l dC dI cI cB cZ cJ cR tb s.heap.size k n q2 (by first | assumption | omega | rfl | exact sb_fit0) (by first | assumption | omega | rfl | exact sb_fit0)) xw_6 xw_7 (by decide +kernel) rfl rfl ⟨Nat.le_of_ble_eq_true rfl, Nat.le_of_ble_eq_true rfl⟩ [] rfl (by decide) rfl hl.1 rfl (Nat.le_of_ble_eq_true rfl) xdJ0_checkIndex_df160_5 ⟨Nat.le_of_ble_eq_true rfl, Nat.le_of_ble_eq_true rfl⟩) hP hD hS hA (isC := []) (isR := []) rfl rfl (by decide) (by decide) (fun r6 u H locs hw5 hP hD hS => ?_)
    subst hw5
    have hP : va_P (dC, dI) vwCl [] H := hP
    have hD : va_D A [] := hD
    refine W.widen (k := 0) (n := 0) (by omega) (by omega) ?_
    refine lv_pop hx hb xdJ0_checkIndex_df160_8 rfl ?_
    have hP9 := hP.sub (ws' := []) [] rfl
    have hD9 := hD.sub (ws' := []) [] (by decide) rfl
    refine W.widen (k := 0) (n := 0) (by omega) (by omega) ?_
    exact W.vret hx hb hr (fun t ht9 hW => ⟨⟨(), rfl, trivial, by rw [ht9]; exact hP9, hD9⟩, hS.F ht9⟩) hS.2.2 xdJ0_checkIndex_df160_9
set_option maxHeartbeats 16000000 in
set_option maxRecDepth 100000 in
/-- StringLatin1.charAt -/
theorem c_sx_latAt (l : Launch) (dC : Nat → ClassId) (dI : Nat → Nat → Nat) (cI cB cZ cJ cR : ClassId) (tb : Nat → Nat) (sz : Nat) (i : Nat) (k : Nat) (hi : i < 66) (hk : k < lenS.getD i 0) (hle : lenS.getD i 0 < 100000) : Met l yJ1_charAt_3b067 (Cond.code yJ1_charAt_3b067 cJ1_charAt_3b067 2 (some .char) :: tw_W) ({ frames := 2, cells := 0, slots := 0, locals := 43 }) (pc_ (dC, dI) (tyS cI cB cZ cJ cR) tb [] sz [.ref (tb (200 + i)), .int (nI k)]) (qi_ (dC, dI) [] sz (fun (r : Int32) (u : Unit) => r = nI (chN i k)) (fun (u : Unit) => [])) 0 0 (va_A [] sz) := by
  refine Met.ofW (cc := cJ1_charAt_3b067) (maxL := 2) (ret := (some .char)) (by decide) rfl ?_
  intro p e s m9 args below meth c s₁ B hml hv
  obtain ⟨rfl, hsz, hP, hKK, hD0, hFx⟩ := hv
  have hK := hKK.1
  have hx := B.exec
  have hb := B.bytes
  have hr := B.returns
  have ht : ∀ w ∈ tw_W, w.before _ s = true := fun w h => atoms_spec (ws := Cond.code yJ1_charAt_3b067 cJ1_charAt_3b067 2 (some .char) :: tw_W) B.pre w (List.mem_cons_of_mem _ h)
  have hown : s.vm.findClass RJ1 = some m9.cls := findClass_of_methodNamed B.named
  have hlocks := B.notSynchronized
  subst hsz
  unfold qi_
  have hD := hD0.self (sz := s.heap.size)
  generalize hAe : va_A [] s.heap.size = A at hD hFx ⊢
  have hA : ∀ q : Nat, s.heap.size ≤ q → A q := fun q h => by rw [← hAe]; exact Or.inr h
  have hS : va_S A s.heap s.heap [] := va_S.rf
  have hP : va_P (dC, dI) vwCl [] s.heap := hP
  have hl := lv_entry ([.ref (tb (200 + i)), .int (nI k)]) (n := 2) (Nat.le_of_ble_eq_true rfl)
  rw [lg_entry_eq]
  generalize (lg_sl ([.ref (tb (200 + i)), .int (nI k)]) ++ List.replicate (2 - (lg_sl ([.ref (tb (200 + i)), .int (nI k)])).length) Slot.unset).toArray = ls at hl ⊢
  have hl : lv_has ls 2 [(0, .ref (tb (200 + i))), (1, .int (nI k))] := hl
  refine lv_iload_n hx hb xdJ1_charAt_3b067_0 rfl (lv_at hl 1 rfl) ?_
  refine lv_aload_n hx hb xdJ1_charAt_3b067_1 rfl (lv_at hl 0 rfl) ?_
  refine va_tlen (v := (nI (lenS.getD i 0))) hx hb (hFx.2.2.2.2.2.2.1 i (by assumption)).2.2.2 hS rfl xdJ1_charAt_3b067_2 ?_
  refine ca_v (wr := []) (rn_S (n := 2) (As := [.int (nI k), .int (nI (lenS.getD i 0))]) (rest := []) hx hb hml hown ht hKK hFx hP hD hS hA (c_sx_schk l dC dI cI cB cZ cJ cR tb s.heap.size k (lenS.getD i 0) (by first | assumption | omega | rfl | exact sb_fit0) (by first | assumption | omega | rfl | exact sb_fit0)) xw_8 xw_9 (by decide +kernel) rfl rfl ⟨Nat.le_of_ble_eq_true rfl, Nat.le_of_ble_eq_true rfl⟩ [] rfl (by decide) rfl hl.1 rfl (Nat.le_of_ble_eq_true rfl) xdJ1_charAt_3b067_3 ⟨Nat.le_of_ble_eq_true rfl, Nat.le_of_ble_eq_true rfl⟩) hP hD hS hA (isC := []) (isR := []) rfl rfl (by decide) (by decide) (fun u H locs hw1 hP hD hS => ?_)
  have hP : va_P (dC, dI) vwCl [] H := hP
  have hD : va_D A [] := hD
  refine W.widen (k := 0) (n := 0) (by omega) (by omega) ?_
  refine lv_aload_n hx hb xdJ1_charAt_3b067_6 rfl (lv_at hl 0 rfl) ?_
  refine lv_iload_n hx hb xdJ1_charAt_3b067_7 rfl (lv_at hl 1 rfl) ?_
  refine va_tb (v := .int ((bytS.getD i []).getD k 0)) hx hb (hFx.2.2.2.2.2.2.1 i (by assumption)).2.2.2 hS (show vp_in (nI k) (lenS.getD i 0) from vp_in_nI (by omega) (by omega)) (by show Value.int _ = _; rw [nI_clamp (n := k) (by omega)]) xdJ1_charAt_3b067_8 ?_
  refine lv_sipush (v := 255) hx hb xdJ1_charAt_3b067_9 (by decide) ?_
  refine lv_iand hx hb xdJ1_charAt_3b067_12 ?_
  refine lv_i2c hx hb xdJ1_charAt_3b067_13 rfl ?_
  have hP9 := hP.sub (ws' := []) [] rfl
  have hD9 := hD.sub (ws' := []) [] (by decide) rfl
  refine W.widen (k := 0) (n := 0) (by omega) (by omega) ?_
  exact W.zret (v := ((((((bytS.getD i []).getD k 0) &&& 255)).toUInt32 % 65536).toInt32)) hx hb hr (pk_nc _) (fun t ht9 hW => ⟨⟨((((((bytS.getD i []).getD k 0) &&& 255)).toUInt32 % 65536).toInt32), (), rfl, (ch_eq i k), by rw [ht9]; exact hP9, hD9⟩, hS.F ht9⟩) hS.2.2 xdJ1_charAt_3b067_14
set_option maxHeartbeats 16000000 in
set_option maxRecDepth 100000 in
/-- String.charAt -/
theorem c_sx_charAt (l : Launch) (dC : Nat → ClassId) (dI : Nat → Nat → Nat) (cI cB cZ cJ cR : ClassId) (tb : Nat → Nat) (sz : Nat) (i : Nat) (k : Nat) (hi : i < 66) (hk : k < lenS.getD i 0) (hle : lenS.getD i 0 < 100000) : Met l yJ0_charAt_5068e (Cond.code yJ0_charAt_5068e cJ0_charAt_5068e 2 (some .char) :: tw_W) ({ frames := 3, cells := 0, slots := 0, locals := 64 }) (pc_ (dC, dI) (tyS cI cB cZ cJ cR) tb [] sz [.ref (tb (100 + i)), .int (nI k)]) (qi_ (dC, dI) [] sz (fun (r : Int32) (u : Unit) => r = nI (chN i k)) (fun (u : Unit) => [])) 0 0 (va_A [] sz) := by
  refine Met.ofW (cc := cJ0_charAt_5068e) (maxL := 2) (ret := (some .char)) (by decide) rfl ?_
  intro p e s m9 args below meth c s₁ B hml hv
  obtain ⟨rfl, hsz, hP, hKK, hD0, hFx⟩ := hv
  have hK := hKK.1
  have hx := B.exec
  have hb := B.bytes
  have hr := B.returns
  have ht : ∀ w ∈ tw_W, w.before _ s = true := fun w h => atoms_spec (ws := Cond.code yJ0_charAt_5068e cJ0_charAt_5068e 2 (some .char) :: tw_W) B.pre w (List.mem_cons_of_mem _ h)
  have hown : s.vm.findClass RJ0 = some m9.cls := findClass_of_methodNamed B.named
  have hlocks := B.notSynchronized
  subst hsz
  unfold qi_
  have hD := hD0.self (sz := s.heap.size)
  generalize hAe : va_A [] s.heap.size = A at hD hFx ⊢
  have hA : ∀ q : Nat, s.heap.size ≤ q → A q := fun q h => by rw [← hAe]; exact Or.inr h
  have hS : va_S A s.heap s.heap [] := va_S.rf
  have hP : va_P (dC, dI) vwCl [] s.heap := hP
  have hl := lv_entry ([.ref (tb (100 + i)), .int (nI k)]) (n := 2) (Nat.le_of_ble_eq_true rfl)
  rw [lg_entry_eq]
  generalize (lg_sl ([.ref (tb (100 + i)), .int (nI k)]) ++ List.replicate (2 - (lg_sl ([.ref (tb (100 + i)), .int (nI k)])).length) Slot.unset).toArray = ls at hl ⊢
  have hl : lv_has ls 2 [(0, .ref (tb (100 + i))), (1, .int (nI k))] := hl
  refine lv_aload_n hx hb xdJ0_charAt_5068e_0 rfl (lv_at hl 0 rfl) ?_
  refine ca_i (wr := []) (rn_VS (n := 0) (As := []) (rest := []) hx hb hml hown ht hKK hFx hP hD hS hA (i := i) (by assumption) (c_sx_strLat l dC dI cI cB cZ cJ cR tb s.heap.size i (by first | assumption | omega | rfl | exact sb_fit0)) xw_10 xw_11 (by decide +kernel) rfl rfl ⟨Nat.le_of_ble_eq_true rfl, Nat.le_of_ble_eq_true rfl⟩ [] rfl (by decide) rfl hl.1 rfl (Nat.le_of_ble_eq_true rfl) xdJ0_charAt_5068e_1 ⟨Nat.le_of_ble_eq_true rfl, Nat.le_of_ble_eq_true rfl⟩) hP hD hS hA (isC := []) (isR := []) rfl rfl (by decide) (by decide) (fun r2 u H locs hw1 hP hD hS => ?_)
  subst hw1
  have hP : va_P (dC, dI) vwCl [] H := hP
  have hD : va_D A [] := hD
  refine W.widen (k := 0) (n := 0) (by omega) (by omega) ?_
  refine lv_if_eq (tgt := 16) hx hb xdJ0_charAt_5068e_4 (by decide) (fun k3 => absurd k3 (by decide)) (fun _ => ?_)
  refine lv_aload_n hx hb xdJ0_charAt_5068e_7 rfl (lv_at hl 0 rfl) ?_
  refine vk_getf hx hb (hFx.2.2.2.2.2.2.1 i (by assumption)).2.2.1 hS hown (ht _ xw_2) (fun _ h9 => h9) xdJ0_charAt_5068e_8 ?_
  refine lv_iload_n hx hb xdJ0_charAt_5068e_11 rfl (lv_at hl 1 rfl) ?_
  refine ca_i (wr := []) (rn_S (n := 2) (As := [.ref (tb (200 + i)), .int (nI k)]) (rest := []) hx hb hml hown ht hKK hFx hP hD hS hA (c_sx_latAt l dC dI cI cB cZ cJ cR tb H.size i k (by first | assumption | omega | rfl | exact sb_fit0) (by first | assumption | omega | rfl | exact sb_fit0) (by first | assumption | omega | rfl | exact sb_fit0)) xw_12 xw_13 (by decide +kernel) rfl rfl ⟨Nat.le_of_ble_eq_true rfl, Nat.le_of_ble_eq_true rfl⟩ [] rfl (by decide) rfl hl.1 rfl (Nat.le_of_ble_eq_true rfl) xdJ0_charAt_5068e_12 ⟨Nat.le_of_ble_eq_true rfl, Nat.le_of_ble_eq_true rfl⟩) hP hD hS hA (isC := []) (isR := []) rfl rfl (by decide) (by decide) (fun r5 u H locs hw4 hP hD hS => ?_)
  subst hw4
  have hP : va_P (dC, dI) vwCl [] H := hP
  have hD : va_D A [] := hD
  refine W.widen (k := 0) (n := 0) (by omega) (by omega) ?_
  have hP9 := hP.sub (ws' := []) [] rfl
  have hD9 := hD.sub (ws' := []) [] (by decide) rfl
  refine W.widen (k := 0) (n := 0) (by omega) (by omega) ?_
  exact W.zret (v := (nI (chN i k))) hx hb hr (pk_charN (by have := chN_lt i k; omega)).1 (fun t ht9 hW => ⟨⟨(nI (chN i k)), (), rfl, rfl, by rw [ht9]; exact hP9, hD9⟩, hS.F ht9⟩) hS.2.2 xdJ0_charAt_5068e_15
set_option maxHeartbeats 16000000 in
set_option maxRecDepth 100000 in
/-- AbstractStringBuilder.isLatin1 -/
theorem c_sx_isLat (l : Launch) (dC : Nat → ClassId) (dI : Nat → Nat → Nat) (cI cB cZ cJ cR : ClassId) (tb : Nat → Nat) (sz : Nat) (sb : Nat) (a : Nat) (n : Nat) (mb : Int32)  : Met l yJ5_isLatin1_aae02 (Cond.code yJ5_isLatin1_aae02 cJ5_isLatin1_aae02 1 (some .boolean) :: tw_W) ({ frames := 0, cells := 0, slots := 0, locals := 0 }) (pc_ (dC, dI) (tyS cI cB cZ cJ cR) tb [(sb, .inr (1, [.ref a, .int 0, .int mb, .int (nI n)]))] sz [.ref sb]) (qi_ (dC, dI) [(sb, .inr (1, [.ref a, .int 0, .int mb, .int (nI n)]))] sz (fun (r : Int32) (u : Unit) => r = 1) (fun (u : Unit) => [(sb, .inr (1, [.ref a, .int 0, .int mb, .int (nI n)]))])) 0 0 (va_A [(sb, .inr (1, [.ref a, .int 0, .int mb, .int (nI n)]))] sz) := by
  refine Met.ofW (cc := cJ5_isLatin1_aae02) (maxL := 1) (ret := (some .boolean)) (by decide) rfl ?_
  intro p e s m9 args below meth c s₁ B hml hv
  obtain ⟨rfl, hsz, hP, hKK, hD0, hFx⟩ := hv
  have hK := hKK.1
  have hx := B.exec
  have hb := B.bytes
  have hr := B.returns
  have ht : ∀ w ∈ tw_W, w.before _ s = true := fun w h => atoms_spec (ws := Cond.code yJ5_isLatin1_aae02 cJ5_isLatin1_aae02 1 (some .boolean) :: tw_W) B.pre w (List.mem_cons_of_mem _ h)
  have hown : s.vm.findClass RJ5 = some m9.cls := findClass_of_methodNamed B.named
  have hlocks := B.notSynchronized
  subst hsz
  unfold qi_
  have hD := hD0.self (sz := s.heap.size)
  generalize hAe : va_A [(sb, .inr (1, [.ref a, .int 0, .int mb, .int (nI n)]))] s.heap.size = A at hD hFx ⊢
  have hA : ∀ q : Nat, s.heap.size ≤ q → A q := fun q h => by rw [← hAe]; exact Or.inr h
  have hS : va_S A s.heap s.heap [] := va_S.rf
  have hP : va_P (dC, dI) vwCl [(sb, .inr (1, [.ref a, .int 0, .int mb, .int (nI n)]))] s.heap := hP
  have hl := lv_entry ([.ref sb]) (n := 1) (Nat.le_of_ble_eq_true rfl)
  rw [lg_entry_eq]
  generalize (lg_sl ([.ref sb]) ++ List.replicate (1 - (lg_sl ([.ref sb])).length) Slot.unset).toArray = ls at hl ⊢
  have hl : lv_has ls 1 [(0, .ref sb)] := hl
  refine va_gets hx hb hFx.1 hS hown (ht _ xw_14) (fun _ h9 => h9) xdJ5_isLatin1_aae02_0 ?_
  refine lv_if_eq (tgt := 17) hx hb xdJ5_isLatin1_aae02_3 (by decide) (fun k1 => absurd k1 (by decide)) (fun _ => ?_)
  refine lv_aload_n hx hb xdJ5_isLatin1_aae02_6 rfl (lv_at hl 0 rfl) ?_
  refine va_get (D := (dC, dI)) (ci := 1) (v := .int 0) (C := RJ4) (T := TJ4) (N := 4) hx hb ht xiJ4 hown hK hP 0 rfl rfl 1 (by decide) (ht _ xw_15) (fun _ h9 => h9) rfl xdJ5_isLatin1_aae02_7 ?_
  refine lv_if_ne (tgt := 17) hx hb xdJ5_isLatin1_aae02_10 (by decide) (fun k2 => absurd k2 (by decide)) (fun _ => ?_)
  refine lv_iconst (v := 1) hx hb xdJ5_isLatin1_aae02_13 (by decide) ?_
  refine lv_goto (tgt := 18) hx hb xdJ5_isLatin1_aae02_14 (by decide) ?_
  have hP9 := hP.sub (ws' := [(sb, .inr (1, [.ref a, .int 0, .int mb, .int (nI n)]))]) [0] rfl
  have hD9 := hD.sub (ws' := [(sb, .inr (1, [.ref a, .int 0, .int mb, .int (nI n)]))]) [0] (by decide) rfl
  refine W.widen (k := 0) (n := 0) (by omega) (by omega) ?_
  exact W.zret (v := 1) hx hb hr rfl (fun t ht9 hW => ⟨⟨1, (), rfl, rfl, by rw [ht9]; exact hP9, hD9⟩, hS.F ht9⟩) hS.2.2 xdJ5_isLatin1_aae02_18
set_option maxHeartbeats 16000000 in
set_option maxRecDepth 100000 in
/-- StringLatin1.canEncode -/
theorem c_sx_canEnc (l : Launch) (dC : Nat → ClassId) (dI : Nat → Nat → Nat) (cI cB cZ cJ cR : ClassId) (tb : Nat → Nat) (sz : Nat) (ch : Nat) (hc : ch < 256) : Met l yJ1_canEncode_fc78d (Cond.code yJ1_canEncode_fc78d cJ1_canEncode_fc78d 1 (some .boolean) :: tw_W) ({ frames := 0, cells := 0, slots := 0, locals := 0 }) (pc_ (dC, dI) (tyS cI cB cZ cJ cR) tb [] sz [.int (nI ch)]) (qi_ (dC, dI) [] sz (fun (r : Int32) (u : Unit) => r = 1) (fun (u : Unit) => [])) 0 0 (va_A [] sz) := by
  refine Met.ofW (cc := cJ1_canEncode_fc78d) (maxL := 1) (ret := (some .boolean)) (by decide) rfl ?_
  intro p e s m9 args below meth c s₁ B hml hv
  obtain ⟨rfl, hsz, hP, hKK, hD0, hFx⟩ := hv
  have hK := hKK.1
  have hx := B.exec
  have hb := B.bytes
  have hr := B.returns
  have ht : ∀ w ∈ tw_W, w.before _ s = true := fun w h => atoms_spec (ws := Cond.code yJ1_canEncode_fc78d cJ1_canEncode_fc78d 1 (some .boolean) :: tw_W) B.pre w (List.mem_cons_of_mem _ h)
  have hown : s.vm.findClass RJ1 = some m9.cls := findClass_of_methodNamed B.named
  have hlocks := B.notSynchronized
  subst hsz
  unfold qi_
  have hD := hD0.self (sz := s.heap.size)
  generalize hAe : va_A [] s.heap.size = A at hD hFx ⊢
  have hA : ∀ q : Nat, s.heap.size ≤ q → A q := fun q h => by rw [← hAe]; exact Or.inr h
  have hS : va_S A s.heap s.heap [] := va_S.rf
  have hP : va_P (dC, dI) vwCl [] s.heap := hP
  have hl := lv_entry ([.int (nI ch)]) (n := 1) (Nat.le_of_ble_eq_true rfl)
  rw [lg_entry_eq]
  generalize (lg_sl ([.int (nI ch)]) ++ List.replicate (1 - (lg_sl ([.int (nI ch)])).length) Slot.unset).toArray = ls at hl ⊢
  have hl : lv_has ls 1 [(0, .int (nI ch))] := hl
  refine lv_iload_n hx hb xdJ1_canEncode_fc78d_0 rfl (lv_at hl 0 rfl) ?_
  refine lv_sipush (v := 255) hx hb xdJ1_canEncode_fc78d_1 (by decide) ?_
  refine lv_icmp_gt (tgt := 11) hx hb xdJ1_canEncode_fc78d_4 (by decide) (fun k1 => absurd k1 (show ¬ nI 255 < nI ch from nI_nlt (by omega) (by omega))) (fun _ => ?_)
  refine lv_iconst (v := 1) hx hb xdJ1_canEncode_fc78d_7 (by decide) ?_
  refine lv_goto (tgt := 12) hx hb xdJ1_canEncode_fc78d_8 (by decide) ?_
  have hP9 := hP.sub (ws' := []) [] rfl
  have hD9 := hD.sub (ws' := []) [] (by decide) rfl
  refine W.widen (k := 0) (n := 0) (by omega) (by omega) ?_
  exact W.zret (v := 1) hx hb hr rfl (fun t ht9 hW => ⟨⟨1, (), rfl, rfl, by rw [ht9]; exact hP9, hD9⟩, hS.F ht9⟩) hS.2.2 xdJ1_canEncode_fc78d_12
set_option maxHeartbeats 16000000 in
set_option maxRecDepth 100000 in
/-- ArraysSupport.newLength -/
theorem c_sx_newLen (l : Launch) (dC : Nat → ClassId) (dI : Nat → Nat → Nat) (cI cB cZ cJ cR : ClassId) (tb : Nat → Nat) (sz : Nat) (w : Nat) (x : Nat) (y : Nat) (h1 : x < y) (h2 : y < 1000) (h3 : w < 1000) : Met l yJ8_newLength_cabcc (Cond.code yJ8_newLength_cabcc cJ8_newLength_cabcc 4 (some .int) :: tw_W) ({ frames := 1, cells := 0, slots := 0, locals := 15 }) (pc_ (dC, dI) (tyS cI cB cZ cJ cR) tb [] sz [.int (nI w), .int (nI x), .int (nI y)]) (qi_ (dC, dI) [] sz (fun (r : Int32) (u : Unit) => r = nI (w + y)) (fun (u : Unit) => [])) 0 0 (va_A [] sz) := by
  refine Met.ofW (cc := cJ8_newLength_cabcc) (maxL := 4) (ret := (some .int)) (by decide) rfl ?_
  intro p e s m9 args below meth c s₁ B hml hv
  obtain ⟨rfl, hsz, hP, hKK, hD0, hFx⟩ := hv
  have hK := hKK.1
  have hx := B.exec
  have hb := B.bytes
  have hr := B.returns
  have ht : ∀ w ∈ tw_W, w.before _ s = true := fun w h => atoms_spec (ws := Cond.code yJ8_newLength_cabcc cJ8_newLength_cabcc 4 (some .int) :: tw_W) B.pre w (List.mem_cons_of_mem _ h)
  have hown : s.vm.findClass RJ8 = some m9.cls := findClass_of_methodNamed B.named
  have hlocks := B.notSynchronized
  subst hsz
  unfold qi_
  have hD := hD0.self (sz := s.heap.size)
  generalize hAe : va_A [] s.heap.size = A at hD hFx ⊢
  have hA : ∀ q : Nat, s.heap.size ≤ q → A q := fun q h => by rw [← hAe]; exact Or.inr h
  have hS : va_S A s.heap s.heap [] := va_S.rf
  have hP : va_P (dC, dI) vwCl [] s.heap := hP
  have hl := lv_entry ([.int (nI w), .int (nI x), .int (nI y)]) (n := 4) (Nat.le_of_ble_eq_true rfl)
  rw [lg_entry_eq]
  generalize (lg_sl ([.int (nI w), .int (nI x), .int (nI y)]) ++ List.replicate (4 - (lg_sl ([.int (nI w), .int (nI x), .int (nI y)])).length) Slot.unset).toArray = ls at hl ⊢
  have hl : lv_has ls 4 [(0, .int (nI w)), (1, .int (nI x)), (2, .int (nI y))] := hl
  refine lv_iload_n hx hb xdJ8_newLength_cabcc_0 rfl (lv_at hl 0 rfl) ?_
  refine lv_iload_n hx hb xdJ8_newLength_cabcc_1 rfl (lv_at hl 1 rfl) ?_
  refine lv_iload_n hx hb xdJ8_newLength_cabcc_2 rfl (lv_at hl 2 rfl) ?_
  refine va_mmax hx hb (by rw [hml]; exact hl.1.symm) hown (ht _ xw_16) (ht _ xw_17) (ht _ xw_18) (ht _ xw_19) (Nat.le_of_ble_eq_true rfl) (Nat.le_of_ble_eq_true rfl) (Nat.le_of_ble_eq_true rfl) (Nat.le_of_ble_eq_true rfl) xdJ8_newLength_cabcc_3 ?_
  refine tp_i (y := (nI y)) (if_pos (show nI x < nI y from nI_lt (by omega) (by omega))) ?_
  refine lv_iadd hx hb xdJ8_newLength_cabcc_6 ?_
  refine tp_i (y := (nI (w + y))) (nI_add _ _) ?_
  refine lv_istore_n (lv' := [(3, .int (nI (w + y))), (0, .int (nI w)), (1, .int (nI x)), (2, .int (nI y))]) hx hb xdJ8_newLength_cabcc_7 rfl hl (by decide) rfl (fun ls hl => ?_)
  refine lv_iconst (v := 0) hx hb xdJ8_newLength_cabcc_8 (by decide) ?_
  refine lv_iload_n hx hb xdJ8_newLength_cabcc_9 rfl (lv_at hl 0 rfl) ?_
  refine lv_icmp_ge (tgt := 21) hx hb xdJ8_newLength_cabcc_10 (by decide) (fun k1 => absurd k1 (show ¬ nI (w + y) ≤ nI 0 from nI_ge (by omega) (by omega))) (fun _ => ?_)
  refine lv_iload_n hx hb xdJ8_newLength_cabcc_13 rfl (lv_at hl 0 rfl) ?_
  refine lv_ldc (v := 2147483639) hx hb hown (ht _ xw_20) xdJ8_newLength_cabcc_14 ?_
  refine lv_icmp_gt (tgt := 21) hx hb xdJ8_newLength_cabcc_16 (by decide) (fun k2 => absurd k2 (show ¬ nI 2147483639 < nI (w + y) from nI_nlt (by omega) (by omega))) (fun _ => ?_)
  refine lv_iload_n hx hb xdJ8_newLength_cabcc_19 rfl (lv_at hl 0 rfl) ?_
  have hP9 := hP.sub (ws' := []) [] rfl
  have hD9 := hD.sub (ws' := []) [] (by decide) rfl
  refine W.widen (k := 0) (n := 0) (by omega) (by omega) ?_
  exact W.iret (v := (nI (w + y))) hx hb hr (fun t ht9 hW => ⟨⟨(nI (w + y)), (), rfl, rfl, by rw [ht9]; exact hP9, hD9⟩, hS.F ht9⟩) hS.2.2 xdJ8_newLength_cabcc_20
set_option maxHeartbeats 16000000 in
set_option maxRecDepth 100000 in
/-- AbstractStringBuilder.newCapacity -/
theorem c_sx_newCap (l : Launch) (dC : Nat → ClassId) (dI : Nat → Nat → Nat) (cI cB cZ cJ cR : ClassId) (tb : Nat → Nat) (sz : Nat) (sb : Nat) (a : Nat) (m : Nat) (n : Nat) (f : Nat → Int32) (mb : Int32) (q : Nat) (hm : m = 16 ∨ m = 34) (hf : sb_Fit f) (h1 : m < q) (h2 : q ≤ 33) : Met l yJ5_newCapacity_0f7a4 (Cond.code yJ5_newCapacity_0f7a4 cJ5_newCapacity_0f7a4 6 (some .int) :: tw_W) ({ frames := 2, cells := 0, slots := 0, locals := 38 }) (pc_ (dC, dI) (tyS cI cB cZ cJ cR) tb [(sb, .inr (1, [.ref a, .int 0, .int mb, .int (nI n)])), (a, .inl (cB, m, .inl f))] sz [.ref sb, .int (nI q)]) (qi_ (dC, dI) [(sb, .inr (1, [.ref a, .int 0, .int mb, .int (nI n)])), (a, .inl (cB, m, .inl f))] sz (fun (r : Int32) (u : Unit) => r = nI (m + (m + 2))) (fun (u : Unit) => [(sb, .inr (1, [.ref a, .int 0, .int mb, .int (nI n)])), (a, .inl (cB, m, .inl f))])) 0 0 (va_A [(sb, .inr (1, [.ref a, .int 0, .int mb, .int (nI n)])), (a, .inl (cB, m, .inl f))] sz) := by
  refine Met.ofW (cc := cJ5_newCapacity_0f7a4) (maxL := 6) (ret := (some .int)) (by decide) rfl ?_
  intro p e s m9 args below meth c s₁ B hml hv
  obtain ⟨rfl, hsz, hP, hKK, hD0, hFx⟩ := hv
  have hK := hKK.1
  have hx := B.exec
  have hb := B.bytes
  have hr := B.returns
  have ht : ∀ w ∈ tw_W, w.before _ s = true := fun w h => atoms_spec (ws := Cond.code yJ5_newCapacity_0f7a4 cJ5_newCapacity_0f7a4 6 (some .int) :: tw_W) B.pre w (List.mem_cons_of_mem _ h)
  have hown : s.vm.findClass RJ5 = some m9.cls := findClass_of_methodNamed B.named
  have hlocks := B.notSynchronized
  subst hsz
  unfold qi_
  have hD := hD0.self (sz := s.heap.size)
  generalize hAe : va_A [(sb, .inr (1, [.ref a, .int 0, .int mb, .int (nI n)])), (a, .inl (cB, m, .inl f))] s.heap.size = A at hD hFx ⊢
  have hA : ∀ q : Nat, s.heap.size ≤ q → A q := fun q h => by rw [← hAe]; exact Or.inr h
  have hS : va_S A s.heap s.heap [] := va_S.rf
  have hP : va_P (dC, dI) vwCl [(sb, .inr (1, [.ref a, .int 0, .int mb, .int (nI n)])), (a, .inl (cB, m, .inl f))] s.heap := hP
  have hl := lv_entry ([.ref sb, .int (nI q)]) (n := 6) (Nat.le_of_ble_eq_true rfl)
  rw [lg_entry_eq]
  generalize (lg_sl ([.ref sb, .int (nI q)]) ++ List.replicate (6 - (lg_sl ([.ref sb, .int (nI q)])).length) Slot.unset).toArray = ls at hl ⊢
  have hl : lv_has ls 6 [(0, .ref sb), (1, .int (nI q))] := hl
  refine lv_aload_n hx hb xdJ5_newCapacity_0f7a4_0 rfl (lv_at hl 0 rfl) ?_
  refine va_get (D := (dC, dI)) (ci := 1) (v := .ref a) (C := RJ4) (T := TJ4) (N := 4) hx hb ht xiJ4 hown hK hP 0 rfl rfl 0 (by decide) (ht _ xw_21) (fun _ h9 => h9) rfl xdJ5_newCapacity_0f7a4_1 ?_
  refine va_alen (D := (dC, dI)) (v := (nI m)) hx hb hK hP 1 1 rfl rfl rfl xdJ5_newCapacity_0f7a4_4 ?_
  refine lv_istore_n (lv' := [(2, .int (nI m)), (0, .ref sb), (1, .int (nI q))]) hx hb xdJ5_newCapacity_0f7a4_5 rfl hl (by decide) rfl (fun ls hl => ?_)
  refine lv_iload_n hx hb xdJ5_newCapacity_0f7a4_6 rfl (lv_at hl 2 rfl) ?_
  refine lv_aload_n hx hb xdJ5_newCapacity_0f7a4_7 rfl (lv_at hl 1 rfl) ?_
  refine va_get (D := (dC, dI)) (ci := 1) (v := .int 0) (C := RJ4) (T := TJ4) (N := 4) hx hb ht xiJ4 hown hK hP 0 rfl rfl 1 (by decide) (ht _ xw_15) (fun _ h9 => h9) rfl xdJ5_newCapacity_0f7a4_8 ?_
  refine lv_ishl hx hb xdJ5_newCapacity_0f7a4_11 ?_
  refine tp_i (y := (nI q)) (sb_shl0 _) ?_
  refine lv_istore_n (lv' := [(3, .int (nI q)), (2, .int (nI m)), (0, .ref sb), (1, .int (nI q))]) hx hb xdJ5_newCapacity_0f7a4_12 rfl hl (by decide) rfl (fun ls hl => ?_)
  refine lv_iload_n hx hb xdJ5_newCapacity_0f7a4_13 rfl (lv_at hl 0 rfl) ?_
  refine lv_iload_n hx hb xdJ5_newCapacity_0f7a4_14 rfl (lv_at hl 1 rfl) ?_
  refine lv_isub hx hb xdJ5_newCapacity_0f7a4_15 ?_
  refine tp_i (y := (nI (q - m))) (pk_sub (by omega)) ?_
  refine lv_istore (lv' := [(4, .int (nI (q - m))), (3, .int (nI q)), (2, .int (nI m)), (0, .ref sb), (1, .int (nI q))]) hx hb xdJ5_newCapacity_0f7a4_16 hl (by decide) rfl (fun ls hl => ?_)
  refine lv_iload_n hx hb xdJ5_newCapacity_0f7a4_18 rfl (lv_at hl 2 rfl) ?_
  refine lv_iload hx hb xdJ5_newCapacity_0f7a4_19 (lv_at hl 0 rfl) ?_
  refine lv_iload_n hx hb xdJ5_newCapacity_0f7a4_21 rfl (lv_at hl 2 rfl) ?_
  refine lv_iconst (v := 2) hx hb xdJ5_newCapacity_0f7a4_22 (by decide) ?_
  refine lv_aload_n hx hb xdJ5_newCapacity_0f7a4_23 rfl (lv_at hl 3 rfl) ?_
  refine va_get (D := (dC, dI)) (ci := 1) (v := .int 0) (C := RJ4) (T := TJ4) (N := 4) hx hb ht xiJ4 hown hK hP 0 rfl rfl 1 (by decide) (ht _ xw_15) (fun _ h9 => h9) rfl xdJ5_newCapacity_0f7a4_24 ?_
  refine lv_ishl hx hb xdJ5_newCapacity_0f7a4_27 ?_
  refine tp_i (y := 2) (by decide) ?_
  refine lv_iadd hx hb xdJ5_newCapacity_0f7a4_28 ?_
  refine tp_i (y := (nI (m + 2))) (nI_add _ _) ?_
  refine ca_i (wr := [(sb, .inr (1, [.ref a, .int 0, .int mb, .int (nI n)])), (a, .inl (cB, m, .inl f))]) (rn_S (n := 3) (As := [.int (nI m), .int (nI (q - m)), .int (nI (m + 2))]) (rest := []) hx hb hml hown ht hKK hFx hP hD hS hA (c_sx_newLen l dC dI cI cB cZ cJ cR tb s.heap.size m (q - m) (m + 2) (by first | assumption | omega | rfl | exact sb_fit0) (by first | assumption | omega | rfl | exact sb_fit0) (by first | assumption | omega | rfl | exact sb_fit0)) xw_22 xw_23 (by decide +kernel) rfl rfl ⟨Nat.le_of_ble_eq_true rfl, Nat.le_of_ble_eq_true rfl⟩ [] rfl (by decide) rfl hl.1 rfl (Nat.le_of_ble_eq_true rfl) xdJ5_newCapacity_0f7a4_29 ⟨Nat.le_of_ble_eq_true rfl, Nat.le_of_ble_eq_true rfl⟩) hP hD hS hA (isC := []) (isR := [0, 1]) rfl rfl (by decide) (by decide) (fun r2 u H locs hw1 hP hD hS => ?_)
  subst hw1
  have hP : va_P (dC, dI) vwCl [(sb, .inr (1, [.ref a, .int 0, .int mb, .int (nI n)])), (a, .inl (cB, m, .inl f))] H := hP
  have hD : va_D A [(sb, .inr (1, [.ref a, .int 0, .int mb, .int (nI n)])), (a, .inl (cB, m, .inl f))] := hD
  refine W.widen (k := 0) (n := 0) (by omega) (by omega) ?_
  refine lv_istore (lv' := [(5, .int (nI (m + (m + 2)))), (4, .int (nI (q - m))), (3, .int (nI q)), (2, .int (nI m)), (0, .ref sb), (1, .int (nI q))]) hx hb xdJ5_newCapacity_0f7a4_32 hl (by decide) rfl (fun ls hl => ?_)
  refine lv_iload hx hb xdJ5_newCapacity_0f7a4_34 (lv_at hl 0 rfl) ?_
  refine lv_ldc (v := 2147483647) hx hb hown (ht _ xw_24) xdJ5_newCapacity_0f7a4_36 ?_
  refine lv_icmp_ne (tgt := 51) hx hb xdJ5_newCapacity_0f7a4_38 (by decide) (fun _ => ?_) (fun k3 => absurd k3 (show ¬ nI (m + (m + 2)) = nI 2147483647 from fun z => absurd ((nI_eq (by omega) (by omega)).mp z) (by omega)))
  refine lv_iload hx hb xdJ5_newCapacity_0f7a4_51 (lv_at hl 0 rfl) ?_
  refine lv_aload_n hx hb xdJ5_newCapacity_0f7a4_53 rfl (lv_at hl 4 rfl) ?_
  refine va_get (D := (dC, dI)) (ci := 1) (v := .int 0) (C := RJ4) (T := TJ4) (N := 4) hx hb ht xiJ4 hown hK hP 0 rfl rfl 1 (by decide) (ht _ xw_15) (fun _ h9 => h9) rfl xdJ5_newCapacity_0f7a4_54 ?_
  refine lv_ishr hx hb xdJ5_newCapacity_0f7a4_57 ?_
  refine tp_i (y := (nI (m + (m + 2)))) (sb_shr0 _) ?_
  have hP9 := hP.sub (ws' := [(sb, .inr (1, [.ref a, .int 0, .int mb, .int (nI n)])), (a, .inl (cB, m, .inl f))]) [0, 1] rfl
  have hD9 := hD.sub (ws' := [(sb, .inr (1, [.ref a, .int 0, .int mb, .int (nI n)])), (a, .inl (cB, m, .inl f))]) [0, 1] (by decide) rfl
  refine W.widen (k := 0) (n := 0) (by omega) (by omega) ?_
  exact W.iret (v := (nI (m + (m + 2)))) hx hb hr (fun t ht9 hW => ⟨⟨(nI (m + (m + 2))), (), rfl, rfl, by rw [ht9]; exact hP9, hD9⟩, hS.F ht9⟩) hS.2.2 xdJ5_newCapacity_0f7a4_58
set_option maxHeartbeats 16000000 in
set_option maxRecDepth 100000 in
/-- Arrays.copyOf -/
theorem c_sx_copyOf (l : Launch) (dC : Nat → ClassId) (dI : Nat → Nat → Nat) (cI cB cZ cJ cR : ClassId) (tb : Nat → Nat) (sz : Nat) (a : Nat) (m : Nat) (q : Nat) (f : Nat → Int32) (h1 : m < q) (h2 : q ≤ 34) (hf : sb_Fit f) : Met l yJ7_copyOf_9075b (Cond.code yJ7_copyOf_9075b cJ7_copyOf_9075b 3 (some (.array .byte)) :: tw_W) ({ frames := 1, cells := 1, slots := 34, locals := 40 }) (pc_ (dC, dI) (tyS cI cB cZ cJ cR) tb [(a, .inl (cB, m, .inl f))] sz [.ref a, .int (nI q)]) (qr_ (dC, dI) [(a, .inl (cB, m, .inl f))] sz (fun (u : Nat × (Nat → Int32)) => sb_Fit u.2 ∧ ∀ i, i < m → u.2 i = f i) (fun (u : Nat × (Nat → Int32)) => u.1) (fun (u : Nat × (Nat → Int32)) => [(a, .inl (cB, m, .inl f)), (u.1, .inl (cB, q, .inl u.2))])) 1 34 (va_A [(a, .inl (cB, m, .inl f))] sz) := by
  refine Met.ofW (cc := cJ7_copyOf_9075b) (maxL := 3) (ret := (some (.array .byte))) (by decide) rfl ?_
  intro p e s m9 args below meth c s₁ B hml hv
  obtain ⟨rfl, hsz, hP, hKK, hD0, hFx⟩ := hv
  have hK := hKK.1
  have hx := B.exec
  have hb := B.bytes
  have hr := B.returns
  have ht : ∀ w ∈ tw_W, w.before _ s = true := fun w h => atoms_spec (ws := Cond.code yJ7_copyOf_9075b cJ7_copyOf_9075b 3 (some (.array .byte)) :: tw_W) B.pre w (List.mem_cons_of_mem _ h)
  have hown : s.vm.findClass RJ7 = some m9.cls := findClass_of_methodNamed B.named
  have hlocks := B.notSynchronized
  subst hsz
  unfold qr_
  have hD := hD0.self (sz := s.heap.size)
  generalize hAe : va_A [(a, .inl (cB, m, .inl f))] s.heap.size = A at hD hFx ⊢
  have hA : ∀ q : Nat, s.heap.size ≤ q → A q := fun q h => by rw [← hAe]; exact Or.inr h
  have hS : va_S A s.heap s.heap [] := va_S.rf
  have hP : va_P (dC, dI) vwCl [(a, .inl (cB, m, .inl f))] s.heap := hP
  have hl := lv_entry ([.ref a, .int (nI q)]) (n := 3) (Nat.le_of_ble_eq_true rfl)
  rw [lg_entry_eq]
  generalize (lg_sl ([.ref a, .int (nI q)]) ++ List.replicate (3 - (lg_sl ([.ref a, .int (nI q)])).length) Slot.unset).toArray = ls at hl ⊢
  have hl : lv_has ls 3 [(0, .ref a), (1, .int (nI q))] := hl
  refine lv_iload_n hx hb xdJ7_copyOf_9075b_0 rfl (lv_at hl 1 rfl) ?_
  refine lv_aload_n hx hb xdJ7_copyOf_9075b_1 rfl (lv_at hl 0 rfl) ?_
  refine va_alen (D := (dC, dI)) (v := (nI m)) hx hb hK hP 0 1 rfl rfl rfl xdJ7_copyOf_9075b_2 ?_
  refine lv_icmp_ne (tgt := 14) hx hb xdJ7_copyOf_9075b_3 (by decide) (fun _ => ?_) (fun k1 => absurd k1 (show ¬ nI q = nI m from fun z => absurd ((nI_eq (by omega) (by omega)).mp z) (by omega)))
  refine lv_iload_n hx hb xdJ7_copyOf_9075b_14 rfl (lv_at hl 1 rfl) ?_
  refine va_newE (atype := .byte) (ty := .byte) (a0 := (q, .inl (fun _ => 0))) (cE := cB) hx hb (ht _ xw_25) rfl hK hP hD hS hA 1 rfl (fun _ => rfl) (nI_pos (by omega)) (nI_clamp (by omega)) (show q * 1 ≤ 536870912 by omega) (Nat.le_of_ble_eq_true rfl) (show 0 + q ≤ 34 by omega) xdJ7_copyOf_9075b_15 (fun q2 H hP hD hS => ?_)
  have hP : va_P (dC, dI) vwCl [(a, .inl (cB, m, .inl f)), (q2, .inl (cB, q, .inl (fun _ => 0)))] H := hP
  have hD : va_D A [(a, .inl (cB, m, .inl f)), (q2, .inl (cB, q, .inl (fun _ => 0)))] := hD
  refine W.widen (k := 1) (n := 34) (by omega) (by omega) ?_
  refine lv_astore_n (lv' := [(2, .ref q2), (0, .ref a), (1, .int (nI q))]) hx hb xdJ7_copyOf_9075b_17 rfl hl (by decide) rfl (fun ls hl => ?_)
  refine lv_aload_n hx hb xdJ7_copyOf_9075b_18 rfl (lv_at hl 1 rfl) ?_
  refine lv_iconst (v := 0) hx hb xdJ7_copyOf_9075b_19 (by decide) ?_
  refine lv_aload_n hx hb xdJ7_copyOf_9075b_20 rfl (lv_at hl 0 rfl) ?_
  refine lv_iconst (v := 0) hx hb xdJ7_copyOf_9075b_21 (by decide) ?_
  refine lv_aload_n hx hb xdJ7_copyOf_9075b_22 rfl (lv_at hl 1 rfl) ?_
  refine va_alen (D := (dC, dI)) (v := (nI m)) hx hb hK hP 0 1 rfl rfl rfl xdJ7_copyOf_9075b_23 ?_
  refine lv_iload_n hx hb xdJ7_copyOf_9075b_24 rfl (lv_at hl 2 rfl) ?_
  refine va_mmin hx hb (by rw [hml]; exact hl.1.symm) hown (ht _ xw_26) (ht _ xw_27) (ht _ xw_18) (ht _ xw_28) (Nat.le_of_ble_eq_true rfl) (Nat.le_of_ble_eq_true rfl) (Nat.le_of_ble_eq_true rfl) (Nat.le_of_ble_eq_true rfl) xdJ7_copyOf_9075b_25 ?_
  refine tp_i (y := (nI m)) (if_neg (show ¬ nI q < nI m from nI_nlt (by omega) (by omega))) ?_
  refine va_copyi (D := (dC, dI)) (ty := .byte) hx hb (by rw [hml]; exact hl.1.symm) hown (ht _ xw_29) (ht _ xw_30) (ht _ xw_31) (ht _ xw_32) hK hP hD hS 0 1 1 1 rfl rfl rfl rfl rfl (by decide) (by decide) (nI_pos (by omega)) (by rw [sb_cl0, nI_clamp (n := m) (by omega)]; omega) (by rw [sb_cl0, nI_clamp (n := m) (by omega)]; omega) (fun i _ => (show sb_Fit f by assumption) _) (Nat.le_of_ble_eq_true rfl) (Nat.le_of_ble_eq_true rfl) xdJ7_copyOf_9075b_28 (fun H locs hP hD hS => ?_)
  have hP : va_P (dC, dI) vwCl [(a, .inl (cB, m, .inl f)), (q2, .inl (cB, q, .inl (va_cpy f (fun _ => 0) ((0 : Int32)).toNatClampNeg ((0 : Int32)).toNatClampNeg (nI m).toNatClampNeg)))] H := hP
  have hD : va_D A [(a, .inl (cB, m, .inl f)), (q2, .inl (cB, q, .inl (va_cpy f (fun _ => 0) ((0 : Int32)).toNatClampNeg ((0 : Int32)).toNatClampNeg (nI m).toNatClampNeg)))] := hD
  have hg_f3 : sb_Fit (va_cpy f (fun _ => 0) ((0 : Int32)).toNatClampNeg ((0 : Int32)).toNatClampNeg (nI m).toNatClampNeg) := sb_fitC (by assumption) sb_fit0
  generalize he_f3 : va_cpy f (fun _ => 0) ((0 : Int32)).toNatClampNeg ((0 : Int32)).toNatClampNeg (nI m).toNatClampNeg = f3 at hP hD hg_f3
  refine lv_aload_n hx hb xdJ7_copyOf_9075b_31 rfl (lv_at hl 0 rfl) ?_
  have hP9 := hP.sub (ws' := [(a, .inl (cB, m, .inl f)), (q2, .inl (cB, q, .inl f3))]) [0, 1] rfl
  have hD9 := hD.sub (ws' := [(a, .inl (cB, m, .inl f)), (q2, .inl (cB, q, .inl f3))]) [0, 1] (by decide) rfl
  refine W.widen (k := 1) (n := 34) (by omega) (by omega) ?_
  exact W.aret (v := .ref q2) hx hb hr (Or.inr ⟨_, rfl⟩) (Or.inr ⟨_, rfl⟩) (fun t ht9 hW => ⟨⟨(q2, f3), q2, rfl, ⟨(by assumption), (cpy_lt he_f3 (by omega))⟩, rfl, by rw [ht9]; exact hP9, hD9⟩, hS.F ht9⟩) hS.2.2 xdJ7_copyOf_9075b_32
set_option maxHeartbeats 16000000 in
set_option maxRecDepth 100000 in
/-- ensureCapacityInternal: there is room -/
theorem c_sx_ensA (l : Launch) (dC : Nat → ClassId) (dI : Nat → Nat → Nat) (cI cB cZ cJ cR : ClassId) (tb : Nat → Nat) (sz : Nat) (sb : Nat) (a : Nat) (m : Nat) (n : Nat) (f : Nat → Int32) (mb : Int32) (q : Nat) (hm : m = 16 ∨ m = 34) (hf : sb_Fit f) (h1 : q ≤ m) : Met l yJ5_ensureCapacityInternal_d00df (Cond.code yJ5_ensureCapacityInternal_d00df cJ5_ensureCapacityInternal_d00df 3 none :: tw_W) ({ frames := 0, cells := 0, slots := 0, locals := 0 }) (pc_ (dC, dI) (tyS cI cB cZ cJ cR) tb [(sb, .inr (1, [.ref a, .int 0, .int mb, .int (nI n)])), (a, .inl (cB, m, .inl f))] sz [.ref sb, .int (nI q)]) (qv_ (dC, dI) [(sb, .inr (1, [.ref a, .int 0, .int mb, .int (nI n)])), (a, .inl (cB, m, .inl f))] sz (fun (u : Unit) => True) (fun (u : Unit) => [(sb, .inr (1, [.ref a, .int 0, .int mb, .int (nI n)])), (a, .inl (cB, m, .inl f))])) 0 0 (va_A [(sb, .inr (1, [.ref a, .int 0, .int mb, .int (nI n)])), (a, .inl (cB, m, .inl f))] sz) := by
  refine Met.ofW (cc := cJ5_ensureCapacityInternal_d00df) (maxL := 3) (ret := none) (by decide) rfl ?_
  intro p e s m9 args below meth c s₁ B hml hv
  obtain ⟨rfl, hsz, hP, hKK, hD0, hFx⟩ := hv
  have hK := hKK.1
  have hx := B.exec
  have hb := B.bytes
  have hr := B.returns
  have ht : ∀ w ∈ tw_W, w.before _ s = true := fun w h => atoms_spec (ws := Cond.code yJ5_ensureCapacityInternal_d00df cJ5_ensureCapacityInternal_d00df 3 none :: tw_W) B.pre w (List.mem_cons_of_mem _ h)
  have hown : s.vm.findClass RJ5 = some m9.cls := findClass_of_methodNamed B.named
  have hlocks := B.notSynchronized
  subst hsz
  unfold qv_
  have hD := hD0.self (sz := s.heap.size)
  generalize hAe : va_A [(sb, .inr (1, [.ref a, .int 0, .int mb, .int (nI n)])), (a, .inl (cB, m, .inl f))] s.heap.size = A at hD hFx ⊢
  have hA : ∀ q : Nat, s.heap.size ≤ q → A q := fun q h => by rw [← hAe]; exact Or.inr h
  have hS : va_S A s.heap s.heap [] := va_S.rf
  have hP : va_P (dC, dI) vwCl [(sb, .inr (1, [.ref a, .int 0, .int mb, .int (nI n)])), (a, .inl (cB, m, .inl f))] s.heap := hP
  have hl := lv_entry ([.ref sb, .int (nI q)]) (n := 3) (Nat.le_of_ble_eq_true rfl)
  rw [lg_entry_eq]
  generalize (lg_sl ([.ref sb, .int (nI q)]) ++ List.replicate (3 - (lg_sl ([.ref sb, .int (nI q)])).length) Slot.unset).toArray = ls at hl ⊢
  have hl : lv_has ls 3 [(0, .ref sb), (1, .int (nI q))] := hl
  refine lv_aload_n hx hb xdJ5_ensureCapacityInternal_d00df_0 rfl (lv_at hl 0 rfl) ?_
  refine va_get (D := (dC, dI)) (ci := 1) (v := .ref a) (C := RJ4) (T := TJ4) (N := 4) hx hb ht xiJ4 hown hK hP 0 rfl rfl 0 (by decide) (ht _ xw_21) (fun _ h9 => h9) rfl xdJ5_ensureCapacityInternal_d00df_1 ?_
  refine va_alen (D := (dC, dI)) (v := (nI m)) hx hb hK hP 1 1 rfl rfl rfl xdJ5_ensureCapacityInternal_d00df_4 ?_
  refine lv_aload_n hx hb xdJ5_ensureCapacityInternal_d00df_5 rfl (lv_at hl 0 rfl) ?_
  refine va_get (D := (dC, dI)) (ci := 1) (v := .int 0) (C := RJ4) (T := TJ4) (N := 4) hx hb ht xiJ4 hown hK hP 0 rfl rfl 1 (by decide) (ht _ xw_15) (fun _ h9 => h9) rfl xdJ5_ensureCapacityInternal_d00df_6 ?_
  refine lv_ishr hx hb xdJ5_ensureCapacityInternal_d00df_9 ?_
  refine tp_i (y := (nI m)) (sb_shr0 _) ?_
  refine lv_istore_n (lv' := [(2, .int (nI m)), (0, .ref sb), (1, .int (nI q))]) hx hb xdJ5_ensureCapacityInternal_d00df_10 rfl hl (by decide) rfl (fun ls hl => ?_)
  refine lv_iload_n hx hb xdJ5_ensureCapacityInternal_d00df_11 rfl (lv_at hl 2 rfl) ?_
  refine lv_iload_n hx hb xdJ5_ensureCapacityInternal_d00df_12 rfl (lv_at hl 0 rfl) ?_
  refine lv_isub hx hb xdJ5_ensureCapacityInternal_d00df_13 ?_
  refine lv_if_le (tgt := 38) hx hb xdJ5_ensureCapacityInternal_d00df_14 (by decide) (fun _ => ?_) (fun k1 => absurd ((sle_ (a := q) (b := m) (by omega) (by omega)).mpr (by omega)) k1)
  have hP9 := hP.sub (ws' := [(sb, .inr (1, [.ref a, .int 0, .int mb, .int (nI n)])), (a, .inl (cB, m, .inl f))]) [0, 1] rfl
  have hD9 := hD.sub (ws' := [(sb, .inr (1, [.ref a, .int 0, .int mb, .int (nI n)])), (a, .inl (cB, m, .inl f))]) [0, 1] (by decide) rfl
  refine W.widen (k := 0) (n := 0) (by omega) (by omega) ?_
  exact W.vret hx hb hr (fun t ht9 hW => ⟨⟨(), rfl, trivial, by rw [ht9]; exact hP9, hD9⟩, hS.F ht9⟩) hS.2.2 xdJ5_ensureCapacityInternal_d00df_38
set_option maxHeartbeats 16000000 in
set_option maxRecDepth 100000 in
/-- ensureCapacityInternal -/
theorem c_sx_ensB (l : Launch) (dC : Nat → ClassId) (dI : Nat → Nat → Nat) (cI cB cZ cJ cR : ClassId) (tb : Nat → Nat) (sz : Nat) (sb : Nat) (a : Nat) (m : Nat) (n : Nat) (f : Nat → Int32) (mb : Int32) (q : Nat) (hm : m = 16 ∨ m = 34) (hf : sb_Fit f) (h1 : q ≤ 33) (hnm : n ≤ m) : Met l yJ5_ensureCapacityInternal_d00df (Cond.code yJ5_ensureCapacityInternal_d00df cJ5_ensureCapacityInternal_d00df 3 none :: tw_W) ({ frames := 3, cells := 1, slots := 34, locals := 63 }) (pc_ (dC, dI) (tyS cI cB cZ cJ cR) tb [(sb, .inr (1, [.ref a, .int 0, .int mb, .int (nI n)])), (a, .inl (cB, m, .inl f))] sz [.ref sb, .int (nI q)]) (qv_ (dC, dI) [(sb, .inr (1, [.ref a, .int 0, .int mb, .int (nI n)])), (a, .inl (cB, m, .inl f))] sz (fun (u : Nat × Nat × (Nat → Int32)) => (u.2.1 = 16 ∨ u.2.1 = 34) ∧ q ≤ u.2.1 ∧ sb_Fit u.2.2 ∧ TA f n u.2.2 n []) (fun (u : Nat × Nat × (Nat → Int32)) => [(sb, .inr (1, [.ref u.1, .int 0, .int mb, .int (nI n)])), (u.1, .inl (cB, u.2.1, .inl u.2.2))])) 1 34 (va_A [(sb, .inr (1, [.ref a, .int 0, .int mb, .int (nI n)])), (a, .inl (cB, m, .inl f))] sz) := by
  refine Met.ofW (cc := cJ5_ensureCapacityInternal_d00df) (maxL := 3) (ret := none) (by decide) rfl ?_
  intro p e s m9 args below meth c s₁ B hml hv
  obtain ⟨rfl, hsz, hP, hKK, hD0, hFx⟩ := hv
  have hK := hKK.1
  have hx := B.exec
  have hb := B.bytes
  have hr := B.returns
  have ht : ∀ w ∈ tw_W, w.before _ s = true := fun w h => atoms_spec (ws := Cond.code yJ5_ensureCapacityInternal_d00df cJ5_ensureCapacityInternal_d00df 3 none :: tw_W) B.pre w (List.mem_cons_of_mem _ h)
  have hown : s.vm.findClass RJ5 = some m9.cls := findClass_of_methodNamed B.named
  have hlocks := B.notSynchronized
  subst hsz
  unfold qv_
  have hD := hD0.self (sz := s.heap.size)
  generalize hAe : va_A [(sb, .inr (1, [.ref a, .int 0, .int mb, .int (nI n)])), (a, .inl (cB, m, .inl f))] s.heap.size = A at hD hFx ⊢
  have hA : ∀ q : Nat, s.heap.size ≤ q → A q := fun q h => by rw [← hAe]; exact Or.inr h
  have hS : va_S A s.heap s.heap [] := va_S.rf
  have hP : va_P (dC, dI) vwCl [(sb, .inr (1, [.ref a, .int 0, .int mb, .int (nI n)])), (a, .inl (cB, m, .inl f))] s.heap := hP
  have hl := lv_entry ([.ref sb, .int (nI q)]) (n := 3) (Nat.le_of_ble_eq_true rfl)
  rw [lg_entry_eq]
  generalize (lg_sl ([.ref sb, .int (nI q)]) ++ List.replicate (3 - (lg_sl ([.ref sb, .int (nI q)])).length) Slot.unset).toArray = ls at hl ⊢
  have hl : lv_has ls 3 [(0, .ref sb), (1, .int (nI q))] := hl
  refine lv_aload_n hx hb xdJ5_ensureCapacityInternal_d00df_0 rfl (lv_at hl 0 rfl) ?_
  refine va_get (D := (dC, dI)) (ci := 1) (v := .ref a) (C := RJ4) (T := TJ4) (N := 4) hx hb ht xiJ4 hown hK hP 0 rfl rfl 0 (by decide) (ht _ xw_21) (fun _ h9 => h9) rfl xdJ5_ensureCapacityInternal_d00df_1 ?_
  refine va_alen (D := (dC, dI)) (v := (nI m)) hx hb hK hP 1 1 rfl rfl rfl xdJ5_ensureCapacityInternal_d00df_4 ?_
  refine lv_aload_n hx hb xdJ5_ensureCapacityInternal_d00df_5 rfl (lv_at hl 0 rfl) ?_
  refine va_get (D := (dC, dI)) (ci := 1) (v := .int 0) (C := RJ4) (T := TJ4) (N := 4) hx hb ht xiJ4 hown hK hP 0 rfl rfl 1 (by decide) (ht _ xw_15) (fun _ h9 => h9) rfl xdJ5_ensureCapacityInternal_d00df_6 ?_
  refine lv_ishr hx hb xdJ5_ensureCapacityInternal_d00df_9 ?_
  refine tp_i (y := (nI m)) (sb_shr0 _) ?_
  refine lv_istore_n (lv' := [(2, .int (nI m)), (0, .ref sb), (1, .int (nI q))]) hx hb xdJ5_ensureCapacityInternal_d00df_10 rfl hl (by decide) rfl (fun ls hl => ?_)
  refine lv_iload_n hx hb xdJ5_ensureCapacityInternal_d00df_11 rfl (lv_at hl 2 rfl) ?_
  refine lv_iload_n hx hb xdJ5_ensureCapacityInternal_d00df_12 rfl (lv_at hl 0 rfl) ?_
  refine lv_isub hx hb xdJ5_ensureCapacityInternal_d00df_13 ?_
  refine lv_if_le (tgt := 38) hx hb xdJ5_ensureCapacityInternal_d00df_14 (by decide) (fun h1 => ?_) (fun h1 => ?_)
  · have hq9 : q ≤ m := (sle_ (a := q) (b := m) (by omega) (by omega)).mp h1
    have hP9 := hP.sub (ws' := [(sb, .inr (1, [.ref a, .int 0, .int mb, .int (nI n)])), (a, .inl (cB, m, .inl f))]) [0, 1] rfl
    have hD9 := hD.sub (ws' := [(sb, .inr (1, [.ref a, .int 0, .int mb, .int (nI n)])), (a, .inl (cB, m, .inl f))]) [0, 1] (by decide) rfl
    refine W.widen (k := 1) (n := 34) (by omega) (by omega) ?_
    exact W.vret hx hb hr (fun t ht9 hW => ⟨⟨(a, m, f), rfl, ⟨(by first | assumption | omega | (dsimp only; omega) | (dsimp only; assumption) | rfl), (by first | assumption | omega | (dsimp only; omega) | (dsimp only; assumption) | rfl), (by first | assumption | omega | (dsimp only; omega) | (dsimp only; assumption) | rfl), (by first | exact TA.nil | exact TA.keep (by assumption) (by omega))⟩, by rw [ht9]; exact hP9, hD9⟩, hS.F ht9⟩) hS.2.2 xdJ5_ensureCapacityInternal_d00df_38
  · have hq9 : ¬ q ≤ m := fun z => h1 ((sle_ (a := q) (b := m) (by omega) (by omega)).mpr z)
    refine lv_aload_n hx hb xdJ5_ensureCapacityInternal_d00df_17 rfl (lv_at hl 1 rfl) ?_
    refine lv_aload_n hx hb xdJ5_ensureCapacityInternal_d00df_18 rfl (lv_at hl 1 rfl) ?_
    refine va_get (D := (dC, dI)) (ci := 1) (v := .ref a) (C := RJ4) (T := TJ4) (N := 4) hx hb ht xiJ4 hown hK hP 0 rfl rfl 0 (by decide) (ht _ xw_21) (fun _ h9 => h9) rfl xdJ5_ensureCapacityInternal_d00df_19 ?_
    refine lv_aload_n hx hb xdJ5_ensureCapacityInternal_d00df_22 rfl (lv_at hl 1 rfl) ?_
    refine lv_iload_n hx hb xdJ5_ensureCapacityInternal_d00df_23 rfl (lv_at hl 2 rfl) ?_
    refine ca_i (wr := []) (rn_V5 (n := 1) (As := [.int (nI q)]) (rest := [.ref a, .ref sb]) hx hb hml hown ht hKK hFx hP hD hS hA (c_sx_newCap l dC dI cI cB cZ cJ cR tb s.heap.size sb a m n f mb q (by first | assumption | omega | rfl | exact sb_fit0) (by first | assumption | omega | rfl | exact sb_fit0) (by first | assumption | omega | rfl | exact sb_fit0) (by first | assumption | omega | rfl | exact sb_fit0)) xw_33 xw_34 xw_35 (tw_p (by decide)) xw_36 xw_37 (by decide +kernel) rfl rfl ⟨Nat.le_of_ble_eq_true rfl, Nat.le_of_ble_eq_true rfl⟩ [0, 1] rfl (by decide) rfl rfl rfl rfl hl.1 rfl (Nat.le_of_ble_eq_true rfl) xdJ5_ensureCapacityInternal_d00df_24 ⟨Nat.le_of_ble_eq_true rfl, Nat.le_of_ble_eq_true rfl⟩) hP hD hS hA (isC := [0, 1]) (isR := []) rfl rfl (by decide) (by decide) (fun r3 u H locs hw2 hP hD hS => ?_)
    subst hw2
    have hP : va_P (dC, dI) vwCl [(sb, .inr (1, [.ref a, .int 0, .int mb, .int (nI n)])), (a, .inl (cB, m, .inl f))] H := hP
    have hD : va_D A [(sb, .inr (1, [.ref a, .int 0, .int mb, .int (nI n)])), (a, .inl (cB, m, .inl f))] := hD
    refine W.widen (k := 0) (n := 0) (by omega) (by omega) ?_
    refine lv_aload_n hx hb xdJ5_ensureCapacityInternal_d00df_27 rfl (lv_at hl 1 rfl) ?_
    refine va_get (D := (dC, dI)) (ci := 1) (v := .int 0) (C := RJ4) (T := TJ4) (N := 4) hx hb ht xiJ4 hown hK hP 0 rfl rfl 1 (by decide) (ht _ xw_15) (fun _ h9 => h9) rfl xdJ5_ensureCapacityInternal_d00df_28 ?_
    refine lv_ishl hx hb xdJ5_ensureCapacityInternal_d00df_31 ?_
    refine tp_i (y := (nI (m + (m + 2)))) (sb_shl0 _) ?_
    refine ca_r (wr := [(sb, .inr (1, [.ref a, .int 0, .int mb, .int (nI n)]))]) (rn_S (n := 2) (As := [.ref a, .int (nI (m + (m + 2)))]) (rest := [.ref sb]) hx hb hml hown ht hKK hFx hP hD hS hA (c_sx_copyOf l dC dI cI cB cZ cJ cR tb H.size a m (m + (m + 2)) f (by first | assumption | omega | rfl | exact sb_fit0) (by first | assumption | omega | rfl | exact sb_fit0) (by first | assumption | omega | rfl | exact sb_fit0)) xw_38 xw_39 (by decide +kernel) rfl rfl ⟨Nat.le_of_ble_eq_true rfl, Nat.le_of_ble_eq_true rfl⟩ [1] rfl (by decide) rfl hl.1 rfl (Nat.le_of_ble_eq_true rfl) xdJ5_ensureCapacityInternal_d00df_32 ⟨Nat.le_of_ble_eq_true rfl, Nat.le_of_ble_eq_true rfl⟩) hP hD hS hA (isC := [1]) (isR := [0]) rfl rfl (by decide) (by decide) (fun u H locs hw4 hP hD hS => ?_)
    obtain ⟨z6, f7⟩ := u
    obtain ⟨g8, g9⟩ := hw4
    have g8 : sb_Fit f7 := g8
    have g9 : ∀ i, i < m → f7 i = f i := g9
    have hP : va_P (dC, dI) vwCl [(sb, .inr (1, [.ref a, .int 0, .int mb, .int (nI n)])), (a, .inl (cB, m, .inl f)), (z6, .inl (cB, (m + (m + 2)), .inl f7))] H := hP
    have hD : va_D A [(sb, .inr (1, [.ref a, .int 0, .int mb, .int (nI n)])), (a, .inl (cB, m, .inl f)), (z6, .inl (cB, (m + (m + 2)), .inl f7))] := hD
    refine W.widen (k := 1) (n := 34) (by omega) (by omega) ?_
    refine va_put (D := (dC, dI)) (ci := 1) (v := .ref z6) (ty := .array .byte) (C := RJ4) (T := TJ4) (N := 4) hx hb ht xiJ4 tyJ4 tyJ4_ok nmJ4 hown hK hP hD hS 0 rfl rfl 0 (by decide) (ht _ xw_21) (fun _ h9 => h9) rfl (by decide +kernel) rfl rfl (Nat.le_of_ble_eq_true rfl) xdJ5_ensureCapacityInternal_d00df_35 (fun H locs hP hD hS => ?_)
    have hP : va_P (dC, dI) vwCl [(sb, .inr (1, [.ref z6, .int 0, .int mb, .int (nI n)])), (a, .inl (cB, m, .inl f)), (z6, .inl (cB, (m + (m + 2)), .inl f7))] H := hP
    have hD : va_D A [(sb, .inr (1, [.ref z6, .int 0, .int mb, .int (nI n)])), (a, .inl (cB, m, .inl f)), (z6, .inl (cB, (m + (m + 2)), .inl f7))] := hD
    have hP9 := hP.sub (ws' := [(sb, .inr (1, [.ref z6, .int 0, .int mb, .int (nI n)])), (z6, .inl (cB, (m + (m + 2)), .inl f7))]) [0, 2] rfl
    have hD9 := hD.sub (ws' := [(sb, .inr (1, [.ref z6, .int 0, .int mb, .int (nI n)])), (z6, .inl (cB, (m + (m + 2)), .inl f7))]) [0, 2] (by decide) rfl
    refine W.widen (k := 1) (n := 34) (by omega) (by omega) ?_
    exact W.vret hx hb hr (fun t ht9 hW => ⟨⟨(z6, (m + (m + 2)), f7), rfl, ⟨(by first | assumption | omega | (dsimp only; omega) | (dsimp only; assumption) | rfl), (by first | assumption | omega | (dsimp only; omega) | (dsimp only; assumption) | rfl), (by first | assumption | omega | (dsimp only; omega) | (dsimp only; assumption) | rfl), (by first | exact TA.nil | exact TA.keep (by assumption) (by omega))⟩, by rw [ht9]; exact hP9, hD9⟩, hS.F ht9⟩) hS.2.2 xdJ5_ensureCapacityInternal_d00df_38
set_option maxHeartbeats 16000000 in
set_option maxRecDepth 100000 in
/-- AbstractStringBuilder.append(char): there is room -/
theorem c_sx_ac5A (l : Launch) (dC : Nat → ClassId) (dI : Nat → Nat → Nat) (cI cB cZ cJ cR : ClassId) (tb : Nat → Nat) (sz : Nat) (sb : Nat) (a : Nat) (m : Nat) (n : Nat) (f : Nat → Int32) (mb : Int32) (ch : Nat) (hm : m = 16 ∨ m = 34) (hf : sb_Fit f) (hc : ch < 256) (h1 : n + 1 ≤ m) : Met l yJ5_append_3fe6f (Cond.code yJ5_append_3fe6f cJ5_append_3fe6f 2 (some (.object "java/lang/AbstractStringBuilder")) :: tw_W) ({ frames := 1, cells := 0, slots := 0, locals := 22 }) (pc_ (dC, dI) (tyS cI cB cZ cJ cR) tb [(sb, .inr (1, [.ref a, .int 0, .int mb, .int (nI n)])), (a, .inl (cB, m, .inl f))] sz [.ref sb, .int (nI ch)]) (qr_ (dC, dI) [(sb, .inr (1, [.ref a, .int 0, .int mb, .int (nI n)])), (a, .inl (cB, m, .inl f))] sz (fun (u : Nat × (Nat → Int32)) => u.1 = n + 1 ∧ sb_Fit u.2 ∧ TA f n u.2 u.1 [chB ch]) (fun (u : Nat × (Nat → Int32)) => sb) (fun (u : Nat × (Nat → Int32)) => [(sb, .inr (1, [.ref a, .int 0, .int mb, .int (nI u.1)])), (a, .inl (cB, m, .inl u.2))])) 0 0 (va_A [(sb, .inr (1, [.ref a, .int 0, .int mb, .int (nI n)])), (a, .inl (cB, m, .inl f))] sz) := by
  refine Met.ofW (cc := cJ5_append_3fe6f) (maxL := 2) (ret := (some (.object "java/lang/AbstractStringBuilder"))) (by decide) rfl ?_
  intro p e s m9 args below meth c s₁ B hml hv
  obtain ⟨rfl, hsz, hP, hKK, hD0, hFx⟩ := hv
  have hK := hKK.1
  have hx := B.exec
  have hb := B.bytes
  have hr := B.returns
  have ht : ∀ w ∈ tw_W, w.before _ s = true := fun w h => atoms_spec (ws := Cond.code yJ5_append_3fe6f cJ5_append_3fe6f 2 (some (.object "java/lang/AbstractStringBuilder")) :: tw_W) B.pre w (List.mem_cons_of_mem _ h)
  have hown : s.vm.findClass RJ5 = some m9.cls := findClass_of_methodNamed B.named
  have hlocks := B.notSynchronized
  subst hsz
  unfold qr_
  have hD := hD0.self (sz := s.heap.size)
  generalize hAe : va_A [(sb, .inr (1, [.ref a, .int 0, .int mb, .int (nI n)])), (a, .inl (cB, m, .inl f))] s.heap.size = A at hD hFx ⊢
  have hA : ∀ q : Nat, s.heap.size ≤ q → A q := fun q h => by rw [← hAe]; exact Or.inr h
  have hS : va_S A s.heap s.heap [] := va_S.rf
  have hP : va_P (dC, dI) vwCl [(sb, .inr (1, [.ref a, .int 0, .int mb, .int (nI n)])), (a, .inl (cB, m, .inl f))] s.heap := hP
  have hl := lv_entry ([.ref sb, .int (nI ch)]) (n := 2) (Nat.le_of_ble_eq_true rfl)
  rw [lg_entry_eq]
  generalize (lg_sl ([.ref sb, .int (nI ch)]) ++ List.replicate (2 - (lg_sl ([.ref sb, .int (nI ch)])).length) Slot.unset).toArray = ls at hl ⊢
  have hl : lv_has ls 2 [(0, .ref sb), (1, .int (nI ch))] := hl
  refine lv_aload_n hx hb xdJ5_append_3fe6f_0 rfl (lv_at hl 0 rfl) ?_
  refine lv_aload_n hx hb xdJ5_append_3fe6f_1 rfl (lv_at hl 0 rfl) ?_
  refine va_get (D := (dC, dI)) (ci := 1) (v := .int (nI n)) (C := RJ4) (T := TJ4) (N := 4) hx hb ht xiJ4 hown hK hP 0 rfl rfl 3 (by decide) (ht _ xw_40) (fun _ h9 => h9) rfl xdJ5_append_3fe6f_2 ?_
  refine lv_iconst (v := 1) hx hb xdJ5_append_3fe6f_5 (by decide) ?_
  refine lv_iadd hx hb xdJ5_append_3fe6f_6 ?_
  refine tp_i (y := (nI (n + 1))) (nI_add _ _) ?_
  refine ca_v (wr := []) (rn_V5 (n := 1) (As := [.int (nI (n + 1))]) (rest := []) hx hb hml hown ht hKK hFx hP hD hS hA (c_sx_ensA l dC dI cI cB cZ cJ cR tb s.heap.size sb a m n f mb (n + 1) (by first | assumption | omega | rfl | exact sb_fit0) (by first | assumption | omega | rfl | exact sb_fit0) (by first | assumption | omega | rfl | exact sb_fit0)) xw_41 xw_42 xw_43 (tw_p (by decide)) xw_44 xw_45 (by decide +kernel) rfl rfl ⟨Nat.le_of_ble_eq_true rfl, Nat.le_of_ble_eq_true rfl⟩ [0, 1] rfl (by decide) rfl rfl rfl rfl hl.1 rfl (Nat.le_of_ble_eq_true rfl) xdJ5_append_3fe6f_7 ⟨Nat.le_of_ble_eq_true rfl, Nat.le_of_ble_eq_true rfl⟩) hP hD hS hA (isC := [0, 1]) (isR := []) rfl rfl (by decide) (by decide) (fun u H locs hw1 hP hD hS => ?_)
  have hP : va_P (dC, dI) vwCl [(sb, .inr (1, [.ref a, .int 0, .int mb, .int (nI n)])), (a, .inl (cB, m, .inl f))] H := hP
  have hD : va_D A [(sb, .inr (1, [.ref a, .int 0, .int mb, .int (nI n)])), (a, .inl (cB, m, .inl f))] := hD
  refine W.widen (k := 0) (n := 0) (by omega) (by omega) ?_
  refine lv_aload_n hx hb xdJ5_append_3fe6f_10 rfl (lv_at hl 0 rfl) ?_
  refine ca_i (wr := [(a, .inl (cB, m, .inl f))]) (rn_V5 (n := 0) (As := []) (rest := []) hx hb hml hown ht hKK hFx hP hD hS hA (c_sx_isLat l dC dI cI cB cZ cJ cR tb H.size sb a n mb) xw_46 xw_47 xw_48 xw_49 xw_50 xw_51 (by decide +kernel) rfl rfl ⟨Nat.le_of_ble_eq_true rfl, Nat.le_of_ble_eq_true rfl⟩ [0] rfl (by decide) rfl rfl rfl rfl hl.1 rfl (Nat.le_of_ble_eq_true rfl) xdJ5_append_3fe6f_11 ⟨Nat.le_of_ble_eq_true rfl, Nat.le_of_ble_eq_true rfl⟩) hP hD hS hA (isC := [0]) (isR := [1]) rfl rfl (by decide) (by decide) (fun r4 u H locs hw3 hP hD hS => ?_)
  subst hw3
  have hP : va_P (dC, dI) vwCl [(a, .inl (cB, m, .inl f)), (sb, .inr (1, [.ref a, .int 0, .int mb, .int (nI n)]))] H := hP
  have hD : va_D A [(a, .inl (cB, m, .inl f)), (sb, .inr (1, [.ref a, .int 0, .int mb, .int (nI n)]))] := hD
  refine W.widen (k := 0) (n := 0) (by omega) (by omega) ?_
  refine lv_if_eq (tgt := 45) hx hb xdJ5_append_3fe6f_14 (by decide) (fun k5 => absurd k5 (by decide)) (fun _ => ?_)
  refine lv_iload_n hx hb xdJ5_append_3fe6f_17 rfl (lv_at hl 1 rfl) ?_
  refine ca_i (wr := [(a, .inl (cB, m, .inl f)), (sb, .inr (1, [.ref a, .int 0, .int mb, .int (nI n)]))]) (rn_S (n := 1) (As := [.int (nI ch)]) (rest := []) hx hb hml hown ht hKK hFx hP hD hS hA (c_sx_canEnc l dC dI cI cB cZ cJ cR tb H.size ch (by first | assumption | omega | rfl | exact sb_fit0)) xw_52 xw_53 (by decide +kernel) rfl rfl ⟨Nat.le_of_ble_eq_true rfl, Nat.le_of_ble_eq_true rfl⟩ [] rfl (by decide) rfl hl.1 rfl (Nat.le_of_ble_eq_true rfl) xdJ5_append_3fe6f_18 ⟨Nat.le_of_ble_eq_true rfl, Nat.le_of_ble_eq_true rfl⟩) hP hD hS hA (isC := []) (isR := [0, 1]) rfl rfl (by decide) (by decide) (fun r7 u H locs hw6 hP hD hS => ?_)
  subst hw6
  have hP : va_P (dC, dI) vwCl [(a, .inl (cB, m, .inl f)), (sb, .inr (1, [.ref a, .int 0, .int mb, .int (nI n)]))] H := hP
  have hD : va_D A [(a, .inl (cB, m, .inl f)), (sb, .inr (1, [.ref a, .int 0, .int mb, .int (nI n)]))] := hD
  refine W.widen (k := 0) (n := 0) (by omega) (by omega) ?_
  refine lv_if_eq (tgt := 45) hx hb xdJ5_append_3fe6f_21 (by decide) (fun k8 => absurd k8 (by decide)) (fun _ => ?_)
  refine lv_aload_n hx hb xdJ5_append_3fe6f_24 rfl (lv_at hl 0 rfl) ?_
  refine va_get (D := (dC, dI)) (ci := 1) (v := .ref a) (C := RJ4) (T := TJ4) (N := 4) hx hb ht xiJ4 hown hK hP 1 rfl rfl 0 (by decide) (ht _ xw_21) (fun _ h9 => h9) rfl xdJ5_append_3fe6f_25 ?_
  refine lv_aload_n hx hb xdJ5_append_3fe6f_28 rfl (lv_at hl 0 rfl) ?_
  refine lv_dup hx hb xdJ5_append_3fe6f_29 rfl ?_
  refine va_get (D := (dC, dI)) (ci := 1) (v := .int (nI n)) (C := RJ4) (T := TJ4) (N := 4) hx hb ht xiJ4 hown hK hP 1 rfl rfl 3 (by decide) (ht _ xw_40) (fun _ h9 => h9) rfl xdJ5_append_3fe6f_30 ?_
  refine lv_dup_x1 hx hb xdJ5_append_3fe6f_33 rfl rfl ?_
  refine lv_iconst (v := 1) hx hb xdJ5_append_3fe6f_34 (by decide) ?_
  refine lv_iadd hx hb xdJ5_append_3fe6f_35 ?_
  refine tp_i (y := (nI (n + 1))) (nI_add _ _) ?_
  refine va_put (D := (dC, dI)) (ci := 1) (v := .int (nI (n + 1))) (ty := .int) (C := RJ4) (T := TJ4) (N := 4) hx hb ht xiJ4 tyJ4 tyJ4_ok nmJ4 hown hK hP hD hS 1 rfl rfl 3 (by decide) (ht _ xw_40) (fun _ h9 => h9) rfl (by decide +kernel) rfl rfl (Nat.le_of_ble_eq_true rfl) xdJ5_append_3fe6f_36 (fun H locs hP hD hS => ?_)
  have hP : va_P (dC, dI) vwCl [(a, .inl (cB, m, .inl f)), (sb, .inr (1, [.ref a, .int 0, .int mb, .int (nI (n + 1))]))] H := hP
  have hD : va_D A [(a, .inl (cB, m, .inl f)), (sb, .inr (1, [.ref a, .int 0, .int mb, .int (nI (n + 1))]))] := hD
  refine lv_iload_n hx hb xdJ5_append_3fe6f_39 rfl (lv_at hl 1 rfl) ?_
  refine lv_i2b hx hb xdJ5_append_3fe6f_40 rfl ?_
  refine va_bast (D := (dC, dI)) hx hb hK hP hD hS 0 1 rfl rfl (show vp_in (nI n) m from vp_in_nI (by omega) (by omega)) xdJ5_append_3fe6f_41 (fun H locs hP hD hS => ?_)
  have hP : va_P (dC, dI) vwCl [(a, .inl (cB, m, .inl (upd f (nI n).toNatClampNeg (vp_nar .byte ((nI ch).toInt8.toInt32))))), (sb, .inr (1, [.ref a, .int 0, .int mb, .int (nI (n + 1))]))] H := hP
  have hD : va_D A [(a, .inl (cB, m, .inl (upd f (nI n).toNatClampNeg (vp_nar .byte ((nI ch).toInt8.toInt32))))), (sb, .inr (1, [.ref a, .int 0, .int mb, .int (nI (n + 1))]))] := hD
  have hg_f9 : sb_Fit (upd f (nI n).toNatClampNeg (vp_nar .byte ((nI ch).toInt8.toInt32))) := sb_fitU (by assumption) (fit_nar _)
  generalize he_f9 : upd f (nI n).toNatClampNeg (vp_nar .byte ((nI ch).toInt8.toInt32)) = f9 at hP hD hg_f9
  refine lv_goto (tgt := 75) hx hb xdJ5_append_3fe6f_42 (by decide) ?_
  refine lv_aload_n hx hb xdJ5_append_3fe6f_75 rfl (lv_at hl 0 rfl) ?_
  have hP9 := hP.sub (ws' := [(sb, .inr (1, [.ref a, .int 0, .int mb, .int (nI (n + 1))])), (a, .inl (cB, m, .inl f9))]) [1, 0] rfl
  have hD9 := hD.sub (ws' := [(sb, .inr (1, [.ref a, .int 0, .int mb, .int (nI (n + 1))])), (a, .inl (cB, m, .inl f9))]) [1, 0] (by decide) rfl
  refine W.widen (k := 0) (n := 0) (by omega) (by omega) ?_
  exact W.aret (v := .ref sb) hx hb hr (Or.inl ⟨_, rfl⟩) (Or.inr ⟨_, rfl⟩) (fun t ht9 hW => ⟨⟨((n + 1), f9), sb, rfl, ⟨(by first | assumption | omega | (dsimp only; omega) | (dsimp only; assumption) | rfl), (by first | assumption | omega | (dsimp only; omega) | (dsimp only; assumption) | rfl), (TA.put he_f9 (by omega))⟩, rfl, by rw [ht9]; exact hP9, hD9⟩, hS.F ht9⟩) hS.2.2 xdJ5_append_3fe6f_76
set_option maxHeartbeats 16000000 in
set_option maxRecDepth 100000 in
/-- AbstractStringBuilder.append(char) -/
theorem c_sx_ac5B (l : Launch) (dC : Nat → ClassId) (dI : Nat → Nat → Nat) (cI cB cZ cJ cR : ClassId) (tb : Nat → Nat) (sz : Nat) (sb : Nat) (a : Nat) (m : Nat) (n : Nat) (f : Nat → Int32) (mb : Int32) (ch : Nat) (hm : m = 16 ∨ m = 34) (hf : sb_Fit f) (hc : ch < 256) (h1 : n + 1 ≤ 33) (hnm : n ≤ m) : Met l yJ5_append_3fe6f (Cond.code yJ5_append_3fe6f cJ5_append_3fe6f 2 (some (.object "java/lang/AbstractStringBuilder")) :: tw_W) ({ frames := 4, cells := 1, slots := 34, locals := 85 }) (pc_ (dC, dI) (tyS cI cB cZ cJ cR) tb [(sb, .inr (1, [.ref a, .int 0, .int mb, .int (nI n)])), (a, .inl (cB, m, .inl f))] sz [.ref sb, .int (nI ch)]) (qr_ (dC, dI) [(sb, .inr (1, [.ref a, .int 0, .int mb, .int (nI n)])), (a, .inl (cB, m, .inl f))] sz (fun (u : Nat × Nat × Nat × (Nat → Int32)) => u.1 = n + 1 ∧ (u.2.2.1 = 16 ∨ u.2.2.1 = 34) ∧ u.1 ≤ u.2.2.1 ∧ sb_Fit u.2.2.2 ∧ TA f n u.2.2.2 u.1 ([chB ch])) (fun (u : Nat × Nat × Nat × (Nat → Int32)) => sb) (fun (u : Nat × Nat × Nat × (Nat → Int32)) => [(sb, .inr (1, [.ref u.2.1, .int 0, .int mb, .int (nI u.1)])), (u.2.1, .inl (cB, u.2.2.1, .inl u.2.2.2))])) 1 34 (va_A [(sb, .inr (1, [.ref a, .int 0, .int mb, .int (nI n)])), (a, .inl (cB, m, .inl f))] sz) := by
  refine Met.ofW (cc := cJ5_append_3fe6f) (maxL := 2) (ret := (some (.object "java/lang/AbstractStringBuilder"))) (by decide) rfl ?_
  intro p e s m9 args below meth c s₁ B hml hv
  obtain ⟨rfl, hsz, hP, hKK, hD0, hFx⟩ := hv
  have hK := hKK.1
  have hx := B.exec
  have hb := B.bytes
  have hr := B.returns
  have ht : ∀ w ∈ tw_W, w.before _ s = true := fun w h => atoms_spec (ws := Cond.code yJ5_append_3fe6f cJ5_append_3fe6f 2 (some (.object "java/lang/AbstractStringBuilder")) :: tw_W) B.pre w (List.mem_cons_of_mem _ h)
  have hown : s.vm.findClass RJ5 = some m9.cls := findClass_of_methodNamed B.named
  have hlocks := B.notSynchronized
  subst hsz
  unfold qr_
  have hD := hD0.self (sz := s.heap.size)
  generalize hAe : va_A [(sb, .inr (1, [.ref a, .int 0, .int mb, .int (nI n)])), (a, .inl (cB, m, .inl f))] s.heap.size = A at hD hFx ⊢
  have hA : ∀ q : Nat, s.heap.size ≤ q → A q := fun q h => by rw [← hAe]; exact Or.inr h
  have hS : va_S A s.heap s.heap [] := va_S.rf
  have hP : va_P (dC, dI) vwCl [(sb, .inr (1, [.ref a, .int 0, .int mb, .int (nI n)])), (a, .inl (cB, m, .inl f))] s.heap := hP
  have hl := lv_entry ([.ref sb, .int (nI ch)]) (n := 2) (Nat.le_of_ble_eq_true rfl)
  rw [lg_entry_eq]
  generalize (lg_sl ([.ref sb, .int (nI ch)]) ++ List.replicate (2 - (lg_sl ([.ref sb, .int (nI ch)])).length) Slot.unset).toArray = ls at hl ⊢
  have hl : lv_has ls 2 [(0, .ref sb), (1, .int (nI ch))] := hl
  refine lv_aload_n hx hb xdJ5_append_3fe6f_0 rfl (lv_at hl 0 rfl) ?_
  refine lv_aload_n hx hb xdJ5_append_3fe6f_1 rfl (lv_at hl 0 rfl) ?_
  refine va_get (D := (dC, dI)) (ci := 1) (v := .int (nI n)) (C := RJ4) (T := TJ4) (N := 4) hx hb ht xiJ4 hown hK hP 0 rfl rfl 3 (by decide) (ht _ xw_40) (fun _ h9 => h9) rfl xdJ5_append_3fe6f_2 ?_
  refine lv_iconst (v := 1) hx hb xdJ5_append_3fe6f_5 (by decide) ?_
  refine lv_iadd hx hb xdJ5_append_3fe6f_6 ?_
  refine tp_i (y := (nI (n + 1))) (nI_add _ _) ?_
  refine ca_v (wr := []) (rn_V5 (n := 1) (As := [.int (nI (n + 1))]) (rest := []) hx hb hml hown ht hKK hFx hP hD hS hA (c_sx_ensB l dC dI cI cB cZ cJ cR tb s.heap.size sb a m n f mb (n + 1) (by first | assumption | omega | rfl | exact sb_fit0) (by first | assumption | omega | rfl | exact sb_fit0) (by first | assumption | omega | rfl | exact sb_fit0) (by first | assumption | omega | rfl | exact sb_fit0)) xw_41 xw_42 xw_43 (tw_p (by decide)) xw_44 xw_45 (by decide +kernel) rfl rfl ⟨Nat.le_of_ble_eq_true rfl, Nat.le_of_ble_eq_true rfl⟩ [0, 1] rfl (by decide) rfl rfl rfl rfl hl.1 rfl (Nat.le_of_ble_eq_true rfl) xdJ5_append_3fe6f_7 ⟨Nat.le_of_ble_eq_true rfl, Nat.le_of_ble_eq_true rfl⟩) hP hD hS hA (isC := [0, 1]) (isR := []) rfl rfl (by decide) (by decide) (fun u H locs hw1 hP hD hS => ?_)
  obtain ⟨z3, z4, f5⟩ := u
  obtain ⟨g6, g7, g8, g9⟩ := hw1
  have g6 : z4 = 16 ∨ z4 = 34 := g6
  have g7 : (n + 1) ≤ z4 := g7
  have g8 : sb_Fit f5 := g8
  have g9 : TA f n f5 n [] := g9
  have hP : va_P (dC, dI) vwCl [(sb, .inr (1, [.ref z3, .int 0, .int mb, .int (nI n)])), (z3, .inl (cB, z4, .inl f5))] H := hP
  have hD : va_D A [(sb, .inr (1, [.ref z3, .int 0, .int mb, .int (nI n)])), (z3, .inl (cB, z4, .inl f5))] := hD
  refine W.widen (k := 1) (n := 34) (by omega) (by omega) ?_
  refine lv_aload_n hx hb xdJ5_append_3fe6f_10 rfl (lv_at hl 0 rfl) ?_
  refine ca_i (wr := [(z3, .inl (cB, z4, .inl f5))]) (rn_V5 (n := 0) (As := []) (rest := []) hx hb hml hown ht hKK hFx hP hD hS hA (c_sx_isLat l dC dI cI cB cZ cJ cR tb H.size sb z3 n mb) xw_46 xw_47 xw_48 xw_49 xw_50 xw_51 (by decide +kernel) rfl rfl ⟨Nat.le_of_ble_eq_true rfl, Nat.le_of_ble_eq_true rfl⟩ [0] rfl (by decide) rfl rfl rfl rfl hl.1 rfl (Nat.le_of_ble_eq_true rfl) xdJ5_append_3fe6f_11 ⟨Nat.le_of_ble_eq_true rfl, Nat.le_of_ble_eq_true rfl⟩) hP hD hS hA (isC := [0]) (isR := [1]) rfl rfl (by decide) (by decide) (fun r11 u H locs hw10 hP hD hS => ?_)
  subst hw10
  have hP : va_P (dC, dI) vwCl [(z3, .inl (cB, z4, .inl f5)), (sb, .inr (1, [.ref z3, .int 0, .int mb, .int (nI n)]))] H := hP
  have hD : va_D A [(z3, .inl (cB, z4, .inl f5)), (sb, .inr (1, [.ref z3, .int 0, .int mb, .int (nI n)]))] := hD
  refine W.widen (k := 1) (n := 34) (by omega) (by omega) ?_
  refine lv_if_eq (tgt := 45) hx hb xdJ5_append_3fe6f_14 (by decide) (fun k12 => absurd k12 (by decide)) (fun _ => ?_)
  refine lv_iload_n hx hb xdJ5_append_3fe6f_17 rfl (lv_at hl 1 rfl) ?_
  refine ca_i (wr := [(z3, .inl (cB, z4, .inl f5)), (sb, .inr (1, [.ref z3, .int 0, .int mb, .int (nI n)]))]) (rn_S (n := 1) (As := [.int (nI ch)]) (rest := []) hx hb hml hown ht hKK hFx hP hD hS hA (c_sx_canEnc l dC dI cI cB cZ cJ cR tb H.size ch (by first | assumption | omega | rfl | exact sb_fit0)) xw_52 xw_53 (by decide +kernel) rfl rfl ⟨Nat.le_of_ble_eq_true rfl, Nat.le_of_ble_eq_true rfl⟩ [] rfl (by decide) rfl hl.1 rfl (Nat.le_of_ble_eq_true rfl) xdJ5_append_3fe6f_18 ⟨Nat.le_of_ble_eq_true rfl, Nat.le_of_ble_eq_true rfl⟩) hP hD hS hA (isC := []) (isR := [0, 1]) rfl rfl (by decide) (by decide) (fun r14 u H locs hw13 hP hD hS => ?_)
  subst hw13
  have hP : va_P (dC, dI) vwCl [(z3, .inl (cB, z4, .inl f5)), (sb, .inr (1, [.ref z3, .int 0, .int mb, .int (nI n)]))] H := hP
  have hD : va_D A [(z3, .inl (cB, z4, .inl f5)), (sb, .inr (1, [.ref z3, .int 0, .int mb, .int (nI n)]))] := hD
  refine W.widen (k := 1) (n := 34) (by omega) (by omega) ?_
  refine lv_if_eq (tgt := 45) hx hb xdJ5_append_3fe6f_21 (by decide) (fun k15 => absurd k15 (by decide)) (fun _ => ?_)
  refine lv_aload_n hx hb xdJ5_append_3fe6f_24 rfl (lv_at hl 0 rfl) ?_
  refine va_get (D := (dC, dI)) (ci := 1) (v := .ref z3) (C := RJ4) (T := TJ4) (N := 4) hx hb ht xiJ4 hown hK hP 1 rfl rfl 0 (by decide) (ht _ xw_21) (fun _ h9 => h9) rfl xdJ5_append_3fe6f_25 ?_
  refine lv_aload_n hx hb xdJ5_append_3fe6f_28 rfl (lv_at hl 0 rfl) ?_
  refine lv_dup hx hb xdJ5_append_3fe6f_29 rfl ?_
  refine va_get (D := (dC, dI)) (ci := 1) (v := .int (nI n)) (C := RJ4) (T := TJ4) (N := 4) hx hb ht xiJ4 hown hK hP 1 rfl rfl 3 (by decide) (ht _ xw_40) (fun _ h9 => h9) rfl xdJ5_append_3fe6f_30 ?_
  refine lv_dup_x1 hx hb xdJ5_append_3fe6f_33 rfl rfl ?_
  refine lv_iconst (v := 1) hx hb xdJ5_append_3fe6f_34 (by decide) ?_
  refine lv_iadd hx hb xdJ5_append_3fe6f_35 ?_
  refine tp_i (y := (nI (n + 1))) (nI_add _ _) ?_
  refine va_put (D := (dC, dI)) (ci := 1) (v := .int (nI (n + 1))) (ty := .int) (C := RJ4) (T := TJ4) (N := 4) hx hb ht xiJ4 tyJ4 tyJ4_ok nmJ4 hown hK hP hD hS 1 rfl rfl 3 (by decide) (ht _ xw_40) (fun _ h9 => h9) rfl (by decide +kernel) rfl rfl (Nat.le_of_ble_eq_true rfl) xdJ5_append_3fe6f_36 (fun H locs hP hD hS => ?_)
  have hP : va_P (dC, dI) vwCl [(z3, .inl (cB, z4, .inl f5)), (sb, .inr (1, [.ref z3, .int 0, .int mb, .int (nI (n + 1))]))] H := hP
  have hD : va_D A [(z3, .inl (cB, z4, .inl f5)), (sb, .inr (1, [.ref z3, .int 0, .int mb, .int (nI (n + 1))]))] := hD
  refine lv_iload_n hx hb xdJ5_append_3fe6f_39 rfl (lv_at hl 1 rfl) ?_
  refine lv_i2b hx hb xdJ5_append_3fe6f_40 rfl ?_
  refine va_bast (D := (dC, dI)) hx hb hK hP hD hS 0 1 rfl rfl (show vp_in (nI n) z4 from vp_in_nI (by omega) (by omega)) xdJ5_append_3fe6f_41 (fun H locs hP hD hS => ?_)
  have hP : va_P (dC, dI) vwCl [(z3, .inl (cB, z4, .inl (upd f5 (nI n).toNatClampNeg (vp_nar .byte ((nI ch).toInt8.toInt32))))), (sb, .inr (1, [.ref z3, .int 0, .int mb, .int (nI (n + 1))]))] H := hP
  have hD : va_D A [(z3, .inl (cB, z4, .inl (upd f5 (nI n).toNatClampNeg (vp_nar .byte ((nI ch).toInt8.toInt32))))), (sb, .inr (1, [.ref z3, .int 0, .int mb, .int (nI (n + 1))]))] := hD
  have hg_f16 : sb_Fit (upd f5 (nI n).toNatClampNeg (vp_nar .byte ((nI ch).toInt8.toInt32))) := sb_fitU (by assumption) (fit_nar _)
  generalize he_f16 : upd f5 (nI n).toNatClampNeg (vp_nar .byte ((nI ch).toInt8.toInt32)) = f16 at hP hD hg_f16
  refine lv_goto (tgt := 75) hx hb xdJ5_append_3fe6f_42 (by decide) ?_
  refine lv_aload_n hx hb xdJ5_append_3fe6f_75 rfl (lv_at hl 0 rfl) ?_
  have hP9 := hP.sub (ws' := [(sb, .inr (1, [.ref z3, .int 0, .int mb, .int (nI (n + 1))])), (z3, .inl (cB, z4, .inl f16))]) [1, 0] rfl
  have hD9 := hD.sub (ws' := [(sb, .inr (1, [.ref z3, .int 0, .int mb, .int (nI (n + 1))])), (z3, .inl (cB, z4, .inl f16))]) [1, 0] (by decide) rfl
  refine W.widen (k := 1) (n := 34) (by omega) (by omega) ?_
  exact W.aret (v := .ref sb) hx hb hr (Or.inl ⟨_, rfl⟩) (Or.inr ⟨_, rfl⟩) (fun t ht9 hW => ⟨⟨((n + 1), z3, z4, f16), sb, rfl, ⟨(by first | assumption | omega | (dsimp only; omega) | (dsimp only; assumption) | rfl), (by first | assumption | omega | (dsimp only; omega) | (dsimp only; assumption) | rfl), (by first | assumption | omega | (dsimp only; omega) | (dsimp only; assumption) | rfl), (by first | assumption | omega | (dsimp only; omega) | (dsimp only; assumption) | rfl), (TA.tr g9 (TA.put he_f16 (by omega)))⟩, rfl, by rw [ht9]; exact hP9, hD9⟩, hS.F ht9⟩) hS.2.2 xdJ5_append_3fe6f_76
set_option maxHeartbeats 16000000 in
set_option maxRecDepth 100000 in
/-- StringBuilder.append(char): there is room -/
theorem c_sx_acA (l : Launch) (dC : Nat → ClassId) (dI : Nat → Nat → Nat) (cI cB cZ cJ cR : ClassId) (tb : Nat → Nat) (sz : Nat) (sb : Nat) (a : Nat) (m : Nat) (n : Nat) (f : Nat → Int32) (mb : Int32) (ch : Nat) (hm : m = 16 ∨ m = 34) (hf : sb_Fit f) (hc : ch < 256) (h1 : n + 1 ≤ m) : Met l yJ4_append_cf468 (Cond.code yJ4_append_cf468 cJ4_append_cf468 2 (some (.object "java/lang/StringBuilder")) :: tw_W) ({ frames := 2, cells := 0, slots := 0, locals := 43 }) (pc_ (dC, dI) (tyS cI cB cZ cJ cR) tb [(sb, .inr (1, [.ref a, .int 0, .int mb, .int (nI n)])), (a, .inl (cB, m, .inl f))] sz [.ref sb, .int (nI ch)]) (qr_ (dC, dI) [(sb, .inr (1, [.ref a, .int 0, .int mb, .int (nI n)])), (a, .inl (cB, m, .inl f))] sz (fun (u : Nat × (Nat → Int32)) => u.1 = n + 1 ∧ sb_Fit u.2 ∧ TA f n u.2 u.1 [chB ch]) (fun (u : Nat × (Nat → Int32)) => sb) (fun (u : Nat × (Nat → Int32)) => [(sb, .inr (1, [.ref a, .int 0, .int mb, .int (nI u.1)])), (a, .inl (cB, m, .inl u.2))])) 0 0 (va_A [(sb, .inr (1, [.ref a, .int 0, .int mb, .int (nI n)])), (a, .inl (cB, m, .inl f))] sz) := by
  refine Met.ofW (cc := cJ4_append_cf468) (maxL := 2) (ret := (some (.object "java/lang/StringBuilder"))) (by decide) rfl ?_
  intro p e s m9 args below meth c s₁ B hml hv
  obtain ⟨rfl, hsz, hP, hKK, hD0, hFx⟩ := hv
  have hK := hKK.1
  have hx := B.exec
  have hb := B.bytes
  have hr := B.returns
  have ht : ∀ w ∈ tw_W, w.before _ s = true := fun w h => atoms_spec (ws := Cond.code yJ4_append_cf468 cJ4_append_cf468 2 (some (.object "java/lang/StringBuilder")) :: tw_W) B.pre w (List.mem_cons_of_mem _ h)
  have hown : s.vm.findClass RJ4 = some m9.cls := findClass_of_methodNamed B.named
  have hlocks := B.notSynchronized
  subst hsz
  unfold qr_
  have hD := hD0.self (sz := s.heap.size)
  generalize hAe : va_A [(sb, .inr (1, [.ref a, .int 0, .int mb, .int (nI n)])), (a, .inl (cB, m, .inl f))] s.heap.size = A at hD hFx ⊢
  have hA : ∀ q : Nat, s.heap.size ≤ q → A q := fun q h => by rw [← hAe]; exact Or.inr h
  have hS : va_S A s.heap s.heap [] := va_S.rf
  have hP : va_P (dC, dI) vwCl [(sb, .inr (1, [.ref a, .int 0, .int mb, .int (nI n)])), (a, .inl (cB, m, .inl f))] s.heap := hP
  have hl := lv_entry ([.ref sb, .int (nI ch)]) (n := 2) (Nat.le_of_ble_eq_true rfl)
  rw [lg_entry_eq]
  generalize (lg_sl ([.ref sb, .int (nI ch)]) ++ List.replicate (2 - (lg_sl ([.ref sb, .int (nI ch)])).length) Slot.unset).toArray = ls at hl ⊢
  have hl : lv_has ls 2 [(0, .ref sb), (1, .int (nI ch))] := hl
  refine lv_aload_n hx hb xdJ4_append_cf468_0 rfl (lv_at hl 0 rfl) ?_
  refine lv_iload_n hx hb xdJ4_append_cf468_1 rfl (lv_at hl 1 rfl) ?_
  refine ca_r (wr := []) (rn_SU (n := 1) (As := [.int (nI ch)]) (rest := []) hx hb hml hown ht hKK hFx hP hD hS hA (c_sx_ac5A l dC dI cI cB cZ cJ cR tb s.heap.size sb a m n f mb ch (by first | assumption | omega | rfl | exact sb_fit0) (by first | assumption | omega | rfl | exact sb_fit0) (by first | assumption | omega | rfl | exact sb_fit0) (by first | assumption | omega | rfl | exact sb_fit0)) xw_54 xw_55 (by decide +kernel) rfl rfl ⟨Nat.le_of_ble_eq_true rfl, Nat.le_of_ble_eq_true rfl⟩ [0, 1] rfl (by decide) rfl rfl rfl hl.1 rfl (Nat.le_of_ble_eq_true rfl) xdJ4_append_cf468_2 ⟨Nat.le_of_ble_eq_true rfl, Nat.le_of_ble_eq_true rfl⟩) hP hD hS hA (isC := [0, 1]) (isR := []) rfl rfl (by decide) (by decide) (fun u H locs hw1 hP hD hS => ?_)
  obtain ⟨z3, f4⟩ := u
  obtain ⟨g5, g6, g7⟩ := hw1
  have g5 : z3 = n + 1 := g5
  have g6 : sb_Fit f4 := g6
  have g7 : TA f n f4 z3 [chB ch] := g7
  have hP : va_P (dC, dI) vwCl [(sb, .inr (1, [.ref a, .int 0, .int mb, .int (nI z3)])), (a, .inl (cB, m, .inl f4))] H := hP
  have hD : va_D A [(sb, .inr (1, [.ref a, .int 0, .int mb, .int (nI z3)])), (a, .inl (cB, m, .inl f4))] := hD
  refine W.widen (k := 0) (n := 0) (by omega) (by omega) ?_
  refine lv_pop hx hb xdJ4_append_cf468_5 rfl ?_
  refine lv_aload_n hx hb xdJ4_append_cf468_6 rfl (lv_at hl 0 rfl) ?_
  have hP9 := hP.sub (ws' := [(sb, .inr (1, [.ref a, .int 0, .int mb, .int (nI z3)])), (a, .inl (cB, m, .inl f4))]) [0, 1] rfl
  have hD9 := hD.sub (ws' := [(sb, .inr (1, [.ref a, .int 0, .int mb, .int (nI z3)])), (a, .inl (cB, m, .inl f4))]) [0, 1] (by decide) rfl
  refine W.widen (k := 0) (n := 0) (by omega) (by omega) ?_
  exact W.aret (v := .ref sb) hx hb hr (Or.inl ⟨_, rfl⟩) (Or.inr ⟨_, rfl⟩) (fun t ht9 hW => ⟨⟨(z3, f4), sb, rfl, ⟨(by first | assumption | omega | (dsimp only; omega) | (dsimp only; assumption) | rfl), (by first | assumption | omega | (dsimp only; omega) | (dsimp only; assumption) | rfl), (TA.eq g7 (by rfl))⟩, rfl, by rw [ht9]; exact hP9, hD9⟩, hS.F ht9⟩) hS.2.2 xdJ4_append_cf468_7
set_option maxHeartbeats 16000000 in
set_option maxRecDepth 100000 in
/-- StringBuilder.append(char) -/
theorem c_sx_acB (l : Launch) (dC : Nat → ClassId) (dI : Nat → Nat → Nat) (cI cB cZ cJ cR : ClassId) (tb : Nat → Nat) (sz : Nat) (sb : Nat) (a : Nat) (m : Nat) (n : Nat) (f : Nat → Int32) (mb : Int32) (ch : Nat) (hm : m = 16 ∨ m = 34) (hf : sb_Fit f) (hc : ch < 256) (h1 : n + 1 ≤ 33) (hnm : n ≤ m) : Met l yJ4_append_cf468 (Cond.code yJ4_append_cf468 cJ4_append_cf468 2 (some (.object "java/lang/StringBuilder")) :: tw_W) ({ frames := 5, cells := 1, slots := 34, locals := 106 }) (pc_ (dC, dI) (tyS cI cB cZ cJ cR) tb [(sb, .inr (1, [.ref a, .int 0, .int mb, .int (nI n)])), (a, .inl (cB, m, .inl f))] sz [.ref sb, .int (nI ch)]) (qr_ (dC, dI) [(sb, .inr (1, [.ref a, .int 0, .int mb, .int (nI n)])), (a, .inl (cB, m, .inl f))] sz (fun (u : Nat × Nat × Nat × (Nat → Int32)) => u.1 = n + 1 ∧ (u.2.2.1 = 16 ∨ u.2.2.1 = 34) ∧ u.1 ≤ u.2.2.1 ∧ sb_Fit u.2.2.2 ∧ TA f n u.2.2.2 u.1 ([chB ch])) (fun (u : Nat × Nat × Nat × (Nat → Int32)) => sb) (fun (u : Nat × Nat × Nat × (Nat → Int32)) => [(sb, .inr (1, [.ref u.2.1, .int 0, .int mb, .int (nI u.1)])), (u.2.1, .inl (cB, u.2.2.1, .inl u.2.2.2))])) 1 34 (va_A [(sb, .inr (1, [.ref a, .int 0, .int mb, .int (nI n)])), (a, .inl (cB, m, .inl f))] sz) := by
  refine Met.ofW (cc := cJ4_append_cf468) (maxL := 2) (ret := (some (.object "java/lang/StringBuilder"))) (by decide) rfl ?_
  intro p e s m9 args below meth c s₁ B hml hv
  obtain ⟨rfl, hsz, hP, hKK, hD0, hFx⟩ := hv
  have hK := hKK.1
  have hx := B.exec
  have hb := B.bytes
  have hr := B.returns
  have ht : ∀ w ∈ tw_W, w.before _ s = true := fun w h => atoms_spec (ws := Cond.code yJ4_append_cf468 cJ4_append_cf468 2 (some (.object "java/lang/StringBuilder")) :: tw_W) B.pre w (List.mem_cons_of_mem _ h)
  have hown : s.vm.findClass RJ4 = some m9.cls := findClass_of_methodNamed B.named
  have hlocks := B.notSynchronized
  subst hsz
  unfold qr_
  have hD := hD0.self (sz := s.heap.size)
  generalize hAe : va_A [(sb, .inr (1, [.ref a, .int 0, .int mb, .int (nI n)])), (a, .inl (cB, m, .inl f))] s.heap.size = A at hD hFx ⊢
  have hA : ∀ q : Nat, s.heap.size ≤ q → A q := fun q h => by rw [← hAe]; exact Or.inr h
  have hS : va_S A s.heap s.heap [] := va_S.rf
  have hP : va_P (dC, dI) vwCl [(sb, .inr (1, [.ref a, .int 0, .int mb, .int (nI n)])), (a, .inl (cB, m, .inl f))] s.heap := hP
  have hl := lv_entry ([.ref sb, .int (nI ch)]) (n := 2) (Nat.le_of_ble_eq_true rfl)
  rw [lg_entry_eq]
  generalize (lg_sl ([.ref sb, .int (nI ch)]) ++ List.replicate (2 - (lg_sl ([.ref sb, .int (nI ch)])).length) Slot.unset).toArray = ls at hl ⊢
  have hl : lv_has ls 2 [(0, .ref sb), (1, .int (nI ch))] := hl
  refine lv_aload_n hx hb xdJ4_append_cf468_0 rfl (lv_at hl 0 rfl) ?_
  refine lv_iload_n hx hb xdJ4_append_cf468_1 rfl (lv_at hl 1 rfl) ?_
  refine ca_r (wr := []) (rn_SU (n := 1) (As := [.int (nI ch)]) (rest := []) hx hb hml hown ht hKK hFx hP hD hS hA (c_sx_ac5B l dC dI cI cB cZ cJ cR tb s.heap.size sb a m n f mb ch (by first | assumption | omega | rfl | exact sb_fit0) (by first | assumption | omega | rfl | exact sb_fit0) (by first | assumption | omega | rfl | exact sb_fit0) (by first | assumption | omega | rfl | exact sb_fit0) (by first | assumption | omega | rfl | exact sb_fit0)) xw_54 xw_55 (by decide +kernel) rfl rfl ⟨Nat.le_of_ble_eq_true rfl, Nat.le_of_ble_eq_true rfl⟩ [0, 1] rfl (by decide) rfl rfl rfl hl.1 rfl (Nat.le_of_ble_eq_true rfl) xdJ4_append_cf468_2 ⟨Nat.le_of_ble_eq_true rfl, Nat.le_of_ble_eq_true rfl⟩) hP hD hS hA (isC := [0, 1]) (isR := []) rfl rfl (by decide) (by decide) (fun u H locs hw1 hP hD hS => ?_)
  obtain ⟨z3, z4, z5, f6⟩ := u
  obtain ⟨g7, g8, g9, g10, g11⟩ := hw1
  have g7 : z3 = n + 1 := g7
  have g8 : z5 = 16 ∨ z5 = 34 := g8
  have g9 : z3 ≤ z5 := g9
  have g10 : sb_Fit f6 := g10
  have g11 : TA f n f6 z3 ([chB ch]) := g11
  have hP : va_P (dC, dI) vwCl [(sb, .inr (1, [.ref z4, .int 0, .int mb, .int (nI z3)])), (z4, .inl (cB, z5, .inl f6))] H := hP
  have hD : va_D A [(sb, .inr (1, [.ref z4, .int 0, .int mb, .int (nI z3)])), (z4, .inl (cB, z5, .inl f6))] := hD
  refine W.widen (k := 1) (n := 34) (by omega) (by omega) ?_
  refine lv_pop hx hb xdJ4_append_cf468_5 rfl ?_
  refine lv_aload_n hx hb xdJ4_append_cf468_6 rfl (lv_at hl 0 rfl) ?_
  have hP9 := hP.sub (ws' := [(sb, .inr (1, [.ref z4, .int 0, .int mb, .int (nI z3)])), (z4, .inl (cB, z5, .inl f6))]) [0, 1] rfl
  have hD9 := hD.sub (ws' := [(sb, .inr (1, [.ref z4, .int 0, .int mb, .int (nI z3)])), (z4, .inl (cB, z5, .inl f6))]) [0, 1] (by decide) rfl
  refine W.widen (k := 1) (n := 34) (by omega) (by omega) ?_
  exact W.aret (v := .ref sb) hx hb hr (Or.inl ⟨_, rfl⟩) (Or.inr ⟨_, rfl⟩) (fun t ht9 hW => ⟨⟨(z3, z4, z5, f6), sb, rfl, ⟨(by first | assumption | omega | (dsimp only; omega) | (dsimp only; assumption) | rfl), (by first | assumption | omega | (dsimp only; omega) | (dsimp only; assumption) | rfl), (by first | assumption | omega | (dsimp only; omega) | (dsimp only; assumption) | rfl), (by first | assumption | omega | (dsimp only; omega) | (dsimp only; assumption) | rfl), (TA.eq g11 (by rfl))⟩, rfl, by rw [ht9]; exact hP9, hD9⟩, hS.F ht9⟩) hS.2.2 xdJ4_append_cf468_7
set_option maxHeartbeats 16000000 in
set_option maxRecDepth 100000 in
/-- inflateIfNeededFor -/
theorem c_sx_infl (l : Launch) (dC : Nat → ClassId) (dI : Nat → Nat → Nat) (cI cB cZ cJ cR : ClassId) (tb : Nat → Nat) (sz : Nat) (sb : Nat) (a : Nat) (n : Nat) (mb : Int32) (i : Nat) (hi : i < 66) : Met l yJ5_inflateIfNeededFor_a7421 (Cond.code yJ5_inflateIfNeededFor_a7421 cJ5_inflateIfNeededFor_a7421 2 none :: tw_W) ({ frames := 1, cells := 0, slots := 0, locals := 20 }) (pc_ (dC, dI) (tyS cI cB cZ cJ cR) tb [(sb, .inr (1, [.ref a, .int 0, .int mb, .int (nI n)]))] sz [.ref sb, .ref (tb (100 + i))]) (qv_ (dC, dI) [(sb, .inr (1, [.ref a, .int 0, .int mb, .int (nI n)]))] sz (fun (u : Unit) => True) (fun (u : Unit) => [(sb, .inr (1, [.ref a, .int 0, .int mb, .int (nI n)]))])) 0 0 (va_A [(sb, .inr (1, [.ref a, .int 0, .int mb, .int (nI n)]))] sz) := by
  refine Met.ofW (cc := cJ5_inflateIfNeededFor_a7421) (maxL := 2) (ret := none) (by decide) rfl ?_
  intro p e s m9 args below meth c s₁ B hml hv
  obtain ⟨rfl, hsz, hP, hKK, hD0, hFx⟩ := hv
  have hK := hKK.1
  have hx := B.exec
  have hb := B.bytes
  have hr := B.returns
  have ht : ∀ w ∈ tw_W, w.before _ s = true := fun w h => atoms_spec (ws := Cond.code yJ5_inflateIfNeededFor_a7421 cJ5_inflateIfNeededFor_a7421 2 none :: tw_W) B.pre w (List.mem_cons_of_mem _ h)
  have hown : s.vm.findClass RJ5 = some m9.cls := findClass_of_methodNamed B.named
  have hlocks := B.notSynchronized
  subst hsz
  unfold qv_
  have hD := hD0.self (sz := s.heap.size)
  generalize hAe : va_A [(sb, .inr (1, [.ref a, .int 0, .int mb, .int (nI n)]))] s.heap.size = A at hD hFx ⊢
  have hA : ∀ q : Nat, s.heap.size ≤ q → A q := fun q h => by rw [← hAe]; exact Or.inr h
  have hS : va_S A s.heap s.heap [] := va_S.rf
  have hP : va_P (dC, dI) vwCl [(sb, .inr (1, [.ref a, .int 0, .int mb, .int (nI n)]))] s.heap := hP
  have hl := lv_entry ([.ref sb, .ref (tb (100 + i))]) (n := 2) (Nat.le_of_ble_eq_true rfl)
  rw [lg_entry_eq]
  generalize (lg_sl ([.ref sb, .ref (tb (100 + i))]) ++ List.replicate (2 - (lg_sl ([.ref sb, .ref (tb (100 + i))])).length) Slot.unset).toArray = ls at hl ⊢
  have hl : lv_has ls 2 [(0, .ref sb), (1, .ref (tb (100 + i)))] := hl
  refine va_gets hx hb hFx.1 hS hown (ht _ xw_14) (fun _ h9 => h9) xdJ5_inflateIfNeededFor_a7421_0 ?_
  refine lv_if_eq (tgt := 21) hx hb xdJ5_inflateIfNeededFor_a7421_3 (by decide) (fun k1 => absurd k1 (by decide)) (fun _ => ?_)
  refine lv_aload_n hx hb xdJ5_inflateIfNeededFor_a7421_6 rfl (lv_at hl 0 rfl) ?_
  refine va_get (D := (dC, dI)) (ci := 1) (v := .int 0) (C := RJ4) (T := TJ4) (N := 4) hx hb ht xiJ4 hown hK hP 0 rfl rfl 1 (by decide) (ht _ xw_15) (fun _ h9 => h9) rfl xdJ5_inflateIfNeededFor_a7421_7 ?_
  refine lv_aload_n hx hb xdJ5_inflateIfNeededFor_a7421_10 rfl (lv_at hl 1 rfl) ?_
  refine ca_i (wr := [(sb, .inr (1, [.ref a, .int 0, .int mb, .int (nI n)]))]) (rn_VS (n := 0) (As := []) (rest := [.int 0]) hx hb hml hown ht hKK hFx hP hD hS hA (i := i) (by assumption) (c_sx_coder l dC dI cI cB cZ cJ cR tb s.heap.size i (by first | assumption | omega | rfl | exact sb_fit0)) xw_3 xw_56 (by decide +kernel) rfl rfl ⟨Nat.le_of_ble_eq_true rfl, Nat.le_of_ble_eq_true rfl⟩ [] rfl (by decide) rfl hl.1 rfl (Nat.le_of_ble_eq_true rfl) xdJ5_inflateIfNeededFor_a7421_11 ⟨Nat.le_of_ble_eq_true rfl, Nat.le_of_ble_eq_true rfl⟩) hP hD hS hA (isC := []) (isR := [0]) rfl rfl (by decide) (by decide) (fun r3 u H locs hw2 hP hD hS => ?_)
  subst hw2
  have hP : va_P (dC, dI) vwCl [(sb, .inr (1, [.ref a, .int 0, .int mb, .int (nI n)]))] H := hP
  have hD : va_D A [(sb, .inr (1, [.ref a, .int 0, .int mb, .int (nI n)]))] := hD
  refine W.widen (k := 0) (n := 0) (by omega) (by omega) ?_
  refine lv_icmp_eq (tgt := 21) hx hb xdJ5_inflateIfNeededFor_a7421_14 (by decide) (fun _ => ?_) (fun k4 => absurd k4 (by decide))
  have hP9 := hP.sub (ws' := [(sb, .inr (1, [.ref a, .int 0, .int mb, .int (nI n)]))]) [0] rfl
  have hD9 := hD.sub (ws' := [(sb, .inr (1, [.ref a, .int 0, .int mb, .int (nI n)]))]) [0] (by decide) rfl
  refine W.widen (k := 0) (n := 0) (by omega) (by omega) ?_
  exact W.vret hx hb hr (fun t ht9 hW => ⟨⟨(), rfl, trivial, by rw [ht9]; exact hP9, hD9⟩, hS.F ht9⟩) hS.2.2 xdJ5_inflateIfNeededFor_a7421_21
set_option maxHeartbeats 16000000 in
set_option maxRecDepth 100000 in
/-- String.getBytes -/
theorem c_sx_getB (l : Launch) (dC : Nat → ClassId) (dI : Nat → Nat → Nat) (cI cB cZ cJ cR : ClassId) (tb : Nat → Nat) (sz : Nat) (i : Nat) (a : Nat) (m : Nat) (n : Nat) (f : Nat → Int32) (hi : i < 66) (hm : m = 16 ∨ m = 34) (hf : sb_Fit f) (h1 : n + lenS.getD i 0 ≤ m) : Met l yJ0_getBytes_840e7 (Cond.code yJ0_getBytes_840e7 cJ0_getBytes_840e7 4 none :: tw_W) ({ frames := 1, cells := 0, slots := 0, locals := 40 }) (pc_ (dC, dI) (tyS cI cB cZ cJ cR) tb [(a, .inl (cB, m, .inl f))] sz [.ref (tb (100 + i)), .ref a, .int (nI n), .int 0]) (qv_ (dC, dI) [(a, .inl (cB, m, .inl f))] sz (fun (u : (Nat → Int32)) => sb_Fit u ∧ TA f n u (n + lenS.getD i 0) (strT i)) (fun (u : (Nat → Int32)) => [(a, .inl (cB, m, .inl u))])) 0 0 (va_A [(a, .inl (cB, m, .inl f))] sz) := by
  refine Met.ofW (cc := cJ0_getBytes_840e7) (maxL := 4) (ret := none) (by decide) rfl ?_
  intro p e s m9 args below meth c s₁ B hml hv
  obtain ⟨rfl, hsz, hP, hKK, hD0, hFx⟩ := hv
  have hK := hKK.1
  have hx := B.exec
  have hb := B.bytes
  have hr := B.returns
  have ht : ∀ w ∈ tw_W, w.before _ s = true := fun w h => atoms_spec (ws := Cond.code yJ0_getBytes_840e7 cJ0_getBytes_840e7 4 none :: tw_W) B.pre w (List.mem_cons_of_mem _ h)
  have hown : s.vm.findClass RJ0 = some m9.cls := findClass_of_methodNamed B.named
  have hlocks := B.notSynchronized
  subst hsz
  unfold qv_
  have hD := hD0.self (sz := s.heap.size)
  generalize hAe : va_A [(a, .inl (cB, m, .inl f))] s.heap.size = A at hD hFx ⊢
  have hA : ∀ q : Nat, s.heap.size ≤ q → A q := fun q h => by rw [← hAe]; exact Or.inr h
  have hS : va_S A s.heap s.heap [] := va_S.rf
  have hP : va_P (dC, dI) vwCl [(a, .inl (cB, m, .inl f))] s.heap := hP
  have hl := lv_entry ([.ref (tb (100 + i)), .ref a, .int (nI n), .int 0]) (n := 4) (Nat.le_of_ble_eq_true rfl)
  rw [lg_entry_eq]
  generalize (lg_sl ([.ref (tb (100 + i)), .ref a, .int (nI n), .int 0]) ++ List.replicate (4 - (lg_sl ([.ref (tb (100 + i)), .ref a, .int (nI n), .int 0])).length) Slot.unset).toArray = ls at hl ⊢
  have hl : lv_has ls 4 [(0, .ref (tb (100 + i))), (1, .ref a), (2, .int (nI n)), (3, .int 0)] := hl
  refine lv_aload_n hx hb xdJ0_getBytes_840e7_0 rfl (lv_at hl 0 rfl) ?_
  refine ca_i (wr := [(a, .inl (cB, m, .inl f))]) (rn_VS (n := 0) (As := []) (rest := []) hx hb hml hown ht hKK hFx hP hD hS hA (i := i) (by assumption) (c_sx_coder l dC dI cI cB cZ cJ cR tb s.heap.size i (by first | assumption | omega | rfl | exact sb_fit0)) xw_3 xw_4 (by decide +kernel) rfl rfl ⟨Nat.le_of_ble_eq_true rfl, Nat.le_of_ble_eq_true rfl⟩ [] rfl (by decide) rfl hl.1 rfl (Nat.le_of_ble_eq_true rfl) xdJ0_getBytes_840e7_1 ⟨Nat.le_of_ble_eq_true rfl, Nat.le_of_ble_eq_true rfl⟩) hP hD hS hA (isC := []) (isR := [0]) rfl rfl (by decide) (by decide) (fun r2 u H locs hw1 hP hD hS => ?_)
  subst hw1
  have hP : va_P (dC, dI) vwCl [(a, .inl (cB, m, .inl f))] H := hP
  have hD : va_D A [(a, .inl (cB, m, .inl f))] := hD
  refine W.widen (k := 0) (n := 0) (by omega) (by omega) ?_
  refine lv_iload_n hx hb xdJ0_getBytes_840e7_4 rfl (lv_at hl 3 rfl) ?_
  refine lv_icmp_ne (tgt := 28) hx hb xdJ0_getBytes_840e7_5 (by decide) (fun k3 => absurd k3 (by decide)) (fun _ => ?_)
  refine lv_aload_n hx hb xdJ0_getBytes_840e7_8 rfl (lv_at hl 0 rfl) ?_
  refine vk_getf hx hb (hFx.2.2.2.2.2.2.1 i (by assumption)).2.2.1 hS hown (ht _ xw_2) (fun _ h9 => h9) xdJ0_getBytes_840e7_9 ?_
  refine lv_iconst (v := 0) hx hb xdJ0_getBytes_840e7_12 (by decide) ?_
  refine lv_aload_n hx hb xdJ0_getBytes_840e7_13 rfl (lv_at hl 1 rfl) ?_
  refine lv_iload_n hx hb xdJ0_getBytes_840e7_14 rfl (lv_at hl 2 rfl) ?_
  refine lv_iload_n hx hb xdJ0_getBytes_840e7_15 rfl (lv_at hl 3 rfl) ?_
  refine lv_ishl hx hb xdJ0_getBytes_840e7_16 ?_
  refine tp_i (y := (nI n)) (sb_shl0 _) ?_
  refine lv_aload_n hx hb xdJ0_getBytes_840e7_17 rfl (lv_at hl 0 rfl) ?_
  refine vk_getf hx hb (hFx.2.2.2.2.2.2.1 i (by assumption)).2.2.1 hS hown (ht _ xw_2) (fun _ h9 => h9) xdJ0_getBytes_840e7_18 ?_
  refine va_tlen (v := (nI (lenS.getD i 0))) hx hb (hFx.2.2.2.2.2.2.1 i (by assumption)).2.2.2 hS rfl xdJ0_getBytes_840e7_21 ?_
  refine vk_copyt (f := fun j => (bytS.getD i []).getD j 0) hx hb (by rw [hml]; exact hl.1.symm) hown (ht _ xw_57) (ht _ xw_30) (ht _ xw_31) (ht _ xw_32) hK hP hD hS (hFx.2.2.2.2.2.2.1 i (by assumption)).2.2.2 0 1 rfl rfl (by decide) (nI_pos (by omega)) (nI_pos (by omega)) (by rw [sb_cl0, nI_clamp (n := (lenS.getD i 0)) (by omega)]; omega) (by rw [nI_clamp (n := n) (by omega), nI_clamp (n := (lenS.getD i 0)) (by omega)]; omega) (fun j _ => bytS_fit i (by assumption) _) (Nat.le_of_ble_eq_true rfl) (Nat.le_of_ble_eq_true rfl) xdJ0_getBytes_840e7_22 (fun H locs hP hD hS => ?_)
  have hP : va_P (dC, dI) vwCl [(a, .inl (cB, m, .inl (va_cpy (fun j => (bytS.getD i []).getD j 0) f ((0 : Int32)).toNatClampNeg (nI n).toNatClampNeg (nI (lenS.getD i 0)).toNatClampNeg)))] H := hP
  have hD : va_D A [(a, .inl (cB, m, .inl (va_cpy (fun j => (bytS.getD i []).getD j 0) f ((0 : Int32)).toNatClampNeg (nI n).toNatClampNeg (nI (lenS.getD i 0)).toNatClampNeg)))] := hD
  have hg_f4 : sb_Fit (va_cpy (fun j => (bytS.getD i []).getD j 0) f ((0 : Int32)).toNatClampNeg (nI n).toNatClampNeg (nI (lenS.getD i 0)).toNatClampNeg) := sb_fitC (fun j => bytS_fit i (by assumption) _) (by assumption)
  generalize he_f4 : va_cpy (fun j => (bytS.getD i []).getD j 0) f ((0 : Int32)).toNatClampNeg (nI n).toNatClampNeg (nI (lenS.getD i 0)).toNatClampNeg = f4 at hP hD hg_f4
  refine lv_goto (tgt := 43) hx hb xdJ0_getBytes_840e7_25 (by decide) ?_
  have hP9 := hP.sub (ws' := [(a, .inl (cB, m, .inl f4))]) [0] rfl
  have hD9 := hD.sub (ws' := [(a, .inl (cB, m, .inl f4))]) [0] (by decide) rfl
  refine W.widen (k := 0) (n := 0) (by omega) (by omega) ?_
  exact W.vret hx hb hr (fun t ht9 hW => ⟨⟨f4, rfl, ⟨(by assumption), (TA.str hi he_f4 (by omega))⟩, by rw [ht9]; exact hP9, hD9⟩, hS.F ht9⟩) hS.2.2 xdJ0_getBytes_840e7_43
set_option maxHeartbeats 16000000 in
set_option maxRecDepth 100000 in
/-- putStringAt -/
theorem c_sx_putS (l : Launch) (dC : Nat → ClassId) (dI : Nat → Nat → Nat) (cI cB cZ cJ cR : ClassId) (tb : Nat → Nat) (sz : Nat) (sb : Nat) (a : Nat) (m : Nat) (n : Nat) (f : Nat → Int32) (mb : Int32) (i : Nat) (hm : m = 16 ∨ m = 34) (hf : sb_Fit f) (hi : i < 66) (h1 : n + lenS.getD i 0 ≤ m) : Met l yJ5_putStringAt_47b60 (Cond.code yJ5_putStringAt_47b60 cJ5_putStringAt_47b60 3 none :: tw_W) ({ frames := 2, cells := 0, slots := 0, locals := 63 }) (pc_ (dC, dI) (tyS cI cB cZ cJ cR) tb [(sb, .inr (1, [.ref a, .int 0, .int mb, .int (nI n)])), (a, .inl (cB, m, .inl f))] sz [.ref sb, .int (nI n), .ref (tb (100 + i))]) (qv_ (dC, dI) [(sb, .inr (1, [.ref a, .int 0, .int mb, .int (nI n)])), (a, .inl (cB, m, .inl f))] sz (fun (u : (Nat → Int32)) => sb_Fit u ∧ TA f n u (n + lenS.getD i 0) (strT i)) (fun (u : (Nat → Int32)) => [(sb, .inr (1, [.ref a, .int 0, .int mb, .int (nI n)])), (a, .inl (cB, m, .inl u))])) 0 0 (va_A [(sb, .inr (1, [.ref a, .int 0, .int mb, .int (nI n)])), (a, .inl (cB, m, .inl f))] sz) := by
  refine Met.ofW (cc := cJ5_putStringAt_47b60) (maxL := 3) (ret := none) (by decide) rfl ?_
  intro p e s m9 args below meth c s₁ B hml hv
  obtain ⟨rfl, hsz, hP, hKK, hD0, hFx⟩ := hv
  have hK := hKK.1
  have hx := B.exec
  have hb := B.bytes
  have hr := B.returns
  have ht : ∀ w ∈ tw_W, w.before _ s = true := fun w h => atoms_spec (ws := Cond.code yJ5_putStringAt_47b60 cJ5_putStringAt_47b60 3 none :: tw_W) B.pre w (List.mem_cons_of_mem _ h)
  have hown : s.vm.findClass RJ5 = some m9.cls := findClass_of_methodNamed B.named
  have hlocks := B.notSynchronized
  subst hsz
  unfold qv_
  have hD := hD0.self (sz := s.heap.size)
  generalize hAe : va_A [(sb, .inr (1, [.ref a, .int 0, .int mb, .int (nI n)])), (a, .inl (cB, m, .inl f))] s.heap.size = A at hD hFx ⊢
  have hA : ∀ q : Nat, s.heap.size ≤ q → A q := fun q h => by rw [← hAe]; exact Or.inr h
  have hS : va_S A s.heap s.heap [] := va_S.rf
  have hP : va_P (dC, dI) vwCl [(sb, .inr (1, [.ref a, .int 0, .int mb, .int (nI n)])), (a, .inl (cB, m, .inl f))] s.heap := hP
  have hl := lv_entry ([.ref sb, .int (nI n), .ref (tb (100 + i))]) (n := 3) (Nat.le_of_ble_eq_true rfl)
  rw [lg_entry_eq]
  generalize (lg_sl ([.ref sb, .int (nI n), .ref (tb (100 + i))]) ++ List.replicate (3 - (lg_sl ([.ref sb, .int (nI n), .ref (tb (100 + i))])).length) Slot.unset).toArray = ls at hl ⊢
  have hl : lv_has ls 3 [(0, .ref sb), (1, .int (nI n)), (2, .ref (tb (100 + i)))] := hl
  refine lv_aload_n hx hb xdJ5_putStringAt_47b60_0 rfl (lv_at hl 0 rfl) ?_
  refine lv_aload_n hx hb xdJ5_putStringAt_47b60_1 rfl (lv_at hl 2 rfl) ?_
  refine ca_v (wr := [(a, .inl (cB, m, .inl f))]) (rn_V5 (n := 1) (As := [.ref (tb (100 + i))]) (rest := []) hx hb hml hown ht hKK hFx hP hD hS hA (c_sx_infl l dC dI cI cB cZ cJ cR tb s.heap.size sb a n mb i (by first | assumption | omega | rfl | exact sb_fit0)) xw_58 xw_59 xw_60 (tw_p (by decide)) xw_61 xw_62 (by decide +kernel) rfl rfl ⟨Nat.le_of_ble_eq_true rfl, Nat.le_of_ble_eq_true rfl⟩ [0] rfl (by decide) rfl rfl rfl rfl hl.1 rfl (Nat.le_of_ble_eq_true rfl) xdJ5_putStringAt_47b60_2 ⟨Nat.le_of_ble_eq_true rfl, Nat.le_of_ble_eq_true rfl⟩) hP hD hS hA (isC := [0]) (isR := [1]) rfl rfl (by decide) (by decide) (fun u H locs hw1 hP hD hS => ?_)
  have hP : va_P (dC, dI) vwCl [(a, .inl (cB, m, .inl f)), (sb, .inr (1, [.ref a, .int 0, .int mb, .int (nI n)]))] H := hP
  have hD : va_D A [(a, .inl (cB, m, .inl f)), (sb, .inr (1, [.ref a, .int 0, .int mb, .int (nI n)]))] := hD
  refine W.widen (k := 0) (n := 0) (by omega) (by omega) ?_
  refine lv_aload_n hx hb xdJ5_putStringAt_47b60_5 rfl (lv_at hl 2 rfl) ?_
  refine lv_aload_n hx hb xdJ5_putStringAt_47b60_6 rfl (lv_at hl 0 rfl) ?_
  refine va_get (D := (dC, dI)) (ci := 1) (v := .ref a) (C := RJ4) (T := TJ4) (N := 4) hx hb ht xiJ4 hown hK hP 1 rfl rfl 0 (by decide) (ht _ xw_21) (fun _ h9 => h9) rfl xdJ5_putStringAt_47b60_7 ?_
  refine lv_iload_n hx hb xdJ5_putStringAt_47b60_10 rfl (lv_at hl 1 rfl) ?_
  refine lv_aload_n hx hb xdJ5_putStringAt_47b60_11 rfl (lv_at hl 0 rfl) ?_
  refine va_get (D := (dC, dI)) (ci := 1) (v := .int 0) (C := RJ4) (T := TJ4) (N := 4) hx hb ht xiJ4 hown hK hP 1 rfl rfl 1 (by decide) (ht _ xw_15) (fun _ h9 => h9) rfl xdJ5_putStringAt_47b60_12 ?_
  refine ca_v (wr := [(sb, .inr (1, [.ref a, .int 0, .int mb, .int (nI n)]))]) (rn_VS (n := 3) (As := [.ref a, .int (nI n), .int 0]) (rest := []) hx hb hml hown ht hKK hFx hP hD hS hA (i := i) (by assumption) (c_sx_getB l dC dI cI cB cZ cJ cR tb H.size i a m n f (by first | assumption | omega | rfl | exact sb_fit0) (by first | assumption | omega | rfl | exact sb_fit0) (by first | assumption | omega | rfl | exact sb_fit0) (by first | assumption | omega | rfl | exact sb_fit0)) xw_63 xw_64 (by decide +kernel) rfl rfl ⟨Nat.le_of_ble_eq_true rfl, Nat.le_of_ble_eq_true rfl⟩ [0] rfl (by decide) rfl hl.1 rfl (Nat.le_of_ble_eq_true rfl) xdJ5_putStringAt_47b60_15 ⟨Nat.le_of_ble_eq_true rfl, Nat.le_of_ble_eq_true rfl⟩) hP hD hS hA (isC := [0]) (isR := [1]) rfl rfl (by decide) (by decide) (fun u H locs hw3 hP hD hS => ?_)
  obtain ⟨f5, hq9⟩ : ∃ z, z = u := ⟨_, rfl⟩
  subst hq9
  obtain ⟨g6, g7⟩ := hw3
  have g6 : sb_Fit f5 := g6
  have g7 : TA f n f5 (n + lenS.getD i 0) (strT i) := g7
  have hP : va_P (dC, dI) vwCl [(sb, .inr (1, [.ref a, .int 0, .int mb, .int (nI n)])), (a, .inl (cB, m, .inl f5))] H := hP
  have hD : va_D A [(sb, .inr (1, [.ref a, .int 0, .int mb, .int (nI n)])), (a, .inl (cB, m, .inl f5))] := hD
  refine W.widen (k := 0) (n := 0) (by omega) (by omega) ?_
  have hP9 := hP.sub (ws' := [(sb, .inr (1, [.ref a, .int 0, .int mb, .int (nI n)])), (a, .inl (cB, m, .inl f5))]) [0, 1] rfl
  have hD9 := hD.sub (ws' := [(sb, .inr (1, [.ref a, .int 0, .int mb, .int (nI n)])), (a, .inl (cB, m, .inl f5))]) [0, 1] (by decide) rfl
  refine W.widen (k := 0) (n := 0) (by omega) (by omega) ?_
  exact W.vret hx hb hr (fun t ht9 hW => ⟨⟨f5, rfl, ⟨(by assumption), (by assumption)⟩, by rw [ht9]; exact hP9, hD9⟩, hS.F ht9⟩) hS.2.2 xdJ5_putStringAt_47b60_18
set_option maxHeartbeats 16000000 in
set_option maxRecDepth 100000 in
/-- AbstractStringBuilder.append(String): there is room -/
theorem c_sx_as5A (l : Launch) (dC : Nat → ClassId) (dI : Nat → Nat → Nat) (cI cB cZ cJ cR : ClassId) (tb : Nat → Nat) (sz : Nat) (sb : Nat) (a : Nat) (m : Nat) (n : Nat) (f : Nat → Int32) (mb : Int32) (i : Nat) (hm : m = 16 ∨ m = 34) (hf : sb_Fit f) (hi : i < 66) (h1 : n + lenS.getD i 0 ≤ m) : Met l yJ5_append_cf1ce (Cond.code yJ5_append_cf1ce cJ5_append_cf1ce 3 (some (.object "java/lang/AbstractStringBuilder")) :: tw_W) ({ frames := 3, cells := 0, slots := 0, locals := 85 }) (pc_ (dC, dI) (tyS cI cB cZ cJ cR) tb [(sb, .inr (1, [.ref a, .int 0, .int mb, .int (nI n)])), (a, .inl (cB, m, .inl f))] sz [.ref sb, .ref (tb (100 + i))]) (qr_ (dC, dI) [(sb, .inr (1, [.ref a, .int 0, .int mb, .int (nI n)])), (a, .inl (cB, m, .inl f))] sz (fun (u : Nat × (Nat → Int32)) => u.1 = n + lenS.getD i 0 ∧ sb_Fit u.2 ∧ TA f n u.2 u.1 (strT i)) (fun (u : Nat × (Nat → Int32)) => sb) (fun (u : Nat × (Nat → Int32)) => [(sb, .inr (1, [.ref a, .int 0, .int mb, .int (nI u.1)])), (a, .inl (cB, m, .inl u.2))])) 0 0 (va_A [(sb, .inr (1, [.ref a, .int 0, .int mb, .int (nI n)])), (a, .inl (cB, m, .inl f))] sz) := by
  refine Met.ofW (cc := cJ5_append_cf1ce) (maxL := 3) (ret := (some (.object "java/lang/AbstractStringBuilder"))) (by decide) rfl ?_
  intro p e s m9 args below meth c s₁ B hml hv
  obtain ⟨rfl, hsz, hP, hKK, hD0, hFx⟩ := hv
  have hK := hKK.1
  have hx := B.exec
  have hb := B.bytes
  have hr := B.returns
  have ht : ∀ w ∈ tw_W, w.before _ s = true := fun w h => atoms_spec (ws := Cond.code yJ5_append_cf1ce cJ5_append_cf1ce 3 (some (.object "java/lang/AbstractStringBuilder")) :: tw_W) B.pre w (List.mem_cons_of_mem _ h)
  have hown : s.vm.findClass RJ5 = some m9.cls := findClass_of_methodNamed B.named
  have hlocks := B.notSynchronized
  subst hsz
  unfold qr_
  have hD := hD0.self (sz := s.heap.size)
  generalize hAe : va_A [(sb, .inr (1, [.ref a, .int 0, .int mb, .int (nI n)])), (a, .inl (cB, m, .inl f))] s.heap.size = A at hD hFx ⊢
  have hA : ∀ q : Nat, s.heap.size ≤ q → A q := fun q h => by rw [← hAe]; exact Or.inr h
  have hS : va_S A s.heap s.heap [] := va_S.rf
  have hP : va_P (dC, dI) vwCl [(sb, .inr (1, [.ref a, .int 0, .int mb, .int (nI n)])), (a, .inl (cB, m, .inl f))] s.heap := hP
  have hl := lv_entry ([.ref sb, .ref (tb (100 + i))]) (n := 3) (Nat.le_of_ble_eq_true rfl)
  rw [lg_entry_eq]
  generalize (lg_sl ([.ref sb, .ref (tb (100 + i))]) ++ List.replicate (3 - (lg_sl ([.ref sb, .ref (tb (100 + i))])).length) Slot.unset).toArray = ls at hl ⊢
  have hl : lv_has ls 3 [(0, .ref sb), (1, .ref (tb (100 + i)))] := hl
  refine lv_aload_n hx hb xdJ5_append_cf1ce_0 rfl (lv_at hl 1 rfl) ?_
  refine lv_ifnonnull (tgt := 9) hx hb xdJ5_append_cf1ce_1 (by decide) ?_
  refine lv_aload_n hx hb xdJ5_append_cf1ce_9 rfl (lv_at hl 1 rfl) ?_
  refine ca_i (wr := [(sb, .inr (1, [.ref a, .int 0, .int mb, .int (nI n)])), (a, .inl (cB, m, .inl f))]) (rn_VS (n := 0) (As := []) (rest := []) hx hb hml hown ht hKK hFx hP hD hS hA (i := i) (by assumption) (c_sx_strLen l dC dI cI cB cZ cJ cR tb s.heap.size i (by first | assumption | omega | rfl | exact sb_fit0)) xw_65 xw_66 (by decide +kernel) rfl rfl ⟨Nat.le_of_ble_eq_true rfl, Nat.le_of_ble_eq_true rfl⟩ [] rfl (by decide) rfl hl.1 rfl (Nat.le_of_ble_eq_true rfl) xdJ5_append_cf1ce_10 ⟨Nat.le_of_ble_eq_true rfl, Nat.le_of_ble_eq_true rfl⟩) hP hD hS hA (isC := []) (isR := [0, 1]) rfl rfl (by decide) (by decide) (fun r2 u H locs hw1 hP hD hS => ?_)
  subst hw1
  have hP : va_P (dC, dI) vwCl [(sb, .inr (1, [.ref a, .int 0, .int mb, .int (nI n)])), (a, .inl (cB, m, .inl f))] H := hP
  have hD : va_D A [(sb, .inr (1, [.ref a, .int 0, .int mb, .int (nI n)])), (a, .inl (cB, m, .inl f))] := hD
  refine W.widen (k := 0) (n := 0) (by omega) (by omega) ?_
  refine lv_istore_n (lv' := [(2, .int (nI (lenS.getD i 0))), (0, .ref sb), (1, .ref (tb (100 + i)))]) hx hb xdJ5_append_cf1ce_13 rfl hl (by decide) rfl (fun ls hl => ?_)
  refine lv_aload_n hx hb xdJ5_append_cf1ce_14 rfl (lv_at hl 1 rfl) ?_
  refine lv_aload_n hx hb xdJ5_append_cf1ce_15 rfl (lv_at hl 1 rfl) ?_
  refine va_get (D := (dC, dI)) (ci := 1) (v := .int (nI n)) (C := RJ4) (T := TJ4) (N := 4) hx hb ht xiJ4 hown hK hP 0 rfl rfl 3 (by decide) (ht _ xw_40) (fun _ h9 => h9) rfl xdJ5_append_cf1ce_16 ?_
  refine lv_iload_n hx hb xdJ5_append_cf1ce_19 rfl (lv_at hl 0 rfl) ?_
  refine lv_iadd hx hb xdJ5_append_cf1ce_20 ?_
  refine tp_i (y := (nI (n + (lenS.getD i 0)))) (nI_add _ _) ?_
  refine ca_v (wr := []) (rn_V5 (n := 1) (As := [.int (nI (n + (lenS.getD i 0)))]) (rest := []) hx hb hml hown ht hKK hFx hP hD hS hA (c_sx_ensA l dC dI cI cB cZ cJ cR tb H.size sb a m n f mb (n + (lenS.getD i 0)) (by first | assumption | omega | rfl | exact sb_fit0) (by first | assumption | omega | rfl | exact sb_fit0) (by first | assumption | omega | rfl | exact sb_fit0)) xw_41 xw_42 xw_43 (tw_p (by decide)) xw_44 xw_45 (by decide +kernel) rfl rfl ⟨Nat.le_of_ble_eq_true rfl, Nat.le_of_ble_eq_true rfl⟩ [0, 1] rfl (by decide) rfl rfl rfl rfl hl.1 rfl (Nat.le_of_ble_eq_true rfl) xdJ5_append_cf1ce_21 ⟨Nat.le_of_ble_eq_true rfl, Nat.le_of_ble_eq_true rfl⟩) hP hD hS hA (isC := [0, 1]) (isR := []) rfl rfl (by decide) (by decide) (fun u H locs hw3 hP hD hS => ?_)
  have hP : va_P (dC, dI) vwCl [(sb, .inr (1, [.ref a, .int 0, .int mb, .int (nI n)])), (a, .inl (cB, m, .inl f))] H := hP
  have hD : va_D A [(sb, .inr (1, [.ref a, .int 0, .int mb, .int (nI n)])), (a, .inl (cB, m, .inl f))] := hD
  refine W.widen (k := 0) (n := 0) (by omega) (by omega) ?_
  refine lv_aload_n hx hb xdJ5_append_cf1ce_24 rfl (lv_at hl 1 rfl) ?_
  refine lv_aload_n hx hb xdJ5_append_cf1ce_25 rfl (lv_at hl 1 rfl) ?_
  refine va_get (D := (dC, dI)) (ci := 1) (v := .int (nI n)) (C := RJ4) (T := TJ4) (N := 4) hx hb ht xiJ4 hown hK hP 0 rfl rfl 3 (by decide) (ht _ xw_40) (fun _ h9 => h9) rfl xdJ5_append_cf1ce_26 ?_
  refine lv_aload_n hx hb xdJ5_append_cf1ce_29 rfl (lv_at hl 2 rfl) ?_
  refine ca_v (wr := []) (rn_V5 (n := 2) (As := [.int (nI n), .ref (tb (100 + i))]) (rest := []) hx hb hml hown ht hKK hFx hP hD hS hA (c_sx_putS l dC dI cI cB cZ cJ cR tb H.size sb a m n f mb i (by first | assumption | omega | rfl | exact sb_fit0) (by first | assumption | omega | rfl | exact sb_fit0) (by first | assumption | omega | rfl | exact sb_fit0) (by first | assumption | omega | rfl | exact sb_fit0)) xw_67 xw_68 xw_69 (tw_p (by decide)) xw_70 xw_71 (by decide +kernel) rfl rfl ⟨Nat.le_of_ble_eq_true rfl, Nat.le_of_ble_eq_true rfl⟩ [0, 1] rfl (by decide) rfl rfl rfl rfl hl.1 rfl (Nat.le_of_ble_eq_true rfl) xdJ5_append_cf1ce_30 ⟨Nat.le_of_ble_eq_true rfl, Nat.le_of_ble_eq_true rfl⟩) hP hD hS hA (isC := [0, 1]) (isR := []) rfl rfl (by decide) (by decide) (fun u H locs hw5 hP hD hS => ?_)
  obtain ⟨f7, hq9⟩ : ∃ z, z = u := ⟨_, rfl⟩
  subst hq9
  obtain ⟨g8, g9⟩ := hw5
  have g8 : sb_Fit f7 := g8
  have g9 : TA f n f7 (n + lenS.getD i 0) (strT i) := g9
  have hP : va_P (dC, dI) vwCl [(sb, .inr (1, [.ref a, .int 0, .int mb, .int (nI n)])), (a, .inl (cB, m, .inl f7))] H := hP
  have hD : va_D A [(sb, .inr (1, [.ref a, .int 0, .int mb, .int (nI n)])), (a, .inl (cB, m, .inl f7))] := hD
  refine W.widen (k := 0) (n := 0) (by omega) (by omega) ?_
  refine lv_aload_n hx hb xdJ5_append_cf1ce_33 rfl (lv_at hl 1 rfl) ?_
  refine lv_dup hx hb xdJ5_append_cf1ce_34 rfl ?_
  refine va_get (D := (dC, dI)) (ci := 1) (v := .int (nI n)) (C := RJ4) (T := TJ4) (N := 4) hx hb ht xiJ4 hown hK hP 0 rfl rfl 3 (by decide) (ht _ xw_40) (fun _ h9 => h9) rfl xdJ5_append_cf1ce_35 ?_
  refine lv_iload_n hx hb xdJ5_append_cf1ce_38 rfl (lv_at hl 0 rfl) ?_
  refine lv_iadd hx hb xdJ5_append_cf1ce_39 ?_
  refine tp_i (y := (nI (n + (lenS.getD i 0)))) (nI_add _ _) ?_
  refine va_put (D := (dC, dI)) (ci := 1) (v := .int (nI (n + (lenS.getD i 0)))) (ty := .int) (C := RJ4) (T := TJ4) (N := 4) hx hb ht xiJ4 tyJ4 tyJ4_ok nmJ4 hown hK hP hD hS 0 rfl rfl 3 (by decide) (ht _ xw_40) (fun _ h9 => h9) rfl (by decide +kernel) rfl rfl (Nat.le_of_ble_eq_true rfl) xdJ5_append_cf1ce_40 (fun H locs hP hD hS => ?_)
  have hP : va_P (dC, dI) vwCl [(sb, .inr (1, [.ref a, .int 0, .int mb, .int (nI (n + (lenS.getD i 0)))])), (a, .inl (cB, m, .inl f7))] H := hP
  have hD : va_D A [(sb, .inr (1, [.ref a, .int 0, .int mb, .int (nI (n + (lenS.getD i 0)))])), (a, .inl (cB, m, .inl f7))] := hD
  refine lv_aload_n hx hb xdJ5_append_cf1ce_43 rfl (lv_at hl 1 rfl) ?_
  have hP9 := hP.sub (ws' := [(sb, .inr (1, [.ref a, .int 0, .int mb, .int (nI (n + (lenS.getD i 0)))])), (a, .inl (cB, m, .inl f7))]) [0, 1] rfl
  have hD9 := hD.sub (ws' := [(sb, .inr (1, [.ref a, .int 0, .int mb, .int (nI (n + (lenS.getD i 0)))])), (a, .inl (cB, m, .inl f7))]) [0, 1] (by decide) rfl
  refine W.widen (k := 0) (n := 0) (by omega) (by omega) ?_
  exact W.aret (v := .ref sb) hx hb hr (Or.inl ⟨_, rfl⟩) (Or.inr ⟨_, rfl⟩) (fun t ht9 hW => ⟨⟨((n + (lenS.getD i 0)), f7), sb, rfl, ⟨(by first | assumption | omega | (dsimp only; omega) | (dsimp only; assumption) | rfl), (by first | assumption | omega | (dsimp only; omega) | (dsimp only; assumption) | rfl), (TA.eq g9 (by rfl))⟩, rfl, by rw [ht9]; exact hP9, hD9⟩, hS.F ht9⟩) hS.2.2 xdJ5_append_cf1ce_44
set_option maxHeartbeats 16000000 in
set_option maxRecDepth 100000 in
/-- AbstractStringBuilder.append(String) -/
theorem c_sx_as5B (l : Launch) (dC : Nat → ClassId) (dI : Nat → Nat → Nat) (cI cB cZ cJ cR : ClassId) (tb : Nat → Nat) (sz : Nat) (sb : Nat) (a : Nat) (m : Nat) (n : Nat) (f : Nat → Int32) (mb : Int32) (i : Nat) (hm : m = 16 ∨ m = 34) (hf : sb_Fit f) (hi : i < 66) (h1 : n + lenS.getD i 0 ≤ 33) (hnm : n ≤ m) : Met l yJ5_append_cf1ce (Cond.code yJ5_append_cf1ce cJ5_append_cf1ce 3 (some (.object "java/lang/AbstractStringBuilder")) :: tw_W) ({ frames := 4, cells := 1, slots := 34, locals := 85 }) (pc_ (dC, dI) (tyS cI cB cZ cJ cR) tb [(sb, .inr (1, [.ref a, .int 0, .int mb, .int (nI n)])), (a, .inl (cB, m, .inl f))] sz [.ref sb, .ref (tb (100 + i))]) (qr_ (dC, dI) [(sb, .inr (1, [.ref a, .int 0, .int mb, .int (nI n)])), (a, .inl (cB, m, .inl f))] sz (fun (u : Nat × Nat × Nat × (Nat → Int32)) => u.1 = n + lenS.getD i 0 ∧ (u.2.2.1 = 16 ∨ u.2.2.1 = 34) ∧ u.1 ≤ u.2.2.1 ∧ sb_Fit u.2.2.2 ∧ TA f n u.2.2.2 u.1 (strT i)) (fun (u : Nat × Nat × Nat × (Nat → Int32)) => sb) (fun (u : Nat × Nat × Nat × (Nat → Int32)) => [(sb, .inr (1, [.ref u.2.1, .int 0, .int mb, .int (nI u.1)])), (u.2.1, .inl (cB, u.2.2.1, .inl u.2.2.2))])) 1 34 (va_A [(sb, .inr (1, [.ref a, .int 0, .int mb, .int (nI n)])), (a, .inl (cB, m, .inl f))] sz) := by
  refine Met.ofW (cc := cJ5_append_cf1ce) (maxL := 3) (ret := (some (.object "java/lang/AbstractStringBuilder"))) (by decide) rfl ?_
  intro p e s m9 args below meth c s₁ B hml hv
  obtain ⟨rfl, hsz, hP, hKK, hD0, hFx⟩ := hv
  have hK := hKK.1
  have hx := B.exec
  have hb := B.bytes
  have hr := B.returns
  have ht : ∀ w ∈ tw_W, w.before _ s = true := fun w h => atoms_spec (ws := Cond.code yJ5_append_cf1ce cJ5_append_cf1ce 3 (some (.object "java/lang/AbstractStringBuilder")) :: tw_W) B.pre w (List.mem_cons_of_mem _ h)
  have hown : s.vm.findClass RJ5 = some m9.cls := findClass_of_methodNamed B.named
  have hlocks := B.notSynchronized
  subst hsz
  unfold qr_
  have hD := hD0.self (sz := s.heap.size)
  generalize hAe : va_A [(sb, .inr (1, [.ref a, .int 0, .int mb, .int (nI n)])), (a, .inl (cB, m, .inl f))] s.heap.size = A at hD hFx ⊢
  have hA : ∀ q : Nat, s.heap.size ≤ q → A q := fun q h => by rw [← hAe]; exact Or.inr h
  have hS : va_S A s.heap s.heap [] := va_S.rf
  have hP : va_P (dC, dI) vwCl [(sb, .inr (1, [.ref a, .int 0, .int mb, .int (nI n)])), (a, .inl (cB, m, .inl f))] s.heap := hP
  have hl := lv_entry ([.ref sb, .ref (tb (100 + i))]) (n := 3) (Nat.le_of_ble_eq_true rfl)
  rw [lg_entry_eq]
  generalize (lg_sl ([.ref sb, .ref (tb (100 + i))]) ++ List.replicate (3 - (lg_sl ([.ref sb, .ref (tb (100 + i))])).length) Slot.unset).toArray = ls at hl ⊢
  have hl : lv_has ls 3 [(0, .ref sb), (1, .ref (tb (100 + i)))] := hl
  refine lv_aload_n hx hb xdJ5_append_cf1ce_0 rfl (lv_at hl 1 rfl) ?_
  refine lv_ifnonnull (tgt := 9) hx hb xdJ5_append_cf1ce_1 (by decide) ?_
  refine lv_aload_n hx hb xdJ5_append_cf1ce_9 rfl (lv_at hl 1 rfl) ?_
  refine ca_i (wr := [(sb, .inr (1, [.ref a, .int 0, .int mb, .int (nI n)])), (a, .inl (cB, m, .inl f))]) (rn_VS (n := 0) (As := []) (rest := []) hx hb hml hown ht hKK hFx hP hD hS hA (i := i) (by assumption) (c_sx_strLen l dC dI cI cB cZ cJ cR tb s.heap.size i (by first | assumption | omega | rfl | exact sb_fit0)) xw_65 xw_66 (by decide +kernel) rfl rfl ⟨Nat.le_of_ble_eq_true rfl, Nat.le_of_ble_eq_true rfl⟩ [] rfl (by decide) rfl hl.1 rfl (Nat.le_of_ble_eq_true rfl) xdJ5_append_cf1ce_10 ⟨Nat.le_of_ble_eq_true rfl, Nat.le_of_ble_eq_true rfl⟩) hP hD hS hA (isC := []) (isR := [0, 1]) rfl rfl (by decide) (by decide) (fun r2 u H locs hw1 hP hD hS => ?_)
  subst hw1
  have hP : va_P (dC, dI) vwCl [(sb, .inr (1, [.ref a, .int 0, .int mb, .int (nI n)])), (a, .inl (cB, m, .inl f))] H := hP
  have hD : va_D A [(sb, .inr (1, [.ref a, .int 0, .int mb, .int (nI n)])), (a, .inl (cB, m, .inl f))] := hD
  refine W.widen (k := 0) (n := 0) (by omega) (by omega) ?_
  refine lv_istore_n (lv' := [(2, .int (nI (lenS.getD i 0))), (0, .ref sb), (1, .ref (tb (100 + i)))]) hx hb xdJ5_append_cf1ce_13 rfl hl (by decide) rfl (fun ls hl => ?_)
  refine lv_aload_n hx hb xdJ5_append_cf1ce_14 rfl (lv_at hl 1 rfl) ?_
  refine lv_aload_n hx hb xdJ5_append_cf1ce_15 rfl (lv_at hl 1 rfl) ?_
  refine va_get (D := (dC, dI)) (ci := 1) (v := .int (nI n)) (C := RJ4) (T := TJ4) (N := 4) hx hb ht xiJ4 hown hK hP 0 rfl rfl 3 (by decide) (ht _ xw_40) (fun _ h9 => h9) rfl xdJ5_append_cf1ce_16 ?_
  refine lv_iload_n hx hb xdJ5_append_cf1ce_19 rfl (lv_at hl 0 rfl) ?_
  refine lv_iadd hx hb xdJ5_append_cf1ce_20 ?_
  refine tp_i (y := (nI (n + (lenS.getD i 0)))) (nI_add _ _) ?_
  refine ca_v (wr := []) (rn_V5 (n := 1) (As := [.int (nI (n + (lenS.getD i 0)))]) (rest := []) hx hb hml hown ht hKK hFx hP hD hS hA (c_sx_ensB l dC dI cI cB cZ cJ cR tb H.size sb a m n f mb (n + (lenS.getD i 0)) (by first | assumption | omega | rfl | exact sb_fit0) (by first | assumption | omega | rfl | exact sb_fit0) (by first | assumption | omega | rfl | exact sb_fit0) (by first | assumption | omega | rfl | exact sb_fit0)) xw_41 xw_42 xw_43 (tw_p (by decide)) xw_44 xw_45 (by decide +kernel) rfl rfl ⟨Nat.le_of_ble_eq_true rfl, Nat.le_of_ble_eq_true rfl⟩ [0, 1] rfl (by decide) rfl rfl rfl rfl hl.1 rfl (Nat.le_of_ble_eq_true rfl) xdJ5_append_cf1ce_21 ⟨Nat.le_of_ble_eq_true rfl, Nat.le_of_ble_eq_true rfl⟩) hP hD hS hA (isC := [0, 1]) (isR := []) rfl rfl (by decide) (by decide) (fun u H locs hw3 hP hD hS => ?_)
  obtain ⟨z5, z6, f7⟩ := u
  obtain ⟨g8, g9, g10, g11⟩ := hw3
  have g8 : z6 = 16 ∨ z6 = 34 := g8
  have g9 : (n + (lenS.getD i 0)) ≤ z6 := g9
  have g10 : sb_Fit f7 := g10
  have g11 : TA f n f7 n [] := g11
  have hP : va_P (dC, dI) vwCl [(sb, .inr (1, [.ref z5, .int 0, .int mb, .int (nI n)])), (z5, .inl (cB, z6, .inl f7))] H := hP
  have hD : va_D A [(sb, .inr (1, [.ref z5, .int 0, .int mb, .int (nI n)])), (z5, .inl (cB, z6, .inl f7))] := hD
  refine W.widen (k := 1) (n := 34) (by omega) (by omega) ?_
  refine lv_aload_n hx hb xdJ5_append_cf1ce_24 rfl (lv_at hl 1 rfl) ?_
  refine lv_aload_n hx hb xdJ5_append_cf1ce_25 rfl (lv_at hl 1 rfl) ?_
  refine va_get (D := (dC, dI)) (ci := 1) (v := .int (nI n)) (C := RJ4) (T := TJ4) (N := 4) hx hb ht xiJ4 hown hK hP 0 rfl rfl 3 (by decide) (ht _ xw_40) (fun _ h9 => h9) rfl xdJ5_append_cf1ce_26 ?_
  refine lv_aload_n hx hb xdJ5_append_cf1ce_29 rfl (lv_at hl 2 rfl) ?_
  refine ca_v (wr := []) (rn_V5 (n := 2) (As := [.int (nI n), .ref (tb (100 + i))]) (rest := []) hx hb hml hown ht hKK hFx hP hD hS hA (c_sx_putS l dC dI cI cB cZ cJ cR tb H.size sb z5 z6 n f7 mb i (by first | assumption | omega | rfl | exact sb_fit0) (by first | assumption | omega | rfl | exact sb_fit0) (by first | assumption | omega | rfl | exact sb_fit0) (by first | assumption | omega | rfl | exact sb_fit0)) xw_67 xw_68 xw_69 (tw_p (by decide)) xw_70 xw_71 (by decide +kernel) rfl rfl ⟨Nat.le_of_ble_eq_true rfl, Nat.le_of_ble_eq_true rfl⟩ [0, 1] rfl (by decide) rfl rfl rfl rfl hl.1 rfl (Nat.le_of_ble_eq_true rfl) xdJ5_append_cf1ce_30 ⟨Nat.le_of_ble_eq_true rfl, Nat.le_of_ble_eq_true rfl⟩) hP hD hS hA (isC := [0, 1]) (isR := []) rfl rfl (by decide) (by decide) (fun u H locs hw12 hP hD hS => ?_)
  obtain ⟨f14, hq9⟩ : ∃ z, z = u := ⟨_, rfl⟩
  subst hq9
  obtain ⟨g15, g16⟩ := hw12
  have g15 : sb_Fit f14 := g15
  have g16 : TA f7 n f14 (n + lenS.getD i 0) (strT i) := g16
  have hP : va_P (dC, dI) vwCl [(sb, .inr (1, [.ref z5, .int 0, .int mb, .int (nI n)])), (z5, .inl (cB, z6, .inl f14))] H := hP
  have hD : va_D A [(sb, .inr (1, [.ref z5, .int 0, .int mb, .int (nI n)])), (z5, .inl (cB, z6, .inl f14))] := hD
  refine W.widen (k := 1) (n := 34) (by omega) (by omega) ?_
  refine lv_aload_n hx hb xdJ5_append_cf1ce_33 rfl (lv_at hl 1 rfl) ?_
  refine lv_dup hx hb xdJ5_append_cf1ce_34 rfl ?_
  refine va_get (D := (dC, dI)) (ci := 1) (v := .int (nI n)) (C := RJ4) (T := TJ4) (N := 4) hx hb ht xiJ4 hown hK hP 0 rfl rfl 3 (by decide) (ht _ xw_40) (fun _ h9 => h9) rfl xdJ5_append_cf1ce_35 ?_
  refine lv_iload_n hx hb xdJ5_append_cf1ce_38 rfl (lv_at hl 0 rfl) ?_
  refine lv_iadd hx hb xdJ5_append_cf1ce_39 ?_
  refine tp_i (y := (nI (n + (lenS.getD i 0)))) (nI_add _ _) ?_
  refine va_put (D := (dC, dI)) (ci := 1) (v := .int (nI (n + (lenS.getD i 0)))) (ty := .int) (C := RJ4) (T := TJ4) (N := 4) hx hb ht xiJ4 tyJ4 tyJ4_ok nmJ4 hown hK hP hD hS 0 rfl rfl 3 (by decide) (ht _ xw_40) (fun _ h9 => h9) rfl (by decide +kernel) rfl rfl (Nat.le_of_ble_eq_true rfl) xdJ5_append_cf1ce_40 (fun H locs hP hD hS => ?_)
  have hP : va_P (dC, dI) vwCl [(sb, .inr (1, [.ref z5, .int 0, .int mb, .int (nI (n + (lenS.getD i 0)))])), (z5, .inl (cB, z6, .inl f14))] H := hP
  have hD : va_D A [(sb, .inr (1, [.ref z5, .int 0, .int mb, .int (nI (n + (lenS.getD i 0)))])), (z5, .inl (cB, z6, .inl f14))] := hD
  refine lv_aload_n hx hb xdJ5_append_cf1ce_43 rfl (lv_at hl 1 rfl) ?_
  have hP9 := hP.sub (ws' := [(sb, .inr (1, [.ref z5, .int 0, .int mb, .int (nI (n + (lenS.getD i 0)))])), (z5, .inl (cB, z6, .inl f14))]) [0, 1] rfl
  have hD9 := hD.sub (ws' := [(sb, .inr (1, [.ref z5, .int 0, .int mb, .int (nI (n + (lenS.getD i 0)))])), (z5, .inl (cB, z6, .inl f14))]) [0, 1] (by decide) rfl
  refine W.widen (k := 1) (n := 34) (by omega) (by omega) ?_
  exact W.aret (v := .ref sb) hx hb hr (Or.inl ⟨_, rfl⟩) (Or.inr ⟨_, rfl⟩) (fun t ht9 hW => ⟨⟨((n + (lenS.getD i 0)), z5, z6, f14), sb, rfl, ⟨(by first | assumption | omega | (dsimp only; omega) | (dsimp only; assumption) | rfl), (by first | assumption | omega | (dsimp only; omega) | (dsimp only; assumption) | rfl), (by first | assumption | omega | (dsimp only; omega) | (dsimp only; assumption) | rfl), (by first | assumption | omega | (dsimp only; omega) | (dsimp only; assumption) | rfl), (TA.eq (TA.tr g11 g16) (by rfl))⟩, rfl, by rw [ht9]; exact hP9, hD9⟩, hS.F ht9⟩) hS.2.2 xdJ5_append_cf1ce_44
set_option maxHeartbeats 16000000 in
set_option maxRecDepth 100000 in
/-- StringBuilder.append(String): there is room -/
theorem c_sx_asA (l : Launch) (dC : Nat → ClassId) (dI : Nat → Nat → Nat) (cI cB cZ cJ cR : ClassId) (tb : Nat → Nat) (sz : Nat) (sb : Nat) (a : Nat) (m : Nat) (n : Nat) (f : Nat → Int32) (mb : Int32) (i : Nat) (hm : m = 16 ∨ m = 34) (hf : sb_Fit f) (hi : i < 66) (h1 : n + lenS.getD i 0 ≤ m) : Met l yJ4_append_15ec4 (Cond.code yJ4_append_15ec4 cJ4_append_15ec4 2 (some (.object "java/lang/StringBuilder")) :: tw_W) ({ frames := 4, cells := 0, slots := 0, locals := 107 }) (pc_ (dC, dI) (tyS cI cB cZ cJ cR) tb [(sb, .inr (1, [.ref a, .int 0, .int mb, .int (nI n)])), (a, .inl (cB, m, .inl f))] sz [.ref sb, .ref (tb (100 + i))]) (qr_ (dC, dI) [(sb, .inr (1, [.ref a, .int 0, .int mb, .int (nI n)])), (a, .inl (cB, m, .inl f))] sz (fun (u : Nat × (Nat → Int32)) => u.1 = n + lenS.getD i 0 ∧ sb_Fit u.2 ∧ TA f n u.2 u.1 (strT i)) (fun (u : Nat × (Nat → Int32)) => sb) (fun (u : Nat × (Nat → Int32)) => [(sb, .inr (1, [.ref a, .int 0, .int mb, .int (nI u.1)])), (a, .inl (cB, m, .inl u.2))])) 0 0 (va_A [(sb, .inr (1, [.ref a, .int 0, .int mb, .int (nI n)])), (a, .inl (cB, m, .inl f))] sz) := by
  refine Met.ofW (cc := cJ4_append_15ec4) (maxL := 2) (ret := (some (.object "java/lang/StringBuilder"))) (by decide) rfl ?_
  intro p e s m9 args below meth c s₁ B hml hv
  obtain ⟨rfl, hsz, hP, hKK, hD0, hFx⟩ := hv
  have hK := hKK.1
  have hx := B.exec
  have hb := B.bytes
  have hr := B.returns
  have ht : ∀ w ∈ tw_W, w.before _ s = true := fun w h => atoms_spec (ws := Cond.code yJ4_append_15ec4 cJ4_append_15ec4 2 (some (.object "java/lang/StringBuilder")) :: tw_W) B.pre w (List.mem_cons_of_mem _ h)
  have hown : s.vm.findClass RJ4 = some m9.cls := findClass_of_methodNamed B.named
  have hlocks := B.notSynchronized
  subst hsz
  unfold qr_
  have hD := hD0.self (sz := s.heap.size)
  generalize hAe : va_A [(sb, .inr (1, [.ref a, .int 0, .int mb, .int (nI n)])), (a, .inl (cB, m, .inl f))] s.heap.size = A at hD hFx ⊢
  have hA : ∀ q : Nat, s.heap.size ≤ q → A q := fun q h => by rw [← hAe]; exact Or.inr h
  have hS : va_S A s.heap s.heap [] := va_S.rf
  have hP : va_P (dC, dI) vwCl [(sb, .inr (1, [.ref a, .int 0, .int mb, .int (nI n)])), (a, .inl (cB, m, .inl f))] s.heap := hP
  have hl := lv_entry ([.ref sb, .ref (tb (100 + i))]) (n := 2) (Nat.le_of_ble_eq_true rfl)
  rw [lg_entry_eq]
  generalize (lg_sl ([.ref sb, .ref (tb (100 + i))]) ++ List.replicate (2 - (lg_sl ([.ref sb, .ref (tb (100 + i))])).length) Slot.unset).toArray = ls at hl ⊢
  have hl : lv_has ls 2 [(0, .ref sb), (1, .ref (tb (100 + i)))] := hl
  refine lv_aload_n hx hb xdJ4_append_15ec4_0 rfl (lv_at hl 0 rfl) ?_
  refine lv_aload_n hx hb xdJ4_append_15ec4_1 rfl (lv_at hl 1 rfl) ?_
  refine ca_r (wr := []) (rn_SU (n := 1) (As := [.ref (tb (100 + i))]) (rest := []) hx hb hml hown ht hKK hFx hP hD hS hA (c_sx_as5A l dC dI cI cB cZ cJ cR tb s.heap.size sb a m n f mb i (by first | assumption | omega | rfl | exact sb_fit0) (by first | assumption | omega | rfl | exact sb_fit0) (by first | assumption | omega | rfl | exact sb_fit0) (by first | assumption | omega | rfl | exact sb_fit0)) xw_72 xw_73 (by decide +kernel) rfl rfl ⟨Nat.le_of_ble_eq_true rfl, Nat.le_of_ble_eq_true rfl⟩ [0, 1] rfl (by decide) rfl rfl rfl hl.1 rfl (Nat.le_of_ble_eq_true rfl) xdJ4_append_15ec4_2 ⟨Nat.le_of_ble_eq_true rfl, Nat.le_of_ble_eq_true rfl⟩) hP hD hS hA (isC := [0, 1]) (isR := []) rfl rfl (by decide) (by decide) (fun u H locs hw1 hP hD hS => ?_)
  obtain ⟨z3, f4⟩ := u
  obtain ⟨g5, g6, g7⟩ := hw1
  have g5 : z3 = n + lenS.getD i 0 := g5
  have g6 : sb_Fit f4 := g6
  have g7 : TA f n f4 z3 (strT i) := g7
  have hP : va_P (dC, dI) vwCl [(sb, .inr (1, [.ref a, .int 0, .int mb, .int (nI z3)])), (a, .inl (cB, m, .inl f4))] H := hP
  have hD : va_D A [(sb, .inr (1, [.ref a, .int 0, .int mb, .int (nI z3)])), (a, .inl (cB, m, .inl f4))] := hD
  refine W.widen (k := 0) (n := 0) (by omega) (by omega) ?_
  refine lv_pop hx hb xdJ4_append_15ec4_5 rfl ?_
  refine lv_aload_n hx hb xdJ4_append_15ec4_6 rfl (lv_at hl 0 rfl) ?_
  have hP9 := hP.sub (ws' := [(sb, .inr (1, [.ref a, .int 0, .int mb, .int (nI z3)])), (a, .inl (cB, m, .inl f4))]) [0, 1] rfl
  have hD9 := hD.sub (ws' := [(sb, .inr (1, [.ref a, .int 0, .int mb, .int (nI z3)])), (a, .inl (cB, m, .inl f4))]) [0, 1] (by decide) rfl
  refine W.widen (k := 0) (n := 0) (by omega) (by omega) ?_
  exact W.aret (v := .ref sb) hx hb hr (Or.inl ⟨_, rfl⟩) (Or.inr ⟨_, rfl⟩) (fun t ht9 hW => ⟨⟨(z3, f4), sb, rfl, ⟨(by first | assumption | omega | (dsimp only; omega) | (dsimp only; assumption) | rfl), (by first | assumption | omega | (dsimp only; omega) | (dsimp only; assumption) | rfl), (TA.eq g7 (by rfl))⟩, rfl, by rw [ht9]; exact hP9, hD9⟩, hS.F ht9⟩) hS.2.2 xdJ4_append_15ec4_7
set_option maxHeartbeats 16000000 in
set_option maxRecDepth 100000 in
/-- StringBuilder.append(String) -/
theorem c_sx_asB (l : Launch) (dC : Nat → ClassId) (dI : Nat → Nat → Nat) (cI cB cZ cJ cR : ClassId) (tb : Nat → Nat) (sz : Nat) (sb : Nat) (a : Nat) (m : Nat) (n : Nat) (f : Nat → Int32) (mb : Int32) (i : Nat) (hm : m = 16 ∨ m = 34) (hf : sb_Fit f) (hi : i < 66) (h1 : n + lenS.getD i 0 ≤ 33) (hnm : n ≤ m) : Met l yJ4_append_15ec4 (Cond.code yJ4_append_15ec4 cJ4_append_15ec4 2 (some (.object "java/lang/StringBuilder")) :: tw_W) ({ frames := 5, cells := 1, slots := 34, locals := 107 }) (pc_ (dC, dI) (tyS cI cB cZ cJ cR) tb [(sb, .inr (1, [.ref a, .int 0, .int mb, .int (nI n)])), (a, .inl (cB, m, .inl f))] sz [.ref sb, .ref (tb (100 + i))]) (qr_ (dC, dI) [(sb, .inr (1, [.ref a, .int 0, .int mb, .int (nI n)])), (a, .inl (cB, m, .inl f))] sz (fun (u : Nat × Nat × Nat × (Nat → Int32)) => u.1 = n + lenS.getD i 0 ∧ (u.2.2.1 = 16 ∨ u.2.2.1 = 34) ∧ u.1 ≤ u.2.2.1 ∧ sb_Fit u.2.2.2 ∧ TA f n u.2.2.2 u.1 (strT i)) (fun (u : Nat × Nat × Nat × (Nat → Int32)) => sb) (fun (u : Nat × Nat × Nat × (Nat → Int32)) => [(sb, .inr (1, [.ref u.2.1, .int 0, .int mb, .int (nI u.1)])), (u.2.1, .inl (cB, u.2.2.1, .inl u.2.2.2))])) 1 34 (va_A [(sb, .inr (1, [.ref a, .int 0, .int mb, .int (nI n)])), (a, .inl (cB, m, .inl f))] sz) := by
  refine Met.ofW (cc := cJ4_append_15ec4) (maxL := 2) (ret := (some (.object "java/lang/StringBuilder"))) (by decide) rfl ?_
  intro p e s m9 args below meth c s₁ B hml hv
  obtain ⟨rfl, hsz, hP, hKK, hD0, hFx⟩ := hv
  have hK := hKK.1
  have hx := B.exec
  have hb := B.bytes
  have hr := B.returns
  have ht : ∀ w ∈ tw_W, w.before _ s = true := fun w h => atoms_spec (ws := Cond.code yJ4_append_15ec4 cJ4_append_15ec4 2 (some (.object "java/lang/StringBuilder")) :: tw_W) B.pre w (List.mem_cons_of_mem _ h)
  have hown : s.vm.findClass RJ4 = some m9.cls := findClass_of_methodNamed B.named
  have hlocks := B.notSynchronized
  subst hsz
  unfold qr_
  have hD := hD0.self (sz := s.heap.size)
  generalize hAe : va_A [(sb, .inr (1, [.ref a, .int 0, .int mb, .int (nI n)])), (a, .inl (cB, m, .inl f))] s.heap.size = A at hD hFx ⊢
  have hA : ∀ q : Nat, s.heap.size ≤ q → A q := fun q h => by rw [← hAe]; exact Or.inr h
  have hS : va_S A s.heap s.heap [] := va_S.rf
  have hP : va_P (dC, dI) vwCl [(sb, .inr (1, [.ref a, .int 0, .int mb, .int (nI n)])), (a, .inl (cB, m, .inl f))] s.heap := hP
  have hl := lv_entry ([.ref sb, .ref (tb (100 + i))]) (n := 2) (Nat.le_of_ble_eq_true rfl)
  rw [lg_entry_eq]
  generalize (lg_sl ([.ref sb, .ref (tb (100 + i))]) ++ List.replicate (2 - (lg_sl ([.ref sb, .ref (tb (100 + i))])).length) Slot.unset).toArray = ls at hl ⊢
  have hl : lv_has ls 2 [(0, .ref sb), (1, .ref (tb (100 + i)))] := hl
  refine lv_aload_n hx hb xdJ4_append_15ec4_0 rfl (lv_at hl 0 rfl) ?_
  refine lv_aload_n hx hb xdJ4_append_15ec4_1 rfl (lv_at hl 1 rfl) ?_
  refine ca_r (wr := []) (rn_SU (n := 1) (As := [.ref (tb (100 + i))]) (rest := []) hx hb hml hown ht hKK hFx hP hD hS hA (c_sx_as5B l dC dI cI cB cZ cJ cR tb s.heap.size sb a m n f mb i (by first | assumption | omega | rfl | exact sb_fit0) (by first | assumption | omega | rfl | exact sb_fit0) (by first | assumption | omega | rfl | exact sb_fit0) (by first | assumption | omega | rfl | exact sb_fit0) (by first | assumption | omega | rfl | exact sb_fit0)) xw_72 xw_73 (by decide +kernel) rfl rfl ⟨Nat.le_of_ble_eq_true rfl, Nat.le_of_ble_eq_true rfl⟩ [0, 1] rfl (by decide) rfl rfl rfl hl.1 rfl (Nat.le_of_ble_eq_true rfl) xdJ4_append_15ec4_2 ⟨Nat.le_of_ble_eq_true rfl, Nat.le_of_ble_eq_true rfl⟩) hP hD hS hA (isC := [0, 1]) (isR := []) rfl rfl (by decide) (by decide) (fun u H locs hw1 hP hD hS => ?_)
  obtain ⟨z3, z4, z5, f6⟩ := u
  obtain ⟨g7, g8, g9, g10, g11⟩ := hw1
  have g7 : z3 = n + lenS.getD i 0 := g7
  have g8 : z5 = 16 ∨ z5 = 34 := g8
  have g9 : z3 ≤ z5 := g9
  have g10 : sb_Fit f6 := g10
  have g11 : TA f n f6 z3 (strT i) := g11
  have hP : va_P (dC, dI) vwCl [(sb, .inr (1, [.ref z4, .int 0, .int mb, .int (nI z3)])), (z4, .inl (cB, z5, .inl f6))] H := hP
  have hD : va_D A [(sb, .inr (1, [.ref z4, .int 0, .int mb, .int (nI z3)])), (z4, .inl (cB, z5, .inl f6))] := hD
  refine W.widen (k := 1) (n := 34) (by omega) (by omega) ?_
  refine lv_pop hx hb xdJ4_append_15ec4_5 rfl ?_
  refine lv_aload_n hx hb xdJ4_append_15ec4_6 rfl (lv_at hl 0 rfl) ?_
  have hP9 := hP.sub (ws' := [(sb, .inr (1, [.ref z4, .int 0, .int mb, .int (nI z3)])), (z4, .inl (cB, z5, .inl f6))]) [0, 1] rfl
  have hD9 := hD.sub (ws' := [(sb, .inr (1, [.ref z4, .int 0, .int mb, .int (nI z3)])), (z4, .inl (cB, z5, .inl f6))]) [0, 1] (by decide) rfl
  refine W.widen (k := 1) (n := 34) (by omega) (by omega) ?_
  exact W.aret (v := .ref sb) hx hb hr (Or.inl ⟨_, rfl⟩) (Or.inr ⟨_, rfl⟩) (fun t ht9 hW => ⟨⟨(z3, z4, z5, f6), sb, rfl, ⟨(by first | assumption | omega | (dsimp only; omega) | (dsimp only; assumption) | rfl), (by first | assumption | omega | (dsimp only; omega) | (dsimp only; assumption) | rfl), (by first | assumption | omega | (dsimp only; omega) | (dsimp only; assumption) | rfl), (by first | assumption | omega | (dsimp only; omega) | (dsimp only; assumption) | rfl), (TA.eq g11 (by rfl))⟩, rfl, by rw [ht9]; exact hP9, hD9⟩, hS.F ht9⟩) hS.2.2 xdJ4_append_15ec4_7
set_option maxHeartbeats 16000000 in
set_option maxRecDepth 100000 in
/-- AbstractStringBuilder.setLength(0) -/
theorem c_sx_set5 (l : Launch) (dC : Nat → ClassId) (dI : Nat → Nat → Nat) (cI cB cZ cJ cR : ClassId) (tb : Nat → Nat) (sz : Nat) (sb : Nat) (a : Nat) (m : Nat) (n : Nat) (f : Nat → Int32) (mb : Int32) (hm : m = 16 ∨ m = 34) (hf : sb_Fit f) (h0 : n ≤ 34) : Met l yJ5_setLength_d00df (Cond.code yJ5_setLength_d00df cJ5_setLength_d00df 2 none :: tw_W) ({ frames := 1, cells := 0, slots := 0, locals := 22 }) (pc_ (dC, dI) (tyS cI cB cZ cJ cR) tb [(sb, .inr (1, [.ref a, .int 0, .int mb, .int (nI n)])), (a, .inl (cB, m, .inl f))] sz [.ref sb, .int 0]) (qv_ (dC, dI) [(sb, .inr (1, [.ref a, .int 0, .int mb, .int (nI n)])), (a, .inl (cB, m, .inl f))] sz (fun (u : Int32) => True) (fun (u : Int32) => [(sb, .inr (1, [.ref a, .int 0, .int u, .int 0])), (a, .inl (cB, m, .inl f))])) 0 0 (va_A [(sb, .inr (1, [.ref a, .int 0, .int mb, .int (nI n)])), (a, .inl (cB, m, .inl f))] sz) := by
  refine Met.ofW (cc := cJ5_setLength_d00df) (maxL := 2) (ret := none) (by decide) rfl ?_
  intro p e s m9 args below meth c s₁ B hml hv
  obtain ⟨rfl, hsz, hP, hKK, hD0, hFx⟩ := hv
  have hK := hKK.1
  have hx := B.exec
  have hb := B.bytes
  have hr := B.returns
  have ht : ∀ w ∈ tw_W, w.before _ s = true := fun w h => atoms_spec (ws := Cond.code yJ5_setLength_d00df cJ5_setLength_d00df 2 none :: tw_W) B.pre w (List.mem_cons_of_mem _ h)
  have hown : s.vm.findClass RJ5 = some m9.cls := findClass_of_methodNamed B.named
  have hlocks := B.notSynchronized
  subst hsz
  unfold qv_
  have hD := hD0.self (sz := s.heap.size)
  generalize hAe : va_A [(sb, .inr (1, [.ref a, .int 0, .int mb, .int (nI n)])), (a, .inl (cB, m, .inl f))] s.heap.size = A at hD hFx ⊢
  have hA : ∀ q : Nat, s.heap.size ≤ q → A q := fun q h => by rw [← hAe]; exact Or.inr h
  have hS : va_S A s.heap s.heap [] := va_S.rf
  have hP : va_P (dC, dI) vwCl [(sb, .inr (1, [.ref a, .int 0, .int mb, .int (nI n)])), (a, .inl (cB, m, .inl f))] s.heap := hP
  have hl := lv_entry ([.ref sb, .int 0]) (n := 2) (Nat.le_of_ble_eq_true rfl)
  rw [lg_entry_eq]
  generalize (lg_sl ([.ref sb, .int 0]) ++ List.replicate (2 - (lg_sl ([.ref sb, .int 0])).length) Slot.unset).toArray = ls at hl ⊢
  have hl : lv_has ls 2 [(0, .ref sb), (1, .int 0)] := hl
  refine lv_iload_n hx hb xdJ5_setLength_d00df_0 rfl (lv_at hl 1 rfl) ?_
  refine lv_if_ge (tgt := 13) hx hb xdJ5_setLength_d00df_1 (by decide) (fun _ => ?_) (fun k1 => absurd k1 (by decide))
  refine lv_aload_n hx hb xdJ5_setLength_d00df_13 rfl (lv_at hl 0 rfl) ?_
  refine lv_iload_n hx hb xdJ5_setLength_d00df_14 rfl (lv_at hl 1 rfl) ?_
  refine ca_v (wr := []) (rn_V5 (n := 1) (As := [.int 0]) (rest := []) hx hb hml hown ht hKK hFx hP hD hS hA (c_sx_ensA l dC dI cI cB cZ cJ cR tb s.heap.size sb a m n f mb 0 (by first | assumption | omega | rfl | exact sb_fit0) (by first | assumption | omega | rfl | exact sb_fit0) (by first | assumption | omega | rfl | exact sb_fit0)) xw_41 xw_42 xw_43 (tw_p (by decide)) xw_44 xw_45 (by decide +kernel) rfl rfl ⟨Nat.le_of_ble_eq_true rfl, Nat.le_of_ble_eq_true rfl⟩ [0, 1] rfl (by decide) rfl rfl rfl rfl hl.1 rfl (Nat.le_of_ble_eq_true rfl) xdJ5_setLength_d00df_15 ⟨Nat.le_of_ble_eq_true rfl, Nat.le_of_ble_eq_true rfl⟩) hP hD hS hA (isC := [0, 1]) (isR := []) rfl rfl (by decide) (by decide) (fun u H locs hw2 hP hD hS => ?_)
  have hP : va_P (dC, dI) vwCl [(sb, .inr (1, [.ref a, .int 0, .int mb, .int (nI n)])), (a, .inl (cB, m, .inl f))] H := hP
  have hD : va_D A [(sb, .inr (1, [.ref a, .int 0, .int mb, .int (nI n)])), (a, .inl (cB, m, .inl f))] := hD
  refine W.widen (k := 0) (n := 0) (by omega) (by omega) ?_
  refine lv_aload_n hx hb xdJ5_setLength_d00df_18 rfl (lv_at hl 0 rfl) ?_
  refine va_get (D := (dC, dI)) (ci := 1) (v := .int (nI n)) (C := RJ4) (T := TJ4) (N := 4) hx hb ht xiJ4 hown hK hP 0 rfl rfl 3 (by decide) (ht _ xw_40) (fun _ h9 => h9) rfl xdJ5_setLength_d00df_19 ?_
  refine lv_iload_n hx hb xdJ5_setLength_d00df_22 rfl (lv_at hl 1 rfl) ?_
  refine lv_icmp_ge (tgt := 63) hx hb xdJ5_setLength_d00df_23 (by decide) (fun _ => ?_) (fun k4 => absurd (show nI 0 ≤ nI n from nI_le (by omega) (by omega)) k4)
  refine lv_aload_n hx hb xdJ5_setLength_d00df_63 rfl (lv_at hl 0 rfl) ?_
  refine va_get (D := (dC, dI)) (ci := 1) (v := .int (nI n)) (C := RJ4) (T := TJ4) (N := 4) hx hb ht xiJ4 hown hK hP 0 rfl rfl 3 (by decide) (ht _ xw_40) (fun _ h9 => h9) rfl xdJ5_setLength_d00df_64 ?_
  refine lv_iload_n hx hb xdJ5_setLength_d00df_67 rfl (lv_at hl 1 rfl) ?_
  refine lv_icmp_le (tgt := 76) hx hb xdJ5_setLength_d00df_68 (by decide) (fun h5 => ?_) (fun h5 => ?_)
  · refine lv_aload_n hx hb xdJ5_setLength_d00df_76 rfl (lv_at hl 0 rfl) ?_
    refine lv_iload_n hx hb xdJ5_setLength_d00df_77 rfl (lv_at hl 1 rfl) ?_
    refine va_put (D := (dC, dI)) (ci := 1) (v := .int 0) (ty := .int) (C := RJ4) (T := TJ4) (N := 4) hx hb ht xiJ4 tyJ4 tyJ4_ok nmJ4 hown hK hP hD hS 0 rfl rfl 3 (by decide) (ht _ xw_40) (fun _ h9 => h9) rfl (by decide +kernel) rfl rfl (Nat.le_of_ble_eq_true rfl) xdJ5_setLength_d00df_78 (fun H locs hP hD hS => ?_)
    have hP : va_P (dC, dI) vwCl [(sb, .inr (1, [.ref a, .int 0, .int mb, .int 0])), (a, .inl (cB, m, .inl f))] H := hP
    have hD : va_D A [(sb, .inr (1, [.ref a, .int 0, .int mb, .int 0])), (a, .inl (cB, m, .inl f))] := hD
    have hP9 := hP.sub (ws' := [(sb, .inr (1, [.ref a, .int 0, .int mb, .int 0])), (a, .inl (cB, m, .inl f))]) [0, 1] rfl
    have hD9 := hD.sub (ws' := [(sb, .inr (1, [.ref a, .int 0, .int mb, .int 0])), (a, .inl (cB, m, .inl f))]) [0, 1] (by decide) rfl
    refine W.widen (k := 0) (n := 0) (by omega) (by omega) ?_
    exact W.vret hx hb hr (fun t ht9 hW => ⟨⟨mb, rfl, trivial, by rw [ht9]; exact hP9, hD9⟩, hS.F ht9⟩) hS.2.2 xdJ5_setLength_d00df_81
  · refine lv_aload_n hx hb xdJ5_setLength_d00df_71 rfl (lv_at hl 0 rfl) ?_
    refine lv_iconst (v := 1) hx hb xdJ5_setLength_d00df_72 (by decide) ?_
    refine va_put (D := (dC, dI)) (ci := 1) (v := .int 1) (ty := .boolean) (C := RJ4) (T := TJ4) (N := 4) hx hb ht xiJ4 tyJ4 tyJ4_ok nmJ4 hown hK hP hD hS 0 rfl rfl 2 (by decide) (ht _ xw_74) (fun _ h9 => h9) rfl (by decide +kernel) rfl rfl (Nat.le_of_ble_eq_true rfl) xdJ5_setLength_d00df_73 (fun H locs hP hD hS => ?_)
    have hP : va_P (dC, dI) vwCl [(sb, .inr (1, [.ref a, .int 0, .int 1, .int (nI n)])), (a, .inl (cB, m, .inl f))] H := hP
    have hD : va_D A [(sb, .inr (1, [.ref a, .int 0, .int 1, .int (nI n)])), (a, .inl (cB, m, .inl f))] := hD
    refine lv_aload_n hx hb xdJ5_setLength_d00df_76 rfl (lv_at hl 0 rfl) ?_
    refine lv_iload_n hx hb xdJ5_setLength_d00df_77 rfl (lv_at hl 1 rfl) ?_
    refine va_put (D := (dC, dI)) (ci := 1) (v := .int 0) (ty := .int) (C := RJ4) (T := TJ4) (N := 4) hx hb ht xiJ4 tyJ4 tyJ4_ok nmJ4 hown hK hP hD hS 0 rfl rfl 3 (by decide) (ht _ xw_40) (fun _ h9 => h9) rfl (by decide +kernel) rfl rfl (Nat.le_of_ble_eq_true rfl) xdJ5_setLength_d00df_78 (fun H locs hP hD hS => ?_)
    have hP : va_P (dC, dI) vwCl [(sb, .inr (1, [.ref a, .int 0, .int 1, .int 0])), (a, .inl (cB, m, .inl f))] H := hP
    have hD : va_D A [(sb, .inr (1, [.ref a, .int 0, .int 1, .int 0])), (a, .inl (cB, m, .inl f))] := hD
    have hP9 := hP.sub (ws' := [(sb, .inr (1, [.ref a, .int 0, .int 1, .int 0])), (a, .inl (cB, m, .inl f))]) [0, 1] rfl
    have hD9 := hD.sub (ws' := [(sb, .inr (1, [.ref a, .int 0, .int 1, .int 0])), (a, .inl (cB, m, .inl f))]) [0, 1] (by decide) rfl
    refine W.widen (k := 0) (n := 0) (by omega) (by omega) ?_
    exact W.vret hx hb hr (fun t ht9 hW => ⟨⟨1, rfl, trivial, by rw [ht9]; exact hP9, hD9⟩, hS.F ht9⟩) hS.2.2 xdJ5_setLength_d00df_81
set_option maxHeartbeats 16000000 in
set_option maxRecDepth 100000 in
/-- StringBuilder.setLength(0) -/
theorem c_sx_set0 (l : Launch) (dC : Nat → ClassId) (dI : Nat → Nat → Nat) (cI cB cZ cJ cR : ClassId) (tb : Nat → Nat) (sz : Nat) (sb : Nat) (a : Nat) (m : Nat) (n : Nat) (f : Nat → Int32) (mb : Int32) (hm : m = 16 ∨ m = 34) (hf : sb_Fit f) (h0 : n ≤ 34) : Met l yJ4_setLength_d00df (Cond.code yJ4_setLength_d00df cJ4_setLength_d00df 2 none :: tw_W) ({ frames := 2, cells := 0, slots := 0, locals := 43 }) (pc_ (dC, dI) (tyS cI cB cZ cJ cR) tb [(sb, .inr (1, [.ref a, .int 0, .int mb, .int (nI n)])), (a, .inl (cB, m, .inl f))] sz [.ref sb, .int 0]) (qv_ (dC, dI) [(sb, .inr (1, [.ref a, .int 0, .int mb, .int (nI n)])), (a, .inl (cB, m, .inl f))] sz (fun (u : Int32) => True) (fun (u : Int32) => [(sb, .inr (1, [.ref a, .int 0, .int u, .int 0])), (a, .inl (cB, m, .inl f))])) 0 0 (va_A [(sb, .inr (1, [.ref a, .int 0, .int mb, .int (nI n)])), (a, .inl (cB, m, .inl f))] sz) := by
  refine Met.ofW (cc := cJ4_setLength_d00df) (maxL := 2) (ret := none) (by decide) rfl ?_
  intro p e s m9 args below meth c s₁ B hml hv
  obtain ⟨rfl, hsz, hP, hKK, hD0, hFx⟩ := hv
  have hK := hKK.1
  have hx := B.exec
  have hb := B.bytes
  have hr := B.returns
  have ht : ∀ w ∈ tw_W, w.before _ s = true := fun w h => atoms_spec (ws := Cond.code yJ4_setLength_d00df cJ4_setLength_d00df 2 none :: tw_W) B.pre w (List.mem_cons_of_mem _ h)
  have hown : s.vm.findClass RJ4 = some m9.cls := findClass_of_methodNamed B.named
  have hlocks := B.notSynchronized
  subst hsz
  unfold qv_
  have hD := hD0.self (sz := s.heap.size)
  generalize hAe : va_A [(sb, .inr (1, [.ref a, .int 0, .int mb, .int (nI n)])), (a, .inl (cB, m, .inl f))] s.heap.size = A at hD hFx ⊢
  have hA : ∀ q : Nat, s.heap.size ≤ q → A q := fun q h => by rw [← hAe]; exact Or.inr h
  have hS : va_S A s.heap s.heap [] := va_S.rf
  have hP : va_P (dC, dI) vwCl [(sb, .inr (1, [.ref a, .int 0, .int mb, .int (nI n)])), (a, .inl (cB, m, .inl f))] s.heap := hP
  have hl := lv_entry ([.ref sb, .int 0]) (n := 2) (Nat.le_of_ble_eq_true rfl)
  rw [lg_entry_eq]
  generalize (lg_sl ([.ref sb, .int 0]) ++ List.replicate (2 - (lg_sl ([.ref sb, .int 0])).length) Slot.unset).toArray = ls at hl ⊢
  have hl : lv_has ls 2 [(0, .ref sb), (1, .int 0)] := hl
  refine lv_aload_n hx hb xdJ4_setLength_d00df_0 rfl (lv_at hl 0 rfl) ?_
  refine lv_iload_n hx hb xdJ4_setLength_d00df_1 rfl (lv_at hl 1 rfl) ?_
  refine ca_v (wr := []) (rn_SU (n := 1) (As := [.int 0]) (rest := []) hx hb hml hown ht hKK hFx hP hD hS hA (c_sx_set5 l dC dI cI cB cZ cJ cR tb s.heap.size sb a m n f mb (by first | assumption | omega | rfl | exact sb_fit0) (by first | assumption | omega | rfl | exact sb_fit0) (by first | assumption | omega | rfl | exact sb_fit0)) xw_75 xw_76 (by decide +kernel) rfl rfl ⟨Nat.le_of_ble_eq_true rfl, Nat.le_of_ble_eq_true rfl⟩ [0, 1] rfl (by decide) rfl rfl rfl hl.1 rfl (Nat.le_of_ble_eq_true rfl) xdJ4_setLength_d00df_2 ⟨Nat.le_of_ble_eq_true rfl, Nat.le_of_ble_eq_true rfl⟩) hP hD hS hA (isC := [0, 1]) (isR := []) rfl rfl (by decide) (by decide) (fun u H locs hw1 hP hD hS => ?_)
  obtain ⟨z3, hq9⟩ : ∃ z, z = u := ⟨_, rfl⟩
  subst hq9
  have hP : va_P (dC, dI) vwCl [(sb, .inr (1, [.ref a, .int 0, .int z3, .int 0])), (a, .inl (cB, m, .inl f))] H := hP
  have hD : va_D A [(sb, .inr (1, [.ref a, .int 0, .int z3, .int 0])), (a, .inl (cB, m, .inl f))] := hD
  refine W.widen (k := 0) (n := 0) (by omega) (by omega) ?_
  have hP9 := hP.sub (ws' := [(sb, .inr (1, [.ref a, .int 0, .int z3, .int 0])), (a, .inl (cB, m, .inl f))]) [0, 1] rfl
  have hD9 := hD.sub (ws' := [(sb, .inr (1, [.ref a, .int 0, .int z3, .int 0])), (a, .inl (cB, m, .inl f))]) [0, 1] (by decide) rfl
  refine W.widen (k := 0) (n := 0) (by omega) (by omega) ?_
  exact W.vret hx hb hr (fun t ht9 hW => ⟨⟨z3, rfl, trivial, by rw [ht9]; exact hP9, hD9⟩, hS.F ht9⟩) hS.2.2 xdJ4_setLength_d00df_5
set_option maxHeartbeats 16000000 in
set_option maxRecDepth 100000 in
/-- AbstractStringBuilder.length -/
theorem c_sx_len5 (l : Launch) (dC : Nat → ClassId) (dI : Nat → Nat → Nat) (cI cB cZ cJ cR : ClassId) (tb : Nat → Nat) (sz : Nat) (sb : Nat) (a : Nat) (n : Nat) (mb : Int32)  : Met l yJ5_length_8abf5 (Cond.code yJ5_length_8abf5 cJ5_length_8abf5 1 (some .int) :: tw_W) ({ frames := 0, cells := 0, slots := 0, locals := 0 }) (pc_ (dC, dI) (tyS cI cB cZ cJ cR) tb [(sb, .inr (1, [.ref a, .int 0, .int mb, .int (nI n)]))] sz [.ref sb]) (qi_ (dC, dI) [(sb, .inr (1, [.ref a, .int 0, .int mb, .int (nI n)]))] sz (fun (r : Int32) (u : Unit) => r = nI n) (fun (u : Unit) => [(sb, .inr (1, [.ref a, .int 0, .int mb, .int (nI n)]))])) 0 0 (va_A [(sb, .inr (1, [.ref a, .int 0, .int mb, .int (nI n)]))] sz) := by
  refine Met.ofW (cc := cJ5_length_8abf5) (maxL := 1) (ret := (some .int)) (by decide) rfl ?_
  intro p e s m9 args below meth c s₁ B hml hv
  obtain ⟨rfl, hsz, hP, hKK, hD0, hFx⟩ := hv
  have hK := hKK.1
  have hx := B.exec
  have hb := B.bytes
  have hr := B.returns
  have ht : ∀ w ∈ tw_W, w.before _ s = true := fun w h => atoms_spec (ws := Cond.code yJ5_length_8abf5 cJ5_length_8abf5 1 (some .int) :: tw_W) B.pre w (List.mem_cons_of_mem _ h)
  have hown : s.vm.findClass RJ5 = some m9.cls := findClass_of_methodNamed B.named
  have hlocks := B.notSynchronized
  subst hsz
  unfold qi_
  have hD := hD0.self (sz := s.heap.size)
  generalize hAe : va_A [(sb, .inr (1, [.ref a, .int 0, .int mb, .int (nI n)]))] s.heap.size = A at hD hFx ⊢
  have hA : ∀ q : Nat, s.heap.size ≤ q → A q := fun q h => by rw [← hAe]; exact Or.inr h
  have hS : va_S A s.heap s.heap [] := va_S.rf
  have hP : va_P (dC, dI) vwCl [(sb, .inr (1, [.ref a, .int 0, .int mb, .int (nI n)]))] s.heap := hP
  have hl := lv_entry ([.ref sb]) (n := 1) (Nat.le_of_ble_eq_true rfl)
  rw [lg_entry_eq]
  generalize (lg_sl ([.ref sb]) ++ List.replicate (1 - (lg_sl ([.ref sb])).length) Slot.unset).toArray = ls at hl ⊢
  have hl : lv_has ls 1 [(0, .ref sb)] := hl
  refine lv_aload_n hx hb xdJ5_length_8abf5_0 rfl (lv_at hl 0 rfl) ?_
  refine va_get (D := (dC, dI)) (ci := 1) (v := .int (nI n)) (C := RJ4) (T := TJ4) (N := 4) hx hb ht xiJ4 hown hK hP 0 rfl rfl 3 (by decide) (ht _ xw_40) (fun _ h9 => h9) rfl xdJ5_length_8abf5_1 ?_
  have hP9 := hP.sub (ws' := [(sb, .inr (1, [.ref a, .int 0, .int mb, .int (nI n)]))]) [0] rfl
  have hD9 := hD.sub (ws' := [(sb, .inr (1, [.ref a, .int 0, .int mb, .int (nI n)]))]) [0] (by decide) rfl
  refine W.widen (k := 0) (n := 0) (by omega) (by omega) ?_
  exact W.iret (v := (nI n)) hx hb hr (fun t ht9 hW => ⟨⟨(nI n), (), rfl, rfl, by rw [ht9]; exact hP9, hD9⟩, hS.F ht9⟩) hS.2.2 xdJ5_length_8abf5_4
set_option maxHeartbeats 16000000 in
set_option maxRecDepth 100000 in
/-- StringBuilder.length -/
theorem c_sx_len (l : Launch) (dC : Nat → ClassId) (dI : Nat → Nat → Nat) (cI cB cZ cJ cR : ClassId) (tb : Nat → Nat) (sz : Nat) (sb : Nat) (a : Nat) (n : Nat) (mb : Int32)  : Met l yJ4_length_8abf5 (Cond.code yJ4_length_8abf5 cJ4_length_8abf5 1 (some .int) :: tw_W) ({ frames := 1, cells := 0, slots := 0, locals := 20 }) (pc_ (dC, dI) (tyS cI cB cZ cJ cR) tb [(sb, .inr (1, [.ref a, .int 0, .int mb, .int (nI n)]))] sz [.ref sb]) (qi_ (dC, dI) [(sb, .inr (1, [.ref a, .int 0, .int mb, .int (nI n)]))] sz (fun (r : Int32) (u : Unit) => r = nI n) (fun (u : Unit) => [(sb, .inr (1, [.ref a, .int 0, .int mb, .int (nI n)]))])) 0 0 (va_A [(sb, .inr (1, [.ref a, .int 0, .int mb, .int (nI n)]))] sz) := by
  refine Met.ofW (cc := cJ4_length_8abf5) (maxL := 1) (ret := (some .int)) (by decide) rfl ?_
  intro p e s m9 args below meth c s₁ B hml hv
  obtain ⟨rfl, hsz, hP, hKK, hD0, hFx⟩ := hv
  have hK := hKK.1
  have hx := B.exec
  have hb := B.bytes
  have hr := B.returns
  have ht : ∀ w ∈ tw_W, w.before _ s = true := fun w h => atoms_spec (ws := Cond.code yJ4_length_8abf5 cJ4_length_8abf5 1 (some .int) :: tw_W) B.pre w (List.mem_cons_of_mem _ h)
  have hown : s.vm.findClass RJ4 = some m9.cls := findClass_of_methodNamed B.named
  have hlocks := B.notSynchronized
  subst hsz
  unfold qi_
  have hD := hD0.self (sz := s.heap.size)
  generalize hAe : va_A [(sb, .inr (1, [.ref a, .int 0, .int mb, .int (nI n)]))] s.heap.size = A at hD hFx ⊢
  have hA : ∀ q : Nat, s.heap.size ≤ q → A q := fun q h => by rw [← hAe]; exact Or.inr h
  have hS : va_S A s.heap s.heap [] := va_S.rf
  have hP : va_P (dC, dI) vwCl [(sb, .inr (1, [.ref a, .int 0, .int mb, .int (nI n)]))] s.heap := hP
  have hl := lv_entry ([.ref sb]) (n := 1) (Nat.le_of_ble_eq_true rfl)
  rw [lg_entry_eq]
  generalize (lg_sl ([.ref sb]) ++ List.replicate (1 - (lg_sl ([.ref sb])).length) Slot.unset).toArray = ls at hl ⊢
  have hl : lv_has ls 1 [(0, .ref sb)] := hl
  refine lv_aload_n hx hb xdJ4_length_8abf5_0 rfl (lv_at hl 0 rfl) ?_
  refine ca_i (wr := []) (rn_SU (n := 0) (As := []) (rest := []) hx hb hml hown ht hKK hFx hP hD hS hA (c_sx_len5 l dC dI cI cB cZ cJ cR tb s.heap.size sb a n mb) xw_77 xw_78 (by decide +kernel) rfl rfl ⟨Nat.le_of_ble_eq_true rfl, Nat.le_of_ble_eq_true rfl⟩ [0] rfl (by decide) rfl rfl rfl hl.1 rfl (Nat.le_of_ble_eq_true rfl) xdJ4_length_8abf5_1 ⟨Nat.le_of_ble_eq_true rfl, Nat.le_of_ble_eq_true rfl⟩) hP hD hS hA (isC := [0]) (isR := []) rfl rfl (by decide) (by decide) (fun r2 u H locs hw1 hP hD hS => ?_)
  subst hw1
  have hP : va_P (dC, dI) vwCl [(sb, .inr (1, [.ref a, .int 0, .int mb, .int (nI n)]))] H := hP
  have hD : va_D A [(sb, .inr (1, [.ref a, .int 0, .int mb, .int (nI n)]))] := hD
  refine W.widen (k := 0) (n := 0) (by omega) (by omega) ?_
  have hP9 := hP.sub (ws' := [(sb, .inr (1, [.ref a, .int 0, .int mb, .int (nI n)]))]) [0] rfl
  have hD9 := hD.sub (ws' := [(sb, .inr (1, [.ref a, .int 0, .int mb, .int (nI n)]))]) [0] (by decide) rfl
  refine W.widen (k := 0) (n := 0) (by omega) (by omega) ?_
  exact W.iret (v := (nI n)) hx hb hr (fun t ht9 hW => ⟨⟨(nI n), (), rfl, rfl, by rw [ht9]; exact hP9, hD9⟩, hS.F ht9⟩) hS.2.2 xdJ4_length_8abf5_4
set_option maxHeartbeats 16000000 in
set_option maxRecDepth 100000 in
/-- AbstractStringBuilder.charAt -/
theorem c_sx_cAt5 (l : Launch) (dC : Nat → ClassId) (dI : Nat → Nat → Nat) (cI cB cZ cJ cR : ClassId) (tb : Nat → Nat) (sz : Nat) (sb : Nat) (a : Nat) (m : Nat) (n : Nat) (f : Nat → Int32) (mb : Int32) (k : Nat) (hm : m = 16 ∨ m = 34) (hf : sb_Fit f) (hk : k < n) (hn : n ≤ m) : Met l yJ5_charAt_5068e (Cond.code yJ5_charAt_5068e cJ5_charAt_5068e 5 (some .char) :: tw_W) ({ frames := 2, cells := 0, slots := 0, locals := 43 }) (pc_ (dC, dI) (tyS cI cB cZ cJ cR) tb [(sb, .inr (1, [.ref a, .int 0, .int mb, .int (nI n)])), (a, .inl (cB, m, .inl f))] sz [.ref sb, .int (nI k)]) (qi_ (dC, dI) [(sb, .inr (1, [.ref a, .int 0, .int mb, .int (nI n)])), (a, .inl (cB, m, .inl f))] sz (fun (r : Int32) (u : Unit) => narrow .char (.int r) = .int r ∧ chR f k r) (fun (u : Unit) => [(sb, .inr (1, [.ref a, .int 0, .int mb, .int (nI n)])), (a, .inl (cB, m, .inl f))])) 0 0 (va_A [(sb, .inr (1, [.ref a, .int 0, .int mb, .int (nI n)])), (a, .inl (cB, m, .inl f))] sz) := by
  refine Met.ofW (cc := cJ5_charAt_5068e) (maxL := 5) (ret := (some .char)) (by decide) rfl ?_
  intro p e s m9 args below meth c s₁ B hml hv
  obtain ⟨rfl, hsz, hP, hKK, hD0, hFx⟩ := hv
  have hK := hKK.1
  have hx := B.exec
  have hb := B.bytes
  have hr := B.returns
  have ht : ∀ w ∈ tw_W, w.before _ s = true := fun w h => atoms_spec (ws := Cond.code yJ5_charAt_5068e cJ5_charAt_5068e 5 (some .char) :: tw_W) B.pre w (List.mem_cons_of_mem _ h)
  have hown : s.vm.findClass RJ5 = some m9.cls := findClass_of_methodNamed B.named
  have hlocks := B.notSynchronized
  subst hsz
  unfold qi_
  have hD := hD0.self (sz := s.heap.size)
  generalize hAe : va_A [(sb, .inr (1, [.ref a, .int 0, .int mb, .int (nI n)])), (a, .inl (cB, m, .inl f))] s.heap.size = A at hD hFx ⊢
  have hA : ∀ q : Nat, s.heap.size ≤ q → A q := fun q h => by rw [← hAe]; exact Or.inr h
  have hS : va_S A s.heap s.heap [] := va_S.rf
  have hP : va_P (dC, dI) vwCl [(sb, .inr (1, [.ref a, .int 0, .int mb, .int (nI n)])), (a, .inl (cB, m, .inl f))] s.heap := hP
  have hl := lv_entry ([.ref sb, .int (nI k)]) (n := 5) (Nat.le_of_ble_eq_true rfl)
  rw [lg_entry_eq]
  generalize (lg_sl ([.ref sb, .int (nI k)]) ++ List.replicate (5 - (lg_sl ([.ref sb, .int (nI k)])).length) Slot.unset).toArray = ls at hl ⊢
  have hl : lv_has ls 5 [(0, .ref sb), (1, .int (nI k))] := hl
  refine lv_aload_n hx hb xdJ5_charAt_5068e_0 rfl (lv_at hl 0 rfl) ?_
  refine va_get (D := (dC, dI)) (ci := 1) (v := .int 0) (C := RJ4) (T := TJ4) (N := 4) hx hb ht xiJ4 hown hK hP 0 rfl rfl 1 (by decide) (ht _ xw_15) (fun _ h9 => h9) rfl xdJ5_charAt_5068e_1 ?_
  refine lv_istore_n (lv' := [(2, .int 0), (0, .ref sb), (1, .int (nI k))]) hx hb xdJ5_charAt_5068e_4 rfl hl (by decide) rfl (fun ls hl => ?_)
  refine lv_aload_n hx hb xdJ5_charAt_5068e_5 rfl (lv_at hl 1 rfl) ?_
  refine va_get (D := (dC, dI)) (ci := 1) (v := .ref a) (C := RJ4) (T := TJ4) (N := 4) hx hb ht xiJ4 hown hK hP 0 rfl rfl 0 (by decide) (ht _ xw_21) (fun _ h9 => h9) rfl xdJ5_charAt_5068e_6 ?_
  refine lv_astore_n (lv' := [(3, .ref a), (2, .int 0), (0, .ref sb), (1, .int (nI k))]) hx hb xdJ5_charAt_5068e_9 rfl hl (by decide) rfl (fun ls hl => ?_)
  refine lv_aload_n hx hb xdJ5_charAt_5068e_10 rfl (lv_at hl 2 rfl) ?_
  refine va_get (D := (dC, dI)) (ci := 1) (v := .int (nI n)) (C := RJ4) (T := TJ4) (N := 4) hx hb ht xiJ4 hown hK hP 0 rfl rfl 3 (by decide) (ht _ xw_40) (fun _ h9 => h9) rfl xdJ5_charAt_5068e_11 ?_
  refine lv_aload_n hx hb xdJ5_charAt_5068e_14 rfl (lv_at hl 0 rfl) ?_
  refine va_alen (D := (dC, dI)) (v := (nI m)) hx hb hK hP 1 1 rfl rfl rfl xdJ5_charAt_5068e_15 ?_
  refine lv_iload_n hx hb xdJ5_charAt_5068e_16 rfl (lv_at hl 1 rfl) ?_
  refine lv_ishr hx hb xdJ5_charAt_5068e_17 ?_
  refine tp_i (y := (nI m)) (sb_shr0 _) ?_
  refine va_mmin hx hb (by rw [hml]; exact hl.1.symm) hown (ht _ xw_79) (ht _ xw_27) (ht _ xw_18) (ht _ xw_28) (Nat.le_of_ble_eq_true rfl) (Nat.le_of_ble_eq_true rfl) (Nat.le_of_ble_eq_true rfl) (Nat.le_of_ble_eq_true rfl) xdJ5_charAt_5068e_18 ?_
  refine tp_i (y := (nI n)) (if_neg (show ¬ nI m < nI n from nI_nlt (by omega) (by omega))) ?_
  refine lv_istore (lv' := [(4, .int (nI n)), (3, .ref a), (2, .int 0), (0, .ref sb), (1, .int (nI k))]) hx hb xdJ5_charAt_5068e_21 hl (by decide) rfl (fun ls hl => ?_)
  refine lv_iload_n hx hb xdJ5_charAt_5068e_23 rfl (lv_at hl 4 rfl) ?_
  refine lv_iload hx hb xdJ5_charAt_5068e_24 (lv_at hl 0 rfl) ?_
  refine ca_v (wr := [(sb, .inr (1, [.ref a, .int 0, .int mb, .int (nI n)])), (a, .inl (cB, m, .inl f))]) (rn_S (n := 2) (As := [.int (nI k), .int (nI n)]) (rest := []) hx hb hml hown ht hKK hFx hP hD hS hA (c_sx_schk l dC dI cI cB cZ cJ cR tb s.heap.size k n (by first | assumption | omega | rfl | exact sb_fit0) (by first | assumption | omega | rfl | exact sb_fit0)) xw_8 xw_80 (by decide +kernel) rfl rfl ⟨Nat.le_of_ble_eq_true rfl, Nat.le_of_ble_eq_true rfl⟩ [] rfl (by decide) rfl hl.1 rfl (Nat.le_of_ble_eq_true rfl) xdJ5_charAt_5068e_26 ⟨Nat.le_of_ble_eq_true rfl, Nat.le_of_ble_eq_true rfl⟩) hP hD hS hA (isC := []) (isR := [0, 1]) rfl rfl (by decide) (by decide) (fun u H locs hw1 hP hD hS => ?_)
  have hP : va_P (dC, dI) vwCl [(sb, .inr (1, [.ref a, .int 0, .int mb, .int (nI n)])), (a, .inl (cB, m, .inl f))] H := hP
  have hD : va_D A [(sb, .inr (1, [.ref a, .int 0, .int mb, .int (nI n)])), (a, .inl (cB, m, .inl f))] := hD
  refine W.widen (k := 0) (n := 0) (by omega) (by omega) ?_
  refine lv_iload_n hx hb xdJ5_charAt_5068e_29 rfl (lv_at hl 2 rfl) ?_
  refine lv_if_ne (tgt := 42) hx hb xdJ5_charAt_5068e_30 (by decide) (fun k3 => absurd k3 (by decide)) (fun _ => ?_)
  refine lv_aload_n hx hb xdJ5_charAt_5068e_33 rfl (lv_at hl 1 rfl) ?_
  refine lv_iload_n hx hb xdJ5_charAt_5068e_34 rfl (lv_at hl 4 rfl) ?_
  refine va_bald (D := (dC, dI)) (f := f) hx hb hK hP 1 1 rfl rfl (vp_in_nI (by omega) (by omega)) xdJ5_charAt_5068e_35 ?_
  refine lv_sipush (v := 255) hx hb xdJ5_charAt_5068e_36 (by decide) ?_
  refine lv_iand hx hb xdJ5_charAt_5068e_39 ?_
  refine lv_i2c hx hb xdJ5_charAt_5068e_40 rfl ?_
  have hP9 := hP.sub (ws' := [(sb, .inr (1, [.ref a, .int 0, .int mb, .int (nI n)])), (a, .inl (cB, m, .inl f))]) [0, 1] rfl
  have hD9 := hD.sub (ws' := [(sb, .inr (1, [.ref a, .int 0, .int mb, .int (nI n)])), (a, .inl (cB, m, .inl f))]) [0, 1] (by decide) rfl
  refine W.widen (k := 0) (n := 0) (by omega) (by omega) ?_
  exact W.zret (v := (((((f (nI k).toNatClampNeg) &&& 255)).toUInt32 % 65536).toInt32)) hx hb hr (pk_nc _) (fun t ht9 hW => ⟨⟨(((((f (nI k).toNatClampNeg) &&& 255)).toUInt32 % 65536).toInt32), (), rfl, ⟨(pk_nc _), (show _ = _ by rw [nI_clamp (by omega)])⟩, by rw [ht9]; exact hP9, hD9⟩, hS.F ht9⟩) hS.2.2 xdJ5_charAt_5068e_41
set_option maxHeartbeats 16000000 in
set_option maxRecDepth 100000 in
/-- StringBuilder.charAt -/
theorem c_sx_cAt (l : Launch) (dC : Nat → ClassId) (dI : Nat → Nat → Nat) (cI cB cZ cJ cR : ClassId) (tb : Nat → Nat) (sz : Nat) (sb : Nat) (a : Nat) (m : Nat) (n : Nat) (f : Nat → Int32) (mb : Int32) (k : Nat) (hm : m = 16 ∨ m = 34) (hf : sb_Fit f) (hk : k < n) (hn : n ≤ m) : Met l yJ4_charAt_5068e (Cond.code yJ4_charAt_5068e cJ4_charAt_5068e 2 (some .char) :: tw_W) ({ frames := 3, cells := 0, slots := 0, locals := 67 }) (pc_ (dC, dI) (tyS cI cB cZ cJ cR) tb [(sb, .inr (1, [.ref a, .int 0, .int mb, .int (nI n)])), (a, .inl (cB, m, .inl f))] sz [.ref sb, .int (nI k)]) (qi_ (dC, dI) [(sb, .inr (1, [.ref a, .int 0, .int mb, .int (nI n)])), (a, .inl (cB, m, .inl f))] sz (fun (r : Int32) (u : Unit) => chR f k r) (fun (u : Unit) => [(sb, .inr (1, [.ref a, .int 0, .int mb, .int (nI n)])), (a, .inl (cB, m, .inl f))])) 0 0 (va_A [(sb, .inr (1, [.ref a, .int 0, .int mb, .int (nI n)])), (a, .inl (cB, m, .inl f))] sz) := by
  refine Met.ofW (cc := cJ4_charAt_5068e) (maxL := 2) (ret := (some .char)) (by decide) rfl ?_
  intro p e s m9 args below meth c s₁ B hml hv
  obtain ⟨rfl, hsz, hP, hKK, hD0, hFx⟩ := hv
  have hK := hKK.1
  have hx := B.exec
  have hb := B.bytes
  have hr := B.returns
  have ht : ∀ w ∈ tw_W, w.before _ s = true := fun w h => atoms_spec (ws := Cond.code yJ4_charAt_5068e cJ4_charAt_5068e 2 (some .char) :: tw_W) B.pre w (List.mem_cons_of_mem _ h)
  have hown : s.vm.findClass RJ4 = some m9.cls := findClass_of_methodNamed B.named
  have hlocks := B.notSynchronized
  subst hsz
  unfold qi_
  have hD := hD0.self (sz := s.heap.size)
  generalize hAe : va_A [(sb, .inr (1, [.ref a, .int 0, .int mb, .int (nI n)])), (a, .inl (cB, m, .inl f))] s.heap.size = A at hD hFx ⊢
  have hA : ∀ q : Nat, s.heap.size ≤ q → A q := fun q h => by rw [← hAe]; exact Or.inr h
  have hS : va_S A s.heap s.heap [] := va_S.rf
  have hP : va_P (dC, dI) vwCl [(sb, .inr (1, [.ref a, .int 0, .int mb, .int (nI n)])), (a, .inl (cB, m, .inl f))] s.heap := hP
  have hl := lv_entry ([.ref sb, .int (nI k)]) (n := 2) (Nat.le_of_ble_eq_true rfl)
  rw [lg_entry_eq]
  generalize (lg_sl ([.ref sb, .int (nI k)]) ++ List.replicate (2 - (lg_sl ([.ref sb, .int (nI k)])).length) Slot.unset).toArray = ls at hl ⊢
  have hl : lv_has ls 2 [(0, .ref sb), (1, .int (nI k))] := hl
  refine lv_aload_n hx hb xdJ4_charAt_5068e_0 rfl (lv_at hl 0 rfl) ?_
  refine lv_iload_n hx hb xdJ4_charAt_5068e_1 rfl (lv_at hl 1 rfl) ?_
  refine ca_i (wr := []) (rn_SU (n := 1) (As := [.int (nI k)]) (rest := []) hx hb hml hown ht hKK hFx hP hD hS hA (c_sx_cAt5 l dC dI cI cB cZ cJ cR tb s.heap.size sb a m n f mb k (by first | assumption | omega | rfl | exact sb_fit0) (by first | assumption | omega | rfl | exact sb_fit0) (by first | assumption | omega | rfl | exact sb_fit0) (by first | assumption | omega | rfl | exact sb_fit0)) xw_81 xw_82 (by decide +kernel) rfl rfl ⟨Nat.le_of_ble_eq_true rfl, Nat.le_of_ble_eq_true rfl⟩ [0, 1] rfl (by decide) rfl rfl rfl hl.1 rfl (Nat.le_of_ble_eq_true rfl) xdJ4_charAt_5068e_2 ⟨Nat.le_of_ble_eq_true rfl, Nat.le_of_ble_eq_true rfl⟩) hP hD hS hA (isC := [0, 1]) (isR := []) rfl rfl (by decide) (by decide) (fun r2 u H locs hw1 hP hD hS => ?_)
  obtain ⟨g3, g4⟩ := hw1
  have g3 : narrow .char (.int r2) = .int r2 := g3
  have g4 : chR f k r2 := g4
  have hP : va_P (dC, dI) vwCl [(sb, .inr (1, [.ref a, .int 0, .int mb, .int (nI n)])), (a, .inl (cB, m, .inl f))] H := hP
  have hD : va_D A [(sb, .inr (1, [.ref a, .int 0, .int mb, .int (nI n)])), (a, .inl (cB, m, .inl f))] := hD
  refine W.widen (k := 0) (n := 0) (by omega) (by omega) ?_
  have hP9 := hP.sub (ws' := [(sb, .inr (1, [.ref a, .int 0, .int mb, .int (nI n)])), (a, .inl (cB, m, .inl f))]) [0, 1] rfl
  have hD9 := hD.sub (ws' := [(sb, .inr (1, [.ref a, .int 0, .int mb, .int (nI n)])), (a, .inl (cB, m, .inl f))]) [0, 1] (by decide) rfl
  refine W.widen (k := 0) (n := 0) (by omega) (by omega) ?_
  exact W.zret (v := r2) hx hb hr (by assumption) (fun t ht9 hW => ⟨⟨r2, (), rfl, (by first | assumption | omega | (dsimp only; omega) | (dsimp only; assumption) | rfl), by rw [ht9]; exact hP9, hD9⟩, hS.F ht9⟩) hS.2.2 xdJ4_charAt_5068e_5
