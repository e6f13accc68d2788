theorem xdX13_sign0_0 : decode cX13_sign0 0 = .ok (.aload_n 0, 1) := by decide +kernel
theorem xdX13_sign0_1 : decode cX13_sign0 1 = .ok (.getfield 576, 3) := by decide +kernel
theorem xw_145 : (.fieldLink RX13 576 "PocketCompilerModel" "shown" "[I" : Cond) ∈ tw_W := tw_in (t8_11 (List.mem_of_getElem? (i := 20) rfl)) rfl
theorem xiX13_0 : ∀ j, j < 8 → u_lay RX13 TX13 (0 + j) ∈ tw_W := itX13_0
theorem xiX13_8 : ∀ j, j < 8 → u_lay RX13 TX13 (8 + j) ∈ tw_W := itX13_8
theorem xiX13_16 : ∀ j, j < 8 → u_lay RX13 TX13 (16 + j) ∈ tw_W := itX13_16
theorem xiX13_24 : ∀ j, j < 8 → u_lay RX13 TX13 (24 + j) ∈ tw_W := itX13_24
theorem xiX13_32 : ∀ j, j < 8 → u_lay RX13 TX13 (32 + j) ∈ tw_W := itX13_32
theorem xiX13_40 : ∀ j, j < 8 → u_lay RX13 TX13 (40 + j) ∈ tw_W := itX13_40
theorem xiX13_48 : ∀ j, j < 8 → u_lay RX13 TX13 (48 + j) ∈ tw_W := itX13_48
theorem xiX13_56 : ∀ j, j < 8 → u_lay RX13 TX13 (56 + j) ∈ tw_W := itX13_56
theorem xiX13_64 : ∀ j, j < 8 → u_lay RX13 TX13 (64 + j) ∈ tw_W := itX13_64
theorem xiX13_72 : ∀ j, j < 8 → u_lay RX13 TX13 (72 + j) ∈ tw_W := itX13_72
theorem xiX13_80 : ∀ j, j < 8 → u_lay RX13 TX13 (80 + j) ∈ tw_W := itX13_80
theorem xiX13_88 : ∀ j, j < 8 → u_lay RX13 TX13 (88 + j) ∈ tw_W := itX13_88
theorem xiX13_96 : ∀ j, j < 8 → u_lay RX13 TX13 (96 + j) ∈ tw_W := itX13_96
theorem xiX13_104 : ∀ j, j < 8 → u_lay RX13 TX13 (104 + j) ∈ tw_W := itX13_104
theorem xiX13_112 : ∀ j, j < 8 → u_lay RX13 TX13 (112 + j) ∈ tw_W := itX13_112
theorem xiX13_120 : ∀ j, j < 4 → u_lay RX13 TX13 (120 + j) ∈ tw_W := itX13_120
theorem xiX13 : ∀ w ∈ wsX130, w ∈ tw_W := by
  intro w hw
  obtain ⟨k, hk, rfl⟩ := List.mem_map.mp hw
  rw [List.mem_range] at hk
  by_cases h0 : k < 8
  · exact (show 0 + (k - 0) = k by omega) ▸ xiX13_0 (k - 0) (by omega)
  by_cases h8 : k < 16
  · exact (show 8 + (k - 8) = k by omega) ▸ xiX13_8 (k - 8) (by omega)
  by_cases h16 : k < 24
  · exact (show 16 + (k - 16) = k by omega) ▸ xiX13_16 (k - 16) (by omega)
  by_cases h24 : k < 32
  · exact (show 24 + (k - 24) = k by omega) ▸ xiX13_24 (k - 24) (by omega)
  by_cases h32 : k < 40
  · exact (show 32 + (k - 32) = k by omega) ▸ xiX13_32 (k - 32) (by omega)
  by_cases h40 : k < 48
  · exact (show 40 + (k - 40) = k by omega) ▸ xiX13_40 (k - 40) (by omega)
  by_cases h48 : k < 56
  · exact (show 48 + (k - 48) = k by omega) ▸ xiX13_48 (k - 48) (by omega)
  by_cases h56 : k < 64
  · exact (show 56 + (k - 56) = k by omega) ▸ xiX13_56 (k - 56) (by omega)
  by_cases h64 : k < 72
  · exact (show 64 + (k - 64) = k by omega) ▸ xiX13_64 (k - 64) (by omega)
  by_cases h72 : k < 80
  · exact (show 72 + (k - 72) = k by omega) ▸ xiX13_72 (k - 72) (by omega)
  by_cases h80 : k < 88
  · exact (show 80 + (k - 80) = k by omega) ▸ xiX13_80 (k - 80) (by omega)
  by_cases h88 : k < 96
  · exact (show 88 + (k - 88) = k by omega) ▸ xiX13_88 (k - 88) (by omega)
  by_cases h96 : k < 104
  · exact (show 96 + (k - 96) = k by omega) ▸ xiX13_96 (k - 96) (by omega)
  by_cases h104 : k < 112
  · exact (show 104 + (k - 104) = k by omega) ▸ xiX13_104 (k - 104) (by omega)
  by_cases h112 : k < 120
  · exact (show 112 + (k - 112) = k by omega) ▸ xiX13_112 (k - 112) (by omega)
  by_cases h120 : k < 124
  · exact (show 120 + (k - 120) = k by omega) ▸ xiX13_120 (k - 120) (by omega)
  omega
theorem xdX13_sign0_4 : decode cX13_sign0 4 = .ok (.aload_n 0, 1) := by decide +kernel
theorem xdX13_sign0_5 : decode cX13_sign0 5 = .ok (.getfield 703, 3) := by decide +kernel
theorem xw_146 : (.fieldLink RX13 703 "PocketCompilerModel" "shownMany" "I" : Cond) ∈ tw_W := tw_in (t8_11 (List.mem_of_getElem? (i := 21) rfl)) rfl
theorem xdX13_sign0_8 : decode cX13_sign0 8 = .ok (.iload_n 1, 1) := by decide +kernel
theorem xdX13_sign0_9 : decode cX13_sign0 9 = .ok (.iastore, 1) := by decide +kernel
theorem xdX13_sign0_10 : decode cX13_sign0 10 = .ok (.aload_n 0, 1) := by decide +kernel
theorem xdX13_sign0_11 : decode cX13_sign0 11 = .ok (.dup, 1) := by decide +kernel
theorem xdX13_sign0_12 : decode cX13_sign0 12 = .ok (.getfield 703, 3) := by decide +kernel
theorem xdX13_sign0_15 : decode cX13_sign0 15 = .ok (.iconst 1, 1) := by decide +kernel
theorem xdX13_sign0_16 : decode cX13_sign0 16 = .ok (.iadd, 1) := by decide +kernel
theorem xdX13_sign0_17 : decode cX13_sign0 17 = .ok (.putfield 703, 3) := by decide +kernel
theorem xdX13_sign0_20 : decode cX13_sign0 20 = .ok (.return_, 1) := by decide +kernel
theorem xdX13_words_0 : decode cX13_words 0 = .ok (.iconst 0, 1) := by decide +kernel
theorem xdX13_words_1 : decode cX13_words 1 = .ok (.istore_n 2, 1) := by decide +kernel
theorem xdX13_words_2 : decode cX13_words 2 = .ok (.iload_n 2, 1) := by decide +kernel
theorem xdX13_words_3 : decode cX13_words 3 = .ok (.aload_n 1, 1) := by decide +kernel
theorem xdX13_words_4 : decode cX13_words 4 = .ok (.invokevirtual 84, 3) := by decide +kernel
theorem xw_147 : ∀ w ∈ ([.methodLink RX13 84 yJ0_length_8abf5, .instanceMethod yJ0_length_8abf5, .selects "java/lang/String" yJ0_length_8abf5 yJ0_length_8abf5, .initialized "java/lang/String"] : List Cond), w ∈ tw_W := al_c (tw_in (t8_9 (List.mem_of_getElem? (i := 107) rfl)) rfl) (al_c (tw_in (t8_3 (List.mem_of_getElem? (i := 12) rfl)) rfl) (al_c (tw_in (t8_3 (List.mem_of_getElem? (i := 13) rfl)) rfl) (al_c (tw_in (t8_1 (List.mem_of_getElem? (i := 6) rfl)) rfl) al_n)))
theorem xdX13_words_7 : decode cX13_words 7 = .ok (.if_icmp .ge 18, 3) := by decide +kernel
theorem xdX13_words_10 : decode cX13_words 10 = .ok (.aload_n 0, 1) := by decide +kernel
theorem xdX13_words_11 : decode cX13_words 11 = .ok (.aload_n 1, 1) := by decide +kernel
theorem xdX13_words_12 : decode cX13_words 12 = .ok (.iload_n 2, 1) := by decide +kernel
theorem xdX13_words_13 : decode cX13_words 13 = .ok (.invokevirtual 90, 3) := by decide +kernel
theorem xw_148 : ∀ w ∈ ([.methodLink RX13 90 yJ0_charAt_5068e, .instanceMethod yJ0_charAt_5068e, .selects "java/lang/String" yJ0_charAt_5068e yJ0_charAt_5068e, .initialized "java/lang/String"] : List Cond), w ∈ tw_W := al_c (tw_in (t8_9 (List.mem_of_getElem? (i := 108) rfl)) rfl) (al_c (tw_in (t8_3 (List.mem_of_getElem? (i := 25) rfl)) rfl) (al_c (tw_in (t8_3 (List.mem_of_getElem? (i := 26) rfl)) rfl) (al_c (tw_in (t8_1 (List.mem_of_getElem? (i := 6) rfl)) rfl) al_n)))
theorem xdX13_words_16 : decode cX13_words 16 = .ok (.invokevirtual 706, 3) := by decide +kernel
theorem xw_149 : (.code yX13_sign0 cX13_sign0 2 none : Cond) ∈ tw_W := tw_in (t8_13 (List.mem_of_getElem? (i := 0) rfl)) rfl
theorem xw_150 : ∀ w ∈ ([.methodLink RX13 706 yX13_sign0, .instanceMethod yX13_sign0, .selects RX13 yX13_sign0 yX13_sign0, .initialized RX13] : List Cond), w ∈ tw_W := al_c (tw_in (t8_12 (List.mem_of_getElem? (i := 237) rfl)) rfl) (al_c (tw_in (t8_12 (List.mem_of_getElem? (i := 239) rfl)) rfl) (al_c (tw_in (t7_12 (q := (yX13_sign0, 124)) (List.mem_of_getElem? (i := 14) rfl)) rfl) (al_c (tw_in (t8_1 (List.mem_of_getElem? (i := 23) rfl)) rfl) al_n)))
theorem xdX13_words_19 : decode cX13_words 19 = .ok (.iinc 2 1, 3) := by decide +kernel
theorem xdX13_words_22 : decode cX13_words 22 = .ok (.goto (-20), 3) := by decide +kernel
theorem xdX13_words_25 : decode cX13_words 25 = .ok (.return_, 1) := by decide +kernel
theorem xdX13_decimal_0 : decode cX13_decimal 0 = .ok (.iload_n 1, 1) := by decide +kernel
theorem xdX13_decimal_1 : decode cX13_decimal 1 = .ok (.ifCond .ge 9, 3) := by decide +kernel
theorem xdX13_decimal_10 : decode cX13_decimal 10 = .ok (.iload_n 1, 1) := by decide +kernel
theorem xdX13_decimal_11 : decode cX13_decimal 11 = .ok (.i2l, 1) := by decide +kernel
theorem xdX13_decimal_12 : decode cX13_decimal 12 = .ok (.lstore_n 2, 1) := by decide +kernel
theorem xdX13_decimal_13 : decode cX13_decimal 13 = .ok (.lconst 1, 1) := by decide +kernel
theorem xdX13_decimal_14 : decode cX13_decimal 14 = .ok (.lstore 4, 2) := by decide +kernel
theorem xdX13_decimal_16 : decode cX13_decimal 16 = .ok (.lload_n 2, 1) := by decide +kernel
theorem xdX13_decimal_17 : decode cX13_decimal 17 = .ok (.lload 4, 2) := by decide +kernel
theorem xdX13_decimal_19 : decode cX13_decimal 19 = .ok (.ldiv, 1) := by decide +kernel
theorem xdX13_decimal_20 : decode cX13_decimal 20 = .ok (.ldc2_w 78, 3) := by decide +kernel
theorem xw_151 : (.constantLong RX13 78 (10) : Cond) ∈ tw_W := tw_in (t8_9 (List.mem_of_getElem? (i := 100) rfl)) rfl
theorem xdX13_decimal_23 : decode cX13_decimal 23 = .ok (.lcmp, 1) := by decide +kernel
theorem xdX13_decimal_24 : decode cX13_decimal 24 = .ok (.ifCond .lt 14, 3) := by decide +kernel
theorem xdX13_decimal_38 : decode cX13_decimal 38 = .ok (.iload_n 1, 1) := by decide +kernel
theorem xdX13_decimal_39 : decode cX13_decimal 39 = .ok (.ifCond .ge 9, 3) := by decide +kernel
theorem xdX13_decimal_48 : decode cX13_decimal 48 = .ok (.lload 4, 2) := by decide +kernel
theorem xdX13_decimal_50 : decode cX13_decimal 50 = .ok (.lconst 0, 1) := by decide +kernel
theorem xdX13_decimal_51 : decode cX13_decimal 51 = .ok (.lcmp, 1) := by decide +kernel
theorem xdX13_decimal_52 : decode cX13_decimal 52 = .ok (.ifCond .le 30, 3) := by decide +kernel
theorem xdX13_decimal_82 : decode cX13_decimal 82 = .ok (.return_, 1) := by decide +kernel
theorem xdX13_decimal_55 : decode cX13_decimal 55 = .ok (.aload_n 0, 1) := by decide +kernel
theorem xdX13_decimal_56 : decode cX13_decimal 56 = .ok (.bipush 48, 2) := by decide +kernel
theorem xdX13_decimal_58 : decode cX13_decimal 58 = .ok (.lload_n 2, 1) := by decide +kernel
theorem xdX13_decimal_59 : decode cX13_decimal 59 = .ok (.lload 4, 2) := by decide +kernel
theorem xdX13_decimal_61 : decode cX13_decimal 61 = .ok (.ldiv, 1) := by decide +kernel
theorem xdX13_decimal_62 : decode cX13_decimal 62 = .ok (.ldc2_w 78, 3) := by decide +kernel
theorem xdX13_decimal_65 : decode cX13_decimal 65 = .ok (.lrem, 1) := by decide +kernel
theorem xdX13_decimal_66 : decode cX13_decimal 66 = .ok (.l2i, 1) := by decide +kernel
theorem xdX13_decimal_67 : decode cX13_decimal 67 = .ok (.iadd, 1) := by decide +kernel
theorem xdX13_decimal_68 : decode cX13_decimal 68 = .ok (.invokevirtual 706, 3) := by decide +kernel
theorem xdX13_decimal_71 : decode cX13_decimal 71 = .ok (.lload 4, 2) := by decide +kernel
theorem xdX13_decimal_73 : decode cX13_decimal 73 = .ok (.ldc2_w 78, 3) := by decide +kernel
theorem xdX13_decimal_76 : decode cX13_decimal 76 = .ok (.ldiv, 1) := by decide +kernel
theorem xdX13_decimal_77 : decode cX13_decimal 77 = .ok (.lstore 4, 2) := by decide +kernel
theorem xdX13_decimal_79 : decode cX13_decimal 79 = .ok (.goto (-31), 3) := by decide +kernel
theorem xdX13_decimal_27 : decode cX13_decimal 27 = .ok (.lload 4, 2) := by decide +kernel
theorem xdX13_decimal_29 : decode cX13_decimal 29 = .ok (.ldc2_w 78, 3) := by decide +kernel
theorem xdX13_decimal_32 : decode cX13_decimal 32 = .ok (.lmul, 1) := by decide +kernel
theorem xdX13_decimal_33 : decode cX13_decimal 33 = .ok (.lstore 4, 2) := by decide +kernel
theorem xdX13_decimal_35 : decode cX13_decimal 35 = .ok (.goto (-19), 3) := by decide +kernel
theorem xdX13_decimal_4 : decode cX13_decimal 4 = .ok (.iload_n 1, 1) := by decide +kernel
theorem xdX13_decimal_5 : decode cX13_decimal 5 = .ok (.i2l, 1) := by decide +kernel
theorem xdX13_decimal_6 : decode cX13_decimal 6 = .ok (.lneg, 1) := by decide +kernel
theorem xdX13_decimal_7 : decode cX13_decimal 7 = .ok (.goto 5, 3) := by decide +kernel
theorem xdX13_decimal_42 : decode cX13_decimal 42 = .ok (.aload_n 0, 1) := by decide +kernel
theorem xdX13_decimal_43 : decode cX13_decimal 43 = .ok (.bipush 45, 2) := by decide +kernel
theorem xdX13_decimal_45 : decode cX13_decimal 45 = .ok (.invokevirtual 706, 3) := by decide +kernel
theorem xdX13_named__0 : decode cX13_named_ 0 = .ok (.aload_n 0, 1) := by decide +kernel
theorem xdX13_named__1 : decode cX13_named_ 1 = .ok (.bipush 120, 2) := by decide +kernel
theorem xdX13_named__3 : decode cX13_named_ 3 = .ok (.invokevirtual 706, 3) := by decide +kernel
theorem xdX13_named__6 : decode cX13_named_ 6 = .ok (.aload_n 0, 1) := by decide +kernel
theorem xdX13_named__7 : decode cX13_named_ 7 = .ok (.iload_n 1, 1) := by decide +kernel
theorem xdX13_named__8 : decode cX13_named_ 8 = .ok (.invokevirtual 709, 3) := by decide +kernel
theorem xw_152 : (.code yX13_decimal cX13_decimal 6 none : Cond) ∈ tw_W := tw_in (t8_13 (List.mem_of_getElem? (i := 9) rfl)) rfl
theorem xw_153 : ∀ w ∈ ([.methodLink RX13 709 yX13_decimal, .instanceMethod yX13_decimal, .selects RX13 yX13_decimal yX13_decimal, .initialized RX13] : List Cond), w ∈ tw_W := al_c (tw_in (t8_13 (List.mem_of_getElem? (i := 6) rfl)) rfl) (al_c (tw_in (t8_13 (List.mem_of_getElem? (i := 8) rfl)) rfl) (al_c (tw_in (t7_13 (q := (yX13_decimal, 124)) (List.mem_of_getElem? (i := 0) rfl)) rfl) (al_c (tw_in (t8_1 (List.mem_of_getElem? (i := 23) rfl)) rfl) al_n)))
theorem xdX13_named__11 : decode cX13_named_ 11 = .ok (.return_, 1) := by decide +kernel
theorem xdX13_comma_0 : decode cX13_comma 0 = .ok (.aload_n 0, 1) := by decide +kernel
theorem xdX13_comma_1 : decode cX13_comma 1 = .ok (.bipush 44, 2) := by decide +kernel
theorem xdX13_comma_3 : decode cX13_comma 3 = .ok (.invokevirtual 706, 3) := by decide +kernel
theorem xdX13_comma_6 : decode cX13_comma 6 = .ok (.aload_n 0, 1) := by decide +kernel
theorem xdX13_comma_7 : decode cX13_comma 7 = .ok (.bipush 32, 2) := by decide +kernel
theorem xdX13_comma_9 : decode cX13_comma 9 = .ok (.invokevirtual 706, 3) := by decide +kernel
theorem xdX13_comma_12 : decode cX13_comma 12 = .ok (.return_, 1) := by decide +kernel
theorem xdX13_three_0 : decode cX13_three 0 = .ok (.aload_n 0, 1) := by decide +kernel
theorem xdX13_three_1 : decode cX13_three 1 = .ok (.iload_n 1, 1) := by decide +kernel
theorem xdX13_three_2 : decode cX13_three 2 = .ok (.invokevirtual 712, 3) := by decide +kernel
theorem xw_154 : (.code yX13_named_ cX13_named_ 2 none : Cond) ∈ tw_W := tw_in (t8_13 (List.mem_of_getElem? (i := 5) rfl)) rfl
theorem xw_155 : ∀ w ∈ ([.methodLink RX13 712 yX13_named_, .instanceMethod yX13_named_, .selects RX13 yX13_named_ yX13_named_, .initialized RX13] : List Cond), w ∈ tw_W := al_c (tw_in (t8_13 (List.mem_of_getElem? (i := 2) rfl)) rfl) (al_c (tw_in (t8_13 (List.mem_of_getElem? (i := 4) rfl)) rfl) (al_c (tw_in (t7_12 (q := (yX13_named_, 124)) (List.mem_of_getElem? (i := 15) rfl)) rfl) (al_c (tw_in (t8_1 (List.mem_of_getElem? (i := 23) rfl)) rfl) al_n)))
theorem xdX13_three_5 : decode cX13_three 5 = .ok (.aload_n 0, 1) := by decide +kernel
theorem xdX13_three_6 : decode cX13_three 6 = .ok (.invokevirtual 714, 3) := by decide +kernel
theorem xw_156 : (.code yX13_comma cX13_comma 1 none : Cond) ∈ tw_W := tw_in (t8_13 (List.mem_of_getElem? (i := 13) rfl)) rfl
theorem xw_157 : ∀ w ∈ ([.methodLink RX13 714 yX13_comma, .instanceMethod yX13_comma, .selects RX13 yX13_comma yX13_comma, .initialized RX13] : List Cond), w ∈ tw_W := al_c (tw_in (t8_13 (List.mem_of_getElem? (i := 10) rfl)) rfl) (al_c (tw_in (t8_13 (List.mem_of_getElem? (i := 12) rfl)) rfl) (al_c (tw_in (t7_13 (q := (yX13_comma, 124)) (List.mem_of_getElem? (i := 1) rfl)) rfl) (al_c (tw_in (t8_1 (List.mem_of_getElem? (i := 23) rfl)) rfl) al_n)))
theorem xdX13_three_9 : decode cX13_three 9 = .ok (.aload_n 0, 1) := by decide +kernel
theorem xdX13_three_10 : decode cX13_three 10 = .ok (.iload_n 2, 1) := by decide +kernel
theorem xdX13_three_11 : decode cX13_three 11 = .ok (.invokevirtual 712, 3) := by decide +kernel
theorem xdX13_three_14 : decode cX13_three 14 = .ok (.aload_n 0, 1) := by decide +kernel
theorem xdX13_three_15 : decode cX13_three 15 = .ok (.invokevirtual 714, 3) := by decide +kernel
theorem xdX13_three_18 : decode cX13_three 18 = .ok (.return_, 1) := by decide +kernel
theorem xdX13_at__0 : decode cX13_at_ 0 = .ok (.aload_n 0, 1) := by decide +kernel
theorem xdX13_at__1 : decode cX13_at_ 1 = .ok (.iload_n 1, 1) := by decide +kernel
theorem xdX13_at__2 : decode cX13_at_ 2 = .ok (.invokevirtual 709, 3) := by decide +kernel
theorem xdX13_at__5 : decode cX13_at_ 5 = .ok (.aload_n 0, 1) := by decide +kernel
theorem xdX13_at__6 : decode cX13_at_ 6 = .ok (.bipush 40, 2) := by decide +kernel
theorem xdX13_at__8 : decode cX13_at_ 8 = .ok (.invokevirtual 706, 3) := by decide +kernel
theorem xdX13_at__11 : decode cX13_at_ 11 = .ok (.aload_n 0, 1) := by decide +kernel
theorem xdX13_at__12 : decode cX13_at_ 12 = .ok (.iload_n 2, 1) := by decide +kernel
theorem xdX13_at__13 : decode cX13_at_ 13 = .ok (.invokevirtual 712, 3) := by decide +kernel
theorem xdX13_at__16 : decode cX13_at_ 16 = .ok (.aload_n 0, 1) := by decide +kernel
theorem xdX13_at__17 : decode cX13_at_ 17 = .ok (.bipush 41, 2) := by decide +kernel
theorem xdX13_at__19 : decode cX13_at_ 19 = .ok (.invokevirtual 706, 3) := by decide +kernel
theorem xdX13_at__22 : decode cX13_at_ 22 = .ok (.return_, 1) := by decide +kernel
/-! the reference's show -/
def fsN (fs : List Value) (n : Nat) : List Value := fs.set 104 (.int (nI n))
theorem fsN_len {fs : List Value} {n : Nat} : (fsN fs n).length = fs.length := List.length_set
theorem fsN_sh {fs : List Value} {n sa : Nat} (h : fs[103]? = some (.ref sa)) : (fsN fs n)[103]? = some (.ref sa) := by
  unfold fsN
  rw [List.getElem?_set_ne (by decide)]
  exact h
theorem fsN_n {fs : List Value} {n : Nat} (h : fs.length = 124) : (fsN fs n)[104]? = some (.int (nI n)) := by
  unfold fsN
  rw [List.getElem?_set_self (by omega)]
theorem fsN_set {fs : List Value} {n k : Nat} : (fsN fs n).set 104 (.int (nI k)) = fsN fs k := List.set_set ..
theorem l_neg {x : Int32} (h : x < 0) : -(x.toInt64) = lN (-x.toInt).toNat := by
  obtain ⟨e, hb, h0⟩ := nN_of h
  apply Int64.toInt_inj.mp
  rw [pk_lT (by omega), Int64.toInt_neg, Int32.toInt_toInt64]
  have hx : x.toInt = -((-x.toInt).toNat : Int) := by omega
  rw [Int.bmod_eq_of_le (by first | omega | (simp; omega) | simp) (by first | omega | (simp; omega) | simp)]
  omega
theorem l_pos {x : Int32} (h : ¬ x < 0) : x.toInt64 = lN x.toInt.toNat := by
  obtain ⟨j, hj, rfl⟩ := nI_of h
  rw [nI_toInt hj, nI_l hj]
  rfl
/-- the unit of the t-th digit from the right; 0 when no digit is left -/
def unT : Nat → Nat
  | 0 => 0
  | t + 1 => 10 ^ t
theorem unT_div (t : Nat) : unT (t + 1) / 10 = unT t := by
  cases t with
  | zero => rfl
  | succ t =>
    show 10 ^ (t + 1) / 10 = 10 ^ t
    rw [Nat.pow_succ]
    omega
theorem p10 : ∀ j, j ≤ 10 → 10 ^ j < 2 ^ 62 := by decide
theorem dgN_10 {M j : Nat} (hj : j ≤ 9) (h1 : j = 0 ∨ 10 ^ j ≤ M) (h2 : M / 10 ^ j < 10) (hM : M ≤ 2147483648) : dgN M = j + 1 := by
  have h3 : M < 10 * 10 ^ j := (Nat.div_lt_iff_lt_mul (Nat.pow_pos (by decide))).mp h2
  have hj : j = 0 ∨ j = 1 ∨ j = 2 ∨ j = 3 ∨ j = 4 ∨ j = 5 ∨ j = 6 ∨ j = 7 ∨ j = 8 ∨ j = 9 := by omega
  have h9 := dgN_val M
  rcases hj with rfl | rfl | rfl | rfl | rfl | rfl | rfl | rfl | rfl | rfl <;> simp at h1 h3 <;> omega
theorem j9_lt {M j : Nat} (hM : M ≤ 2147483648) (hj : j ≤ 9) (h : ¬ M / 10 ^ j < 10) : j + 1 ≤ 9 := by
  rcases Nat.lt_or_ge j 9 with z | z
  · omega
  · obtain rfl : j = 9 := by omega
    refine absurd ?_ h
    show M / 1000000000 < 10
    omega
theorem str_any {tb : Nat → Nat} {A : Nat → Prop} {s : State} {H : Heap} {locs : List Loc} (hF : fx_ tb A s s.heap) (hS : va_S A s.heap H locs) (i : Nat) (hi : i < 66) : va_Any "java/lang/String" s H (tb (100 + i)) := by
  obtain ⟨cell, h1, h2, h3⟩ := vk_recv (adK := fun i => tb (100 + i)) (i := i) hF.2.2.2.2.2.2 hi hS
  obtain ⟨k, hk, -⟩ := Vm.findClass_spec h3
  exact ⟨cell, h1, h2, ⟨k, hk⟩, fun comp hc => by rw [Option.some.inj (hc.symm.trans h3)]; exact va_asg _ _⟩
theorem and7_lt (x : Int32) : (x &&& 7).toNatClampNeg < 8 := by
  obtain ⟨j, hj, e⟩ := pk_andE x (m := 7) 3 (by decide)
  rw [e, nI_clamp (by omega)]
  exact hj
theorem rf_or (r : Option Nat) : va_rf r = .null ∨ ∃ a, va_rf r = .ref a := by
  cases r with
  | none => exact Or.inl rfl
  | some a => exact Or.inr ⟨a, rfl⟩
theorem up8 (a b c d e f g h : Option Nat) {j : Nat} (hj : j < 8) : va_up (va_up (va_up (va_up (va_up (va_up (va_up (va_up (fun _ => none) 0 a) 1 b) 2 c) 3 d) 4 e) 5 f) 6 g) 7 h j = [a, b, c, d, e, f, g, h].getD j none := by
  have hj : j = 0 ∨ j = 1 ∨ j = 2 ∨ j = 3 ∨ j = 4 ∨ j = 5 ∨ j = 6 ∨ j = 7 := by omega
  rcases hj with rfl | rfl | rfl | rfl | rfl | rfl | rfl | rfl <;> rfl
theorem gd_map (g : Nat → Nat) (L : List (Option Nat)) (j : Nat) : (L.getD j none).map g = (L.map (Option.map g)).getD j none := by
  rw [List.getD_eq_getElem?_getD, List.getD_eq_getElem?_getD, List.getElem?_map]
  cases L[j]? <;> rfl
/-- pieces of the reference's text -/
def smT (i : Nat) : Nat → List Int32
  | 0 => []
  | k + 1 => smT i k ++ [nI (chN i k)]
def rgM (x : Int32) : List Int32 := [120] ++ decT x
def coM : List Int32 := [44] ++ [32]
def thM (x y : Int32) : List Int32 := ((rgM x ++ coM) ++ rgM y) ++ coM
def atM (x y : Int32) : List Int32 := ((decT x ++ [40]) ++ rgM y) ++ [41]
def hyT (K : Nat) (X : Nat → Int32) : Nat → List Int32
  | 0 => []
  | i + 1 => hyT K X i ++ [nI (chN K ((X i &&& 15).toNatClampNeg))]
theorem dig10 : ∀ k, k < 10 → 48 + (lN k).toInt32 = nI (48 + k) := by decide +kernel
theorem l_dig {M t : Nat} (hM : M ≤ 2147483648) (ht : t ≤ 9) : 48 + (((lN M / lN (unT (t + 1))) - (lN M / lN (unT (t + 1))) / (10 : Int64) * (10 : Int64))).toInt32 = nI (48 + M / 10 ^ t % 10) := by
  have hp := p10 t (by omega)
  have hp6 : 0 < 10 ^ t := Nat.pow_pos (by decide)
  have e1 : lN M / lN (unT (t + 1)) = lN (M / 10 ^ t) := pk_lDiv (by omega) hp6 (show 10 ^ t < 2 ^ 63 by omega)
  rw [e1]
  have hq2 : M / 10 ^ t ≤ 2147483648 := Nat.le_trans (Nat.div_le_self _ _) hM
  generalize M / 10 ^ t = q at hq2 ⊢
  have e2 : lN q / (10 : Int64) = lN (q / 10) := pk_lDiv (b := 10) (by omega) (by decide) (by decide)
  rw [e2, show (10 : Int64) = lN 10 from rfl, lN_mul]
  have e3 : lN q - lN (q / 10 * 10) = lN (q % 10) := by
    apply Int64.toInt_inj.mp
    rw [Int64.toInt_sub, lN_Z (by omega), lN_Z (by omega), lN_Z (by omega)]
    rw [Int.bmod_eq_of_le (by omega) (by omega)]
    omega
  rw [e3]
  exact dig10 _ (by omega)
set_option maxHeartbeats 16000000 in
set_option maxRecDepth 100000 in
/-- sign0 -/
theorem c_sx_sign (l : Launch) (dC : Nat → ClassId) (dI : Nat → Nat → Nat) (cI cB cZ cJ cR : ClassId) (tb : Nat → Nat) (sz : Nat) (h0 : Nat) (sa : Nat) (n : Nat) (fs : List Value) (f : Nat → Int32) (v : Int32) (hsh : fs[103]? = some (.ref sa)) (hln : fs.length = 124) (h1 : n + 1 ≤ 60) : Met l yX13_sign0 (Cond.code yX13_sign0 cX13_sign0 2 none :: tw_W) ({ frames := 0, cells := 0, slots := 0, locals := 0 }) (pc_ (dC, dI) (tyS cI cB cZ cJ cR) tb [(h0, .inr (16, fsN fs n)), (sa, .inl (cI, 60, .inl f))] sz [.ref h0, .int v]) (qv_ (dC, dI) [(h0, .inr (16, fsN fs n)), (sa, .inl (cI, 60, .inl f))] sz (fun (u : Nat × (Nat → Int32)) => u.1 = n + 1 ∧ TA f n u.2 u.1 ([v])) (fun (u : Nat × (Nat → Int32)) => [(h0, .inr (16, fsN fs u.1)), (sa, .inl (cI, 60, .inl u.2))])) 0 0 (va_A [(h0, .inr (16, fsN fs n)), (sa, .inl (cI, 60, .inl f))] sz) := by
  refine Met.ofW (cc := cX13_sign0) (maxL := 2) (ret := none) (by decide) rfl ?_
  intro p e s m9 args below meth c s₁ B hml hv
  obtain ⟨rfl, hsz, hP, hKK, hD0, hFx⟩ := hv
  have hK := hKK.1
  have hx := B.exec
  have hb := B.bytes
  have hr := B.returns
  have ht : ∀ w ∈ tw_W, w.before _ s = true := fun w h => atoms_spec (ws := Cond.code yX13_sign0 cX13_sign0 2 none :: tw_W) B.pre w (List.mem_cons_of_mem _ h)
  have hown : s.vm.findClass RX13 = some m9.cls := findClass_of_methodNamed B.named
  have hlocks := B.notSynchronized
  subst hsz
  unfold qv_
  have hD := hD0.self (sz := s.heap.size)
  generalize hAe : va_A [(h0, .inr (16, fsN fs n)), (sa, .inl (cI, 60, .inl f))] s.heap.size = A at hD hFx ⊢
  have hA : ∀ q : Nat, s.heap.size ≤ q → A q := fun q h => by rw [← hAe]; exact Or.inr h
  have hS : va_S A s.heap s.heap [] := va_S.rf
  have hP : va_P (dC, dI) vwCl [(h0, .inr (16, fsN fs n)), (sa, .inl (cI, 60, .inl f))] s.heap := hP
  have hl := lv_entry ([.ref h0, .int v]) (n := 2) (Nat.le_of_ble_eq_true rfl)
  rw [lg_entry_eq]
  generalize (lg_sl ([.ref h0, .int v]) ++ List.replicate (2 - (lg_sl ([.ref h0, .int v])).length) Slot.unset).toArray = ls at hl ⊢
  have hl : lv_has ls 2 [(0, .ref h0), (1, .int v)] := hl
  refine lv_aload_n hx hb xdX13_sign0_0 rfl (lv_at hl 0 rfl) ?_
  refine va_get (D := (dC, dI)) (ci := 16) (v := .ref sa) (C := RX13) (T := TX13) (N := 124) hx hb ht xiX13 hown hK hP 0 rfl rfl 103 (by decide) (ht _ xw_145) (fun _ h9 => h9) (fsN_sh hsh) xdX13_sign0_1 ?_
  refine lv_aload_n hx hb xdX13_sign0_4 rfl (lv_at hl 0 rfl) ?_
  refine va_get (D := (dC, dI)) (ci := 16) (v := .int (nI n)) (C := RX13) (T := TX13) (N := 124) hx hb ht xiX13 hown hK hP 0 rfl rfl 104 (by decide) (ht _ xw_146) (fun _ h9 => h9) (fsN_n hln) xdX13_sign0_5 ?_
  refine lv_iload_n hx hb xdX13_sign0_8 rfl (lv_at hl 1 rfl) ?_
  refine va_iast (D := (dC, dI)) hx hb hK hP hD hS 1 0 rfl rfl (show vp_in (nI n) 60 from vp_in_nI (by omega) (by omega)) xdX13_sign0_9 (fun H locs hP hD hS => ?_)
  have hP : va_P (dC, dI) vwCl [(h0, .inr (16, fsN fs n)), (sa, .inl (cI, 60, .inl (upd f (nI n).toNatClampNeg v)))] H := hP
  have hD : va_D A [(h0, .inr (16, fsN fs n)), (sa, .inl (cI, 60, .inl (upd f (nI n).toNatClampNeg v)))] := hD
  generalize he_f1 : upd f (nI n).toNatClampNeg v = f1 at hP hD
  refine lv_aload_n hx hb xdX13_sign0_10 rfl (lv_at hl 0 rfl) ?_
  refine lv_dup hx hb xdX13_sign0_11 rfl ?_
  refine va_get (D := (dC, dI)) (ci := 16) (v := .int (nI n)) (C := RX13) (T := TX13) (N := 124) hx hb ht xiX13 hown hK hP 0 rfl rfl 104 (by decide) (ht _ xw_146) (fun _ h9 => h9) (fsN_n hln) xdX13_sign0_12 ?_
  refine lv_iconst (v := 1) hx hb xdX13_sign0_15 (by decide) ?_
  refine lv_iadd hx hb xdX13_sign0_16 ?_
  refine tp_i (y := (nI (n + 1))) (nI_add _ _) ?_
  refine va_put (D := (dC, dI)) (ci := 16) (v := .int (nI (n + 1))) (ty := .int) (C := RX13) (T := TX13) (N := 124) hx hb ht xiX13 tyX13 tyX13_ok nmX13 hown hK hP hD hS 0 rfl rfl 104 (by decide) (ht _ xw_146) (fun _ h9 => h9) rfl (by decide +kernel) rfl rfl (by first | (rw [fsN_len]; omega) | omega) xdX13_sign0_17 (fun H locs hP hD hS => ?_)
  have hP : va_P (dC, dI) vwCl [(h0, .inr (16, (fsN fs n).set 104 (.int (nI (n + 1))))), (sa, .inl (cI, 60, .inl f1))] H := hP
  have hD : va_D A [(h0, .inr (16, (fsN fs n).set 104 (.int (nI (n + 1))))), (sa, .inl (cI, 60, .inl f1))] := hD
  rw [fsN_set] at hP hD
  have hP9 := hP.sub (ws' := [(h0, .inr (16, fsN fs (n + 1))), (sa, .inl (cI, 60, .inl f1))]) [0, 1] rfl
  have hD9 := hD.sub (ws' := [(h0, .inr (16, fsN fs (n + 1))), (sa, .inl (cI, 60, .inl f1))]) [0, 1] (by decide) rfl
  refine W.widen (k := 0) (n := 0) (by omega) (by omega) ?_
  exact W.vret hx hb hr (fun t ht9 hW => ⟨⟨((n + 1), f1), rfl, ⟨(by first | assumption | omega | (dsimp only; omega) | (dsimp only; assumption) | rfl), (TA.put he_f1 (by omega))⟩, by rw [ht9]; exact hP9, hD9⟩, hS.F ht9⟩) hS.2.2 xdX13_sign0_20
set_option maxHeartbeats 16000000 in
set_option maxRecDepth 100000 in
/-- words -/
theorem c_sx_words (l : Launch) (dC : Nat → ClassId) (dI : Nat → Nat → Nat) (cI cB cZ cJ cR : ClassId) (tb : Nat → Nat) (sz : Nat) (h0 : Nat) (sa : Nat) (n : Nat) (fs : List Value) (f : Nat → Int32) (i : Nat) (hsh : fs[103]? = some (.ref sa)) (hln : fs.length = 124) (hi : i < 66) (h1 : n + lenS.getD i 0 ≤ 60) : Met l yX13_words (Cond.code yX13_words cX13_words 3 none :: tw_W) ({ frames := 4, cells := 0, slots := 0, locals := 85 }) (pc_ (dC, dI) (tyS cI cB cZ cJ cR) tb [(h0, .inr (16, fsN fs n)), (sa, .inl (cI, 60, .inl f))] sz [.ref h0, .ref (tb (100 + i))]) (qv_ (dC, dI) [(h0, .inr (16, fsN fs n)), (sa, .inl (cI, 60, .inl f))] sz (fun (u : Nat × (Nat → Int32)) => u.1 = n + lenS.getD i 0 ∧ TA f n u.2 u.1 (smT i (lenS.getD i 0))) (fun (u : Nat × (Nat → Int32)) => [(h0, .inr (16, fsN fs u.1)), (sa, .inl (cI, 60, .inl u.2))])) 0 0 (va_A [(h0, .inr (16, fsN fs n)), (sa, .inl (cI, 60, .inl f))] sz) := by
  refine Met.ofW (cc := cX13_words) (maxL := 3) (ret := none) (by decide) rfl ?_
  intro p e s m9 args below meth c s₁ B hml hv
  obtain ⟨rfl, hsz, hP, hKK, hD0, hFx⟩ := hv
  have hK := hKK.1
  have hx := B.exec
  have hb := B.bytes
  have hr := B.returns
  have ht : ∀ w ∈ tw_W, w.before _ s = true := fun w h => atoms_spec (ws := Cond.code yX13_words cX13_words 3 none :: tw_W) B.pre w (List.mem_cons_of_mem _ h)
  have hown : s.vm.findClass RX13 = some m9.cls := findClass_of_methodNamed B.named
  have hlocks := B.notSynchronized
  subst hsz
  unfold qv_
  have hD := hD0.self (sz := s.heap.size)
  generalize hAe : va_A [(h0, .inr (16, fsN fs n)), (sa, .inl (cI, 60, .inl f))] s.heap.size = A at hD hFx ⊢
  have hA : ∀ q : Nat, s.heap.size ≤ q → A q := fun q h => by rw [← hAe]; exact Or.inr h
  have hS : va_S A s.heap s.heap [] := va_S.rf
  have hP : va_P (dC, dI) vwCl [(h0, .inr (16, fsN fs n)), (sa, .inl (cI, 60, .inl f))] s.heap := hP
  have hl := lv_entry ([.ref h0, .ref (tb (100 + i))]) (n := 3) (Nat.le_of_ble_eq_true rfl)
  rw [lg_entry_eq]
  generalize (lg_sl ([.ref h0, .ref (tb (100 + i))]) ++ List.replicate (3 - (lg_sl ([.ref h0, .ref (tb (100 + i))])).length) Slot.unset).toArray = ls at hl ⊢
  have hl : lv_has ls 3 [(0, .ref h0), (1, .ref (tb (100 + i)))] := hl
  refine lv_iconst (v := 0) hx hb xdX13_words_0 (by decide) ?_
  refine lv_istore_n (lv' := [(2, .int 0), (0, .ref h0), (1, .ref (tb (100 + i)))]) hx hb xdX13_words_1 rfl hl (by decide) rfl (fun ls hl => ?_)
  refine lp_ (P := fun (i9 : Nat) (H : Heap) (locs : List Loc) (ls : Array Slot) => ∃ (kX : Nat) (fX : Nat → Int32), kX = n + i9 ∧ TA f n fX kX (smT i i9) ∧ va_P (dC, dI) vwCl [(h0, .inr (16, fsN fs kX)), (sa, .inl (cI, 60, .inl fX))] H ∧ va_D A [(h0, .inr (16, fsN fs kX)), (sa, .inl (cI, 60, .inl fX))] ∧ va_S A s.heap H locs ∧ lv_has ls 3 [(2, .int (nI i9)), (0, .ref h0), (1, .ref (tb (100 + i)))]) 2 (lenS.getD i 0) (fun i9 H locs ls hi9 hq9 ih9 => ?_) (fun H locs ls hq9 => ?_) 0 _ _ _ (by omega) ⟨n, f, rfl, TA.nil, hP, hD, hS, lv_sub hl [0, 1, 2] rfl⟩
  · obtain ⟨kX, fX, hkX, hTX, hP, hD, hS, hl⟩ := hq9
    refine lv_iload_n hx hb xdX13_words_2 rfl (lv_at hl 0 rfl) ?_
    refine lv_aload_n hx hb xdX13_words_3 rfl (lv_at hl 2 rfl) ?_
    refine ca_i (wr := [(h0, .inr (16, fsN fs kX)), (sa, .inl (cI, 60, .inl fX))]) (rn_VS (n := 0) (As := []) (rest := [.int (nI i9)]) hx hb hml hown ht hKK hFx hP hD hS hA (i := i) (by assumption) (c_sx_strLen l dC dI cI cB cZ cJ cR tb H.size i (by first | assumption | omega | rfl | exact sb_fit0)) xw_65 xw_147 (by decide +kernel) rfl rfl ⟨Nat.le_of_ble_eq_true rfl, Nat.le_of_ble_eq_true rfl⟩ [] rfl (by decide) rfl hl.1 rfl (Nat.le_of_ble_eq_true rfl) xdX13_words_4 ⟨Nat.le_of_ble_eq_true rfl, Nat.le_of_ble_eq_true rfl⟩) hP hD hS hA (isC := []) (isR := [0, 1]) rfl rfl (by decide) (by decide) (fun r2 u H locs hw1 hP hD hS => ?_)
    subst hw1
    have hP : va_P (dC, dI) vwCl [(h0, .inr (16, fsN fs kX)), (sa, .inl (cI, 60, .inl fX))] H := hP
    have hD : va_D A [(h0, .inr (16, fsN fs kX)), (sa, .inl (cI, 60, .inl fX))] := hD
    refine W.widen (k := 0) (n := 0) (by omega) (by omega) ?_
    refine lv_icmp_ge (tgt := 25) hx hb xdX13_words_7 (by decide) (fun k3 => absurd k3 (show ¬ nI (lenS.getD i 0) ≤ nI i9 from nI_ge (by omega) (by omega))) (fun _ => ?_)
    refine lv_aload_n hx hb xdX13_words_10 rfl (lv_at hl 1 rfl) ?_
    refine lv_aload_n hx hb xdX13_words_11 rfl (lv_at hl 2 rfl) ?_
    refine lv_iload_n hx hb xdX13_words_12 rfl (lv_at hl 0 rfl) ?_
    refine ca_i (wr := [(h0, .inr (16, fsN fs kX)), (sa, .inl (cI, 60, .inl fX))]) (rn_VS (n := 1) (As := [.int (nI i9)]) (rest := [.ref h0]) hx hb hml hown ht hKK hFx hP hD hS hA (i := i) (by assumption) (c_sx_charAt l dC dI cI cB cZ cJ cR tb H.size i i9 (by first | assumption | omega | rfl | exact sb_fit0) (by first | assumption | omega | rfl | exact sb_fit0) (by first | assumption | omega | rfl | exact sb_fit0)) xw_115 xw_148 (by decide +kernel) rfl rfl ⟨Nat.le_of_ble_eq_true rfl, Nat.le_of_ble_eq_true rfl⟩ [] rfl (by decide) rfl hl.1 rfl (Nat.le_of_ble_eq_true rfl) xdX13_words_13 ⟨Nat.le_of_ble_eq_true rfl, Nat.le_of_ble_eq_true rfl⟩) hP hD hS hA (isC := []) (isR := [0, 1]) rfl rfl (by decide) (by decide) (fun r5 u H locs hw4 hP hD hS => ?_)
    subst hw4
    have hP : va_P (dC, dI) vwCl [(h0, .inr (16, fsN fs kX)), (sa, .inl (cI, 60, .inl fX))] H := hP
    have hD : va_D A [(h0, .inr (16, fsN fs kX)), (sa, .inl (cI, 60, .inl fX))] := hD
    refine W.widen (k := 0) (n := 0) (by omega) (by omega) ?_
    refine ca_v (wr := []) (rn_V (n := 1) (As := [.int (nI (chN i i9))]) (rest := []) hx hb hml hown ht hKK hFx hP hD hS hA (c_sx_sign l dC dI cI cB cZ cJ cR tb H.size h0 sa kX fs fX (nI (chN i i9)) (by first | assumption | omega | rfl | exact sb_fit0) (by first | assumption | omega | rfl | exact sb_fit0) (by first | assumption | omega | rfl | exact sb_fit0)) xw_149 xw_150 (by decide +kernel) rfl rfl ⟨Nat.le_of_ble_eq_true rfl, Nat.le_of_ble_eq_true rfl⟩ [0, 1] rfl (by decide) rfl rfl rfl rfl hl.1 rfl (Nat.le_of_ble_eq_true rfl) xdX13_words_16 ⟨Nat.le_of_ble_eq_true rfl, Nat.le_of_ble_eq_true rfl⟩) hP hD hS hA (isC := [0, 1]) (isR := []) rfl rfl (by decide) (by decide) (fun u H locs hw6 hP hD hS => ?_)
    obtain ⟨z8, f9⟩ := u
    obtain ⟨g10, g11⟩ := hw6
    have g10 : z8 = kX + 1 := g10
    have g11 : TA fX kX f9 z8 ([(nI (chN i i9))]) := g11
    have hP : va_P (dC, dI) vwCl [(h0, .inr (16, fsN fs z8)), (sa, .inl (cI, 60, .inl f9))] H := hP
    have hD : va_D A [(h0, .inr (16, fsN fs z8)), (sa, .inl (cI, 60, .inl f9))] := hD
    refine W.widen (k := 0) (n := 0) (by omega) (by omega) ?_
    refine lv_iinc (v := (nI (i9 + 1))) (lv' := [(2, .int (nI (i9 + 1))), (0, .ref h0), (1, .ref (tb (100 + i)))]) hx hb xdX13_words_19 hl (k := 0) rfl (nI_add _ 1) (by decide) rfl (fun ls hl => ?_)
    refine lv_goto (tgt := 2) hx hb xdX13_words_22 (by decide) ?_
    exact ih9 _ _ _ ⟨z8, f9, by omega, (TA.tr hTX g11), hP, hD, hS, lv_sub hl [0, 1, 2] rfl⟩
  · obtain ⟨kX, fX, hkX, hTX, hP, hD, hS, hl⟩ := hq9
    refine lv_iload_n hx hb xdX13_words_2 rfl (lv_at hl 0 rfl) ?_
    refine lv_aload_n hx hb xdX13_words_3 rfl (lv_at hl 2 rfl) ?_
    refine ca_i (wr := [(h0, .inr (16, fsN fs kX)), (sa, .inl (cI, 60, .inl fX))]) (rn_VS (n := 0) (As := []) (rest := [.int (nI (lenS.getD i 0))]) hx hb hml hown ht hKK hFx hP hD hS hA (i := i) (by assumption) (c_sx_strLen l dC dI cI cB cZ cJ cR tb H.size i (by first | assumption | omega | rfl | exact sb_fit0)) xw_65 xw_147 (by decide +kernel) rfl rfl ⟨Nat.le_of_ble_eq_true rfl, Nat.le_of_ble_eq_true rfl⟩ [] rfl (by decide) rfl hl.1 rfl (Nat.le_of_ble_eq_true rfl) xdX13_words_4 ⟨Nat.le_of_ble_eq_true rfl, Nat.le_of_ble_eq_true rfl⟩) hP hD hS hA (isC := []) (isR := [0, 1]) rfl rfl (by decide) (by decide) (fun r13 u H locs hw12 hP hD hS => ?_)
    subst hw12
    have hP : va_P (dC, dI) vwCl [(h0, .inr (16, fsN fs kX)), (sa, .inl (cI, 60, .inl fX))] H := hP
    have hD : va_D A [(h0, .inr (16, fsN fs kX)), (sa, .inl (cI, 60, .inl fX))] := hD
    refine W.widen (k := 0) (n := 0) (by omega) (by omega) ?_
    refine lv_icmp_ge (tgt := 25) hx hb xdX13_words_7 (by decide) (fun _ => ?_) (fun k14 => absurd (show nI (lenS.getD i 0) ≤ nI (lenS.getD i 0) from nI_le (by omega) (by omega)) k14)
    have hP9 := hP.sub (ws' := [(h0, .inr (16, fsN fs kX)), (sa, .inl (cI, 60, .inl fX))]) [0, 1] rfl
    have hD9 := hD.sub (ws' := [(h0, .inr (16, fsN fs kX)), (sa, .inl (cI, 60, .inl fX))]) [0, 1] (by decide) rfl
    refine W.widen (k := 0) (n := 0) (by omega) (by omega) ?_
    exact W.vret hx hb hr (fun t ht9 hW => ⟨⟨(kX, fX), rfl, ⟨(by first | assumption | omega | (dsimp only; omega) | (dsimp only; assumption) | rfl), hTX⟩, by rw [ht9]; exact hP9, hD9⟩, hS.F ht9⟩) hS.2.2 xdX13_words_25
set_option maxHeartbeats 16000000 in
set_option maxRecDepth 100000 in
/-- decimal -/
theorem c_sx_dec (l : Launch) (dC : Nat → ClassId) (dI : Nat → Nat → Nat) (cI cB cZ cJ cR : ClassId) (tb : Nat → Nat) (sz : Nat) (h0 : Nat) (sa : Nat) (n : Nat) (fs : List Value) (f : Nat → Int32) (x : Int32) (hsh : fs[103]? = some (.ref sa)) (hln : fs.length = 124) (h1 : n + dl x ≤ 60) : Met l yX13_decimal (Cond.code yX13_decimal cX13_decimal 6 none :: tw_W) ({ frames := 1, cells := 0, slots := 0, locals := 21 }) (pc_ (dC, dI) (tyS cI cB cZ cJ cR) tb [(h0, .inr (16, fsN fs n)), (sa, .inl (cI, 60, .inl f))] sz [.ref h0, .int x]) (qv_ (dC, dI) [(h0, .inr (16, fsN fs n)), (sa, .inl (cI, 60, .inl f))] sz (fun (u : Nat × (Nat → Int32)) => u.1 = n + dl x ∧ TA f n u.2 u.1 (decT x)) (fun (u : Nat × (Nat → Int32)) => [(h0, .inr (16, fsN fs u.1)), (sa, .inl (cI, 60, .inl u.2))])) 0 0 (va_A [(h0, .inr (16, fsN fs n)), (sa, .inl (cI, 60, .inl f))] sz) := by
  refine Met.ofW (cc := cX13_decimal) (maxL := 6) (ret := none) (by decide) rfl ?_
  intro p e s m9 args below meth c s₁ B hml hv
  obtain ⟨rfl, hsz, hP, hKK, hD0, hFx⟩ := hv
  have hK := hKK.1
  have hx := B.exec
  have hb := B.bytes
  have hr := B.returns
  have ht : ∀ w ∈ tw_W, w.before _ s = true := fun w h => atoms_spec (ws := Cond.code yX13_decimal cX13_decimal 6 none :: tw_W) B.pre w (List.mem_cons_of_mem _ h)
  have hown : s.vm.findClass RX13 = some m9.cls := findClass_of_methodNamed B.named
  have hlocks := B.notSynchronized
  subst hsz
  unfold qv_
  have hD := hD0.self (sz := s.heap.size)
  generalize hAe : va_A [(h0, .inr (16, fsN fs n)), (sa, .inl (cI, 60, .inl f))] s.heap.size = A at hD hFx ⊢
  have hA : ∀ q : Nat, s.heap.size ≤ q → A q := fun q h => by rw [← hAe]; exact Or.inr h
  have hS : va_S A s.heap s.heap [] := va_S.rf
  have hP : va_P (dC, dI) vwCl [(h0, .inr (16, fsN fs n)), (sa, .inl (cI, 60, .inl f))] s.heap := hP
  have hl := lv_entry ([.ref h0, .int x]) (n := 6) (Nat.le_of_ble_eq_true rfl)
  rw [lg_entry_eq]
  generalize (lg_sl ([.ref h0, .int x]) ++ List.replicate (6 - (lg_sl ([.ref h0, .int x])).length) Slot.unset).toArray = ls at hl ⊢
  have hl : lv_has ls 6 [(0, .ref h0), (1, .int x)] := hl
  refine lv_iload_n hx hb xdX13_decimal_0 rfl (lv_at hl 1 rfl) ?_
  refine lv_if_ge (tgt := 10) hx hb xdX13_decimal_1 (by decide) (fun h1 => ?_) (fun h1 => ?_)
  · refine lv_iload_n hx hb xdX13_decimal_10 rfl (lv_at hl 1 rfl) ?_
    refine lv_i2l hx hb xdX13_decimal_11 rfl ?_
    refine lv_lstore_n (lv' := [(2, .long (x).toInt64), (0, .ref h0), (1, .int x)]) hx hb xdX13_decimal_12 rfl hl (by decide) rfl (fun ls hl => ?_)
    refine lv_lconst (v := 1) hx hb xdX13_decimal_13 (by decide) ?_
    refine lv_lstore (lv' := [(4, .long 1), (2, .long (x).toInt64), (0, .ref h0), (1, .int x)]) hx hb xdX13_decimal_14 hl (by decide) rfl (fun ls hl => ?_)
    have hng : ¬ x < 0 := Int32.not_lt.mpr h1
    have hM : x.toInt.toNat ≤ 2147483648 := Nat.le_of_lt (nN_neg hng).2
    have hdl : dl x = dgN x.toInt.toNat := by unfold dl; rw [if_neg hng]
    have hl9 : lv_has ls 6 [(0, .ref h0), (1, .int x), (2, .long (lN (x.toInt.toNat))), (4, .long (lN (10 ^ 0)))] := by rw [← l_pos hng]; exact lv_sub hl [2, 3, 1, 0] rfl
    refine lpw_ (P := fun (d9 : Nat) (H : Heap) (locs : List Loc) (ls : Array Slot) => ∃ j9 : Nat, d9 + j9 = 9 ∧ (j9 = 0 ∨ 10 ^ j9 ≤ x.toInt.toNat) ∧ va_P (dC, dI) vwCl [(h0, .inr (16, fsN fs n)), (sa, .inl (cI, 60, .inl f))] H ∧ va_D A [(h0, .inr (16, fsN fs n)), (sa, .inl (cI, 60, .inl f))] ∧ va_S A s.heap H locs ∧ lv_has ls 6 [(0, .ref h0), (1, .int x), (2, .long (lN (x.toInt.toNat))), (4, .long (lN (10 ^ j9)))]) 16 (fun d9 H locs ls hq9 ih9 => ?_) 9 _ _ _ ⟨0, rfl, Or.inl rfl, hP, hD, hS, hl9⟩
    obtain ⟨j9, hj1, hj2, hP, hD, hS, hl⟩ := hq9
    have hp9 := p10 j9 (by omega)
    have hp8 : 0 < 10 ^ j9 := Nat.pow_pos (by decide)
    have hune : ¬ lN (10 ^ j9) = 0 := fun z => absurd ((pk_lEQ (b := 0) (by omega) (by omega)).mp z) (by omega)
    refine lv_lload_n hx hb xdX13_decimal_16 rfl (lv_at hl 2 rfl) ?_
    refine lv_lload hx hb xdX13_decimal_17 (lv_at hl 3 rfl) ?_
    refine lv_ldiv hx hb xdX13_decimal_19 hune ?_
    refine tp_l (y := (lN ((x.toInt.toNat) / 10 ^ j9))) (pk_lDiv (by omega) hp8 (by omega)) ?_
    refine lv_ldc2 (v := 10) hx hb hown (ht _ xw_151) xdX13_decimal_20 ?_
    refine W.lcmp hx hb xdX13_decimal_23 ?_
    refine lv_if_lt (tgt := 38) hx hb xdX13_decimal_24 (by decide) (fun h2 => ?_) (fun h2 => ?_)
    · have hj6 : (x.toInt.toNat) / 10 ^ j9 < 10 := (pk_lLT (b := 10) (Nat.lt_of_le_of_lt (Nat.div_le_self _ _) (by omega)) (by decide)).mp ((lg_cmp_lt _ _).mp h2)
      have hdg := dgN_10 (by omega) hj2 hj6 hM
      have hd2 := dgN_le (x.toInt.toNat)
      refine lv_iload_n hx hb xdX13_decimal_38 rfl (lv_at hl 1 rfl) ?_
      refine lv_if_ge (tgt := 48) hx hb xdX13_decimal_39 (by decide) (fun _ => ?_) (fun k3 => absurd (show (0 : Int32) ≤ x from Int32.not_lt.mp hng) k3)
      refine lpw_ (P := fun (d9 : Nat) (H : Heap) (locs : List Loc) (ls : Array Slot) => ∃ (kX : Nat) (fX : Nat → Int32), kX + d9 = n + dl x ∧ d9 ≤ 10 ∧ (∃ p9 : List Int32, decT x = p9 ++ dgR (x.toInt.toNat) d9 ∧ TA f n fX kX p9) ∧ va_P (dC, dI) vwCl [(h0, .inr (16, fsN fs kX)), (sa, .inl (cI, 60, .inl fX))] H ∧ va_D A [(h0, .inr (16, fsN fs kX)), (sa, .inl (cI, 60, .inl fX))] ∧ va_S A s.heap H locs ∧ lv_has ls 6 [(0, .ref h0), (2, .long (lN (x.toInt.toNat))), (4, .long (lN (unT d9)))]) 48 (fun d9 H locs ls hq9 ih9 => ?_) (j9 + 1) _ _ _ ⟨n, f, by omega, by omega, ⟨[], by unfold decT dgT; rw [if_neg hng, hdg]; rfl, TA.nil⟩, hP, hD, hS, lv_sub hl [0, 2, 3] rfl⟩
      obtain ⟨kX, fX, hkX, hd9, ⟨p9, hp9d, hTX⟩, hP, hD, hS, hl⟩ := hq9
      rcases d9 with _ | t9
      · have hz9 : lg_cmp (lN (unT 0)) 0 ≤ 0 := by decide
        refine lv_lload hx hb xdX13_decimal_48 (lv_at hl 2 rfl) ?_
        refine lv_lconst (v := 0) hx hb xdX13_decimal_50 (by decide) ?_
        refine W.lcmp hx hb xdX13_decimal_51 ?_
        refine lv_if_le (tgt := 82) hx hb xdX13_decimal_52 (by decide) (fun _ => ?_) (fun k4 => absurd hz9 k4)
        have hP9 := hP.sub (ws' := [(h0, .inr (16, fsN fs kX)), (sa, .inl (cI, 60, .inl fX))]) [0, 1] rfl
        have hD9 := hD.sub (ws' := [(h0, .inr (16, fsN fs kX)), (sa, .inl (cI, 60, .inl fX))]) [0, 1] (by decide) rfl
        refine W.widen (k := 0) (n := 0) (by omega) (by omega) ?_
        exact W.vret hx hb hr (fun t ht9 hW => ⟨⟨(kX, fX), rfl, ⟨(by first | assumption | omega | (dsimp only; omega) | (dsimp only; assumption) | rfl), (TA.eq hTX (by rw [hp9d]; exact (List.append_nil _).symm))⟩, by rw [ht9]; exact hP9, hD9⟩, hS.F ht9⟩) hS.2.2 xdX13_decimal_82
      · have hp7 := p10 t9 (by omega)
        have hp6 : 0 < unT (t9 + 1) := Nat.pow_pos (by decide)
        have hp5 : unT (t9 + 1) < 2 ^ 62 := hp7
        have hune : ¬ lN (unT (t9 + 1)) = 0 := fun z => absurd ((pk_lEQ (b := 0) (by omega) (by omega)).mp z) (by omega)
        have hz9 : ¬ lg_cmp (lN (unT (t9 + 1))) 0 ≤ 0 := fun z => absurd ((pk_lLE (b := 0) (by omega) (by omega)).mp ((lg_cmp_le _ _).mp z)) (by omega)
        refine lv_lload hx hb xdX13_decimal_48 (lv_at hl 2 rfl) ?_
        refine lv_lconst (v := 0) hx hb xdX13_decimal_50 (by decide) ?_
        refine W.lcmp hx hb xdX13_decimal_51 ?_
        refine lv_if_le (tgt := 82) hx hb xdX13_decimal_52 (by decide) (fun k5 => absurd k5 hz9) (fun _ => ?_)
        refine lv_aload_n hx hb xdX13_decimal_55 rfl (lv_at hl 0 rfl) ?_
        refine lv_bipush (v := 48) hx hb xdX13_decimal_56 (by decide) ?_
        refine lv_lload_n hx hb xdX13_decimal_58 rfl (lv_at hl 1 rfl) ?_
        refine lv_lload hx hb xdX13_decimal_59 (lv_at hl 2 rfl) ?_
        refine lv_ldiv hx hb xdX13_decimal_61 hune ?_
        refine lv_ldc2 (v := 10) hx hb hown (ht _ xw_151) xdX13_decimal_62 ?_
        refine lv_lrem hx hb xdX13_decimal_65 (by decide) ?_
        refine lv_l2i hx hb xdX13_decimal_66 rfl ?_
        refine lv_iadd hx hb xdX13_decimal_67 ?_
        refine ca_v (wr := []) (rn_V (n := 1) (As := [.int (48 + (((((lN (x.toInt.toNat)) / (lN (unT (t9 + 1)))) - ((lN (x.toInt.toNat)) / (lN (unT (t9 + 1)))) / (10 : Int64) * (10 : Int64))).toInt32))]) (rest := []) hx hb hml hown ht hKK hFx hP hD hS hA (c_sx_sign l dC dI cI cB cZ cJ cR tb H.size h0 sa kX fs fX (48 + (((((lN (x.toInt.toNat)) / (lN (unT (t9 + 1)))) - ((lN (x.toInt.toNat)) / (lN (unT (t9 + 1)))) / (10 : Int64) * (10 : Int64))).toInt32)) (by first | assumption | omega | rfl | exact sb_fit0) (by first | assumption | omega | rfl | exact sb_fit0) (by first | assumption | omega | rfl | exact sb_fit0)) xw_149 xw_150 (by decide +kernel) rfl rfl ⟨Nat.le_of_ble_eq_true rfl, Nat.le_of_ble_eq_true rfl⟩ [0, 1] rfl (by decide) rfl rfl rfl rfl hl.1 rfl (Nat.le_of_ble_eq_true rfl) xdX13_decimal_68 ⟨Nat.le_of_ble_eq_true rfl, Nat.le_of_ble_eq_true rfl⟩) hP hD hS hA (isC := [0, 1]) (isR := []) rfl rfl (by decide) (by decide) (fun u H locs hw6 hP hD hS => ?_)
        obtain ⟨z8, f9⟩ := u
        obtain ⟨g10, g11⟩ := hw6
        have g10 : z8 = kX + 1 := g10
        have g11 : TA fX kX f9 z8 ([(48 + (((((lN (x.toInt.toNat)) / (lN (unT (t9 + 1)))) - ((lN (x.toInt.toNat)) / (lN (unT (t9 + 1)))) / (10 : Int64) * (10 : Int64))).toInt32))]) := g11
        have hP : va_P (dC, dI) vwCl [(h0, .inr (16, fsN fs z8)), (sa, .inl (cI, 60, .inl f9))] H := hP
        have hD : va_D A [(h0, .inr (16, fsN fs z8)), (sa, .inl (cI, 60, .inl f9))] := hD
        refine W.widen (k := 0) (n := 0) (by omega) (by omega) ?_
        refine lv_lload hx hb xdX13_decimal_71 (lv_at hl 2 rfl) ?_
        refine lv_ldc2 (v := 10) hx hb hown (ht _ xw_151) xdX13_decimal_73 ?_
        refine lv_ldiv hx hb xdX13_decimal_76 (by decide) ?_
        refine tp_l (y := (lN (unT t9))) ((pk_lDiv (b := 10) (by omega) (by decide) (by decide)).trans (congrArg lN (unT_div t9))) ?_
        refine lv_lstore (lv' := [(4, .long (lN (unT t9))), (0, .ref h0), (2, .long (lN (x.toInt.toNat)))]) hx hb xdX13_decimal_77 hl (by decide) rfl (fun ls hl => ?_)
        refine lv_goto (tgt := 48) hx hb xdX13_decimal_79 (by decide) ?_
        exact ih9 t9 _ _ _ (by omega) ⟨z8, f9, by omega, by omega, ⟨p9 ++ [nI (48 + (x.toInt.toNat) / 10 ^ t9 % 10)], by rw [hp9d, List.append_assoc]; rfl, (TA.tr hTX (TA.eq g11 (by rw [l_dig hM (by omega)])))⟩, hP, hD, hS, lv_sub hl [1, 2, 0] rfl⟩
    · have hj6 : ¬ (x.toInt.toNat) / 10 ^ j9 < 10 := fun z => h2 ((lg_cmp_lt _ _).mpr ((pk_lLT (b := 10) (Nat.lt_of_le_of_lt (Nat.div_le_self _ _) (by omega)) (by decide)).mpr z))
      refine lv_lload hx hb xdX13_decimal_27 (lv_at hl 3 rfl) ?_
      refine lv_ldc2 (v := 10) hx hb hown (ht _ xw_151) xdX13_decimal_29 ?_
      refine lv_lmul hx hb xdX13_decimal_32 ?_
      refine tp_l (y := (lN (10 ^ (j9 + 1)))) (lN_mul (10 ^ j9) 10) ?_
      refine lv_lstore (lv' := [(4, .long (lN (10 ^ (j9 + 1)))), (0, .ref h0), (1, .int x), (2, .long (lN (x.toInt.toNat)))]) hx hb xdX13_decimal_33 hl (by decide) rfl (fun ls hl => ?_)
      refine lv_goto (tgt := 16) hx hb xdX13_decimal_35 (by decide) ?_
      have hj7 := j9_lt hM (by omega) hj6
      have hj5 : 10 * 10 ^ j9 ≤ x.toInt.toNat := (Nat.le_div_iff_mul_le hp8).mp (by omega)
      exact ih9 (d9 - 1) _ _ _ (by omega) ⟨j9 + 1, by omega, Or.inr (by rw [Nat.pow_succ]; omega), hP, hD, hS, lv_sub hl [1, 2, 3, 0] rfl⟩
  · refine lv_iload_n hx hb xdX13_decimal_4 rfl (lv_at hl 1 rfl) ?_
    refine lv_i2l hx hb xdX13_decimal_5 rfl ?_
    refine lv_lneg hx hb xdX13_decimal_6 ?_
    refine lv_goto (tgt := 12) hx hb xdX13_decimal_7 (by decide) ?_
    refine lv_lstore_n (lv' := [(2, .long (-(x).toInt64)), (0, .ref h0), (1, .int x)]) hx hb xdX13_decimal_12 rfl hl (by decide) rfl (fun ls hl => ?_)
    refine lv_lconst (v := 1) hx hb xdX13_decimal_13 (by decide) ?_
    refine lv_lstore (lv' := [(4, .long 1), (2, .long (-(x).toInt64)), (0, .ref h0), (1, .int x)]) hx hb xdX13_decimal_14 hl (by decide) rfl (fun ls hl => ?_)
    have hng : x < 0 := Int32.not_le.mp h1
    obtain ⟨-, hM, -⟩ := nN_of hng
    have hdl : dl x = dgN (-x.toInt).toNat + 1 := by unfold dl; rw [if_pos hng]
    have hl9 : lv_has ls 6 [(0, .ref h0), (1, .int x), (2, .long (lN ((-x.toInt).toNat))), (4, .long (lN (10 ^ 0)))] := by rw [← l_neg hng]; exact lv_sub hl [2, 3, 1, 0] rfl
    refine lpw_ (P := fun (d9 : Nat) (H : Heap) (locs : List Loc) (ls : Array Slot) => ∃ j9 : Nat, d9 + j9 = 9 ∧ (j9 = 0 ∨ 10 ^ j9 ≤ (-x.toInt).toNat) ∧ va_P (dC, dI) vwCl [(h0, .inr (16, fsN fs n)), (sa, .inl (cI, 60, .inl f))] H ∧ va_D A [(h0, .inr (16, fsN fs n)), (sa, .inl (cI, 60, .inl f))] ∧ va_S A s.heap H locs ∧ lv_has ls 6 [(0, .ref h0), (1, .int x), (2, .long (lN ((-x.toInt).toNat))), (4, .long (lN (10 ^ j9)))]) 16 (fun d9 H locs ls hq9 ih9 => ?_) 9 _ _ _ ⟨0, rfl, Or.inl rfl, hP, hD, hS, hl9⟩
    obtain ⟨j9, hj1, hj2, hP, hD, hS, hl⟩ := hq9
    have hp9 := p10 j9 (by omega)
    have hp8 : 0 < 10 ^ j9 := Nat.pow_pos (by decide)
    have hune : ¬ lN (10 ^ j9) = 0 := fun z => absurd ((pk_lEQ (b := 0) (by omega) (by omega)).mp z) (by omega)
    refine lv_lload_n hx hb xdX13_decimal_16 rfl (lv_at hl 2 rfl) ?_
    refine lv_lload hx hb xdX13_decimal_17 (lv_at hl 3 rfl) ?_
    refine lv_ldiv hx hb xdX13_decimal_19 hune ?_
    refine tp_l (y := (lN (((-x.toInt).toNat) / 10 ^ j9))) (pk_lDiv (by omega) hp8 (by omega)) ?_
    refine lv_ldc2 (v := 10) hx hb hown (ht _ xw_151) xdX13_decimal_20 ?_
    refine W.lcmp hx hb xdX13_decimal_23 ?_
    refine lv_if_lt (tgt := 38) hx hb xdX13_decimal_24 (by decide) (fun h12 => ?_) (fun h12 => ?_)
    · have hj6 : ((-x.toInt).toNat) / 10 ^ j9 < 10 := (pk_lLT (b := 10) (Nat.lt_of_le_of_lt (Nat.div_le_self _ _) (by omega)) (by decide)).mp ((lg_cmp_lt _ _).mp h12)
      have hdg := dgN_10 (by omega) hj2 hj6 hM
      have hd2 := dgN_le ((-x.toInt).toNat)
      refine lv_iload_n hx hb xdX13_decimal_38 rfl (lv_at hl 1 rfl) ?_
      refine lv_if_ge (tgt := 48) hx hb xdX13_decimal_39 (by decide) (fun k13 => absurd k13 (show ¬ (0 : Int32) ≤ x from Int32.not_le.mpr hng)) (fun _ => ?_)
      refine lv_aload_n hx hb xdX13_decimal_42 rfl (lv_at hl 0 rfl) ?_
      refine lv_bipush (v := 45) hx hb xdX13_decimal_43 (by decide) ?_
      refine ca_v (wr := []) (rn_V (n := 1) (As := [.int 45]) (rest := []) hx hb hml hown ht hKK hFx hP hD hS hA (c_sx_sign l dC dI cI cB cZ cJ cR tb H.size h0 sa n fs f 45 (by first | assumption | omega | rfl | exact sb_fit0) (by first | assumption | omega | rfl | exact sb_fit0) (by first | assumption | omega | rfl | exact sb_fit0)) xw_149 xw_150 (by decide +kernel) rfl rfl ⟨Nat.le_of_ble_eq_true rfl, Nat.le_of_ble_eq_true rfl⟩ [0, 1] rfl (by decide) rfl rfl rfl rfl hl.1 rfl (Nat.le_of_ble_eq_true rfl) xdX13_decimal_45 ⟨Nat.le_of_ble_eq_true rfl, Nat.le_of_ble_eq_true rfl⟩) hP hD hS hA (isC := [0, 1]) (isR := []) rfl rfl (by decide) (by decide) (fun u H locs hw14 hP hD hS => ?_)
      obtain ⟨z16, f17⟩ := u
      obtain ⟨g18, g19⟩ := hw14
      have g18 : z16 = n + 1 := g18
      have g19 : TA f n f17 z16 ([45]) := g19
      have hP : va_P (dC, dI) vwCl [(h0, .inr (16, fsN fs z16)), (sa, .inl (cI, 60, .inl f17))] H := hP
      have hD : va_D A [(h0, .inr (16, fsN fs z16)), (sa, .inl (cI, 60, .inl f17))] := hD
      refine W.widen (k := 0) (n := 0) (by omega) (by omega) ?_
      refine lpw_ (P := fun (d9 : Nat) (H : Heap) (locs : List Loc) (ls : Array Slot) => ∃ (kX : Nat) (fX : Nat → Int32), kX + d9 = n + dl x ∧ d9 ≤ 10 ∧ (∃ p9 : List Int32, decT x = p9 ++ dgR ((-x.toInt).toNat) d9 ∧ TA f n fX kX p9) ∧ va_P (dC, dI) vwCl [(h0, .inr (16, fsN fs kX)), (sa, .inl (cI, 60, .inl fX))] H ∧ va_D A [(h0, .inr (16, fsN fs kX)), (sa, .inl (cI, 60, .inl fX))] ∧ va_S A s.heap H locs ∧ lv_has ls 6 [(0, .ref h0), (2, .long (lN ((-x.toInt).toNat))), (4, .long (lN (unT d9)))]) 48 (fun d9 H locs ls hq9 ih9 => ?_) (j9 + 1) _ _ _ ⟨z16, f17, by omega, by omega, ⟨[45], by unfold decT dgT; rw [if_pos hng, hdg]; rfl, g19⟩, hP, hD, hS, lv_sub hl [0, 2, 3] rfl⟩
      obtain ⟨kX, fX, hkX, hd9, ⟨p9, hp9d, hTX⟩, hP, hD, hS, hl⟩ := hq9
      rcases d9 with _ | t9
      · have hz9 : lg_cmp (lN (unT 0)) 0 ≤ 0 := by decide
        refine lv_lload hx hb xdX13_decimal_48 (lv_at hl 2 rfl) ?_
        refine lv_lconst (v := 0) hx hb xdX13_decimal_50 (by decide) ?_
        refine W.lcmp hx hb xdX13_decimal_51 ?_
        refine lv_if_le (tgt := 82) hx hb xdX13_decimal_52 (by decide) (fun _ => ?_) (fun k20 => absurd hz9 k20)
        have hP9 := hP.sub (ws' := [(h0, .inr (16, fsN fs kX)), (sa, .inl (cI, 60, .inl fX))]) [0, 1] rfl
        have hD9 := hD.sub (ws' := [(h0, .inr (16, fsN fs kX)), (sa, .inl (cI, 60, .inl fX))]) [0, 1] (by decide) rfl
        refine W.widen (k := 0) (n := 0) (by omega) (by omega) ?_
        exact W.vret hx hb hr (fun t ht9 hW => ⟨⟨(kX, fX), rfl, ⟨(by first | assumption | omega | (dsimp only; omega) | (dsimp only; assumption) | rfl), (TA.eq hTX (by rw [hp9d]; exact (List.append_nil _).symm))⟩, by rw [ht9]; exact hP9, hD9⟩, hS.F ht9⟩) hS.2.2 xdX13_decimal_82
      · have hp7 := p10 t9 (by omega)
        have hp6 : 0 < unT (t9 + 1) := Nat.pow_pos (by decide)
        have hp5 : unT (t9 + 1) < 2 ^ 62 := hp7
        have hune : ¬ lN (unT (t9 + 1)) = 0 := fun z => absurd ((pk_lEQ (b := 0) (by omega) (by omega)).mp z) (by omega)
        have hz9 : ¬ lg_cmp (lN (unT (t9 + 1))) 0 ≤ 0 := fun z => absurd ((pk_lLE (b := 0) (by omega) (by omega)).mp ((lg_cmp_le _ _).mp z)) (by omega)
        refine lv_lload hx hb xdX13_decimal_48 (lv_at hl 2 rfl) ?_
        refine lv_lconst (v := 0) hx hb xdX13_decimal_50 (by decide) ?_
        refine W.lcmp hx hb xdX13_decimal_51 ?_
        refine lv_if_le (tgt := 82) hx hb xdX13_decimal_52 (by decide) (fun k21 => absurd k21 hz9) (fun _ => ?_)
        refine lv_aload_n hx hb xdX13_decimal_55 rfl (lv_at hl 0 rfl) ?_
        refine lv_bipush (v := 48) hx hb xdX13_decimal_56 (by decide) ?_
        refine lv_lload_n hx hb xdX13_decimal_58 rfl (lv_at hl 1 rfl) ?_
        refine lv_lload hx hb xdX13_decimal_59 (lv_at hl 2 rfl) ?_
        refine lv_ldiv hx hb xdX13_decimal_61 hune ?_
        refine lv_ldc2 (v := 10) hx hb hown (ht _ xw_151) xdX13_decimal_62 ?_
        refine lv_lrem hx hb xdX13_decimal_65 (by decide) ?_
        refine lv_l2i hx hb xdX13_decimal_66 rfl ?_
        refine lv_iadd hx hb xdX13_decimal_67 ?_
        refine ca_v (wr := []) (rn_V (n := 1) (As := [.int (48 + (((((lN ((-x.toInt).toNat)) / (lN (unT (t9 + 1)))) - ((lN ((-x.toInt).toNat)) / (lN (unT (t9 + 1)))) / (10 : Int64) * (10 : Int64))).toInt32))]) (rest := []) hx hb hml hown ht hKK hFx hP hD hS hA (c_sx_sign l dC dI cI cB cZ cJ cR tb H.size h0 sa kX fs fX (48 + (((((lN ((-x.toInt).toNat)) / (lN (unT (t9 + 1)))) - ((lN ((-x.toInt).toNat)) / (lN (unT (t9 + 1)))) / (10 : Int64) * (10 : Int64))).toInt32)) (by first | assumption | omega | rfl | exact sb_fit0) (by first | assumption | omega | rfl | exact sb_fit0) (by first | assumption | omega | rfl | exact sb_fit0)) xw_149 xw_150 (by decide +kernel) rfl rfl ⟨Nat.le_of_ble_eq_true rfl, Nat.le_of_ble_eq_true rfl⟩ [0, 1] rfl (by decide) rfl rfl rfl rfl hl.1 rfl (Nat.le_of_ble_eq_true rfl) xdX13_decimal_68 ⟨Nat.le_of_ble_eq_true rfl, Nat.le_of_ble_eq_true rfl⟩) hP hD hS hA (isC := [0, 1]) (isR := []) rfl rfl (by decide) (by decide) (fun u H locs hw22 hP hD hS => ?_)
        obtain ⟨z24, f25⟩ := u
        obtain ⟨g26, g27⟩ := hw22
        have g26 : z24 = kX + 1 := g26
        have g27 : TA fX kX f25 z24 ([(48 + (((((lN ((-x.toInt).toNat)) / (lN (unT (t9 + 1)))) - ((lN ((-x.toInt).toNat)) / (lN (unT (t9 + 1)))) / (10 : Int64) * (10 : Int64))).toInt32))]) := g27
        have hP : va_P (dC, dI) vwCl [(h0, .inr (16, fsN fs z24)), (sa, .inl (cI, 60, .inl f25))] H := hP
        have hD : va_D A [(h0, .inr (16, fsN fs z24)), (sa, .inl (cI, 60, .inl f25))] := hD
        refine W.widen (k := 0) (n := 0) (by omega) (by omega) ?_
        refine lv_lload hx hb xdX13_decimal_71 (lv_at hl 2 rfl) ?_
        refine lv_ldc2 (v := 10) hx hb hown (ht _ xw_151) xdX13_decimal_73 ?_
        refine lv_ldiv hx hb xdX13_decimal_76 (by decide) ?_
        refine tp_l (y := (lN (unT t9))) ((pk_lDiv (b := 10) (by omega) (by decide) (by decide)).trans (congrArg lN (unT_div t9))) ?_
        refine lv_lstore (lv' := [(4, .long (lN (unT t9))), (0, .ref h0), (2, .long (lN ((-x.toInt).toNat)))]) hx hb xdX13_decimal_77 hl (by decide) rfl (fun ls hl => ?_)
        refine lv_goto (tgt := 48) hx hb xdX13_decimal_79 (by decide) ?_
        exact ih9 t9 _ _ _ (by omega) ⟨z24, f25, by omega, by omega, ⟨p9 ++ [nI (48 + ((-x.toInt).toNat) / 10 ^ t9 % 10)], by rw [hp9d, List.append_assoc]; rfl, (TA.tr hTX (TA.eq g27 (by rw [l_dig hM (by omega)])))⟩, hP, hD, hS, lv_sub hl [1, 2, 0] rfl⟩
    · have hj6 : ¬ ((-x.toInt).toNat) / 10 ^ j9 < 10 := fun z => h12 ((lg_cmp_lt _ _).mpr ((pk_lLT (b := 10) (Nat.lt_of_le_of_lt (Nat.div_le_self _ _) (by omega)) (by decide)).mpr z))
      refine lv_lload hx hb xdX13_decimal_27 (lv_at hl 3 rfl) ?_
      refine lv_ldc2 (v := 10) hx hb hown (ht _ xw_151) xdX13_decimal_29 ?_
      refine lv_lmul hx hb xdX13_decimal_32 ?_
      refine tp_l (y := (lN (10 ^ (j9 + 1)))) (lN_mul (10 ^ j9) 10) ?_
      refine lv_lstore (lv' := [(4, .long (lN (10 ^ (j9 + 1)))), (0, .ref h0), (1, .int x), (2, .long (lN ((-x.toInt).toNat)))]) hx hb xdX13_decimal_33 hl (by decide) rfl (fun ls hl => ?_)
      refine lv_goto (tgt := 16) hx hb xdX13_decimal_35 (by decide) ?_
      have hj7 := j9_lt hM (by omega) hj6
      have hj5 : 10 * 10 ^ j9 ≤ (-x.toInt).toNat := (Nat.le_div_iff_mul_le hp8).mp (by omega)
      exact ih9 (d9 - 1) _ _ _ (by omega) ⟨j9 + 1, by omega, Or.inr (by rw [Nat.pow_succ]; omega), hP, hD, hS, lv_sub hl [1, 2, 3, 0] rfl⟩
set_option maxHeartbeats 16000000 in
set_option maxRecDepth 100000 in
/-- named -/
theorem c_sx_nam (l : Launch) (dC : Nat → ClassId) (dI : Nat → Nat → Nat) (cI cB cZ cJ cR : ClassId) (tb : Nat → Nat) (sz : Nat) (h0 : Nat) (sa : Nat) (n : Nat) (fs : List Value) (f : Nat → Int32) (x : Int32) (hsh : fs[103]? = some (.ref sa)) (hln : fs.length = 124) (h1 : n + 1 + dl x ≤ 60) : Met l yX13_named_ (Cond.code yX13_named_ cX13_named_ 2 none :: tw_W) ({ frames := 2, cells := 0, slots := 0, locals := 46 }) (pc_ (dC, dI) (tyS cI cB cZ cJ cR) tb [(h0, .inr (16, fsN fs n)), (sa, .inl (cI, 60, .inl f))] sz [.ref h0, .int x]) (qv_ (dC, dI) [(h0, .inr (16, fsN fs n)), (sa, .inl (cI, 60, .inl f))] sz (fun (u : Nat × (Nat → Int32)) => u.1 = n + 1 + dl x ∧ TA f n u.2 u.1 (rgM x)) (fun (u : Nat × (Nat → Int32)) => [(h0, .inr (16, fsN fs u.1)), (sa, .inl (cI, 60, .inl u.2))])) 0 0 (va_A [(h0, .inr (16, fsN fs n)), (sa, .inl (cI, 60, .inl f))] sz) := by
  refine Met.ofW (cc := cX13_named_) (maxL := 2) (ret := none) (by decide) rfl ?_
  intro p e s m9 args below meth c s₁ B hml hv
  obtain ⟨rfl, hsz, hP, hKK, hD0, hFx⟩ := hv
  have hK := hKK.1
  have hx := B.exec
  have hb := B.bytes
  have hr := B.returns
  have ht : ∀ w ∈ tw_W, w.before _ s = true := fun w h => atoms_spec (ws := Cond.code yX13_named_ cX13_named_ 2 none :: tw_W) B.pre w (List.mem_cons_of_mem _ h)
  have hown : s.vm.findClass RX13 = some m9.cls := findClass_of_methodNamed B.named
  have hlocks := B.notSynchronized
  subst hsz
  unfold qv_
  have hD := hD0.self (sz := s.heap.size)
  generalize hAe : va_A [(h0, .inr (16, fsN fs n)), (sa, .inl (cI, 60, .inl f))] s.heap.size = A at hD hFx ⊢
  have hA : ∀ q : Nat, s.heap.size ≤ q → A q := fun q h => by rw [← hAe]; exact Or.inr h
  have hS : va_S A s.heap s.heap [] := va_S.rf
  have hP : va_P (dC, dI) vwCl [(h0, .inr (16, fsN fs n)), (sa, .inl (cI, 60, .inl f))] s.heap := hP
  have hl := lv_entry ([.ref h0, .int x]) (n := 2) (Nat.le_of_ble_eq_true rfl)
  rw [lg_entry_eq]
  generalize (lg_sl ([.ref h0, .int x]) ++ List.replicate (2 - (lg_sl ([.ref h0, .int x])).length) Slot.unset).toArray = ls at hl ⊢
  have hl : lv_has ls 2 [(0, .ref h0), (1, .int x)] := hl
  refine lv_aload_n hx hb xdX13_named__0 rfl (lv_at hl 0 rfl) ?_
  refine lv_bipush (v := 120) hx hb xdX13_named__1 (by decide) ?_
  refine ca_v (wr := []) (rn_V (n := 1) (As := [.int 120]) (rest := []) hx hb hml hown ht hKK hFx hP hD hS hA (c_sx_sign l dC dI cI cB cZ cJ cR tb s.heap.size h0 sa n fs f 120 (by first | assumption | omega | rfl | exact sb_fit0) (by first | assumption | omega | rfl | exact sb_fit0) (by first | assumption | omega | rfl | exact sb_fit0)) xw_149 xw_150 (by decide +kernel) rfl rfl ⟨Nat.le_of_ble_eq_true rfl, Nat.le_of_ble_eq_true rfl⟩ [0, 1] rfl (by decide) rfl rfl rfl rfl hl.1 rfl (Nat.le_of_ble_eq_true rfl) xdX13_named__3 ⟨Nat.le_of_ble_eq_true rfl, Nat.le_of_ble_eq_true rfl⟩) hP hD hS hA (isC := [0, 1]) (isR := []) rfl rfl (by decide) (by decide) (fun u H locs hw1 hP hD hS => ?_)
  obtain ⟨z3, f4⟩ := u
  obtain ⟨g5, g6⟩ := hw1
  have g5 : z3 = n + 1 := g5
  have g6 : TA f n f4 z3 ([120]) := g6
  have hP : va_P (dC, dI) vwCl [(h0, .inr (16, fsN fs z3)), (sa, .inl (cI, 60, .inl f4))] H := hP
  have hD : va_D A [(h0, .inr (16, fsN fs z3)), (sa, .inl (cI, 60, .inl f4))] := hD
  refine W.widen (k := 0) (n := 0) (by omega) (by omega) ?_
  refine lv_aload_n hx hb xdX13_named__6 rfl (lv_at hl 0 rfl) ?_
  refine lv_iload_n hx hb xdX13_named__7 rfl (lv_at hl 1 rfl) ?_
  have hd7 := dl_le x
  refine ca_v (wr := []) (rn_V (n := 1) (As := [.int x]) (rest := []) hx hb hml hown ht hKK hFx hP hD hS hA (c_sx_dec l dC dI cI cB cZ cJ cR tb H.size h0 sa z3 fs f4 x (by first | assumption | omega | rfl | exact sb_fit0) (by first | assumption | omega | rfl | exact sb_fit0) (by first | assumption | omega | rfl | exact sb_fit0)) xw_152 xw_153 (by decide +kernel) rfl rfl ⟨Nat.le_of_ble_eq_true rfl, Nat.le_of_ble_eq_true rfl⟩ [0, 1] rfl (by decide) rfl rfl rfl rfl hl.1 rfl (Nat.le_of_ble_eq_true rfl) xdX13_named__8 ⟨Nat.le_of_ble_eq_true rfl, Nat.le_of_ble_eq_true rfl⟩) hP hD hS hA (isC := [0, 1]) (isR := []) rfl rfl (by decide) (by decide) (fun u H locs hw8 hP hD hS => ?_)
  obtain ⟨z10, f11⟩ := u
  obtain ⟨g12, g13⟩ := hw8
  have g12 : z10 = z3 + dl x := g12
  have g13 : TA f4 z3 f11 z10 (decT x) := g13
  have hP : va_P (dC, dI) vwCl [(h0, .inr (16, fsN fs z10)), (sa, .inl (cI, 60, .inl f11))] H := hP
  have hD : va_D A [(h0, .inr (16, fsN fs z10)), (sa, .inl (cI, 60, .inl f11))] := hD
  refine W.widen (k := 0) (n := 0) (by omega) (by omega) ?_
  have hP9 := hP.sub (ws' := [(h0, .inr (16, fsN fs z10)), (sa, .inl (cI, 60, .inl f11))]) [0, 1] rfl
  have hD9 := hD.sub (ws' := [(h0, .inr (16, fsN fs z10)), (sa, .inl (cI, 60, .inl f11))]) [0, 1] (by decide) rfl
  refine W.widen (k := 0) (n := 0) (by omega) (by omega) ?_
  exact W.vret hx hb hr (fun t ht9 hW => ⟨⟨(z10, f11), rfl, ⟨(by first | assumption | omega | (dsimp only; omega) | (dsimp only; assumption) | rfl), (TA.eq (TA.tr g6 g13) (by rfl))⟩, by rw [ht9]; exact hP9, hD9⟩, hS.F ht9⟩) hS.2.2 xdX13_named__11
set_option maxHeartbeats 16000000 in
set_option maxRecDepth 100000 in
/-- comma -/
theorem c_sx_com (l : Launch) (dC : Nat → ClassId) (dI : Nat → Nat → Nat) (cI cB cZ cJ cR : ClassId) (tb : Nat → Nat) (sz : Nat) (h0 : Nat) (sa : Nat) (n : Nat) (fs : List Value) (f : Nat → Int32) (hsh : fs[103]? = some (.ref sa)) (hln : fs.length = 124) (h1 : n + 2 ≤ 60) : Met l yX13_comma (Cond.code yX13_comma cX13_comma 1 none :: tw_W) ({ frames := 1, cells := 0, slots := 0, locals := 21 }) (pc_ (dC, dI) (tyS cI cB cZ cJ cR) tb [(h0, .inr (16, fsN fs n)), (sa, .inl (cI, 60, .inl f))] sz [.ref h0]) (qv_ (dC, dI) [(h0, .inr (16, fsN fs n)), (sa, .inl (cI, 60, .inl f))] sz (fun (u : Nat × (Nat → Int32)) => u.1 = n + 2 ∧ TA f n u.2 u.1 (coM)) (fun (u : Nat × (Nat → Int32)) => [(h0, .inr (16, fsN fs u.1)), (sa, .inl (cI, 60, .inl u.2))])) 0 0 (va_A [(h0, .inr (16, fsN fs n)), (sa, .inl (cI, 60, .inl f))] sz) := by
  refine Met.ofW (cc := cX13_comma) (maxL := 1) (ret := none) (by decide) rfl ?_
  intro p e s m9 args below meth c s₁ B hml hv
  obtain ⟨rfl, hsz, hP, hKK, hD0, hFx⟩ := hv
  have hK := hKK.1
  have hx := B.exec
  have hb := B.bytes
  have hr := B.returns
  have ht : ∀ w ∈ tw_W, w.before _ s = true := fun w h => atoms_spec (ws := Cond.code yX13_comma cX13_comma 1 none :: tw_W) B.pre w (List.mem_cons_of_mem _ h)
  have hown : s.vm.findClass RX13 = some m9.cls := findClass_of_methodNamed B.named
  have hlocks := B.notSynchronized
  subst hsz
  unfold qv_
  have hD := hD0.self (sz := s.heap.size)
  generalize hAe : va_A [(h0, .inr (16, fsN fs n)), (sa, .inl (cI, 60, .inl f))] s.heap.size = A at hD hFx ⊢
  have hA : ∀ q : Nat, s.heap.size ≤ q → A q := fun q h => by rw [← hAe]; exact Or.inr h
  have hS : va_S A s.heap s.heap [] := va_S.rf
  have hP : va_P (dC, dI) vwCl [(h0, .inr (16, fsN fs n)), (sa, .inl (cI, 60, .inl f))] s.heap := hP
  have hl := lv_entry ([.ref h0]) (n := 1) (Nat.le_of_ble_eq_true rfl)
  rw [lg_entry_eq]
  generalize (lg_sl ([.ref h0]) ++ List.replicate (1 - (lg_sl ([.ref h0])).length) Slot.unset).toArray = ls at hl ⊢
  have hl : lv_has ls 1 [(0, .ref h0)] := hl
  refine lv_aload_n hx hb xdX13_comma_0 rfl (lv_at hl 0 rfl) ?_
  refine lv_bipush (v := 44) hx hb xdX13_comma_1 (by decide) ?_
  refine ca_v (wr := []) (rn_V (n := 1) (As := [.int 44]) (rest := []) hx hb hml hown ht hKK hFx hP hD hS hA (c_sx_sign l dC dI cI cB cZ cJ cR tb s.heap.size h0 sa n fs f 44 (by first | assumption | omega | rfl | exact sb_fit0) (by first | assumption | omega | rfl | exact sb_fit0) (by first | assumption | omega | rfl | exact sb_fit0)) xw_149 xw_150 (by decide +kernel) rfl rfl ⟨Nat.le_of_ble_eq_true rfl, Nat.le_of_ble_eq_true rfl⟩ [0, 1] rfl (by decide) rfl rfl rfl rfl hl.1 rfl (Nat.le_of_ble_eq_true rfl) xdX13_comma_3 ⟨Nat.le_of_ble_eq_true rfl, Nat.le_of_ble_eq_true rfl⟩) hP hD hS hA (isC := [0, 1]) (isR := []) rfl rfl (by decide) (by decide) (fun u H locs hw1 hP hD hS => ?_)
  obtain ⟨z3, f4⟩ := u
  obtain ⟨g5, g6⟩ := hw1
  have g5 : z3 = n + 1 := g5
  have g6 : TA f n f4 z3 ([44]) := g6
  have hP : va_P (dC, dI) vwCl [(h0, .inr (16, fsN fs z3)), (sa, .inl (cI, 60, .inl f4))] H := hP
  have hD : va_D A [(h0, .inr (16, fsN fs z3)), (sa, .inl (cI, 60, .inl f4))] := hD
  refine W.widen (k := 0) (n := 0) (by omega) (by omega) ?_
  refine lv_aload_n hx hb xdX13_comma_6 rfl (lv_at hl 0 rfl) ?_
  refine lv_bipush (v := 32) hx hb xdX13_comma_7 (by decide) ?_
  refine ca_v (wr := []) (rn_V (n := 1) (As := [.int 32]) (rest := []) hx hb hml hown ht hKK hFx hP hD hS hA (c_sx_sign l dC dI cI cB cZ cJ cR tb H.size h0 sa z3 fs f4 32 (by first | assumption | omega | rfl | exact sb_fit0) (by first | assumption | omega | rfl | exact sb_fit0) (by first | assumption | omega | rfl | exact sb_fit0)) xw_149 xw_150 (by decide +kernel) rfl rfl ⟨Nat.le_of_ble_eq_true rfl, Nat.le_of_ble_eq_true rfl⟩ [0, 1] rfl (by decide) rfl rfl rfl rfl hl.1 rfl (Nat.le_of_ble_eq_true rfl) xdX13_comma_9 ⟨Nat.le_of_ble_eq_true rfl, Nat.le_of_ble_eq_true rfl⟩) hP hD hS hA (isC := [0, 1]) (isR := []) rfl rfl (by decide) (by decide) (fun u H locs hw7 hP hD hS => ?_)
  obtain ⟨z9, f10⟩ := u
  obtain ⟨g11, g12⟩ := hw7
  have g11 : z9 = z3 + 1 := g11
  have g12 : TA f4 z3 f10 z9 ([32]) := g12
  have hP : va_P (dC, dI) vwCl [(h0, .inr (16, fsN fs z9)), (sa, .inl (cI, 60, .inl f10))] H := hP
  have hD : va_D A [(h0, .inr (16, fsN fs z9)), (sa, .inl (cI, 60, .inl f10))] := hD
  refine W.widen (k := 0) (n := 0) (by omega) (by omega) ?_
  have hP9 := hP.sub (ws' := [(h0, .inr (16, fsN fs z9)), (sa, .inl (cI, 60, .inl f10))]) [0, 1] rfl
  have hD9 := hD.sub (ws' := [(h0, .inr (16, fsN fs z9)), (sa, .inl (cI, 60, .inl f10))]) [0, 1] (by decide) rfl
  refine W.widen (k := 0) (n := 0) (by omega) (by omega) ?_
  exact W.vret hx hb hr (fun t ht9 hW => ⟨⟨(z9, f10), rfl, ⟨(by first | assumption | omega | (dsimp only; omega) | (dsimp only; assumption) | rfl), (TA.eq (TA.tr g6 g12) (by rfl))⟩, by rw [ht9]; exact hP9, hD9⟩, hS.F ht9⟩) hS.2.2 xdX13_comma_12
set_option maxHeartbeats 16000000 in
set_option maxRecDepth 100000 in
/-- three -/
theorem c_sx_thr (l : Launch) (dC : Nat → ClassId) (dI : Nat → Nat → Nat) (cI cB cZ cJ cR : ClassId) (tb : Nat → Nat) (sz : Nat) (h0 : Nat) (sa : Nat) (n : Nat) (fs : List Value) (f : Nat → Int32) (x : Int32) (y : Int32) (hsh : fs[103]? = some (.ref sa)) (hln : fs.length = 124) (h1 : n + (1 + dl x + 2 + (1 + dl y) + 2) ≤ 60) : Met l yX13_three (Cond.code yX13_three cX13_three 3 none :: tw_W) ({ frames := 3, cells := 0, slots := 0, locals := 67 }) (pc_ (dC, dI) (tyS cI cB cZ cJ cR) tb [(h0, .inr (16, fsN fs n)), (sa, .inl (cI, 60, .inl f))] sz [.ref h0, .int x, .int y]) (qv_ (dC, dI) [(h0, .inr (16, fsN fs n)), (sa, .inl (cI, 60, .inl f))] sz (fun (u : Nat × (Nat → Int32)) => u.1 = n + (1 + dl x + 2 + (1 + dl y) + 2) ∧ TA f n u.2 u.1 (thM x y)) (fun (u : Nat × (Nat → Int32)) => [(h0, .inr (16, fsN fs u.1)), (sa, .inl (cI, 60, .inl u.2))])) 0 0 (va_A [(h0, .inr (16, fsN fs n)), (sa, .inl (cI, 60, .inl f))] sz) := by
  refine Met.ofW (cc := cX13_three) (maxL := 3) (ret := none) (by decide) rfl ?_
  intro p e s m9 args below meth c s₁ B hml hv
  obtain ⟨rfl, hsz, hP, hKK, hD0, hFx⟩ := hv
  have hK := hKK.1
  have hx := B.exec
  have hb := B.bytes
  have hr := B.returns
  have ht : ∀ w ∈ tw_W, w.before _ s = true := fun w h => atoms_spec (ws := Cond.code yX13_three cX13_three 3 none :: tw_W) B.pre w (List.mem_cons_of_mem _ h)
  have hown : s.vm.findClass RX13 = some m9.cls := findClass_of_methodNamed B.named
  have hlocks := B.notSynchronized
  subst hsz
  unfold qv_
  have hD := hD0.self (sz := s.heap.size)
  generalize hAe : va_A [(h0, .inr (16, fsN fs n)), (sa, .inl (cI, 60, .inl f))] s.heap.size = A at hD hFx ⊢
  have hA : ∀ q : Nat, s.heap.size ≤ q → A q := fun q h => by rw [← hAe]; exact Or.inr h
  have hS : va_S A s.heap s.heap [] := va_S.rf
  have hP : va_P (dC, dI) vwCl [(h0, .inr (16, fsN fs n)), (sa, .inl (cI, 60, .inl f))] s.heap := hP
  have hl := lv_entry ([.ref h0, .int x, .int y]) (n := 3) (Nat.le_of_ble_eq_true rfl)
  rw [lg_entry_eq]
  generalize (lg_sl ([.ref h0, .int x, .int y]) ++ List.replicate (3 - (lg_sl ([.ref h0, .int x, .int y])).length) Slot.unset).toArray = ls at hl ⊢
  have hl : lv_has ls 3 [(0, .ref h0), (1, .int x), (2, .int y)] := hl
  refine lv_aload_n hx hb xdX13_three_0 rfl (lv_at hl 0 rfl) ?_
  refine lv_iload_n hx hb xdX13_three_1 rfl (lv_at hl 1 rfl) ?_
  have hd1 := dl_le x
  refine ca_v (wr := []) (rn_V (n := 1) (As := [.int x]) (rest := []) hx hb hml hown ht hKK hFx hP hD hS hA (c_sx_nam l dC dI cI cB cZ cJ cR tb s.heap.size h0 sa n fs f x (by first | assumption | omega | rfl | exact sb_fit0) (by first | assumption | omega | rfl | exact sb_fit0) (by first | assumption | omega | rfl | exact sb_fit0)) xw_154 xw_155 (by decide +kernel) rfl rfl ⟨Nat.le_of_ble_eq_true rfl, Nat.le_of_ble_eq_true rfl⟩ [0, 1] rfl (by decide) rfl rfl rfl rfl hl.1 rfl (Nat.le_of_ble_eq_true rfl) xdX13_three_2 ⟨Nat.le_of_ble_eq_true rfl, Nat.le_of_ble_eq_true rfl⟩) hP hD hS hA (isC := [0, 1]) (isR := []) rfl rfl (by decide) (by decide) (fun u H locs hw2 hP hD hS => ?_)
  obtain ⟨z4, f5⟩ := u
  obtain ⟨g6, g7⟩ := hw2
  have g6 : z4 = n + 1 + dl x := g6
  have g7 : TA f n f5 z4 (rgM x) := g7
  have hP : va_P (dC, dI) vwCl [(h0, .inr (16, fsN fs z4)), (sa, .inl (cI, 60, .inl f5))] H := hP
  have hD : va_D A [(h0, .inr (16, fsN fs z4)), (sa, .inl (cI, 60, .inl f5))] := hD
  refine W.widen (k := 0) (n := 0) (by omega) (by omega) ?_
  refine lv_aload_n hx hb xdX13_three_5 rfl (lv_at hl 0 rfl) ?_
  refine ca_v (wr := []) (rn_V (n := 0) (As := []) (rest := []) hx hb hml hown ht hKK hFx hP hD hS hA (c_sx_com l dC dI cI cB cZ cJ cR tb H.size h0 sa z4 fs f5 (by first | assumption | omega | rfl | exact sb_fit0) (by first | assumption | omega | rfl | exact sb_fit0) (by first | assumption | omega | rfl | exact sb_fit0)) xw_156 xw_157 (by decide +kernel) rfl rfl ⟨Nat.le_of_ble_eq_true rfl, Nat.le_of_ble_eq_true rfl⟩ [0, 1] rfl (by decide) rfl rfl rfl rfl hl.1 rfl (Nat.le_of_ble_eq_true rfl) xdX13_three_6 ⟨Nat.le_of_ble_eq_true rfl, Nat.le_of_ble_eq_true rfl⟩) hP hD hS hA (isC := [0, 1]) (isR := []) rfl rfl (by decide) (by decide) (fun u H locs hw8 hP hD hS => ?_)
  obtain ⟨z10, f11⟩ := u
  obtain ⟨g12, g13⟩ := hw8
  have g12 : z10 = z4 + 2 := g12
  have g13 : TA f5 z4 f11 z10 (coM) := g13
  have hP : va_P (dC, dI) vwCl [(h0, .inr (16, fsN fs z10)), (sa, .inl (cI, 60, .inl f11))] H := hP
  have hD : va_D A [(h0, .inr (16, fsN fs z10)), (sa, .inl (cI, 60, .inl f11))] := hD
  refine W.widen (k := 0) (n := 0) (by omega) (by omega) ?_
  refine lv_aload_n hx hb xdX13_three_9 rfl (lv_at hl 0 rfl) ?_
  refine lv_iload_n hx hb xdX13_three_10 rfl (lv_at hl 2 rfl) ?_
  have hd14 := dl_le y
  refine ca_v (wr := []) (rn_V (n := 1) (As := [.int y]) (rest := []) hx hb hml hown ht hKK hFx hP hD hS hA (c_sx_nam l dC dI cI cB cZ cJ cR tb H.size h0 sa z10 fs f11 y (by first | assumption | omega | rfl | exact sb_fit0) (by first | assumption | omega | rfl | exact sb_fit0) (by first | assumption | omega | rfl | exact sb_fit0)) xw_154 xw_155 (by decide +kernel) rfl rfl ⟨Nat.le_of_ble_eq_true rfl, Nat.le_of_ble_eq_true rfl⟩ [0, 1] rfl (by decide) rfl rfl rfl rfl hl.1 rfl (Nat.le_of_ble_eq_true rfl) xdX13_three_11 ⟨Nat.le_of_ble_eq_true rfl, Nat.le_of_ble_eq_true rfl⟩) hP hD hS hA (isC := [0, 1]) (isR := []) rfl rfl (by decide) (by decide) (fun u H locs hw15 hP hD hS => ?_)
  obtain ⟨z17, f18⟩ := u
  obtain ⟨g19, g20⟩ := hw15
  have g19 : z17 = z10 + 1 + dl y := g19
  have g20 : TA f11 z10 f18 z17 (rgM y) := g20
  have hP : va_P (dC, dI) vwCl [(h0, .inr (16, fsN fs z17)), (sa, .inl (cI, 60, .inl f18))] H := hP
  have hD : va_D A [(h0, .inr (16, fsN fs z17)), (sa, .inl (cI, 60, .inl f18))] := hD
  refine W.widen (k := 0) (n := 0) (by omega) (by omega) ?_
  refine lv_aload_n hx hb xdX13_three_14 rfl (lv_at hl 0 rfl) ?_
  refine ca_v (wr := []) (rn_V (n := 0) (As := []) (rest := []) hx hb hml hown ht hKK hFx hP hD hS hA (c_sx_com l dC dI cI cB cZ cJ cR tb H.size h0 sa z17 fs f18 (by first | assumption | omega | rfl | exact sb_fit0) (by first | assumption | omega | rfl | exact sb_fit0) (by first | assumption | omega | rfl | exact sb_fit0)) xw_156 xw_157 (by decide +kernel) rfl rfl ⟨Nat.le_of_ble_eq_true rfl, Nat.le_of_ble_eq_true rfl⟩ [0, 1] rfl (by decide) rfl rfl rfl rfl hl.1 rfl (Nat.le_of_ble_eq_true rfl) xdX13_three_15 ⟨Nat.le_of_ble_eq_true rfl, Nat.le_of_ble_eq_true rfl⟩) hP hD hS hA (isC := [0, 1]) (isR := []) rfl rfl (by decide) (by decide) (fun u H locs hw21 hP hD hS => ?_)
  obtain ⟨z23, f24⟩ := u
  obtain ⟨g25, g26⟩ := hw21
  have g25 : z23 = z17 + 2 := g25
  have g26 : TA f18 z17 f24 z23 (coM) := g26
  have hP : va_P (dC, dI) vwCl [(h0, .inr (16, fsN fs z23)), (sa, .inl (cI, 60, .inl f24))] H := hP
  have hD : va_D A [(h0, .inr (16, fsN fs z23)), (sa, .inl (cI, 60, .inl f24))] := hD
  refine W.widen (k := 0) (n := 0) (by omega) (by omega) ?_
  have hP9 := hP.sub (ws' := [(h0, .inr (16, fsN fs z23)), (sa, .inl (cI, 60, .inl f24))]) [0, 1] rfl
  have hD9 := hD.sub (ws' := [(h0, .inr (16, fsN fs z23)), (sa, .inl (cI, 60, .inl f24))]) [0, 1] (by decide) rfl
  refine W.widen (k := 0) (n := 0) (by omega) (by omega) ?_
  exact W.vret hx hb hr (fun t ht9 hW => ⟨⟨(z23, f24), rfl, ⟨(by first | assumption | omega | (dsimp only; omega) | (dsimp only; assumption) | rfl), (TA.eq (TA.tr (TA.tr (TA.tr g7 g13) g20) g26) (by rfl))⟩, by rw [ht9]; exact hP9, hD9⟩, hS.F ht9⟩) hS.2.2 xdX13_three_18
set_option maxHeartbeats 16000000 in
set_option maxRecDepth 100000 in
/-- at -/
theorem c_sx_at (l : Launch) (dC : Nat → ClassId) (dI : Nat → Nat → Nat) (cI cB cZ cJ cR : ClassId) (tb : Nat → Nat) (sz : Nat) (h0 : Nat) (sa : Nat) (n : Nat) (fs : List Value) (f : Nat → Int32) (x : Int32) (y : Int32) (hsh : fs[103]? = some (.ref sa)) (hln : fs.length = 124) (h1 : n + (dl x + 1 + (1 + dl y) + 1) ≤ 60) : Met l yX13_at_ (Cond.code yX13_at_ cX13_at_ 3 none :: tw_W) ({ frames := 3, cells := 0, slots := 0, locals := 67 }) (pc_ (dC, dI) (tyS cI cB cZ cJ cR) tb [(h0, .inr (16, fsN fs n)), (sa, .inl (cI, 60, .inl f))] sz [.ref h0, .int x, .int y]) (qv_ (dC, dI) [(h0, .inr (16, fsN fs n)), (sa, .inl (cI, 60, .inl f))] sz (fun (u : Nat × (Nat → Int32)) => u.1 = n + (dl x + 1 + (1 + dl y) + 1) ∧ TA f n u.2 u.1 (atM x y)) (fun (u : Nat × (Nat → Int32)) => [(h0, .inr (16, fsN fs u.1)), (sa, .inl (cI, 60, .inl u.2))])) 0 0 (va_A [(h0, .inr (16, fsN fs n)), (sa, .inl (cI, 60, .inl f))] sz) := by
  refine Met.ofW (cc := cX13_at_) (maxL := 3) (ret := none) (by decide) rfl ?_
  intro p e s m9 args below meth c s₁ B hml hv
  obtain ⟨rfl, hsz, hP, hKK, hD0, hFx⟩ := hv
  have hK := hKK.1
  have hx := B.exec
  have hb := B.bytes
  have hr := B.returns
  have ht : ∀ w ∈ tw_W, w.before _ s = true := fun w h => atoms_spec (ws := Cond.code yX13_at_ cX13_at_ 3 none :: tw_W) B.pre w (List.mem_cons_of_mem _ h)
  have hown : s.vm.findClass RX13 = some m9.cls := findClass_of_methodNamed B.named
  have hlocks := B.notSynchronized
  subst hsz
  unfold qv_
  have hD := hD0.self (sz := s.heap.size)
  generalize hAe : va_A [(h0, .inr (16, fsN fs n)), (sa, .inl (cI, 60, .inl f))] s.heap.size = A at hD hFx ⊢
  have hA : ∀ q : Nat, s.heap.size ≤ q → A q := fun q h => by rw [← hAe]; exact Or.inr h
  have hS : va_S A s.heap s.heap [] := va_S.rf
  have hP : va_P (dC, dI) vwCl [(h0, .inr (16, fsN fs n)), (sa, .inl (cI, 60, .inl f))] s.heap := hP
  have hl := lv_entry ([.ref h0, .int x, .int y]) (n := 3) (Nat.le_of_ble_eq_true rfl)
  rw [lg_entry_eq]
  generalize (lg_sl ([.ref h0, .int x, .int y]) ++ List.replicate (3 - (lg_sl ([.ref h0, .int x, .int y])).length) Slot.unset).toArray = ls at hl ⊢
  have hl : lv_has ls 3 [(0, .ref h0), (1, .int x), (2, .int y)] := hl
  refine lv_aload_n hx hb xdX13_at__0 rfl (lv_at hl 0 rfl) ?_
  refine lv_iload_n hx hb xdX13_at__1 rfl (lv_at hl 1 rfl) ?_
  have hd1 := dl_le x
  refine ca_v (wr := []) (rn_V (n := 1) (As := [.int x]) (rest := []) hx hb hml hown ht hKK hFx hP hD hS hA (c_sx_dec l dC dI cI cB cZ cJ cR tb s.heap.size h0 sa n fs f x (by first | assumption | omega | rfl | exact sb_fit0) (by first | assumption | omega | rfl | exact sb_fit0) (by first | assumption | omega | rfl | exact sb_fit0)) xw_152 xw_153 (by decide +kernel) rfl rfl ⟨Nat.le_of_ble_eq_true rfl, Nat.le_of_ble_eq_true rfl⟩ [0, 1] rfl (by decide) rfl rfl rfl rfl hl.1 rfl (Nat.le_of_ble_eq_true rfl) xdX13_at__2 ⟨Nat.le_of_ble_eq_true rfl, Nat.le_of_ble_eq_true rfl⟩) hP hD hS hA (isC := [0, 1]) (isR := []) rfl rfl (by decide) (by decide) (fun u H locs hw2 hP hD hS => ?_)
  obtain ⟨z4, f5⟩ := u
  obtain ⟨g6, g7⟩ := hw2
  have g6 : z4 = n + dl x := g6
  have g7 : TA f n f5 z4 (decT x) := g7
  have hP : va_P (dC, dI) vwCl [(h0, .inr (16, fsN fs z4)), (sa, .inl (cI, 60, .inl f5))] H := hP
  have hD : va_D A [(h0, .inr (16, fsN fs z4)), (sa, .inl (cI, 60, .inl f5))] := hD
  refine W.widen (k := 0) (n := 0) (by omega) (by omega) ?_
  refine lv_aload_n hx hb xdX13_at__5 rfl (lv_at hl 0 rfl) ?_
  refine lv_bipush (v := 40) hx hb xdX13_at__6 (by decide) ?_
  refine ca_v (wr := []) (rn_V (n := 1) (As := [.int 40]) (rest := []) hx hb hml hown ht hKK hFx hP hD hS hA (c_sx_sign l dC dI cI cB cZ cJ cR tb H.size h0 sa z4 fs f5 40 (by first | assumption | omega | rfl | exact sb_fit0) (by first | assumption | omega | rfl | exact sb_fit0) (by first | assumption | omega | rfl | exact sb_fit0)) xw_149 xw_150 (by decide +kernel) rfl rfl ⟨Nat.le_of_ble_eq_true rfl, Nat.le_of_ble_eq_true rfl⟩ [0, 1] rfl (by decide) rfl rfl rfl rfl hl.1 rfl (Nat.le_of_ble_eq_true rfl) xdX13_at__8 ⟨Nat.le_of_ble_eq_true rfl, Nat.le_of_ble_eq_true rfl⟩) hP hD hS hA (isC := [0, 1]) (isR := []) rfl rfl (by decide) (by decide) (fun u H locs hw8 hP hD hS => ?_)
  obtain ⟨z10, f11⟩ := u
  obtain ⟨g12, g13⟩ := hw8
  have g12 : z10 = z4 + 1 := g12
  have g13 : TA f5 z4 f11 z10 ([40]) := g13
  have hP : va_P (dC, dI) vwCl [(h0, .inr (16, fsN fs z10)), (sa, .inl (cI, 60, .inl f11))] H := hP
  have hD : va_D A [(h0, .inr (16, fsN fs z10)), (sa, .inl (cI, 60, .inl f11))] := hD
  refine W.widen (k := 0) (n := 0) (by omega) (by omega) ?_
  refine lv_aload_n hx hb xdX13_at__11 rfl (lv_at hl 0 rfl) ?_
  refine lv_iload_n hx hb xdX13_at__12 rfl (lv_at hl 2 rfl) ?_
  have hd14 := dl_le y
  refine ca_v (wr := []) (rn_V (n := 1) (As := [.int y]) (rest := []) hx hb hml hown ht hKK hFx hP hD hS hA (c_sx_nam l dC dI cI cB cZ cJ cR tb H.size h0 sa z10 fs f11 y (by first | assumption | omega | rfl | exact sb_fit0) (by first | assumption | omega | rfl | exact sb_fit0) (by first | assumption | omega | rfl | exact sb_fit0)) xw_154 xw_155 (by decide +kernel) rfl rfl ⟨Nat.le_of_ble_eq_true rfl, Nat.le_of_ble_eq_true rfl⟩ [0, 1] rfl (by decide) rfl rfl rfl rfl hl.1 rfl (Nat.le_of_ble_eq_true rfl) xdX13_at__13 ⟨Nat.le_of_ble_eq_true rfl, Nat.le_of_ble_eq_true rfl⟩) hP hD hS hA (isC := [0, 1]) (isR := []) rfl rfl (by decide) (by decide) (fun u H locs hw15 hP hD hS => ?_)
  obtain ⟨z17, f18⟩ := u
  obtain ⟨g19, g20⟩ := hw15
  have g19 : z17 = z10 + 1 + dl y := g19
  have g20 : TA f11 z10 f18 z17 (rgM y) := g20
  have hP : va_P (dC, dI) vwCl [(h0, .inr (16, fsN fs z17)), (sa, .inl (cI, 60, .inl f18))] H := hP
  have hD : va_D A [(h0, .inr (16, fsN fs z17)), (sa, .inl (cI, 60, .inl f18))] := hD
  refine W.widen (k := 0) (n := 0) (by omega) (by omega) ?_
  refine lv_aload_n hx hb xdX13_at__16 rfl (lv_at hl 0 rfl) ?_
  refine lv_bipush (v := 41) hx hb xdX13_at__17 (by decide) ?_
  refine ca_v (wr := []) (rn_V (n := 1) (As := [.int 41]) (rest := []) hx hb hml hown ht hKK hFx hP hD hS hA (c_sx_sign l dC dI cI cB cZ cJ cR tb H.size h0 sa z17 fs f18 41 (by first | assumption | omega | rfl | exact sb_fit0) (by first | assumption | omega | rfl | exact sb_fit0) (by first | assumption | omega | rfl | exact sb_fit0)) xw_149 xw_150 (by decide +kernel) rfl rfl ⟨Nat.le_of_ble_eq_true rfl, Nat.le_of_ble_eq_true rfl⟩ [0, 1] rfl (by decide) rfl rfl rfl rfl hl.1 rfl (Nat.le_of_ble_eq_true rfl) xdX13_at__19 ⟨Nat.le_of_ble_eq_true rfl, Nat.le_of_ble_eq_true rfl⟩) hP hD hS hA (isC := [0, 1]) (isR := []) rfl rfl (by decide) (by decide) (fun u H locs hw21 hP hD hS => ?_)
  obtain ⟨z23, f24⟩ := u
  obtain ⟨g25, g26⟩ := hw21
  have g25 : z23 = z17 + 1 := g25
  have g26 : TA f18 z17 f24 z23 ([41]) := g26
  have hP : va_P (dC, dI) vwCl [(h0, .inr (16, fsN fs z23)), (sa, .inl (cI, 60, .inl f24))] H := hP
  have hD : va_D A [(h0, .inr (16, fsN fs z23)), (sa, .inl (cI, 60, .inl f24))] := hD
  refine W.widen (k := 0) (n := 0) (by omega) (by omega) ?_
  have hP9 := hP.sub (ws' := [(h0, .inr (16, fsN fs z23)), (sa, .inl (cI, 60, .inl f24))]) [0, 1] rfl
  have hD9 := hD.sub (ws' := [(h0, .inr (16, fsN fs z23)), (sa, .inl (cI, 60, .inl f24))]) [0, 1] (by decide) rfl
  refine W.widen (k := 0) (n := 0) (by omega) (by omega) ?_
  exact W.vret hx hb hr (fun t ht9 hW => ⟨⟨(z23, f24), rfl, ⟨(by first | assumption | omega | (dsimp only; omega) | (dsimp only; assumption) | rfl), (TA.eq (TA.tr (TA.tr (TA.tr g7 g13) g20) g26) (by rfl))⟩, by rw [ht9]; exact hP9, hD9⟩, hS.F ht9⟩) hS.2.2 xdX13_at__22
