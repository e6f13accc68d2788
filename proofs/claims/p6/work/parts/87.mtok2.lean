theorem dX13_token_0 : decode cX13_token 0 = .ok (.aload_n 0, 1) := by decide +kernel
theorem dX13_token_1 : decode cX13_token 1 = .ok (.getfield 21, 3) := by decide +kernel
theorem dX13_token_4 : decode cX13_token 4 = .ok (.iload_n 1, 1) := by decide +kernel
theorem dX13_token_5 : decode cX13_token 5 = .ok (.iaload, 1) := by decide +kernel
theorem dX13_token_6 : decode cX13_token 6 = .ok (.istore_n 2, 1) := by decide +kernel
theorem dX13_token_7 : decode cX13_token 7 = .ok (.iload_n 1, 1) := by decide +kernel
theorem dX13_token_8 : decode cX13_token 8 = .ok (.istore_n 3, 1) := by decide +kernel
theorem dX13_token_9 : decode cX13_token 9 = .ok (.aload_n 0, 1) := by decide +kernel
theorem dX13_token_10 : decode cX13_token 10 = .ok (.getfield 47, 3) := by decide +kernel
theorem dX13_token_13 : decode cX13_token 13 = .ok (.aload_n 0, 1) := by decide +kernel
theorem dX13_token_14 : decode cX13_token 14 = .ok (.getfield 28, 3) := by decide +kernel
theorem dX13_token_17 : decode cX13_token 17 = .ok (.iload_n 1, 1) := by decide +kernel
theorem dX13_token_18 : decode cX13_token 18 = .ok (.iconst 1, 1) := by decide +kernel
theorem dX13_token_19 : decode cX13_token 19 = .ok (.iadd, 1) := by decide +kernel
theorem dX13_token_20 : decode cX13_token 20 = .ok (.iastore, 1) := by decide +kernel
theorem dX13_token_21 : decode cX13_token 21 = .ok (.iload_n 2, 1) := by decide +kernel
theorem dX13_token_22 : decode cX13_token 22 = .ok (.invokestatic 24, 3) := by decide +kernel
theorem dX13_token_25 : decode cX13_token 25 = .ok (.ifCond .eq 9, 3) := by decide +kernel
theorem dX13_token_34 : decode cX13_token 34 = .ok (.iload_n 2, 1) := by decide +kernel
theorem dX13_token_35 : decode cX13_token 35 = .ok (.invokestatic 53, 3) := by decide +kernel
theorem dX13_token_38 : decode cX13_token 38 = .ok (.ifCond .eq 80, 3) := by decide +kernel
theorem dX13_token_118 : decode cX13_token 118 = .ok (.iload_n 2, 1) := by decide +kernel
theorem dX13_token_119 : decode cX13_token 119 = .ok (.bipush 39, 2) := by decide +kernel
theorem dX13_token_121 : decode cX13_token 121 = .ok (.if_icmp .ne 84, 3) := by decide +kernel
theorem dX13_token_205 : decode cX13_token 205 = .ok (.aload_n 0, 1) := by decide +kernel
theorem dX13_token_206 : decode cX13_token 206 = .ok (.iload_n 1, 1) := by decide +kernel
theorem dX13_token_207 : decode cX13_token 207 = .ok (.invokevirtual 66, 3) := by decide +kernel
theorem tw_293 : (.code yX13_sign cX13_sign 6 (some .int) : Cond) ∈ tw_W := tw_in (t8_9 (List.mem_of_getElem? (i := 112) rfl)) rfl
theorem tw_294 : ∀ w ∈ ([.methodLink RX13 66 yX13_sign, .instanceMethod yX13_sign, .selects RX13 yX13_sign yX13_sign, .initialized RX13] : List Cond), w ∈ tw_W := al_c (tw_in (t8_9 (List.mem_of_getElem? (i := 109) rfl)) rfl) (al_c (tw_in (t8_9 (List.mem_of_getElem? (i := 111) rfl)) rfl) (al_c (tw_in (t7_8 (q := (yX13_sign, 124)) (List.mem_of_getElem? (i := 2) rfl)) rfl) (al_c (tw_in (t8_1 (List.mem_of_getElem? (i := 23) rfl)) rfl) al_n)))
theorem dX13_token_210 : decode cX13_token 210 = .ok (.ireturn, 1) := by decide +kernel
theorem dX13_token_124 : decode cX13_token 124 = .ok (.aload_n 0, 1) := by decide +kernel
theorem dX13_token_125 : decode cX13_token 125 = .ok (.iload_n 1, 1) := by decide +kernel
theorem dX13_token_126 : decode cX13_token 126 = .ok (.iconst 1, 1) := by decide +kernel
theorem dX13_token_127 : decode cX13_token 127 = .ok (.iadd, 1) := by decide +kernel
theorem dX13_token_128 : decode cX13_token 128 = .ok (.invokevirtual 34, 3) := by decide +kernel
theorem dX13_token_131 : decode cX13_token 131 = .ok (.istore 4, 2) := by decide +kernel
theorem dX13_token_133 : decode cX13_token 133 = .ok (.iload 4, 2) := by decide +kernel
theorem dX13_token_135 : decode cX13_token 135 = .ok (.bipush 32, 2) := by decide +kernel
theorem dX13_token_137 : decode cX13_token 137 = .ok (.if_icmp .lt 39, 3) := by decide +kernel
theorem dX13_token_176 : decode cX13_token 176 = .ok (.iconst 1, 1) := by decide +kernel
theorem dX13_token_177 : decode cX13_token 177 = .ok (.ireturn, 1) := by decide +kernel
theorem dX13_token_140 : decode cX13_token 140 = .ok (.iload 4, 2) := by decide +kernel
theorem dX13_token_142 : decode cX13_token 142 = .ok (.bipush 126, 2) := by decide +kernel
theorem dX13_token_144 : decode cX13_token 144 = .ok (.if_icmp .gt 32, 3) := by decide +kernel
theorem dX13_token_147 : decode cX13_token 147 = .ok (.iload 4, 2) := by decide +kernel
theorem dX13_token_149 : decode cX13_token 149 = .ok (.bipush 39, 2) := by decide +kernel
theorem dX13_token_151 : decode cX13_token 151 = .ok (.if_icmp .eq 25, 3) := by decide +kernel
theorem dX13_token_154 : decode cX13_token 154 = .ok (.aload_n 0, 1) := by decide +kernel
theorem dX13_token_155 : decode cX13_token 155 = .ok (.iload_n 1, 1) := by decide +kernel
theorem dX13_token_156 : decode cX13_token 156 = .ok (.iconst 2, 1) := by decide +kernel
theorem dX13_token_157 : decode cX13_token 157 = .ok (.iadd, 1) := by decide +kernel
theorem dX13_token_158 : decode cX13_token 158 = .ok (.invokevirtual 34, 3) := by decide +kernel
theorem dX13_token_161 : decode cX13_token 161 = .ok (.bipush 39, 2) := by decide +kernel
theorem dX13_token_163 : decode cX13_token 163 = .ok (.if_icmp .ne 13, 3) := by decide +kernel
theorem dX13_token_166 : decode cX13_token 166 = .ok (.iload_n 1, 1) := by decide +kernel
theorem dX13_token_167 : decode cX13_token 167 = .ok (.iconst 2, 1) := by decide +kernel
theorem dX13_token_168 : decode cX13_token 168 = .ok (.iadd, 1) := by decide +kernel
theorem dX13_token_169 : decode cX13_token 169 = .ok (.aload_n 0, 1) := by decide +kernel
theorem dX13_token_170 : decode cX13_token 170 = .ok (.getfield 18, 3) := by decide +kernel
theorem dX13_token_173 : decode cX13_token 173 = .ok (.if_icmp .lt 5, 3) := by decide +kernel
theorem dX13_token_178 : decode cX13_token 178 = .ok (.aload_n 0, 1) := by decide +kernel
theorem dX13_token_179 : decode cX13_token 179 = .ok (.getfield 47, 3) := by decide +kernel
theorem dX13_token_182 : decode cX13_token 182 = .ok (.aload_n 0, 1) := by decide +kernel
theorem dX13_token_183 : decode cX13_token 183 = .ok (.getfield 28, 3) := by decide +kernel
theorem dX13_token_186 : decode cX13_token 186 = .ok (.iload_n 1, 1) := by decide +kernel
theorem dX13_token_187 : decode cX13_token 187 = .ok (.iconst 3, 1) := by decide +kernel
theorem dX13_token_188 : decode cX13_token 188 = .ok (.iadd, 1) := by decide +kernel
theorem dX13_token_189 : decode cX13_token 189 = .ok (.iastore, 1) := by decide +kernel
theorem dX13_token_190 : decode cX13_token 190 = .ok (.aload_n 0, 1) := by decide +kernel
theorem dX13_token_191 : decode cX13_token 191 = .ok (.getfield 56, 3) := by decide +kernel
theorem dX13_token_194 : decode cX13_token 194 = .ok (.aload_n 0, 1) := by decide +kernel
theorem dX13_token_195 : decode cX13_token 195 = .ok (.getfield 28, 3) := by decide +kernel
theorem dX13_token_198 : decode cX13_token 198 = .ok (.iload 4, 2) := by decide +kernel
theorem dX13_token_200 : decode cX13_token 200 = .ok (.i2l, 1) := by decide +kernel
theorem dX13_token_201 : decode cX13_token 201 = .ok (.lastore, 1) := by decide +kernel
theorem dX13_token_202 : decode cX13_token 202 = .ok (.bipush 6, 2) := by decide +kernel
theorem dX13_token_204 : decode cX13_token 204 = .ok (.ireturn, 1) := by decide +kernel
theorem dX13_token_41 : decode cX13_token 41 = .ok (.aload_n 0, 1) := by decide +kernel
theorem dX13_token_42 : decode cX13_token 42 = .ok (.iload_n 3, 1) := by decide +kernel
theorem dX13_token_43 : decode cX13_token 43 = .ok (.invokevirtual 34, 3) := by decide +kernel
theorem dX13_token_46 : decode cX13_token 46 = .ok (.invokestatic 53, 3) := by decide +kernel
theorem dX13_token_49 : decode cX13_token 49 = .ok (.ifCond .eq 9, 3) := by decide +kernel
theorem dX13_token_58 : decode cX13_token 58 = .ok (.aload_n 0, 1) := by decide +kernel
theorem dX13_token_59 : decode cX13_token 59 = .ok (.getfield 47, 3) := by decide +kernel
theorem dX13_token_62 : decode cX13_token 62 = .ok (.aload_n 0, 1) := by decide +kernel
theorem dX13_token_63 : decode cX13_token 63 = .ok (.getfield 28, 3) := by decide +kernel
theorem dX13_token_66 : decode cX13_token 66 = .ok (.iload_n 3, 1) := by decide +kernel
theorem dX13_token_67 : decode cX13_token 67 = .ok (.iastore, 1) := by decide +kernel
theorem dX13_token_68 : decode cX13_token 68 = .ok (.iload_n 3, 1) := by decide +kernel
theorem dX13_token_69 : decode cX13_token 69 = .ok (.iload_n 1, 1) := by decide +kernel
theorem dX13_token_70 : decode cX13_token 70 = .ok (.isub, 1) := by decide +kernel
theorem dX13_token_71 : decode cX13_token 71 = .ok (.bipush 16, 2) := by decide +kernel
theorem dX13_token_73 : decode cX13_token 73 = .ok (.if_icmp .le 5, 3) := by decide +kernel
theorem dX13_token_78 : decode cX13_token 78 = .ok (.aload_n 0, 1) := by decide +kernel
theorem dX13_token_79 : decode cX13_token 79 = .ok (.getfield 56, 3) := by decide +kernel
theorem dX13_token_82 : decode cX13_token 82 = .ok (.aload_n 0, 1) := by decide +kernel
theorem dX13_token_83 : decode cX13_token 83 = .ok (.getfield 28, 3) := by decide +kernel
theorem dX13_token_86 : decode cX13_token 86 = .ok (.aload_n 0, 1) := by decide +kernel
theorem dX13_token_87 : decode cX13_token 87 = .ok (.ldc 60, 2) := by decide +kernel
theorem dX13_token_89 : decode cX13_token 89 = .ok (.iload_n 1, 1) := by decide +kernel
theorem dX13_token_90 : decode cX13_token 90 = .ok (.iload_n 3, 1) := by decide +kernel
theorem dX13_token_91 : decode cX13_token 91 = .ok (.iload_n 1, 1) := by decide +kernel
theorem dX13_token_92 : decode cX13_token 92 = .ok (.isub, 1) := by decide +kernel
theorem dX13_token_93 : decode cX13_token 93 = .ok (.invokevirtual 62, 3) := by decide +kernel
theorem tw_295 : (.code yX13_wordOf cX13_wordOf 8 (some .int) : Cond) ∈ tw_W := tw_in (t8_9 (List.mem_of_getElem? (i := 106) rfl)) rfl
theorem tw_296 : ∀ w ∈ ([.methodLink RX13 62 yX13_wordOf, .instanceMethod yX13_wordOf, .selects RX13 yX13_wordOf yX13_wordOf, .initialized RX13] : List Cond), w ∈ tw_W := al_c (tw_in (t8_9 (List.mem_of_getElem? (i := 103) rfl)) rfl) (al_c (tw_in (t8_9 (List.mem_of_getElem? (i := 105) rfl)) rfl) (al_c (tw_in (t7_8 (q := (yX13_wordOf, 124)) (List.mem_of_getElem? (i := 1) rfl)) rfl) (al_c (tw_in (t8_1 (List.mem_of_getElem? (i := 23) rfl)) rfl) al_n)))
theorem dX13_token_96 : decode cX13_token 96 = .ok (.i2l, 1) := by decide +kernel
theorem dX13_token_97 : decode cX13_token 97 = .ok (.lastore, 1) := by decide +kernel
theorem dX13_token_98 : decode cX13_token 98 = .ok (.aload_n 0, 1) := by decide +kernel
theorem dX13_token_99 : decode cX13_token 99 = .ok (.getfield 56, 3) := by decide +kernel
theorem dX13_token_102 : decode cX13_token 102 = .ok (.aload_n 0, 1) := by decide +kernel
theorem dX13_token_103 : decode cX13_token 103 = .ok (.getfield 28, 3) := by decide +kernel
theorem dX13_token_106 : decode cX13_token 106 = .ok (.laload, 1) := by decide +kernel
theorem dX13_token_107 : decode cX13_token 107 = .ok (.lconst 0, 1) := by decide +kernel
theorem dX13_token_108 : decode cX13_token 108 = .ok (.lcmp, 1) := by decide +kernel
theorem dX13_token_109 : decode cX13_token 109 = .ok (.ifCond .lt 7, 3) := by decide +kernel
theorem dX13_token_116 : decode cX13_token 116 = .ok (.iconst 2, 1) := by decide +kernel
theorem dX13_token_117 : decode cX13_token 117 = .ok (.ireturn, 1) := by decide +kernel
theorem dX13_token_112 : decode cX13_token 112 = .ok (.iconst 3, 1) := by decide +kernel
theorem dX13_token_113 : decode cX13_token 113 = .ok (.goto 4, 3) := by decide +kernel
theorem dX13_token_76 : decode cX13_token 76 = .ok (.iconst 1, 1) := by decide +kernel
theorem dX13_token_77 : decode cX13_token 77 = .ok (.ireturn, 1) := by decide +kernel
theorem dX13_token_52 : decode cX13_token 52 = .ok (.iinc 3 1, 3) := by decide +kernel
theorem dX13_token_55 : decode cX13_token 55 = .ok (.goto (-14), 3) := by decide +kernel
theorem dX13_token_28 : decode cX13_token 28 = .ok (.aload_n 0, 1) := by decide +kernel
theorem dX13_token_29 : decode cX13_token 29 = .ok (.iload_n 1, 1) := by decide +kernel
theorem dX13_token_30 : decode cX13_token 30 = .ok (.invokevirtual 50, 3) := by decide +kernel
theorem tw_297 : (.code yX13_number cX13_number 5 (some .int) : Cond) ∈ tw_W := tw_in (t8_9 (List.mem_of_getElem? (i := 92) rfl)) rfl
theorem tw_298 : ∀ w ∈ ([.methodLink RX13 50 yX13_number, .instanceMethod yX13_number, .selects RX13 yX13_number yX13_number, .initialized RX13] : List Cond), w ∈ tw_W := al_c (tw_in (t8_9 (List.mem_of_getElem? (i := 89) rfl)) rfl) (al_c (tw_in (t8_9 (List.mem_of_getElem? (i := 91) rfl)) rfl) (al_c (tw_in (t7_8 (q := (yX13_number, 124)) (List.mem_of_getElem? (i := 0) rfl)) rfl) (al_c (tw_in (t8_1 (List.mem_of_getElem? (i := 23) rfl)) rfl) al_n)))
theorem dX13_token_33 : decode cX13_token 33 = .ok (.ireturn, 1) := by decide +kernel
theorem om_5aa4ab83b1 {x0 : Int} (h0 : 0 ≤ x0 ∧ x0 ≤ 4001) : 0 ≤ x0 ∧ x0 ≤ 4001 := by omega
theorem om_8e9974f271 {x0 x1 x2 : Int} (h0 : 0 ≤ x0 ∧ x0 ≤ 4000) (h1 : 0 ≤ x1 ∧ x1 < x0) (h2 : x2 = x1 + (1 : Int)) : 0 ≤ x2 ∧ x2 ≤ 4000 := by omega
theorem om_aced40186c {x0 x1 x2 x3 : Int} (h0 : x0 ≤ 1 ∨ (x1 + 1 ≤ x2 ∧ x2 ≤ x3)) : x0 ≤ 1 ∨ (x1 + 1 ≤ x2 ∧ x2 ≤ x3) := by omega
theorem om_763cf6bd7d {x0 x1 x2 : Int} (h0 : 0 ≤ x0 ∧ x0 < x1) (h1 : x2 = x0 + (2 : Int)) : 0 ≤ x2 := by omega
theorem om_c37bf102dc {x0 x1 : Int} (h0 : 0 ≤ x0 ∧ x0 < x1) : -2147483648 ≤ x0 + (3 : Int) := by omega
theorem om_497647077c {x0 x1 : Int} (h0 : 0 ≤ x0 ∧ x0 ≤ 4000) (h1 : (x1 + (2 : Int)) < x0) : x1 + (3 : Int) < 2147483648 := by omega
theorem om_0bbe963b6f {x0 x1 x2 x3 : Int} (h0 : (x0 + (2 : Int)) < x1) (h1 : x2 = x0 + (3 : Int)) (h2 : x3 = x2) : (6 : Int) ≤ 1 ∨ (x0 + 1 ≤ x3 ∧ x3 ≤ x1) := by omega
theorem om_9322342f4d {x0 x1 x2 : Int} (h0 : 0 ≤ x0 ∧ x0 ≤ 4000) (h1 : 0 ≤ x1 ∧ x1 < x0) (h2 : x2 = x1 + (1 : Int)) (h3 : (x1 + (2 : Int)) < x0) : 0 ≤ x2 ∧ x2 ≤ 4000 := by omega
theorem om_85ba153226 {x0 x1 x2 : Int} (h0 : 0 ≤ x0 ∧ x0 ≤ 4000) (h1 : 0 ≤ x1 ∧ x1 < x0) (h2 : (x1 + (2 : Int)) < x0) (h3 : x2 = x1 + (3 : Int)) : 0 ≤ x2 ∧ x2 ≤ 4000 := by omega
theorem om_7b83332686 {x0 x1 : Int} (h0 : 0 ≤ x0 ∧ x0 < x1) : x0 ≤ x0 ∧ x0 ≤ x1 := by omega
theorem om_af6bce8abf {x0 x1 x2 : Int} (h0 : ((x0 = 1 ∧ ((97 ≤ x1 ∧ x1 ≤ 122) ∨ (65 ≤ x1 ∧ x1 ≤ 90) ∨ x1 = 95 ∨ (48 ≤ x1 ∧ x1 ≤ 57))) ∨ (x0 = 0 ∧ ((x1 < 97 ∨ 122 < x1) ∧ (x1 < 65 ∨ 90 < x1) ∧ x1 ≠ 95 ∧ (x1 < 48 ∨ 57 < x1))))) (h1 : x0 ≠ (0 : Int)) : x2 ≠ x2 ∨ ((97 ≤ x1 ∧ x1 ≤ 122) ∨ (65 ≤ x1 ∧ x1 ≤ 90) ∨ x1 = 95 ∨ (48 ≤ x1 ∧ x1 ≤ 57)) := by omega
theorem om_2bc73f2cb0 {x0 x1 x2 : Int} (h0 : 0 ≤ x0 ∧ x0 < x1) (h1 : x0 ≤ x2 ∧ x2 ≤ x1) : 0 ≤ x2 := by omega
theorem om_88d1c66d5a {x0 x1 x2 : Int} (h0 : x0 ≤ x1 ∧ x1 ≤ x2) : -2147483648 ≤ x1 - x0 := by omega
theorem om_2701f13494 {x0 x1 x2 : Int} (h0 : 0 ≤ x0 ∧ x0 ≤ 4000) (h1 : 0 ≤ x1 ∧ x1 < x0) (h2 : x1 ≤ x2 ∧ x2 ≤ x0) : x2 - x1 < 2147483648 := by omega
theorem om_f6942cec83 {x0 x1 : Int} (h0 : (x0 - x1) ≤ (16 : Int)) : x0 - x1 < 2147483648 := by omega
theorem om_df424c8d0a {x0 x1 x2 x3 : Int} (h0 : 0 ≤ x0 ∧ x0 ≤ 4000) (h1 : 0 ≤ x1 ∧ x1 < x0) (h2 : x1 ≤ x2 ∧ x2 ≤ x0) (h3 : x3 = x2 - x1) : 0 ≤ x1 ∧ 0 ≤ x3 ∧ x1 + x3 ≤ 4000 := by omega
theorem om_fc0020f5a5 {x0 x1 x2 x3 x4 x5 x6 : Int} (h0 : 0 ≤ x0 ∧ x0 < x1) (h1 : x0 ≤ x2 ∧ x2 ≤ x1) (h2 : x2 ≠ x0 ∨ ((97 ≤ x3 ∧ x3 ≤ 122) ∨ (65 ≤ x3 ∧ x3 ≤ 90) ∨ x3 = 95 ∨ (48 ≤ x3 ∧ x3 ≤ 57))) (h3 : ((x2 < x1 ∧ x4 = x3) ∨ (x1 ≤ x2 ∧ x4 = 0))) (h4 : ((x5 = 1 ∧ ((97 ≤ x4 ∧ x4 ≤ 122) ∨ (65 ≤ x4 ∧ x4 ≤ 90) ∨ x4 = 95 ∨ (48 ≤ x4 ∧ x4 ≤ 57))) ∨ (x5 = 0 ∧ ((x4 < 97 ∨ 122 < x4) ∧ (x4 < 65 ∨ 90 < x4) ∧ x4 ≠ 95 ∧ (x4 < 48 ∨ 57 < x4))))) (h5 : x5 = (0 : Int)) (h6 : x6 = x2) : (2 : Int) ≤ 1 ∨ (x0 + 1 ≤ x6 ∧ x6 ≤ x1) := by omega
theorem om_3bb96e6a4c {x0 x1 x2 : Int} (h0 : 0 ≤ x0 ∧ x0 ≤ 4000) (h1 : 0 ≤ x1 ∧ x1 < x0) (h2 : x1 ≤ x2 ∧ x2 ≤ x0) : 0 ≤ x2 ∧ x2 ≤ 4000 := by omega
theorem om_29f90cf3ff {x0 x1 x2 x3 x4 x5 x6 : Int} (h0 : 0 ≤ x0 ∧ x0 < x1) (h1 : x0 ≤ x2 ∧ x2 ≤ x1) (h2 : x2 ≠ x0 ∨ ((97 ≤ x3 ∧ x3 ≤ 122) ∨ (65 ≤ x3 ∧ x3 ≤ 90) ∨ x3 = 95 ∨ (48 ≤ x3 ∧ x3 ≤ 57))) (h3 : ((x2 < x1 ∧ x4 = x3) ∨ (x1 ≤ x2 ∧ x4 = 0))) (h4 : ((x5 = 1 ∧ ((97 ≤ x4 ∧ x4 ≤ 122) ∨ (65 ≤ x4 ∧ x4 ≤ 90) ∨ x4 = 95 ∨ (48 ≤ x4 ∧ x4 ≤ 57))) ∨ (x5 = 0 ∧ ((x4 < 97 ∨ 122 < x4) ∧ (x4 < 65 ∨ 90 < x4) ∧ x4 ≠ 95 ∧ (x4 < 48 ∨ 57 < x4))))) (h5 : x5 = (0 : Int)) (h6 : x6 = x2) : (3 : Int) ≤ 1 ∨ (x0 + 1 ≤ x6 ∧ x6 ≤ x1) := by omega
theorem om_9a0a056626 {x0 x1 x2 x3 : Int} (h0 : 0 ≤ x0 ∧ x0 ≤ 4000) (h1 : 0 ≤ x1 ∧ x1 < x0) (h2 : x2 = x1 + (1 : Int)) (h3 : x1 ≤ x3 ∧ x3 ≤ x0) (h4 : (16 : Int) < (x3 - x1)) : 0 ≤ x2 ∧ x2 ≤ 4000 := by omega
theorem om_7447cd78d4 {x0 x1 x2 : Int} (h0 : 0 ≤ x0 ∧ x0 ≤ 4000) (h1 : 0 ≤ x1 ∧ x1 < x0) (h2 : x1 ≤ x2 ∧ x2 ≤ x0) (h3 : (16 : Int) < (x2 - x1)) : 0 ≤ x2 ∧ x2 ≤ 4000 := by omega
theorem om_cc8c458b78 {x0 x1 x2 : Int} (h0 : 0 ≤ x0 ∧ x0 < x1) (h1 : x0 ≤ x2 ∧ x2 ≤ x1) : -2147483648 ≤ x2 + (1 : Int) := by omega
theorem om_15d7dcfe30 {x0 x1 x2 : Int} (h0 : 0 ≤ x0 ∧ x0 ≤ 4000) (h1 : x1 ≤ x2 ∧ x2 ≤ x0) : x2 + (1 : Int) < 2147483648 := by omega
theorem om_b45ea78e6e {x0 x1 x2 x3 x4 x5 x6 : Int} (h0 : x0 ≤ x1 ∧ x1 ≤ x2) (h1 : ((x1 < x2 ∧ x3 = x4) ∨ (x2 ≤ x1 ∧ x3 = 0))) (h2 : ((x5 = 1 ∧ ((97 ≤ x3 ∧ x3 ≤ 122) ∨ (65 ≤ x3 ∧ x3 ≤ 90) ∨ x3 = 95 ∨ (48 ≤ x3 ∧ x3 ≤ 57))) ∨ (x5 = 0 ∧ ((x3 < 97 ∨ 122 < x3) ∧ (x3 < 65 ∨ 90 < x3) ∧ x3 ≠ 95 ∧ (x3 < 48 ∨ 57 < x3))))) (h3 : x5 ≠ (0 : Int)) (h4 : x6 = x1 + (1 : Int)) : x0 ≤ x6 ∧ x6 ≤ x2 := by omega
theorem om_a4862cfd7a {x0 x1 x2 x3 x4 : Int} (h0 : x0 ≤ x1 ∧ x1 ≤ x2) (h1 : x3 = x1 + (1 : Int)) : x3 ≠ x0 ∨ ((97 ≤ x4 ∧ x4 ≤ 122) ∨ (65 ≤ x4 ∧ x4 ≤ 90) ∨ x4 = 95 ∨ (48 ≤ x4 ∧ x4 ≤ 57)) := by omega
theorem om_2053cbd098 {x0 x1 x2 x3 x4 : Int} (h0 : ((x0 < x1 ∧ x2 = x3) ∨ (x1 ≤ x0 ∧ x2 = 0))) (h1 : ((x4 = 1 ∧ ((97 ≤ x2 ∧ x2 ≤ 122) ∨ (65 ≤ x2 ∧ x2 ≤ 90) ∨ x2 = 95 ∨ (48 ≤ x2 ∧ x2 ≤ 57))) ∨ (x4 = 0 ∧ ((x2 < 97 ∨ 122 < x2) ∧ (x2 < 65 ∨ 90 < x2) ∧ x2 ≠ 95 ∧ (x2 < 48 ∨ 57 < x2))))) (h2 : x4 ≠ (0 : Int)) : 0 < x1 - x0 := by omega
theorem om_c84b7e573e {x0 x1 : Int} (h0 : ((x0 = 1 ∧ (48 ≤ x1 ∧ x1 ≤ 57)) ∨ (x0 = 0 ∧ (x1 < 48 ∨ 57 < x1)))) (h1 : x0 ≠ (0 : Int)) : (48 ≤ x1 ∧ x1 ≤ 57) := by omega
set_option maxHeartbeats 4000000 in
set_option maxRecDepth 100000 in
theorem c_m_token (l : Launch) (dC : Nat → ClassId) (dI : Nat → Nat → Nat) (cI cB cZ cJ cR : ClassId) (tb : Nat → Nat) (sz : Nat) (ad : Nat → Nat) (N : Nat) (v : MS) (pa : Int32) (zsz : 0 ≤ (v.1 0 4).toInt ∧ (v.1 0 4).toInt ≤ 4000) (ztk : 0 ≤ (v.1 0 5).toInt ∧ (v.1 0 5).toInt ≤ 4001) (za : 0 ≤ pa.toInt ∧ pa.toInt < (v.1 0 4).toInt) (a8 : AR 8 0 4000 v) : Met l yX13_token (Cond.code yX13_token cX13_token 5 (some .int) :: tw_W) ({ frames := 5, cells := 0, slots := 0, locals := 112 }) (pc_ (dC, dI) (tyS cI cB cZ cJ cR) tb (mW ad N cI cZ cJ v) sz [.ref (ad 0), .int pa]) (qi_ (dC, dI) (mW ad N cI cZ cJ v) sz (fun (r : Int32) (u : MS) => FH [] [8, 10] v u ∧ (Q_m_token v pa r u) ∧ (r.toInt ≤ 1 ∨ (pa.toInt + 1 ≤ ((u.1 8) (u.1 0 5).toNatClampNeg).toInt ∧ ((u.1 8) (u.1 0 5).toNatClampNeg).toInt ≤ (v.1 0 4).toInt)) ∧ (AR 8 0 4000 u)) (fun (u : MS) => (mW ad N cI cZ cJ u))) 0 0 (va_A (mW ad N cI cZ cJ v) sz) := by
  refine Met.ofW (cc := cX13_token) (maxL := 5) (ret := (some .int)) (by decide) rfl ?_
  intro p e s m args below meth c s₁ B hml hv
  obtain ⟨rfl, hsz, hP, hKK, hD0, hFx⟩ := hv
  have hK := hKK.1
  have hx := B.exec
  have hb := B.bytes
  have hr := B.returns
  have ht : ∀ w ∈ tw_W, w.before _ s = true := fun w h => atoms_spec (ws := Cond.code yX13_token cX13_token 5 (some .int) :: tw_W) B.pre w (List.mem_cons_of_mem _ h)
  have hown : s.vm.findClass RX13 = some m.cls := findClass_of_methodNamed B.named
  have hlocks := B.notSynchronized
  subst hsz
  unfold qi_
  have hD := hD0.self (sz := s.heap.size)
  generalize hAe : va_A (mW ad N cI cZ cJ v) s.heap.size = A at hD hFx ⊢
  have hA : ∀ q : Nat, s.heap.size ≤ q → A q := fun q h => by rw [← hAe]; exact Or.inr h
  have hS : va_S A s.heap s.heap [] := va_S.rf
  have hl := lv_entry ([.ref (ad 0), .int pa]) (n := 5) (Nat.le_of_ble_eq_true rfl)
  rw [lg_entry_eq]
  generalize (lg_sl ([.ref (ad 0), .int pa]) ++ List.replicate (5 - (lg_sl ([.ref (ad 0), .int pa])).length) Slot.unset).toArray = ls at hl ⊢
  have hl : lv_has ls 5 [(0, .ref (ad 0)), (1, .int pa)] := hl
  refine lv_aload_n hx hb dX13_token_0 rfl (lv_at hl 0 rfl) ?_
  refine va_get (D := (dC, dI)) (ci := 16) (fs := mF ad v) (v := .ref (ad 3)) (C := RX13) (T := TX13) (N := 124) hx hb ht itX13 hown hK hP 0 rfl rfl 3 (by decide) (ht _ tw_43) (fun _ h9 => h9) rfl dX13_token_1 ?_
  refine lv_iload_n hx hb dX13_token_4 rfl (lv_at hl 1 rfl) ?_
  refine va_iald (D := (dC, dI)) (f := (v.1 3)) hx hb hK hP 2 0 rfl rfl (in_y (a := pa.toInt) (b := 4000) rfl (om_67c5e46d7f za) (om_3c422c03b3 zsz za) rfl) dX13_token_5 ?_
  refine lv_istore_n (lv' := [(2, .int ((v.1 3) pa.toNatClampNeg)), (0, .ref (ad 0)), (1, .int pa)]) hx hb dX13_token_6 rfl hl (by decide) rfl (fun ls hl => ?_)
  refine lv_iload_n hx hb dX13_token_7 rfl (lv_at hl 2 rfl) ?_
  refine lv_istore_n (lv' := [(3, .int pa), (2, .int ((v.1 3) pa.toNatClampNeg)), (0, .ref (ad 0)), (1, .int pa)]) hx hb dX13_token_8 rfl hl (by decide) rfl (fun ls hl => ?_)
  refine lv_aload_n hx hb dX13_token_9 rfl (lv_at hl 2 rfl) ?_
  refine va_get (D := (dC, dI)) (ci := 16) (fs := mF ad v) (v := .ref (ad 8)) (C := RX13) (T := TX13) (N := 124) hx hb ht itX13 hown hK hP 0 rfl rfl 8 (by decide) (ht _ tw_42) (fun _ h9 => h9) rfl dX13_token_10 ?_
  refine lv_aload_n hx hb dX13_token_13 rfl (lv_at hl 2 rfl) ?_
  refine va_get (D := (dC, dI)) (ci := 16) (fs := mF ad v) (v := .int (v.1 0 5)) (C := RX13) (T := TX13) (N := 124) hx hb ht itX13 hown hK hP 0 rfl rfl 5 (by decide) (ht _ tw_283) (fun _ h9 => h9) rfl dX13_token_14 ?_
  refine lv_iload_n hx hb dX13_token_17 rfl (lv_at hl 3 rfl) ?_
  refine lv_iconst (v := 1) hx hb dX13_token_18 (by decide) ?_
  refine lv_iadd hx hb dX13_token_19 ?_
  have z1 : (pa + (1 : Int32)).toInt = pa.toInt + (1 : Int) := add_z rfl (show (1 : Int32).toInt = (1 : Int) by decide) (om_a667b4732c za) (om_5aad37c20a zsz za)
  refine va_iast (D := (dC, dI)) (f := (v.1 8)) hx hb hK hP hD hS 5 0 rfl rfl (in_y (a := (v.1 0 5).toInt) (b := 4002) rfl (om_68cc9dfc8a ztk) (om_d067f7e614 ztk) rfl) dX13_token_20 (fun H locs hP hD hS => ?_)
  have hP := cP_ (ma_8 ad N cI cZ cJ v ((v.1 0 5).toNatClampNeg) (pa + (1 : Int32))) hP
  have hD := cD_ (ma_8 ad N cI cZ cJ v ((v.1 0 5).toNatClampNeg) (pa + (1 : Int32))) hD
  refine lv_iload_n hx hb dX13_token_21 rfl (lv_at hl 1 rfl) ?_
  refine cu_s (mW_nd _ _ _ _ _ _) (rn_S (n := 1) (As := [.int ((v.1 3) pa.toNatClampNeg)]) (rest := []) hx hb hml hown ht hKK hFx hP hD hS hA (c_m_isDigit2 l dC dI cI cB cZ cJ cR tb H.size ((v.1 3) pa.toNatClampNeg) ) tw_4 tw_5 (by decide +kernel) rfl rfl ⟨Nat.le_of_ble_eq_true rfl, Nat.le_of_ble_eq_true rfl⟩ [] rfl rfl rfl hl.1 rfl (Nat.le_of_ble_eq_true rfl) dX13_token_22 ⟨Nat.le_of_ble_eq_true rfl, Nat.le_of_ble_eq_true rfl⟩) hP hD hS hA (fun r4 H locs hw2 hP hD hS => ?_)
  obtain ⟨ex2, b2, i2⟩ := hw2
  have b2 : (r4 = 0 ∨ r4 = 1) := b2
  have i2 : ((r4.toInt = 1 ∧ (48 ≤ ((v.1 3) pa.toNatClampNeg).toInt ∧ ((v.1 3) pa.toNatClampNeg).toInt ≤ 57)) ∨ (r4.toInt = 0 ∧ (((v.1 3) pa.toNatClampNeg).toInt < 48 ∨ 57 < ((v.1 3) pa.toNatClampNeg).toInt))) := i2
  refine W.widen (k := 0) (n := 0) (Nat.le_refl _) (Nat.le_refl _) ?_
  refine lv_if_eq (tgt := 34) hx hb dX13_token_25 (by decide) (fun h5 => ?_) (fun h5 => ?_)
  · have z6 : r4.toInt = (0 : Int) := eq_z rfl (show (0 : Int32).toInt = (0 : Int) by decide) h5
    refine lv_iload_n hx hb dX13_token_34 rfl (lv_at hl 1 rfl) ?_
    refine cu_s (mW_nd _ _ _ _ _ _) (rn_S (n := 1) (As := [.int ((v.1 3) pa.toNatClampNeg)]) (rest := []) hx hb hml hown ht hKK hFx hP hD hS hA (c_m_isOfName2 l dC dI cI cB cZ cJ cR tb H.size ((v.1 3) pa.toNatClampNeg) ) tw_286 tw_287 (by decide +kernel) rfl rfl ⟨Nat.le_of_ble_eq_true rfl, Nat.le_of_ble_eq_true rfl⟩ [] rfl rfl rfl hl.1 rfl (Nat.le_of_ble_eq_true rfl) dX13_token_35 ⟨Nat.le_of_ble_eq_true rfl, Nat.le_of_ble_eq_true rfl⟩) hP hD hS hA (fun r9 H locs hw7 hP hD hS => ?_)
    obtain ⟨ex7, b7, i7⟩ := hw7
    have b7 : (r9 = 0 ∨ r9 = 1) := b7
    have i7 : ((r9.toInt = 1 ∧ ((97 ≤ ((v.1 3) pa.toNatClampNeg).toInt ∧ ((v.1 3) pa.toNatClampNeg).toInt ≤ 122) ∨ (65 ≤ ((v.1 3) pa.toNatClampNeg).toInt ∧ ((v.1 3) pa.toNatClampNeg).toInt ≤ 90) ∨ ((v.1 3) pa.toNatClampNeg).toInt = 95 ∨ (48 ≤ ((v.1 3) pa.toNatClampNeg).toInt ∧ ((v.1 3) pa.toNatClampNeg).toInt ≤ 57))) ∨ (r9.toInt = 0 ∧ ((((v.1 3) pa.toNatClampNeg).toInt < 97 ∨ 122 < ((v.1 3) pa.toNatClampNeg).toInt) ∧ (((v.1 3) pa.toNatClampNeg).toInt < 65 ∨ 90 < ((v.1 3) pa.toNatClampNeg).toInt) ∧ ((v.1 3) pa.toNatClampNeg).toInt ≠ 95 ∧ (((v.1 3) pa.toNatClampNeg).toInt < 48 ∨ 57 < ((v.1 3) pa.toNatClampNeg).toInt)))) := i7
    refine W.widen (k := 0) (n := 0) (Nat.le_refl _) (Nat.le_refl _) ?_
    refine lv_if_eq (tgt := 118) hx hb dX13_token_38 (by decide) (fun h10 => ?_) (fun h10 => ?_)
    · have z11 : r9.toInt = (0 : Int) := eq_z rfl (show (0 : Int32).toInt = (0 : Int) by decide) h10
      refine lv_iload_n hx hb dX13_token_118 rfl (lv_at hl 1 rfl) ?_
      refine lv_bipush (v := 39) hx hb dX13_token_119 (by decide) ?_
      refine lv_icmp_ne (tgt := 205) hx hb dX13_token_121 (by decide) (fun h12 => ?_) (fun h12 => ?_)
      · have z13 : ((v.1 3) pa.toNatClampNeg).toInt ≠ (39 : Int) := ne_z rfl (show (39 : Int32).toInt = (39 : Int) by decide) h12
        refine lv_aload_n hx hb dX13_token_205 rfl (lv_at hl 2 rfl) ?_
        refine lv_iload_n hx hb dX13_token_206 rfl (lv_at hl 3 rfl) ?_
        refine cu_i (rn_V (n := 1) (As := [.int pa]) (rest := []) hx hb hml hown ht hKK hFx hP hD hS hA (c_m_sign l dC dI cI cB cZ cJ cR tb H.size ad N (wA v 8 ((v.1 0 5).toNatClampNeg) (pa + (1 : Int32))) pa (show 0 ≤ (v.1 0 4).toInt ∧ (v.1 0 4).toInt ≤ 4000 from (om_c474bb42ef zsz za)) (show 0 ≤ (v.1 0 5).toInt ∧ (v.1 0 5).toInt ≤ 4001 from (om_5aa4ab83b1 ztk)) (show 0 ≤ pa.toInt ∧ pa.toInt < (v.1 0 4).toInt from (om_2bbcc72df9 za)) (show AR 8 0 4000 (wA v 8 ((v.1 0 5).toNatClampNeg) (pa + (1 : Int32))) from (AR.w a8 (show 0 ≤ (pa + (1 : Int32)).toInt ∧ (pa + (1 : Int32)).toInt ≤ 4000 from (om_8e9974f271 zsz za z1))))) tw_293 tw_294 (by decide +kernel) rfl rfl ⟨Nat.le_of_ble_eq_true rfl, Nat.le_of_ble_eq_true rfl⟩ (List.range (mW ad N cI cZ cJ (wA v 8 ((v.1 0 5).toNatClampNeg) (pa + (1 : Int32)))).length) (rg_map _) (mW_nd _ _ _ _ _ _) rfl rfl rfl rfl hl.1 rfl (Nat.le_of_ble_eq_true rfl) dX13_token_207 ⟨Nat.le_of_ble_eq_true rfl, Nat.le_of_ble_eq_true rfl⟩) hP hD hS hA (fun r16 u15 H locs hw14 hP hD hS => ?_)
        obtain ⟨fr14, ex14, pu14, a814⟩ := hw14
        have pu14 : r16.toInt ≤ 1 ∨ (pa.toInt + 1 ≤ ((u15.1 8) (u15.1 0 5).toNatClampNeg).toInt ∧ ((u15.1 8) (u15.1 0 5).toNatClampNeg).toInt ≤ (v.1 0 4).toInt) := pu14
        have a814 : AR 8 0 4000 u15 := a814
        refine W.widen (k := 0) (n := 0) (Nat.le_refl _) (Nat.le_refl _) ?_
        exact W.iret (v := r16) hx hb hr (fun t ht9 hW => ⟨⟨r16, u15, rfl, ⟨(FH.tr (FH.a (FH.rf _) ((v.1 0 5).toNatClampNeg) (pa + (1 : Int32)) (by decide) (by decide)) (FH.up fr14 (by decide) (by decide))), ⟨zsz, ztk, za, r4, ex2, ⟨b2, i2⟩, (Or.inl ⟨z6, r9, ex7, ⟨b7, i7⟩, (Or.inl ⟨z11, (Or.inl ⟨z13, r16, u15, ex14, ⟨fr14, pu14⟩, rfl, rfl⟩)⟩)⟩)⟩, (show r16.toInt ≤ 1 ∨ (pa.toInt + 1 ≤ ((u15.1 8) (u15.1 0 5).toNatClampNeg).toInt ∧ ((u15.1 8) (u15.1 0 5).toNatClampNeg).toInt ≤ (v.1 0 4).toInt) from (om_aced40186c pu14)), a814⟩, by rw [ht9]; exact hP, hD⟩, hS.F ht9⟩) hS.2.2 dX13_token_210
      · have z17 : ((v.1 3) pa.toNatClampNeg).toInt = (39 : Int) := eq_z rfl (show (39 : Int32).toInt = (39 : Int) by decide) h12
        refine lv_aload_n hx hb dX13_token_124 rfl (lv_at hl 2 rfl) ?_
        refine lv_iload_n hx hb dX13_token_125 rfl (lv_at hl 3 rfl) ?_
        refine lv_iconst (v := 1) hx hb dX13_token_126 (by decide) ?_
        refine lv_iadd hx hb dX13_token_127 ?_
        have z18 : (pa + (1 : Int32)).toInt = pa.toInt + (1 : Int) := add_z rfl (show (1 : Int32).toInt = (1 : Int) by decide) (om_a667b4732c za) (om_5aad37c20a zsz za)
        refine cu_i (rn_V (n := 1) (As := [.int (pa + (1 : Int32))]) (rest := []) hx hb hml hown ht hKK hFx hP hD hS hA (c_m_at2 l dC dI cI cB cZ cJ cR tb H.size ad N (wA v 8 ((v.1 0 5).toNatClampNeg) (pa + (1 : Int32))) (pa + (1 : Int32)) (show 0 ≤ (v.1 0 4).toInt ∧ (v.1 0 4).toInt ≤ 4000 from (om_c474bb42ef zsz za)) (show 0 ≤ (pa + (1 : Int32)).toInt from (om_b1ecbdfeb5 za z1))) tw_284 tw_285 (by decide +kernel) rfl rfl ⟨Nat.le_of_ble_eq_true rfl, Nat.le_of_ble_eq_true rfl⟩ (List.range (mW ad N cI cZ cJ (wA v 8 ((v.1 0 5).toNatClampNeg) (pa + (1 : Int32)))).length) (rg_map _) (mW_nd _ _ _ _ _ _) rfl rfl rfl rfl hl.1 rfl (Nat.le_of_ble_eq_true rfl) dX13_token_128 ⟨Nat.le_of_ble_eq_true rfl, Nat.le_of_ble_eq_true rfl⟩) hP hD hS hA (fun r21 u20 H locs hw19 hP hD hS => ?_)
        obtain ⟨rfl, ex19, c19⟩ := hw19
        have c19 : (((pa + (1 : Int32)).toInt < (v.1 0 4).toInt ∧ r21.toInt = ((v.1 3) (pa + (1 : Int32)).toNatClampNeg).toInt) ∨ ((v.1 0 4).toInt ≤ (pa + (1 : Int32)).toInt ∧ r21.toInt = 0)) := c19
        refine W.widen (k := 0) (n := 0) (Nat.le_refl _) (Nat.le_refl _) ?_
        refine lv_istore (lv' := [(4, .int r21), (3, .int pa), (2, .int ((v.1 3) pa.toNatClampNeg)), (0, .ref (ad 0)), (1, .int pa)]) hx hb dX13_token_131 hl (by decide) rfl (fun ls hl => ?_)
        refine lv_iload hx hb dX13_token_133 (lv_at hl 0 rfl) ?_
        refine lv_bipush (v := 32) hx hb dX13_token_135 (by decide) ?_
        refine lv_icmp_lt (tgt := 176) hx hb dX13_token_137 (by decide) (fun h22 => ?_) (fun h22 => ?_)
        · have z23 : r21.toInt < (32 : Int) := lt_z rfl (show (32 : Int32).toInt = (32 : Int) by decide) h22
          refine lv_iconst (v := 1) hx hb dX13_token_176 (by decide) ?_
          exact W.iret (v := 1) hx hb hr (fun t ht9 hW => ⟨⟨1, (wA v 8 ((v.1 0 5).toNatClampNeg) (pa + (1 : Int32))), rfl, ⟨(FH.a (FH.rf _) ((v.1 0 5).toNatClampNeg) (pa + (1 : Int32)) (by decide) (by decide)), ⟨zsz, ztk, za, r4, ex2, ⟨b2, i2⟩, (Or.inl ⟨z6, r9, ex7, ⟨b7, i7⟩, (Or.inl ⟨z11, (Or.inr (⟨z17, r21, ex19, c19, (Or.inl ⟨z23, rfl, rfl⟩)⟩))⟩)⟩)⟩, (show (1 : Int) ≤ 1 ∨ (pa.toInt + 1 ≤ ((upd (v.1 8) ((v.1 0 5).toNatClampNeg) (pa + (1 : Int32))) (v.1 0 5).toNatClampNeg).toInt ∧ ((upd (v.1 8) ((v.1 0 5).toNatClampNeg) (pa + (1 : Int32))) (v.1 0 5).toNatClampNeg).toInt ≤ (v.1 0 4).toInt) from om_abc8d05dfe), (AR.w a8 (show 0 ≤ (pa + (1 : Int32)).toInt ∧ (pa + (1 : Int32)).toInt ≤ 4000 from (om_8e9974f271 zsz za z1)))⟩, by rw [ht9]; exact hP, hD⟩, hS.F ht9⟩) hS.2.2 dX13_token_177
        · have z24 : (32 : Int) ≤ r21.toInt := nlt_z rfl (show (32 : Int32).toInt = (32 : Int) by decide) h22
          refine lv_iload hx hb dX13_token_140 (lv_at hl 0 rfl) ?_
          refine lv_bipush (v := 126) hx hb dX13_token_142 (by decide) ?_
          refine lv_icmp_gt (tgt := 176) hx hb dX13_token_144 (by decide) (fun h25 => ?_) (fun h25 => ?_)
          · have z26 : (126 : Int) < r21.toInt := lt_z (show (126 : Int32).toInt = (126 : Int) by decide) rfl h25
            refine lv_iconst (v := 1) hx hb dX13_token_176 (by decide) ?_
            exact W.iret (v := 1) hx hb hr (fun t ht9 hW => ⟨⟨1, (wA v 8 ((v.1 0 5).toNatClampNeg) (pa + (1 : Int32))), rfl, ⟨(FH.a (FH.rf _) ((v.1 0 5).toNatClampNeg) (pa + (1 : Int32)) (by decide) (by decide)), ⟨zsz, ztk, za, r4, ex2, ⟨b2, i2⟩, (Or.inl ⟨z6, r9, ex7, ⟨b7, i7⟩, (Or.inl ⟨z11, (Or.inr (⟨z17, r21, ex19, c19, (Or.inr (⟨z24, (Or.inl ⟨z26, rfl, rfl⟩)⟩))⟩))⟩)⟩)⟩, (show (1 : Int) ≤ 1 ∨ (pa.toInt + 1 ≤ ((upd (v.1 8) ((v.1 0 5).toNatClampNeg) (pa + (1 : Int32))) (v.1 0 5).toNatClampNeg).toInt ∧ ((upd (v.1 8) ((v.1 0 5).toNatClampNeg) (pa + (1 : Int32))) (v.1 0 5).toNatClampNeg).toInt ≤ (v.1 0 4).toInt) from om_abc8d05dfe), (AR.w a8 (show 0 ≤ (pa + (1 : Int32)).toInt ∧ (pa + (1 : Int32)).toInt ≤ 4000 from (om_8e9974f271 zsz za z1)))⟩, by rw [ht9]; exact hP, hD⟩, hS.F ht9⟩) hS.2.2 dX13_token_177
          · have z27 : r21.toInt ≤ (126 : Int) := nlt_z (show (126 : Int32).toInt = (126 : Int) by decide) rfl h25
            refine lv_iload hx hb dX13_token_147 (lv_at hl 0 rfl) ?_
            refine lv_bipush (v := 39) hx hb dX13_token_149 (by decide) ?_
            refine lv_icmp_eq (tgt := 176) hx hb dX13_token_151 (by decide) (fun h28 => ?_) (fun h28 => ?_)
            · have z29 : r21.toInt = (39 : Int) := eq_z rfl (show (39 : Int32).toInt = (39 : Int) by decide) h28
              refine lv_iconst (v := 1) hx hb dX13_token_176 (by decide) ?_
              exact W.iret (v := 1) hx hb hr (fun t ht9 hW => ⟨⟨1, (wA v 8 ((v.1 0 5).toNatClampNeg) (pa + (1 : Int32))), rfl, ⟨(FH.a (FH.rf _) ((v.1 0 5).toNatClampNeg) (pa + (1 : Int32)) (by decide) (by decide)), ⟨zsz, ztk, za, r4, ex2, ⟨b2, i2⟩, (Or.inl ⟨z6, r9, ex7, ⟨b7, i7⟩, (Or.inl ⟨z11, (Or.inr (⟨z17, r21, ex19, c19, (Or.inr (⟨z24, (Or.inr (⟨z27, (Or.inl ⟨z29, rfl, rfl⟩)⟩))⟩))⟩))⟩)⟩)⟩, (show (1 : Int) ≤ 1 ∨ (pa.toInt + 1 ≤ ((upd (v.1 8) ((v.1 0 5).toNatClampNeg) (pa + (1 : Int32))) (v.1 0 5).toNatClampNeg).toInt ∧ ((upd (v.1 8) ((v.1 0 5).toNatClampNeg) (pa + (1 : Int32))) (v.1 0 5).toNatClampNeg).toInt ≤ (v.1 0 4).toInt) from om_abc8d05dfe), (AR.w a8 (show 0 ≤ (pa + (1 : Int32)).toInt ∧ (pa + (1 : Int32)).toInt ≤ 4000 from (om_8e9974f271 zsz za z1)))⟩, by rw [ht9]; exact hP, hD⟩, hS.F ht9⟩) hS.2.2 dX13_token_177
            · have z30 : r21.toInt ≠ (39 : Int) := ne_z rfl (show (39 : Int32).toInt = (39 : Int) by decide) h28
              refine lv_aload_n hx hb dX13_token_154 rfl (lv_at hl 3 rfl) ?_
              refine lv_iload_n hx hb dX13_token_155 rfl (lv_at hl 4 rfl) ?_
              refine lv_iconst (v := 2) hx hb dX13_token_156 (by decide) ?_
              refine lv_iadd hx hb dX13_token_157 ?_
              have z31 : (pa + (2 : Int32)).toInt = pa.toInt + (2 : Int) := add_z rfl (show (2 : Int32).toInt = (2 : Int) by decide) (om_cadcd0ac59 za) (om_4a6167ded1 zsz za)
              refine cu_i (rn_V (n := 1) (As := [.int (pa + (2 : Int32))]) (rest := []) hx hb hml hown ht hKK hFx hP hD hS hA (c_m_at2 l dC dI cI cB cZ cJ cR tb H.size ad N (wA v 8 ((v.1 0 5).toNatClampNeg) (pa + (1 : Int32))) (pa + (2 : Int32)) (show 0 ≤ (v.1 0 4).toInt ∧ (v.1 0 4).toInt ≤ 4000 from (om_c474bb42ef zsz za)) (show 0 ≤ (pa + (2 : Int32)).toInt from (om_763cf6bd7d za z31))) tw_284 tw_285 (by decide +kernel) rfl rfl ⟨Nat.le_of_ble_eq_true rfl, Nat.le_of_ble_eq_true rfl⟩ (List.range (mW ad N cI cZ cJ (wA v 8 ((v.1 0 5).toNatClampNeg) (pa + (1 : Int32)))).length) (rg_map _) (mW_nd _ _ _ _ _ _) rfl rfl rfl rfl hl.1 rfl (Nat.le_of_ble_eq_true rfl) dX13_token_158 ⟨Nat.le_of_ble_eq_true rfl, Nat.le_of_ble_eq_true rfl⟩) hP hD hS hA (fun r34 u33 H locs hw32 hP hD hS => ?_)
              obtain ⟨rfl, ex32, c32⟩ := hw32
              have c32 : (((pa + (2 : Int32)).toInt < (v.1 0 4).toInt ∧ r34.toInt = ((v.1 3) (pa + (2 : Int32)).toNatClampNeg).toInt) ∨ ((v.1 0 4).toInt ≤ (pa + (2 : Int32)).toInt ∧ r34.toInt = 0)) := c32
              refine W.widen (k := 0) (n := 0) (Nat.le_refl _) (Nat.le_refl _) ?_
              refine lv_bipush (v := 39) hx hb dX13_token_161 (by decide) ?_
              refine lv_icmp_ne (tgt := 176) hx hb dX13_token_163 (by decide) (fun h35 => ?_) (fun h35 => ?_)
              · have z36 : r34.toInt ≠ (39 : Int) := ne_z rfl (show (39 : Int32).toInt = (39 : Int) by decide) h35
                refine lv_iconst (v := 1) hx hb dX13_token_176 (by decide) ?_
                exact W.iret (v := 1) hx hb hr (fun t ht9 hW => ⟨⟨1, (wA v 8 ((v.1 0 5).toNatClampNeg) (pa + (1 : Int32))), rfl, ⟨(FH.a (FH.rf _) ((v.1 0 5).toNatClampNeg) (pa + (1 : Int32)) (by decide) (by decide)), ⟨zsz, ztk, za, r4, ex2, ⟨b2, i2⟩, (Or.inl ⟨z6, r9, ex7, ⟨b7, i7⟩, (Or.inl ⟨z11, (Or.inr (⟨z17, r21, ex19, c19, (Or.inr (⟨z24, (Or.inr (⟨z27, (Or.inr (⟨z30, r34, ex32, c32, (Or.inl ⟨z36, rfl, rfl⟩)⟩))⟩))⟩))⟩))⟩)⟩)⟩, (show (1 : Int) ≤ 1 ∨ (pa.toInt + 1 ≤ ((upd (v.1 8) ((v.1 0 5).toNatClampNeg) (pa + (1 : Int32))) (v.1 0 5).toNatClampNeg).toInt ∧ ((upd (v.1 8) ((v.1 0 5).toNatClampNeg) (pa + (1 : Int32))) (v.1 0 5).toNatClampNeg).toInt ≤ (v.1 0 4).toInt) from om_abc8d05dfe), (AR.w a8 (show 0 ≤ (pa + (1 : Int32)).toInt ∧ (pa + (1 : Int32)).toInt ≤ 4000 from (om_8e9974f271 zsz za z1)))⟩, by rw [ht9]; exact hP, hD⟩, hS.F ht9⟩) hS.2.2 dX13_token_177
              · have z37 : r34.toInt = (39 : Int) := eq_z rfl (show (39 : Int32).toInt = (39 : Int) by decide) h35
                refine lv_iload_n hx hb dX13_token_166 rfl (lv_at hl 4 rfl) ?_
                refine lv_iconst (v := 2) hx hb dX13_token_167 (by decide) ?_
                refine lv_iadd hx hb dX13_token_168 ?_
                have z38 : (pa + (2 : Int32)).toInt = pa.toInt + (2 : Int) := add_z rfl (show (2 : Int32).toInt = (2 : Int) by decide) (om_cadcd0ac59 za) (om_4a6167ded1 zsz za)
                refine lv_aload_n hx hb dX13_token_169 rfl (lv_at hl 3 rfl) ?_
                refine va_get (D := (dC, dI)) (ci := 16) (fs := mF ad (wA v 8 ((v.1 0 5).toNatClampNeg) (pa + (1 : Int32)))) (v := .int (v.1 0 4)) (C := RX13) (T := TX13) (N := 124) hx hb ht itX13 hown hK hP 0 rfl rfl 4 (by decide) (ht _ tw_271) (fun _ h9 => h9) rfl dX13_token_170 ?_
                refine lv_icmp_lt (tgt := 178) hx hb dX13_token_173 (by decide) (fun h39 => ?_) (fun h39 => ?_)
                · have z40 : (pa.toInt + (2 : Int)) < (v.1 0 4).toInt := lt_z z38 rfl h39
                  refine lv_aload_n hx hb dX13_token_178 rfl (lv_at hl 3 rfl) ?_
                  refine va_get (D := (dC, dI)) (ci := 16) (fs := mF ad (wA v 8 ((v.1 0 5).toNatClampNeg) (pa + (1 : Int32)))) (v := .ref (ad 8)) (C := RX13) (T := TX13) (N := 124) hx hb ht itX13 hown hK hP 0 rfl rfl 8 (by decide) (ht _ tw_42) (fun _ h9 => h9) rfl dX13_token_179 ?_
                  refine lv_aload_n hx hb dX13_token_182 rfl (lv_at hl 3 rfl) ?_
                  refine va_get (D := (dC, dI)) (ci := 16) (fs := mF ad (wA v 8 ((v.1 0 5).toNatClampNeg) (pa + (1 : Int32)))) (v := .int (v.1 0 5)) (C := RX13) (T := TX13) (N := 124) hx hb ht itX13 hown hK hP 0 rfl rfl 5 (by decide) (ht _ tw_283) (fun _ h9 => h9) rfl dX13_token_183 ?_
                  refine lv_iload_n hx hb dX13_token_186 rfl (lv_at hl 4 rfl) ?_
                  refine lv_iconst (v := 3) hx hb dX13_token_187 (by decide) ?_
                  refine lv_iadd hx hb dX13_token_188 ?_
                  have z41 : (pa + (3 : Int32)).toInt = pa.toInt + (3 : Int) := add_z rfl (show (3 : Int32).toInt = (3 : Int) by decide) (om_c37bf102dc za) (om_497647077c zsz z40)
                  refine va_iast (D := (dC, dI)) (f := (upd (v.1 8) ((v.1 0 5).toNatClampNeg) (pa + (1 : Int32)))) hx hb hK hP hD hS 5 0 rfl rfl (in_y (a := (v.1 0 5).toInt) (b := 4002) rfl (om_68cc9dfc8a ztk) (om_d067f7e614 ztk) rfl) dX13_token_189 (fun H locs hP hD hS => ?_)
                  have hP := cP_ (ma_8 ad N cI cZ cJ (wA v 8 ((v.1 0 5).toNatClampNeg) (pa + (1 : Int32))) ((v.1 0 5).toNatClampNeg) (pa + (3 : Int32))) hP
                  have hD := cD_ (ma_8 ad N cI cZ cJ (wA v 8 ((v.1 0 5).toNatClampNeg) (pa + (1 : Int32))) ((v.1 0 5).toNatClampNeg) (pa + (3 : Int32))) hD
                  refine lv_aload_n hx hb dX13_token_190 rfl (lv_at hl 3 rfl) ?_
                  refine va_get (D := (dC, dI)) (ci := 16) (fs := mF ad (wA (wA v 8 ((v.1 0 5).toNatClampNeg) (pa + (1 : Int32))) 8 ((v.1 0 5).toNatClampNeg) (pa + (3 : Int32)))) (v := .ref (ad 9)) (C := RX13) (T := TX13) (N := 124) hx hb ht itX13 hown hK hP 0 rfl rfl 9 (by decide) (ht _ tw_27) (fun _ h9 => h9) rfl dX13_token_191 ?_
                  refine lv_aload_n hx hb dX13_token_194 rfl (lv_at hl 3 rfl) ?_
                  refine va_get (D := (dC, dI)) (ci := 16) (fs := mF ad (wA (wA v 8 ((v.1 0 5).toNatClampNeg) (pa + (1 : Int32))) 8 ((v.1 0 5).toNatClampNeg) (pa + (3 : Int32)))) (v := .int (v.1 0 5)) (C := RX13) (T := TX13) (N := 124) hx hb ht itX13 hown hK hP 0 rfl rfl 5 (by decide) (ht _ tw_283) (fun _ h9 => h9) rfl dX13_token_195 ?_
                  refine lv_iload hx hb dX13_token_198 (lv_at hl 0 rfl) ?_
                  refine lv_i2l hx hb dX13_token_200 rfl ?_
                  refine va_last (D := (dC, dI)) (f := v.2) hx hb hK hP hD hS 6 3 rfl rfl (in_y (a := (v.1 0 5).toInt) (b := 4002) rfl (om_68cc9dfc8a ztk) (om_d067f7e614 ztk) rfl) dX13_token_201 (fun H locs hP hD hS => ?_)
                  have hP := cP_ (ma_9 ad N cI cZ cJ (wA (wA v 8 ((v.1 0 5).toNatClampNeg) (pa + (1 : Int32))) 8 ((v.1 0 5).toNatClampNeg) (pa + (3 : Int32))) ((v.1 0 5).toNatClampNeg) (r21).toInt64) hP
                  have hD := cD_ (ma_9 ad N cI cZ cJ (wA (wA v 8 ((v.1 0 5).toNatClampNeg) (pa + (1 : Int32))) 8 ((v.1 0 5).toNatClampNeg) (pa + (3 : Int32))) ((v.1 0 5).toNatClampNeg) (r21).toInt64) hD
                  refine lv_bipush (v := 6) hx hb dX13_token_202 (by decide) ?_
                  have q42 : ((upd (upd (v.1 8) ((v.1 0 5).toNatClampNeg) (pa + (1 : Int32))) ((v.1 0 5).toNatClampNeg) (pa + (3 : Int32))) (v.1 0 5).toNatClampNeg).toInt = (pa + (3 : Int32)).toInt := congrArg Int32.toInt pk_us
                  exact W.iret (v := 6) hx hb hr (fun t ht9 hW => ⟨⟨6, (wL (wA (wA v 8 ((v.1 0 5).toNatClampNeg) (pa + (1 : Int32))) 8 ((v.1 0 5).toNatClampNeg) (pa + (3 : Int32))) ((v.1 0 5).toNatClampNeg) (r21).toInt64), rfl, ⟨(FH.l (FH.a (FH.a (FH.rf _) ((v.1 0 5).toNatClampNeg) (pa + (1 : Int32)) (by decide) (by decide)) ((v.1 0 5).toNatClampNeg) (pa + (3 : Int32)) (by decide) (by decide)) ((v.1 0 5).toNatClampNeg) (r21).toInt64), ⟨zsz, ztk, za, r4, ex2, ⟨b2, i2⟩, (Or.inl ⟨z6, r9, ex7, ⟨b7, i7⟩, (Or.inl ⟨z11, (Or.inr (⟨z17, r21, ex19, c19, (Or.inr (⟨z24, (Or.inr (⟨z27, (Or.inr (⟨z30, r34, ex32, c32, (Or.inr (⟨z37, (Or.inl ⟨z40, rfl, rfl⟩)⟩))⟩))⟩))⟩))⟩))⟩)⟩)⟩, (show (6 : Int) ≤ 1 ∨ (pa.toInt + 1 ≤ ((upd (upd (v.1 8) ((v.1 0 5).toNatClampNeg) (pa + (1 : Int32))) ((v.1 0 5).toNatClampNeg) (pa + (3 : Int32))) (v.1 0 5).toNatClampNeg).toInt ∧ ((upd (upd (v.1 8) ((v.1 0 5).toNatClampNeg) (pa + (1 : Int32))) ((v.1 0 5).toNatClampNeg) (pa + (3 : Int32))) (v.1 0 5).toNatClampNeg).toInt ≤ (v.1 0 4).toInt) from (om_0bbe963b6f z40 z41 q42)), (AR.l (AR.w (AR.w a8 (show 0 ≤ (pa + (1 : Int32)).toInt ∧ (pa + (1 : Int32)).toInt ≤ 4000 from (om_9322342f4d zsz za z1 z40))) (show 0 ≤ (pa + (3 : Int32)).toInt ∧ (pa + (3 : Int32)).toInt ≤ 4000 from (om_85ba153226 zsz za z40 z41))))⟩, by rw [ht9]; exact hP, hD⟩, hS.F ht9⟩) hS.2.2 dX13_token_204
                · have z43 : (v.1 0 4).toInt ≤ (pa.toInt + (2 : Int)) := nlt_z z38 rfl h39
                  refine lv_iconst (v := 1) hx hb dX13_token_176 (by decide) ?_
                  exact W.iret (v := 1) hx hb hr (fun t ht9 hW => ⟨⟨1, (wA v 8 ((v.1 0 5).toNatClampNeg) (pa + (1 : Int32))), rfl, ⟨(FH.a (FH.rf _) ((v.1 0 5).toNatClampNeg) (pa + (1 : Int32)) (by decide) (by decide)), ⟨zsz, ztk, za, r4, ex2, ⟨b2, i2⟩, (Or.inl ⟨z6, r9, ex7, ⟨b7, i7⟩, (Or.inl ⟨z11, (Or.inr (⟨z17, r21, ex19, c19, (Or.inr (⟨z24, (Or.inr (⟨z27, (Or.inr (⟨z30, r34, ex32, c32, (Or.inr (⟨z37, (Or.inr (⟨z43, rfl, rfl⟩))⟩))⟩))⟩))⟩))⟩))⟩)⟩)⟩, (show (1 : Int) ≤ 1 ∨ (pa.toInt + 1 ≤ ((upd (v.1 8) ((v.1 0 5).toNatClampNeg) (pa + (1 : Int32))) (v.1 0 5).toNatClampNeg).toInt ∧ ((upd (v.1 8) ((v.1 0 5).toNatClampNeg) (pa + (1 : Int32))) (v.1 0 5).toNatClampNeg).toInt ≤ (v.1 0 4).toInt) from om_abc8d05dfe), (AR.w a8 (show 0 ≤ (pa + (1 : Int32)).toInt ∧ (pa + (1 : Int32)).toInt ≤ 4000 from (om_8e9974f271 zsz za z1)))⟩, by rw [ht9]; exact hP, hD⟩, hS.F ht9⟩) hS.2.2 dX13_token_177
    · have z44 : r9.toInt ≠ (0 : Int) := ne_z rfl (show (0 : Int32).toInt = (0 : Int) by decide) h10
      refine lpm_ (X := Int32) (P := (fun (x9 : Int32) (H : Heap) (locs : List Loc) (ls : Array Slot) => (pa.toInt ≤ x9.toInt ∧ x9.toInt ≤ (v.1 0 4).toInt) ∧ (x9.toInt ≠ pa.toInt ∨ ((97 ≤ ((v.1 3) x9.toNatClampNeg).toInt ∧ ((v.1 3) x9.toNatClampNeg).toInt ≤ 122) ∨ (65 ≤ ((v.1 3) x9.toNatClampNeg).toInt ∧ ((v.1 3) x9.toNatClampNeg).toInt ≤ 90) ∨ ((v.1 3) x9.toNatClampNeg).toInt = 95 ∨ (48 ≤ ((v.1 3) x9.toNatClampNeg).toInt ∧ ((v.1 3) x9.toNatClampNeg).toInt ≤ 57))) ∧ (RT (Q_m_token_L0 v pa) pa x9) ∧ va_P (dC, dI) vwCl (mW ad N cI cZ cJ (wA v 8 ((v.1 0 5).toNatClampNeg) (pa + (1 : Int32)))) H ∧ va_D A (mW ad N cI cZ cJ (wA v 8 ((v.1 0 5).toNatClampNeg) (pa + (1 : Int32)))) ∧ va_S A s.heap H locs ∧ lv_has ls 5 [(3, .int x9), (2, .int ((v.1 3) pa.toNatClampNeg)), (0, .ref (ad 0)), (1, .int pa)])) (fun x9 => ((v.1 0 4).toInt - x9.toInt).toNat) 41 (fun to H locs ls hh ih41 => ?_) pa _ _ _ ⟨(show pa.toInt ≤ pa.toInt ∧ pa.toInt ≤ (v.1 0 4).toInt from (om_7b83332686 za)), (show pa.toInt ≠ pa.toInt ∨ ((97 ≤ ((v.1 3) pa.toNatClampNeg).toInt ∧ ((v.1 3) pa.toNatClampNeg).toInt ≤ 122) ∨ (65 ≤ ((v.1 3) pa.toNatClampNeg).toInt ∧ ((v.1 3) pa.toNatClampNeg).toInt ≤ 90) ∨ ((v.1 3) pa.toNatClampNeg).toInt = 95 ∨ (48 ≤ ((v.1 3) pa.toNatClampNeg).toInt ∧ ((v.1 3) pa.toNatClampNeg).toInt ≤ 57)) from (om_af6bce8abf i7 z44)), RT.rf, hP, hD, hS, lv_sub hl [0, 1, 2, 3] rfl⟩
      obtain ⟨f1L41, f2L41, exL41, hP, hD, hS, hl⟩ := hh
      have f1L41 : pa.toInt ≤ to.toInt ∧ to.toInt ≤ (v.1 0 4).toInt := f1L41
      have f2L41 : to.toInt ≠ pa.toInt ∨ ((97 ≤ ((v.1 3) to.toNatClampNeg).toInt ∧ ((v.1 3) to.toNatClampNeg).toInt ≤ 122) ∨ (65 ≤ ((v.1 3) to.toNatClampNeg).toInt ∧ ((v.1 3) to.toNatClampNeg).toInt ≤ 90) ∨ ((v.1 3) to.toNatClampNeg).toInt = 95 ∨ (48 ≤ ((v.1 3) to.toNatClampNeg).toInt ∧ ((v.1 3) to.toNatClampNeg).toInt ≤ 57)) := f2L41
      have hl : lv_has ls 5 [(3, .int to), (2, .int ((v.1 3) pa.toNatClampNeg)), (0, .ref (ad 0)), (1, .int pa)] := hl
      refine lv_aload_n hx hb dX13_token_41 rfl (lv_at hl 2 rfl) ?_
      refine lv_iload_n hx hb dX13_token_42 rfl (lv_at hl 0 rfl) ?_
      refine cu_i (rn_V (n := 1) (As := [.int to]) (rest := []) hx hb hml hown ht hKK hFx hP hD hS hA (c_m_at2 l dC dI cI cB cZ cJ cR tb H.size ad N (wA v 8 ((v.1 0 5).toNatClampNeg) (pa + (1 : Int32))) to (show 0 ≤ (v.1 0 4).toInt ∧ (v.1 0 4).toInt ≤ 4000 from (om_c474bb42ef zsz za)) (show 0 ≤ to.toInt from (om_2bc73f2cb0 za f1L41))) tw_284 tw_285 (by decide +kernel) rfl rfl ⟨Nat.le_of_ble_eq_true rfl, Nat.le_of_ble_eq_true rfl⟩ (List.range (mW ad N cI cZ cJ (wA v 8 ((v.1 0 5).toNatClampNeg) (pa + (1 : Int32)))).length) (rg_map _) (mW_nd _ _ _ _ _ _) rfl rfl rfl rfl hl.1 rfl (Nat.le_of_ble_eq_true rfl) dX13_token_43 ⟨Nat.le_of_ble_eq_true rfl, Nat.le_of_ble_eq_true rfl⟩) hP hD hS hA (fun r47 u46 H locs hw45 hP hD hS => ?_)
      obtain ⟨rfl, ex45, c45⟩ := hw45
      have c45 : ((to.toInt < (v.1 0 4).toInt ∧ r47.toInt = ((v.1 3) to.toNatClampNeg).toInt) ∨ ((v.1 0 4).toInt ≤ to.toInt ∧ r47.toInt = 0)) := c45
      refine W.widen (k := 0) (n := 0) (Nat.le_refl _) (Nat.le_refl _) ?_
      refine cu_s (mW_nd _ _ _ _ _ _) (rn_S (n := 1) (As := [.int r47]) (rest := []) hx hb hml hown ht hKK hFx hP hD hS hA (c_m_isOfName2 l dC dI cI cB cZ cJ cR tb H.size r47 ) tw_286 tw_287 (by decide +kernel) rfl rfl ⟨Nat.le_of_ble_eq_true rfl, Nat.le_of_ble_eq_true rfl⟩ [] rfl rfl rfl hl.1 rfl (Nat.le_of_ble_eq_true rfl) dX13_token_46 ⟨Nat.le_of_ble_eq_true rfl, Nat.le_of_ble_eq_true rfl⟩) hP hD hS hA (fun r50 H locs hw48 hP hD hS => ?_)
      obtain ⟨ex48, b48, i48⟩ := hw48
      have b48 : (r50 = 0 ∨ r50 = 1) := b48
      have i48 : ((r50.toInt = 1 ∧ ((97 ≤ r47.toInt ∧ r47.toInt ≤ 122) ∨ (65 ≤ r47.toInt ∧ r47.toInt ≤ 90) ∨ r47.toInt = 95 ∨ (48 ≤ r47.toInt ∧ r47.toInt ≤ 57))) ∨ (r50.toInt = 0 ∧ ((r47.toInt < 97 ∨ 122 < r47.toInt) ∧ (r47.toInt < 65 ∨ 90 < r47.toInt) ∧ r47.toInt ≠ 95 ∧ (r47.toInt < 48 ∨ 57 < r47.toInt)))) := i48
      refine W.widen (k := 0) (n := 0) (Nat.le_refl _) (Nat.le_refl _) ?_
      refine lv_if_eq (tgt := 58) hx hb dX13_token_49 (by decide) (fun h51 => ?_) (fun h51 => ?_)
      · have z52 : r50.toInt = (0 : Int) := eq_z rfl (show (0 : Int32).toInt = (0 : Int) by decide) h51
        refine lv_aload_n hx hb dX13_token_58 rfl (lv_at hl 2 rfl) ?_
        refine va_get (D := (dC, dI)) (ci := 16) (fs := mF ad (wA v 8 ((v.1 0 5).toNatClampNeg) (pa + (1 : Int32)))) (v := .ref (ad 8)) (C := RX13) (T := TX13) (N := 124) hx hb ht itX13 hown hK hP 0 rfl rfl 8 (by decide) (ht _ tw_42) (fun _ h9 => h9) rfl dX13_token_59 ?_
        refine lv_aload_n hx hb dX13_token_62 rfl (lv_at hl 2 rfl) ?_
        refine va_get (D := (dC, dI)) (ci := 16) (fs := mF ad (wA v 8 ((v.1 0 5).toNatClampNeg) (pa + (1 : Int32)))) (v := .int (v.1 0 5)) (C := RX13) (T := TX13) (N := 124) hx hb ht itX13 hown hK hP 0 rfl rfl 5 (by decide) (ht _ tw_283) (fun _ h9 => h9) rfl dX13_token_63 ?_
        refine lv_iload_n hx hb dX13_token_66 rfl (lv_at hl 0 rfl) ?_
        refine va_iast (D := (dC, dI)) (f := (upd (v.1 8) ((v.1 0 5).toNatClampNeg) (pa + (1 : Int32)))) hx hb hK hP hD hS 5 0 rfl rfl (in_y (a := (v.1 0 5).toInt) (b := 4002) rfl (om_68cc9dfc8a ztk) (om_d067f7e614 ztk) rfl) dX13_token_67 (fun H locs hP hD hS => ?_)
        have hP := cP_ (ma_8 ad N cI cZ cJ (wA v 8 ((v.1 0 5).toNatClampNeg) (pa + (1 : Int32))) ((v.1 0 5).toNatClampNeg) to) hP
        have hD := cD_ (ma_8 ad N cI cZ cJ (wA v 8 ((v.1 0 5).toNatClampNeg) (pa + (1 : Int32))) ((v.1 0 5).toNatClampNeg) to) hD
        refine lv_iload_n hx hb dX13_token_68 rfl (lv_at hl 0 rfl) ?_
        refine lv_iload_n hx hb dX13_token_69 rfl (lv_at hl 3 rfl) ?_
        refine lv_isub hx hb dX13_token_70 ?_
        have z53 : (to - pa).toInt = to.toInt - pa.toInt := sub_z rfl rfl (om_88d1c66d5a f1L41) (om_2701f13494 zsz za f1L41)
        refine lv_bipush (v := 16) hx hb dX13_token_71 (by decide) ?_
        refine lv_icmp_le (tgt := 78) hx hb dX13_token_73 (by decide) (fun h54 => ?_) (fun h54 => ?_)
        · have z55 : (to.toInt - pa.toInt) ≤ (16 : Int) := le_z z53 (show (16 : Int32).toInt = (16 : Int) by decide) h54
          refine lv_aload_n hx hb dX13_token_78 rfl (lv_at hl 2 rfl) ?_
          refine va_get (D := (dC, dI)) (ci := 16) (fs := mF ad (wA (wA v 8 ((v.1 0 5).toNatClampNeg) (pa + (1 : Int32))) 8 ((v.1 0 5).toNatClampNeg) to)) (v := .ref (ad 9)) (C := RX13) (T := TX13) (N := 124) hx hb ht itX13 hown hK hP 0 rfl rfl 9 (by decide) (ht _ tw_27) (fun _ h9 => h9) rfl dX13_token_79 ?_
          refine lv_aload_n hx hb dX13_token_82 rfl (lv_at hl 2 rfl) ?_
          refine va_get (D := (dC, dI)) (ci := 16) (fs := mF ad (wA (wA v 8 ((v.1 0 5).toNatClampNeg) (pa + (1 : Int32))) 8 ((v.1 0 5).toNatClampNeg) to)) (v := .int (v.1 0 5)) (C := RX13) (T := TX13) (N := 124) hx hb ht itX13 hown hK hP 0 rfl rfl 5 (by decide) (ht _ tw_283) (fun _ h9 => h9) rfl dX13_token_83 ?_
          refine lv_aload_n hx hb dX13_token_86 rfl (lv_at hl 2 rfl) ?_
          refine va_ldcS hx hb hown (st_ hKK 23 (own := RX13) (idx := 60) (tx := "int if else while do for break continue return put get ") (n := 23) rfl) dX13_token_87 ?_
          refine lv_iload_n hx hb dX13_token_89 rfl (lv_at hl 3 rfl) ?_
          refine lv_iload_n hx hb dX13_token_90 rfl (lv_at hl 0 rfl) ?_
          refine lv_iload_n hx hb dX13_token_91 rfl (lv_at hl 3 rfl) ?_
          refine lv_isub hx hb dX13_token_92 ?_
          have z56 : (to - pa).toInt = to.toInt - pa.toInt := sub_z rfl rfl (om_88d1c66d5a f1L41) (om_f6942cec83 z55)
          refine cu_i (rn_V (n := 3) (As := [.ref (tb (100 + 23)), .int pa, .int (to - pa)]) (rest := [.int (v.1 0 5), .ref (ad 9)]) hx hb hml hown ht hKK hFx hP hD hS hA (c_m_wordOf l dC dI cI cB cZ cJ cR tb H.size ad N (wA (wA v 8 ((v.1 0 5).toNatClampNeg) (pa + (1 : Int32))) 8 ((v.1 0 5).toNatClampNeg) to) pa (to - pa) (show 0 ≤ pa.toInt ∧ 0 ≤ (to - pa).toInt ∧ pa.toInt + (to - pa).toInt ≤ 4000 from (om_df424c8d0a zsz za f1L41 z53))) tw_295 tw_296 (by decide +kernel) rfl rfl ⟨Nat.le_of_ble_eq_true rfl, Nat.le_of_ble_eq_true rfl⟩ (List.range (mW ad N cI cZ cJ (wA (wA v 8 ((v.1 0 5).toNatClampNeg) (pa + (1 : Int32))) 8 ((v.1 0 5).toNatClampNeg) to)).length) (rg_map _) (mW_nd _ _ _ _ _ _) rfl rfl rfl rfl hl.1 rfl (Nat.le_of_ble_eq_true rfl) dX13_token_93 ⟨Nat.le_of_ble_eq_true rfl, Nat.le_of_ble_eq_true rfl⟩) hP hD hS hA (fun r59 u58 H locs hw57 hP hD hS => ?_)
          obtain ⟨rfl, ex57⟩ := hw57
          refine W.widen (k := 0) (n := 0) (Nat.le_refl _) (Nat.le_refl _) ?_
          refine lv_i2l hx hb dX13_token_96 rfl ?_
          refine va_last (D := (dC, dI)) (f := v.2) hx hb hK hP hD hS 6 3 rfl rfl (in_y (a := (v.1 0 5).toInt) (b := 4002) rfl (om_68cc9dfc8a ztk) (om_d067f7e614 ztk) rfl) dX13_token_97 (fun H locs hP hD hS => ?_)
          have hP := cP_ (ma_9 ad N cI cZ cJ (wA (wA v 8 ((v.1 0 5).toNatClampNeg) (pa + (1 : Int32))) 8 ((v.1 0 5).toNatClampNeg) to) ((v.1 0 5).toNatClampNeg) (r59).toInt64) hP
          have hD := cD_ (ma_9 ad N cI cZ cJ (wA (wA v 8 ((v.1 0 5).toNatClampNeg) (pa + (1 : Int32))) 8 ((v.1 0 5).toNatClampNeg) to) ((v.1 0 5).toNatClampNeg) (r59).toInt64) hD
          refine lv_aload_n hx hb dX13_token_98 rfl (lv_at hl 2 rfl) ?_
          refine va_get (D := (dC, dI)) (ci := 16) (fs := mF ad (wL (wA (wA v 8 ((v.1 0 5).toNatClampNeg) (pa + (1 : Int32))) 8 ((v.1 0 5).toNatClampNeg) to) ((v.1 0 5).toNatClampNeg) (r59).toInt64)) (v := .ref (ad 9)) (C := RX13) (T := TX13) (N := 124) hx hb ht itX13 hown hK hP 0 rfl rfl 9 (by decide) (ht _ tw_27) (fun _ h9 => h9) rfl dX13_token_99 ?_
          refine lv_aload_n hx hb dX13_token_102 rfl (lv_at hl 2 rfl) ?_
          refine va_get (D := (dC, dI)) (ci := 16) (fs := mF ad (wL (wA (wA v 8 ((v.1 0 5).toNatClampNeg) (pa + (1 : Int32))) 8 ((v.1 0 5).toNatClampNeg) to) ((v.1 0 5).toNatClampNeg) (r59).toInt64)) (v := .int (v.1 0 5)) (C := RX13) (T := TX13) (N := 124) hx hb ht itX13 hown hK hP 0 rfl rfl 5 (by decide) (ht _ tw_283) (fun _ h9 => h9) rfl dX13_token_103 ?_
          refine va_lald (D := (dC, dI)) (f := (vp_updL v.2 ((v.1 0 5).toNatClampNeg) (r59).toInt64)) hx hb hK hP 6 3 rfl rfl (in_y (a := (v.1 0 5).toInt) (b := 4002) rfl (om_68cc9dfc8a ztk) (om_d067f7e614 ztk) rfl) dX13_token_106 ?_
          refine lv_lconst (v := 0) hx hb dX13_token_107 (by decide) ?_
          refine W.lcmp hx hb dX13_token_108 ?_
          refine lv_if_lt (tgt := 116) hx hb dX13_token_109 (by decide) (fun h60 => ?_) (fun h60 => ?_)
          · have z61 : (lg_cmp ((vp_updL v.2 ((v.1 0 5).toNatClampNeg) (r59).toInt64) (v.1 0 5).toNatClampNeg) (0 : Int64)).toInt < (0 : Int) := lt_z rfl (show (0 : Int32).toInt = (0 : Int) by decide) h60
            refine lv_iconst (v := 2) hx hb dX13_token_116 (by decide) ?_
            have q62 : ((upd (upd (v.1 8) ((v.1 0 5).toNatClampNeg) (pa + (1 : Int32))) ((v.1 0 5).toNatClampNeg) to) (v.1 0 5).toNatClampNeg).toInt = to.toInt := congrArg Int32.toInt pk_us
            exact W.iret (v := 2) hx hb hr (fun t ht9 hW => ⟨⟨2, (wL (wA (wA v 8 ((v.1 0 5).toNatClampNeg) (pa + (1 : Int32))) 8 ((v.1 0 5).toNatClampNeg) to) ((v.1 0 5).toNatClampNeg) (r59).toInt64), rfl, ⟨(FH.l (FH.a (FH.a (FH.rf _) ((v.1 0 5).toNatClampNeg) (pa + (1 : Int32)) (by decide) (by decide)) ((v.1 0 5).toNatClampNeg) to (by decide) (by decide)) ((v.1 0 5).toNatClampNeg) (r59).toInt64), ⟨zsz, ztk, za, r4, ex2, ⟨b2, i2⟩, (Or.inl ⟨z6, r9, ex7, ⟨b7, i7⟩, (Or.inr (⟨z44, to, exL41, f1L41, f2L41, r47, ex45, c45, r50, ex48, ⟨b48, i48⟩, z52, (Or.inl ⟨z55, r59, ex57, (Or.inl ⟨z61, rfl, rfl⟩)⟩)⟩))⟩)⟩, (show (2 : Int) ≤ 1 ∨ (pa.toInt + 1 ≤ ((upd (upd (v.1 8) ((v.1 0 5).toNatClampNeg) (pa + (1 : Int32))) ((v.1 0 5).toNatClampNeg) to) (v.1 0 5).toNatClampNeg).toInt ∧ ((upd (upd (v.1 8) ((v.1 0 5).toNatClampNeg) (pa + (1 : Int32))) ((v.1 0 5).toNatClampNeg) to) (v.1 0 5).toNatClampNeg).toInt ≤ (v.1 0 4).toInt) from (om_fc0020f5a5 za f1L41 f2L41 c45 i48 z52 q62)), (AR.l (AR.w (AR.w a8 (show 0 ≤ (pa + (1 : Int32)).toInt ∧ (pa + (1 : Int32)).toInt ≤ 4000 from (om_8e9974f271 zsz za z1))) (show 0 ≤ to.toInt ∧ to.toInt ≤ 4000 from (om_3bb96e6a4c zsz za f1L41))))⟩, by rw [ht9]; exact hP, hD⟩, hS.F ht9⟩) hS.2.2 dX13_token_117
          · have z63 : (0 : Int) ≤ (lg_cmp ((vp_updL v.2 ((v.1 0 5).toNatClampNeg) (r59).toInt64) (v.1 0 5).toNatClampNeg) (0 : Int64)).toInt := nlt_z rfl (show (0 : Int32).toInt = (0 : Int) by decide) h60
            refine lv_iconst (v := 3) hx hb dX13_token_112 (by decide) ?_
            refine lv_goto (tgt := 117) hx hb dX13_token_113 (by decide) ?_
            have q64 : ((upd (upd (v.1 8) ((v.1 0 5).toNatClampNeg) (pa + (1 : Int32))) ((v.1 0 5).toNatClampNeg) to) (v.1 0 5).toNatClampNeg).toInt = to.toInt := congrArg Int32.toInt pk_us
            exact W.iret (v := 3) hx hb hr (fun t ht9 hW => ⟨⟨3, (wL (wA (wA v 8 ((v.1 0 5).toNatClampNeg) (pa + (1 : Int32))) 8 ((v.1 0 5).toNatClampNeg) to) ((v.1 0 5).toNatClampNeg) (r59).toInt64), rfl, ⟨(FH.l (FH.a (FH.a (FH.rf _) ((v.1 0 5).toNatClampNeg) (pa + (1 : Int32)) (by decide) (by decide)) ((v.1 0 5).toNatClampNeg) to (by decide) (by decide)) ((v.1 0 5).toNatClampNeg) (r59).toInt64), ⟨zsz, ztk, za, r4, ex2, ⟨b2, i2⟩, (Or.inl ⟨z6, r9, ex7, ⟨b7, i7⟩, (Or.inr (⟨z44, to, exL41, f1L41, f2L41, r47, ex45, c45, r50, ex48, ⟨b48, i48⟩, z52, (Or.inl ⟨z55, r59, ex57, (Or.inr (⟨z63, rfl, rfl⟩))⟩)⟩))⟩)⟩, (show (3 : Int) ≤ 1 ∨ (pa.toInt + 1 ≤ ((upd (upd (v.1 8) ((v.1 0 5).toNatClampNeg) (pa + (1 : Int32))) ((v.1 0 5).toNatClampNeg) to) (v.1 0 5).toNatClampNeg).toInt ∧ ((upd (upd (v.1 8) ((v.1 0 5).toNatClampNeg) (pa + (1 : Int32))) ((v.1 0 5).toNatClampNeg) to) (v.1 0 5).toNatClampNeg).toInt ≤ (v.1 0 4).toInt) from (om_29f90cf3ff za f1L41 f2L41 c45 i48 z52 q64)), (AR.l (AR.w (AR.w a8 (show 0 ≤ (pa + (1 : Int32)).toInt ∧ (pa + (1 : Int32)).toInt ≤ 4000 from (om_8e9974f271 zsz za z1))) (show 0 ≤ to.toInt ∧ to.toInt ≤ 4000 from (om_3bb96e6a4c zsz za f1L41))))⟩, by rw [ht9]; exact hP, hD⟩, hS.F ht9⟩) hS.2.2 dX13_token_117
        · have z65 : (16 : Int) < (to.toInt - pa.toInt) := nle_z z53 (show (16 : Int32).toInt = (16 : Int) by decide) h54
          refine lv_iconst (v := 1) hx hb dX13_token_76 (by decide) ?_
          exact W.iret (v := 1) hx hb hr (fun t ht9 hW => ⟨⟨1, (wA (wA v 8 ((v.1 0 5).toNatClampNeg) (pa + (1 : Int32))) 8 ((v.1 0 5).toNatClampNeg) to), rfl, ⟨(FH.a (FH.a (FH.rf _) ((v.1 0 5).toNatClampNeg) (pa + (1 : Int32)) (by decide) (by decide)) ((v.1 0 5).toNatClampNeg) to (by decide) (by decide)), ⟨zsz, ztk, za, r4, ex2, ⟨b2, i2⟩, (Or.inl ⟨z6, r9, ex7, ⟨b7, i7⟩, (Or.inr (⟨z44, to, exL41, f1L41, f2L41, r47, ex45, c45, r50, ex48, ⟨b48, i48⟩, z52, (Or.inr (⟨z65, rfl, rfl⟩))⟩))⟩)⟩, (show (1 : Int) ≤ 1 ∨ (pa.toInt + 1 ≤ ((upd (upd (v.1 8) ((v.1 0 5).toNatClampNeg) (pa + (1 : Int32))) ((v.1 0 5).toNatClampNeg) to) (v.1 0 5).toNatClampNeg).toInt ∧ ((upd (upd (v.1 8) ((v.1 0 5).toNatClampNeg) (pa + (1 : Int32))) ((v.1 0 5).toNatClampNeg) to) (v.1 0 5).toNatClampNeg).toInt ≤ (v.1 0 4).toInt) from om_abc8d05dfe), (AR.w (AR.w a8 (show 0 ≤ (pa + (1 : Int32)).toInt ∧ (pa + (1 : Int32)).toInt ≤ 4000 from (om_9a0a056626 zsz za z1 f1L41 z65))) (show 0 ≤ to.toInt ∧ to.toInt ≤ 4000 from (om_7447cd78d4 zsz za f1L41 z65)))⟩, by rw [ht9]; exact hP, hD⟩, hS.F ht9⟩) hS.2.2 dX13_token_77
      · have z66 : r50.toInt ≠ (0 : Int) := ne_z rfl (show (0 : Int32).toInt = (0 : Int) by decide) h51
        refine lv_iinc (v := (to + (1 : Int32))) (lv' := [(3, .int (to + (1 : Int32))), (2, .int ((v.1 3) pa.toNatClampNeg)), (0, .ref (ad 0)), (1, .int pa)]) hx hb dX13_token_52 hl (k := 0) rfl (rfl) (by decide) rfl (fun ls hl => ?_)
        have z67 : (to + (1 : Int32)).toInt = to.toInt + (1 : Int) := add_z rfl (show (1 : Int32).toInt = (1 : Int) by decide) (om_cc8c458b78 za f1L41) (om_15d7dcfe30 zsz f1L41)
        refine lv_goto (tgt := 41) hx hb dX13_token_55 (by decide) ?_
        exact ih41 (to + (1 : Int32)) _ _ _ (show ((v.1 0 4).toInt - (to + (1 : Int32)).toInt).toNat < ((v.1 0 4).toInt - to.toInt).toNat from tn_z (om_6a7d95371f z67) (om_2053cbd098 c45 i48 z66)) ⟨(show pa.toInt ≤ (to + (1 : Int32)).toInt ∧ (to + (1 : Int32)).toInt ≤ (v.1 0 4).toInt from (om_b45ea78e6e f1L41 c45 i48 z66 z67)), (show (to + (1 : Int32)).toInt ≠ pa.toInt ∨ ((97 ≤ ((v.1 3) (to + (1 : Int32)).toNatClampNeg).toInt ∧ ((v.1 3) (to + (1 : Int32)).toNatClampNeg).toInt ≤ 122) ∨ (65 ≤ ((v.1 3) (to + (1 : Int32)).toNatClampNeg).toInt ∧ ((v.1 3) (to + (1 : Int32)).toNatClampNeg).toInt ≤ 90) ∨ ((v.1 3) (to + (1 : Int32)).toNatClampNeg).toInt = 95 ∨ (48 ≤ ((v.1 3) (to + (1 : Int32)).toNatClampNeg).toInt ∧ ((v.1 3) (to + (1 : Int32)).toNatClampNeg).toInt ≤ 57)) from (om_a4862cfd7a f1L41 z67)), (RT.st exL41 ⟨f1L41, f2L41, r47, ex45, c45, r50, ex48, ⟨b48, i48⟩, z66, rfl⟩), hP, hD, hS, lv_sub hl [0, 1, 2, 3] rfl⟩
  · have z68 : r4.toInt ≠ (0 : Int) := ne_z rfl (show (0 : Int32).toInt = (0 : Int) by decide) h5
    refine lv_aload_n hx hb dX13_token_28 rfl (lv_at hl 2 rfl) ?_
    refine lv_iload_n hx hb dX13_token_29 rfl (lv_at hl 3 rfl) ?_
    refine cu_i (rn_V (n := 1) (As := [.int pa]) (rest := []) hx hb hml hown ht hKK hFx hP hD hS hA (c_m_number l dC dI cI cB cZ cJ cR tb H.size ad N (wA v 8 ((v.1 0 5).toNatClampNeg) (pa + (1 : Int32))) pa (show 0 ≤ (v.1 0 4).toInt ∧ (v.1 0 4).toInt ≤ 4000 from (om_c474bb42ef zsz za)) (show 0 ≤ (v.1 0 5).toInt ∧ (v.1 0 5).toInt ≤ 4001 from (om_5aa4ab83b1 ztk)) (show 0 ≤ pa.toInt ∧ pa.toInt < (v.1 0 4).toInt from (om_2bbcc72df9 za)) (show AR 8 0 4000 (wA v 8 ((v.1 0 5).toNatClampNeg) (pa + (1 : Int32))) from (AR.w a8 (show 0 ≤ (pa + (1 : Int32)).toInt ∧ (pa + (1 : Int32)).toInt ≤ 4000 from (om_8e9974f271 zsz za z1)))) (show (48 ≤ ((v.1 3) pa.toNatClampNeg).toInt ∧ ((v.1 3) pa.toNatClampNeg).toInt ≤ 57) from (om_c84b7e573e i2 z68))) tw_297 tw_298 (by decide +kernel) rfl rfl ⟨Nat.le_of_ble_eq_true rfl, Nat.le_of_ble_eq_true rfl⟩ (List.range (mW ad N cI cZ cJ (wA v 8 ((v.1 0 5).toNatClampNeg) (pa + (1 : Int32)))).length) (rg_map _) (mW_nd _ _ _ _ _ _) rfl rfl rfl rfl hl.1 rfl (Nat.le_of_ble_eq_true rfl) dX13_token_30 ⟨Nat.le_of_ble_eq_true rfl, Nat.le_of_ble_eq_true rfl⟩) hP hD hS hA (fun r71 u70 H locs hw69 hP hD hS => ?_)
    obtain ⟨fr69, ex69, pu69, a869⟩ := hw69
    have pu69 : r71.toInt ≤ 1 ∨ (pa.toInt + 1 ≤ ((u70.1 8) (u70.1 0 5).toNatClampNeg).toInt ∧ ((u70.1 8) (u70.1 0 5).toNatClampNeg).toInt ≤ (v.1 0 4).toInt) := pu69
    have a869 : AR 8 0 4000 u70 := a869
    refine W.widen (k := 0) (n := 0) (Nat.le_refl _) (Nat.le_refl _) ?_
    exact W.iret (v := r71) hx hb hr (fun t ht9 hW => ⟨⟨r71, u70, rfl, ⟨(FH.tr (FH.a (FH.rf _) ((v.1 0 5).toNatClampNeg) (pa + (1 : Int32)) (by decide) (by decide)) (FH.up fr69 (by decide) (by decide))), ⟨zsz, ztk, za, r4, ex2, ⟨b2, i2⟩, (Or.inr (⟨z68, r71, u70, ex69, ⟨fr69, pu69⟩, rfl, rfl⟩))⟩, (show r71.toInt ≤ 1 ∨ (pa.toInt + 1 ≤ ((u70.1 8) (u70.1 0 5).toNatClampNeg).toInt ∧ ((u70.1 8) (u70.1 0 5).toNatClampNeg).toInt ≤ (v.1 0 4).toInt) from (om_aced40186c pu69)), a869⟩, by rw [ht9]; exact hP, hD⟩, hS.F ht9⟩) hS.2.2 dX13_token_33
