theorem dX13_named_0 : decode cX13_named 0 = .ok (.aload_n 0, 1) := by decide +kernel
theorem dX13_named_1 : decode cX13_named 1 = .ok (.getfield 137, 3) := by decide +kernel
theorem dX13_named_4 : decode cX13_named 4 = .ok (.istore_n 2, 1) := by decide +kernel
theorem dX13_named_5 : decode cX13_named 5 = .ok (.aload_n 0, 1) := by decide +kernel
theorem dX13_named_6 : decode cX13_named 6 = .ok (.aload_n 0, 1) := by decide +kernel
theorem dX13_named_7 : decode cX13_named 7 = .ok (.getfield 137, 3) := by decide +kernel
theorem dX13_named_10 : decode cX13_named 10 = .ok (.iconst 1, 1) := by decide +kernel
theorem dX13_named_11 : decode cX13_named 11 = .ok (.iadd, 1) := by decide +kernel
theorem dX13_named_12 : decode cX13_named 12 = .ok (.bipush 91, 2) := by decide +kernel
theorem dX13_named_14 : decode cX13_named 14 = .ok (.invokevirtual 144, 3) := by decide +kernel
theorem dX13_named_17 : decode cX13_named 17 = .ok (.istore_n 3, 1) := by decide +kernel
theorem dX13_named_18 : decode cX13_named 18 = .ok (.aload_n 0, 1) := by decide +kernel
theorem dX13_named_19 : decode cX13_named 19 = .ok (.iload_n 2, 1) := by decide +kernel
theorem dX13_named_20 : decode cX13_named 20 = .ok (.invokevirtual 246, 3) := by decide +kernel
theorem tw_98 : (.code yX13_local cX13_local 3 (some .int) : Cond) ∈ tw_W := tw_in (t8_9 (List.mem_of_getElem? (i := 184) rfl)) rfl
theorem tw_99 : ∀ w ∈ ([.methodLink RX13 246 yX13_local, .instanceMethod yX13_local, .selects RX13 yX13_local yX13_local, .initialized RX13] : List Cond), w ∈ tw_W := al_c (tw_in (t8_9 (List.mem_of_getElem? (i := 181) rfl)) rfl) (al_c (tw_in (t8_9 (List.mem_of_getElem? (i := 183) rfl)) rfl) (al_c (tw_in (t7_9 (q := (yX13_local, 124)) (List.mem_of_getElem? (i := 2) rfl)) rfl) (al_c (tw_in (t8_1 (List.mem_of_getElem? (i := 23) rfl)) rfl) al_n)))
theorem dX13_named_23 : decode cX13_named 23 = .ok (.istore 4, 2) := by decide +kernel
theorem dX13_named_25 : decode cX13_named 25 = .ok (.iload 4, 2) := by decide +kernel
theorem dX13_named_27 : decode cX13_named 27 = .ok (.ifCond .ge 11, 3) := by decide +kernel
theorem dX13_named_38 : decode cX13_named 38 = .ok (.iconst (-1), 1) := by decide +kernel
theorem dX13_named_39 : decode cX13_named 39 = .ok (.istore 5, 2) := by decide +kernel
theorem dX13_named_41 : decode cX13_named 41 = .ok (.iload 4, 2) := by decide +kernel
theorem dX13_named_43 : decode cX13_named 43 = .ok (.ifCond .ge 8, 3) := by decide +kernel
theorem dX13_named_51 : decode cX13_named 51 = .ok (.iload_n 3, 1) := by decide +kernel
theorem dX13_named_52 : decode cX13_named 52 = .ok (.iload 4, 2) := by decide +kernel
theorem dX13_named_54 : decode cX13_named 54 = .ok (.ifCond .ge 17, 3) := by decide +kernel
theorem dX13_named_71 : decode cX13_named 71 = .ok (.iconst 0, 1) := by decide +kernel
theorem dX13_named_72 : decode cX13_named 72 = .ok (.if_icmp .eq 13, 3) := by decide +kernel
theorem dX13_named_85 : decode cX13_named 85 = .ok (.aload_n 0, 1) := by decide +kernel
theorem dX13_named_86 : decode cX13_named 86 = .ok (.invokevirtual 154, 3) := by decide +kernel
theorem dX13_named_89 : decode cX13_named 89 = .ok (.iload_n 3, 1) := by decide +kernel
theorem dX13_named_90 : decode cX13_named 90 = .ok (.ifCond .eq 9, 3) := by decide +kernel
theorem dX13_named_99 : decode cX13_named 99 = .ok (.iload_n 1, 1) := by decide +kernel
theorem dX13_named_100 : decode cX13_named 100 = .ok (.ifCond .eq 10, 3) := by decide +kernel
theorem dX13_named_110 : decode cX13_named 110 = .ok (.iconst (-1), 1) := by decide +kernel
theorem dX13_named_111 : decode cX13_named 111 = .ok (.istore 6, 2) := by decide +kernel
theorem dX13_named_113 : decode cX13_named 113 = .ok (.iload 6, 2) := by decide +kernel
theorem dX13_named_115 : decode cX13_named 115 = .ok (.iconst (-1), 1) := by decide +kernel
theorem dX13_named_116 : decode cX13_named 116 = .ok (.if_icmp .eq 15, 3) := by decide +kernel
theorem dX13_named_131 : decode cX13_named 131 = .ok (.iload_n 3, 1) := by decide +kernel
theorem dX13_named_132 : decode cX13_named 132 = .ok (.ifCond .eq 33, 3) := by decide +kernel
theorem dX13_named_165 : decode cX13_named 165 = .ok (.aload_n 0, 1) := by decide +kernel
theorem dX13_named_166 : decode cX13_named 166 = .ok (.iload 4, 2) := by decide +kernel
theorem dX13_named_168 : decode cX13_named 168 = .ok (.iload 5, 2) := by decide +kernel
theorem dX13_named_170 : decode cX13_named 170 = .ok (.invokevirtual 268, 3) := by decide +kernel
theorem dX13_named_173 : decode cX13_named 173 = .ok (.iload_n 1, 1) := by decide +kernel
theorem dX13_named_174 : decode cX13_named 174 = .ok (.ifCond .eq 8, 3) := by decide +kernel
theorem dX13_named_182 : decode cX13_named 182 = .ok (.return_, 1) := by decide +kernel
theorem dX13_named_75 : decode cX13_named 75 = .ok (.aload_n 0, 1) := by decide +kernel
theorem dX13_named_76 : decode cX13_named 76 = .ok (.iconst 3, 1) := by decide +kernel
theorem dX13_named_77 : decode cX13_named 77 = .ok (.aload_n 0, 1) := by decide +kernel
theorem dX13_named_78 : decode cX13_named 78 = .ok (.getfield 137, 3) := by decide +kernel
theorem dX13_named_81 : decode cX13_named 81 = .ok (.invokevirtual 140, 3) := by decide +kernel
theorem dX13_named_84 : decode cX13_named 84 = .ok (.athrow, 1) := by decide +kernel
theorem dX13_named_30 : decode cX13_named 30 = .ok (.aload_n 0, 1) := by decide +kernel
theorem dX13_named_31 : decode cX13_named 31 = .ok (.iload_n 2, 1) := by decide +kernel
theorem dX13_named_32 : decode cX13_named 32 = .ok (.invokevirtual 249, 3) := by decide +kernel
theorem tw_100 : (.code yX13_globalOf cX13_globalOf 3 (some .int) : Cond) ∈ tw_W := tw_in (t8_9 (List.mem_of_getElem? (i := 152) rfl)) rfl
theorem tw_101 : ∀ w ∈ ([.methodLink RX13 249 yX13_globalOf, .instanceMethod yX13_globalOf, .selects RX13 yX13_globalOf yX13_globalOf, .initialized RX13] : List Cond), w ∈ tw_W := al_c (tw_in (t8_9 (List.mem_of_getElem? (i := 149) rfl)) rfl) (al_c (tw_in (t8_9 (List.mem_of_getElem? (i := 151) rfl)) rfl) (al_c (tw_in (t7_8 (q := (yX13_globalOf, 124)) (List.mem_of_getElem? (i := 10) rfl)) rfl) (al_c (tw_in (t8_1 (List.mem_of_getElem? (i := 23) rfl)) rfl) al_n)))
theorem dX13_named_35 : decode cX13_named 35 = .ok (.goto 4, 3) := by decide +kernel
theorem dX13_named_46 : decode cX13_named 46 = .ok (.iload 5, 2) := by decide +kernel
theorem dX13_named_48 : decode cX13_named 48 = .ok (.ifCond .lt 27, 3) := by decide +kernel
theorem dX13_named_57 : decode cX13_named 57 = .ok (.aload_n 0, 1) := by decide +kernel
theorem dX13_named_58 : decode cX13_named 58 = .ok (.getfield 252, 3) := by decide +kernel
theorem tw_102 : (.fieldLink RX13 252 "PocketCompilerModel" "gRow" "[Z" : Cond) ∈ tw_W := tw_in (t8_10 (List.mem_of_getElem? (i := 183) rfl)) rfl
theorem dX13_named_61 : decode cX13_named 61 = .ok (.iload 5, 2) := by decide +kernel
theorem dX13_named_63 : decode cX13_named 63 = .ok (.baload, 1) := by decide +kernel
theorem dX13_named_64 : decode cX13_named 64 = .ok (.ifCond .eq 7, 3) := by decide +kernel
theorem dX13_named_67 : decode cX13_named 67 = .ok (.iconst 1, 1) := by decide +kernel
theorem dX13_named_68 : decode cX13_named 68 = .ok (.goto 4, 3) := by decide +kernel
theorem dX13_named_93 : decode cX13_named 93 = .ok (.aload_n 0, 1) := by decide +kernel
theorem dX13_named_94 : decode cX13_named 94 = .ok (.iload 5, 2) := by decide +kernel
theorem dX13_named_96 : decode cX13_named 96 = .ok (.invokevirtual 255, 3) := by decide +kernel
theorem tw_103 : (.code yX13_index cX13_index 3 none : Cond) ∈ tw_W := tw_in (t8_9 (List.mem_of_getElem? (i := 233) rfl)) rfl
theorem tw_104 : ∀ w ∈ ([.methodLink RX13 255 yX13_index, .instanceMethod yX13_index, .selects RX13 yX13_index yX13_index, .initialized RX13] : List Cond), w ∈ tw_W := al_c (tw_in (t8_9 (List.mem_of_getElem? (i := 230) rfl)) rfl) (al_c (tw_in (t8_9 (List.mem_of_getElem? (i := 232) rfl)) rfl) (al_c (tw_in (t7_9 (q := (yX13_index, 124)) (List.mem_of_getElem? (i := 12) rfl)) rfl) (al_c (tw_in (t8_1 (List.mem_of_getElem? (i := 23) rfl)) rfl) al_n)))
theorem dX13_named_135 : decode cX13_named 135 = .ok (.aload_n 0, 1) := by decide +kernel
theorem dX13_named_136 : decode cX13_named 136 = .ok (.aload_n 0, 1) := by decide +kernel
theorem dX13_named_137 : decode cX13_named 137 = .ok (.bipush 10, 2) := by decide +kernel
theorem dX13_named_139 : decode cX13_named 139 = .ok (.iconst 0, 1) := by decide +kernel
theorem dX13_named_140 : decode cX13_named 140 = .ok (.bipush 10, 2) := by decide +kernel
theorem dX13_named_142 : decode cX13_named 142 = .ok (.invokestatic 265, 3) := by decide +kernel
theorem dX13_named_145 : decode cX13_named 145 = .ok (.invokevirtual 111, 3) := by decide +kernel
theorem dX13_named_148 : decode cX13_named 148 = .ok (.iload 5, 2) := by decide +kernel
theorem dX13_named_150 : decode cX13_named 150 = .ok (.iconst 1, 1) := by decide +kernel
theorem dX13_named_151 : decode cX13_named 151 = .ok (.invokevirtual 216, 3) := by decide +kernel
theorem dX13_named_154 : decode cX13_named 154 = .ok (.aload_n 0, 1) := by decide +kernel
theorem dX13_named_155 : decode cX13_named 155 = .ok (.bipush 6, 2) := by decide +kernel
theorem dX13_named_157 : decode cX13_named 157 = .ok (.iconst 0, 1) := by decide +kernel
theorem dX13_named_158 : decode cX13_named 158 = .ok (.invokevirtual 210, 3) := by decide +kernel
theorem dX13_named_161 : decode cX13_named 161 = .ok (.pop, 1) := by decide +kernel
theorem dX13_named_162 : decode cX13_named 162 = .ok (.goto 11, 3) := by decide +kernel
theorem om_6662b95370 {x0 x1 x2 : Int} (h0 : 0 ≤ x0 ∧ x0 ≤ 1500) (h1 : 0 ≤ x1 ∧ x1 ≤ 15 * x0 + 0) (h2 : x2 = (x0) + (1 : Int)) : 0 ≤ x2 ∧ x2 < 4002 := by omega
theorem om_bf396309a0 {n0 : Nat} : 0 + 1 ≤ 40 * n0 + 8 := by omega
theorem om_6567089ecb {n0 : Nat} : 8 + (3 + 11) + 0 ≤ 28 * (40 * n0 + 8) := by omega
theorem om_d0702dcce3 {x0 x1 : Int} (h0 : 0 ≤ x0 ∧ x0 ≤ 1500) (h1 : 0 ≤ x1 ∧ x1 ≤ 15 * x0 + 0) : 0 ≤ x0 ∧ x0 < 4002 := by omega
theorem om_3af6ab4c7d {x0 : Int} (h0 : 0 ≤ x0 ∧ x0 ≤ 500) : 0 ≤ x0 ∧ x0 ≤ 501 := by omega
theorem om_6bb9f0972f {n0 : Nat} : 1 + 1 ≤ 40 * n0 + 8 := by omega
theorem om_91e91d0f69 {n0 : Nat} : 8 + (3 + 11) + 25 ≤ 28 * (40 * n0 + 8) := by omega
theorem om_14c5e94f1d {n0 : Nat} : 8 + (1 + 11) + 22 ≤ 28 * (40 * n0 + 8) := by omega
theorem om_2fbbc6575c {x0 x1 : Int} (h0 : 0 ≤ x0 ∧ x0 ≤ 15 * x1 + 2) (h1 : x1 < 1500) : 0 ≤ x0 ∧ x0 ≤ 23980 := by omega
theorem om_1b8bc4dd59 {x0 x1 : Int} (h0 : 0 ≤ x0 ∧ x0 ≤ 10 * x1 + 0) (h1 : x1 < 1500) : 0 ≤ x0 ∧ x0 ≤ 15980 := by omega
theorem om_a8374448b3 {x0 x1 : Int} (h0 : 0 ≤ x0 ∧ x0 ≤ 15 * x1 + 0) (h1 : x1 < 1500) : 0 ≤ x0 ∧ x0 ≤ 23980 := by omega
theorem om_0a282a2cf8 {x0 x1 x2 : Int} (h0 : 0 ≤ x0 ∧ x0 ≤ 60) (h1 : x1 < x2) (h2 : (0 : Int) ≤ x1) : (0 ≤ x1 ∨ (0 ≤ (-1 : Int) ∧ (-1 : Int) < x0)) ∧ x1 < x2 ∧ x0 ≤ 60 := by omega
theorem om_c34fc8f08b {n0 : Nat} : 2 + 1 ≤ 40 * n0 + 8 := by omega
theorem om_b712eaf788 {n0 : Nat} : 8 + (3 + 11) + 46 ≤ 28 * (40 * n0 + 8) := by omega
theorem om_211d81bad8 {x0 x1 x2 x3 : Int} (h0 : 0 ≤ x0 ∧ x1 + x0 ≤ x2) (h1 : x3 = x2) : (1 : Int) + ((0 : Int)) ≤ 1 + x3 - x1 - x0 := by omega
theorem om_413e830c37 {x0 x1 x2 : Int} (h0 : x0 = (x1) + (1 : Int)) (h1 : x1 < 1500) (h2 : x2 = x0) : x1 + 1 ≤ x2 ∧ x2 ≤ 1500 := by omega
theorem om_ed0943c3b0 {x0 x1 x2 x3 x4 : Int} (h0 : x0 = (x1) + (1 : Int)) (h1 : x2 = x0) (h2 : x3 ≤ x4 ∧ x4 ≤ x3 + 2) : x3 ≤ x4 ∧ x4 - 15 * x2 ≤ x3 - 15 * x1 := by omega
theorem om_4820e362bc {x0 x1 x2 x3 x4 : Int} (h0 : x0 = (x1) + (1 : Int)) (h1 : x2 = x0) (h2 : x3 = x4 + 1) : x4 ≤ x3 ∧ x3 - 10 * x2 ≤ x4 - 10 * x1 := by omega
theorem om_6a648d8dbc {x0 x1 x2 x3 x4 : Int} (h0 : x0 = (x1) + (1 : Int)) (h1 : x2 = x3) (h2 : x4 = x0) : x3 ≤ x2 ∧ x2 - 1 * x4 ≤ x3 - 1 * x1 := by omega
theorem om_d5149004fa {x0 x1 x2 x3 : Int} (h0 : x0 = x1) (h1 : x2 = x3) : x0 = x1 ∧ x2 = x3 := by omega
theorem om_bc6fc57d17 {x0 x1 : Int} (h0 : 0 ≤ x0 ∧ x0 ≤ 500) (h1 : x1 = x0) : x0 ≤ x1 ∧ x1 ≤ 500 := by omega
theorem om_b66186cd65 {x0 : Int} (h0 : 0 ≤ x0 ∧ x0 ≤ 1) (h1 : x0 = (0 : Int)) (h2 : x0 ≠ (0 : Int)) : False := by omega
theorem om_5829cebf50 {x0 : Int} (h0 : (0 : Int) ≤ x0) (h1 : x0 < (0 : Int)) : False := by omega
theorem om_1d2c7ad648 {x0 : Int} (h0 : 0 ≤ x0 ∧ x0 ≤ 60) : 0 ≤ x0 ∧ x0 ≤ 60 := by omega
theorem om_228557f1cf {x0 : Int} (h0 : x0 < (0 : Int)) (h1 : (0 : Int) ≤ x0) : False := by omega
theorem om_f30fc6227d {x0 x1 : Int} (h0 : 0 ≤ x0 ∧ x0 ≤ 60) (h1 : x1 < x0) : x1 < 60 := by omega
theorem om_f917b45286 {x0 x1 x2 x3 : Int} (h0 : 0 ≤ x0 ∧ x0 ≤ 60) (h1 : x1 < x2) (h2 : x3 < x0) (h3 : (0 : Int) ≤ x3) : (0 ≤ x1 ∨ (0 ≤ x3 ∧ x3 < x0)) ∧ x1 < x2 ∧ x0 ≤ 60 := by omega
theorem om_9d476c3a78 {x0 : Int} (h0 : x0 = (1 : Int)) (h1 : x0 = (0 : Int)) : False := by omega
theorem om_a9150ae9b6 {x0 : Int} {n1 : Nat} (h0 : 40 ≤ x0 + (n1 : Int)) : 40 ≤ x0 + (n1 : Int) := by omega
theorem om_86b09c9bac {x0 x1 : Int} (h0 : 0 ≤ x0 ∧ x0 ≤ 60) (h1 : x1 < x0) (h2 : (0 : Int) ≤ x1) : 0 ≤ x0 ∧ x0 ≤ 60 := by omega
theorem om_5a17daf06f {x0 x1 : Int} (h0 : x0 < x1) (h1 : (0 : Int) ≤ x0) : 0 ≤ x0 ∧ x0 < x1 := by omega
theorem om_811f6ec76a {n0 : Nat} : (40 * n0 + 6) + 1 ≤ 40 * n0 + 8 := by omega
theorem om_caa4db15ea {n0 : Nat} : 8 + (3 + 11) + 28 * (40 * n0 + 6) ≤ 28 * (40 * n0 + 8) := by omega
theorem om_47f5cdee41 {n0 : Nat} : 8 + (3 + 11) + 24 ≤ 28 * (40 * n0 + 8) := by omega
theorem om_6ad570a484 {x0 x1 x2 x3 x4 : Int} (h0 : 0 ≤ x0 ∧ x0 ≤ 15 * x1 + 2) (h1 : x2 = (x1) + (1 : Int)) (h2 : x2 + 1 ≤ x3 ∧ x3 ≤ 1500) (h3 : x0 ≤ x4 ∧ x4 - 15 * x3 ≤ x0 - 15 * x2) : 0 ≤ x4 ∧ x4 < 24000 := by omega
theorem om_6b2d8a3fe9 {n0 : Nat} : 8 + (2 + 11) + 0 ≤ 28 * (40 * n0 + 8) := by omega
theorem om_99b5e8925f {x0 x1 x2 x3 x4 : Int} (h0 : 0 ≤ x0 ∧ x0 ≤ 15 * x1 + 2) (h1 : x2 = (x1) + (1 : Int)) (h2 : x2 + 1 ≤ x3 ∧ x3 ≤ 1500) (h3 : x0 ≤ x4 ∧ x4 - 15 * x3 ≤ x0 - 15 * x2) : (x4) + (1 : Int) < 2147483648 := by omega
theorem om_57da220a2c {x0 x1 x2 x3 x4 : Int} (h0 : 0 ≤ x0 ∧ x0 ≤ 15 * x1 + 0) (h1 : x2 = (x1) + (1 : Int)) (h2 : x2 + 1 ≤ x3 ∧ x3 ≤ 1500) (h3 : x0 ≤ x4 ∧ x4 - 15 * x3 ≤ x0 - 15 * x2) : 0 ≤ x4 ∧ x4 < 24000 := by omega
theorem om_8d07b0f4c4 {x0 x1 : Int} (h0 : 0 ≤ x0 ∧ x0 ≤ 60) (h1 : x1 < x0) (h2 : (0 : Int) ≤ x1) : (1 : Int) = 5 ∨ (0 ≤ x1 ∧ x1 < 60) := by omega
theorem om_070d94274c {n0 : Nat} : 8 + (4 + 11) + 0 ≤ 28 * (40 * n0 + 8) := by omega
theorem om_d973dfe1cb {x0 x1 x2 x3 x4 x5 : Int} (h0 : 0 ≤ x0 ∧ x0 ≤ 10 * x1 + 0) (h1 : x2 = (x1) + (1 : Int)) (h2 : x2 + 1 ≤ x3 ∧ x3 ≤ 1500) (h3 : x0 ≤ x4 ∧ x4 - 10 * x3 ≤ x0 - 10 * x2) (h4 : x5 = x4) : 0 ≤ x5 ∧ x5 < 16000 := by omega
theorem om_92b6fe5fa9 {x0 x1 x2 x3 x4 x5 : Int} (h0 : 0 ≤ x0 ∧ x0 ≤ 10 * x1 + 0) (h1 : x0 ≤ x2 ∧ x2 - 10 * x3 ≤ x0 - 10 * x4) (h2 : x5 = x2) : -2147483648 ≤ (x5) + (1 : Int) := by omega
theorem om_366562be03 {x0 x1 x2 x3 x4 x5 : Int} (h0 : 0 ≤ x0 ∧ x0 ≤ 10 * x1 + 0) (h1 : x2 = (x1) + (1 : Int)) (h2 : x2 + 1 ≤ x3 ∧ x3 ≤ 1500) (h3 : x0 ≤ x4 ∧ x4 - 10 * x3 ≤ x0 - 10 * x2) (h4 : x5 = x4) : (x5) + (1 : Int) < 2147483648 := by omega
theorem om_b01590be12 {x0 x1 x2 x3 x4 x5 : Int} (h0 : 0 ≤ x0 ∧ x0 ≤ 10 * x1 + 0) (h1 : x0 ≤ x2 ∧ x2 - 10 * x3 ≤ x0 - 10 * x4) (h2 : x5 = x2) : 0 ≤ x5 := by omega
theorem om_0a296e6d98 {x0 x1 x2 x3 x4 : Int} (h0 : 0 ≤ x0 ∧ x1 + x0 ≤ x2) (h1 : x2 ≤ x3 ∧ x3 ≤ 500) (h2 : x4 = x3) : (1 : Int) ≤ 1 + x4 - x1 - x0 := by omega
theorem om_756853884c {x0 x1 x2 x3 : Int} (h0 : x0 = (x1) + (1 : Int)) (h1 : x0 + 1 ≤ x2 ∧ x2 ≤ 1500) (h2 : x3 = x2) : x1 + 1 ≤ x3 ∧ x3 ≤ 1500 := by omega
theorem om_5af3e01215 {x0 x1 x2 x3 x4 x5 x6 x7 : Int} (h0 : x0 = (x1) + (1 : Int)) (h1 : x2 ≤ x3 ∧ x3 - 15 * x4 ≤ x2 - 15 * x0) (h2 : x5 = (x3) + (1 : Int)) (h3 : x6 = x5) (h4 : x7 = x4) : x2 ≤ x6 ∧ x6 - 15 * x7 ≤ x2 - 15 * x1 := by omega
theorem om_5349c897ee {x0 x1 x2 x3 x4 x5 x6 x7 : Int} (h0 : x0 = (x1) + (1 : Int)) (h1 : x2 ≤ x3 ∧ x3 - 10 * x4 ≤ x2 - 10 * x0) (h2 : x5 = x3) (h3 : x6 = x4) (h4 : x7 = (x5) + (1 : Int)) : x2 ≤ x7 ∧ x7 - 10 * x6 ≤ x2 - 10 * x1 := by omega
theorem om_015b1a0cdd {x0 x1 x2 x3 x4 x5 x6 : Int} (h0 : x0 = (x1) + (1 : Int)) (h1 : x2 ≤ x3 ∧ x3 - 15 * x4 ≤ x2 - 15 * x0) (h2 : x5 = x4) (h3 : x6 = x3 + 1) : x2 ≤ x6 ∧ x6 - 15 * x5 ≤ x2 - 15 * x1 := by omega
theorem om_0b54e9eb95 {x0 x1 x2 x3 x4 x5 x6 : Int} (h0 : x0 = (x1) + (1 : Int)) (h1 : x2 ≤ x3 ∧ x3 - 1 * x4 ≤ x2 - 1 * x0) (h2 : x5 = x3) (h3 : x6 = x4) : x2 ≤ x5 ∧ x5 - 1 * x6 ≤ x2 - 1 * x1 := by omega
theorem om_69f55e9431 {x0 x1 x2 x3 x4 x5 : Int} (h0 : x0 = x1 ∧ x2 = x3) (h1 : x4 = x0) (h2 : x5 = x2) : x4 = x1 ∧ x5 = x3 := by omega
theorem om_06b267353f {x0 x1 x2 : Int} (h0 : x0 ≤ x1 ∧ x1 ≤ 500) (h1 : x2 = x1) : x0 ≤ x2 ∧ x2 ≤ 500 := by omega
theorem om_32d84a698c {x0 x1 x2 x3 x4 : Int} {n5 : Nat} (h0 : x0 ≤ x1 ∧ x1 - 10 * x2 ≤ x0 - 10 * x3) (h1 : x4 = x1) (h2 : (n5 : Int) < x0) : (n5 : Int) < x4 := by omega
set_option maxHeartbeats 16000000 in
set_option maxRecDepth 100000 in
theorem c_m_named0 (l : Launch) (n : Nat) (ihE : ∀ m, n = m + 1 → Cx_expression l m) (dC : Nat → ClassId) (dI : Nat → Nat → Nat) (cI cB cZ cJ cR : ClassId) (tb : Nat → Nat) (sz : Nat) (ad : Nat → Nat) (N : Nat) (v : MS)  (zn : 40 ≤ (v.1 0 48).toInt + (n : Int)) (zt : 0 ≤ (v.1 0 47).toInt ∧ (v.1 0 47).toInt ≤ 1500) (zop : 0 ≤ (v.1 0 48).toInt ∧ (v.1 0 48).toInt ≤ 40) (zkn : 0 ≤ (v.1 0 30).toInt ∧ (v.1 0 30).toInt ≤ 500) (zhi : 0 ≤ (v.1 0 33).toInt ∧ (v.1 0 33).toInt ≤ 500) (zs : 0 ≤ (v.1 0 32).toInt ∧ (v.1 0 30).toInt + (v.1 0 32).toInt ≤ (v.1 0 33).toInt) (zws : 0 ≤ (v.1 0 12).toInt ∧ (v.1 0 12).toInt ≤ 15 * (v.1 0 47).toInt + 2) (zos : 0 ≤ (v.1 0 15).toInt ∧ (v.1 0 15).toInt ≤ 10 * (v.1 0 47).toInt + 0) (zfs : 0 ≤ (v.1 0 43).toInt ∧ (v.1 0 43).toInt ≤ 15 * (v.1 0 47).toInt + 0) (zcs : 0 ≤ (v.1 0 39).toInt ∧ (v.1 0 39).toInt ≤ 1 * (v.1 0 47).toInt + 0) (zgl : 0 ≤ (v.1 0 27).toInt ∧ (v.1 0 27).toInt ≤ 60) (hT : TI v) (a29 : AR 29 0 1500 v) (a23 : AR 23 0 1500 v) (a35 : AR 35 0 1500 v) (a37 : AR 37 0 23999 v) (a38 : AR 38 0 15999 v) (a40 : AR 40 0 23999 v) (fx : FX v) (gf : GF v) : vx_Met l yX13_named (Cond.code yX13_named cX13_named 7 none :: tw_W) ({ frames := 40 * n + 8, cells := 0, slots := 0, locals := 28 * (40 * n + 8) }) (pc_ (dC, dI) (tyS cI cB cZ cJ cR) tb (mW ad N cI cZ cJ v) sz [.ref (ad 0), .int 0]) (qv_ (dC, dI) (mW ad N cI cZ cJ v) sz (fun (u : MS) => FG [12, 15, 32, 33, 39, 43, 44, 45, 47, 48, 49, 50, 51] [0, 11, 13, 14, 35, 36, 37, 38, 40, 41, 42] v u ∧ (Q_m_named0 (pME n) v false u) ∧ ((v.1 0 47).toInt + 1 ≤ (u.1 0 47).toInt ∧ (u.1 0 47).toInt ≤ 1500) ∧ ((v.1 0 49).toInt ≠ (v.1 0 47).toInt) ∧ ((v.1 0 12).toInt ≤ (u.1 0 12).toInt ∧ (u.1 0 12).toInt - 15 * (u.1 0 47).toInt ≤ (v.1 0 12).toInt - 15 * (v.1 0 47).toInt) ∧ ((v.1 0 15).toInt ≤ (u.1 0 15).toInt ∧ (u.1 0 15).toInt - 10 * (u.1 0 47).toInt ≤ (v.1 0 15).toInt - 10 * (v.1 0 47).toInt) ∧ ((v.1 0 43).toInt ≤ (u.1 0 43).toInt ∧ (u.1 0 43).toInt - 15 * (u.1 0 47).toInt ≤ (v.1 0 43).toInt - 15 * (v.1 0 47).toInt) ∧ ((v.1 0 39).toInt ≤ (u.1 0 39).toInt ∧ (u.1 0 39).toInt - 1 * (u.1 0 47).toInt ≤ (v.1 0 39).toInt - 1 * (v.1 0 47).toInt) ∧ ((u.1 0 32).toInt = (v.1 0 32).toInt ∧ (u.1 0 48).toInt = (v.1 0 48).toInt) ∧ ((v.1 0 33).toInt ≤ (u.1 0 33).toInt ∧ (u.1 0 33).toInt ≤ 500) ∧ (∀ j : Nat, (j : Int) < (v.1 0 12).toInt → (u.1 11) j = (v.1 11) j) ∧ (∀ j : Nat, (j : Int) < (v.1 0 15).toInt → (u.1 13) j = (v.1 13) j) ∧ (∀ j : Nat, (j : Int) < (v.1 0 15).toInt → (u.1 14) j = (v.1 14) j) ∧ (∀ j : Nat, (j : Int) < (v.1 0 39).toInt → (u.1 36) j = (v.1 36) j) ∧ (∀ j : Nat, (j : Int) < (v.1 0 39).toInt → (u.1 38) j = (v.1 38) j) ∧ (AR 35 0 1500 u) ∧ (AR 37 0 23999 u) ∧ (AR 38 0 15999 u) ∧ (AR 40 0 23999 u) ∧ (FX u) ∧ (IV v → IV u) ∧ (SGE (v.1 0 30).toInt (v.1 0 28).toInt (v.1 0 27).toInt (u.1 13) (u.1 14) (u.1 36) (u.1 38) (v.1 0 15).toNatClampNeg (u.1 0 15).toNatClampNeg (v.1 0 39).toNatClampNeg (u.1 0 39).toNatClampNeg [] [false] (1 + (u.1 0 33).toInt - (v.1 0 30).toInt - (v.1 0 32).toInt) [])) (fun (u : MS) => (mW ad N cI cZ cJ u))) (qxm (dC, dI) (mW ad N cI cZ cJ v) sz (fun (u : MS) => (mW ad N cI cZ cJ u)) (fun (u : MS) => Fr v u ∧ (IV v → IV u) ∧ (Q_m_named0 (pME n) v true u))) 0 0 (va_A (mW ad N cI cZ cJ v) sz) := by
  refine vx_ofW (cc := cX13_named) (maxL := 7) (ret := none) (by decide) rfl ?_
  intro p e s m args below meth c s₁ B hml hnt hv
  obtain ⟨rfl, hsz, hP, hKK, hD0, hFx⟩ := hv
  have hK := hKK.1
  have hx := B.exec
  have hb := B.bytes
  have hr := B.returns
  have ht : ∀ w ∈ tw_W, w.before _ s = true := fun w h => atoms_spec (ws := Cond.code yX13_named cX13_named 7 none :: tw_W) B.pre w (List.mem_cons_of_mem _ h)
  have hown : s.vm.findClass RX13 = some m.cls := findClass_of_methodNamed B.named
  have hlocks := B.notSynchronized
  subst hsz
  unfold qv_ qxm
  have hD := hD0.self (sz := s.heap.size)
  generalize hAe : va_A (mW ad N cI cZ cJ v) s.heap.size = A at hD hFx ⊢
  have hA : ∀ q : Nat, s.heap.size ≤ q → A q := fun q h => by rw [← hAe]; exact Or.inr h
  have hS : va_S A s.heap s.heap [] := va_S.rf
  have hl := lv_entry ([.ref (ad 0), .int 0]) (n := 7) (Nat.le_of_ble_eq_true rfl)
  rw [lg_entry_eq]
  generalize (lg_sl ([.ref (ad 0), .int 0]) ++ List.replicate (7 - (lg_sl ([.ref (ad 0), .int 0])).length) Slot.unset).toArray = ls at hl ⊢
  have hl : lv_has ls 7 [(0, .ref (ad 0)), (1, .int 0)] := hl
  have sg1 : SGE (v.1 0 30).toInt (v.1 0 28).toInt (v.1 0 27).toInt (v.1 13) (v.1 14) (v.1 36) (v.1 38) (v.1 0 15).toNatClampNeg (v.1 0 15).toNatClampNeg (v.1 0 39).toNatClampNeg (v.1 0 39).toNatClampNeg [] [] (1 + (v.1 0 33).toInt - (v.1 0 30).toInt - (v.1 0 32).toInt) [] := SGE.nil rfl (lenle (0 : Int) (by decide) (om_89d2241185 zs))
  refine lv_aload_n hx hb dX13_named_0 rfl (lv_at hl 0 rfl) ?_
  refine va_get (D := (dC, dI)) (ci := 16) (fs := mF ad v) (v := .int (v.1 0 47)) (C := RX13) (T := TX13) (N := 124) hx hb ht itX13 hown hK hP 0 rfl rfl 47 (by decide) (ht _ tw_24) (fun _ h9 => h9) rfl dX13_named_1 ?_
  refine lv_istore_n (lv' := [(2, .int (v.1 0 47)), (0, .ref (ad 0)), (1, .int 0)]) hx hb dX13_named_4 rfl hl (by decide) rfl (fun ls hl => ?_)
  refine lv_aload_n hx hb dX13_named_5 rfl (lv_at hl 1 rfl) ?_
  refine lv_aload_n hx hb dX13_named_6 rfl (lv_at hl 1 rfl) ?_
  refine va_get (D := (dC, dI)) (ci := 16) (fs := mF ad v) (v := .int (v.1 0 47)) (C := RX13) (T := TX13) (N := 124) hx hb ht itX13 hown hK hP 0 rfl rfl 47 (by decide) (ht _ tw_24) (fun _ h9 => h9) rfl dX13_named_7 ?_
  refine lv_iconst (v := 1) hx hb dX13_named_10 (by decide) ?_
  refine lv_iadd hx hb dX13_named_11 ?_
  have z2 : ((v.1 0 47) + (1 : Int32)).toInt = ((v.1 0 47).toInt) + (1 : Int) := add_z rfl (show (1 : Int32).toInt = (1 : Int) by decide) (om_3eca9b17a5 zws) (om_27eb55d06c zt)
  refine lv_bipush (v := 91) hx hb dX13_named_12 (by decide) ?_
  refine cu_i (rn_V (n := 2) (As := [.int ((v.1 0 47) + (1 : Int32)), .int 91]) (rest := []) hx hb hml hown ht hKK hFx hP hD hS hA (c_m_isSign l dC dI cI cB cZ cJ cR tb s.heap.size ad N v ((v.1 0 47) + (1 : Int32)) (91 : Int32) (show 0 ≤ ((v.1 0 47) + (1 : Int32)).toInt ∧ ((v.1 0 47) + (1 : Int32)).toInt < 4002 from (om_6662b95370 zt zfs z2))) tw_28 tw_29 (by decide +kernel) rfl rfl ⟨show 0 + 1 ≤ 40 * n + 8 from om_bf396309a0, show 8 + (3 + 11) + 0 ≤ 28 * (40 * n + 8) from om_6567089ecb⟩ (List.range (mW ad N cI cZ cJ v).length) (rg_map _) (mW_nd _ _ _ _ _ _) rfl rfl rfl rfl hl.1 rfl (Nat.le_of_ble_eq_true rfl) dX13_named_14 ⟨Nat.le_of_ble_eq_true rfl, Nat.le_of_ble_eq_true rfl⟩) hP hD hS hA (fun r5 u4 H locs hw3 hP hD hS => ?_)
  obtain ⟨rfl, ex3, b3, e3⟩ := hw3
  refine W.widen (k := 0) (n := 0) (Nat.le_refl _) (Nat.le_refl _) ?_
  refine lv_istore_n (lv' := [(3, .int r5), (2, .int (v.1 0 47)), (0, .ref (ad 0)), (1, .int 0)]) hx hb dX13_named_17 rfl hl (by decide) rfl (fun ls hl => ?_)
  refine lv_aload_n hx hb dX13_named_18 rfl (lv_at hl 2 rfl) ?_
  refine lv_iload_n hx hb dX13_named_19 rfl (lv_at hl 1 rfl) ?_
  refine cu_i (rn_V (n := 1) (As := [.int (v.1 0 47)]) (rest := []) hx hb hml hown ht hKK hFx hP hD hS hA (c_m_local l dC dI cI cB cZ cJ cR tb H.size ad N v (v.1 0 47) (show 0 ≤ (v.1 0 47).toInt ∧ (v.1 0 47).toInt < 4002 from (om_d0702dcce3 zt zfs)) (show 0 ≤ (v.1 0 30).toInt ∧ (v.1 0 30).toInt ≤ 501 from (om_3af6ab4c7d zkn)) (show TI v from FG.ti (fl := pfl) (al := pal) (FG.rf _) (by decide) (by decide) hT) (show AR 29 0 1500 v from a29)) tw_98 tw_99 (by decide +kernel) rfl rfl ⟨show 1 + 1 ≤ 40 * n + 8 from om_6bb9f0972f, show 8 + (3 + 11) + 25 ≤ 28 * (40 * n + 8) from om_91e91d0f69⟩ (List.range (mW ad N cI cZ cJ v).length) (rg_map _) (mW_nd _ _ _ _ _ _) rfl rfl rfl rfl hl.1 rfl (Nat.le_of_ble_eq_true rfl) dX13_named_20 ⟨Nat.le_of_ble_eq_true rfl, Nat.le_of_ble_eq_true rfl⟩) hP hD hS hA (fun r8 u7 H locs hw6 hP hD hS => ?_)
  obtain ⟨rfl, ex6, a6, b6⟩ := hw6
  refine W.widen (k := 0) (n := 0) (Nat.le_refl _) (Nat.le_refl _) ?_
  refine lv_istore (lv' := [(4, .int r8), (3, .int r5), (2, .int (v.1 0 47)), (0, .ref (ad 0)), (1, .int 0)]) hx hb dX13_named_23 hl (by decide) rfl (fun ls hl => ?_)
  refine lv_iload hx hb dX13_named_25 (lv_at hl 0 rfl) ?_
  refine lv_if_ge (tgt := 38) hx hb dX13_named_27 (by decide) (fun h9 => ?_) (fun h9 => ?_)
  · have z10 : (0 : Int) ≤ r8.toInt := le_z (show (0 : Int32).toInt = (0 : Int) by decide) rfl h9
    refine lv_iconst (v := -1) hx hb dX13_named_38 (by decide) ?_
    refine lv_istore (lv' := [(5, .int (-1)), (4, .int r8), (3, .int r5), (2, .int (v.1 0 47)), (0, .ref (ad 0)), (1, .int 0)]) hx hb dX13_named_39 hl (by decide) rfl (fun ls hl => ?_)
    refine lv_iload hx hb dX13_named_41 (lv_at hl 1 rfl) ?_
    refine lv_if_ge (tgt := 51) hx hb dX13_named_43 (by decide) (fun h11 => ?_) (fun h11 => ?_)
    · have z12 : (0 : Int) ≤ r8.toInt := le_z (show (0 : Int32).toInt = (0 : Int) by decide) rfl h11
      refine lv_iload_n hx hb dX13_named_51 rfl (lv_at hl 2 rfl) ?_
      refine lv_iload hx hb dX13_named_52 (lv_at hl 1 rfl) ?_
      refine lv_if_ge (tgt := 71) hx hb dX13_named_54 (by decide) (fun h13 => ?_) (fun h13 => ?_)
      · have z14 : (0 : Int) ≤ r8.toInt := le_z (show (0 : Int32).toInt = (0 : Int) by decide) rfl h13
        refine lv_iconst (v := 0) hx hb dX13_named_71 (by decide) ?_
        refine lv_icmp_eq (tgt := 85) hx hb dX13_named_72 (by decide) (fun h15 => ?_) (fun h15 => ?_)
        · have z16 : r5.toInt = (0 : Int) := eq_z rfl (show (0 : Int32).toInt = (0 : Int) by decide) h15
          refine lv_aload_n hx hb dX13_named_85 rfl (lv_at hl 4 rfl) ?_
          refine cux_v (rx_V (n := 0) (As := []) (rest := []) hx hb hml hown ht hKK hFx hP hD hS hA (c_m_take l dC dI cI cB cZ cJ cR tb H.size ad N v  (show 0 ≤ (v.1 0 47).toInt ∧ (v.1 0 47).toInt ≤ 1500 from (om_2fb699b811 zt zfs))) tw_32 tw_33 (by decide +kernel) rfl rfl ⟨show 1 + 1 ≤ 40 * n + 8 from om_6bb9f0972f, show 8 + (1 + 11) + 22 ≤ 28 * (40 * n + 8) from om_14c5e94f1d⟩ (List.range (mW ad N cI cZ cJ v).length) (rg_map _) (mW_nd _ _ _ _ _ _) rfl rfl rfl rfl hl.1 rfl (Nat.le_of_ble_eq_true rfl) dX13_named_86 ⟨Nat.le_of_ble_eq_true rfl, Nat.le_of_ble_eq_true rfl⟩) hP hD hS hA (fun u9 ce9 q9 H locs hx9 hP hD hS hc9 hv9 hf9 => ?_) (fun u18 H locs hw17 hP hD hS => ?_)
          · exact vx_out (fun x h9 => (hnt x h9).elim) hlocks hc9 hv9 hf9 (fun t9 ht9 hv8 => ⟨u9, ⟨FG.tr (FG.rf _) hx9.1, fun hiv => hx9.2.1 hiv, ⟨zt, zop, zkn, zhi, zs, zws, zos, zfs, zcs, zgl, r5, ex3, ⟨b3, e3⟩, r8, ex6, ⟨a6, b6⟩, (Or.inl ⟨z10, z12, z14, (Or.inl ⟨z16, (Or.inl ⟨u9, hx9.2.2, rfl, rfl⟩)⟩)⟩)⟩⟩, ⟨rfl, by rw [ht9]; exact hP, hD⟩, hS.F ht9⟩) hS.2.2 (Nat.le_refl _) (Nat.le_refl _)
          obtain ⟨rfl, ex17, a17, b17⟩ := hw17
          have z20 : ((v.1 0 47) + (1 : Int32)).toInt = ((v.1 0 47).toInt) + (1 : Int) := add_z rfl (show (1 : Int32).toInt = (1 : Int) by decide) (om_3eca9b17a5 zws) (om_27eb55d06c zt)
          have hP : va_P (dC, dI) vwCl (mW ad N cI cZ cJ (wA v 0 47 ((v.1 0 47) + (1 : Int32)))) H := hP
          have hD : va_D A (mW ad N cI cZ cJ (wA v 0 47 ((v.1 0 47) + (1 : Int32)))) := hD
          refine W.widen (k := 0) (n := 0) (Nat.le_refl _) (Nat.le_refl _) ?_
          refine lv_iload_n hx hb dX13_named_89 rfl (lv_at hl 2 rfl) ?_
          refine lv_if_eq (tgt := 99) hx hb dX13_named_90 (by decide) (fun h21 => ?_) (fun h21 => ?_)
          · have z22 : r5.toInt = (0 : Int) := eq_z rfl (show (0 : Int32).toInt = (0 : Int) by decide) h21
            refine lv_iload_n hx hb dX13_named_99 rfl (lv_at hl 5 rfl) ?_
            refine lv_if_eq (tgt := 110) hx hb dX13_named_100 (by decide) (fun _ => ?_) (fun k23 => absurd k23 (by decide))
            refine lv_iconst (v := -1) hx hb dX13_named_110 (by decide) ?_
            refine lv_istore (lv' := [(6, .int (-1)), (5, .int (-1)), (4, .int r8), (3, .int r5), (2, .int (v.1 0 47)), (0, .ref (ad 0)), (1, .int 0)]) hx hb dX13_named_111 hl (by decide) rfl (fun ls hl => ?_)
            refine lv_iload hx hb dX13_named_113 (lv_at hl 0 rfl) ?_
            refine lv_iconst (v := -1) hx hb dX13_named_115 (by decide) ?_
            refine lv_icmp_eq (tgt := 131) hx hb dX13_named_116 (by decide) (fun _ => ?_) (fun k24 => absurd k24 (by decide))
            refine lv_iload_n hx hb dX13_named_131 rfl (lv_at hl 3 rfl) ?_
            refine lv_if_eq (tgt := 165) hx hb dX13_named_132 (by decide) (fun h25 => ?_) (fun h25 => ?_)
            · have z26 : r5.toInt = (0 : Int) := eq_z rfl (show (0 : Int32).toInt = (0 : Int) by decide) h25
              refine lv_aload_n hx hb dX13_named_165 rfl (lv_at hl 5 rfl) ?_
              refine lv_iload hx hb dX13_named_166 (lv_at hl 2 rfl) ?_
              refine lv_iload hx hb dX13_named_168 (lv_at hl 1 rfl) ?_
              refine cu_v (rn_V (n := 2) (As := [.int r8, .int (-1)]) (rest := []) hx hb hml hown ht hKK hFx hP hD hS hA (c_m_fetch l dC dI cI cB cZ cJ cR tb H.size ad N (wA v 0 47 ((v.1 0 47) + (1 : Int32))) r8 (-1 : Int32) (show 0 ≤ (v.1 0 12).toInt ∧ (v.1 0 12).toInt ≤ 23980 from (om_2fbbc6575c zws a17)) (show 0 ≤ (v.1 0 15).toInt ∧ (v.1 0 15).toInt ≤ 15980 from (om_1b8bc4dd59 zos a17)) (show 0 ≤ (v.1 0 43).toInt ∧ (v.1 0 43).toInt ≤ 23980 from (om_a8374448b3 zfs a17)) (show (0 ≤ r8.toInt ∨ (0 ≤ (-1 : Int) ∧ (-1 : Int) < (v.1 0 27).toInt)) ∧ r8.toInt < (v.1 0 30).toInt ∧ (v.1 0 27).toInt ≤ 60 from (om_0a282a2cf8 zgl b6 z10)) (show AR 40 0 23999 (wA v 0 47 ((v.1 0 47) + (1 : Int32))) from (AR.o a40 (by decide))) (show FX (wA v 0 47 ((v.1 0 47) + (1 : Int32))) from (FX.o fx (by decide) (by decide))) (show GF (wA v 0 47 ((v.1 0 47) + (1 : Int32))) from (GF.of gf (by decide)))) tw_92 tw_93 (by decide +kernel) rfl rfl ⟨show 2 + 1 ≤ 40 * n + 8 from om_c34fc8f08b, show 8 + (3 + 11) + 46 ≤ 28 * (40 * n + 8) from om_b712eaf788⟩ (List.range (mW ad N cI cZ cJ (wA v 0 47 ((v.1 0 47) + (1 : Int32)))).length) (rg_map _) (mW_nd _ _ _ _ _ _) rfl rfl rfl rfl hl.1 rfl (Nat.le_of_ble_eq_true rfl) dX13_named_170 ⟨Nat.le_of_ble_eq_true rfl, Nat.le_of_ble_eq_true rfl⟩) hP hD hS hA (fun u28 H locs hw27 hP hD hS => ?_)
              obtain ⟨fr27, ex27, pw27, po27, pf27, kc27, ko27, kg27, a4027, fx27, iv27, sg27⟩ := hw27
              have pw27 : (v.1 0 12).toInt ≤ (u28.1 0 12).toInt ∧ (u28.1 0 12).toInt ≤ (v.1 0 12).toInt + 2 := pw27
              have po27 : (u28.1 0 15).toInt = (v.1 0 15).toInt + 1 := po27
              have pf27 : (v.1 0 43).toInt ≤ (u28.1 0 43).toInt ∧ (u28.1 0 43).toInt ≤ (v.1 0 43).toInt + 2 := pf27
              have kc27 : ∀ j : Nat, (j : Int) < (v.1 0 12).toInt → (u28.1 11) j = (v.1 11) j := kc27
              have ko27 : ∀ j : Nat, (j : Int) < (v.1 0 15).toInt → (u28.1 13) j = (v.1 13) j := ko27
              have kg27 : ∀ j : Nat, (j : Int) < (v.1 0 15).toInt → (u28.1 14) j = (v.1 14) j := kg27
              have a4027 : AR 40 0 23999 u28 := a4027
              have fx27 : FX u28 := fx27
              have iv27 : IV (wA v 0 47 ((v.1 0 47) + (1 : Int32))) → IV u28 := iv27
              have sg27 : SGE (v.1 0 30).toInt (v.1 0 28).toInt (v.1 0 27).toInt (u28.1 13) (u28.1 14) (u28.1 36) (u28.1 38) (v.1 0 15).toNatClampNeg (u28.1 0 15).toNatClampNeg (v.1 0 39).toNatClampNeg (u28.1 0 39).toNatClampNeg [] [false] ((1 : Int)) [] := sg27
              have q30 : (u28.1 0 33).toInt = (v.1 0 33).toInt := congrArg Int32.toInt ((fr27.2.1 33 (by decide)).trans (show (wA v 0 47 ((v.1 0 47) + (1 : Int32))).1 0 33 = (v.1 0 33) by rfl))
              have sg31 : SGE (v.1 0 30).toInt (v.1 0 28).toInt (v.1 0 27).toInt (u28.1 13) (u28.1 14) (u28.1 36) (u28.1 38) (v.1 0 15).toNatClampNeg (u28.1 0 15).toNatClampNeg (v.1 0 39).toNatClampNeg (u28.1 0 39).toNatClampNeg [] [false] (1 + (u28.1 0 33).toInt - (v.1 0 30).toInt - (v.1 0 32).toInt) [] := SGE.cat [] (SGE.to sg1 (kzN ko27) (kzN kg27) (fun j9 _ _ => congrFun (fr27.2.2 36 (by decide)) j9) (fun j9 _ _ => congrFun (fr27.2.2 38 (by decide)) j9) rfl rfl (Int.le_refl _)) (SGE.par sg27 rfl rfl rfl) rfl rfl (show 1 + (v.1 0 33).toInt - (v.1 0 30).toInt - (v.1 0 32).toInt ≤ 1 + (u28.1 0 33).toInt - (v.1 0 30).toInt - (v.1 0 32).toInt from (om_675629bfc5 q30)) (cat_le (by decide) (om_211d81bad8 zs q30))
              refine W.widen (k := 0) (n := 0) (Nat.le_refl _) (Nat.le_refl _) ?_
              refine lv_iload_n hx hb dX13_named_173 rfl (lv_at hl 6 rfl) ?_
              refine lv_if_eq (tgt := 182) hx hb dX13_named_174 (by decide) (fun _ => ?_) (fun k32 => absurd k32 (by decide))
              have q33 : (u28.1 0 47).toInt = ((v.1 0 47) + (1 : Int32)).toInt := congrArg Int32.toInt ((fr27.2.1 47 (by decide)).trans (show (wA v 0 47 ((v.1 0 47) + (1 : Int32))).1 0 47 = ((v.1 0 47) + (1 : Int32)) by rfl))
              have q34 : (u28.1 0 39).toInt = (v.1 0 39).toInt := congrArg Int32.toInt ((fr27.2.1 39 (by decide)).trans (show (wA v 0 47 ((v.1 0 47) + (1 : Int32))).1 0 39 = (v.1 0 39) by rfl))
              have q35 : (u28.1 0 32).toInt = (v.1 0 32).toInt := congrArg Int32.toInt ((fr27.2.1 32 (by decide)).trans (show (wA v 0 47 ((v.1 0 47) + (1 : Int32))).1 0 32 = (v.1 0 32) by rfl))
              have q36 : (u28.1 0 48).toInt = (v.1 0 48).toInt := congrArg Int32.toInt ((fr27.2.1 48 (by decide)).trans (show (wA v 0 47 ((v.1 0 47) + (1 : Int32))).1 0 48 = (v.1 0 48) by rfl))
              refine vx_ret ?_
              exact W.vret hx hb hr (fun t ht9 hW => ⟨⟨u28, rfl, ⟨(FG.tr (FG.f (FG.rf _) ((v.1 0 47) + (1 : Int32)) (by decide)) (FG.up fr27 (by decide) (by decide))), ⟨zt, zop, zkn, zhi, zs, zws, zos, zfs, zcs, zgl, r5, ex3, ⟨b3, e3⟩, r8, ex6, ⟨a6, b6⟩, (Or.inl ⟨z10, z12, z14, (Or.inl ⟨z16, (Or.inr (⟨ex17, ⟨a17, b17⟩, z22, z26, u28, ex27, ⟨fr27, pw27, po27, pf27⟩, rfl, rfl⟩))⟩)⟩)⟩, (show (v.1 0 47).toInt + 1 ≤ (u28.1 0 47).toInt ∧ (u28.1 0 47).toInt ≤ 1500 from (om_413e830c37 z2 a17 q33)), (show (v.1 0 49).toInt ≠ (v.1 0 47).toInt from (om_32294a9ce4 b17)), (show (v.1 0 12).toInt ≤ (u28.1 0 12).toInt ∧ (u28.1 0 12).toInt - 15 * (u28.1 0 47).toInt ≤ (v.1 0 12).toInt - 15 * (v.1 0 47).toInt from (om_ed0943c3b0 z2 q33 pw27)), (show (v.1 0 15).toInt ≤ (u28.1 0 15).toInt ∧ (u28.1 0 15).toInt - 10 * (u28.1 0 47).toInt ≤ (v.1 0 15).toInt - 10 * (v.1 0 47).toInt from (om_4820e362bc z2 q33 po27)), (show (v.1 0 43).toInt ≤ (u28.1 0 43).toInt ∧ (u28.1 0 43).toInt - 15 * (u28.1 0 47).toInt ≤ (v.1 0 43).toInt - 15 * (v.1 0 47).toInt from (om_ed0943c3b0 z2 q33 pf27)), (show (v.1 0 39).toInt ≤ (u28.1 0 39).toInt ∧ (u28.1 0 39).toInt - 1 * (u28.1 0 47).toInt ≤ (v.1 0 39).toInt - 1 * (v.1 0 47).toInt from (om_6a648d8dbc z2 q34 q33)), (show (u28.1 0 32).toInt = (v.1 0 32).toInt ∧ (u28.1 0 48).toInt = (v.1 0 48).toInt from (om_d5149004fa q35 q36)), (show (v.1 0 33).toInt ≤ (u28.1 0 33).toInt ∧ (u28.1 0 33).toInt ≤ 500 from (om_bc6fc57d17 zhi q30)), (fun (j9 : Nat) hj9 => (kc27 j9 (om_4fe904e9bf hj9))), (fun (j9 : Nat) hj9 => (ko27 j9 (om_4fe904e9bf hj9))), (fun (j9 : Nat) hj9 => (kg27 j9 (om_4fe904e9bf hj9))), (fun (j9 : Nat) hj9 => (congrFun (fr27.2.2 36 (by decide)) j9)), (fun (j9 : Nat) hj9 => (congrFun (fr27.2.2 38 (by decide)) j9)), (show AR 35 0 1500 u28 from AR.fr (fl := [12, 15, 43]) (al := [0, 11, 13, 14, 40, 41, 42]) fr27 (by decide) (AR.o a35 (by decide))), (show AR 37 0 23999 u28 from AR.fr (fl := [12, 15, 43]) (al := [0, 11, 13, 14, 40, 41, 42]) fr27 (by decide) (AR.o a37 (by decide))), (show AR 38 0 15999 u28 from AR.fr (fl := [12, 15, 43]) (al := [0, 11, 13, 14, 40, 41, 42]) fr27 (by decide) (AR.o a38 (by decide))), a4027, fx27, (fun hiv => (iv27 (IV.o hiv (by decide)))), (SGE.mono (SGE.setB sg31 rfl) (show 1 + (u28.1 0 33).toInt - (v.1 0 30).toInt - (v.1 0 32).toInt ≤ 1 + (u28.1 0 33).toInt - (v.1 0 30).toInt - (v.1 0 32).toInt from om_e96b194f74))⟩, by rw [ht9]; exact hP, hD⟩, hS.F ht9⟩) hS.2.2 dX13_named_182
            · have z37 : r5.toInt ≠ (0 : Int) := ne_z rfl (show (0 : Int32).toInt = (0 : Int) by decide) h25
              exact False.elim (om_b66186cd65 e3 z16 z37)
          · have z38 : r5.toInt ≠ (0 : Int) := ne_z rfl (show (0 : Int32).toInt = (0 : Int) by decide) h21
            exact False.elim (om_b66186cd65 e3 z16 z38)
        · have z39 : r5.toInt ≠ (0 : Int) := ne_z rfl (show (0 : Int32).toInt = (0 : Int) by decide) h15
          refine lv_aload_n hx hb dX13_named_75 rfl (lv_at hl 4 rfl) ?_
          refine lv_iconst (v := 3) hx hb dX13_named_76 (by decide) ?_
          refine lv_aload_n hx hb dX13_named_77 rfl (lv_at hl 4 rfl) ?_
          refine va_get (D := (dC, dI)) (ci := 16) (fs := mF ad v) (v := .int (v.1 0 47)) (C := RX13) (T := TX13) (N := 124) hx hb ht itX13 hown hK hP 0 rfl rfl 47 (by decide) (ht _ tw_24) (fun _ h9 => h9) rfl dX13_named_78 ?_
          refine cu_r (rn_V (n := 2) (As := [.int 3, .int (v.1 0 47)]) (rest := []) hx hb hml hown ht hKK hFx hP hD hS hA (c_m_fail l dC dI cI cB cZ cJ cR tb H.size ad N v (3 : Int32) (v.1 0 47) (show 0 ≤ (v.1 0 47).toInt ∧ (v.1 0 47).toInt < 4002 from (om_d0702dcce3 zt zfs))) tw_25 tw_26 (by decide +kernel) rfl rfl ⟨show 0 + 1 ≤ 40 * n + 8 from om_bf396309a0, show 8 + (3 + 11) + 0 ≤ 28 * (40 * n + 8) from om_6567089ecb⟩ (List.range (mW ad N cI cZ cJ v).length) (rg_map _) (mW_nd _ _ _ _ _ _) rfl rfl rfl rfl hl.1 rfl (Nat.le_of_ble_eq_true rfl) dX13_named_81 ⟨Nat.le_of_ble_eq_true rfl, Nat.le_of_ble_eq_true rfl⟩) hP hD hS hA (fun u41 H locs hw40 hP hD hS => ?_)
          obtain rfl := hw40
          have hP : va_P (dC, dI) vwCl (mW ad N cI cZ cJ (wA (wA v 0 50 (3 : Int32)) 0 51 ((v.1 7) (v.1 0 47).toNatClampNeg))) H := hP
          have hD : va_D A (mW ad N cI cZ cJ (wA (wA v 0 50 (3 : Int32)) 0 51 ((v.1 7) (v.1 0 47).toNatClampNeg))) := hD
          refine W.widen (k := 0) (n := 0) (Nat.le_refl _) (Nat.le_refl _) ?_
          obtain ⟨ce9, hc9, hv9, hf9⟩ := halt_at hK hP
          refine um_athrow hx hb dX13_named_84 ?_
          exact vx_out (fun x h9 => (hnt x h9).elim) hlocks hc9 hv9 hf9 (fun t9 ht9 hv8 => ⟨(wA (wA v 0 50 (3 : Int32)) 0 51 ((v.1 7) (v.1 0 47).toNatClampNeg)), ⟨(FG.f (FG.f (FG.rf _) (3 : Int32) (by decide)) ((v.1 7) (v.1 0 47).toNatClampNeg) (by decide)), fun hiv => (IV.o (IV.o hiv (by decide)) (by decide)), ⟨zt, zop, zkn, zhi, zs, zws, zos, zfs, zcs, zgl, r5, ex3, ⟨b3, e3⟩, r8, ex6, ⟨a6, b6⟩, (Or.inl ⟨z10, z12, z14, (Or.inr (⟨z39, rfl, rfl⟩))⟩)⟩⟩, ⟨rfl, by rw [ht9]; exact hP, hD⟩, hS.F ht9⟩) hS.2.2 (Nat.le_refl _) (Nat.le_refl _)
      · have z43 : r8.toInt < (0 : Int) := nle_z (show (0 : Int32).toInt = (0 : Int) by decide) rfl h13
        exact False.elim (om_5829cebf50 z10 z43)
    · have z44 : r8.toInt < (0 : Int) := nle_z (show (0 : Int32).toInt = (0 : Int) by decide) rfl h11
      exact False.elim (om_5829cebf50 z10 z44)
  · have z45 : r8.toInt < (0 : Int) := nle_z (show (0 : Int32).toInt = (0 : Int) by decide) rfl h9
    refine lv_aload_n hx hb dX13_named_30 rfl (lv_at hl 3 rfl) ?_
    refine lv_iload_n hx hb dX13_named_31 rfl (lv_at hl 2 rfl) ?_
    refine cu_i (rn_V (n := 1) (As := [.int (v.1 0 47)]) (rest := []) hx hb hml hown ht hKK hFx hP hD hS hA (c_m_globalOf l dC dI cI cB cZ cJ cR tb H.size ad N v (v.1 0 47) (show 0 ≤ (v.1 0 47).toInt ∧ (v.1 0 47).toInt < 4002 from (om_d0702dcce3 zt zfs)) (show 0 ≤ (v.1 0 27).toInt ∧ (v.1 0 27).toInt ≤ 60 from (om_1d2c7ad648 zgl)) (show TI v from FG.ti (fl := pfl) (al := pal) (FG.rf _) (by decide) (by decide) hT) (show AR 23 0 1500 v from a23)) tw_100 tw_101 (by decide +kernel) rfl rfl ⟨show 1 + 1 ≤ 40 * n + 8 from om_6bb9f0972f, show 8 + (3 + 11) + 25 ≤ 28 * (40 * n + 8) from om_91e91d0f69⟩ (List.range (mW ad N cI cZ cJ v).length) (rg_map _) (mW_nd _ _ _ _ _ _) rfl rfl rfl rfl hl.1 rfl (Nat.le_of_ble_eq_true rfl) dX13_named_32 ⟨Nat.le_of_ble_eq_true rfl, Nat.le_of_ble_eq_true rfl⟩) hP hD hS hA (fun r48 u47 H locs hw46 hP hD hS => ?_)
    obtain ⟨rfl, ex46, a46, b46⟩ := hw46
    refine W.widen (k := 0) (n := 0) (Nat.le_refl _) (Nat.le_refl _) ?_
    refine lv_goto (tgt := 39) hx hb dX13_named_35 (by decide) ?_
    refine lv_istore (lv' := [(5, .int r48), (4, .int r8), (3, .int r5), (2, .int (v.1 0 47)), (0, .ref (ad 0)), (1, .int 0)]) hx hb dX13_named_39 hl (by decide) rfl (fun ls hl => ?_)
    refine lv_iload hx hb dX13_named_41 (lv_at hl 1 rfl) ?_
    refine lv_if_ge (tgt := 51) hx hb dX13_named_43 (by decide) (fun h49 => ?_) (fun h49 => ?_)
    · have z50 : (0 : Int) ≤ r8.toInt := le_z (show (0 : Int32).toInt = (0 : Int) by decide) rfl h49
      exact False.elim (om_228557f1cf z45 z50)
    · have z51 : r8.toInt < (0 : Int) := nle_z (show (0 : Int32).toInt = (0 : Int) by decide) rfl h49
      refine lv_iload hx hb dX13_named_46 (lv_at hl 0 rfl) ?_
      refine lv_if_lt (tgt := 75) hx hb dX13_named_48 (by decide) (fun h52 => ?_) (fun h52 => ?_)
      · have z53 : r48.toInt < (0 : Int) := lt_z rfl (show (0 : Int32).toInt = (0 : Int) by decide) h52
        refine lv_aload_n hx hb dX13_named_75 rfl (lv_at hl 4 rfl) ?_
        refine lv_iconst (v := 3) hx hb dX13_named_76 (by decide) ?_
        refine lv_aload_n hx hb dX13_named_77 rfl (lv_at hl 4 rfl) ?_
        refine va_get (D := (dC, dI)) (ci := 16) (fs := mF ad v) (v := .int (v.1 0 47)) (C := RX13) (T := TX13) (N := 124) hx hb ht itX13 hown hK hP 0 rfl rfl 47 (by decide) (ht _ tw_24) (fun _ h9 => h9) rfl dX13_named_78 ?_
        refine cu_r (rn_V (n := 2) (As := [.int 3, .int (v.1 0 47)]) (rest := []) hx hb hml hown ht hKK hFx hP hD hS hA (c_m_fail l dC dI cI cB cZ cJ cR tb H.size ad N v (3 : Int32) (v.1 0 47) (show 0 ≤ (v.1 0 47).toInt ∧ (v.1 0 47).toInt < 4002 from (om_d0702dcce3 zt zfs))) tw_25 tw_26 (by decide +kernel) rfl rfl ⟨show 0 + 1 ≤ 40 * n + 8 from om_bf396309a0, show 8 + (3 + 11) + 0 ≤ 28 * (40 * n + 8) from om_6567089ecb⟩ (List.range (mW ad N cI cZ cJ v).length) (rg_map _) (mW_nd _ _ _ _ _ _) rfl rfl rfl rfl hl.1 rfl (Nat.le_of_ble_eq_true rfl) dX13_named_81 ⟨Nat.le_of_ble_eq_true rfl, Nat.le_of_ble_eq_true rfl⟩) hP hD hS hA (fun u55 H locs hw54 hP hD hS => ?_)
        obtain rfl := hw54
        have hP : va_P (dC, dI) vwCl (mW ad N cI cZ cJ (wA (wA v 0 50 (3 : Int32)) 0 51 ((v.1 7) (v.1 0 47).toNatClampNeg))) H := hP
        have hD : va_D A (mW ad N cI cZ cJ (wA (wA v 0 50 (3 : Int32)) 0 51 ((v.1 7) (v.1 0 47).toNatClampNeg))) := hD
        refine W.widen (k := 0) (n := 0) (Nat.le_refl _) (Nat.le_refl _) ?_
        obtain ⟨ce9, hc9, hv9, hf9⟩ := halt_at hK hP
        refine um_athrow hx hb dX13_named_84 ?_
        exact vx_out (fun x h9 => (hnt x h9).elim) hlocks hc9 hv9 hf9 (fun t9 ht9 hv8 => ⟨(wA (wA v 0 50 (3 : Int32)) 0 51 ((v.1 7) (v.1 0 47).toNatClampNeg)), ⟨(FG.f (FG.f (FG.rf _) (3 : Int32) (by decide)) ((v.1 7) (v.1 0 47).toNatClampNeg) (by decide)), fun hiv => (IV.o (IV.o hiv (by decide)) (by decide)), ⟨zt, zop, zkn, zhi, zs, zws, zos, zfs, zcs, zgl, r5, ex3, ⟨b3, e3⟩, r8, ex6, ⟨a6, b6⟩, (Or.inr (⟨z45, r48, ex46, ⟨a46, b46⟩, z51, (Or.inl ⟨z53, rfl, rfl⟩)⟩))⟩⟩, ⟨rfl, by rw [ht9]; exact hP, hD⟩, hS.F ht9⟩) hS.2.2 (Nat.le_refl _) (Nat.le_refl _)
      · have z57 : (0 : Int) ≤ r48.toInt := nlt_z rfl (show (0 : Int32).toInt = (0 : Int) by decide) h52
        refine lv_iload_n hx hb dX13_named_51 rfl (lv_at hl 2 rfl) ?_
        refine lv_iload hx hb dX13_named_52 (lv_at hl 1 rfl) ?_
        refine lv_if_ge (tgt := 71) hx hb dX13_named_54 (by decide) (fun h58 => ?_) (fun h58 => ?_)
        · have z59 : (0 : Int) ≤ r8.toInt := le_z (show (0 : Int32).toInt = (0 : Int) by decide) rfl h58
          exact False.elim (om_228557f1cf z45 z59)
        · have z60 : r8.toInt < (0 : Int) := nle_z (show (0 : Int32).toInt = (0 : Int) by decide) rfl h58
          refine lv_aload_n hx hb dX13_named_57 rfl (lv_at hl 4 rfl) ?_
          refine va_get (D := (dC, dI)) (ci := 16) (fs := mF ad v) (v := .ref (ad 26)) (C := RX13) (T := TX13) (N := 124) hx hb ht itX13 hown hK hP 0 rfl rfl 26 (by decide) (ht _ tw_102) (fun _ h9 => h9) rfl dX13_named_58 ?_
          refine lv_iload hx hb dX13_named_61 (lv_at hl 0 rfl) ?_
          refine va_zald (D := (dC, dI)) (f := (v.1 26)) hx hb hK hP 20 2 rfl rfl (in_y (a := r48.toInt) (b := 60) rfl (om_51058f7f87 z57) (om_f30fc6227d zgl b46) rfl) dX13_named_63 ?_
          refine lv_if_eq (tgt := 71) hx hb dX13_named_64 (by decide) (fun h61 => ?_) (fun h61 => ?_)
          · have z62 : ((v.1 26) r48.toNatClampNeg).toInt = (0 : Int) := eq_z rfl (show (0 : Int32).toInt = (0 : Int) by decide) h61
            refine lv_iconst (v := 0) hx hb dX13_named_71 (by decide) ?_
            refine lv_icmp_eq (tgt := 85) hx hb dX13_named_72 (by decide) (fun h63 => ?_) (fun h63 => ?_)
            · have z64 : r5.toInt = (0 : Int) := eq_z rfl (show (0 : Int32).toInt = (0 : Int) by decide) h63
              refine lv_aload_n hx hb dX13_named_85 rfl (lv_at hl 4 rfl) ?_
              refine cux_v (rx_V (n := 0) (As := []) (rest := []) hx hb hml hown ht hKK hFx hP hD hS hA (c_m_take l dC dI cI cB cZ cJ cR tb H.size ad N v  (show 0 ≤ (v.1 0 47).toInt ∧ (v.1 0 47).toInt ≤ 1500 from (om_2fb699b811 zt zfs))) tw_32 tw_33 (by decide +kernel) rfl rfl ⟨show 1 + 1 ≤ 40 * n + 8 from om_6bb9f0972f, show 8 + (1 + 11) + 22 ≤ 28 * (40 * n + 8) from om_14c5e94f1d⟩ (List.range (mW ad N cI cZ cJ v).length) (rg_map _) (mW_nd _ _ _ _ _ _) rfl rfl rfl rfl hl.1 rfl (Nat.le_of_ble_eq_true rfl) dX13_named_86 ⟨Nat.le_of_ble_eq_true rfl, Nat.le_of_ble_eq_true rfl⟩) hP hD hS hA (fun u9 ce9 q9 H locs hx9 hP hD hS hc9 hv9 hf9 => ?_) (fun u66 H locs hw65 hP hD hS => ?_)
              · exact vx_out (fun x h9 => (hnt x h9).elim) hlocks hc9 hv9 hf9 (fun t9 ht9 hv8 => ⟨u9, ⟨FG.tr (FG.rf _) hx9.1, fun hiv => hx9.2.1 hiv, ⟨zt, zop, zkn, zhi, zs, zws, zos, zfs, zcs, zgl, r5, ex3, ⟨b3, e3⟩, r8, ex6, ⟨a6, b6⟩, (Or.inr (⟨z45, r48, ex46, ⟨a46, b46⟩, z51, (Or.inr (⟨z57, z60, (Or.inl ⟨z62, (Or.inl ⟨z64, (Or.inl ⟨u9, hx9.2.2, rfl, rfl⟩)⟩)⟩)⟩))⟩))⟩⟩, ⟨rfl, by rw [ht9]; exact hP, hD⟩, hS.F ht9⟩) hS.2.2 (Nat.le_refl _) (Nat.le_refl _)
              obtain ⟨rfl, ex65, a65, b65⟩ := hw65
              have z68 : ((v.1 0 47) + (1 : Int32)).toInt = ((v.1 0 47).toInt) + (1 : Int) := add_z rfl (show (1 : Int32).toInt = (1 : Int) by decide) (om_3eca9b17a5 zws) (om_27eb55d06c zt)
              have hP : va_P (dC, dI) vwCl (mW ad N cI cZ cJ (wA v 0 47 ((v.1 0 47) + (1 : Int32)))) H := hP
              have hD : va_D A (mW ad N cI cZ cJ (wA v 0 47 ((v.1 0 47) + (1 : Int32)))) := hD
              refine W.widen (k := 0) (n := 0) (Nat.le_refl _) (Nat.le_refl _) ?_
              refine lv_iload_n hx hb dX13_named_89 rfl (lv_at hl 2 rfl) ?_
              refine lv_if_eq (tgt := 99) hx hb dX13_named_90 (by decide) (fun h69 => ?_) (fun h69 => ?_)
              · have z70 : r5.toInt = (0 : Int) := eq_z rfl (show (0 : Int32).toInt = (0 : Int) by decide) h69
                refine lv_iload_n hx hb dX13_named_99 rfl (lv_at hl 5 rfl) ?_
                refine lv_if_eq (tgt := 110) hx hb dX13_named_100 (by decide) (fun _ => ?_) (fun k71 => absurd k71 (by decide))
                refine lv_iconst (v := -1) hx hb dX13_named_110 (by decide) ?_
                refine lv_istore (lv' := [(6, .int (-1)), (5, .int r48), (4, .int r8), (3, .int r5), (2, .int (v.1 0 47)), (0, .ref (ad 0)), (1, .int 0)]) hx hb dX13_named_111 hl (by decide) rfl (fun ls hl => ?_)
                refine lv_iload hx hb dX13_named_113 (lv_at hl 0 rfl) ?_
                refine lv_iconst (v := -1) hx hb dX13_named_115 (by decide) ?_
                refine lv_icmp_eq (tgt := 131) hx hb dX13_named_116 (by decide) (fun _ => ?_) (fun k72 => absurd k72 (by decide))
                refine lv_iload_n hx hb dX13_named_131 rfl (lv_at hl 3 rfl) ?_
                refine lv_if_eq (tgt := 165) hx hb dX13_named_132 (by decide) (fun h73 => ?_) (fun h73 => ?_)
                · have z74 : r5.toInt = (0 : Int) := eq_z rfl (show (0 : Int32).toInt = (0 : Int) by decide) h73
                  refine lv_aload_n hx hb dX13_named_165 rfl (lv_at hl 5 rfl) ?_
                  refine lv_iload hx hb dX13_named_166 (lv_at hl 2 rfl) ?_
                  refine lv_iload hx hb dX13_named_168 (lv_at hl 1 rfl) ?_
                  refine cu_v (rn_V (n := 2) (As := [.int r8, .int r48]) (rest := []) hx hb hml hown ht hKK hFx hP hD hS hA (c_m_fetch l dC dI cI cB cZ cJ cR tb H.size ad N (wA v 0 47 ((v.1 0 47) + (1 : Int32))) r8 r48 (show 0 ≤ (v.1 0 12).toInt ∧ (v.1 0 12).toInt ≤ 23980 from (om_2fbbc6575c zws a65)) (show 0 ≤ (v.1 0 15).toInt ∧ (v.1 0 15).toInt ≤ 15980 from (om_1b8bc4dd59 zos a65)) (show 0 ≤ (v.1 0 43).toInt ∧ (v.1 0 43).toInt ≤ 23980 from (om_a8374448b3 zfs a65)) (show (0 ≤ r8.toInt ∨ (0 ≤ r48.toInt ∧ r48.toInt < (v.1 0 27).toInt)) ∧ r8.toInt < (v.1 0 30).toInt ∧ (v.1 0 27).toInt ≤ 60 from (om_f917b45286 zgl b6 b46 z57)) (show AR 40 0 23999 (wA v 0 47 ((v.1 0 47) + (1 : Int32))) from (AR.o a40 (by decide))) (show FX (wA v 0 47 ((v.1 0 47) + (1 : Int32))) from (FX.o fx (by decide) (by decide))) (show GF (wA v 0 47 ((v.1 0 47) + (1 : Int32))) from (GF.of gf (by decide)))) tw_92 tw_93 (by decide +kernel) rfl rfl ⟨show 2 + 1 ≤ 40 * n + 8 from om_c34fc8f08b, show 8 + (3 + 11) + 46 ≤ 28 * (40 * n + 8) from om_b712eaf788⟩ (List.range (mW ad N cI cZ cJ (wA v 0 47 ((v.1 0 47) + (1 : Int32)))).length) (rg_map _) (mW_nd _ _ _ _ _ _) rfl rfl rfl rfl hl.1 rfl (Nat.le_of_ble_eq_true rfl) dX13_named_170 ⟨Nat.le_of_ble_eq_true rfl, Nat.le_of_ble_eq_true rfl⟩) hP hD hS hA (fun u76 H locs hw75 hP hD hS => ?_)
                  obtain ⟨fr75, ex75, pw75, po75, pf75, kc75, ko75, kg75, a4075, fx75, iv75, sg75⟩ := hw75
                  have pw75 : (v.1 0 12).toInt ≤ (u76.1 0 12).toInt ∧ (u76.1 0 12).toInt ≤ (v.1 0 12).toInt + 2 := pw75
                  have po75 : (u76.1 0 15).toInt = (v.1 0 15).toInt + 1 := po75
                  have pf75 : (v.1 0 43).toInt ≤ (u76.1 0 43).toInt ∧ (u76.1 0 43).toInt ≤ (v.1 0 43).toInt + 2 := pf75
                  have kc75 : ∀ j : Nat, (j : Int) < (v.1 0 12).toInt → (u76.1 11) j = (v.1 11) j := kc75
                  have ko75 : ∀ j : Nat, (j : Int) < (v.1 0 15).toInt → (u76.1 13) j = (v.1 13) j := ko75
                  have kg75 : ∀ j : Nat, (j : Int) < (v.1 0 15).toInt → (u76.1 14) j = (v.1 14) j := kg75
                  have a4075 : AR 40 0 23999 u76 := a4075
                  have fx75 : FX u76 := fx75
                  have iv75 : IV (wA v 0 47 ((v.1 0 47) + (1 : Int32))) → IV u76 := iv75
                  have sg75 : SGE (v.1 0 30).toInt (v.1 0 28).toInt (v.1 0 27).toInt (u76.1 13) (u76.1 14) (u76.1 36) (u76.1 38) (v.1 0 15).toNatClampNeg (u76.1 0 15).toNatClampNeg (v.1 0 39).toNatClampNeg (u76.1 0 39).toNatClampNeg [] [false] ((1 : Int)) [] := sg75
                  have q78 : (u76.1 0 33).toInt = (v.1 0 33).toInt := congrArg Int32.toInt ((fr75.2.1 33 (by decide)).trans (show (wA v 0 47 ((v.1 0 47) + (1 : Int32))).1 0 33 = (v.1 0 33) by rfl))
                  have sg79 : SGE (v.1 0 30).toInt (v.1 0 28).toInt (v.1 0 27).toInt (u76.1 13) (u76.1 14) (u76.1 36) (u76.1 38) (v.1 0 15).toNatClampNeg (u76.1 0 15).toNatClampNeg (v.1 0 39).toNatClampNeg (u76.1 0 39).toNatClampNeg [] [false] (1 + (u76.1 0 33).toInt - (v.1 0 30).toInt - (v.1 0 32).toInt) [] := SGE.cat [] (SGE.to sg1 (kzN ko75) (kzN kg75) (fun j9 _ _ => congrFun (fr75.2.2 36 (by decide)) j9) (fun j9 _ _ => congrFun (fr75.2.2 38 (by decide)) j9) rfl rfl (Int.le_refl _)) (SGE.par sg75 rfl rfl rfl) rfl rfl (show 1 + (v.1 0 33).toInt - (v.1 0 30).toInt - (v.1 0 32).toInt ≤ 1 + (u76.1 0 33).toInt - (v.1 0 30).toInt - (v.1 0 32).toInt from (om_675629bfc5 q78)) (cat_le (by decide) (om_211d81bad8 zs q78))
                  refine W.widen (k := 0) (n := 0) (Nat.le_refl _) (Nat.le_refl _) ?_
                  refine lv_iload_n hx hb dX13_named_173 rfl (lv_at hl 6 rfl) ?_
                  refine lv_if_eq (tgt := 182) hx hb dX13_named_174 (by decide) (fun _ => ?_) (fun k80 => absurd k80 (by decide))
                  have q81 : (u76.1 0 47).toInt = ((v.1 0 47) + (1 : Int32)).toInt := congrArg Int32.toInt ((fr75.2.1 47 (by decide)).trans (show (wA v 0 47 ((v.1 0 47) + (1 : Int32))).1 0 47 = ((v.1 0 47) + (1 : Int32)) by rfl))
                  have q82 : (u76.1 0 39).toInt = (v.1 0 39).toInt := congrArg Int32.toInt ((fr75.2.1 39 (by decide)).trans (show (wA v 0 47 ((v.1 0 47) + (1 : Int32))).1 0 39 = (v.1 0 39) by rfl))
                  have q83 : (u76.1 0 32).toInt = (v.1 0 32).toInt := congrArg Int32.toInt ((fr75.2.1 32 (by decide)).trans (show (wA v 0 47 ((v.1 0 47) + (1 : Int32))).1 0 32 = (v.1 0 32) by rfl))
                  have q84 : (u76.1 0 48).toInt = (v.1 0 48).toInt := congrArg Int32.toInt ((fr75.2.1 48 (by decide)).trans (show (wA v 0 47 ((v.1 0 47) + (1 : Int32))).1 0 48 = (v.1 0 48) by rfl))
                  refine vx_ret ?_
                  exact W.vret hx hb hr (fun t ht9 hW => ⟨⟨u76, rfl, ⟨(FG.tr (FG.f (FG.rf _) ((v.1 0 47) + (1 : Int32)) (by decide)) (FG.up fr75 (by decide) (by decide))), ⟨zt, zop, zkn, zhi, zs, zws, zos, zfs, zcs, zgl, r5, ex3, ⟨b3, e3⟩, r8, ex6, ⟨a6, b6⟩, (Or.inr (⟨z45, r48, ex46, ⟨a46, b46⟩, z51, (Or.inr (⟨z57, z60, (Or.inl ⟨z62, (Or.inl ⟨z64, (Or.inr (⟨ex65, ⟨a65, b65⟩, z70, z74, u76, ex75, ⟨fr75, pw75, po75, pf75⟩, rfl, rfl⟩))⟩)⟩)⟩))⟩))⟩, (show (v.1 0 47).toInt + 1 ≤ (u76.1 0 47).toInt ∧ (u76.1 0 47).toInt ≤ 1500 from (om_413e830c37 z2 a65 q81)), (show (v.1 0 49).toInt ≠ (v.1 0 47).toInt from (om_32294a9ce4 b65)), (show (v.1 0 12).toInt ≤ (u76.1 0 12).toInt ∧ (u76.1 0 12).toInt - 15 * (u76.1 0 47).toInt ≤ (v.1 0 12).toInt - 15 * (v.1 0 47).toInt from (om_ed0943c3b0 z2 q81 pw75)), (show (v.1 0 15).toInt ≤ (u76.1 0 15).toInt ∧ (u76.1 0 15).toInt - 10 * (u76.1 0 47).toInt ≤ (v.1 0 15).toInt - 10 * (v.1 0 47).toInt from (om_4820e362bc z2 q81 po75)), (show (v.1 0 43).toInt ≤ (u76.1 0 43).toInt ∧ (u76.1 0 43).toInt - 15 * (u76.1 0 47).toInt ≤ (v.1 0 43).toInt - 15 * (v.1 0 47).toInt from (om_ed0943c3b0 z2 q81 pf75)), (show (v.1 0 39).toInt ≤ (u76.1 0 39).toInt ∧ (u76.1 0 39).toInt - 1 * (u76.1 0 47).toInt ≤ (v.1 0 39).toInt - 1 * (v.1 0 47).toInt from (om_6a648d8dbc z2 q82 q81)), (show (u76.1 0 32).toInt = (v.1 0 32).toInt ∧ (u76.1 0 48).toInt = (v.1 0 48).toInt from (om_d5149004fa q83 q84)), (show (v.1 0 33).toInt ≤ (u76.1 0 33).toInt ∧ (u76.1 0 33).toInt ≤ 500 from (om_bc6fc57d17 zhi q78)), (fun (j9 : Nat) hj9 => (kc75 j9 (om_4fe904e9bf hj9))), (fun (j9 : Nat) hj9 => (ko75 j9 (om_4fe904e9bf hj9))), (fun (j9 : Nat) hj9 => (kg75 j9 (om_4fe904e9bf hj9))), (fun (j9 : Nat) hj9 => (congrFun (fr75.2.2 36 (by decide)) j9)), (fun (j9 : Nat) hj9 => (congrFun (fr75.2.2 38 (by decide)) j9)), (show AR 35 0 1500 u76 from AR.fr (fl := [12, 15, 43]) (al := [0, 11, 13, 14, 40, 41, 42]) fr75 (by decide) (AR.o a35 (by decide))), (show AR 37 0 23999 u76 from AR.fr (fl := [12, 15, 43]) (al := [0, 11, 13, 14, 40, 41, 42]) fr75 (by decide) (AR.o a37 (by decide))), (show AR 38 0 15999 u76 from AR.fr (fl := [12, 15, 43]) (al := [0, 11, 13, 14, 40, 41, 42]) fr75 (by decide) (AR.o a38 (by decide))), a4075, fx75, (fun hiv => (iv75 (IV.o hiv (by decide)))), (SGE.mono (SGE.setB sg79 rfl) (show 1 + (u76.1 0 33).toInt - (v.1 0 30).toInt - (v.1 0 32).toInt ≤ 1 + (u76.1 0 33).toInt - (v.1 0 30).toInt - (v.1 0 32).toInt from om_e96b194f74))⟩, by rw [ht9]; exact hP, hD⟩, hS.F ht9⟩) hS.2.2 dX13_named_182
                · have z85 : r5.toInt ≠ (0 : Int) := ne_z rfl (show (0 : Int32).toInt = (0 : Int) by decide) h73
                  exact False.elim (om_b66186cd65 e3 z64 z85)
              · have z86 : r5.toInt ≠ (0 : Int) := ne_z rfl (show (0 : Int32).toInt = (0 : Int) by decide) h69
                exact False.elim (om_b66186cd65 e3 z64 z86)
            · have z87 : r5.toInt ≠ (0 : Int) := ne_z rfl (show (0 : Int32).toInt = (0 : Int) by decide) h63
              refine lv_aload_n hx hb dX13_named_75 rfl (lv_at hl 4 rfl) ?_
              refine lv_iconst (v := 3) hx hb dX13_named_76 (by decide) ?_
              refine lv_aload_n hx hb dX13_named_77 rfl (lv_at hl 4 rfl) ?_
              refine va_get (D := (dC, dI)) (ci := 16) (fs := mF ad v) (v := .int (v.1 0 47)) (C := RX13) (T := TX13) (N := 124) hx hb ht itX13 hown hK hP 0 rfl rfl 47 (by decide) (ht _ tw_24) (fun _ h9 => h9) rfl dX13_named_78 ?_
              refine cu_r (rn_V (n := 2) (As := [.int 3, .int (v.1 0 47)]) (rest := []) hx hb hml hown ht hKK hFx hP hD hS hA (c_m_fail l dC dI cI cB cZ cJ cR tb H.size ad N v (3 : Int32) (v.1 0 47) (show 0 ≤ (v.1 0 47).toInt ∧ (v.1 0 47).toInt < 4002 from (om_d0702dcce3 zt zfs))) tw_25 tw_26 (by decide +kernel) rfl rfl ⟨show 0 + 1 ≤ 40 * n + 8 from om_bf396309a0, show 8 + (3 + 11) + 0 ≤ 28 * (40 * n + 8) from om_6567089ecb⟩ (List.range (mW ad N cI cZ cJ v).length) (rg_map _) (mW_nd _ _ _ _ _ _) rfl rfl rfl rfl hl.1 rfl (Nat.le_of_ble_eq_true rfl) dX13_named_81 ⟨Nat.le_of_ble_eq_true rfl, Nat.le_of_ble_eq_true rfl⟩) hP hD hS hA (fun u89 H locs hw88 hP hD hS => ?_)
              obtain rfl := hw88
              have hP : va_P (dC, dI) vwCl (mW ad N cI cZ cJ (wA (wA v 0 50 (3 : Int32)) 0 51 ((v.1 7) (v.1 0 47).toNatClampNeg))) H := hP
              have hD : va_D A (mW ad N cI cZ cJ (wA (wA v 0 50 (3 : Int32)) 0 51 ((v.1 7) (v.1 0 47).toNatClampNeg))) := hD
              refine W.widen (k := 0) (n := 0) (Nat.le_refl _) (Nat.le_refl _) ?_
              obtain ⟨ce9, hc9, hv9, hf9⟩ := halt_at hK hP
              refine um_athrow hx hb dX13_named_84 ?_
              exact vx_out (fun x h9 => (hnt x h9).elim) hlocks hc9 hv9 hf9 (fun t9 ht9 hv8 => ⟨(wA (wA v 0 50 (3 : Int32)) 0 51 ((v.1 7) (v.1 0 47).toNatClampNeg)), ⟨(FG.f (FG.f (FG.rf _) (3 : Int32) (by decide)) ((v.1 7) (v.1 0 47).toNatClampNeg) (by decide)), fun hiv => (IV.o (IV.o hiv (by decide)) (by decide)), ⟨zt, zop, zkn, zhi, zs, zws, zos, zfs, zcs, zgl, r5, ex3, ⟨b3, e3⟩, r8, ex6, ⟨a6, b6⟩, (Or.inr (⟨z45, r48, ex46, ⟨a46, b46⟩, z51, (Or.inr (⟨z57, z60, (Or.inl ⟨z62, (Or.inr (⟨z87, rfl, rfl⟩))⟩)⟩))⟩))⟩⟩, ⟨rfl, by rw [ht9]; exact hP, hD⟩, hS.F ht9⟩) hS.2.2 (Nat.le_refl _) (Nat.le_refl _)
          · have z91 : ((v.1 26) r48.toNatClampNeg).toInt ≠ (0 : Int) := ne_z rfl (show (0 : Int32).toInt = (0 : Int) by decide) h61
            refine lv_iconst (v := 1) hx hb dX13_named_67 (by decide) ?_
            refine lv_goto (tgt := 72) hx hb dX13_named_68 (by decide) ?_
            refine lv_icmp_eq (tgt := 85) hx hb dX13_named_72 (by decide) (fun h92 => ?_) (fun h92 => ?_)
            · have z93 : r5.toInt = (1 : Int) := eq_z rfl (show (1 : Int32).toInt = (1 : Int) by decide) h92
              refine lv_aload_n hx hb dX13_named_85 rfl (lv_at hl 4 rfl) ?_
              refine cux_v (rx_V (n := 0) (As := []) (rest := []) hx hb hml hown ht hKK hFx hP hD hS hA (c_m_take l dC dI cI cB cZ cJ cR tb H.size ad N v  (show 0 ≤ (v.1 0 47).toInt ∧ (v.1 0 47).toInt ≤ 1500 from (om_2fb699b811 zt zfs))) tw_32 tw_33 (by decide +kernel) rfl rfl ⟨show 1 + 1 ≤ 40 * n + 8 from om_6bb9f0972f, show 8 + (1 + 11) + 22 ≤ 28 * (40 * n + 8) from om_14c5e94f1d⟩ (List.range (mW ad N cI cZ cJ v).length) (rg_map _) (mW_nd _ _ _ _ _ _) rfl rfl rfl rfl hl.1 rfl (Nat.le_of_ble_eq_true rfl) dX13_named_86 ⟨Nat.le_of_ble_eq_true rfl, Nat.le_of_ble_eq_true rfl⟩) hP hD hS hA (fun u9 ce9 q9 H locs hx9 hP hD hS hc9 hv9 hf9 => ?_) (fun u95 H locs hw94 hP hD hS => ?_)
              · exact vx_out (fun x h9 => (hnt x h9).elim) hlocks hc9 hv9 hf9 (fun t9 ht9 hv8 => ⟨u9, ⟨FG.tr (FG.rf _) hx9.1, fun hiv => hx9.2.1 hiv, ⟨zt, zop, zkn, zhi, zs, zws, zos, zfs, zcs, zgl, r5, ex3, ⟨b3, e3⟩, r8, ex6, ⟨a6, b6⟩, (Or.inr (⟨z45, r48, ex46, ⟨a46, b46⟩, z51, (Or.inr (⟨z57, z60, (Or.inr (⟨z91, (Or.inl ⟨z93, (Or.inl ⟨u9, hx9.2.2, rfl, rfl⟩)⟩)⟩))⟩))⟩))⟩⟩, ⟨rfl, by rw [ht9]; exact hP, hD⟩, hS.F ht9⟩) hS.2.2 (Nat.le_refl _) (Nat.le_refl _)
              obtain ⟨rfl, ex94, a94, b94⟩ := hw94
              have z97 : ((v.1 0 47) + (1 : Int32)).toInt = ((v.1 0 47).toInt) + (1 : Int) := add_z rfl (show (1 : Int32).toInt = (1 : Int) by decide) (om_3eca9b17a5 zws) (om_27eb55d06c zt)
              have hP : va_P (dC, dI) vwCl (mW ad N cI cZ cJ (wA v 0 47 ((v.1 0 47) + (1 : Int32)))) H := hP
              have hD : va_D A (mW ad N cI cZ cJ (wA v 0 47 ((v.1 0 47) + (1 : Int32)))) := hD
              refine W.widen (k := 0) (n := 0) (Nat.le_refl _) (Nat.le_refl _) ?_
              refine lv_iload_n hx hb dX13_named_89 rfl (lv_at hl 2 rfl) ?_
              refine lv_if_eq (tgt := 99) hx hb dX13_named_90 (by decide) (fun h98 => ?_) (fun h98 => ?_)
              · have z99 : r5.toInt = (0 : Int) := eq_z rfl (show (0 : Int32).toInt = (0 : Int) by decide) h98
                exact False.elim (om_9d476c3a78 z93 z99)
              · have z100 : r5.toInt ≠ (0 : Int) := ne_z rfl (show (0 : Int32).toInt = (0 : Int) by decide) h98
                refine lv_aload_n hx hb dX13_named_93 rfl (lv_at hl 4 rfl) ?_
                refine lv_iload hx hb dX13_named_94 (lv_at hl 0 rfl) ?_
                refine cux_v (rx_V (n := 1) (As := [.int r48]) (rest := []) hx hb hml hown ht hKK hFx hP hD hS hA (c_m_index l n ihE dC dI cI cB cZ cJ cR tb H.size ad N (wA v 0 47 ((v.1 0 47) + (1 : Int32))) r48 (show 40 ≤ (v.1 0 48).toInt + (n : Int) from (om_a9150ae9b6 zn)) (show 0 ≤ ((v.1 0 47) + (1 : Int32)).toInt ∧ ((v.1 0 47) + (1 : Int32)).toInt ≤ 1500 from (om_cae3a623a5 zfs z2 a94)) (show 0 ≤ (v.1 0 48).toInt ∧ (v.1 0 48).toInt ≤ 40 from (om_7eaf33e007 zop)) (show 0 ≤ (v.1 0 30).toInt ∧ (v.1 0 30).toInt ≤ 500 from (om_9861e69da5 zkn)) (show 0 ≤ (v.1 0 33).toInt ∧ (v.1 0 33).toInt ≤ 500 from (om_9861e69da5 zhi)) (show 0 ≤ (v.1 0 32).toInt ∧ (v.1 0 30).toInt + (v.1 0 32).toInt ≤ (v.1 0 33).toInt from (om_f541e4003c zs)) (show 0 ≤ (v.1 0 12).toInt ∧ (v.1 0 12).toInt ≤ 15 * ((v.1 0 47) + (1 : Int32)).toInt + 2 from (om_3894ab1223 zws z2)) (show 0 ≤ (v.1 0 15).toInt ∧ (v.1 0 15).toInt ≤ 10 * ((v.1 0 47) + (1 : Int32)).toInt + 0 from (om_9a74738aa2 zos z2)) (show 0 ≤ (v.1 0 43).toInt ∧ (v.1 0 43).toInt ≤ 15 * ((v.1 0 47) + (1 : Int32)).toInt + 0 from (om_434df26a0f zfs z2)) (show 0 ≤ (v.1 0 39).toInt ∧ (v.1 0 39).toInt ≤ 1 * ((v.1 0 47) + (1 : Int32)).toInt + 0 from (om_3840c96ead zcs z2)) (show 0 ≤ (v.1 0 27).toInt ∧ (v.1 0 27).toInt ≤ 60 from (om_86b09c9bac zgl b46 z57)) (show TI (wA v 0 47 ((v.1 0 47) + (1 : Int32))) from FG.ti (fl := pfl) (al := pal) (FG.f (FG.rf _) ((v.1 0 47) + (1 : Int32)) (by decide)) (by decide) (by decide) hT) (show AR 29 0 1500 (wA v 0 47 ((v.1 0 47) + (1 : Int32))) from (AR.o a29 (by decide))) (show AR 23 0 1500 (wA v 0 47 ((v.1 0 47) + (1 : Int32))) from (AR.o a23 (by decide))) (show AR 35 0 1500 (wA v 0 47 ((v.1 0 47) + (1 : Int32))) from (AR.o a35 (by decide))) (show AR 37 0 23999 (wA v 0 47 ((v.1 0 47) + (1 : Int32))) from (AR.o a37 (by decide))) (show AR 38 0 15999 (wA v 0 47 ((v.1 0 47) + (1 : Int32))) from (AR.o a38 (by decide))) (show AR 40 0 23999 (wA v 0 47 ((v.1 0 47) + (1 : Int32))) from (AR.o a40 (by decide))) (show FX (wA v 0 47 ((v.1 0 47) + (1 : Int32))) from (FX.o fx (by decide) (by decide))) (show GF (wA v 0 47 ((v.1 0 47) + (1 : Int32))) from (GF.of gf (by decide))) (show 0 ≤ r48.toInt ∧ r48.toInt < (v.1 0 27).toInt from (om_5a17daf06f b46 z57))) tw_103 tw_104 (by decide +kernel) rfl rfl ⟨show (40 * n + 6) + 1 ≤ 40 * n + 8 from om_811f6ec76a, show 8 + (3 + 11) + 28 * (40 * n + 6) ≤ 28 * (40 * n + 8) from om_caa4db15ea⟩ (List.range (mW ad N cI cZ cJ (wA v 0 47 ((v.1 0 47) + (1 : Int32)))).length) (rg_map _) (mW_nd _ _ _ _ _ _) rfl rfl rfl rfl hl.1 rfl (Nat.le_of_ble_eq_true rfl) dX13_named_96 ⟨Nat.le_of_ble_eq_true rfl, Nat.le_of_ble_eq_true rfl⟩) hP hD hS hA (fun u9 ce9 q9 H locs hx9 hP hD hS hc9 hv9 hf9 => ?_) (fun u102 H locs hw101 hP hD hS => ?_)
                · exact vx_out (fun x h9 => (hnt x h9).elim) hlocks hc9 hv9 hf9 (fun t9 ht9 hv8 => ⟨u9, ⟨FG.tr (FG.f (FG.rf _) ((v.1 0 47) + (1 : Int32)) (by decide)) hx9.1, fun hiv => hx9.2.1 (IV.o hiv (by decide)), ⟨zt, zop, zkn, zhi, zs, zws, zos, zfs, zcs, zgl, r5, ex3, ⟨b3, e3⟩, r8, ex6, ⟨a6, b6⟩, (Or.inr (⟨z45, r48, ex46, ⟨a46, b46⟩, z51, (Or.inr (⟨z57, z60, (Or.inr (⟨z91, (Or.inl ⟨z93, (Or.inr (⟨ex94, ⟨a94, b94⟩, z100, (Or.inl ⟨u9, hx9.2.2, rfl, rfl⟩)⟩))⟩)⟩))⟩))⟩))⟩⟩, ⟨rfl, by rw [ht9]; exact hP, hD⟩, hS.F ht9⟩) hS.2.2 (Nat.le_refl _) (Nat.le_refl _)
                obtain ⟨fr101, ex101, pt101, pb101, pw101, po101, pf101, pk101, pp101, ph101, kc101, ko101, kg101, k36101, k38101, a35101, a37101, a38101, a40101, fx101, iv101, sg101⟩ := hw101
                have pt101 : ((v.1 0 47) + (1 : Int32)).toInt + 1 ≤ (u102.1 0 47).toInt ∧ (u102.1 0 47).toInt ≤ 1500 := pt101
                have pb101 : (v.1 0 49).toInt ≠ ((v.1 0 47) + (1 : Int32)).toInt := pb101
                have pw101 : (v.1 0 12).toInt ≤ (u102.1 0 12).toInt ∧ (u102.1 0 12).toInt - 15 * (u102.1 0 47).toInt ≤ (v.1 0 12).toInt - 15 * ((v.1 0 47) + (1 : Int32)).toInt := pw101
                have po101 : (v.1 0 15).toInt ≤ (u102.1 0 15).toInt ∧ (u102.1 0 15).toInt - 10 * (u102.1 0 47).toInt ≤ (v.1 0 15).toInt - 10 * ((v.1 0 47) + (1 : Int32)).toInt := po101
                have pf101 : (v.1 0 43).toInt ≤ (u102.1 0 43).toInt ∧ (u102.1 0 43).toInt - 15 * (u102.1 0 47).toInt ≤ (v.1 0 43).toInt - 15 * ((v.1 0 47) + (1 : Int32)).toInt := pf101
                have pk101 : (v.1 0 39).toInt ≤ (u102.1 0 39).toInt ∧ (u102.1 0 39).toInt - 1 * (u102.1 0 47).toInt ≤ (v.1 0 39).toInt - 1 * ((v.1 0 47) + (1 : Int32)).toInt := pk101
                have pp101 : (u102.1 0 32).toInt = (v.1 0 32).toInt ∧ (u102.1 0 48).toInt = (v.1 0 48).toInt := pp101
                have ph101 : (v.1 0 33).toInt ≤ (u102.1 0 33).toInt ∧ (u102.1 0 33).toInt ≤ 500 := ph101
                have kc101 : ∀ j : Nat, (j : Int) < (v.1 0 12).toInt → (u102.1 11) j = (v.1 11) j := kc101
                have ko101 : ∀ j : Nat, (j : Int) < (v.1 0 15).toInt → (u102.1 13) j = (v.1 13) j := ko101
                have kg101 : ∀ j : Nat, (j : Int) < (v.1 0 15).toInt → (u102.1 14) j = (v.1 14) j := kg101
                have k36101 : ∀ j : Nat, (j : Int) < (v.1 0 39).toInt → (u102.1 36) j = (v.1 36) j := k36101
                have k38101 : ∀ j : Nat, (j : Int) < (v.1 0 39).toInt → (u102.1 38) j = (v.1 38) j := k38101
                have a35101 : AR 35 0 1500 u102 := a35101
                have a37101 : AR 37 0 23999 u102 := a37101
                have a38101 : AR 38 0 15999 u102 := a38101
                have a40101 : AR 40 0 23999 u102 := a40101
                have fx101 : FX u102 := fx101
                have iv101 : IV (wA v 0 47 ((v.1 0 47) + (1 : Int32))) → IV u102 := iv101
                have sg101 : SGE (v.1 0 30).toInt (v.1 0 28).toInt (v.1 0 27).toInt (u102.1 13) (u102.1 14) (u102.1 36) (u102.1 38) (v.1 0 15).toNatClampNeg (u102.1 0 15).toNatClampNeg (v.1 0 39).toNatClampNeg (u102.1 0 39).toNatClampNeg [] [true] (1 + (u102.1 0 33).toInt - (v.1 0 30).toInt - (v.1 0 32).toInt) [] := sg101
                have sg104 : SGE (v.1 0 30).toInt (v.1 0 28).toInt (v.1 0 27).toInt (u102.1 13) (u102.1 14) (u102.1 36) (u102.1 38) (v.1 0 15).toNatClampNeg (u102.1 0 15).toNatClampNeg (v.1 0 39).toNatClampNeg (u102.1 0 39).toNatClampNeg [] [true] (1 + (u102.1 0 33).toInt - (v.1 0 30).toInt - (v.1 0 32).toInt) [] := SGE.cat [] (SGE.to sg1 (kzN ko101) (kzN kg101) (fun j9 _ h9 => kzN k36101 j9 h9) (fun j9 _ h9 => kzN k38101 j9 h9) rfl rfl (Int.le_refl _)) (SGE.par sg101 rfl rfl rfl) rfl rfl (show 1 + (v.1 0 33).toInt - (v.1 0 30).toInt - (v.1 0 32).toInt ≤ 1 + (u102.1 0 33).toInt - (v.1 0 30).toInt - (v.1 0 32).toInt from (om_46b1f93824 ph101)) (cat_le (by decide) om_05071627a9)
                refine W.widen (k := 0) (n := 0) (Nat.le_refl _) (Nat.le_refl _) ?_
                refine lv_iload_n hx hb dX13_named_99 rfl (lv_at hl 5 rfl) ?_
                refine lv_if_eq (tgt := 110) hx hb dX13_named_100 (by decide) (fun _ => ?_) (fun k105 => absurd k105 (by decide))
                refine lv_iconst (v := -1) hx hb dX13_named_110 (by decide) ?_
                refine lv_istore (lv' := [(6, .int (-1)), (5, .int r48), (4, .int r8), (3, .int r5), (2, .int (v.1 0 47)), (0, .ref (ad 0)), (1, .int 0)]) hx hb dX13_named_111 hl (by decide) rfl (fun ls hl => ?_)
                refine lv_iload hx hb dX13_named_113 (lv_at hl 0 rfl) ?_
                refine lv_iconst (v := -1) hx hb dX13_named_115 (by decide) ?_
                refine lv_icmp_eq (tgt := 131) hx hb dX13_named_116 (by decide) (fun _ => ?_) (fun k106 => absurd k106 (by decide))
                refine lv_iload_n hx hb dX13_named_131 rfl (lv_at hl 3 rfl) ?_
                refine lv_if_eq (tgt := 165) hx hb dX13_named_132 (by decide) (fun h107 => ?_) (fun h107 => ?_)
                · have z108 : r5.toInt = (0 : Int) := eq_z rfl (show (0 : Int32).toInt = (0 : Int) by decide) h107
                  exact False.elim (om_9d476c3a78 z93 z108)
                · have z109 : r5.toInt ≠ (0 : Int) := ne_z rfl (show (0 : Int32).toInt = (0 : Int) by decide) h107
                  refine lv_aload_n hx hb dX13_named_135 rfl (lv_at hl 5 rfl) ?_
                  refine lv_aload_n hx hb dX13_named_136 rfl (lv_at hl 5 rfl) ?_
                  refine lv_bipush (v := 10) hx hb dX13_named_137 (by decide) ?_
                  refine lv_iconst (v := 0) hx hb dX13_named_139 (by decide) ?_
                  refine lv_bipush (v := 10) hx hb dX13_named_140 (by decide) ?_
                  refine cu_s (mW_nd _ _ _ _ _ _) (rn_S (n := 3) (As := [.int 10, .int 0, .int 10]) (rest := [.ref (ad 0), .ref (ad 0)]) hx hb hml hown ht hKK hFx hP hD hS hA (c_m_lw l dC dI cI cB cZ cJ cR tb H.size (10 : Int32) (0 : Int32) (10 : Int32) ) tw_71 tw_72 (by decide +kernel) rfl rfl ⟨show 1 + 1 ≤ 40 * n + 8 from om_6bb9f0972f, show 8 + (3 + 11) + 24 ≤ 28 * (40 * n + 8) from om_47f5cdee41⟩ [] rfl rfl rfl hl.1 rfl (Nat.le_of_ble_eq_true rfl) dX13_named_142 ⟨Nat.le_of_ble_eq_true rfl, Nat.le_of_ble_eq_true rfl⟩) hP hD hS hA (fun r112 H locs hw110 hP hD hS => ?_)
                  have ex110 := hw110
                  refine W.widen (k := 0) (n := 0) (Nat.le_refl _) (Nat.le_refl _) ?_
                  refine cu_i (rn_V (n := 1) (As := [.int r112]) (rest := [.ref (ad 0)]) hx hb hml hown ht hKK hFx hP hD hS hA (c_m_emit l dC dI cI cB cZ cJ cR tb H.size ad N u102 r112 (show 0 ≤ (u102.1 0 12).toInt ∧ (u102.1 0 12).toInt < 24000 from (om_6ad570a484 zws z2 pt101 pw101))) tw_8 tw_9 (by decide +kernel) rfl rfl ⟨show 0 + 1 ≤ 40 * n + 8 from om_bf396309a0, show 8 + (2 + 11) + 0 ≤ 28 * (40 * n + 8) from om_6b2d8a3fe9⟩ (List.range (mW ad N cI cZ cJ u102).length) (rg_map _) (mW_nd _ _ _ _ _ _) rfl rfl rfl rfl hl.1 rfl (Nat.le_of_ble_eq_true rfl) dX13_named_145 ⟨Nat.le_of_ble_eq_true rfl, Nat.le_of_ble_eq_true rfl⟩) hP hD hS hA (fun r115 u114 H locs hw113 hP hD hS => ?_)
                  obtain ⟨rfl, rfl⟩ := hw113
                  have z116 : ((u102.1 0 12) + (1 : Int32)).toInt = ((u102.1 0 12).toInt) + (1 : Int) := add_z rfl (show (1 : Int32).toInt = (1 : Int) by decide) (om_6ad47c49ef zws pw101) (om_99b5e8925f zws z2 pt101 pw101)
                  have hP : va_P (dC, dI) vwCl (mW ad N cI cZ cJ (wA (wA u102 11 ((u102.1 0 12).toNatClampNeg) r112) 0 12 ((u102.1 0 12) + (1 : Int32)))) H := hP
                  have hD : va_D A (mW ad N cI cZ cJ (wA (wA u102 11 ((u102.1 0 12).toNatClampNeg) r112) 0 12 ((u102.1 0 12) + (1 : Int32)))) := hD
                  refine tp_i (y := (u102.1 0 12)) (rfl) ?_
                  refine W.widen (k := 0) (n := 0) (Nat.le_refl _) (Nat.le_refl _) ?_
                  refine lv_iload hx hb dX13_named_148 (lv_at hl 1 rfl) ?_
                  refine lv_iconst (v := 1) hx hb dX13_named_150 (by decide) ?_
                  refine cu_v (rn_V (n := 3) (As := [.int (u102.1 0 12), .int r48, .int 1]) (rest := []) hx hb hml hown ht hKK hFx hP hD hS hA (c_m_fix l dC dI cI cB cZ cJ cR tb H.size ad N (wA (wA u102 11 ((u102.1 0 12).toNatClampNeg) r112) 0 12 ((u102.1 0 12) + (1 : Int32))) (u102.1 0 12) r48 (1 : Int32) (show 0 ≤ (u102.1 0 43).toInt ∧ (u102.1 0 43).toInt < 24000 from (om_57da220a2c zfs z2 pt101 pf101)) (show 0 ≤ (u102.1 0 12).toInt ∧ (u102.1 0 12).toInt < 24000 from (om_6ad570a484 zws z2 pt101 pw101)) (show (1 : Int) = 5 ∨ (0 ≤ r48.toInt ∧ r48.toInt < 60) from (om_8d07b0f4c4 zgl b46 z57)) (show AR 40 0 23999 (wA (wA u102 11 ((u102.1 0 12).toNatClampNeg) r112) 0 12 ((u102.1 0 12) + (1 : Int32))) from (AR.o (AR.o a40101 (by decide)) (by decide))) (show FX (wA (wA u102 11 ((u102.1 0 12).toNatClampNeg) r112) 0 12 ((u102.1 0 12) + (1 : Int32))) from (FX.o (FX.o fx101 (by decide) (by decide)) (by decide) (by decide)))) tw_69 tw_70 (by decide +kernel) rfl rfl ⟨show 0 + 1 ≤ 40 * n + 8 from om_bf396309a0, show 8 + (4 + 11) + 0 ≤ 28 * (40 * n + 8) from om_070d94274c⟩ (List.range (mW ad N cI cZ cJ (wA (wA u102 11 ((u102.1 0 12).toNatClampNeg) r112) 0 12 ((u102.1 0 12) + (1 : Int32)))).length) (rg_map _) (mW_nd _ _ _ _ _ _) rfl rfl rfl rfl hl.1 rfl (Nat.le_of_ble_eq_true rfl) dX13_named_151 ⟨Nat.le_of_ble_eq_true rfl, Nat.le_of_ble_eq_true rfl⟩) hP hD hS hA (fun u118 H locs hw117 hP hD hS => ?_)
                  obtain ⟨fr117, ex117, pf117, a40117, fx117, iv117⟩ := hw117
                  have pf117 : (u118.1 0 43).toInt = (u102.1 0 43).toInt + 1 := pf117
                  have a40117 : AR 40 0 23999 u118 := a40117
                  have fx117 : FX u118 := fx117
                  have iv117 : IV (wA (wA u102 11 ((u102.1 0 12).toNatClampNeg) r112) 0 12 ((u102.1 0 12) + (1 : Int32))) → IV u118 := iv117
                  have sg120 : SGE (v.1 0 30).toInt (v.1 0 28).toInt (v.1 0 27).toInt (u118.1 13) (u118.1 14) (u118.1 36) (u118.1 38) (v.1 0 15).toNatClampNeg (u118.1 0 15).toNatClampNeg (v.1 0 39).toNatClampNeg (u118.1 0 39).toNatClampNeg [] [true] (1 + (u102.1 0 33).toInt - (v.1 0 30).toInt - (v.1 0 32).toInt) [] := SGE.to sg104 (fun j9 _ => congrFun (fr117.2.2 13 (by decide)) j9) (fun j9 _ => congrFun (fr117.2.2 14 (by decide)) j9) (fun j9 _ _ => congrFun (fr117.2.2 36 (by decide)) j9) (fun j9 _ _ => congrFun (fr117.2.2 38 (by decide)) j9) (congrArg Int32.toNatClampNeg (fr117.2.1 15 (by decide))) (congrArg Int32.toNatClampNeg (fr117.2.1 39 (by decide))) (Int.le_refl _)
                  refine W.widen (k := 0) (n := 0) (Nat.le_refl _) (Nat.le_refl _) ?_
                  refine lv_aload_n hx hb dX13_named_154 rfl (lv_at hl 5 rfl) ?_
                  refine lv_bipush (v := 6) hx hb dX13_named_155 (by decide) ?_
                  refine lv_iconst (v := 0) hx hb dX13_named_157 (by decide) ?_
                  have q121 : (u118.1 0 15).toInt = (u102.1 0 15).toInt := congrArg Int32.toInt ((fr117.2.1 15 (by decide)).trans (show (wA (wA u102 11 ((u102.1 0 12).toNatClampNeg) r112) 0 12 ((u102.1 0 12) + (1 : Int32))).1 0 15 = (u102.1 0 15) by rfl))
                  refine cu_i (rn_V (n := 2) (As := [.int 6, .int 0]) (rest := []) hx hb hml hown ht hKK hFx hP hD hS hA (c_m_say l dC dI cI cB cZ cJ cR tb H.size ad N u118 (6 : Int32) (0 : Int32) (show 0 ≤ (u118.1 0 15).toInt ∧ (u118.1 0 15).toInt < 16000 from (om_d973dfe1cb zos z2 pt101 po101 q121))) tw_59 tw_60 (by decide +kernel) rfl rfl ⟨show 0 + 1 ≤ 40 * n + 8 from om_bf396309a0, show 8 + (3 + 11) + 0 ≤ 28 * (40 * n + 8) from om_6567089ecb⟩ (List.range (mW ad N cI cZ cJ u118).length) (rg_map _) (mW_nd _ _ _ _ _ _) rfl rfl rfl rfl hl.1 rfl (Nat.le_of_ble_eq_true rfl) dX13_named_158 ⟨Nat.le_of_ble_eq_true rfl, Nat.le_of_ble_eq_true rfl⟩) hP hD hS hA (fun r124 u123 H locs hw122 hP hD hS => ?_)
                  obtain ⟨rfl, rfl⟩ := hw122
                  have z125 : ((u118.1 0 15) + (1 : Int32)).toInt = ((u118.1 0 15).toInt) + (1 : Int) := add_z rfl (show (1 : Int32).toInt = (1 : Int) by decide) (om_92b6fe5fa9 zos po101 q121) (om_366562be03 zos z2 pt101 po101 q121)
                  have hP : va_P (dC, dI) vwCl (mW ad N cI cZ cJ (wA (wA (wA u118 13 ((u118.1 0 15).toNatClampNeg) (6 : Int32)) 14 ((u118.1 0 15).toNatClampNeg) (0 : Int32)) 0 15 ((u118.1 0 15) + (1 : Int32)))) H := hP
                  have hD : va_D A (mW ad N cI cZ cJ (wA (wA (wA u118 13 ((u118.1 0 15).toNatClampNeg) (6 : Int32)) 14 ((u118.1 0 15).toNatClampNeg) (0 : Int32)) 0 15 ((u118.1 0 15) + (1 : Int32)))) := hD
                  refine tp_i (y := (u118.1 0 15)) (rfl) ?_
                  have q126 : (u118.1 0 33).toInt = (u102.1 0 33).toInt := congrArg Int32.toInt ((fr117.2.1 33 (by decide)).trans (show (wA (wA u102 11 ((u102.1 0 12).toNatClampNeg) r112) 0 12 ((u102.1 0 12) + (1 : Int32))).1 0 33 = (u102.1 0 33) by rfl))
                  have sg127 : SGE (v.1 0 30).toInt (v.1 0 28).toInt (v.1 0 27).toInt (upd (u118.1 13) ((u118.1 0 15).toNatClampNeg) (6 : Int32)) (upd (u118.1 14) ((u118.1 0 15).toNatClampNeg) (0 : Int32)) (u118.1 36) (u118.1 38) (v.1 0 15).toNatClampNeg ((u118.1 0 15) + (1 : Int32)).toNatClampNeg (v.1 0 39).toNatClampNeg (u118.1 0 39).toNatClampNeg [] [false] (1 + (u118.1 0 33).toInt - (v.1 0 30).toInt - (v.1 0 32).toInt) [] := SGE.say1 (x := (u118.1 0 15)) (y := ((u118.1 0 15) + (1 : Int32))) sg120 (show 0 ≤ (u118.1 0 15).toInt from (om_b01590be12 zos po101 q121)) (show ((u118.1 0 15) + (1 : Int32)).toInt = (u118.1 0 15).toInt + 1 from (om_5bccfc38cf z125)) (show 1 + (u102.1 0 33).toInt - (v.1 0 30).toInt - (v.1 0 32).toInt ≤ 1 + (u118.1 0 33).toInt - (v.1 0 30).toInt - (v.1 0 32).toInt from (om_675629bfc5 q126)) (lenle (1 : Int) (by decide) (om_0a296e6d98 zs ph101 q126)) (ft_at (by decide)) (by decide) (by decide)
                  refine W.widen (k := 0) (n := 0) (Nat.le_refl _) (Nat.le_refl _) ?_
                  refine lv_pop hx hb dX13_named_161 rfl ?_
                  refine lv_goto (tgt := 173) hx hb dX13_named_162 (by decide) ?_
                  refine lv_iload_n hx hb dX13_named_173 rfl (lv_at hl 6 rfl) ?_
                  refine lv_if_eq (tgt := 182) hx hb dX13_named_174 (by decide) (fun _ => ?_) (fun k128 => absurd k128 (by decide))
                  have q129 : (u118.1 0 47).toInt = (u102.1 0 47).toInt := congrArg Int32.toInt ((fr117.2.1 47 (by decide)).trans (show (wA (wA u102 11 ((u102.1 0 12).toNatClampNeg) r112) 0 12 ((u102.1 0 12) + (1 : Int32))).1 0 47 = (u102.1 0 47) by rfl))
                  have q130 : (u118.1 0 12).toInt = ((u102.1 0 12) + (1 : Int32)).toInt := congrArg Int32.toInt ((fr117.2.1 12 (by decide)).trans (show (wA (wA u102 11 ((u102.1 0 12).toNatClampNeg) r112) 0 12 ((u102.1 0 12) + (1 : Int32))).1 0 12 = ((u102.1 0 12) + (1 : Int32)) by rfl))
                  have q131 : (u118.1 0 39).toInt = (u102.1 0 39).toInt := congrArg Int32.toInt ((fr117.2.1 39 (by decide)).trans (show (wA (wA u102 11 ((u102.1 0 12).toNatClampNeg) r112) 0 12 ((u102.1 0 12) + (1 : Int32))).1 0 39 = (u102.1 0 39) by rfl))
                  have q132 : (u118.1 0 32).toInt = (u102.1 0 32).toInt := congrArg Int32.toInt ((fr117.2.1 32 (by decide)).trans (show (wA (wA u102 11 ((u102.1 0 12).toNatClampNeg) r112) 0 12 ((u102.1 0 12) + (1 : Int32))).1 0 32 = (u102.1 0 32) by rfl))
                  have q133 : (u118.1 0 48).toInt = (u102.1 0 48).toInt := congrArg Int32.toInt ((fr117.2.1 48 (by decide)).trans (show (wA (wA u102 11 ((u102.1 0 12).toNatClampNeg) r112) 0 12 ((u102.1 0 12) + (1 : Int32))).1 0 48 = (u102.1 0 48) by rfl))
                  refine vx_ret ?_
                  exact W.vret hx hb hr (fun t ht9 hW => ⟨⟨(wA (wA (wA u118 13 ((u118.1 0 15).toNatClampNeg) (6 : Int32)) 14 ((u118.1 0 15).toNatClampNeg) (0 : Int32)) 0 15 ((u118.1 0 15) + (1 : Int32))), rfl, ⟨(FG.f (FG.a (FG.a (FG.tr (FG.f (FG.a (FG.tr (FG.f (FG.rf _) ((v.1 0 47) + (1 : Int32)) (by decide)) (FG.up fr101 (by decide) (by decide))) ((u102.1 0 12).toNatClampNeg) r112 (by decide) (by decide)) ((u102.1 0 12) + (1 : Int32)) (by decide)) (FG.up fr117 (by decide) (by decide))) ((u118.1 0 15).toNatClampNeg) (6 : Int32) (by decide) (by decide)) ((u118.1 0 15).toNatClampNeg) (0 : Int32) (by decide) (by decide)) ((u118.1 0 15) + (1 : Int32)) (by decide)), ⟨zt, zop, zkn, zhi, zs, zws, zos, zfs, zcs, zgl, r5, ex3, ⟨b3, e3⟩, r8, ex6, ⟨a6, b6⟩, (Or.inr (⟨z45, r48, ex46, ⟨a46, b46⟩, z51, (Or.inr (⟨z57, z60, (Or.inr (⟨z91, (Or.inl ⟨z93, (Or.inr (⟨ex94, ⟨a94, b94⟩, z100, (Or.inr (⟨u102, ex101, ⟨fr101, pt101, pb101, pw101, po101, pf101, pk101, pp101, ph101⟩, z109, r112, ex110, u118, ex117, ⟨fr117, pf117⟩, rfl, rfl⟩))⟩))⟩)⟩))⟩))⟩))⟩, (show (v.1 0 47).toInt + 1 ≤ (u118.1 0 47).toInt ∧ (u118.1 0 47).toInt ≤ 1500 from (om_756853884c z2 pt101 q129)), (show (v.1 0 49).toInt ≠ (v.1 0 47).toInt from (om_32294a9ce4 b94)), (show (v.1 0 12).toInt ≤ (u118.1 0 12).toInt ∧ (u118.1 0 12).toInt - 15 * (u118.1 0 47).toInt ≤ (v.1 0 12).toInt - 15 * (v.1 0 47).toInt from (om_5af3e01215 z2 pw101 z116 q130 q129)), (show (v.1 0 15).toInt ≤ ((u118.1 0 15) + (1 : Int32)).toInt ∧ ((u118.1 0 15) + (1 : Int32)).toInt - 10 * (u118.1 0 47).toInt ≤ (v.1 0 15).toInt - 10 * (v.1 0 47).toInt from (om_5349c897ee z2 po101 q121 q129 z125)), (show (v.1 0 43).toInt ≤ (u118.1 0 43).toInt ∧ (u118.1 0 43).toInt - 15 * (u118.1 0 47).toInt ≤ (v.1 0 43).toInt - 15 * (v.1 0 47).toInt from (om_015b1a0cdd z2 pf101 q129 pf117)), (show (v.1 0 39).toInt ≤ (u118.1 0 39).toInt ∧ (u118.1 0 39).toInt - 1 * (u118.1 0 47).toInt ≤ (v.1 0 39).toInt - 1 * (v.1 0 47).toInt from (om_0b54e9eb95 z2 pk101 q131 q129)), (show (u118.1 0 32).toInt = (v.1 0 32).toInt ∧ (u118.1 0 48).toInt = (v.1 0 48).toInt from (om_69f55e9431 pp101 q132 q133)), (show (v.1 0 33).toInt ≤ (u118.1 0 33).toInt ∧ (u118.1 0 33).toInt ≤ 500 from (om_06b267353f ph101 q126)), (fun (j9 : Nat) hj9 => (Eq.trans (congrFun (fr117.2.2 11 (by decide)) j9) (Eq.trans (pk_un3 (a := (u102.1 0 12).toInt) rfl (om_1ce1b92b31 zws pw101) (om_e81726c0b3 pw101 hj9)) (kc101 j9 (om_4fe904e9bf hj9))))), (fun (j9 : Nat) hj9 => (Eq.trans (pk_un3 (a := (u118.1 0 15).toInt) rfl (om_b01590be12 zos po101 q121) (om_32d84a698c po101 q121 hj9)) (Eq.trans (congrFun (fr117.2.2 13 (by decide)) j9) (ko101 j9 (om_4fe904e9bf hj9))))), (fun (j9 : Nat) hj9 => (Eq.trans (pk_un3 (a := (u118.1 0 15).toInt) rfl (om_b01590be12 zos po101 q121) (om_32d84a698c po101 q121 hj9)) (Eq.trans (congrFun (fr117.2.2 14 (by decide)) j9) (kg101 j9 (om_4fe904e9bf hj9))))), (fun (j9 : Nat) hj9 => (Eq.trans (congrFun (fr117.2.2 36 (by decide)) j9) (k36101 j9 (om_4fe904e9bf hj9)))), (fun (j9 : Nat) hj9 => (Eq.trans (congrFun (fr117.2.2 38 (by decide)) j9) (k38101 j9 (om_4fe904e9bf hj9)))), (AR.o (AR.o (AR.o (show AR 35 0 1500 u118 from AR.fr (fl := [43]) (al := [0, 40, 41, 42]) fr117 (by decide) (AR.o (AR.o a35101 (by decide)) (by decide))) (by decide)) (by decide)) (by decide)), (AR.o (AR.o (AR.o (show AR 37 0 23999 u118 from AR.fr (fl := [43]) (al := [0, 40, 41, 42]) fr117 (by decide) (AR.o (AR.o a37101 (by decide)) (by decide))) (by decide)) (by decide)) (by decide)), (AR.o (AR.o (AR.o (show AR 38 0 15999 u118 from AR.fr (fl := [43]) (al := [0, 40, 41, 42]) fr117 (by decide) (AR.o (AR.o a38101 (by decide)) (by decide))) (by decide)) (by decide)) (by decide)), (AR.o (AR.o (AR.o a40117 (by decide)) (by decide)) (by decide)), (FX.o (FX.o (FX.o fx117 (by decide) (by decide)) (by decide) (by decide)) (by decide) (by decide)), (fun hiv => (IV.o (IV.o (IV.o (iv117 (IV.o (IV.o (iv101 (IV.o hiv (by decide))) (by decide)) (by decide))) (by decide)) (by decide)) (by decide))), (SGE.mono (SGE.setB sg127 rfl) (show 1 + (u118.1 0 33).toInt - (v.1 0 30).toInt - (v.1 0 32).toInt ≤ 1 + (u118.1 0 33).toInt - (v.1 0 30).toInt - (v.1 0 32).toInt from om_e96b194f74))⟩, by rw [ht9]; exact hP, hD⟩, hS.F ht9⟩) hS.2.2 dX13_named_182
            · have z134 : r5.toInt ≠ (1 : Int) := ne_z rfl (show (1 : Int32).toInt = (1 : Int) by decide) h92
              refine lv_aload_n hx hb dX13_named_75 rfl (lv_at hl 4 rfl) ?_
              refine lv_iconst (v := 3) hx hb dX13_named_76 (by decide) ?_
              refine lv_aload_n hx hb dX13_named_77 rfl (lv_at hl 4 rfl) ?_
              refine va_get (D := (dC, dI)) (ci := 16) (fs := mF ad v) (v := .int (v.1 0 47)) (C := RX13) (T := TX13) (N := 124) hx hb ht itX13 hown hK hP 0 rfl rfl 47 (by decide) (ht _ tw_24) (fun _ h9 => h9) rfl dX13_named_78 ?_
              refine cu_r (rn_V (n := 2) (As := [.int 3, .int (v.1 0 47)]) (rest := []) hx hb hml hown ht hKK hFx hP hD hS hA (c_m_fail l dC dI cI cB cZ cJ cR tb H.size ad N v (3 : Int32) (v.1 0 47) (show 0 ≤ (v.1 0 47).toInt ∧ (v.1 0 47).toInt < 4002 from (om_d0702dcce3 zt zfs))) tw_25 tw_26 (by decide +kernel) rfl rfl ⟨show 0 + 1 ≤ 40 * n + 8 from om_bf396309a0, show 8 + (3 + 11) + 0 ≤ 28 * (40 * n + 8) from om_6567089ecb⟩ (List.range (mW ad N cI cZ cJ v).length) (rg_map _) (mW_nd _ _ _ _ _ _) rfl rfl rfl rfl hl.1 rfl (Nat.le_of_ble_eq_true rfl) dX13_named_81 ⟨Nat.le_of_ble_eq_true rfl, Nat.le_of_ble_eq_true rfl⟩) hP hD hS hA (fun u136 H locs hw135 hP hD hS => ?_)
              obtain rfl := hw135
              have hP : va_P (dC, dI) vwCl (mW ad N cI cZ cJ (wA (wA v 0 50 (3 : Int32)) 0 51 ((v.1 7) (v.1 0 47).toNatClampNeg))) H := hP
              have hD : va_D A (mW ad N cI cZ cJ (wA (wA v 0 50 (3 : Int32)) 0 51 ((v.1 7) (v.1 0 47).toNatClampNeg))) := hD
              refine W.widen (k := 0) (n := 0) (Nat.le_refl _) (Nat.le_refl _) ?_
              obtain ⟨ce9, hc9, hv9, hf9⟩ := halt_at hK hP
              refine um_athrow hx hb dX13_named_84 ?_
              exact vx_out (fun x h9 => (hnt x h9).elim) hlocks hc9 hv9 hf9 (fun t9 ht9 hv8 => ⟨(wA (wA v 0 50 (3 : Int32)) 0 51 ((v.1 7) (v.1 0 47).toNatClampNeg)), ⟨(FG.f (FG.f (FG.rf _) (3 : Int32) (by decide)) ((v.1 7) (v.1 0 47).toNatClampNeg) (by decide)), fun hiv => (IV.o (IV.o hiv (by decide)) (by decide)), ⟨zt, zop, zkn, zhi, zs, zws, zos, zfs, zcs, zgl, r5, ex3, ⟨b3, e3⟩, r8, ex6, ⟨a6, b6⟩, (Or.inr (⟨z45, r48, ex46, ⟨a46, b46⟩, z51, (Or.inr (⟨z57, z60, (Or.inr (⟨z91, (Or.inr (⟨z134, rfl, rfl⟩))⟩))⟩))⟩))⟩⟩, ⟨rfl, by rw [ht9]; exact hP, hD⟩, hS.F ht9⟩) hS.2.2 (Nat.le_refl _) (Nat.le_refl _)
