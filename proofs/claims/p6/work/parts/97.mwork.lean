theorem dX13_work_0 : decode cX13_work 0 = .ok (.aload_n 0, 1) := by decide +kernel
theorem dX13_work_1 : decode cX13_work 1 = .ok (.iload_n 1, 1) := by decide +kernel
theorem dX13_work_2 : decode cX13_work 2 = .ok (.ifCond .lt 11, 3) := by decide +kernel
theorem dX13_work_13 : decode cX13_work 13 = .ok (.iconst 1, 1) := by decide +kernel
theorem dX13_work_14 : decode cX13_work 14 = .ok (.goto 31, 3) := by decide +kernel
theorem dX13_work_45 : decode cX13_work 45 = .ok (.putfield 3, 3) := by decide +kernel
theorem dX13_work_48 : decode cX13_work 48 = .ok (.aload_n 0, 1) := by decide +kernel
theorem dX13_work_49 : decode cX13_work 49 = .ok (.getfield 3, 3) := by decide +kernel
theorem dX13_work_52 : decode cX13_work 52 = .ok (.ifCond .le 5, 3) := by decide +kernel
theorem dX13_work_55 : decode cX13_work 55 = .ok (.iconst 0, 1) := by decide +kernel
theorem dX13_work_56 : decode cX13_work 56 = .ok (.ireturn, 1) := by decide +kernel
theorem dX13_work_5 : decode cX13_work 5 = .ok (.iload_n 1, 1) := by decide +kernel
theorem dX13_work_6 : decode cX13_work 6 = .ok (.aload_n 0, 1) := by decide +kernel
theorem dX13_work_7 : decode cX13_work 7 = .ok (.getfield 609, 3) := by decide +kernel
theorem dX13_work_10 : decode cX13_work 10 = .ok (.if_icmp .lt 7, 3) := by decide +kernel
theorem dX13_work_17 : decode cX13_work 17 = .ok (.aload_n 0, 1) := by decide +kernel
theorem dX13_work_18 : decode cX13_work 18 = .ok (.getfield 525, 3) := by decide +kernel
theorem dX13_work_21 : decode cX13_work 21 = .ok (.iload_n 1, 1) := by decide +kernel
theorem dX13_work_22 : decode cX13_work 22 = .ok (.iaload, 1) := by decide +kernel
theorem dX13_work_23 : decode cX13_work 23 = .ok (.iconst 2, 1) := by decide +kernel
theorem dX13_work_24 : decode cX13_work 24 = .ok (.if_icmp .gt 16, 3) := by decide +kernel
theorem dX13_work_40 : decode cX13_work 40 = .ok (.iconst 2, 1) := by decide +kernel
theorem dX13_work_41 : decode cX13_work 41 = .ok (.goto 4, 3) := by decide +kernel
theorem dX13_work_27 : decode cX13_work 27 = .ok (.iload 4, 2) := by decide +kernel
theorem dX13_work_29 : decode cX13_work 29 = .ok (.ifCond .lt 11, 3) := by decide +kernel
theorem dX13_work_32 : decode cX13_work 32 = .ok (.iload 4, 2) := by decide +kernel
theorem dX13_work_34 : decode cX13_work 34 = .ok (.sipush 20000, 3) := by decide +kernel
theorem dX13_work_37 : decode cX13_work 37 = .ok (.if_icmp .le 7, 3) := by decide +kernel
theorem dX13_work_44 : decode cX13_work 44 = .ok (.iconst 0, 1) := by decide +kernel
theorem dX13_work_57 : decode cX13_work 57 = .ok (.aload_n 0, 1) := by decide +kernel
theorem dX13_work_58 : decode cX13_work 58 = .ok (.iconst 0, 1) := by decide +kernel
theorem dX13_work_59 : decode cX13_work 59 = .ok (.putfield 809, 3) := by decide +kernel
theorem dX13_work_62 : decode cX13_work 62 = .ok (.aload_n 0, 1) := by decide +kernel
theorem dX13_work_63 : decode cX13_work 63 = .ok (.iconst 0, 1) := by decide +kernel
theorem dX13_work_64 : decode cX13_work 64 = .ok (.putfield 827, 3) := by decide +kernel
theorem dX13_work_67 : decode cX13_work 67 = .ok (.aload_n 0, 1) := by decide +kernel
theorem dX13_work_68 : decode cX13_work 68 = .ok (.iconst 0, 1) := by decide +kernel
theorem dX13_work_69 : decode cX13_work 69 = .ok (.putfield 833, 3) := by decide +kernel
theorem dX13_work_72 : decode cX13_work 72 = .ok (.aload_n 0, 1) := by decide +kernel
theorem dX13_work_73 : decode cX13_work 73 = .ok (.iconst 0, 1) := by decide +kernel
theorem dX13_work_74 : decode cX13_work 74 = .ok (.putfield 830, 3) := by decide +kernel
theorem dX13_work_77 : decode cX13_work 77 = .ok (.aload_n 0, 1) := by decide +kernel
theorem dX13_work_78 : decode cX13_work 78 = .ok (.iconst 0, 1) := by decide +kernel
theorem dX13_work_79 : decode cX13_work 79 = .ok (.putfield 812, 3) := by decide +kernel
theorem dX13_work_82 : decode cX13_work 82 = .ok (.aload_n 0, 1) := by decide +kernel
theorem dX13_work_83 : decode cX13_work 83 = .ok (.iload 4, 2) := by decide +kernel
theorem dX13_work_85 : decode cX13_work 85 = .ok (.putfield 815, 3) := by decide +kernel
theorem dX13_work_88 : decode cX13_work 88 = .ok (.aload_n 0, 1) := by decide +kernel
theorem dX13_work_89 : decode cX13_work 89 = .ok (.iconst 0, 1) := by decide +kernel
theorem dX13_work_90 : decode cX13_work 90 = .ok (.putfield 818, 3) := by decide +kernel
theorem dX13_work_93 : decode cX13_work 93 = .ok (.aload_n 0, 1) := by decide +kernel
theorem dX13_work_94 : decode cX13_work 94 = .ok (.iconst 0, 1) := by decide +kernel
theorem dX13_work_95 : decode cX13_work 95 = .ok (.putfield 824, 3) := by decide +kernel
theorem dX13_work_98 : decode cX13_work 98 = .ok (.aload_n 0, 1) := by decide +kernel
theorem dX13_work_99 : decode cX13_work 99 = .ok (.iconst 0, 1) := by decide +kernel
theorem dX13_work_100 : decode cX13_work 100 = .ok (.putfield 856, 3) := by decide +kernel
theorem dX13_work_103 : decode cX13_work 103 = .ok (.aload_n 0, 1) := by decide +kernel
theorem dX13_work_104 : decode cX13_work 104 = .ok (.iconst 0, 1) := by decide +kernel
theorem dX13_work_105 : decode cX13_work 105 = .ok (.putfield 859, 3) := by decide +kernel
theorem dX13_work_108 : decode cX13_work 108 = .ok (.iconst 0, 1) := by decide +kernel
theorem dX13_work_109 : decode cX13_work 109 = .ok (.istore 5, 2) := by decide +kernel
theorem dX13_work_111 : decode cX13_work 111 = .ok (.iload 5, 2) := by decide +kernel
theorem dX13_work_113 : decode cX13_work 113 = .ok (.aload_n 0, 1) := by decide +kernel
theorem dX13_work_114 : decode cX13_work 114 = .ok (.getfield 615, 3) := by decide +kernel
theorem dX13_work_117 : decode cX13_work 117 = .ok (.if_icmp .ge 17, 3) := by decide +kernel
theorem dX13_work_134 : decode cX13_work 134 = .ok (.aload_n 0, 1) := by decide +kernel
theorem dX13_work_135 : decode cX13_work 135 = .ok (.getfield 525, 3) := by decide +kernel
theorem dX13_work_138 : decode cX13_work 138 = .ok (.iload_n 1, 1) := by decide +kernel
theorem dX13_work_139 : decode cX13_work 139 = .ok (.iaload, 1) := by decide +kernel
theorem dX13_work_140 : decode cX13_work 140 = .ok (.ifCond .le 8, 3) := by decide +kernel
theorem dX13_work_148 : decode cX13_work 148 = .ok (.aload_n 0, 1) := by decide +kernel
theorem dX13_work_149 : decode cX13_work 149 = .ok (.getfield 525, 3) := by decide +kernel
theorem dX13_work_152 : decode cX13_work 152 = .ok (.iload_n 1, 1) := by decide +kernel
theorem dX13_work_153 : decode cX13_work 153 = .ok (.iaload, 1) := by decide +kernel
theorem dX13_work_154 : decode cX13_work 154 = .ok (.iconst 1, 1) := by decide +kernel
theorem dX13_work_155 : decode cX13_work 155 = .ok (.if_icmp .le 8, 3) := by decide +kernel
theorem dX13_work_163 : decode cX13_work 163 = .ok (.aload_n 0, 1) := by decide +kernel
theorem dX13_work_164 : decode cX13_work 164 = .ok (.aload_n 0, 1) := by decide +kernel
theorem dX13_work_165 : decode cX13_work 165 = .ok (.iload_n 1, 1) := by decide +kernel
theorem dX13_work_166 : decode cX13_work 166 = .ok (.invokevirtual 844, 3) := by decide +kernel
theorem dX13_work_169 : decode cX13_work 169 = .ok (.putfield 862, 3) := by decide +kernel
theorem dX13_work_172 : decode cX13_work 172 = .ok (.aload_n 0, 1) := by decide +kernel
theorem dX13_work_173 : decode cX13_work 173 = .ok (.getfield 862, 3) := by decide +kernel
theorem dX13_work_176 : decode cX13_work 176 = .ok (.iconst (-1), 1) := by decide +kernel
theorem dX13_work_177 : decode cX13_work 177 = .ok (.if_icmp .ne 14, 3) := by decide +kernel
theorem dX13_work_191 : decode cX13_work 191 = .ok (.aload_n 0, 1) := by decide +kernel
theorem dX13_work_192 : decode cX13_work 192 = .ok (.aload_n 0, 1) := by decide +kernel
theorem dX13_work_193 : decode cX13_work 193 = .ok (.getfield 862, 3) := by decide +kernel
theorem dX13_work_196 : decode cX13_work 196 = .ok (.ifCond .ne 10, 3) := by decide +kernel
theorem dX13_work_206 : decode cX13_work 206 = .ok (.iconst 0, 1) := by decide +kernel
theorem dX13_work_207 : decode cX13_work 207 = .ok (.putfield 868, 3) := by decide +kernel
theorem dX13_work_210 : decode cX13_work 210 = .ok (.aload_n 0, 1) := by decide +kernel
theorem dX13_work_211 : decode cX13_work 211 = .ok (.iconst 1, 1) := by decide +kernel
theorem dX13_work_212 : decode cX13_work 212 = .ok (.putfield 621, 3) := by decide +kernel
theorem dX13_work_215 : decode cX13_work 215 = .ok (.aload_n 0, 1) := by decide +kernel
theorem dX13_work_216 : decode cX13_work 216 = .ok (.getfield 862, 3) := by decide +kernel
theorem dX13_work_219 : decode cX13_work 219 = .ok (.ireturn, 1) := by decide +kernel
theorem dX13_work_199 : decode cX13_work 199 = .ok (.aload_n 0, 1) := by decide +kernel
theorem dX13_work_200 : decode cX13_work 200 = .ok (.invokevirtual 839, 3) := by decide +kernel
theorem dX13_work_203 : decode cX13_work 203 = .ok (.goto 4, 3) := by decide +kernel
theorem dX13_work_180 : decode cX13_work 180 = .ok (.aload_n 0, 1) := by decide +kernel
theorem dX13_work_181 : decode cX13_work 181 = .ok (.aload_n 0, 1) := by decide +kernel
theorem dX13_work_182 : decode cX13_work 182 = .ok (.invokevirtual 865, 3) := by decide +kernel
theorem tw_356 : (.code yX13_obey cX13_obey 4 (some .int) : Cond) ∈ tw_W := tw_in (t8_13 (List.mem_of_getElem? (i := 45) rfl)) rfl
theorem tw_357 : ∀ w ∈ ([.methodLink RX13 865 yX13_obey, .instanceMethod yX13_obey, .selects RX13 yX13_obey yX13_obey, .initialized RX13] : List Cond), w ∈ tw_W := al_c (tw_in (t8_13 (List.mem_of_getElem? (i := 42) rfl)) rfl) (al_c (tw_in (t8_13 (List.mem_of_getElem? (i := 44) rfl)) rfl) (al_c (tw_in (t7_13 (q := (yX13_obey, 124)) (List.mem_of_getElem? (i := 7) rfl)) rfl) (al_c (tw_in (t8_1 (List.mem_of_getElem? (i := 23) rfl)) rfl) al_n)))
theorem dX13_work_185 : decode cX13_work 185 = .ok (.putfield 862, 3) := by decide +kernel
theorem dX13_work_188 : decode cX13_work 188 = .ok (.goto (-16), 3) := by decide +kernel
theorem dX13_work_143 : decode cX13_work 143 = .ok (.aload_n 0, 1) := by decide +kernel
theorem dX13_work_144 : decode cX13_work 144 = .ok (.iload_n 2, 1) := by decide +kernel
theorem dX13_work_145 : decode cX13_work 145 = .ok (.invokevirtual 836, 3) := by decide +kernel
theorem dX13_work_158 : decode cX13_work 158 = .ok (.aload_n 0, 1) := by decide +kernel
theorem dX13_work_159 : decode cX13_work 159 = .ok (.iload_n 3, 1) := by decide +kernel
theorem dX13_work_160 : decode cX13_work 160 = .ok (.invokevirtual 836, 3) := by decide +kernel
theorem dX13_work_120 : decode cX13_work 120 = .ok (.aload_n 0, 1) := by decide +kernel
theorem dX13_work_121 : decode cX13_work 121 = .ok (.getfield 591, 3) := by decide +kernel
theorem dX13_work_124 : decode cX13_work 124 = .ok (.iload 5, 2) := by decide +kernel
theorem dX13_work_126 : decode cX13_work 126 = .ok (.iconst 0, 1) := by decide +kernel
theorem dX13_work_127 : decode cX13_work 127 = .ok (.iastore, 1) := by decide +kernel
theorem dX13_work_128 : decode cX13_work 128 = .ok (.iinc 5 1, 3) := by decide +kernel
theorem dX13_work_131 : decode cX13_work 131 = .ok (.goto (-20), 3) := by decide +kernel
theorem dX13_left_0 : decode cX13_left 0 = .ok (.aload_n 0, 1) := by decide +kernel
theorem dX13_left_1 : decode cX13_left 1 = .ok (.aload_n 0, 1) := by decide +kernel
theorem dX13_left_2 : decode cX13_left 2 = .ok (.getfield 621, 3) := by decide +kernel
theorem dX13_left_5 : decode cX13_left 5 = .ok (.ifCond .eq 29, 3) := by decide +kernel
theorem dX13_left_34 : decode cX13_left 34 = .ok (.iconst 1, 1) := by decide +kernel
theorem dX13_left_35 : decode cX13_left 35 = .ok (.goto 4, 3) := by decide +kernel
theorem dX13_left_39 : decode cX13_left 39 = .ok (.putfield 3, 3) := by decide +kernel
theorem dX13_left_42 : decode cX13_left 42 = .ok (.aload_n 0, 1) := by decide +kernel
theorem dX13_left_43 : decode cX13_left 43 = .ok (.getfield 3, 3) := by decide +kernel
theorem dX13_left_46 : decode cX13_left 46 = .ok (.ifCond .le 7, 3) := by decide +kernel
theorem dX13_left_49 : decode cX13_left 49 = .ok (.iconst 0, 1) := by decide +kernel
theorem dX13_left_50 : decode cX13_left 50 = .ok (.goto 16, 3) := by decide +kernel
theorem dX13_left_66 : decode cX13_left 66 = .ok (.ireturn, 1) := by decide +kernel
theorem dX13_left_8 : decode cX13_left 8 = .ok (.iload_n 1, 1) := by decide +kernel
theorem dX13_left_9 : decode cX13_left 9 = .ok (.ifCond .lt 25, 3) := by decide +kernel
theorem dX13_left_12 : decode cX13_left 12 = .ok (.iload_n 1, 1) := by decide +kernel
theorem dX13_left_13 : decode cX13_left 13 = .ok (.aload_n 0, 1) := by decide +kernel
theorem dX13_left_14 : decode cX13_left 14 = .ok (.getfield 612, 3) := by decide +kernel
theorem dX13_left_17 : decode cX13_left 17 = .ok (.if_icmp .ge 17, 3) := by decide +kernel
theorem dX13_left_20 : decode cX13_left 20 = .ok (.iload_n 2, 1) := by decide +kernel
theorem dX13_left_21 : decode cX13_left 21 = .ok (.ifCond .lt 13, 3) := by decide +kernel
theorem dX13_left_24 : decode cX13_left 24 = .ok (.iload_n 2, 1) := by decide +kernel
theorem dX13_left_25 : decode cX13_left 25 = .ok (.aload_n 0, 1) := by decide +kernel
theorem dX13_left_26 : decode cX13_left 26 = .ok (.getfield 546, 3) := by decide +kernel
theorem dX13_left_29 : decode cX13_left 29 = .ok (.iload_n 1, 1) := by decide +kernel
theorem dX13_left_30 : decode cX13_left 30 = .ok (.iaload, 1) := by decide +kernel
theorem dX13_left_31 : decode cX13_left 31 = .ok (.if_icmp .lt 7, 3) := by decide +kernel
theorem dX13_left_38 : decode cX13_left 38 = .ok (.iconst 0, 1) := by decide +kernel
theorem dX13_left_53 : decode cX13_left 53 = .ok (.aload_n 0, 1) := by decide +kernel
theorem dX13_left_54 : decode cX13_left 54 = .ok (.getfield 591, 3) := by decide +kernel
theorem dX13_left_57 : decode cX13_left 57 = .ok (.aload_n 0, 1) := by decide +kernel
theorem dX13_left_58 : decode cX13_left 58 = .ok (.getfield 549, 3) := by decide +kernel
theorem dX13_left_61 : decode cX13_left 61 = .ok (.iload_n 1, 1) := by decide +kernel
theorem dX13_left_62 : decode cX13_left 62 = .ok (.iaload, 1) := by decide +kernel
theorem dX13_left_63 : decode cX13_left 63 = .ok (.iload_n 2, 1) := by decide +kernel
theorem dX13_left_64 : decode cX13_left 64 = .ok (.iadd, 1) := by decide +kernel
theorem dX13_left_65 : decode cX13_left 65 = .ok (.iaload, 1) := by decide +kernel
theorem om_f303dd80ea {x0 : Int} (h0 : 0 ≤ x0 ∧ x0 ≤ 4096) : 0 ≤ (0 : Int) ∧ (0 : Int) ≤ x0 := by omega
theorem om_cba83c4cfe {x0 x1 : Int} (h0 : 0 ≤ x0 ∧ x0 ≤ 4096) (h1 : x1 = x0) : x1 ≤ 4096 := by omega
theorem om_f692ffca1f {x0 x1 x2 : Int} (h0 : (0 : Int) ≤ x0) (h1 : x0 < x1) (h2 : x2 = x1) : 0 ≤ x0 ∧ x0 < x2 := by omega
theorem om_50bdaf9c83 {x0 x1 : Int} (h0 : (0 : Int) ≤ x0) (h1 : x0 ≤ (20000 : Int)) (h2 : x1 = x0) : 0 ≤ x1 ∧ x1 ≤ 20000 := by omega
theorem om_6516deb4d6 {x0 x1 x2 : Int} (h0 : 0 ≤ x0 ∧ x0 ≤ 8) (h1 : x1 = (0 : Int)) (h2 : x2 = x0) (h3 : x2 ≤ (0 : Int)) : x1 = x0 := by omega
theorem om_43e4364dbb {x0 x1 x2 : Int} (h0 : 0 ≤ x0 ∧ x0 ≤ 40) (h1 : (0 : Int) ≤ x1) (h2 : x1 < x0) (h3 : x2 = x0) : 0 ≤ x2 ∧ x2 ≤ 40 := by omega
theorem om_346c2236bb {x0 x1 : Int} (h0 : 0 ≤ x0 ∧ x0 ≤ 16384) (h1 : x1 = x0) : 0 ≤ x1 ∧ x1 ≤ 16384 := by omega
theorem om_6723dddc65 {x0 : Int} (h0 : x0 = 1) : 1 ≤ x0 ∧ x0 ≤ 24000 := by omega
theorem om_fd30962fc3 {x0 : Int} (h0 : x0 = 1) : -2147483648 ≤ (x0) - (1 : Int) := by omega
theorem om_1b24a136d8 {x0 : Int} (h0 : x0 = 1) : (x0) - (1 : Int) < 2147483648 := by omega
theorem om_f14b981263 {x0 x1 x2 x3 x4 : Int} (h0 : 0 ≤ x0 ∧ x0 ≤ 40) (h1 : (0 : Int) ≤ x1) (h2 : x1 < x0) (h3 : x2 = x0) (h4 : x3 = x2) (h5 : x4 = x3) : 0 ≤ x4 ∧ x4 ≤ 40 := by omega
theorem om_b2080334c4 {x0 x1 x2 x3 : Int} (h0 : 0 ≤ x0 ∧ x0 ≤ 16384) (h1 : x1 = x0) (h2 : x2 = x1) (h3 : x3 = x2) : 0 ≤ x3 ∧ x3 ≤ 16384 := by omega
theorem om_693dcb14ec {x0 x1 x2 x3 : Int} (h0 : 0 ≤ x0 ∧ x0 ≤ 64) (h1 : x1 = x0) (h2 : x2 = x1) (h3 : x3 = x2) : 0 ≤ x3 ∧ x3 ≤ 64 := by omega
theorem om_49d00272e1 {x0 : Int} (h0 : x0 ≤ (0 : Int)) (h1 : (1 : Int) < x0) : False := by omega
theorem om_906fee7379 {x0 x1 x2 x3 : Int} (h0 : x0 = (0 : Int)) (h1 : x1 = x2) (h2 : (0 : Int) < x1) (h3 : x3 = (x0) + (1 : Int)) (h4 : x1 ≤ (1 : Int)) : x3 = x2 := by omega
theorem om_bfdc5e0726 {x0 x1 : Int} (h0 : x0 = (0 : Int)) (h1 : x1 = (x0) + (1 : Int)) : 0 ≤ x1 ∧ x1 < 24000 := by omega
theorem om_9580fbf78a {x0 : Int} (h0 : x0 = (0 : Int)) : -2147483648 ≤ ((x0) + (1 : Int)) + (1 : Int) := by omega
theorem om_e5f7852bef {x0 : Int} (h0 : x0 = (0 : Int)) : ((x0) + (1 : Int)) + (1 : Int) < 2147483648 := by omega
theorem om_0b19103be4 {x0 x1 x2 x3 : Int} (h0 : x0 ≤ (2 : Int)) (h1 : x1 = (0 : Int)) (h2 : x2 = x0) (h3 : (1 : Int) < x2) (h4 : x3 = ((x1) + (1 : Int)) + (1 : Int)) : x3 = x0 := by omega
theorem om_aa431f07b6 {x0 x1 : Int} (h0 : 0 ≤ x0 ∧ x0 ≤ 4096) (h1 : 0 ≤ x1 ∧ x1 ≤ x0) : x1 < 4200 := by omega
theorem om_35de616de3 {x0 x1 : Int} (h0 : 0 ≤ x0 ∧ x0 ≤ 4096) (h1 : 0 ≤ x1 ∧ x1 ≤ x0) : x1 + (1 : Int) < 2147483648 := by omega
theorem om_157719f23f {x0 x1 : Int} (h0 : x0 = x1 + (1 : Int)) : 4096 - x0 < 4096 - x1 := by omega
theorem om_2aef6c0598 {x0 x1 x2 : Int} (h0 : 0 ≤ x0 ∧ x0 ≤ 4096) (h1 : x1 = x0) (h2 : x2 < x1) : 0 < 4096 - x2 := by omega
set_option maxHeartbeats 4000000 in
set_option maxRecDepth 100000 in
theorem c_m_work (l : Launch) (dC : Nat → ClassId) (dI : Nat → Nat → Nat) (cI cB cZ cJ cR : ClassId) (tb : Nat → Nat) (sz : Nat) (ad : Nat → Nat) (N : Nat) (v : MS) (pa : Int32) (pb : Int32) (pc1 : Int32) (pd : Int32) (bg : BG v) (bf : BF v) (zn : 0 ≤ (v.1 0 76).toInt ∧ (v.1 0 76).toInt ≤ 4096) (zN : (256 : Int) ≤ (N : Int) ∧ (N : Int) ≤ 4096) (zbf : 0 ≤ (v.1 0 74).toInt ∧ (v.1 0 74).toInt ≤ 40) (zbg : 0 ≤ (v.1 0 75).toInt ∧ (v.1 0 75).toInt ≤ 60) (zli : 0 ≤ (v.1 0 77).toInt ∧ (v.1 0 77).toInt ≤ 16384) (zg : 0 ≤ (v.1 0 94).toInt ∧ (v.1 0 94).toInt ≤ 64) (a78 : AR 78 0 8 v) (a79 : AR 79 0 2008 v) (a82 : AR 82 0 500 v) : Met l yX13_work (Cond.code yX13_work cX13_work 6 (some .int) :: tw_W) ({ frames := 4, cells := 0, slots := 0, locals := 88 }) (pc_ (dC, dI) (tyS cI cB cZ cJ cR) tb (mW ad N cI cZ cJ v) sz [.ref (ad 0), .int pa, .int pb, .int pc1, .int pd]) (qi_ (dC, dI) (mW ad N cI cZ cJ v) sz (fun (r : Int32) (u : MS) => FG [0, 106, 110, 111, 112, 113, 114, 115, 116, 119, 120, 121, 122, 123] [0, 105, 107, 108, 109, 117, 118] v u ∧ (Q_m_work v pa pb pc1 pd N r u)) (fun (u : MS) => (mW ad N cI cZ cJ u))) 0 0 (va_A (mW ad N cI cZ cJ v) sz) := by
  refine Met.ofW (cc := cX13_work) (maxL := 6) (ret := (some .int)) (by decide) rfl ?_
  intro p e s m args below meth c s₁ B hml hv
  obtain ⟨rfl, hsz, hP, hKK, hD0, hFx⟩ := hv
  have hK := hKK.1
  have hx := B.exec
  have hb := B.bytes
  have hr := B.returns
  have ht : ∀ w ∈ tw_W, w.before _ s = true := fun w h => atoms_spec (ws := Cond.code yX13_work cX13_work 6 (some .int) :: tw_W) B.pre w (List.mem_cons_of_mem _ h)
  have hown : s.vm.findClass RX13 = some m.cls := findClass_of_methodNamed B.named
  have hlocks := B.notSynchronized
  subst hsz
  unfold qi_
  have hD := hD0.self (sz := s.heap.size)
  generalize hAe : va_A (mW ad N cI cZ cJ v) s.heap.size = A at hD hFx ⊢
  have hA : ∀ q : Nat, s.heap.size ≤ q → A q := fun q h => by rw [← hAe]; exact Or.inr h
  have hS : va_S A s.heap s.heap [] := va_S.rf
  have hl := lv_entry ([.ref (ad 0), .int pa, .int pb, .int pc1, .int pd]) (n := 6) (Nat.le_of_ble_eq_true rfl)
  rw [lg_entry_eq]
  generalize (lg_sl ([.ref (ad 0), .int pa, .int pb, .int pc1, .int pd]) ++ List.replicate (6 - (lg_sl ([.ref (ad 0), .int pa, .int pb, .int pc1, .int pd])).length) Slot.unset).toArray = ls at hl ⊢
  have hl : lv_has ls 6 [(0, .ref (ad 0)), (1, .int pa), (2, .int pb), (3, .int pc1), (4, .int pd)] := hl
  refine lv_aload_n hx hb dX13_work_0 rfl (lv_at hl 0 rfl) ?_
  refine lv_iload_n hx hb dX13_work_1 rfl (lv_at hl 1 rfl) ?_
  refine lv_if_lt (tgt := 13) hx hb dX13_work_2 (by decide) (fun h1 => ?_) (fun h1 => ?_)
  · have z2 : pa.toInt < (0 : Int) := lt_z rfl (show (0 : Int32).toInt = (0 : Int) by decide) h1
    refine lv_iconst (v := 1) hx hb dX13_work_13 (by decide) ?_
    refine lv_goto (tgt := 45) hx hb dX13_work_14 (by decide) ?_
    refine va_put (D := (dC, dI)) (ci := 16) (fs := mF ad v) (v := .int 1) (ty := .int) (C := RX13) (T := TX13) (N := 124) hx hb ht itX13 tyX13 tyX13_ok nmX13 hown hK hP hD hS 0 rfl rfl 0 (by decide) (ht _ tw_246) (fun _ h9 => h9) rfl (by decide +kernel) rfl rfl (Nat.le_of_ble_eq_true rfl) dX13_work_45 (fun H locs hP hD hS => ?_)
    have hP := cP_ (mw_0 ad N cI cZ cJ v 1) hP
    have hD := cD_ (mw_0 ad N cI cZ cJ v 1) hD
    refine lv_aload_n hx hb dX13_work_48 rfl (lv_at hl 0 rfl) ?_
    refine va_get (D := (dC, dI)) (ci := 16) (fs := mF ad (wA v 0 0 1)) (v := .int 1) (C := RX13) (T := TX13) (N := 124) hx hb ht itX13 hown hK hP 0 rfl rfl 0 (by decide) (ht _ tw_246) (fun _ h9 => h9) rfl dX13_work_49 ?_
    refine lv_if_le (tgt := 57) hx hb dX13_work_52 (by decide) (fun k3 => absurd k3 (by decide)) (fun _ => ?_)
    refine lv_iconst (v := 0) hx hb dX13_work_55 (by decide) ?_
    exact W.iret (v := 0) hx hb hr (fun t ht9 hW => ⟨⟨0, (wA v 0 0 1), rfl, ⟨(FG.f (FG.rf _) 1 (by decide)), ⟨zn, zbf, zbg, zli, zg, (Or.inl ⟨z2, rfl, rfl⟩)⟩⟩, by rw [ht9]; exact hP, hD⟩, hS.F ht9⟩) hS.2.2 dX13_work_56
  · have z4 : (0 : Int) ≤ pa.toInt := nlt_z rfl (show (0 : Int32).toInt = (0 : Int) by decide) h1
    refine lv_iload_n hx hb dX13_work_5 rfl (lv_at hl 1 rfl) ?_
    refine lv_aload_n hx hb dX13_work_6 rfl (lv_at hl 0 rfl) ?_
    refine va_get (D := (dC, dI)) (ci := 16) (fs := mF ad v) (v := .int (v.1 0 74)) (C := RX13) (T := TX13) (N := 124) hx hb ht itX13 hown hK hP 0 rfl rfl 74 (by decide) (ht _ tw_258) (fun _ h9 => h9) rfl dX13_work_7 ?_
    refine lv_icmp_lt (tgt := 17) hx hb dX13_work_10 (by decide) (fun h5 => ?_) (fun h5 => ?_)
    · have z6 : pa.toInt < (v.1 0 74).toInt := lt_z rfl rfl h5
      refine lv_aload_n hx hb dX13_work_17 rfl (lv_at hl 0 rfl) ?_
      refine va_get (D := (dC, dI)) (ci := 16) (fs := mF ad v) (v := .ref (ad 78)) (C := RX13) (T := TX13) (N := 124) hx hb ht itX13 hown hK hP 0 rfl rfl 78 (by decide) (ht _ tw_262) (fun _ h9 => h9) rfl dX13_work_18 ?_
      refine lv_iload_n hx hb dX13_work_21 rfl (lv_at hl 1 rfl) ?_
      refine va_iald (D := (dC, dI)) (f := (v.1 78)) hx hb hK hP 38 0 rfl rfl (in_y (a := pa.toInt) (b := 40) rfl (om_51058f7f87 z4) (om_f1d398b2a9 zbf z6) rfl) dX13_work_22 ?_
      refine lv_iconst (v := 2) hx hb dX13_work_23 (by decide) ?_
      refine lv_icmp_gt (tgt := 40) hx hb dX13_work_24 (by decide) (fun h7 => ?_) (fun h7 => ?_)
      · have z8 : (2 : Int) < ((v.1 78) pa.toNatClampNeg).toInt := lt_z (show (2 : Int32).toInt = (2 : Int) by decide) rfl h7
        refine lv_iconst (v := 2) hx hb dX13_work_40 (by decide) ?_
        refine lv_goto (tgt := 45) hx hb dX13_work_41 (by decide) ?_
        refine va_put (D := (dC, dI)) (ci := 16) (fs := mF ad v) (v := .int 2) (ty := .int) (C := RX13) (T := TX13) (N := 124) hx hb ht itX13 tyX13 tyX13_ok nmX13 hown hK hP hD hS 0 rfl rfl 0 (by decide) (ht _ tw_246) (fun _ h9 => h9) rfl (by decide +kernel) rfl rfl (Nat.le_of_ble_eq_true rfl) dX13_work_45 (fun H locs hP hD hS => ?_)
        have hP := cP_ (mw_0 ad N cI cZ cJ v 2) hP
        have hD := cD_ (mw_0 ad N cI cZ cJ v 2) hD
        refine lv_aload_n hx hb dX13_work_48 rfl (lv_at hl 0 rfl) ?_
        refine va_get (D := (dC, dI)) (ci := 16) (fs := mF ad (wA v 0 0 2)) (v := .int 2) (C := RX13) (T := TX13) (N := 124) hx hb ht itX13 hown hK hP 0 rfl rfl 0 (by decide) (ht _ tw_246) (fun _ h9 => h9) rfl dX13_work_49 ?_
        refine lv_if_le (tgt := 57) hx hb dX13_work_52 (by decide) (fun k9 => absurd k9 (by decide)) (fun _ => ?_)
        refine lv_iconst (v := 0) hx hb dX13_work_55 (by decide) ?_
        exact W.iret (v := 0) hx hb hr (fun t ht9 hW => ⟨⟨0, (wA v 0 0 2), rfl, ⟨(FG.f (FG.rf _) 2 (by decide)), ⟨zn, zbf, zbg, zli, zg, (Or.inr (⟨z4, (Or.inl ⟨z6, (Or.inl ⟨z8, rfl, rfl⟩)⟩)⟩))⟩⟩, by rw [ht9]; exact hP, hD⟩, hS.F ht9⟩) hS.2.2 dX13_work_56
      · have z10 : ((v.1 78) pa.toNatClampNeg).toInt ≤ (2 : Int) := nlt_z (show (2 : Int32).toInt = (2 : Int) by decide) rfl h7
        refine lv_iload hx hb dX13_work_27 (lv_at hl 4 rfl) ?_
        refine lv_if_lt (tgt := 40) hx hb dX13_work_29 (by decide) (fun h11 => ?_) (fun h11 => ?_)
        · have z12 : pd.toInt < (0 : Int) := lt_z rfl (show (0 : Int32).toInt = (0 : Int) by decide) h11
          refine lv_iconst (v := 2) hx hb dX13_work_40 (by decide) ?_
          refine lv_goto (tgt := 45) hx hb dX13_work_41 (by decide) ?_
          refine va_put (D := (dC, dI)) (ci := 16) (fs := mF ad v) (v := .int 2) (ty := .int) (C := RX13) (T := TX13) (N := 124) hx hb ht itX13 tyX13 tyX13_ok nmX13 hown hK hP hD hS 0 rfl rfl 0 (by decide) (ht _ tw_246) (fun _ h9 => h9) rfl (by decide +kernel) rfl rfl (Nat.le_of_ble_eq_true rfl) dX13_work_45 (fun H locs hP hD hS => ?_)
          have hP := cP_ (mw_0 ad N cI cZ cJ v 2) hP
          have hD := cD_ (mw_0 ad N cI cZ cJ v 2) hD
          refine lv_aload_n hx hb dX13_work_48 rfl (lv_at hl 0 rfl) ?_
          refine va_get (D := (dC, dI)) (ci := 16) (fs := mF ad (wA v 0 0 2)) (v := .int 2) (C := RX13) (T := TX13) (N := 124) hx hb ht itX13 hown hK hP 0 rfl rfl 0 (by decide) (ht _ tw_246) (fun _ h9 => h9) rfl dX13_work_49 ?_
          refine lv_if_le (tgt := 57) hx hb dX13_work_52 (by decide) (fun k13 => absurd k13 (by decide)) (fun _ => ?_)
          refine lv_iconst (v := 0) hx hb dX13_work_55 (by decide) ?_
          exact W.iret (v := 0) hx hb hr (fun t ht9 hW => ⟨⟨0, (wA v 0 0 2), rfl, ⟨(FG.f (FG.rf _) 2 (by decide)), ⟨zn, zbf, zbg, zli, zg, (Or.inr (⟨z4, (Or.inl ⟨z6, (Or.inr (⟨z10, (Or.inl ⟨z12, rfl, rfl⟩)⟩))⟩)⟩))⟩⟩, by rw [ht9]; exact hP, hD⟩, hS.F ht9⟩) hS.2.2 dX13_work_56
        · have z14 : (0 : Int) ≤ pd.toInt := nlt_z rfl (show (0 : Int32).toInt = (0 : Int) by decide) h11
          refine lv_iload hx hb dX13_work_32 (lv_at hl 4 rfl) ?_
          refine lv_sipush (v := 20000) hx hb dX13_work_34 (by decide) ?_
          refine lv_icmp_le (tgt := 44) hx hb dX13_work_37 (by decide) (fun h15 => ?_) (fun h15 => ?_)
          · have z16 : pd.toInt ≤ (20000 : Int) := le_z rfl (show (20000 : Int32).toInt = (20000 : Int) by decide) h15
            refine lv_iconst (v := 0) hx hb dX13_work_44 (by decide) ?_
            refine va_put (D := (dC, dI)) (ci := 16) (fs := mF ad v) (v := .int 0) (ty := .int) (C := RX13) (T := TX13) (N := 124) hx hb ht itX13 tyX13 tyX13_ok nmX13 hown hK hP hD hS 0 rfl rfl 0 (by decide) (ht _ tw_246) (fun _ h9 => h9) rfl (by decide +kernel) rfl rfl (Nat.le_of_ble_eq_true rfl) dX13_work_45 (fun H locs hP hD hS => ?_)
            have hP := cP_ (mw_0 ad N cI cZ cJ v 0) hP
            have hD := cD_ (mw_0 ad N cI cZ cJ v 0) hD
            refine lv_aload_n hx hb dX13_work_48 rfl (lv_at hl 0 rfl) ?_
            refine va_get (D := (dC, dI)) (ci := 16) (fs := mF ad (wA v 0 0 0)) (v := .int 0) (C := RX13) (T := TX13) (N := 124) hx hb ht itX13 hown hK hP 0 rfl rfl 0 (by decide) (ht _ tw_246) (fun _ h9 => h9) rfl dX13_work_49 ?_
            refine lv_if_le (tgt := 57) hx hb dX13_work_52 (by decide) (fun _ => ?_) (fun k17 => absurd k17 (by decide))
            refine lv_aload_n hx hb dX13_work_57 rfl (lv_at hl 0 rfl) ?_
            refine lv_iconst (v := 0) hx hb dX13_work_58 (by decide) ?_
            refine va_put (D := (dC, dI)) (ci := 16) (fs := mF ad (wA v 0 0 0)) (v := .int 0) (ty := .int) (C := RX13) (T := TX13) (N := 124) hx hb ht itX13 tyX13 tyX13_ok nmX13 hown hK hP hD hS 0 rfl rfl 106 (by decide) (ht _ tw_315) (fun _ h9 => h9) rfl (by decide +kernel) rfl rfl (Nat.le_of_ble_eq_true rfl) dX13_work_59 (fun H locs hP hD hS => ?_)
            have hP := cP_ (mw_106 ad N cI cZ cJ (wA v 0 0 0) 0) hP
            have hD := cD_ (mw_106 ad N cI cZ cJ (wA v 0 0 0) 0) hD
            refine lv_aload_n hx hb dX13_work_62 rfl (lv_at hl 0 rfl) ?_
            refine lv_iconst (v := 0) hx hb dX13_work_63 (by decide) ?_
            refine va_put (D := (dC, dI)) (ci := 16) (fs := mF ad (wA (wA v 0 0 0) 0 106 0)) (v := .int 0) (ty := .int) (C := RX13) (T := TX13) (N := 124) hx hb ht itX13 tyX13 tyX13_ok nmX13 hown hK hP hD hS 0 rfl rfl 110 (by decide) (ht _ tw_340) (fun _ h9 => h9) rfl (by decide +kernel) rfl rfl (Nat.le_of_ble_eq_true rfl) dX13_work_64 (fun H locs hP hD hS => ?_)
            have hP := cP_ (mw_110 ad N cI cZ cJ (wA (wA v 0 0 0) 0 106 0) 0) hP
            have hD := cD_ (mw_110 ad N cI cZ cJ (wA (wA v 0 0 0) 0 106 0) 0) hD
            refine lv_aload_n hx hb dX13_work_67 rfl (lv_at hl 0 rfl) ?_
            refine lv_iconst (v := 0) hx hb dX13_work_68 (by decide) ?_
            refine va_put (D := (dC, dI)) (ci := 16) (fs := mF ad (wA (wA (wA v 0 0 0) 0 106 0) 0 110 0)) (v := .int 0) (ty := .int) (C := RX13) (T := TX13) (N := 124) hx hb ht itX13 tyX13 tyX13_ok nmX13 hown hK hP hD hS 0 rfl rfl 111 (by decide) (ht _ tw_339) (fun _ h9 => h9) rfl (by decide +kernel) rfl rfl (Nat.le_of_ble_eq_true rfl) dX13_work_69 (fun H locs hP hD hS => ?_)
            have hP := cP_ (mw_111 ad N cI cZ cJ (wA (wA (wA v 0 0 0) 0 106 0) 0 110 0) 0) hP
            have hD := cD_ (mw_111 ad N cI cZ cJ (wA (wA (wA v 0 0 0) 0 106 0) 0 110 0) 0) hD
            refine lv_aload_n hx hb dX13_work_72 rfl (lv_at hl 0 rfl) ?_
            refine lv_iconst (v := 0) hx hb dX13_work_73 (by decide) ?_
            refine va_put (D := (dC, dI)) (ci := 16) (fs := mF ad (wA (wA (wA (wA v 0 0 0) 0 106 0) 0 110 0) 0 111 0)) (v := .int 0) (ty := .int) (C := RX13) (T := TX13) (N := 124) hx hb ht itX13 tyX13 tyX13_ok nmX13 hown hK hP hD hS 0 rfl rfl 112 (by decide) (ht _ tw_334) (fun _ h9 => h9) rfl (by decide +kernel) rfl rfl (Nat.le_of_ble_eq_true rfl) dX13_work_74 (fun H locs hP hD hS => ?_)
            have hP := cP_ (mw_112 ad N cI cZ cJ (wA (wA (wA (wA v 0 0 0) 0 106 0) 0 110 0) 0 111 0) 0) hP
            have hD := cD_ (mw_112 ad N cI cZ cJ (wA (wA (wA (wA v 0 0 0) 0 106 0) 0 110 0) 0 111 0) 0) hD
            refine lv_aload_n hx hb dX13_work_77 rfl (lv_at hl 0 rfl) ?_
            refine lv_iconst (v := 0) hx hb dX13_work_78 (by decide) ?_
            refine va_put (D := (dC, dI)) (ci := 16) (fs := mF ad (wA (wA (wA (wA (wA v 0 0 0) 0 106 0) 0 110 0) 0 111 0) 0 112 0)) (v := .int 0) (ty := .int) (C := RX13) (T := TX13) (N := 124) hx hb ht itX13 tyX13 tyX13_ok nmX13 hown hK hP hD hS 0 rfl rfl 113 (by decide) (ht _ tw_307) (fun _ h9 => h9) rfl (by decide +kernel) rfl rfl (Nat.le_of_ble_eq_true rfl) dX13_work_79 (fun H locs hP hD hS => ?_)
            have hP := cP_ (mw_113 ad N cI cZ cJ (wA (wA (wA (wA (wA v 0 0 0) 0 106 0) 0 110 0) 0 111 0) 0 112 0) 0) hP
            have hD := cD_ (mw_113 ad N cI cZ cJ (wA (wA (wA (wA (wA v 0 0 0) 0 106 0) 0 110 0) 0 111 0) 0 112 0) 0) hD
            refine lv_aload_n hx hb dX13_work_82 rfl (lv_at hl 0 rfl) ?_
            refine lv_iload hx hb dX13_work_83 (lv_at hl 4 rfl) ?_
            refine va_put (D := (dC, dI)) (ci := 16) (fs := mF ad (wA (wA (wA (wA (wA (wA v 0 0 0) 0 106 0) 0 110 0) 0 111 0) 0 112 0) 0 113 0)) (v := .int pd) (ty := .int) (C := RX13) (T := TX13) (N := 124) hx hb ht itX13 tyX13 tyX13_ok nmX13 hown hK hP hD hS 0 rfl rfl 114 (by decide) (ht _ tw_316) (fun _ h9 => h9) rfl (by decide +kernel) rfl rfl (Nat.le_of_ble_eq_true rfl) dX13_work_85 (fun H locs hP hD hS => ?_)
            have hP := cP_ (mw_114 ad N cI cZ cJ (wA (wA (wA (wA (wA (wA v 0 0 0) 0 106 0) 0 110 0) 0 111 0) 0 112 0) 0 113 0) pd) hP
            have hD := cD_ (mw_114 ad N cI cZ cJ (wA (wA (wA (wA (wA (wA v 0 0 0) 0 106 0) 0 110 0) 0 111 0) 0 112 0) 0 113 0) pd) hD
            refine lv_aload_n hx hb dX13_work_88 rfl (lv_at hl 0 rfl) ?_
            refine lv_iconst (v := 0) hx hb dX13_work_89 (by decide) ?_
            refine va_put (D := (dC, dI)) (ci := 16) (fs := mF ad (wA (wA (wA (wA (wA (wA (wA v 0 0 0) 0 106 0) 0 110 0) 0 111 0) 0 112 0) 0 113 0) 0 114 pd)) (v := .int 0) (ty := .int) (C := RX13) (T := TX13) (N := 124) hx hb ht itX13 tyX13 tyX13_ok nmX13 hown hK hP hD hS 0 rfl rfl 115 (by decide) (ht _ tw_341) (fun _ h9 => h9) rfl (by decide +kernel) rfl rfl (Nat.le_of_ble_eq_true rfl) dX13_work_90 (fun H locs hP hD hS => ?_)
            have hP := cP_ (mw_115 ad N cI cZ cJ (wA (wA (wA (wA (wA (wA (wA v 0 0 0) 0 106 0) 0 110 0) 0 111 0) 0 112 0) 0 113 0) 0 114 pd) 0) hP
            have hD := cD_ (mw_115 ad N cI cZ cJ (wA (wA (wA (wA (wA (wA (wA v 0 0 0) 0 106 0) 0 110 0) 0 111 0) 0 112 0) 0 113 0) 0 114 pd) 0) hD
            refine lv_aload_n hx hb dX13_work_93 rfl (lv_at hl 0 rfl) ?_
            refine lv_iconst (v := 0) hx hb dX13_work_94 (by decide) ?_
            refine va_put (D := (dC, dI)) (ci := 16) (fs := mF ad (wA (wA (wA (wA (wA (wA (wA (wA v 0 0 0) 0 106 0) 0 110 0) 0 111 0) 0 112 0) 0 113 0) 0 114 pd) 0 115 0)) (v := .int 0) (ty := .int) (C := RX13) (T := TX13) (N := 124) hx hb ht itX13 tyX13 tyX13_ok nmX13 hown hK hP hD hS 0 rfl rfl 116 (by decide) (ht _ tw_308) (fun _ h9 => h9) rfl (by decide +kernel) rfl rfl (Nat.le_of_ble_eq_true rfl) dX13_work_95 (fun H locs hP hD hS => ?_)
            have hP := cP_ (mw_116 ad N cI cZ cJ (wA (wA (wA (wA (wA (wA (wA (wA v 0 0 0) 0 106 0) 0 110 0) 0 111 0) 0 112 0) 0 113 0) 0 114 pd) 0 115 0) 0) hP
            have hD := cD_ (mw_116 ad N cI cZ cJ (wA (wA (wA (wA (wA (wA (wA (wA v 0 0 0) 0 106 0) 0 110 0) 0 111 0) 0 112 0) 0 113 0) 0 114 pd) 0 115 0) 0) hD
            refine lv_aload_n hx hb dX13_work_98 rfl (lv_at hl 0 rfl) ?_
            refine lv_iconst (v := 0) hx hb dX13_work_99 (by decide) ?_
            refine va_put (D := (dC, dI)) (ci := 16) (fs := mF ad (wA (wA (wA (wA (wA (wA (wA (wA (wA v 0 0 0) 0 106 0) 0 110 0) 0 111 0) 0 112 0) 0 113 0) 0 114 pd) 0 115 0) 0 116 0)) (v := .int 0) (ty := .int) (C := RX13) (T := TX13) (N := 124) hx hb ht itX13 tyX13 tyX13_ok nmX13 hown hK hP hD hS 0 rfl rfl 119 (by decide) (ht _ tw_309) (fun _ h9 => h9) rfl (by decide +kernel) rfl rfl (Nat.le_of_ble_eq_true rfl) dX13_work_100 (fun H locs hP hD hS => ?_)
            have hP := cP_ (mw_119 ad N cI cZ cJ (wA (wA (wA (wA (wA (wA (wA (wA (wA v 0 0 0) 0 106 0) 0 110 0) 0 111 0) 0 112 0) 0 113 0) 0 114 pd) 0 115 0) 0 116 0) 0) hP
            have hD := cD_ (mw_119 ad N cI cZ cJ (wA (wA (wA (wA (wA (wA (wA (wA (wA v 0 0 0) 0 106 0) 0 110 0) 0 111 0) 0 112 0) 0 113 0) 0 114 pd) 0 115 0) 0 116 0) 0) hD
            refine lv_aload_n hx hb dX13_work_103 rfl (lv_at hl 0 rfl) ?_
            refine lv_iconst (v := 0) hx hb dX13_work_104 (by decide) ?_
            refine va_put (D := (dC, dI)) (ci := 16) (fs := mF ad (wA (wA (wA (wA (wA (wA (wA (wA (wA (wA v 0 0 0) 0 106 0) 0 110 0) 0 111 0) 0 112 0) 0 113 0) 0 114 pd) 0 115 0) 0 116 0) 0 119 0)) (v := .int 0) (ty := .int) (C := RX13) (T := TX13) (N := 124) hx hb ht itX13 tyX13 tyX13_ok nmX13 hown hK hP hD hS 0 rfl rfl 120 (by decide) (ht _ tw_310) (fun _ h9 => h9) rfl (by decide +kernel) rfl rfl (Nat.le_of_ble_eq_true rfl) dX13_work_105 (fun H locs hP hD hS => ?_)
            have hP := cP_ (mw_120 ad N cI cZ cJ (wA (wA (wA (wA (wA (wA (wA (wA (wA (wA v 0 0 0) 0 106 0) 0 110 0) 0 111 0) 0 112 0) 0 113 0) 0 114 pd) 0 115 0) 0 116 0) 0 119 0) 0) hP
            have hD := cD_ (mw_120 ad N cI cZ cJ (wA (wA (wA (wA (wA (wA (wA (wA (wA (wA v 0 0 0) 0 106 0) 0 110 0) 0 111 0) 0 112 0) 0 113 0) 0 114 pd) 0 115 0) 0 116 0) 0 119 0) 0) hD
            refine lv_iconst (v := 0) hx hb dX13_work_108 (by decide) ?_
            refine lv_istore (lv' := [(5, .int 0), (0, .ref (ad 0)), (1, .int pa), (2, .int pb), (3, .int pc1), (4, .int pd)]) hx hb dX13_work_109 hl (by decide) rfl (fun ls hl => ?_)
            refine lpm_ (X := Int32 × MS) (P := (fun (x9 : Int32 × MS) (H : Heap) (locs : List Loc) (ls : Array Slot) => (FG [] [117] (wA (wA (wA (wA (wA (wA (wA (wA (wA (wA (wA v 0 0 0) 0 106 0) 0 110 0) 0 111 0) 0 112 0) 0 113 0) 0 114 pd) 0 115 0) 0 116 0) 0 119 0) 0 120 0) x9.2) ∧ (0 ≤ x9.1.toInt ∧ x9.1.toInt ≤ (v.1 0 76).toInt) ∧ (RT (Q_m_work_L0 v pd) (0, (wA (wA (wA (wA (wA (wA (wA (wA (wA (wA (wA v 0 0 0) 0 106 0) 0 110 0) 0 111 0) 0 112 0) 0 113 0) 0 114 pd) 0 115 0) 0 116 0) 0 119 0) 0 120 0)) (x9.1, x9.2)) ∧ va_P (dC, dI) vwCl (mW ad N cI cZ cJ x9.2) H ∧ va_D A (mW ad N cI cZ cJ x9.2) ∧ va_S A s.heap H locs ∧ lv_has ls 6 [(5, .int x9.1), (0, .ref (ad 0)), (1, .int pa), (2, .int pb), (3, .int pc1), (4, .int pd)])) (fun x9 => (4096 - x9.1.toInt).toNat) 111 (fun x9 H locs ls hh ih111 => ?_) (0, (wA (wA (wA (wA (wA (wA (wA (wA (wA (wA (wA v 0 0 0) 0 106 0) 0 110 0) 0 111 0) 0 112 0) 0 113 0) 0 114 pd) 0 115 0) 0 116 0) 0 119 0) 0 120 0)) _ _ _ ⟨(show FG [] [117] (wA (wA (wA (wA (wA (wA (wA (wA (wA (wA (wA v 0 0 0) 0 106 0) 0 110 0) 0 111 0) 0 112 0) 0 113 0) 0 114 pd) 0 115 0) 0 116 0) 0 119 0) 0 120 0) (wA (wA (wA (wA (wA (wA (wA (wA (wA (wA (wA v 0 0 0) 0 106 0) 0 110 0) 0 111 0) 0 112 0) 0 113 0) 0 114 pd) 0 115 0) 0 116 0) 0 119 0) 0 120 0) from (FG.rf _)), (show 0 ≤ (0 : Int) ∧ (0 : Int) ≤ (v.1 0 76).toInt from (om_f303dd80ea zn)), RT.rf, hP, hD, hS, lv_sub hl [0, 1, 2, 3, 4, 5] rfl⟩
            obtain ⟨ka, w111⟩ := x9
            obtain ⟨fwL111, e1L111, exL111, hP, hD, hS, hl⟩ := hh
            have fwL111 : FG [] [117] (wA (wA (wA (wA (wA (wA (wA (wA (wA (wA (wA v 0 0 0) 0 106 0) 0 110 0) 0 111 0) 0 112 0) 0 113 0) 0 114 pd) 0 115 0) 0 116 0) 0 119 0) 0 120 0) w111 := fwL111
            have e1L111 : 0 ≤ ka.toInt ∧ ka.toInt ≤ (v.1 0 76).toInt := e1L111
            have hP : va_P (dC, dI) vwCl (mW ad N cI cZ cJ w111) H := hP
            have hD : va_D A (mW ad N cI cZ cJ w111) := hD
            have hl : lv_has ls 6 [(5, .int ka), (0, .ref (ad 0)), (1, .int pa), (2, .int pb), (3, .int pc1), (4, .int pd)] := hl
            refine lv_iload hx hb dX13_work_111 (lv_at hl 0 rfl) ?_
            refine lv_aload_n hx hb dX13_work_113 rfl (lv_at hl 1 rfl) ?_
            refine va_get (D := (dC, dI)) (ci := 16) (fs := mF ad w111) (v := .int (w111.1 0 76)) (C := RX13) (T := TX13) (N := 124) hx hb ht itX13 hown hK hP 0 rfl rfl 76 (by decide) (ht _ tw_269) (fun _ h9 => h9) rfl dX13_work_114 ?_
            refine lv_icmp_ge (tgt := 134) hx hb dX13_work_117 (by decide) (fun h18 => ?_) (fun h18 => ?_)
            · have z19 : (w111.1 0 76).toInt ≤ ka.toInt := le_z rfl rfl h18
              refine lv_aload_n hx hb dX13_work_134 rfl (lv_at hl 1 rfl) ?_
              refine va_get (D := (dC, dI)) (ci := 16) (fs := mF ad w111) (v := .ref (ad 78)) (C := RX13) (T := TX13) (N := 124) hx hb ht itX13 hown hK hP 0 rfl rfl 78 (by decide) (ht _ tw_262) (fun _ h9 => h9) rfl dX13_work_135 ?_
              refine lv_iload_n hx hb dX13_work_138 rfl (lv_at hl 2 rfl) ?_
              refine va_iald (D := (dC, dI)) (f := (w111.1 78)) hx hb hK hP 38 0 rfl rfl (in_y (a := pa.toInt) (b := 40) rfl (om_51058f7f87 z4) (om_f1d398b2a9 zbf z6) rfl) dX13_work_139 ?_
              refine lv_if_le (tgt := 148) hx hb dX13_work_140 (by decide) (fun h20 => ?_) (fun h20 => ?_)
              · have z21 : ((w111.1 78) pa.toNatClampNeg).toInt ≤ (0 : Int) := le_z rfl (show (0 : Int32).toInt = (0 : Int) by decide) h20
                refine lv_aload_n hx hb dX13_work_148 rfl (lv_at hl 1 rfl) ?_
                refine va_get (D := (dC, dI)) (ci := 16) (fs := mF ad w111) (v := .ref (ad 78)) (C := RX13) (T := TX13) (N := 124) hx hb ht itX13 hown hK hP 0 rfl rfl 78 (by decide) (ht _ tw_262) (fun _ h9 => h9) rfl dX13_work_149 ?_
                refine lv_iload_n hx hb dX13_work_152 rfl (lv_at hl 2 rfl) ?_
                refine va_iald (D := (dC, dI)) (f := (w111.1 78)) hx hb hK hP 38 0 rfl rfl (in_y (a := pa.toInt) (b := 40) rfl (om_51058f7f87 z4) (om_f1d398b2a9 zbf z6) rfl) dX13_work_153 ?_
                refine lv_iconst (v := 1) hx hb dX13_work_154 (by decide) ?_
                refine lv_icmp_le (tgt := 163) hx hb dX13_work_155 (by decide) (fun h22 => ?_) (fun h22 => ?_)
                · have z23 : ((w111.1 78) pa.toNatClampNeg).toInt ≤ (1 : Int) := le_z rfl (show (1 : Int32).toInt = (1 : Int) by decide) h22
                  have q24 : (w111.1 0 76).toInt = (v.1 0 76).toInt := congrArg Int32.toInt ((fwL111.2.1 76 (by decide)).trans (show (wA (wA (wA (wA (wA (wA (wA (wA (wA (wA (wA v 0 0 0) 0 106 0) 0 110 0) 0 111 0) 0 112 0) 0 113 0) 0 114 pd) 0 115 0) 0 116 0) 0 119 0) 0 120 0).1 0 76 = (v.1 0 76) by rfl))
                  obtain ⟨Tt, Ee, hg, prg9⟩ := PRG.of (v := w111) (BG.fr (fl := [0, 106, 110, 111, 112, 113, 114, 115, 116, 119, 120]) (al := [0, 117]) (v := v) bg (show FH [0, 106, 110, 111, 112, 113, 114, 115, 116, 119, 120] [0, 117] v w111 from (FH.tr (FH.f (FH.f (FH.f (FH.f (FH.f (FH.f (FH.f (FH.f (FH.f (FH.f (FH.f (FH.rf _) 0 (by decide)) 0 (by decide)) 0 (by decide)) 0 (by decide)) 0 (by decide)) 0 (by decide)) pd (by decide)) 0 (by decide)) 0 (by decide)) 0 (by decide)) 0 (by decide)) (FH.up (FG.h fwL111) (by decide) (by decide)))).2.1 (show FH [0, 106, 110, 111, 112, 113, 114, 115, 116, 119, 120] [0, 117] v w111 from (FH.tr (FH.f (FH.f (FH.f (FH.f (FH.f (FH.f (FH.f (FH.f (FH.f (FH.f (FH.f (FH.rf _) 0 (by decide)) 0 (by decide)) 0 (by decide)) 0 (by decide)) 0 (by decide)) 0 (by decide)) pd (by decide)) 0 (by decide)) 0 (by decide)) 0 (by decide)) 0 (by decide)) (FH.up (FG.h fwL111) (by decide) (by decide)))).2.2 (by decide) (by decide)) (BF.fr (fl := [0, 106, 110, 111, 112, 113, 114, 115, 116, 119, 120]) (al := [0, 117]) (v := v) bf (show FH [0, 106, 110, 111, 112, 113, 114, 115, 116, 119, 120] [0, 117] v w111 from (FH.tr (FH.f (FH.f (FH.f (FH.f (FH.f (FH.f (FH.f (FH.f (FH.f (FH.f (FH.f (FH.rf _) 0 (by decide)) 0 (by decide)) 0 (by decide)) 0 (by decide)) 0 (by decide)) 0 (by decide)) pd (by decide)) 0 (by decide)) 0 (by decide)) 0 (by decide)) 0 (by decide)) (FH.up (FG.h fwL111) (by decide) (by decide)))).2.1 (show FH [0, 106, 110, 111, 112, 113, 114, 115, 116, 119, 120] [0, 117] v w111 from (FH.tr (FH.f (FH.f (FH.f (FH.f (FH.f (FH.f (FH.f (FH.f (FH.f (FH.f (FH.f (FH.rf _) 0 (by decide)) 0 (by decide)) 0 (by decide)) 0 (by decide)) 0 (by decide)) 0 (by decide)) pd (by decide)) 0 (by decide)) 0 (by decide)) 0 (by decide)) 0 (by decide)) (FH.up (FG.h fwL111) (by decide) (by decide)))).2.2 (by decide) (by decide)) (show (w111.1 0 76).toInt ≤ 4096 from (om_cba83c4cfe zn q24))
                  have q25 : (w111.1 0 74).toInt = (v.1 0 74).toInt := congrArg Int32.toInt ((fwL111.2.1 74 (by decide)).trans (show (wA (wA (wA (wA (wA (wA (wA (wA (wA (wA (wA v 0 0 0) 0 106 0) 0 110 0) 0 111 0) 0 112 0) 0 113 0) 0 114 pd) 0 115 0) 0 116 0) 0 119 0) 0 120 0).1 0 74 = (v.1 0 74) by rfl))
                  have q26 : (w111.1 0 110).toInt = (0 : Int) := congrArg Int32.toInt ((fwL111.2.1 110 (by decide)).trans (show (wA (wA (wA (wA (wA (wA (wA (wA (wA (wA (wA v 0 0 0) 0 106 0) 0 110 0) 0 111 0) 0 112 0) 0 113 0) 0 114 pd) 0 115 0) 0 116 0) 0 119 0) 0 120 0).1 0 110 = (0 : Int32) by rfl))
                  have q27 : (w111.1 0 115).toInt = (0 : Int) := congrArg Int32.toInt ((fwL111.2.1 115 (by decide)).trans (show (wA (wA (wA (wA (wA (wA (wA (wA (wA (wA (wA v 0 0 0) 0 106 0) 0 110 0) 0 111 0) 0 112 0) 0 113 0) 0 114 pd) 0 115 0) 0 116 0) 0 119 0) 0 120 0).1 0 115 = (0 : Int32) by rfl))
                  have q28 : (w111.1 0 113).toInt = (0 : Int) := congrArg Int32.toInt ((fwL111.2.1 113 (by decide)).trans (show (wA (wA (wA (wA (wA (wA (wA (wA (wA (wA (wA v 0 0 0) 0 106 0) 0 110 0) 0 111 0) 0 112 0) 0 113 0) 0 114 pd) 0 115 0) 0 116 0) 0 119 0) 0 120 0).1 0 113 = (0 : Int32) by rfl))
                  have q29 : (w111.1 0 114).toInt = pd.toInt := congrArg Int32.toInt ((fwL111.2.1 114 (by decide)).trans (show (wA (wA (wA (wA (wA (wA (wA (wA (wA (wA (wA v 0 0 0) 0 106 0) 0 110 0) 0 111 0) 0 112 0) 0 113 0) 0 114 pd) 0 115 0) 0 116 0) 0 119 0) 0 120 0).1 0 114 = pd by rfl))
                  have q30 : (w111.1 0 119).toInt = (0 : Int) := congrArg Int32.toInt ((fwL111.2.1 119 (by decide)).trans (show (wA (wA (wA (wA (wA (wA (wA (wA (wA (wA (wA v 0 0 0) 0 106 0) 0 110 0) 0 111 0) 0 112 0) 0 113 0) 0 114 pd) 0 115 0) 0 116 0) 0 119 0) 0 120 0).1 0 119 = (0 : Int32) by rfl))
                  have q31 : (w111.1 0 120).toInt = (0 : Int) := congrArg Int32.toInt ((fwL111.2.1 120 (by decide)).trans (show (wA (wA (wA (wA (wA (wA (wA (wA (wA (wA (wA v 0 0 0) 0 106 0) 0 110 0) 0 111 0) 0 112 0) 0 113 0) 0 114 pd) 0 115 0) 0 116 0) 0 119 0) 0 120 0).1 0 120 = (0 : Int32) by rfl))
                  have q32 : 0 ≤ ((v.1 78) pa.toNatClampNeg).toInt ∧ ((v.1 78) pa.toNatClampNeg).toInt ≤ 8 := a78 pa.toNatClampNeg
                  have q33 : (w111.1 0 106).toInt = (0 : Int) := congrArg Int32.toInt ((fwL111.2.1 106 (by decide)).trans (show (wA (wA (wA (wA (wA (wA (wA (wA (wA (wA (wA v 0 0 0) 0 106 0) 0 110 0) 0 111 0) 0 112 0) 0 113 0) 0 114 pd) 0 115 0) 0 116 0) 0 119 0) 0 120 0).1 0 106 = (0 : Int32) by rfl))
                  have q34 : ((w111.1 78) pa.toNatClampNeg).toInt = ((v.1 78) pa.toNatClampNeg).toInt := congrArg Int32.toInt (congrFun (fwL111.2.2 78 (by decide)) pa.toNatClampNeg)
                  have en9 : EN Tt Ee hg w111 pa := EN.first prg9 (show 0 ≤ pa.toInt ∧ pa.toInt < (w111.1 0 74).toInt from (om_f692ffca1f z4 z6 q25)) (show (w111.1 0 110).toInt = 0 from (om_770ca75dd5 q26)) (show (w111.1 0 115).toInt = 0 from (om_770ca75dd5 q27)) (show (w111.1 0 113).toInt = 0 from (om_770ca75dd5 q28)) (show 0 ≤ (w111.1 0 114).toInt ∧ (w111.1 0 114).toInt ≤ 20000 from (om_50bdaf9c83 z14 z16 q29)) (show (w111.1 0 119).toInt = 0 from (om_770ca75dd5 q30)) (show (w111.1 0 120).toInt = 0 from (om_770ca75dd5 q31)) (show (w111.1 0 106).toInt = ((w111).1 78 pa.toNatClampNeg).toInt by rw [show (w111).1 78 pa.toNatClampNeg = ((v.1 78) pa.toNatClampNeg) from (congrFun (fwL111.2.2 78 (by decide)) pa.toNatClampNeg)]; exact (om_6516deb4d6 q32 q33 q34 z21))
                  refine lv_aload_n hx hb dX13_work_163 rfl (lv_at hl 1 rfl) ?_
                  refine lv_aload_n hx hb dX13_work_164 rfl (lv_at hl 1 rfl) ?_
                  refine lv_iload_n hx hb dX13_work_165 rfl (lv_at hl 2 rfl) ?_
                  have q35 : (w111.1 0 77).toInt = (v.1 0 77).toInt := congrArg Int32.toInt ((fwL111.2.1 77 (by decide)).trans (show (wA (wA (wA (wA (wA (wA (wA (wA (wA (wA (wA v 0 0 0) 0 106 0) 0 110 0) 0 111 0) 0 112 0) 0 113 0) 0 114 pd) 0 115 0) 0 116 0) 0 119 0) 0 120 0).1 0 77 = (v.1 0 77) by rfl))
                  refine cu_i (rn_V (n := 1) (As := [.int pa]) (rest := [.ref (ad 0)]) hx hb hml hown ht hKK hFx hP hD hS hA (c_m_enter l dC dI cI cB cZ cJ cR tb H.size ad N w111 pa Tt Ee hg (show EN Tt Ee hg w111 pa from en9) (show (256 : Int) ≤ (N : Int) ∧ (N : Int) ≤ 4096 from (om_c42fe0fb85 zN)) (show 0 ≤ (w111.1 0 74).toInt ∧ (w111.1 0 74).toInt ≤ 40 from (om_43e4364dbb zbf z4 z6 q25)) (show 0 ≤ (w111.1 0 77).toInt ∧ (w111.1 0 77).toInt ≤ 16384 from (om_346c2236bb zli q35)) (show AR 78 0 8 w111 from (show AR 78 0 8 w111 from AR.fr (fl := []) (al := [117]) fwL111 (by decide) (AR.o (AR.o (AR.o (AR.o (AR.o (AR.o (AR.o (AR.o (AR.o (AR.o (AR.o a78 (by decide)) (by decide)) (by decide)) (by decide)) (by decide)) (by decide)) (by decide)) (by decide)) (by decide)) (by decide)) (by decide)))) (show AR 79 0 2008 w111 from (show AR 79 0 2008 w111 from AR.fr (fl := []) (al := [117]) fwL111 (by decide) (AR.o (AR.o (AR.o (AR.o (AR.o (AR.o (AR.o (AR.o (AR.o (AR.o (AR.o a79 (by decide)) (by decide)) (by decide)) (by decide)) (by decide)) (by decide)) (by decide)) (by decide)) (by decide)) (by decide)) (by decide)))) (show AR 82 0 500 w111 from (show AR 82 0 500 w111 from AR.fr (fl := []) (al := [117]) fwL111 (by decide) (AR.o (AR.o (AR.o (AR.o (AR.o (AR.o (AR.o (AR.o (AR.o (AR.o (AR.o a82 (by decide)) (by decide)) (by decide)) (by decide)) (by decide)) (by decide)) (by decide)) (by decide)) (by decide)) (by decide)) (by decide))))) tw_348 tw_349 (by decide +kernel) rfl rfl ⟨Nat.le_of_ble_eq_true rfl, Nat.le_of_ble_eq_true rfl⟩ (List.range (mW ad N cI cZ cJ w111).length) (rg_map _) (mW_nd _ _ _ _ _ _) rfl rfl rfl rfl hl.1 rfl (Nat.le_of_ble_eq_true rfl) dX13_work_166 ⟨Nat.le_of_ble_eq_true rfl, Nat.le_of_ble_eq_true rfl⟩) hP hD hS hA (fun r38 u37 H locs hw36 hP hD hS => ?_)
                  obtain ⟨fr36, ex36, ob36⟩ := hw36
                  have ob36 : OBE Tt Ee hg w111 u37 r38 := ob36
                  refine W.widen (k := 0) (n := 0) (Nat.le_refl _) (Nat.le_refl _) ?_
                  refine va_put (D := (dC, dI)) (ci := 16) (fs := mF ad u37) (v := .int r38) (ty := .int) (C := RX13) (T := TX13) (N := 124) hx hb ht itX13 tyX13 tyX13_ok nmX13 hown hK hP hD hS 0 rfl rfl 121 (by decide) (ht _ tw_305) (fun _ h9 => h9) rfl (by decide +kernel) rfl rfl (Nat.le_of_ble_eq_true rfl) dX13_work_169 (fun H locs hP hD hS => ?_)
                  have hP := cP_ (mw_121 ad N cI cZ cJ u37 r38) hP
                  have hD := cD_ (mw_121 ad N cI cZ cJ u37 r38) hD
                  refine lpm_ (X := MS) (P := (fun (x9 : MS) (H : Heap) (locs : List Loc) (ls : Array Slot) => (FG [106, 110, 111, 112, 113, 115, 116, 119, 120, 121] [0, 105, 107, 108, 109, 117, 118] (wA u37 0 121 r38) x9) ∧ (OBW Tt Ee hg x9) ∧ (RT (Q_m_work_L1 N r38 u37) (wA u37 0 121 r38) x9) ∧ va_P (dC, dI) vwCl (mW ad N cI cZ cJ x9) H ∧ va_D A (mW ad N cI cZ cJ x9) ∧ va_S A s.heap H locs ∧ lv_has ls 6 [(5, .int ka), (0, .ref (ad 0)), (1, .int pa), (2, .int pb), (3, .int pc1), (4, .int pd)])) (fun x9 => MWK Tt x9) 172 (fun w172 H locs ls hh ih172 => ?_) (wA u37 0 121 r38) _ _ _ ⟨(show FG [106, 110, 111, 112, 113, 115, 116, 119, 120, 121] [0, 105, 107, 108, 109, 117, 118] (wA u37 0 121 r38) (wA u37 0 121 r38) from (FG.rf _)), (show OBW Tt Ee hg (wA u37 0 121 r38) from (OBW.e (w := w111) ob36)), RT.rf, hP, hD, hS, lv_sub hl [0, 1, 2, 3, 4, 5] rfl⟩
                  obtain ⟨fwL172, obL172, exL172, hP, hD, hS, hl⟩ := hh
                  have fwL172 : FG [106, 110, 111, 112, 113, 115, 116, 119, 120, 121] [0, 105, 107, 108, 109, 117, 118] (wA u37 0 121 r38) w172 := fwL172
                  have obL172 : OBW Tt Ee hg w172 := obL172
                  have hP : va_P (dC, dI) vwCl (mW ad N cI cZ cJ w172) H := hP
                  have hD : va_D A (mW ad N cI cZ cJ w172) := hD
                  have hl : lv_has ls 6 [(5, .int ka), (0, .ref (ad 0)), (1, .int pa), (2, .int pb), (3, .int pc1), (4, .int pd)] := hl
                  refine lv_aload_n hx hb dX13_work_172 rfl (lv_at hl 1 rfl) ?_
                  refine va_get (D := (dC, dI)) (ci := 16) (fs := mF ad w172) (v := .int (w172.1 0 121)) (C := RX13) (T := TX13) (N := 124) hx hb ht itX13 hown hK hP 0 rfl rfl 121 (by decide) (ht _ tw_305) (fun _ h9 => h9) rfl dX13_work_173 ?_
                  refine lv_iconst (v := -1) hx hb dX13_work_176 (by decide) ?_
                  refine lv_icmp_ne (tgt := 191) hx hb dX13_work_177 (by decide) (fun h39 => ?_) (fun h39 => ?_)
                  · have z40 : (w172.1 0 121).toInt ≠ (-1 : Int) := ne_z rfl (show ((-1) : Int32).toInt = (-1 : Int) by decide) h39
                    refine lv_aload_n hx hb dX13_work_191 rfl (lv_at hl 1 rfl) ?_
                    refine lv_aload_n hx hb dX13_work_192 rfl (lv_at hl 1 rfl) ?_
                    refine va_get (D := (dC, dI)) (ci := 16) (fs := mF ad w172) (v := .int (w172.1 0 121)) (C := RX13) (T := TX13) (N := 124) hx hb ht itX13 hown hK hP 0 rfl rfl 121 (by decide) (ht _ tw_305) (fun _ h9 => h9) rfl dX13_work_193 ?_
                    refine lv_if_ne (tgt := 206) hx hb dX13_work_196 (by decide) (fun h41 => ?_) (fun h41 => ?_)
                    · have z42 : (w172.1 0 121).toInt ≠ (0 : Int) := ne_z rfl (show (0 : Int32).toInt = (0 : Int) by decide) h41
                      refine lv_iconst (v := 0) hx hb dX13_work_206 (by decide) ?_
                      refine va_put (D := (dC, dI)) (ci := 16) (fs := mF ad w172) (v := .int 0) (ty := .int) (C := RX13) (T := TX13) (N := 124) hx hb ht itX13 tyX13 tyX13_ok nmX13 hown hK hP hD hS 0 rfl rfl 122 (by decide) (ht _ tw_306) (fun _ h9 => h9) rfl (by decide +kernel) rfl rfl (Nat.le_of_ble_eq_true rfl) dX13_work_207 (fun H locs hP hD hS => ?_)
                      have hP := cP_ (mw_122 ad N cI cZ cJ w172 0) hP
                      have hD := cD_ (mw_122 ad N cI cZ cJ w172 0) hD
                      refine lv_aload_n hx hb dX13_work_210 rfl (lv_at hl 1 rfl) ?_
                      refine lv_iconst (v := 1) hx hb dX13_work_211 (by decide) ?_
                      refine va_put (D := (dC, dI)) (ci := 16) (fs := mF ad (wA w172 0 122 0)) (v := .int 1) (ty := .boolean) (C := RX13) (T := TX13) (N := 124) hx hb ht itX13 tyX13 tyX13_ok nmX13 hown hK hP hD hS 0 rfl rfl 123 (by decide) (ht _ tw_272) (fun _ h9 => h9) rfl (by decide +kernel) rfl rfl (Nat.le_of_ble_eq_true rfl) dX13_work_212 (fun H locs hP hD hS => ?_)
                      have hP := cP_ (mw_123 ad N cI cZ cJ (wA w172 0 122 0) 1) hP
                      have hD := cD_ (mw_123 ad N cI cZ cJ (wA w172 0 122 0) 1) hD
                      refine lv_aload_n hx hb dX13_work_215 rfl (lv_at hl 1 rfl) ?_
                      refine va_get (D := (dC, dI)) (ci := 16) (fs := mF ad (wA (wA w172 0 122 0) 0 123 1)) (v := .int (w172.1 0 121)) (C := RX13) (T := TX13) (N := 124) hx hb ht itX13 hown hK hP 0 rfl rfl 121 (by decide) (ht _ tw_305) (fun _ h9 => h9) rfl dX13_work_216 ?_
                      exact W.iret (v := (w172.1 0 121)) hx hb hr (fun t ht9 hW => ⟨⟨(w172.1 0 121), (wA (wA w172 0 122 0) 0 123 1), rfl, ⟨(FG.f (FG.f (FG.tr (FG.f (FG.tr (FG.tr (FG.f (FG.f (FG.f (FG.f (FG.f (FG.f (FG.f (FG.f (FG.f (FG.f (FG.f (FG.rf _) 0 (by decide)) 0 (by decide)) 0 (by decide)) 0 (by decide)) 0 (by decide)) 0 (by decide)) pd (by decide)) 0 (by decide)) 0 (by decide)) 0 (by decide)) 0 (by decide)) (FG.up fwL111 (by decide) (by decide))) (FG.up fr36 (by decide) (by decide))) r38 (by decide)) (FG.up fwL172 (by decide) (by decide))) 0 (by decide)) 1 (by decide)), ⟨zn, zbf, zbg, zli, zg, (Or.inr (⟨z4, (Or.inl ⟨z6, (Or.inr (⟨z10, (Or.inr (⟨z14, (Or.inl ⟨z16, ka, w111, exL111, fwL111, e1L111, z19, (Or.inl ⟨z21, z23, r38, u37, ex36, fr36, w172, exL172, fwL172, ⟨_, _, _, obL172⟩, z40, (Or.inl ⟨z42, rfl, rfl⟩)⟩)⟩)⟩))⟩))⟩)⟩))⟩⟩, by rw [ht9]; exact hP, hD⟩, hS.F ht9⟩) hS.2.2 dX13_work_219
                    · have z43 : (w172.1 0 121).toInt = (0 : Int) := eq_z rfl (show (0 : Int32).toInt = (0 : Int) by decide) h41
                      have on9 : (w172.1 0 106).toInt = 1 := OBW.one obL172 (om_770ca75dd5 z43)
                      refine lv_aload_n hx hb dX13_work_199 rfl (lv_at hl 1 rfl) ?_
                      refine cu_i (rn_V (n := 0) (As := []) (rest := [.ref (ad 0)]) hx hb hml hown ht hKK hFx hP hD hS hA (c_m_pop l dC dI cI cB cZ cJ cR tb H.size ad N w172  (show 1 ≤ (w172.1 0 106).toInt ∧ (w172.1 0 106).toInt ≤ 24000 from (om_6723dddc65 on9))) tw_335 tw_336 (by decide +kernel) rfl rfl ⟨Nat.le_of_ble_eq_true rfl, Nat.le_of_ble_eq_true rfl⟩ (List.range (mW ad N cI cZ cJ w172).length) (rg_map _) (mW_nd _ _ _ _ _ _) rfl rfl rfl rfl hl.1 rfl (Nat.le_of_ble_eq_true rfl) dX13_work_200 ⟨Nat.le_of_ble_eq_true rfl, Nat.le_of_ble_eq_true rfl⟩) hP hD hS hA (fun r46 u45 H locs hw44 hP hD hS => ?_)
                      obtain ⟨rfl, rfl⟩ := hw44
                      have z47 : ((w172.1 0 106) - (1 : Int32)).toInt = ((w172.1 0 106).toInt) - (1 : Int) := sub_z rfl (show (1 : Int32).toInt = (1 : Int) by decide) (om_fd30962fc3 on9) (om_1b24a136d8 on9)
                      have hP : va_P (dC, dI) vwCl (mW ad N cI cZ cJ (wA w172 0 106 ((w172.1 0 106) - (1 : Int32)))) H := hP
                      have hD : va_D A (mW ad N cI cZ cJ (wA w172 0 106 ((w172.1 0 106) - (1 : Int32)))) := hD
                      refine tp_i (y := ((w172.1 105) ((w172.1 0 106) - (1 : Int32)).toNatClampNeg)) (rfl) ?_
                      refine W.widen (k := 0) (n := 0) (Nat.le_refl _) (Nat.le_refl _) ?_
                      refine lv_goto (tgt := 207) hx hb dX13_work_203 (by decide) ?_
                      refine va_put (D := (dC, dI)) (ci := 16) (fs := mF ad (wA w172 0 106 ((w172.1 0 106) - (1 : Int32)))) (v := .int ((w172.1 105) ((w172.1 0 106) - (1 : Int32)).toNatClampNeg)) (ty := .int) (C := RX13) (T := TX13) (N := 124) hx hb ht itX13 tyX13 tyX13_ok nmX13 hown hK hP hD hS 0 rfl rfl 122 (by decide) (ht _ tw_306) (fun _ h9 => h9) rfl (by decide +kernel) rfl rfl (Nat.le_of_ble_eq_true rfl) dX13_work_207 (fun H locs hP hD hS => ?_)
                      have hP := cP_ (mw_122 ad N cI cZ cJ (wA w172 0 106 ((w172.1 0 106) - (1 : Int32))) ((w172.1 105) ((w172.1 0 106) - (1 : Int32)).toNatClampNeg)) hP
                      have hD := cD_ (mw_122 ad N cI cZ cJ (wA w172 0 106 ((w172.1 0 106) - (1 : Int32))) ((w172.1 105) ((w172.1 0 106) - (1 : Int32)).toNatClampNeg)) hD
                      refine lv_aload_n hx hb dX13_work_210 rfl (lv_at hl 1 rfl) ?_
                      refine lv_iconst (v := 1) hx hb dX13_work_211 (by decide) ?_
                      refine va_put (D := (dC, dI)) (ci := 16) (fs := mF ad (wA (wA w172 0 106 ((w172.1 0 106) - (1 : Int32))) 0 122 ((w172.1 105) ((w172.1 0 106) - (1 : Int32)).toNatClampNeg))) (v := .int 1) (ty := .boolean) (C := RX13) (T := TX13) (N := 124) hx hb ht itX13 tyX13 tyX13_ok nmX13 hown hK hP hD hS 0 rfl rfl 123 (by decide) (ht _ tw_272) (fun _ h9 => h9) rfl (by decide +kernel) rfl rfl (Nat.le_of_ble_eq_true rfl) dX13_work_212 (fun H locs hP hD hS => ?_)
                      have hP := cP_ (mw_123 ad N cI cZ cJ (wA (wA w172 0 106 ((w172.1 0 106) - (1 : Int32))) 0 122 ((w172.1 105) ((w172.1 0 106) - (1 : Int32)).toNatClampNeg)) 1) hP
                      have hD := cD_ (mw_123 ad N cI cZ cJ (wA (wA w172 0 106 ((w172.1 0 106) - (1 : Int32))) 0 122 ((w172.1 105) ((w172.1 0 106) - (1 : Int32)).toNatClampNeg)) 1) hD
                      refine lv_aload_n hx hb dX13_work_215 rfl (lv_at hl 1 rfl) ?_
                      refine va_get (D := (dC, dI)) (ci := 16) (fs := mF ad (wA (wA (wA w172 0 106 ((w172.1 0 106) - (1 : Int32))) 0 122 ((w172.1 105) ((w172.1 0 106) - (1 : Int32)).toNatClampNeg)) 0 123 1)) (v := .int (w172.1 0 121)) (C := RX13) (T := TX13) (N := 124) hx hb ht itX13 hown hK hP 0 rfl rfl 121 (by decide) (ht _ tw_305) (fun _ h9 => h9) rfl dX13_work_216 ?_
                      exact W.iret (v := (w172.1 0 121)) hx hb hr (fun t ht9 hW => ⟨⟨(w172.1 0 121), (wA (wA (wA w172 0 106 ((w172.1 0 106) - (1 : Int32))) 0 122 ((w172.1 105) ((w172.1 0 106) - (1 : Int32)).toNatClampNeg)) 0 123 1), rfl, ⟨(FG.f (FG.f (FG.f (FG.tr (FG.f (FG.tr (FG.tr (FG.f (FG.f (FG.f (FG.f (FG.f (FG.f (FG.f (FG.f (FG.f (FG.f (FG.f (FG.rf _) 0 (by decide)) 0 (by decide)) 0 (by decide)) 0 (by decide)) 0 (by decide)) 0 (by decide)) pd (by decide)) 0 (by decide)) 0 (by decide)) 0 (by decide)) 0 (by decide)) (FG.up fwL111 (by decide) (by decide))) (FG.up fr36 (by decide) (by decide))) r38 (by decide)) (FG.up fwL172 (by decide) (by decide))) ((w172.1 0 106) - (1 : Int32)) (by decide)) ((w172.1 105) ((w172.1 0 106) - (1 : Int32)).toNatClampNeg) (by decide)) 1 (by decide)), ⟨zn, zbf, zbg, zli, zg, (Or.inr (⟨z4, (Or.inl ⟨z6, (Or.inr (⟨z10, (Or.inr (⟨z14, (Or.inl ⟨z16, ka, w111, exL111, fwL111, e1L111, z19, (Or.inl ⟨z21, z23, r38, u37, ex36, fr36, w172, exL172, fwL172, ⟨_, _, _, obL172⟩, z40, (Or.inr (⟨z43, rfl, rfl⟩))⟩)⟩)⟩))⟩))⟩)⟩))⟩⟩, by rw [ht9]; exact hP, hD⟩, hS.F ht9⟩) hS.2.2 dX13_work_219
                  · have z48 : (w172.1 0 121).toInt = (-1 : Int) := eq_z rfl (show ((-1) : Int32).toInt = (-1 : Int) by decide) h39
                    refine lv_aload_n hx hb dX13_work_180 rfl (lv_at hl 1 rfl) ?_
                    refine lv_aload_n hx hb dX13_work_181 rfl (lv_at hl 1 rfl) ?_
                    have q49 : (u37.1 0 74).toInt = (w111.1 0 74).toInt := congrArg Int32.toInt ((fr36.2.1 74 (by decide)).trans (show w111.1 0 74 = (w111.1 0 74) by rfl))
                    have q50 : (w172.1 0 74).toInt = (u37.1 0 74).toInt := congrArg Int32.toInt ((fwL172.2.1 74 (by decide)).trans (show (wA u37 0 121 r38).1 0 74 = (u37.1 0 74) by rfl))
                    have q51 : (w111.1 0 75).toInt = (v.1 0 75).toInt := congrArg Int32.toInt ((fwL111.2.1 75 (by decide)).trans (show (wA (wA (wA (wA (wA (wA (wA (wA (wA (wA (wA v 0 0 0) 0 106 0) 0 110 0) 0 111 0) 0 112 0) 0 113 0) 0 114 pd) 0 115 0) 0 116 0) 0 119 0) 0 120 0).1 0 75 = (v.1 0 75) by rfl))
                    have q52 : (u37.1 0 75).toInt = (w111.1 0 75).toInt := congrArg Int32.toInt ((fr36.2.1 75 (by decide)).trans (show w111.1 0 75 = (w111.1 0 75) by rfl))
                    have q53 : (w172.1 0 75).toInt = (u37.1 0 75).toInt := congrArg Int32.toInt ((fwL172.2.1 75 (by decide)).trans (show (wA u37 0 121 r38).1 0 75 = (u37.1 0 75) by rfl))
                    have q54 : (u37.1 0 77).toInt = (w111.1 0 77).toInt := congrArg Int32.toInt ((fr36.2.1 77 (by decide)).trans (show w111.1 0 77 = (w111.1 0 77) by rfl))
                    have q55 : (w172.1 0 77).toInt = (u37.1 0 77).toInt := congrArg Int32.toInt ((fwL172.2.1 77 (by decide)).trans (show (wA u37 0 121 r38).1 0 77 = (u37.1 0 77) by rfl))
                    have q56 : (w111.1 0 94).toInt = (v.1 0 94).toInt := congrArg Int32.toInt ((fwL111.2.1 94 (by decide)).trans (show (wA (wA (wA (wA (wA (wA (wA (wA (wA (wA (wA v 0 0 0) 0 106 0) 0 110 0) 0 111 0) 0 112 0) 0 113 0) 0 114 pd) 0 115 0) 0 116 0) 0 119 0) 0 120 0).1 0 94 = (v.1 0 94) by rfl))
                    have q57 : (u37.1 0 94).toInt = (w111.1 0 94).toInt := congrArg Int32.toInt ((fr36.2.1 94 (by decide)).trans (show w111.1 0 94 = (w111.1 0 94) by rfl))
                    have q58 : (w172.1 0 94).toInt = (u37.1 0 94).toInt := congrArg Int32.toInt ((fwL172.2.1 94 (by decide)).trans (show (wA u37 0 121 r38).1 0 94 = (u37.1 0 94) by rfl))
                    refine cu_i (rn_V (n := 0) (As := []) (rest := [.ref (ad 0)]) hx hb hml hown ht hKK hFx hP hD hS hA (c_m_obey l dC dI cI cB cZ cJ cR tb H.size ad N w172 Tt Ee hg (show MI Tt Ee hg w172 (w172.1 0 112) from (OBW.mi obL172 (om_41e72fd3a9 z48))) (show (256 : Int) ≤ (N : Int) ∧ (N : Int) ≤ 4096 from (om_c42fe0fb85 zN)) (show 0 ≤ (w172.1 0 74).toInt ∧ (w172.1 0 74).toInt ≤ 40 from (om_f14b981263 zbf z4 z6 q25 q49 q50)) (show 0 ≤ (w172.1 0 75).toInt ∧ (w172.1 0 75).toInt ≤ 60 from (om_243ce53172 zbg q51 q52 q53)) (show 0 ≤ (w172.1 0 77).toInt ∧ (w172.1 0 77).toInt ≤ 16384 from (om_b2080334c4 zli q35 q54 q55)) (show 0 ≤ (w172.1 0 94).toInt ∧ (w172.1 0 94).toInt ≤ 64 from (om_693dcb14ec zg q56 q57 q58)) (show AR 78 0 8 w172 from (show AR 78 0 8 w172 from AR.fr (fl := [106, 110, 111, 112, 113, 115, 116, 119, 120, 121]) (al := [0, 105, 107, 108, 109, 117, 118]) fwL172 (by decide) (AR.o (show AR 78 0 8 u37 from AR.fr (fl := [106, 110, 111, 112, 113, 115, 116]) (al := [0, 105, 107, 108, 109]) fr36 (by decide) (show AR 78 0 8 w111 from AR.fr (fl := []) (al := [117]) fwL111 (by decide) (AR.o (AR.o (AR.o (AR.o (AR.o (AR.o (AR.o (AR.o (AR.o (AR.o (AR.o a78 (by decide)) (by decide)) (by decide)) (by decide)) (by decide)) (by decide)) (by decide)) (by decide)) (by decide)) (by decide)) (by decide)))) (by decide)))) (show AR 79 0 2008 w172 from (show AR 79 0 2008 w172 from AR.fr (fl := [106, 110, 111, 112, 113, 115, 116, 119, 120, 121]) (al := [0, 105, 107, 108, 109, 117, 118]) fwL172 (by decide) (AR.o (show AR 79 0 2008 u37 from AR.fr (fl := [106, 110, 111, 112, 113, 115, 116]) (al := [0, 105, 107, 108, 109]) fr36 (by decide) (show AR 79 0 2008 w111 from AR.fr (fl := []) (al := [117]) fwL111 (by decide) (AR.o (AR.o (AR.o (AR.o (AR.o (AR.o (AR.o (AR.o (AR.o (AR.o (AR.o a79 (by decide)) (by decide)) (by decide)) (by decide)) (by decide)) (by decide)) (by decide)) (by decide)) (by decide)) (by decide)) (by decide)))) (by decide)))) (show AR 82 0 500 w172 from (show AR 82 0 500 w172 from AR.fr (fl := [106, 110, 111, 112, 113, 115, 116, 119, 120, 121]) (al := [0, 105, 107, 108, 109, 117, 118]) fwL172 (by decide) (AR.o (show AR 82 0 500 u37 from AR.fr (fl := [106, 110, 111, 112, 113, 115, 116]) (al := [0, 105, 107, 108, 109]) fr36 (by decide) (show AR 82 0 500 w111 from AR.fr (fl := []) (al := [117]) fwL111 (by decide) (AR.o (AR.o (AR.o (AR.o (AR.o (AR.o (AR.o (AR.o (AR.o (AR.o (AR.o a82 (by decide)) (by decide)) (by decide)) (by decide)) (by decide)) (by decide)) (by decide)) (by decide)) (by decide)) (by decide)) (by decide)))) (by decide))))) tw_356 tw_357 (by decide +kernel) rfl rfl ⟨Nat.le_of_ble_eq_true rfl, Nat.le_of_ble_eq_true rfl⟩ (List.range (mW ad N cI cZ cJ w172).length) (rg_map _) (mW_nd _ _ _ _ _ _) rfl rfl rfl rfl hl.1 rfl (Nat.le_of_ble_eq_true rfl) dX13_work_182 ⟨Nat.le_of_ble_eq_true rfl, Nat.le_of_ble_eq_true rfl⟩) hP hD hS hA (fun r61 u60 H locs hw59 hP hD hS => ?_)
                    obtain ⟨fr59, ex59, ob59⟩ := hw59
                    have ob59 : OBP Tt Ee hg w172 u60 (w172.1 0 112) r61 := ob59
                    refine W.widen (k := 0) (n := 0) (Nat.le_refl _) (Nat.le_refl _) ?_
                    refine va_put (D := (dC, dI)) (ci := 16) (fs := mF ad u60) (v := .int r61) (ty := .int) (C := RX13) (T := TX13) (N := 124) hx hb ht itX13 tyX13 tyX13_ok nmX13 hown hK hP hD hS 0 rfl rfl 121 (by decide) (ht _ tw_305) (fun _ h9 => h9) rfl (by decide +kernel) rfl rfl (Nat.le_of_ble_eq_true rfl) dX13_work_185 (fun H locs hP hD hS => ?_)
                    have hP := cP_ (mw_121 ad N cI cZ cJ u60 r61) hP
                    have hD := cD_ (mw_121 ad N cI cZ cJ u60 r61) hD
                    refine lv_goto (tgt := 172) hx hb dX13_work_188 (by decide) ?_
                    exact ih172 (wA u60 0 121 r61) _ _ _ (MWK.lt (om_41e72fd3a9 z48) ob59) ⟨(show FG [106, 110, 111, 112, 113, 115, 116, 119, 120, 121] [0, 105, 107, 108, 109, 117, 118] (wA u37 0 121 r38) (wA u60 0 121 r61) from (FG.f (FG.tr (FG.tr (FG.rf _) (FG.up fwL172 (by decide) (by decide))) (FG.up fr59 (by decide) (by decide))) r61 (by decide))), (show OBW Tt Ee hg (wA u60 0 121 r61) from (OBW.o ob59)), (RT.st exL172 ⟨fwL172, ⟨_, _, _, obL172⟩, z48, r61, u60, ex59, fr59, rfl⟩), hP, hD, hS, lv_sub hl [0, 1, 2, 3, 4, 5] rfl⟩
                · have z62 : (1 : Int) < ((w111.1 78) pa.toNatClampNeg).toInt := nle_z rfl (show (1 : Int32).toInt = (1 : Int) by decide) h22
                  exact False.elim (om_49d00272e1 z21 z62)
              · have z63 : (0 : Int) < ((w111.1 78) pa.toNatClampNeg).toInt := nle_z rfl (show (0 : Int32).toInt = (0 : Int) by decide) h20
                refine lv_aload_n hx hb dX13_work_143 rfl (lv_at hl 1 rfl) ?_
                refine lv_iload_n hx hb dX13_work_144 rfl (lv_at hl 3 rfl) ?_
                have q64 : (w111.1 0 106).toInt = (0 : Int) := congrArg Int32.toInt ((fwL111.2.1 106 (by decide)).trans (show (wA (wA (wA (wA (wA (wA (wA (wA (wA (wA (wA v 0 0 0) 0 106 0) 0 110 0) 0 111 0) 0 112 0) 0 113 0) 0 114 pd) 0 115 0) 0 116 0) 0 119 0) 0 120 0).1 0 106 = (0 : Int32) by rfl))
                refine cu_v (rn_V (n := 1) (As := [.int pb]) (rest := []) hx hb hml hown ht hKK hFx hP hD hS hA (c_m_push l dC dI cI cB cZ cJ cR tb H.size ad N w111 pb (show 0 ≤ (w111.1 0 106).toInt ∧ (w111.1 0 106).toInt < 24000 from (om_e39b81f845 q64))) tw_332 tw_333 (by decide +kernel) rfl rfl ⟨Nat.le_of_ble_eq_true rfl, Nat.le_of_ble_eq_true rfl⟩ (List.range (mW ad N cI cZ cJ w111).length) (rg_map _) (mW_nd _ _ _ _ _ _) rfl rfl rfl rfl hl.1 rfl (Nat.le_of_ble_eq_true rfl) dX13_work_145 ⟨Nat.le_of_ble_eq_true rfl, Nat.le_of_ble_eq_true rfl⟩) hP hD hS hA (fun u66 H locs hw65 hP hD hS => ?_)
                obtain rfl := hw65
                have z68 : ((w111.1 0 106) + (1 : Int32)).toInt = ((w111.1 0 106).toInt) + (1 : Int) := add_z rfl (show (1 : Int32).toInt = (1 : Int) by decide) (om_ecc4735e39 q64) (om_0854866980 q64)
                have hP : va_P (dC, dI) vwCl (mW ad N cI cZ cJ (wA (wA w111 105 ((w111.1 0 106).toNatClampNeg) pb) 0 106 ((w111.1 0 106) + (1 : Int32)))) H := hP
                have hD : va_D A (mW ad N cI cZ cJ (wA (wA w111 105 ((w111.1 0 106).toNatClampNeg) pb) 0 106 ((w111.1 0 106) + (1 : Int32)))) := hD
                refine W.widen (k := 0) (n := 0) (Nat.le_refl _) (Nat.le_refl _) ?_
                refine lv_aload_n hx hb dX13_work_148 rfl (lv_at hl 1 rfl) ?_
                refine va_get (D := (dC, dI)) (ci := 16) (fs := mF ad (wA (wA w111 105 ((w111.1 0 106).toNatClampNeg) pb) 0 106 ((w111.1 0 106) + (1 : Int32)))) (v := .ref (ad 78)) (C := RX13) (T := TX13) (N := 124) hx hb ht itX13 hown hK hP 0 rfl rfl 78 (by decide) (ht _ tw_262) (fun _ h9 => h9) rfl dX13_work_149 ?_
                refine lv_iload_n hx hb dX13_work_152 rfl (lv_at hl 2 rfl) ?_
                refine va_iald (D := (dC, dI)) (f := (w111.1 78)) hx hb hK hP 38 0 rfl rfl (in_y (a := pa.toInt) (b := 40) rfl (om_51058f7f87 z4) (om_f1d398b2a9 zbf z6) rfl) dX13_work_153 ?_
                refine lv_iconst (v := 1) hx hb dX13_work_154 (by decide) ?_
                refine lv_icmp_le (tgt := 163) hx hb dX13_work_155 (by decide) (fun h69 => ?_) (fun h69 => ?_)
                · have z70 : ((w111.1 78) pa.toNatClampNeg).toInt ≤ (1 : Int) := le_z rfl (show (1 : Int32).toInt = (1 : Int) by decide) h69
                  have q71 : (w111.1 0 76).toInt = (v.1 0 76).toInt := congrArg Int32.toInt ((fwL111.2.1 76 (by decide)).trans (show (wA (wA (wA (wA (wA (wA (wA (wA (wA (wA (wA v 0 0 0) 0 106 0) 0 110 0) 0 111 0) 0 112 0) 0 113 0) 0 114 pd) 0 115 0) 0 116 0) 0 119 0) 0 120 0).1 0 76 = (v.1 0 76) by rfl))
                  obtain ⟨Tt, Ee, hg, prg9⟩ := PRG.of (v := (wA (wA w111 105 ((w111.1 0 106).toNatClampNeg) pb) 0 106 ((w111.1 0 106) + (1 : Int32)))) (BG.fr (fl := [0, 106, 110, 111, 112, 113, 114, 115, 116, 119, 120]) (al := [0, 105, 117]) (v := v) bg (show FH [0, 106, 110, 111, 112, 113, 114, 115, 116, 119, 120] [0, 105, 117] v (wA (wA w111 105 ((w111.1 0 106).toNatClampNeg) pb) 0 106 ((w111.1 0 106) + (1 : Int32))) from (FH.f (FH.a (FH.tr (FH.f (FH.f (FH.f (FH.f (FH.f (FH.f (FH.f (FH.f (FH.f (FH.f (FH.f (FH.rf _) 0 (by decide)) 0 (by decide)) 0 (by decide)) 0 (by decide)) 0 (by decide)) 0 (by decide)) pd (by decide)) 0 (by decide)) 0 (by decide)) 0 (by decide)) 0 (by decide)) (FH.up (FG.h fwL111) (by decide) (by decide))) ((w111.1 0 106).toNatClampNeg) pb (by decide) (by decide)) ((w111.1 0 106) + (1 : Int32)) (by decide))).2.1 (show FH [0, 106, 110, 111, 112, 113, 114, 115, 116, 119, 120] [0, 105, 117] v (wA (wA w111 105 ((w111.1 0 106).toNatClampNeg) pb) 0 106 ((w111.1 0 106) + (1 : Int32))) from (FH.f (FH.a (FH.tr (FH.f (FH.f (FH.f (FH.f (FH.f (FH.f (FH.f (FH.f (FH.f (FH.f (FH.f (FH.rf _) 0 (by decide)) 0 (by decide)) 0 (by decide)) 0 (by decide)) 0 (by decide)) 0 (by decide)) pd (by decide)) 0 (by decide)) 0 (by decide)) 0 (by decide)) 0 (by decide)) (FH.up (FG.h fwL111) (by decide) (by decide))) ((w111.1 0 106).toNatClampNeg) pb (by decide) (by decide)) ((w111.1 0 106) + (1 : Int32)) (by decide))).2.2 (by decide) (by decide)) (BF.fr (fl := [0, 106, 110, 111, 112, 113, 114, 115, 116, 119, 120]) (al := [0, 105, 117]) (v := v) bf (show FH [0, 106, 110, 111, 112, 113, 114, 115, 116, 119, 120] [0, 105, 117] v (wA (wA w111 105 ((w111.1 0 106).toNatClampNeg) pb) 0 106 ((w111.1 0 106) + (1 : Int32))) from (FH.f (FH.a (FH.tr (FH.f (FH.f (FH.f (FH.f (FH.f (FH.f (FH.f (FH.f (FH.f (FH.f (FH.f (FH.rf _) 0 (by decide)) 0 (by decide)) 0 (by decide)) 0 (by decide)) 0 (by decide)) 0 (by decide)) pd (by decide)) 0 (by decide)) 0 (by decide)) 0 (by decide)) 0 (by decide)) (FH.up (FG.h fwL111) (by decide) (by decide))) ((w111.1 0 106).toNatClampNeg) pb (by decide) (by decide)) ((w111.1 0 106) + (1 : Int32)) (by decide))).2.1 (show FH [0, 106, 110, 111, 112, 113, 114, 115, 116, 119, 120] [0, 105, 117] v (wA (wA w111 105 ((w111.1 0 106).toNatClampNeg) pb) 0 106 ((w111.1 0 106) + (1 : Int32))) from (FH.f (FH.a (FH.tr (FH.f (FH.f (FH.f (FH.f (FH.f (FH.f (FH.f (FH.f (FH.f (FH.f (FH.f (FH.rf _) 0 (by decide)) 0 (by decide)) 0 (by decide)) 0 (by decide)) 0 (by decide)) 0 (by decide)) pd (by decide)) 0 (by decide)) 0 (by decide)) 0 (by decide)) 0 (by decide)) (FH.up (FG.h fwL111) (by decide) (by decide))) ((w111.1 0 106).toNatClampNeg) pb (by decide) (by decide)) ((w111.1 0 106) + (1 : Int32)) (by decide))).2.2 (by decide) (by decide)) (show (w111.1 0 76).toInt ≤ 4096 from (om_cba83c4cfe zn q71))
                  have q72 : (w111.1 0 74).toInt = (v.1 0 74).toInt := congrArg Int32.toInt ((fwL111.2.1 74 (by decide)).trans (show (wA (wA (wA (wA (wA (wA (wA (wA (wA (wA (wA v 0 0 0) 0 106 0) 0 110 0) 0 111 0) 0 112 0) 0 113 0) 0 114 pd) 0 115 0) 0 116 0) 0 119 0) 0 120 0).1 0 74 = (v.1 0 74) by rfl))
                  have q73 : (w111.1 0 110).toInt = (0 : Int) := congrArg Int32.toInt ((fwL111.2.1 110 (by decide)).trans (show (wA (wA (wA (wA (wA (wA (wA (wA (wA (wA (wA v 0 0 0) 0 106 0) 0 110 0) 0 111 0) 0 112 0) 0 113 0) 0 114 pd) 0 115 0) 0 116 0) 0 119 0) 0 120 0).1 0 110 = (0 : Int32) by rfl))
                  have q74 : (w111.1 0 115).toInt = (0 : Int) := congrArg Int32.toInt ((fwL111.2.1 115 (by decide)).trans (show (wA (wA (wA (wA (wA (wA (wA (wA (wA (wA (wA v 0 0 0) 0 106 0) 0 110 0) 0 111 0) 0 112 0) 0 113 0) 0 114 pd) 0 115 0) 0 116 0) 0 119 0) 0 120 0).1 0 115 = (0 : Int32) by rfl))
                  have q75 : (w111.1 0 113).toInt = (0 : Int) := congrArg Int32.toInt ((fwL111.2.1 113 (by decide)).trans (show (wA (wA (wA (wA (wA (wA (wA (wA (wA (wA (wA v 0 0 0) 0 106 0) 0 110 0) 0 111 0) 0 112 0) 0 113 0) 0 114 pd) 0 115 0) 0 116 0) 0 119 0) 0 120 0).1 0 113 = (0 : Int32) by rfl))
                  have q76 : (w111.1 0 114).toInt = pd.toInt := congrArg Int32.toInt ((fwL111.2.1 114 (by decide)).trans (show (wA (wA (wA (wA (wA (wA (wA (wA (wA (wA (wA v 0 0 0) 0 106 0) 0 110 0) 0 111 0) 0 112 0) 0 113 0) 0 114 pd) 0 115 0) 0 116 0) 0 119 0) 0 120 0).1 0 114 = pd by rfl))
                  have q77 : (w111.1 0 119).toInt = (0 : Int) := congrArg Int32.toInt ((fwL111.2.1 119 (by decide)).trans (show (wA (wA (wA (wA (wA (wA (wA (wA (wA (wA (wA v 0 0 0) 0 106 0) 0 110 0) 0 111 0) 0 112 0) 0 113 0) 0 114 pd) 0 115 0) 0 116 0) 0 119 0) 0 120 0).1 0 119 = (0 : Int32) by rfl))
                  have q78 : (w111.1 0 120).toInt = (0 : Int) := congrArg Int32.toInt ((fwL111.2.1 120 (by decide)).trans (show (wA (wA (wA (wA (wA (wA (wA (wA (wA (wA (wA v 0 0 0) 0 106 0) 0 110 0) 0 111 0) 0 112 0) 0 113 0) 0 114 pd) 0 115 0) 0 116 0) 0 119 0) 0 120 0).1 0 120 = (0 : Int32) by rfl))
                  have q79 : ((w111.1 78) pa.toNatClampNeg).toInt = ((v.1 78) pa.toNatClampNeg).toInt := congrArg Int32.toInt (congrFun (fwL111.2.2 78 (by decide)) pa.toNatClampNeg)
                  have en9 : EN Tt Ee hg (wA (wA w111 105 ((w111.1 0 106).toNatClampNeg) pb) 0 106 ((w111.1 0 106) + (1 : Int32))) pa := EN.first prg9 (show 0 ≤ pa.toInt ∧ pa.toInt < (w111.1 0 74).toInt from (om_f692ffca1f z4 z6 q72)) (show (w111.1 0 110).toInt = 0 from (om_770ca75dd5 q73)) (show (w111.1 0 115).toInt = 0 from (om_770ca75dd5 q74)) (show (w111.1 0 113).toInt = 0 from (om_770ca75dd5 q75)) (show 0 ≤ (w111.1 0 114).toInt ∧ (w111.1 0 114).toInt ≤ 20000 from (om_50bdaf9c83 z14 z16 q76)) (show (w111.1 0 119).toInt = 0 from (om_770ca75dd5 q77)) (show (w111.1 0 120).toInt = 0 from (om_770ca75dd5 q78)) (show ((w111.1 0 106) + (1 : Int32)).toInt = (((wA (wA w111 105 ((w111.1 0 106).toNatClampNeg) pb) 0 106 ((w111.1 0 106) + (1 : Int32)))).1 78 pa.toNatClampNeg).toInt by rw [show ((wA (wA w111 105 ((w111.1 0 106).toNatClampNeg) pb) 0 106 ((w111.1 0 106) + (1 : Int32)))).1 78 pa.toNatClampNeg = ((v.1 78) pa.toNatClampNeg) from (congrFun (fwL111.2.2 78 (by decide)) pa.toNatClampNeg)]; exact (om_906fee7379 q64 q79 z63 z68 z70))
                  refine lv_aload_n hx hb dX13_work_163 rfl (lv_at hl 1 rfl) ?_
                  refine lv_aload_n hx hb dX13_work_164 rfl (lv_at hl 1 rfl) ?_
                  refine lv_iload_n hx hb dX13_work_165 rfl (lv_at hl 2 rfl) ?_
                  have q80 : (w111.1 0 77).toInt = (v.1 0 77).toInt := congrArg Int32.toInt ((fwL111.2.1 77 (by decide)).trans (show (wA (wA (wA (wA (wA (wA (wA (wA (wA (wA (wA v 0 0 0) 0 106 0) 0 110 0) 0 111 0) 0 112 0) 0 113 0) 0 114 pd) 0 115 0) 0 116 0) 0 119 0) 0 120 0).1 0 77 = (v.1 0 77) by rfl))
                  refine cu_i (rn_V (n := 1) (As := [.int pa]) (rest := [.ref (ad 0)]) hx hb hml hown ht hKK hFx hP hD hS hA (c_m_enter l dC dI cI cB cZ cJ cR tb H.size ad N (wA (wA w111 105 ((w111.1 0 106).toNatClampNeg) pb) 0 106 ((w111.1 0 106) + (1 : Int32))) pa Tt Ee hg (show EN Tt Ee hg (wA (wA w111 105 ((w111.1 0 106).toNatClampNeg) pb) 0 106 ((w111.1 0 106) + (1 : Int32))) pa from en9) (show (256 : Int) ≤ (N : Int) ∧ (N : Int) ≤ 4096 from (om_c42fe0fb85 zN)) (show 0 ≤ (w111.1 0 74).toInt ∧ (w111.1 0 74).toInt ≤ 40 from (om_43e4364dbb zbf z4 z6 q72)) (show 0 ≤ (w111.1 0 77).toInt ∧ (w111.1 0 77).toInt ≤ 16384 from (om_346c2236bb zli q80)) (show AR 78 0 8 (wA (wA w111 105 ((w111.1 0 106).toNatClampNeg) pb) 0 106 ((w111.1 0 106) + (1 : Int32))) from (AR.o (AR.o (show AR 78 0 8 w111 from AR.fr (fl := []) (al := [117]) fwL111 (by decide) (AR.o (AR.o (AR.o (AR.o (AR.o (AR.o (AR.o (AR.o (AR.o (AR.o (AR.o a78 (by decide)) (by decide)) (by decide)) (by decide)) (by decide)) (by decide)) (by decide)) (by decide)) (by decide)) (by decide)) (by decide))) (by decide)) (by decide))) (show AR 79 0 2008 (wA (wA w111 105 ((w111.1 0 106).toNatClampNeg) pb) 0 106 ((w111.1 0 106) + (1 : Int32))) from (AR.o (AR.o (show AR 79 0 2008 w111 from AR.fr (fl := []) (al := [117]) fwL111 (by decide) (AR.o (AR.o (AR.o (AR.o (AR.o (AR.o (AR.o (AR.o (AR.o (AR.o (AR.o a79 (by decide)) (by decide)) (by decide)) (by decide)) (by decide)) (by decide)) (by decide)) (by decide)) (by decide)) (by decide)) (by decide))) (by decide)) (by decide))) (show AR 82 0 500 (wA (wA w111 105 ((w111.1 0 106).toNatClampNeg) pb) 0 106 ((w111.1 0 106) + (1 : Int32))) from (AR.o (AR.o (show AR 82 0 500 w111 from AR.fr (fl := []) (al := [117]) fwL111 (by decide) (AR.o (AR.o (AR.o (AR.o (AR.o (AR.o (AR.o (AR.o (AR.o (AR.o (AR.o a82 (by decide)) (by decide)) (by decide)) (by decide)) (by decide)) (by decide)) (by decide)) (by decide)) (by decide)) (by decide)) (by decide))) (by decide)) (by decide)))) tw_348 tw_349 (by decide +kernel) rfl rfl ⟨Nat.le_of_ble_eq_true rfl, Nat.le_of_ble_eq_true rfl⟩ (List.range (mW ad N cI cZ cJ (wA (wA w111 105 ((w111.1 0 106).toNatClampNeg) pb) 0 106 ((w111.1 0 106) + (1 : Int32)))).length) (rg_map _) (mW_nd _ _ _ _ _ _) rfl rfl rfl rfl hl.1 rfl (Nat.le_of_ble_eq_true rfl) dX13_work_166 ⟨Nat.le_of_ble_eq_true rfl, Nat.le_of_ble_eq_true rfl⟩) hP hD hS hA (fun r83 u82 H locs hw81 hP hD hS => ?_)
                  obtain ⟨fr81, ex81, ob81⟩ := hw81
                  have ob81 : OBE Tt Ee hg (wA (wA w111 105 ((w111.1 0 106).toNatClampNeg) pb) 0 106 ((w111.1 0 106) + (1 : Int32))) u82 r83 := ob81
                  refine W.widen (k := 0) (n := 0) (Nat.le_refl _) (Nat.le_refl _) ?_
                  refine va_put (D := (dC, dI)) (ci := 16) (fs := mF ad u82) (v := .int r83) (ty := .int) (C := RX13) (T := TX13) (N := 124) hx hb ht itX13 tyX13 tyX13_ok nmX13 hown hK hP hD hS 0 rfl rfl 121 (by decide) (ht _ tw_305) (fun _ h9 => h9) rfl (by decide +kernel) rfl rfl (Nat.le_of_ble_eq_true rfl) dX13_work_169 (fun H locs hP hD hS => ?_)
                  have hP := cP_ (mw_121 ad N cI cZ cJ u82 r83) hP
                  have hD := cD_ (mw_121 ad N cI cZ cJ u82 r83) hD
                  refine lpm_ (X := MS) (P := (fun (x9 : MS) (H : Heap) (locs : List Loc) (ls : Array Slot) => (FG [106, 110, 111, 112, 113, 115, 116, 119, 120, 121] [0, 105, 107, 108, 109, 117, 118] (wA u82 0 121 r83) x9) ∧ (OBW Tt Ee hg x9) ∧ (RT (Q_m_work_L2 N r83 u82) (wA u82 0 121 r83) x9) ∧ va_P (dC, dI) vwCl (mW ad N cI cZ cJ x9) H ∧ va_D A (mW ad N cI cZ cJ x9) ∧ va_S A s.heap H locs ∧ lv_has ls 6 [(5, .int ka), (0, .ref (ad 0)), (1, .int pa), (2, .int pb), (3, .int pc1), (4, .int pd)])) (fun x9 => MWK Tt x9) 172 (fun w172 H locs ls hh ih172 => ?_) (wA u82 0 121 r83) _ _ _ ⟨(show FG [106, 110, 111, 112, 113, 115, 116, 119, 120, 121] [0, 105, 107, 108, 109, 117, 118] (wA u82 0 121 r83) (wA u82 0 121 r83) from (FG.rf _)), (show OBW Tt Ee hg (wA u82 0 121 r83) from (OBW.e (w := (wA (wA w111 105 ((w111.1 0 106).toNatClampNeg) pb) 0 106 ((w111.1 0 106) + (1 : Int32)))) ob81)), RT.rf, hP, hD, hS, lv_sub hl [0, 1, 2, 3, 4, 5] rfl⟩
                  obtain ⟨fwL172, obL172, exL172, hP, hD, hS, hl⟩ := hh
                  have fwL172 : FG [106, 110, 111, 112, 113, 115, 116, 119, 120, 121] [0, 105, 107, 108, 109, 117, 118] (wA u82 0 121 r83) w172 := fwL172
                  have obL172 : OBW Tt Ee hg w172 := obL172
                  have hP : va_P (dC, dI) vwCl (mW ad N cI cZ cJ w172) H := hP
                  have hD : va_D A (mW ad N cI cZ cJ w172) := hD
                  have hl : lv_has ls 6 [(5, .int ka), (0, .ref (ad 0)), (1, .int pa), (2, .int pb), (3, .int pc1), (4, .int pd)] := hl
                  refine lv_aload_n hx hb dX13_work_172 rfl (lv_at hl 1 rfl) ?_
                  refine va_get (D := (dC, dI)) (ci := 16) (fs := mF ad w172) (v := .int (w172.1 0 121)) (C := RX13) (T := TX13) (N := 124) hx hb ht itX13 hown hK hP 0 rfl rfl 121 (by decide) (ht _ tw_305) (fun _ h9 => h9) rfl dX13_work_173 ?_
                  refine lv_iconst (v := -1) hx hb dX13_work_176 (by decide) ?_
                  refine lv_icmp_ne (tgt := 191) hx hb dX13_work_177 (by decide) (fun h84 => ?_) (fun h84 => ?_)
                  · have z85 : (w172.1 0 121).toInt ≠ (-1 : Int) := ne_z rfl (show ((-1) : Int32).toInt = (-1 : Int) by decide) h84
                    refine lv_aload_n hx hb dX13_work_191 rfl (lv_at hl 1 rfl) ?_
                    refine lv_aload_n hx hb dX13_work_192 rfl (lv_at hl 1 rfl) ?_
                    refine va_get (D := (dC, dI)) (ci := 16) (fs := mF ad w172) (v := .int (w172.1 0 121)) (C := RX13) (T := TX13) (N := 124) hx hb ht itX13 hown hK hP 0 rfl rfl 121 (by decide) (ht _ tw_305) (fun _ h9 => h9) rfl dX13_work_193 ?_
                    refine lv_if_ne (tgt := 206) hx hb dX13_work_196 (by decide) (fun h86 => ?_) (fun h86 => ?_)
                    · have z87 : (w172.1 0 121).toInt ≠ (0 : Int) := ne_z rfl (show (0 : Int32).toInt = (0 : Int) by decide) h86
                      refine lv_iconst (v := 0) hx hb dX13_work_206 (by decide) ?_
                      refine va_put (D := (dC, dI)) (ci := 16) (fs := mF ad w172) (v := .int 0) (ty := .int) (C := RX13) (T := TX13) (N := 124) hx hb ht itX13 tyX13 tyX13_ok nmX13 hown hK hP hD hS 0 rfl rfl 122 (by decide) (ht _ tw_306) (fun _ h9 => h9) rfl (by decide +kernel) rfl rfl (Nat.le_of_ble_eq_true rfl) dX13_work_207 (fun H locs hP hD hS => ?_)
                      have hP := cP_ (mw_122 ad N cI cZ cJ w172 0) hP
                      have hD := cD_ (mw_122 ad N cI cZ cJ w172 0) hD
                      refine lv_aload_n hx hb dX13_work_210 rfl (lv_at hl 1 rfl) ?_
                      refine lv_iconst (v := 1) hx hb dX13_work_211 (by decide) ?_
                      refine va_put (D := (dC, dI)) (ci := 16) (fs := mF ad (wA w172 0 122 0)) (v := .int 1) (ty := .boolean) (C := RX13) (T := TX13) (N := 124) hx hb ht itX13 tyX13 tyX13_ok nmX13 hown hK hP hD hS 0 rfl rfl 123 (by decide) (ht _ tw_272) (fun _ h9 => h9) rfl (by decide +kernel) rfl rfl (Nat.le_of_ble_eq_true rfl) dX13_work_212 (fun H locs hP hD hS => ?_)
                      have hP := cP_ (mw_123 ad N cI cZ cJ (wA w172 0 122 0) 1) hP
                      have hD := cD_ (mw_123 ad N cI cZ cJ (wA w172 0 122 0) 1) hD
                      refine lv_aload_n hx hb dX13_work_215 rfl (lv_at hl 1 rfl) ?_
                      refine va_get (D := (dC, dI)) (ci := 16) (fs := mF ad (wA (wA w172 0 122 0) 0 123 1)) (v := .int (w172.1 0 121)) (C := RX13) (T := TX13) (N := 124) hx hb ht itX13 hown hK hP 0 rfl rfl 121 (by decide) (ht _ tw_305) (fun _ h9 => h9) rfl dX13_work_216 ?_
                      exact W.iret (v := (w172.1 0 121)) hx hb hr (fun t ht9 hW => ⟨⟨(w172.1 0 121), (wA (wA w172 0 122 0) 0 123 1), rfl, ⟨(FG.f (FG.f (FG.tr (FG.f (FG.tr (FG.f (FG.a (FG.tr (FG.f (FG.f (FG.f (FG.f (FG.f (FG.f (FG.f (FG.f (FG.f (FG.f (FG.f (FG.rf _) 0 (by decide)) 0 (by decide)) 0 (by decide)) 0 (by decide)) 0 (by decide)) 0 (by decide)) pd (by decide)) 0 (by decide)) 0 (by decide)) 0 (by decide)) 0 (by decide)) (FG.up fwL111 (by decide) (by decide))) ((w111.1 0 106).toNatClampNeg) pb (by decide) (by decide)) ((w111.1 0 106) + (1 : Int32)) (by decide)) (FG.up fr81 (by decide) (by decide))) r83 (by decide)) (FG.up fwL172 (by decide) (by decide))) 0 (by decide)) 1 (by decide)), ⟨zn, zbf, zbg, zli, zg, (Or.inr (⟨z4, (Or.inl ⟨z6, (Or.inr (⟨z10, (Or.inr (⟨z14, (Or.inl ⟨z16, ka, w111, exL111, fwL111, e1L111, z19, (Or.inr (⟨z63, (Or.inl ⟨z70, r83, u82, ex81, fr81, w172, exL172, fwL172, ⟨_, _, _, obL172⟩, z85, (Or.inl ⟨z87, rfl, rfl⟩)⟩)⟩))⟩)⟩))⟩))⟩)⟩))⟩⟩, by rw [ht9]; exact hP, hD⟩, hS.F ht9⟩) hS.2.2 dX13_work_219
                    · have z88 : (w172.1 0 121).toInt = (0 : Int) := eq_z rfl (show (0 : Int32).toInt = (0 : Int) by decide) h86
                      have on9 : (w172.1 0 106).toInt = 1 := OBW.one obL172 (om_770ca75dd5 z88)
                      refine lv_aload_n hx hb dX13_work_199 rfl (lv_at hl 1 rfl) ?_
                      refine cu_i (rn_V (n := 0) (As := []) (rest := [.ref (ad 0)]) hx hb hml hown ht hKK hFx hP hD hS hA (c_m_pop l dC dI cI cB cZ cJ cR tb H.size ad N w172  (show 1 ≤ (w172.1 0 106).toInt ∧ (w172.1 0 106).toInt ≤ 24000 from (om_6723dddc65 on9))) tw_335 tw_336 (by decide +kernel) rfl rfl ⟨Nat.le_of_ble_eq_true rfl, Nat.le_of_ble_eq_true rfl⟩ (List.range (mW ad N cI cZ cJ w172).length) (rg_map _) (mW_nd _ _ _ _ _ _) rfl rfl rfl rfl hl.1 rfl (Nat.le_of_ble_eq_true rfl) dX13_work_200 ⟨Nat.le_of_ble_eq_true rfl, Nat.le_of_ble_eq_true rfl⟩) hP hD hS hA (fun r91 u90 H locs hw89 hP hD hS => ?_)
                      obtain ⟨rfl, rfl⟩ := hw89
                      have z92 : ((w172.1 0 106) - (1 : Int32)).toInt = ((w172.1 0 106).toInt) - (1 : Int) := sub_z rfl (show (1 : Int32).toInt = (1 : Int) by decide) (om_fd30962fc3 on9) (om_1b24a136d8 on9)
                      have hP : va_P (dC, dI) vwCl (mW ad N cI cZ cJ (wA w172 0 106 ((w172.1 0 106) - (1 : Int32)))) H := hP
                      have hD : va_D A (mW ad N cI cZ cJ (wA w172 0 106 ((w172.1 0 106) - (1 : Int32)))) := hD
                      refine tp_i (y := ((w172.1 105) ((w172.1 0 106) - (1 : Int32)).toNatClampNeg)) (rfl) ?_
                      refine W.widen (k := 0) (n := 0) (Nat.le_refl _) (Nat.le_refl _) ?_
                      refine lv_goto (tgt := 207) hx hb dX13_work_203 (by decide) ?_
                      refine va_put (D := (dC, dI)) (ci := 16) (fs := mF ad (wA w172 0 106 ((w172.1 0 106) - (1 : Int32)))) (v := .int ((w172.1 105) ((w172.1 0 106) - (1 : Int32)).toNatClampNeg)) (ty := .int) (C := RX13) (T := TX13) (N := 124) hx hb ht itX13 tyX13 tyX13_ok nmX13 hown hK hP hD hS 0 rfl rfl 122 (by decide) (ht _ tw_306) (fun _ h9 => h9) rfl (by decide +kernel) rfl rfl (Nat.le_of_ble_eq_true rfl) dX13_work_207 (fun H locs hP hD hS => ?_)
                      have hP := cP_ (mw_122 ad N cI cZ cJ (wA w172 0 106 ((w172.1 0 106) - (1 : Int32))) ((w172.1 105) ((w172.1 0 106) - (1 : Int32)).toNatClampNeg)) hP
                      have hD := cD_ (mw_122 ad N cI cZ cJ (wA w172 0 106 ((w172.1 0 106) - (1 : Int32))) ((w172.1 105) ((w172.1 0 106) - (1 : Int32)).toNatClampNeg)) hD
                      refine lv_aload_n hx hb dX13_work_210 rfl (lv_at hl 1 rfl) ?_
                      refine lv_iconst (v := 1) hx hb dX13_work_211 (by decide) ?_
                      refine va_put (D := (dC, dI)) (ci := 16) (fs := mF ad (wA (wA w172 0 106 ((w172.1 0 106) - (1 : Int32))) 0 122 ((w172.1 105) ((w172.1 0 106) - (1 : Int32)).toNatClampNeg))) (v := .int 1) (ty := .boolean) (C := RX13) (T := TX13) (N := 124) hx hb ht itX13 tyX13 tyX13_ok nmX13 hown hK hP hD hS 0 rfl rfl 123 (by decide) (ht _ tw_272) (fun _ h9 => h9) rfl (by decide +kernel) rfl rfl (Nat.le_of_ble_eq_true rfl) dX13_work_212 (fun H locs hP hD hS => ?_)
                      have hP := cP_ (mw_123 ad N cI cZ cJ (wA (wA w172 0 106 ((w172.1 0 106) - (1 : Int32))) 0 122 ((w172.1 105) ((w172.1 0 106) - (1 : Int32)).toNatClampNeg)) 1) hP
                      have hD := cD_ (mw_123 ad N cI cZ cJ (wA (wA w172 0 106 ((w172.1 0 106) - (1 : Int32))) 0 122 ((w172.1 105) ((w172.1 0 106) - (1 : Int32)).toNatClampNeg)) 1) hD
                      refine lv_aload_n hx hb dX13_work_215 rfl (lv_at hl 1 rfl) ?_
                      refine va_get (D := (dC, dI)) (ci := 16) (fs := mF ad (wA (wA (wA w172 0 106 ((w172.1 0 106) - (1 : Int32))) 0 122 ((w172.1 105) ((w172.1 0 106) - (1 : Int32)).toNatClampNeg)) 0 123 1)) (v := .int (w172.1 0 121)) (C := RX13) (T := TX13) (N := 124) hx hb ht itX13 hown hK hP 0 rfl rfl 121 (by decide) (ht _ tw_305) (fun _ h9 => h9) rfl dX13_work_216 ?_
                      exact W.iret (v := (w172.1 0 121)) hx hb hr (fun t ht9 hW => ⟨⟨(w172.1 0 121), (wA (wA (wA w172 0 106 ((w172.1 0 106) - (1 : Int32))) 0 122 ((w172.1 105) ((w172.1 0 106) - (1 : Int32)).toNatClampNeg)) 0 123 1), rfl, ⟨(FG.f (FG.f (FG.f (FG.tr (FG.f (FG.tr (FG.f (FG.a (FG.tr (FG.f (FG.f (FG.f (FG.f (FG.f (FG.f (FG.f (FG.f (FG.f (FG.f (FG.f (FG.rf _) 0 (by decide)) 0 (by decide)) 0 (by decide)) 0 (by decide)) 0 (by decide)) 0 (by decide)) pd (by decide)) 0 (by decide)) 0 (by decide)) 0 (by decide)) 0 (by decide)) (FG.up fwL111 (by decide) (by decide))) ((w111.1 0 106).toNatClampNeg) pb (by decide) (by decide)) ((w111.1 0 106) + (1 : Int32)) (by decide)) (FG.up fr81 (by decide) (by decide))) r83 (by decide)) (FG.up fwL172 (by decide) (by decide))) ((w172.1 0 106) - (1 : Int32)) (by decide)) ((w172.1 105) ((w172.1 0 106) - (1 : Int32)).toNatClampNeg) (by decide)) 1 (by decide)), ⟨zn, zbf, zbg, zli, zg, (Or.inr (⟨z4, (Or.inl ⟨z6, (Or.inr (⟨z10, (Or.inr (⟨z14, (Or.inl ⟨z16, ka, w111, exL111, fwL111, e1L111, z19, (Or.inr (⟨z63, (Or.inl ⟨z70, r83, u82, ex81, fr81, w172, exL172, fwL172, ⟨_, _, _, obL172⟩, z85, (Or.inr (⟨z88, rfl, rfl⟩))⟩)⟩))⟩)⟩))⟩))⟩)⟩))⟩⟩, by rw [ht9]; exact hP, hD⟩, hS.F ht9⟩) hS.2.2 dX13_work_219
                  · have z93 : (w172.1 0 121).toInt = (-1 : Int) := eq_z rfl (show ((-1) : Int32).toInt = (-1 : Int) by decide) h84
                    refine lv_aload_n hx hb dX13_work_180 rfl (lv_at hl 1 rfl) ?_
                    refine lv_aload_n hx hb dX13_work_181 rfl (lv_at hl 1 rfl) ?_
                    have q94 : (u82.1 0 74).toInt = (w111.1 0 74).toInt := congrArg Int32.toInt ((fr81.2.1 74 (by decide)).trans (show (wA (wA w111 105 ((w111.1 0 106).toNatClampNeg) pb) 0 106 ((w111.1 0 106) + (1 : Int32))).1 0 74 = (w111.1 0 74) by rfl))
                    have q95 : (w172.1 0 74).toInt = (u82.1 0 74).toInt := congrArg Int32.toInt ((fwL172.2.1 74 (by decide)).trans (show (wA u82 0 121 r83).1 0 74 = (u82.1 0 74) by rfl))
                    have q96 : (w111.1 0 75).toInt = (v.1 0 75).toInt := congrArg Int32.toInt ((fwL111.2.1 75 (by decide)).trans (show (wA (wA (wA (wA (wA (wA (wA (wA (wA (wA (wA v 0 0 0) 0 106 0) 0 110 0) 0 111 0) 0 112 0) 0 113 0) 0 114 pd) 0 115 0) 0 116 0) 0 119 0) 0 120 0).1 0 75 = (v.1 0 75) by rfl))
                    have q97 : (u82.1 0 75).toInt = (w111.1 0 75).toInt := congrArg Int32.toInt ((fr81.2.1 75 (by decide)).trans (show (wA (wA w111 105 ((w111.1 0 106).toNatClampNeg) pb) 0 106 ((w111.1 0 106) + (1 : Int32))).1 0 75 = (w111.1 0 75) by rfl))
                    have q98 : (w172.1 0 75).toInt = (u82.1 0 75).toInt := congrArg Int32.toInt ((fwL172.2.1 75 (by decide)).trans (show (wA u82 0 121 r83).1 0 75 = (u82.1 0 75) by rfl))
                    have q99 : (u82.1 0 77).toInt = (w111.1 0 77).toInt := congrArg Int32.toInt ((fr81.2.1 77 (by decide)).trans (show (wA (wA w111 105 ((w111.1 0 106).toNatClampNeg) pb) 0 106 ((w111.1 0 106) + (1 : Int32))).1 0 77 = (w111.1 0 77) by rfl))
                    have q100 : (w172.1 0 77).toInt = (u82.1 0 77).toInt := congrArg Int32.toInt ((fwL172.2.1 77 (by decide)).trans (show (wA u82 0 121 r83).1 0 77 = (u82.1 0 77) by rfl))
                    have q101 : (w111.1 0 94).toInt = (v.1 0 94).toInt := congrArg Int32.toInt ((fwL111.2.1 94 (by decide)).trans (show (wA (wA (wA (wA (wA (wA (wA (wA (wA (wA (wA v 0 0 0) 0 106 0) 0 110 0) 0 111 0) 0 112 0) 0 113 0) 0 114 pd) 0 115 0) 0 116 0) 0 119 0) 0 120 0).1 0 94 = (v.1 0 94) by rfl))
                    have q102 : (u82.1 0 94).toInt = (w111.1 0 94).toInt := congrArg Int32.toInt ((fr81.2.1 94 (by decide)).trans (show (wA (wA w111 105 ((w111.1 0 106).toNatClampNeg) pb) 0 106 ((w111.1 0 106) + (1 : Int32))).1 0 94 = (w111.1 0 94) by rfl))
                    have q103 : (w172.1 0 94).toInt = (u82.1 0 94).toInt := congrArg Int32.toInt ((fwL172.2.1 94 (by decide)).trans (show (wA u82 0 121 r83).1 0 94 = (u82.1 0 94) by rfl))
                    refine cu_i (rn_V (n := 0) (As := []) (rest := [.ref (ad 0)]) hx hb hml hown ht hKK hFx hP hD hS hA (c_m_obey l dC dI cI cB cZ cJ cR tb H.size ad N w172 Tt Ee hg (show MI Tt Ee hg w172 (w172.1 0 112) from (OBW.mi obL172 (om_41e72fd3a9 z93))) (show (256 : Int) ≤ (N : Int) ∧ (N : Int) ≤ 4096 from (om_c42fe0fb85 zN)) (show 0 ≤ (w172.1 0 74).toInt ∧ (w172.1 0 74).toInt ≤ 40 from (om_f14b981263 zbf z4 z6 q72 q94 q95)) (show 0 ≤ (w172.1 0 75).toInt ∧ (w172.1 0 75).toInt ≤ 60 from (om_243ce53172 zbg q96 q97 q98)) (show 0 ≤ (w172.1 0 77).toInt ∧ (w172.1 0 77).toInt ≤ 16384 from (om_b2080334c4 zli q80 q99 q100)) (show 0 ≤ (w172.1 0 94).toInt ∧ (w172.1 0 94).toInt ≤ 64 from (om_693dcb14ec zg q101 q102 q103)) (show AR 78 0 8 w172 from (show AR 78 0 8 w172 from AR.fr (fl := [106, 110, 111, 112, 113, 115, 116, 119, 120, 121]) (al := [0, 105, 107, 108, 109, 117, 118]) fwL172 (by decide) (AR.o (show AR 78 0 8 u82 from AR.fr (fl := [106, 110, 111, 112, 113, 115, 116]) (al := [0, 105, 107, 108, 109]) fr81 (by decide) (AR.o (AR.o (show AR 78 0 8 w111 from AR.fr (fl := []) (al := [117]) fwL111 (by decide) (AR.o (AR.o (AR.o (AR.o (AR.o (AR.o (AR.o (AR.o (AR.o (AR.o (AR.o a78 (by decide)) (by decide)) (by decide)) (by decide)) (by decide)) (by decide)) (by decide)) (by decide)) (by decide)) (by decide)) (by decide))) (by decide)) (by decide))) (by decide)))) (show AR 79 0 2008 w172 from (show AR 79 0 2008 w172 from AR.fr (fl := [106, 110, 111, 112, 113, 115, 116, 119, 120, 121]) (al := [0, 105, 107, 108, 109, 117, 118]) fwL172 (by decide) (AR.o (show AR 79 0 2008 u82 from AR.fr (fl := [106, 110, 111, 112, 113, 115, 116]) (al := [0, 105, 107, 108, 109]) fr81 (by decide) (AR.o (AR.o (show AR 79 0 2008 w111 from AR.fr (fl := []) (al := [117]) fwL111 (by decide) (AR.o (AR.o (AR.o (AR.o (AR.o (AR.o (AR.o (AR.o (AR.o (AR.o (AR.o a79 (by decide)) (by decide)) (by decide)) (by decide)) (by decide)) (by decide)) (by decide)) (by decide)) (by decide)) (by decide)) (by decide))) (by decide)) (by decide))) (by decide)))) (show AR 82 0 500 w172 from (show AR 82 0 500 w172 from AR.fr (fl := [106, 110, 111, 112, 113, 115, 116, 119, 120, 121]) (al := [0, 105, 107, 108, 109, 117, 118]) fwL172 (by decide) (AR.o (show AR 82 0 500 u82 from AR.fr (fl := [106, 110, 111, 112, 113, 115, 116]) (al := [0, 105, 107, 108, 109]) fr81 (by decide) (AR.o (AR.o (show AR 82 0 500 w111 from AR.fr (fl := []) (al := [117]) fwL111 (by decide) (AR.o (AR.o (AR.o (AR.o (AR.o (AR.o (AR.o (AR.o (AR.o (AR.o (AR.o a82 (by decide)) (by decide)) (by decide)) (by decide)) (by decide)) (by decide)) (by decide)) (by decide)) (by decide)) (by decide)) (by decide))) (by decide)) (by decide))) (by decide))))) tw_356 tw_357 (by decide +kernel) rfl rfl ⟨Nat.le_of_ble_eq_true rfl, Nat.le_of_ble_eq_true rfl⟩ (List.range (mW ad N cI cZ cJ w172).length) (rg_map _) (mW_nd _ _ _ _ _ _) rfl rfl rfl rfl hl.1 rfl (Nat.le_of_ble_eq_true rfl) dX13_work_182 ⟨Nat.le_of_ble_eq_true rfl, Nat.le_of_ble_eq_true rfl⟩) hP hD hS hA (fun r106 u105 H locs hw104 hP hD hS => ?_)
                    obtain ⟨fr104, ex104, ob104⟩ := hw104
                    have ob104 : OBP Tt Ee hg w172 u105 (w172.1 0 112) r106 := ob104
                    refine W.widen (k := 0) (n := 0) (Nat.le_refl _) (Nat.le_refl _) ?_
                    refine va_put (D := (dC, dI)) (ci := 16) (fs := mF ad u105) (v := .int r106) (ty := .int) (C := RX13) (T := TX13) (N := 124) hx hb ht itX13 tyX13 tyX13_ok nmX13 hown hK hP hD hS 0 rfl rfl 121 (by decide) (ht _ tw_305) (fun _ h9 => h9) rfl (by decide +kernel) rfl rfl (Nat.le_of_ble_eq_true rfl) dX13_work_185 (fun H locs hP hD hS => ?_)
                    have hP := cP_ (mw_121 ad N cI cZ cJ u105 r106) hP
                    have hD := cD_ (mw_121 ad N cI cZ cJ u105 r106) hD
                    refine lv_goto (tgt := 172) hx hb dX13_work_188 (by decide) ?_
                    exact ih172 (wA u105 0 121 r106) _ _ _ (MWK.lt (om_41e72fd3a9 z93) ob104) ⟨(show FG [106, 110, 111, 112, 113, 115, 116, 119, 120, 121] [0, 105, 107, 108, 109, 117, 118] (wA u82 0 121 r83) (wA u105 0 121 r106) from (FG.f (FG.tr (FG.tr (FG.rf _) (FG.up fwL172 (by decide) (by decide))) (FG.up fr104 (by decide) (by decide))) r106 (by decide))), (show OBW Tt Ee hg (wA u105 0 121 r106) from (OBW.o ob104)), (RT.st exL172 ⟨fwL172, ⟨_, _, _, obL172⟩, z93, r106, u105, ex104, fr104, rfl⟩), hP, hD, hS, lv_sub hl [0, 1, 2, 3, 4, 5] rfl⟩
                · have z107 : (1 : Int) < ((w111.1 78) pa.toNatClampNeg).toInt := nle_z rfl (show (1 : Int32).toInt = (1 : Int) by decide) h69
                  refine lv_aload_n hx hb dX13_work_158 rfl (lv_at hl 1 rfl) ?_
                  refine lv_iload_n hx hb dX13_work_159 rfl (lv_at hl 4 rfl) ?_
                  refine cu_v (rn_V (n := 1) (As := [.int pc1]) (rest := []) hx hb hml hown ht hKK hFx hP hD hS hA (c_m_push l dC dI cI cB cZ cJ cR tb H.size ad N (wA (wA w111 105 ((w111.1 0 106).toNatClampNeg) pb) 0 106 ((w111.1 0 106) + (1 : Int32))) pc1 (show 0 ≤ ((w111.1 0 106) + (1 : Int32)).toInt ∧ ((w111.1 0 106) + (1 : Int32)).toInt < 24000 from (om_bfdc5e0726 q64 z68))) tw_332 tw_333 (by decide +kernel) rfl rfl ⟨Nat.le_of_ble_eq_true rfl, Nat.le_of_ble_eq_true rfl⟩ (List.range (mW ad N cI cZ cJ (wA (wA w111 105 ((w111.1 0 106).toNatClampNeg) pb) 0 106 ((w111.1 0 106) + (1 : Int32)))).length) (rg_map _) (mW_nd _ _ _ _ _ _) rfl rfl rfl rfl hl.1 rfl (Nat.le_of_ble_eq_true rfl) dX13_work_160 ⟨Nat.le_of_ble_eq_true rfl, Nat.le_of_ble_eq_true rfl⟩) hP hD hS hA (fun u109 H locs hw108 hP hD hS => ?_)
                  obtain rfl := hw108
                  have z111 : (((w111.1 0 106) + (1 : Int32)) + (1 : Int32)).toInt = (((w111.1 0 106).toInt) + (1 : Int)) + (1 : Int) := add_z z68 (show (1 : Int32).toInt = (1 : Int) by decide) (om_9580fbf78a q64) (om_e5f7852bef q64)
                  have hP : va_P (dC, dI) vwCl (mW ad N cI cZ cJ (wA (wA (wA (wA w111 105 ((w111.1 0 106).toNatClampNeg) pb) 0 106 ((w111.1 0 106) + (1 : Int32))) 105 (((w111.1 0 106) + (1 : Int32)).toNatClampNeg) pc1) 0 106 (((w111.1 0 106) + (1 : Int32)) + (1 : Int32)))) H := hP
                  have hD : va_D A (mW ad N cI cZ cJ (wA (wA (wA (wA w111 105 ((w111.1 0 106).toNatClampNeg) pb) 0 106 ((w111.1 0 106) + (1 : Int32))) 105 (((w111.1 0 106) + (1 : Int32)).toNatClampNeg) pc1) 0 106 (((w111.1 0 106) + (1 : Int32)) + (1 : Int32)))) := hD
                  refine W.widen (k := 0) (n := 0) (Nat.le_refl _) (Nat.le_refl _) ?_
                  have q112 : (w111.1 0 76).toInt = (v.1 0 76).toInt := congrArg Int32.toInt ((fwL111.2.1 76 (by decide)).trans (show (wA (wA (wA (wA (wA (wA (wA (wA (wA (wA (wA v 0 0 0) 0 106 0) 0 110 0) 0 111 0) 0 112 0) 0 113 0) 0 114 pd) 0 115 0) 0 116 0) 0 119 0) 0 120 0).1 0 76 = (v.1 0 76) by rfl))
                  obtain ⟨Tt, Ee, hg, prg9⟩ := PRG.of (v := (wA (wA (wA (wA w111 105 ((w111.1 0 106).toNatClampNeg) pb) 0 106 ((w111.1 0 106) + (1 : Int32))) 105 (((w111.1 0 106) + (1 : Int32)).toNatClampNeg) pc1) 0 106 (((w111.1 0 106) + (1 : Int32)) + (1 : Int32)))) (BG.fr (fl := [0, 106, 110, 111, 112, 113, 114, 115, 116, 119, 120]) (al := [0, 105, 117]) (v := v) bg (show FH [0, 106, 110, 111, 112, 113, 114, 115, 116, 119, 120] [0, 105, 117] v (wA (wA (wA (wA w111 105 ((w111.1 0 106).toNatClampNeg) pb) 0 106 ((w111.1 0 106) + (1 : Int32))) 105 (((w111.1 0 106) + (1 : Int32)).toNatClampNeg) pc1) 0 106 (((w111.1 0 106) + (1 : Int32)) + (1 : Int32))) from (FH.f (FH.a (FH.f (FH.a (FH.tr (FH.f (FH.f (FH.f (FH.f (FH.f (FH.f (FH.f (FH.f (FH.f (FH.f (FH.f (FH.rf _) 0 (by decide)) 0 (by decide)) 0 (by decide)) 0 (by decide)) 0 (by decide)) 0 (by decide)) pd (by decide)) 0 (by decide)) 0 (by decide)) 0 (by decide)) 0 (by decide)) (FH.up (FG.h fwL111) (by decide) (by decide))) ((w111.1 0 106).toNatClampNeg) pb (by decide) (by decide)) ((w111.1 0 106) + (1 : Int32)) (by decide)) (((w111.1 0 106) + (1 : Int32)).toNatClampNeg) pc1 (by decide) (by decide)) (((w111.1 0 106) + (1 : Int32)) + (1 : Int32)) (by decide))).2.1 (show FH [0, 106, 110, 111, 112, 113, 114, 115, 116, 119, 120] [0, 105, 117] v (wA (wA (wA (wA w111 105 ((w111.1 0 106).toNatClampNeg) pb) 0 106 ((w111.1 0 106) + (1 : Int32))) 105 (((w111.1 0 106) + (1 : Int32)).toNatClampNeg) pc1) 0 106 (((w111.1 0 106) + (1 : Int32)) + (1 : Int32))) from (FH.f (FH.a (FH.f (FH.a (FH.tr (FH.f (FH.f (FH.f (FH.f (FH.f (FH.f (FH.f (FH.f (FH.f (FH.f (FH.f (FH.rf _) 0 (by decide)) 0 (by decide)) 0 (by decide)) 0 (by decide)) 0 (by decide)) 0 (by decide)) pd (by decide)) 0 (by decide)) 0 (by decide)) 0 (by decide)) 0 (by decide)) (FH.up (FG.h fwL111) (by decide) (by decide))) ((w111.1 0 106).toNatClampNeg) pb (by decide) (by decide)) ((w111.1 0 106) + (1 : Int32)) (by decide)) (((w111.1 0 106) + (1 : Int32)).toNatClampNeg) pc1 (by decide) (by decide)) (((w111.1 0 106) + (1 : Int32)) + (1 : Int32)) (by decide))).2.2 (by decide) (by decide)) (BF.fr (fl := [0, 106, 110, 111, 112, 113, 114, 115, 116, 119, 120]) (al := [0, 105, 117]) (v := v) bf (show FH [0, 106, 110, 111, 112, 113, 114, 115, 116, 119, 120] [0, 105, 117] v (wA (wA (wA (wA w111 105 ((w111.1 0 106).toNatClampNeg) pb) 0 106 ((w111.1 0 106) + (1 : Int32))) 105 (((w111.1 0 106) + (1 : Int32)).toNatClampNeg) pc1) 0 106 (((w111.1 0 106) + (1 : Int32)) + (1 : Int32))) from (FH.f (FH.a (FH.f (FH.a (FH.tr (FH.f (FH.f (FH.f (FH.f (FH.f (FH.f (FH.f (FH.f (FH.f (FH.f (FH.f (FH.rf _) 0 (by decide)) 0 (by decide)) 0 (by decide)) 0 (by decide)) 0 (by decide)) 0 (by decide)) pd (by decide)) 0 (by decide)) 0 (by decide)) 0 (by decide)) 0 (by decide)) (FH.up (FG.h fwL111) (by decide) (by decide))) ((w111.1 0 106).toNatClampNeg) pb (by decide) (by decide)) ((w111.1 0 106) + (1 : Int32)) (by decide)) (((w111.1 0 106) + (1 : Int32)).toNatClampNeg) pc1 (by decide) (by decide)) (((w111.1 0 106) + (1 : Int32)) + (1 : Int32)) (by decide))).2.1 (show FH [0, 106, 110, 111, 112, 113, 114, 115, 116, 119, 120] [0, 105, 117] v (wA (wA (wA (wA w111 105 ((w111.1 0 106).toNatClampNeg) pb) 0 106 ((w111.1 0 106) + (1 : Int32))) 105 (((w111.1 0 106) + (1 : Int32)).toNatClampNeg) pc1) 0 106 (((w111.1 0 106) + (1 : Int32)) + (1 : Int32))) from (FH.f (FH.a (FH.f (FH.a (FH.tr (FH.f (FH.f (FH.f (FH.f (FH.f (FH.f (FH.f (FH.f (FH.f (FH.f (FH.f (FH.rf _) 0 (by decide)) 0 (by decide)) 0 (by decide)) 0 (by decide)) 0 (by decide)) 0 (by decide)) pd (by decide)) 0 (by decide)) 0 (by decide)) 0 (by decide)) 0 (by decide)) (FH.up (FG.h fwL111) (by decide) (by decide))) ((w111.1 0 106).toNatClampNeg) pb (by decide) (by decide)) ((w111.1 0 106) + (1 : Int32)) (by decide)) (((w111.1 0 106) + (1 : Int32)).toNatClampNeg) pc1 (by decide) (by decide)) (((w111.1 0 106) + (1 : Int32)) + (1 : Int32)) (by decide))).2.2 (by decide) (by decide)) (show (w111.1 0 76).toInt ≤ 4096 from (om_cba83c4cfe zn q112))
                  have q113 : (w111.1 0 74).toInt = (v.1 0 74).toInt := congrArg Int32.toInt ((fwL111.2.1 74 (by decide)).trans (show (wA (wA (wA (wA (wA (wA (wA (wA (wA (wA (wA v 0 0 0) 0 106 0) 0 110 0) 0 111 0) 0 112 0) 0 113 0) 0 114 pd) 0 115 0) 0 116 0) 0 119 0) 0 120 0).1 0 74 = (v.1 0 74) by rfl))
                  have q114 : (w111.1 0 110).toInt = (0 : Int) := congrArg Int32.toInt ((fwL111.2.1 110 (by decide)).trans (show (wA (wA (wA (wA (wA (wA (wA (wA (wA (wA (wA v 0 0 0) 0 106 0) 0 110 0) 0 111 0) 0 112 0) 0 113 0) 0 114 pd) 0 115 0) 0 116 0) 0 119 0) 0 120 0).1 0 110 = (0 : Int32) by rfl))
                  have q115 : (w111.1 0 115).toInt = (0 : Int) := congrArg Int32.toInt ((fwL111.2.1 115 (by decide)).trans (show (wA (wA (wA (wA (wA (wA (wA (wA (wA (wA (wA v 0 0 0) 0 106 0) 0 110 0) 0 111 0) 0 112 0) 0 113 0) 0 114 pd) 0 115 0) 0 116 0) 0 119 0) 0 120 0).1 0 115 = (0 : Int32) by rfl))
                  have q116 : (w111.1 0 113).toInt = (0 : Int) := congrArg Int32.toInt ((fwL111.2.1 113 (by decide)).trans (show (wA (wA (wA (wA (wA (wA (wA (wA (wA (wA (wA v 0 0 0) 0 106 0) 0 110 0) 0 111 0) 0 112 0) 0 113 0) 0 114 pd) 0 115 0) 0 116 0) 0 119 0) 0 120 0).1 0 113 = (0 : Int32) by rfl))
                  have q117 : (w111.1 0 114).toInt = pd.toInt := congrArg Int32.toInt ((fwL111.2.1 114 (by decide)).trans (show (wA (wA (wA (wA (wA (wA (wA (wA (wA (wA (wA v 0 0 0) 0 106 0) 0 110 0) 0 111 0) 0 112 0) 0 113 0) 0 114 pd) 0 115 0) 0 116 0) 0 119 0) 0 120 0).1 0 114 = pd by rfl))
                  have q118 : (w111.1 0 119).toInt = (0 : Int) := congrArg Int32.toInt ((fwL111.2.1 119 (by decide)).trans (show (wA (wA (wA (wA (wA (wA (wA (wA (wA (wA (wA v 0 0 0) 0 106 0) 0 110 0) 0 111 0) 0 112 0) 0 113 0) 0 114 pd) 0 115 0) 0 116 0) 0 119 0) 0 120 0).1 0 119 = (0 : Int32) by rfl))
                  have q119 : (w111.1 0 120).toInt = (0 : Int) := congrArg Int32.toInt ((fwL111.2.1 120 (by decide)).trans (show (wA (wA (wA (wA (wA (wA (wA (wA (wA (wA (wA v 0 0 0) 0 106 0) 0 110 0) 0 111 0) 0 112 0) 0 113 0) 0 114 pd) 0 115 0) 0 116 0) 0 119 0) 0 120 0).1 0 120 = (0 : Int32) by rfl))
                  have q120 : ((w111.1 78) pa.toNatClampNeg).toInt = ((v.1 78) pa.toNatClampNeg).toInt := congrArg Int32.toInt (congrFun (fwL111.2.2 78 (by decide)) pa.toNatClampNeg)
                  have en9 : EN Tt Ee hg (wA (wA (wA (wA w111 105 ((w111.1 0 106).toNatClampNeg) pb) 0 106 ((w111.1 0 106) + (1 : Int32))) 105 (((w111.1 0 106) + (1 : Int32)).toNatClampNeg) pc1) 0 106 (((w111.1 0 106) + (1 : Int32)) + (1 : Int32))) pa := EN.first prg9 (show 0 ≤ pa.toInt ∧ pa.toInt < (w111.1 0 74).toInt from (om_f692ffca1f z4 z6 q113)) (show (w111.1 0 110).toInt = 0 from (om_770ca75dd5 q114)) (show (w111.1 0 115).toInt = 0 from (om_770ca75dd5 q115)) (show (w111.1 0 113).toInt = 0 from (om_770ca75dd5 q116)) (show 0 ≤ (w111.1 0 114).toInt ∧ (w111.1 0 114).toInt ≤ 20000 from (om_50bdaf9c83 z14 z16 q117)) (show (w111.1 0 119).toInt = 0 from (om_770ca75dd5 q118)) (show (w111.1 0 120).toInt = 0 from (om_770ca75dd5 q119)) (show (((w111.1 0 106) + (1 : Int32)) + (1 : Int32)).toInt = (((wA (wA (wA (wA w111 105 ((w111.1 0 106).toNatClampNeg) pb) 0 106 ((w111.1 0 106) + (1 : Int32))) 105 (((w111.1 0 106) + (1 : Int32)).toNatClampNeg) pc1) 0 106 (((w111.1 0 106) + (1 : Int32)) + (1 : Int32)))).1 78 pa.toNatClampNeg).toInt by rw [show ((wA (wA (wA (wA w111 105 ((w111.1 0 106).toNatClampNeg) pb) 0 106 ((w111.1 0 106) + (1 : Int32))) 105 (((w111.1 0 106) + (1 : Int32)).toNatClampNeg) pc1) 0 106 (((w111.1 0 106) + (1 : Int32)) + (1 : Int32)))).1 78 pa.toNatClampNeg = ((v.1 78) pa.toNatClampNeg) from (congrFun (fwL111.2.2 78 (by decide)) pa.toNatClampNeg)]; exact (om_0b19103be4 z10 q64 q120 z107 z111))
                  refine lv_aload_n hx hb dX13_work_163 rfl (lv_at hl 1 rfl) ?_
                  refine lv_aload_n hx hb dX13_work_164 rfl (lv_at hl 1 rfl) ?_
                  refine lv_iload_n hx hb dX13_work_165 rfl (lv_at hl 2 rfl) ?_
                  have q121 : (w111.1 0 77).toInt = (v.1 0 77).toInt := congrArg Int32.toInt ((fwL111.2.1 77 (by decide)).trans (show (wA (wA (wA (wA (wA (wA (wA (wA (wA (wA (wA v 0 0 0) 0 106 0) 0 110 0) 0 111 0) 0 112 0) 0 113 0) 0 114 pd) 0 115 0) 0 116 0) 0 119 0) 0 120 0).1 0 77 = (v.1 0 77) by rfl))
                  refine cu_i (rn_V (n := 1) (As := [.int pa]) (rest := [.ref (ad 0)]) hx hb hml hown ht hKK hFx hP hD hS hA (c_m_enter l dC dI cI cB cZ cJ cR tb H.size ad N (wA (wA (wA (wA w111 105 ((w111.1 0 106).toNatClampNeg) pb) 0 106 ((w111.1 0 106) + (1 : Int32))) 105 (((w111.1 0 106) + (1 : Int32)).toNatClampNeg) pc1) 0 106 (((w111.1 0 106) + (1 : Int32)) + (1 : Int32))) pa Tt Ee hg (show EN Tt Ee hg (wA (wA (wA (wA w111 105 ((w111.1 0 106).toNatClampNeg) pb) 0 106 ((w111.1 0 106) + (1 : Int32))) 105 (((w111.1 0 106) + (1 : Int32)).toNatClampNeg) pc1) 0 106 (((w111.1 0 106) + (1 : Int32)) + (1 : Int32))) pa from en9) (show (256 : Int) ≤ (N : Int) ∧ (N : Int) ≤ 4096 from (om_c42fe0fb85 zN)) (show 0 ≤ (w111.1 0 74).toInt ∧ (w111.1 0 74).toInt ≤ 40 from (om_43e4364dbb zbf z4 z6 q113)) (show 0 ≤ (w111.1 0 77).toInt ∧ (w111.1 0 77).toInt ≤ 16384 from (om_346c2236bb zli q121)) (show AR 78 0 8 (wA (wA (wA (wA w111 105 ((w111.1 0 106).toNatClampNeg) pb) 0 106 ((w111.1 0 106) + (1 : Int32))) 105 (((w111.1 0 106) + (1 : Int32)).toNatClampNeg) pc1) 0 106 (((w111.1 0 106) + (1 : Int32)) + (1 : Int32))) from (AR.o (AR.o (AR.o (AR.o (show AR 78 0 8 w111 from AR.fr (fl := []) (al := [117]) fwL111 (by decide) (AR.o (AR.o (AR.o (AR.o (AR.o (AR.o (AR.o (AR.o (AR.o (AR.o (AR.o a78 (by decide)) (by decide)) (by decide)) (by decide)) (by decide)) (by decide)) (by decide)) (by decide)) (by decide)) (by decide)) (by decide))) (by decide)) (by decide)) (by decide)) (by decide))) (show AR 79 0 2008 (wA (wA (wA (wA w111 105 ((w111.1 0 106).toNatClampNeg) pb) 0 106 ((w111.1 0 106) + (1 : Int32))) 105 (((w111.1 0 106) + (1 : Int32)).toNatClampNeg) pc1) 0 106 (((w111.1 0 106) + (1 : Int32)) + (1 : Int32))) from (AR.o (AR.o (AR.o (AR.o (show AR 79 0 2008 w111 from AR.fr (fl := []) (al := [117]) fwL111 (by decide) (AR.o (AR.o (AR.o (AR.o (AR.o (AR.o (AR.o (AR.o (AR.o (AR.o (AR.o a79 (by decide)) (by decide)) (by decide)) (by decide)) (by decide)) (by decide)) (by decide)) (by decide)) (by decide)) (by decide)) (by decide))) (by decide)) (by decide)) (by decide)) (by decide))) (show AR 82 0 500 (wA (wA (wA (wA w111 105 ((w111.1 0 106).toNatClampNeg) pb) 0 106 ((w111.1 0 106) + (1 : Int32))) 105 (((w111.1 0 106) + (1 : Int32)).toNatClampNeg) pc1) 0 106 (((w111.1 0 106) + (1 : Int32)) + (1 : Int32))) from (AR.o (AR.o (AR.o (AR.o (show AR 82 0 500 w111 from AR.fr (fl := []) (al := [117]) fwL111 (by decide) (AR.o (AR.o (AR.o (AR.o (AR.o (AR.o (AR.o (AR.o (AR.o (AR.o (AR.o a82 (by decide)) (by decide)) (by decide)) (by decide)) (by decide)) (by decide)) (by decide)) (by decide)) (by decide)) (by decide)) (by decide))) (by decide)) (by decide)) (by decide)) (by decide)))) tw_348 tw_349 (by decide +kernel) rfl rfl ⟨Nat.le_of_ble_eq_true rfl, Nat.le_of_ble_eq_true rfl⟩ (List.range (mW ad N cI cZ cJ (wA (wA (wA (wA w111 105 ((w111.1 0 106).toNatClampNeg) pb) 0 106 ((w111.1 0 106) + (1 : Int32))) 105 (((w111.1 0 106) + (1 : Int32)).toNatClampNeg) pc1) 0 106 (((w111.1 0 106) + (1 : Int32)) + (1 : Int32)))).length) (rg_map _) (mW_nd _ _ _ _ _ _) rfl rfl rfl rfl hl.1 rfl (Nat.le_of_ble_eq_true rfl) dX13_work_166 ⟨Nat.le_of_ble_eq_true rfl, Nat.le_of_ble_eq_true rfl⟩) hP hD hS hA (fun r124 u123 H locs hw122 hP hD hS => ?_)
                  obtain ⟨fr122, ex122, ob122⟩ := hw122
                  have ob122 : OBE Tt Ee hg (wA (wA (wA (wA w111 105 ((w111.1 0 106).toNatClampNeg) pb) 0 106 ((w111.1 0 106) + (1 : Int32))) 105 (((w111.1 0 106) + (1 : Int32)).toNatClampNeg) pc1) 0 106 (((w111.1 0 106) + (1 : Int32)) + (1 : Int32))) u123 r124 := ob122
                  refine W.widen (k := 0) (n := 0) (Nat.le_refl _) (Nat.le_refl _) ?_
                  refine va_put (D := (dC, dI)) (ci := 16) (fs := mF ad u123) (v := .int r124) (ty := .int) (C := RX13) (T := TX13) (N := 124) hx hb ht itX13 tyX13 tyX13_ok nmX13 hown hK hP hD hS 0 rfl rfl 121 (by decide) (ht _ tw_305) (fun _ h9 => h9) rfl (by decide +kernel) rfl rfl (Nat.le_of_ble_eq_true rfl) dX13_work_169 (fun H locs hP hD hS => ?_)
                  have hP := cP_ (mw_121 ad N cI cZ cJ u123 r124) hP
                  have hD := cD_ (mw_121 ad N cI cZ cJ u123 r124) hD
                  refine lpm_ (X := MS) (P := (fun (x9 : MS) (H : Heap) (locs : List Loc) (ls : Array Slot) => (FG [106, 110, 111, 112, 113, 115, 116, 119, 120, 121] [0, 105, 107, 108, 109, 117, 118] (wA u123 0 121 r124) x9) ∧ (OBW Tt Ee hg x9) ∧ (RT (Q_m_work_L3 N r124 u123) (wA u123 0 121 r124) x9) ∧ va_P (dC, dI) vwCl (mW ad N cI cZ cJ x9) H ∧ va_D A (mW ad N cI cZ cJ x9) ∧ va_S A s.heap H locs ∧ lv_has ls 6 [(5, .int ka), (0, .ref (ad 0)), (1, .int pa), (2, .int pb), (3, .int pc1), (4, .int pd)])) (fun x9 => MWK Tt x9) 172 (fun w172 H locs ls hh ih172 => ?_) (wA u123 0 121 r124) _ _ _ ⟨(show FG [106, 110, 111, 112, 113, 115, 116, 119, 120, 121] [0, 105, 107, 108, 109, 117, 118] (wA u123 0 121 r124) (wA u123 0 121 r124) from (FG.rf _)), (show OBW Tt Ee hg (wA u123 0 121 r124) from (OBW.e (w := (wA (wA (wA (wA w111 105 ((w111.1 0 106).toNatClampNeg) pb) 0 106 ((w111.1 0 106) + (1 : Int32))) 105 (((w111.1 0 106) + (1 : Int32)).toNatClampNeg) pc1) 0 106 (((w111.1 0 106) + (1 : Int32)) + (1 : Int32)))) ob122)), RT.rf, hP, hD, hS, lv_sub hl [0, 1, 2, 3, 4, 5] rfl⟩
                  obtain ⟨fwL172, obL172, exL172, hP, hD, hS, hl⟩ := hh
                  have fwL172 : FG [106, 110, 111, 112, 113, 115, 116, 119, 120, 121] [0, 105, 107, 108, 109, 117, 118] (wA u123 0 121 r124) w172 := fwL172
                  have obL172 : OBW Tt Ee hg w172 := obL172
                  have hP : va_P (dC, dI) vwCl (mW ad N cI cZ cJ w172) H := hP
                  have hD : va_D A (mW ad N cI cZ cJ w172) := hD
                  have hl : lv_has ls 6 [(5, .int ka), (0, .ref (ad 0)), (1, .int pa), (2, .int pb), (3, .int pc1), (4, .int pd)] := hl
                  refine lv_aload_n hx hb dX13_work_172 rfl (lv_at hl 1 rfl) ?_
                  refine va_get (D := (dC, dI)) (ci := 16) (fs := mF ad w172) (v := .int (w172.1 0 121)) (C := RX13) (T := TX13) (N := 124) hx hb ht itX13 hown hK hP 0 rfl rfl 121 (by decide) (ht _ tw_305) (fun _ h9 => h9) rfl dX13_work_173 ?_
                  refine lv_iconst (v := -1) hx hb dX13_work_176 (by decide) ?_
                  refine lv_icmp_ne (tgt := 191) hx hb dX13_work_177 (by decide) (fun h125 => ?_) (fun h125 => ?_)
                  · have z126 : (w172.1 0 121).toInt ≠ (-1 : Int) := ne_z rfl (show ((-1) : Int32).toInt = (-1 : Int) by decide) h125
                    refine lv_aload_n hx hb dX13_work_191 rfl (lv_at hl 1 rfl) ?_
                    refine lv_aload_n hx hb dX13_work_192 rfl (lv_at hl 1 rfl) ?_
                    refine va_get (D := (dC, dI)) (ci := 16) (fs := mF ad w172) (v := .int (w172.1 0 121)) (C := RX13) (T := TX13) (N := 124) hx hb ht itX13 hown hK hP 0 rfl rfl 121 (by decide) (ht _ tw_305) (fun _ h9 => h9) rfl dX13_work_193 ?_
                    refine lv_if_ne (tgt := 206) hx hb dX13_work_196 (by decide) (fun h127 => ?_) (fun h127 => ?_)
                    · have z128 : (w172.1 0 121).toInt ≠ (0 : Int) := ne_z rfl (show (0 : Int32).toInt = (0 : Int) by decide) h127
                      refine lv_iconst (v := 0) hx hb dX13_work_206 (by decide) ?_
                      refine va_put (D := (dC, dI)) (ci := 16) (fs := mF ad w172) (v := .int 0) (ty := .int) (C := RX13) (T := TX13) (N := 124) hx hb ht itX13 tyX13 tyX13_ok nmX13 hown hK hP hD hS 0 rfl rfl 122 (by decide) (ht _ tw_306) (fun _ h9 => h9) rfl (by decide +kernel) rfl rfl (Nat.le_of_ble_eq_true rfl) dX13_work_207 (fun H locs hP hD hS => ?_)
                      have hP := cP_ (mw_122 ad N cI cZ cJ w172 0) hP
                      have hD := cD_ (mw_122 ad N cI cZ cJ w172 0) hD
                      refine lv_aload_n hx hb dX13_work_210 rfl (lv_at hl 1 rfl) ?_
                      refine lv_iconst (v := 1) hx hb dX13_work_211 (by decide) ?_
                      refine va_put (D := (dC, dI)) (ci := 16) (fs := mF ad (wA w172 0 122 0)) (v := .int 1) (ty := .boolean) (C := RX13) (T := TX13) (N := 124) hx hb ht itX13 tyX13 tyX13_ok nmX13 hown hK hP hD hS 0 rfl rfl 123 (by decide) (ht _ tw_272) (fun _ h9 => h9) rfl (by decide +kernel) rfl rfl (Nat.le_of_ble_eq_true rfl) dX13_work_212 (fun H locs hP hD hS => ?_)
                      have hP := cP_ (mw_123 ad N cI cZ cJ (wA w172 0 122 0) 1) hP
                      have hD := cD_ (mw_123 ad N cI cZ cJ (wA w172 0 122 0) 1) hD
                      refine lv_aload_n hx hb dX13_work_215 rfl (lv_at hl 1 rfl) ?_
                      refine va_get (D := (dC, dI)) (ci := 16) (fs := mF ad (wA (wA w172 0 122 0) 0 123 1)) (v := .int (w172.1 0 121)) (C := RX13) (T := TX13) (N := 124) hx hb ht itX13 hown hK hP 0 rfl rfl 121 (by decide) (ht _ tw_305) (fun _ h9 => h9) rfl dX13_work_216 ?_
                      exact W.iret (v := (w172.1 0 121)) hx hb hr (fun t ht9 hW => ⟨⟨(w172.1 0 121), (wA (wA w172 0 122 0) 0 123 1), rfl, ⟨(FG.f (FG.f (FG.tr (FG.f (FG.tr (FG.f (FG.a (FG.f (FG.a (FG.tr (FG.f (FG.f (FG.f (FG.f (FG.f (FG.f (FG.f (FG.f (FG.f (FG.f (FG.f (FG.rf _) 0 (by decide)) 0 (by decide)) 0 (by decide)) 0 (by decide)) 0 (by decide)) 0 (by decide)) pd (by decide)) 0 (by decide)) 0 (by decide)) 0 (by decide)) 0 (by decide)) (FG.up fwL111 (by decide) (by decide))) ((w111.1 0 106).toNatClampNeg) pb (by decide) (by decide)) ((w111.1 0 106) + (1 : Int32)) (by decide)) (((w111.1 0 106) + (1 : Int32)).toNatClampNeg) pc1 (by decide) (by decide)) (((w111.1 0 106) + (1 : Int32)) + (1 : Int32)) (by decide)) (FG.up fr122 (by decide) (by decide))) r124 (by decide)) (FG.up fwL172 (by decide) (by decide))) 0 (by decide)) 1 (by decide)), ⟨zn, zbf, zbg, zli, zg, (Or.inr (⟨z4, (Or.inl ⟨z6, (Or.inr (⟨z10, (Or.inr (⟨z14, (Or.inl ⟨z16, ka, w111, exL111, fwL111, e1L111, z19, (Or.inr (⟨z63, (Or.inr (⟨z107, r124, u123, ex122, fr122, w172, exL172, fwL172, ⟨_, _, _, obL172⟩, z126, (Or.inl ⟨z128, rfl, rfl⟩)⟩))⟩))⟩)⟩))⟩))⟩)⟩))⟩⟩, by rw [ht9]; exact hP, hD⟩, hS.F ht9⟩) hS.2.2 dX13_work_219
                    · have z129 : (w172.1 0 121).toInt = (0 : Int) := eq_z rfl (show (0 : Int32).toInt = (0 : Int) by decide) h127
                      have on9 : (w172.1 0 106).toInt = 1 := OBW.one obL172 (om_770ca75dd5 z129)
                      refine lv_aload_n hx hb dX13_work_199 rfl (lv_at hl 1 rfl) ?_
                      refine cu_i (rn_V (n := 0) (As := []) (rest := [.ref (ad 0)]) hx hb hml hown ht hKK hFx hP hD hS hA (c_m_pop l dC dI cI cB cZ cJ cR tb H.size ad N w172  (show 1 ≤ (w172.1 0 106).toInt ∧ (w172.1 0 106).toInt ≤ 24000 from (om_6723dddc65 on9))) tw_335 tw_336 (by decide +kernel) rfl rfl ⟨Nat.le_of_ble_eq_true rfl, Nat.le_of_ble_eq_true rfl⟩ (List.range (mW ad N cI cZ cJ w172).length) (rg_map _) (mW_nd _ _ _ _ _ _) rfl rfl rfl rfl hl.1 rfl (Nat.le_of_ble_eq_true rfl) dX13_work_200 ⟨Nat.le_of_ble_eq_true rfl, Nat.le_of_ble_eq_true rfl⟩) hP hD hS hA (fun r132 u131 H locs hw130 hP hD hS => ?_)
                      obtain ⟨rfl, rfl⟩ := hw130
                      have z133 : ((w172.1 0 106) - (1 : Int32)).toInt = ((w172.1 0 106).toInt) - (1 : Int) := sub_z rfl (show (1 : Int32).toInt = (1 : Int) by decide) (om_fd30962fc3 on9) (om_1b24a136d8 on9)
                      have hP : va_P (dC, dI) vwCl (mW ad N cI cZ cJ (wA w172 0 106 ((w172.1 0 106) - (1 : Int32)))) H := hP
                      have hD : va_D A (mW ad N cI cZ cJ (wA w172 0 106 ((w172.1 0 106) - (1 : Int32)))) := hD
                      refine tp_i (y := ((w172.1 105) ((w172.1 0 106) - (1 : Int32)).toNatClampNeg)) (rfl) ?_
                      refine W.widen (k := 0) (n := 0) (Nat.le_refl _) (Nat.le_refl _) ?_
                      refine lv_goto (tgt := 207) hx hb dX13_work_203 (by decide) ?_
                      refine va_put (D := (dC, dI)) (ci := 16) (fs := mF ad (wA w172 0 106 ((w172.1 0 106) - (1 : Int32)))) (v := .int ((w172.1 105) ((w172.1 0 106) - (1 : Int32)).toNatClampNeg)) (ty := .int) (C := RX13) (T := TX13) (N := 124) hx hb ht itX13 tyX13 tyX13_ok nmX13 hown hK hP hD hS 0 rfl rfl 122 (by decide) (ht _ tw_306) (fun _ h9 => h9) rfl (by decide +kernel) rfl rfl (Nat.le_of_ble_eq_true rfl) dX13_work_207 (fun H locs hP hD hS => ?_)
                      have hP := cP_ (mw_122 ad N cI cZ cJ (wA w172 0 106 ((w172.1 0 106) - (1 : Int32))) ((w172.1 105) ((w172.1 0 106) - (1 : Int32)).toNatClampNeg)) hP
                      have hD := cD_ (mw_122 ad N cI cZ cJ (wA w172 0 106 ((w172.1 0 106) - (1 : Int32))) ((w172.1 105) ((w172.1 0 106) - (1 : Int32)).toNatClampNeg)) hD
                      refine lv_aload_n hx hb dX13_work_210 rfl (lv_at hl 1 rfl) ?_
                      refine lv_iconst (v := 1) hx hb dX13_work_211 (by decide) ?_
                      refine va_put (D := (dC, dI)) (ci := 16) (fs := mF ad (wA (wA w172 0 106 ((w172.1 0 106) - (1 : Int32))) 0 122 ((w172.1 105) ((w172.1 0 106) - (1 : Int32)).toNatClampNeg))) (v := .int 1) (ty := .boolean) (C := RX13) (T := TX13) (N := 124) hx hb ht itX13 tyX13 tyX13_ok nmX13 hown hK hP hD hS 0 rfl rfl 123 (by decide) (ht _ tw_272) (fun _ h9 => h9) rfl (by decide +kernel) rfl rfl (Nat.le_of_ble_eq_true rfl) dX13_work_212 (fun H locs hP hD hS => ?_)
                      have hP := cP_ (mw_123 ad N cI cZ cJ (wA (wA w172 0 106 ((w172.1 0 106) - (1 : Int32))) 0 122 ((w172.1 105) ((w172.1 0 106) - (1 : Int32)).toNatClampNeg)) 1) hP
                      have hD := cD_ (mw_123 ad N cI cZ cJ (wA (wA w172 0 106 ((w172.1 0 106) - (1 : Int32))) 0 122 ((w172.1 105) ((w172.1 0 106) - (1 : Int32)).toNatClampNeg)) 1) hD
                      refine lv_aload_n hx hb dX13_work_215 rfl (lv_at hl 1 rfl) ?_
                      refine va_get (D := (dC, dI)) (ci := 16) (fs := mF ad (wA (wA (wA w172 0 106 ((w172.1 0 106) - (1 : Int32))) 0 122 ((w172.1 105) ((w172.1 0 106) - (1 : Int32)).toNatClampNeg)) 0 123 1)) (v := .int (w172.1 0 121)) (C := RX13) (T := TX13) (N := 124) hx hb ht itX13 hown hK hP 0 rfl rfl 121 (by decide) (ht _ tw_305) (fun _ h9 => h9) rfl dX13_work_216 ?_
                      exact W.iret (v := (w172.1 0 121)) hx hb hr (fun t ht9 hW => ⟨⟨(w172.1 0 121), (wA (wA (wA w172 0 106 ((w172.1 0 106) - (1 : Int32))) 0 122 ((w172.1 105) ((w172.1 0 106) - (1 : Int32)).toNatClampNeg)) 0 123 1), rfl, ⟨(FG.f (FG.f (FG.f (FG.tr (FG.f (FG.tr (FG.f (FG.a (FG.f (FG.a (FG.tr (FG.f (FG.f (FG.f (FG.f (FG.f (FG.f (FG.f (FG.f (FG.f (FG.f (FG.f (FG.rf _) 0 (by decide)) 0 (by decide)) 0 (by decide)) 0 (by decide)) 0 (by decide)) 0 (by decide)) pd (by decide)) 0 (by decide)) 0 (by decide)) 0 (by decide)) 0 (by decide)) (FG.up fwL111 (by decide) (by decide))) ((w111.1 0 106).toNatClampNeg) pb (by decide) (by decide)) ((w111.1 0 106) + (1 : Int32)) (by decide)) (((w111.1 0 106) + (1 : Int32)).toNatClampNeg) pc1 (by decide) (by decide)) (((w111.1 0 106) + (1 : Int32)) + (1 : Int32)) (by decide)) (FG.up fr122 (by decide) (by decide))) r124 (by decide)) (FG.up fwL172 (by decide) (by decide))) ((w172.1 0 106) - (1 : Int32)) (by decide)) ((w172.1 105) ((w172.1 0 106) - (1 : Int32)).toNatClampNeg) (by decide)) 1 (by decide)), ⟨zn, zbf, zbg, zli, zg, (Or.inr (⟨z4, (Or.inl ⟨z6, (Or.inr (⟨z10, (Or.inr (⟨z14, (Or.inl ⟨z16, ka, w111, exL111, fwL111, e1L111, z19, (Or.inr (⟨z63, (Or.inr (⟨z107, r124, u123, ex122, fr122, w172, exL172, fwL172, ⟨_, _, _, obL172⟩, z126, (Or.inr (⟨z129, rfl, rfl⟩))⟩))⟩))⟩)⟩))⟩))⟩)⟩))⟩⟩, by rw [ht9]; exact hP, hD⟩, hS.F ht9⟩) hS.2.2 dX13_work_219
                  · have z134 : (w172.1 0 121).toInt = (-1 : Int) := eq_z rfl (show ((-1) : Int32).toInt = (-1 : Int) by decide) h125
                    refine lv_aload_n hx hb dX13_work_180 rfl (lv_at hl 1 rfl) ?_
                    refine lv_aload_n hx hb dX13_work_181 rfl (lv_at hl 1 rfl) ?_
                    have q135 : (u123.1 0 74).toInt = (w111.1 0 74).toInt := congrArg Int32.toInt ((fr122.2.1 74 (by decide)).trans (show (wA (wA (wA (wA w111 105 ((w111.1 0 106).toNatClampNeg) pb) 0 106 ((w111.1 0 106) + (1 : Int32))) 105 (((w111.1 0 106) + (1 : Int32)).toNatClampNeg) pc1) 0 106 (((w111.1 0 106) + (1 : Int32)) + (1 : Int32))).1 0 74 = (w111.1 0 74) by rfl))
                    have q136 : (w172.1 0 74).toInt = (u123.1 0 74).toInt := congrArg Int32.toInt ((fwL172.2.1 74 (by decide)).trans (show (wA u123 0 121 r124).1 0 74 = (u123.1 0 74) by rfl))
                    have q137 : (w111.1 0 75).toInt = (v.1 0 75).toInt := congrArg Int32.toInt ((fwL111.2.1 75 (by decide)).trans (show (wA (wA (wA (wA (wA (wA (wA (wA (wA (wA (wA v 0 0 0) 0 106 0) 0 110 0) 0 111 0) 0 112 0) 0 113 0) 0 114 pd) 0 115 0) 0 116 0) 0 119 0) 0 120 0).1 0 75 = (v.1 0 75) by rfl))
                    have q138 : (u123.1 0 75).toInt = (w111.1 0 75).toInt := congrArg Int32.toInt ((fr122.2.1 75 (by decide)).trans (show (wA (wA (wA (wA w111 105 ((w111.1 0 106).toNatClampNeg) pb) 0 106 ((w111.1 0 106) + (1 : Int32))) 105 (((w111.1 0 106) + (1 : Int32)).toNatClampNeg) pc1) 0 106 (((w111.1 0 106) + (1 : Int32)) + (1 : Int32))).1 0 75 = (w111.1 0 75) by rfl))
                    have q139 : (w172.1 0 75).toInt = (u123.1 0 75).toInt := congrArg Int32.toInt ((fwL172.2.1 75 (by decide)).trans (show (wA u123 0 121 r124).1 0 75 = (u123.1 0 75) by rfl))
                    have q140 : (u123.1 0 77).toInt = (w111.1 0 77).toInt := congrArg Int32.toInt ((fr122.2.1 77 (by decide)).trans (show (wA (wA (wA (wA w111 105 ((w111.1 0 106).toNatClampNeg) pb) 0 106 ((w111.1 0 106) + (1 : Int32))) 105 (((w111.1 0 106) + (1 : Int32)).toNatClampNeg) pc1) 0 106 (((w111.1 0 106) + (1 : Int32)) + (1 : Int32))).1 0 77 = (w111.1 0 77) by rfl))
                    have q141 : (w172.1 0 77).toInt = (u123.1 0 77).toInt := congrArg Int32.toInt ((fwL172.2.1 77 (by decide)).trans (show (wA u123 0 121 r124).1 0 77 = (u123.1 0 77) by rfl))
                    have q142 : (w111.1 0 94).toInt = (v.1 0 94).toInt := congrArg Int32.toInt ((fwL111.2.1 94 (by decide)).trans (show (wA (wA (wA (wA (wA (wA (wA (wA (wA (wA (wA v 0 0 0) 0 106 0) 0 110 0) 0 111 0) 0 112 0) 0 113 0) 0 114 pd) 0 115 0) 0 116 0) 0 119 0) 0 120 0).1 0 94 = (v.1 0 94) by rfl))
                    have q143 : (u123.1 0 94).toInt = (w111.1 0 94).toInt := congrArg Int32.toInt ((fr122.2.1 94 (by decide)).trans (show (wA (wA (wA (wA w111 105 ((w111.1 0 106).toNatClampNeg) pb) 0 106 ((w111.1 0 106) + (1 : Int32))) 105 (((w111.1 0 106) + (1 : Int32)).toNatClampNeg) pc1) 0 106 (((w111.1 0 106) + (1 : Int32)) + (1 : Int32))).1 0 94 = (w111.1 0 94) by rfl))
                    have q144 : (w172.1 0 94).toInt = (u123.1 0 94).toInt := congrArg Int32.toInt ((fwL172.2.1 94 (by decide)).trans (show (wA u123 0 121 r124).1 0 94 = (u123.1 0 94) by rfl))
                    refine cu_i (rn_V (n := 0) (As := []) (rest := [.ref (ad 0)]) hx hb hml hown ht hKK hFx hP hD hS hA (c_m_obey l dC dI cI cB cZ cJ cR tb H.size ad N w172 Tt Ee hg (show MI Tt Ee hg w172 (w172.1 0 112) from (OBW.mi obL172 (om_41e72fd3a9 z134))) (show (256 : Int) ≤ (N : Int) ∧ (N : Int) ≤ 4096 from (om_c42fe0fb85 zN)) (show 0 ≤ (w172.1 0 74).toInt ∧ (w172.1 0 74).toInt ≤ 40 from (om_f14b981263 zbf z4 z6 q113 q135 q136)) (show 0 ≤ (w172.1 0 75).toInt ∧ (w172.1 0 75).toInt ≤ 60 from (om_243ce53172 zbg q137 q138 q139)) (show 0 ≤ (w172.1 0 77).toInt ∧ (w172.1 0 77).toInt ≤ 16384 from (om_b2080334c4 zli q121 q140 q141)) (show 0 ≤ (w172.1 0 94).toInt ∧ (w172.1 0 94).toInt ≤ 64 from (om_693dcb14ec zg q142 q143 q144)) (show AR 78 0 8 w172 from (show AR 78 0 8 w172 from AR.fr (fl := [106, 110, 111, 112, 113, 115, 116, 119, 120, 121]) (al := [0, 105, 107, 108, 109, 117, 118]) fwL172 (by decide) (AR.o (show AR 78 0 8 u123 from AR.fr (fl := [106, 110, 111, 112, 113, 115, 116]) (al := [0, 105, 107, 108, 109]) fr122 (by decide) (AR.o (AR.o (AR.o (AR.o (show AR 78 0 8 w111 from AR.fr (fl := []) (al := [117]) fwL111 (by decide) (AR.o (AR.o (AR.o (AR.o (AR.o (AR.o (AR.o (AR.o (AR.o (AR.o (AR.o a78 (by decide)) (by decide)) (by decide)) (by decide)) (by decide)) (by decide)) (by decide)) (by decide)) (by decide)) (by decide)) (by decide))) (by decide)) (by decide)) (by decide)) (by decide))) (by decide)))) (show AR 79 0 2008 w172 from (show AR 79 0 2008 w172 from AR.fr (fl := [106, 110, 111, 112, 113, 115, 116, 119, 120, 121]) (al := [0, 105, 107, 108, 109, 117, 118]) fwL172 (by decide) (AR.o (show AR 79 0 2008 u123 from AR.fr (fl := [106, 110, 111, 112, 113, 115, 116]) (al := [0, 105, 107, 108, 109]) fr122 (by decide) (AR.o (AR.o (AR.o (AR.o (show AR 79 0 2008 w111 from AR.fr (fl := []) (al := [117]) fwL111 (by decide) (AR.o (AR.o (AR.o (AR.o (AR.o (AR.o (AR.o (AR.o (AR.o (AR.o (AR.o a79 (by decide)) (by decide)) (by decide)) (by decide)) (by decide)) (by decide)) (by decide)) (by decide)) (by decide)) (by decide)) (by decide))) (by decide)) (by decide)) (by decide)) (by decide))) (by decide)))) (show AR 82 0 500 w172 from (show AR 82 0 500 w172 from AR.fr (fl := [106, 110, 111, 112, 113, 115, 116, 119, 120, 121]) (al := [0, 105, 107, 108, 109, 117, 118]) fwL172 (by decide) (AR.o (show AR 82 0 500 u123 from AR.fr (fl := [106, 110, 111, 112, 113, 115, 116]) (al := [0, 105, 107, 108, 109]) fr122 (by decide) (AR.o (AR.o (AR.o (AR.o (show AR 82 0 500 w111 from AR.fr (fl := []) (al := [117]) fwL111 (by decide) (AR.o (AR.o (AR.o (AR.o (AR.o (AR.o (AR.o (AR.o (AR.o (AR.o (AR.o a82 (by decide)) (by decide)) (by decide)) (by decide)) (by decide)) (by decide)) (by decide)) (by decide)) (by decide)) (by decide)) (by decide))) (by decide)) (by decide)) (by decide)) (by decide))) (by decide))))) tw_356 tw_357 (by decide +kernel) rfl rfl ⟨Nat.le_of_ble_eq_true rfl, Nat.le_of_ble_eq_true rfl⟩ (List.range (mW ad N cI cZ cJ w172).length) (rg_map _) (mW_nd _ _ _ _ _ _) rfl rfl rfl rfl hl.1 rfl (Nat.le_of_ble_eq_true rfl) dX13_work_182 ⟨Nat.le_of_ble_eq_true rfl, Nat.le_of_ble_eq_true rfl⟩) hP hD hS hA (fun r147 u146 H locs hw145 hP hD hS => ?_)
                    obtain ⟨fr145, ex145, ob145⟩ := hw145
                    have ob145 : OBP Tt Ee hg w172 u146 (w172.1 0 112) r147 := ob145
                    refine W.widen (k := 0) (n := 0) (Nat.le_refl _) (Nat.le_refl _) ?_
                    refine va_put (D := (dC, dI)) (ci := 16) (fs := mF ad u146) (v := .int r147) (ty := .int) (C := RX13) (T := TX13) (N := 124) hx hb ht itX13 tyX13 tyX13_ok nmX13 hown hK hP hD hS 0 rfl rfl 121 (by decide) (ht _ tw_305) (fun _ h9 => h9) rfl (by decide +kernel) rfl rfl (Nat.le_of_ble_eq_true rfl) dX13_work_185 (fun H locs hP hD hS => ?_)
                    have hP := cP_ (mw_121 ad N cI cZ cJ u146 r147) hP
                    have hD := cD_ (mw_121 ad N cI cZ cJ u146 r147) hD
                    refine lv_goto (tgt := 172) hx hb dX13_work_188 (by decide) ?_
                    exact ih172 (wA u146 0 121 r147) _ _ _ (MWK.lt (om_41e72fd3a9 z134) ob145) ⟨(show FG [106, 110, 111, 112, 113, 115, 116, 119, 120, 121] [0, 105, 107, 108, 109, 117, 118] (wA u123 0 121 r124) (wA u146 0 121 r147) from (FG.f (FG.tr (FG.tr (FG.rf _) (FG.up fwL172 (by decide) (by decide))) (FG.up fr145 (by decide) (by decide))) r147 (by decide))), (show OBW Tt Ee hg (wA u146 0 121 r147) from (OBW.o ob145)), (RT.st exL172 ⟨fwL172, ⟨_, _, _, obL172⟩, z134, r147, u146, ex145, fr145, rfl⟩), hP, hD, hS, lv_sub hl [0, 1, 2, 3, 4, 5] rfl⟩
            · have z148 : ka.toInt < (w111.1 0 76).toInt := nle_z rfl rfl h18
              refine lv_aload_n hx hb dX13_work_120 rfl (lv_at hl 1 rfl) ?_
              refine va_get (D := (dC, dI)) (ci := 16) (fs := mF ad w111) (v := .ref (ad 117)) (C := RX13) (T := TX13) (N := 124) hx hb ht itX13 hown hK hP 0 rfl rfl 117 (by decide) (ht _ tw_347) (fun _ h9 => h9) rfl dX13_work_121 ?_
              refine lv_iload hx hb dX13_work_124 (lv_at hl 0 rfl) ?_
              refine lv_iconst (v := 0) hx hb dX13_work_126 (by decide) ?_
              refine va_iast (D := (dC, dI)) (f := (w111.1 117)) hx hb hK hP hD hS 60 0 rfl rfl (in_y (a := ka.toInt) (b := 4200) rfl (om_ac00129bfc e1L111) (om_aa431f07b6 zn e1L111) rfl) dX13_work_127 (fun H locs hP hD hS => ?_)
              have hP := cP_ (ma_117 ad N cI cZ cJ w111 ka.toNatClampNeg 0) hP
              have hD := cD_ (ma_117 ad N cI cZ cJ w111 ka.toNatClampNeg 0) hD
              refine lv_iinc (v := (ka + (1 : Int32))) (lv' := [(5, .int (ka + (1 : Int32))), (0, .ref (ad 0)), (1, .int pa), (2, .int pb), (3, .int pc1), (4, .int pd)]) hx hb dX13_work_128 hl (k := 0) rfl (rfl) (by decide) rfl (fun ls hl => ?_)
              have z149 : (ka + (1 : Int32)).toInt = ka.toInt + (1 : Int) := add_z rfl (show (1 : Int32).toInt = (1 : Int) by decide) (om_a8944c555e e1L111) (om_35de616de3 zn e1L111)
              refine lv_goto (tgt := 111) hx hb dX13_work_131 (by decide) ?_
              have q150 : (w111.1 0 76).toInt = (v.1 0 76).toInt := congrArg Int32.toInt ((fwL111.2.1 76 (by decide)).trans (show (wA (wA (wA (wA (wA (wA (wA (wA (wA (wA (wA v 0 0 0) 0 106 0) 0 110 0) 0 111 0) 0 112 0) 0 113 0) 0 114 pd) 0 115 0) 0 116 0) 0 119 0) 0 120 0).1 0 76 = (v.1 0 76) by rfl))
              exact ih111 ((ka + (1 : Int32)), (wA w111 117 ka.toNatClampNeg 0)) _ _ _ (show (4096 - (ka + (1 : Int32)).toInt).toNat < (4096 - ka.toInt).toNat from tn_z (om_157719f23f z149) (om_2aef6c0598 zn q150 z148)) ⟨(show FG [] [117] (wA (wA (wA (wA (wA (wA (wA (wA (wA (wA (wA v 0 0 0) 0 106 0) 0 110 0) 0 111 0) 0 112 0) 0 113 0) 0 114 pd) 0 115 0) 0 116 0) 0 119 0) 0 120 0) (wA w111 117 ka.toNatClampNeg 0) from (FG.a (FG.tr (FG.rf _) (FG.up fwL111 (by decide) (by decide))) ka.toNatClampNeg 0 (by decide) (by decide))), (show 0 ≤ (ka + (1 : Int32)).toInt ∧ (ka + (1 : Int32)).toInt ≤ (v.1 0 76).toInt from (om_fc66311bc4 e1L111 q150 z148 z149)), (RT.st exL111 ⟨fwL111, e1L111, z148, rfl⟩), hP, hD, hS, lv_sub hl [0, 1, 2, 3, 4, 5] rfl⟩
          · have z151 : (20000 : Int) < pd.toInt := nle_z rfl (show (20000 : Int32).toInt = (20000 : Int) by decide) h15
            refine lv_iconst (v := 2) hx hb dX13_work_40 (by decide) ?_
            refine lv_goto (tgt := 45) hx hb dX13_work_41 (by decide) ?_
            refine va_put (D := (dC, dI)) (ci := 16) (fs := mF ad v) (v := .int 2) (ty := .int) (C := RX13) (T := TX13) (N := 124) hx hb ht itX13 tyX13 tyX13_ok nmX13 hown hK hP hD hS 0 rfl rfl 0 (by decide) (ht _ tw_246) (fun _ h9 => h9) rfl (by decide +kernel) rfl rfl (Nat.le_of_ble_eq_true rfl) dX13_work_45 (fun H locs hP hD hS => ?_)
            have hP := cP_ (mw_0 ad N cI cZ cJ v 2) hP
            have hD := cD_ (mw_0 ad N cI cZ cJ v 2) hD
            refine lv_aload_n hx hb dX13_work_48 rfl (lv_at hl 0 rfl) ?_
            refine va_get (D := (dC, dI)) (ci := 16) (fs := mF ad (wA v 0 0 2)) (v := .int 2) (C := RX13) (T := TX13) (N := 124) hx hb ht itX13 hown hK hP 0 rfl rfl 0 (by decide) (ht _ tw_246) (fun _ h9 => h9) rfl dX13_work_49 ?_
            refine lv_if_le (tgt := 57) hx hb dX13_work_52 (by decide) (fun k152 => absurd k152 (by decide)) (fun _ => ?_)
            refine lv_iconst (v := 0) hx hb dX13_work_55 (by decide) ?_
            exact W.iret (v := 0) hx hb hr (fun t ht9 hW => ⟨⟨0, (wA v 0 0 2), rfl, ⟨(FG.f (FG.rf _) 2 (by decide)), ⟨zn, zbf, zbg, zli, zg, (Or.inr (⟨z4, (Or.inl ⟨z6, (Or.inr (⟨z10, (Or.inr (⟨z14, (Or.inr (⟨z151, rfl, rfl⟩))⟩))⟩))⟩)⟩))⟩⟩, by rw [ht9]; exact hP, hD⟩, hS.F ht9⟩) hS.2.2 dX13_work_56
    · have z153 : (v.1 0 74).toInt ≤ pa.toInt := nlt_z rfl rfl h5
      refine lv_iconst (v := 1) hx hb dX13_work_13 (by decide) ?_
      refine lv_goto (tgt := 45) hx hb dX13_work_14 (by decide) ?_
      refine va_put (D := (dC, dI)) (ci := 16) (fs := mF ad v) (v := .int 1) (ty := .int) (C := RX13) (T := TX13) (N := 124) hx hb ht itX13 tyX13 tyX13_ok nmX13 hown hK hP hD hS 0 rfl rfl 0 (by decide) (ht _ tw_246) (fun _ h9 => h9) rfl (by decide +kernel) rfl rfl (Nat.le_of_ble_eq_true rfl) dX13_work_45 (fun H locs hP hD hS => ?_)
      have hP := cP_ (mw_0 ad N cI cZ cJ v 1) hP
      have hD := cD_ (mw_0 ad N cI cZ cJ v 1) hD
      refine lv_aload_n hx hb dX13_work_48 rfl (lv_at hl 0 rfl) ?_
      refine va_get (D := (dC, dI)) (ci := 16) (fs := mF ad (wA v 0 0 1)) (v := .int 1) (C := RX13) (T := TX13) (N := 124) hx hb ht itX13 hown hK hP 0 rfl rfl 0 (by decide) (ht _ tw_246) (fun _ h9 => h9) rfl dX13_work_49 ?_
      refine lv_if_le (tgt := 57) hx hb dX13_work_52 (by decide) (fun k154 => absurd k154 (by decide)) (fun _ => ?_)
      refine lv_iconst (v := 0) hx hb dX13_work_55 (by decide) ?_
      exact W.iret (v := 0) hx hb hr (fun t ht9 hW => ⟨⟨0, (wA v 0 0 1), rfl, ⟨(FG.f (FG.rf _) 1 (by decide)), ⟨zn, zbf, zbg, zli, zg, (Or.inr (⟨z4, (Or.inr (⟨z153, rfl, rfl⟩))⟩))⟩⟩, by rw [ht9]; exact hP, hD⟩, hS.F ht9⟩) hS.2.2 dX13_work_56
theorem om_5d794e572d {x0 x1 : Int} (h0 : x0 < x1) : x0 < x1 := by omega
theorem om_34a18d3598 {x0 x1 x2 x3 : Int} (h0 : (0 : Int) ≤ x0) (h1 : 0 ≤ x1 ∧ x1 + x2 ≤ x3) : -2147483648 ≤ (x1) + x0 := by omega
theorem om_2bed701b82 {x0 x1 x2 x3 : Int} (h0 : 0 ≤ x0 ∧ x0 ≤ 4096) (h1 : x1 < x2) (h2 : 0 ≤ x3 ∧ x3 + x2 ≤ x0) : (x3) + x1 < 2147483648 := by omega
theorem om_e98617ad43 {x0 x1 x2 x3 : Int} (h0 : (0 : Int) ≤ x0) (h1 : 0 ≤ x1 ∧ x1 + x2 ≤ x3) : 0 ≤ ((x1) + x0) := by omega
theorem om_be746169cb {x0 x1 x2 x3 : Int} (h0 : 0 ≤ x0 ∧ x0 ≤ 4096) (h1 : x1 < x2) (h2 : 0 ≤ x3 ∧ x3 + x2 ≤ x0) : ((x3) + x1) < 4200 := by omega
set_option maxHeartbeats 4000000 in
set_option maxRecDepth 100000 in
theorem c_m_left (l : Launch) (dC : Nat → ClassId) (dI : Nat → Nat → Nat) (cI cB cZ cJ cR : ClassId) (tb : Nat → Nat) (sz : Nat) (ad : Nat → Nat) (N : Nat) (v : MS) (pa : Int32) (pb : Int32) (bf : BF v) (zn : 0 ≤ (v.1 0 76).toInt ∧ (v.1 0 76).toInt ≤ 4096) (zbg : 0 ≤ (v.1 0 75).toInt ∧ (v.1 0 75).toInt ≤ 60) : Met l yX13_left (Cond.code yX13_left cX13_left 3 (some .int) :: tw_W) ({ frames := 0, cells := 0, slots := 0, locals := 0 }) (pc_ (dC, dI) (tyS cI cB cZ cJ cR) tb (mW ad N cI cZ cJ v) sz [.ref (ad 0), .int pa, .int pb]) (qi_ (dC, dI) (mW ad N cI cZ cJ v) sz (fun (r : Int32) (u : MS) => FG [0] [0] v u ∧ (Q_m_left v pa pb r u)) (fun (u : MS) => (mW ad N cI cZ cJ u))) 0 0 (va_A (mW ad N cI cZ cJ v) sz) := by
  refine Met.ofW (cc := cX13_left) (maxL := 3) (ret := (some .int)) (by decide) rfl ?_
  intro p e s m args below meth c s₁ B hml hv
  obtain ⟨rfl, hsz, hP, hKK, hD0, hFx⟩ := hv
  have hK := hKK.1
  have hx := B.exec
  have hb := B.bytes
  have hr := B.returns
  have ht : ∀ w ∈ tw_W, w.before _ s = true := fun w h => atoms_spec (ws := Cond.code yX13_left cX13_left 3 (some .int) :: tw_W) B.pre w (List.mem_cons_of_mem _ h)
  have hown : s.vm.findClass RX13 = some m.cls := findClass_of_methodNamed B.named
  have hlocks := B.notSynchronized
  subst hsz
  unfold qi_
  have hD := hD0.self (sz := s.heap.size)
  generalize hAe : va_A (mW ad N cI cZ cJ v) s.heap.size = A at hD hFx ⊢
  have hA : ∀ q : Nat, s.heap.size ≤ q → A q := fun q h => by rw [← hAe]; exact Or.inr h
  have hS : va_S A s.heap s.heap [] := va_S.rf
  have hl := lv_entry ([.ref (ad 0), .int pa, .int pb]) (n := 3) (Nat.le_of_ble_eq_true rfl)
  rw [lg_entry_eq]
  generalize (lg_sl ([.ref (ad 0), .int pa, .int pb]) ++ List.replicate (3 - (lg_sl ([.ref (ad 0), .int pa, .int pb])).length) Slot.unset).toArray = ls at hl ⊢
  have hl : lv_has ls 3 [(0, .ref (ad 0)), (1, .int pa), (2, .int pb)] := hl
  refine lv_aload_n hx hb dX13_left_0 rfl (lv_at hl 0 rfl) ?_
  refine lv_aload_n hx hb dX13_left_1 rfl (lv_at hl 0 rfl) ?_
  refine va_get (D := (dC, dI)) (ci := 16) (fs := mF ad v) (v := .int (v.1 0 123)) (C := RX13) (T := TX13) (N := 124) hx hb ht itX13 hown hK hP 0 rfl rfl 123 (by decide) (ht _ tw_272) (fun _ h9 => h9) rfl dX13_left_2 ?_
  refine lv_if_eq (tgt := 34) hx hb dX13_left_5 (by decide) (fun h1 => ?_) (fun h1 => ?_)
  · have z2 : (v.1 0 123).toInt = (0 : Int) := eq_z rfl (show (0 : Int32).toInt = (0 : Int) by decide) h1
    refine lv_iconst (v := 1) hx hb dX13_left_34 (by decide) ?_
    refine lv_goto (tgt := 39) hx hb dX13_left_35 (by decide) ?_
    refine va_put (D := (dC, dI)) (ci := 16) (fs := mF ad v) (v := .int 1) (ty := .int) (C := RX13) (T := TX13) (N := 124) hx hb ht itX13 tyX13 tyX13_ok nmX13 hown hK hP hD hS 0 rfl rfl 0 (by decide) (ht _ tw_246) (fun _ h9 => h9) rfl (by decide +kernel) rfl rfl (Nat.le_of_ble_eq_true rfl) dX13_left_39 (fun H locs hP hD hS => ?_)
    have hP := cP_ (mw_0 ad N cI cZ cJ v 1) hP
    have hD := cD_ (mw_0 ad N cI cZ cJ v 1) hD
    refine lv_aload_n hx hb dX13_left_42 rfl (lv_at hl 0 rfl) ?_
    refine va_get (D := (dC, dI)) (ci := 16) (fs := mF ad (wA v 0 0 1)) (v := .int 1) (C := RX13) (T := TX13) (N := 124) hx hb ht itX13 hown hK hP 0 rfl rfl 0 (by decide) (ht _ tw_246) (fun _ h9 => h9) rfl dX13_left_43 ?_
    refine lv_if_le (tgt := 53) hx hb dX13_left_46 (by decide) (fun k3 => absurd k3 (by decide)) (fun _ => ?_)
    refine lv_iconst (v := 0) hx hb dX13_left_49 (by decide) ?_
    refine lv_goto (tgt := 66) hx hb dX13_left_50 (by decide) ?_
    exact W.iret (v := 0) hx hb hr (fun t ht9 hW => ⟨⟨0, (wA v 0 0 1), rfl, ⟨(FG.f (FG.rf _) 1 (by decide)), ⟨zn, zbg, (Or.inl ⟨z2, rfl, rfl⟩)⟩⟩, by rw [ht9]; exact hP, hD⟩, hS.F ht9⟩) hS.2.2 dX13_left_66
  · have z4 : (v.1 0 123).toInt ≠ (0 : Int) := ne_z rfl (show (0 : Int32).toInt = (0 : Int) by decide) h1
    refine lv_iload_n hx hb dX13_left_8 rfl (lv_at hl 1 rfl) ?_
    refine lv_if_lt (tgt := 34) hx hb dX13_left_9 (by decide) (fun h5 => ?_) (fun h5 => ?_)
    · have z6 : pa.toInt < (0 : Int) := lt_z rfl (show (0 : Int32).toInt = (0 : Int) by decide) h5
      refine lv_iconst (v := 1) hx hb dX13_left_34 (by decide) ?_
      refine lv_goto (tgt := 39) hx hb dX13_left_35 (by decide) ?_
      refine va_put (D := (dC, dI)) (ci := 16) (fs := mF ad v) (v := .int 1) (ty := .int) (C := RX13) (T := TX13) (N := 124) hx hb ht itX13 tyX13 tyX13_ok nmX13 hown hK hP hD hS 0 rfl rfl 0 (by decide) (ht _ tw_246) (fun _ h9 => h9) rfl (by decide +kernel) rfl rfl (Nat.le_of_ble_eq_true rfl) dX13_left_39 (fun H locs hP hD hS => ?_)
      have hP := cP_ (mw_0 ad N cI cZ cJ v 1) hP
      have hD := cD_ (mw_0 ad N cI cZ cJ v 1) hD
      refine lv_aload_n hx hb dX13_left_42 rfl (lv_at hl 0 rfl) ?_
      refine va_get (D := (dC, dI)) (ci := 16) (fs := mF ad (wA v 0 0 1)) (v := .int 1) (C := RX13) (T := TX13) (N := 124) hx hb ht itX13 hown hK hP 0 rfl rfl 0 (by decide) (ht _ tw_246) (fun _ h9 => h9) rfl dX13_left_43 ?_
      refine lv_if_le (tgt := 53) hx hb dX13_left_46 (by decide) (fun k7 => absurd k7 (by decide)) (fun _ => ?_)
      refine lv_iconst (v := 0) hx hb dX13_left_49 (by decide) ?_
      refine lv_goto (tgt := 66) hx hb dX13_left_50 (by decide) ?_
      exact W.iret (v := 0) hx hb hr (fun t ht9 hW => ⟨⟨0, (wA v 0 0 1), rfl, ⟨(FG.f (FG.rf _) 1 (by decide)), ⟨zn, zbg, (Or.inr (⟨z4, (Or.inl ⟨z6, rfl, rfl⟩)⟩))⟩⟩, by rw [ht9]; exact hP, hD⟩, hS.F ht9⟩) hS.2.2 dX13_left_66
    · have z8 : (0 : Int) ≤ pa.toInt := nlt_z rfl (show (0 : Int32).toInt = (0 : Int) by decide) h5
      refine lv_iload_n hx hb dX13_left_12 rfl (lv_at hl 1 rfl) ?_
      refine lv_aload_n hx hb dX13_left_13 rfl (lv_at hl 0 rfl) ?_
      refine va_get (D := (dC, dI)) (ci := 16) (fs := mF ad v) (v := .int (v.1 0 75)) (C := RX13) (T := TX13) (N := 124) hx hb ht itX13 hown hK hP 0 rfl rfl 75 (by decide) (ht _ tw_263) (fun _ h9 => h9) rfl dX13_left_14 ?_
      refine lv_icmp_ge (tgt := 34) hx hb dX13_left_17 (by decide) (fun h9 => ?_) (fun h9 => ?_)
      · have z10 : (v.1 0 75).toInt ≤ pa.toInt := le_z rfl rfl h9
        refine lv_iconst (v := 1) hx hb dX13_left_34 (by decide) ?_
        refine lv_goto (tgt := 39) hx hb dX13_left_35 (by decide) ?_
        refine va_put (D := (dC, dI)) (ci := 16) (fs := mF ad v) (v := .int 1) (ty := .int) (C := RX13) (T := TX13) (N := 124) hx hb ht itX13 tyX13 tyX13_ok nmX13 hown hK hP hD hS 0 rfl rfl 0 (by decide) (ht _ tw_246) (fun _ h9 => h9) rfl (by decide +kernel) rfl rfl (Nat.le_of_ble_eq_true rfl) dX13_left_39 (fun H locs hP hD hS => ?_)
        have hP := cP_ (mw_0 ad N cI cZ cJ v 1) hP
        have hD := cD_ (mw_0 ad N cI cZ cJ v 1) hD
        refine lv_aload_n hx hb dX13_left_42 rfl (lv_at hl 0 rfl) ?_
        refine va_get (D := (dC, dI)) (ci := 16) (fs := mF ad (wA v 0 0 1)) (v := .int 1) (C := RX13) (T := TX13) (N := 124) hx hb ht itX13 hown hK hP 0 rfl rfl 0 (by decide) (ht _ tw_246) (fun _ h9 => h9) rfl dX13_left_43 ?_
        refine lv_if_le (tgt := 53) hx hb dX13_left_46 (by decide) (fun k11 => absurd k11 (by decide)) (fun _ => ?_)
        refine lv_iconst (v := 0) hx hb dX13_left_49 (by decide) ?_
        refine lv_goto (tgt := 66) hx hb dX13_left_50 (by decide) ?_
        exact W.iret (v := 0) hx hb hr (fun t ht9 hW => ⟨⟨0, (wA v 0 0 1), rfl, ⟨(FG.f (FG.rf _) 1 (by decide)), ⟨zn, zbg, (Or.inr (⟨z4, (Or.inr (⟨z8, (Or.inl ⟨z10, rfl, rfl⟩)⟩))⟩))⟩⟩, by rw [ht9]; exact hP, hD⟩, hS.F ht9⟩) hS.2.2 dX13_left_66
      · have z12 : pa.toInt < (v.1 0 75).toInt := nle_z rfl rfl h9
        refine lv_iload_n hx hb dX13_left_20 rfl (lv_at hl 2 rfl) ?_
        refine lv_if_lt (tgt := 34) hx hb dX13_left_21 (by decide) (fun h13 => ?_) (fun h13 => ?_)
        · have z14 : pb.toInt < (0 : Int) := lt_z rfl (show (0 : Int32).toInt = (0 : Int) by decide) h13
          refine lv_iconst (v := 1) hx hb dX13_left_34 (by decide) ?_
          refine lv_goto (tgt := 39) hx hb dX13_left_35 (by decide) ?_
          refine va_put (D := (dC, dI)) (ci := 16) (fs := mF ad v) (v := .int 1) (ty := .int) (C := RX13) (T := TX13) (N := 124) hx hb ht itX13 tyX13 tyX13_ok nmX13 hown hK hP hD hS 0 rfl rfl 0 (by decide) (ht _ tw_246) (fun _ h9 => h9) rfl (by decide +kernel) rfl rfl (Nat.le_of_ble_eq_true rfl) dX13_left_39 (fun H locs hP hD hS => ?_)
          have hP := cP_ (mw_0 ad N cI cZ cJ v 1) hP
          have hD := cD_ (mw_0 ad N cI cZ cJ v 1) hD
          refine lv_aload_n hx hb dX13_left_42 rfl (lv_at hl 0 rfl) ?_
          refine va_get (D := (dC, dI)) (ci := 16) (fs := mF ad (wA v 0 0 1)) (v := .int 1) (C := RX13) (T := TX13) (N := 124) hx hb ht itX13 hown hK hP 0 rfl rfl 0 (by decide) (ht _ tw_246) (fun _ h9 => h9) rfl dX13_left_43 ?_
          refine lv_if_le (tgt := 53) hx hb dX13_left_46 (by decide) (fun k15 => absurd k15 (by decide)) (fun _ => ?_)
          refine lv_iconst (v := 0) hx hb dX13_left_49 (by decide) ?_
          refine lv_goto (tgt := 66) hx hb dX13_left_50 (by decide) ?_
          exact W.iret (v := 0) hx hb hr (fun t ht9 hW => ⟨⟨0, (wA v 0 0 1), rfl, ⟨(FG.f (FG.rf _) 1 (by decide)), ⟨zn, zbg, (Or.inr (⟨z4, (Or.inr (⟨z8, (Or.inr (⟨z12, (Or.inl ⟨z14, rfl, rfl⟩)⟩))⟩))⟩))⟩⟩, by rw [ht9]; exact hP, hD⟩, hS.F ht9⟩) hS.2.2 dX13_left_66
        · have z16 : (0 : Int) ≤ pb.toInt := nlt_z rfl (show (0 : Int32).toInt = (0 : Int) by decide) h13
          refine lv_iload_n hx hb dX13_left_24 rfl (lv_at hl 2 rfl) ?_
          refine lv_aload_n hx hb dX13_left_25 rfl (lv_at hl 0 rfl) ?_
          refine va_get (D := (dC, dI)) (ci := 16) (fs := mF ad v) (v := .ref (ad 85)) (C := RX13) (T := TX13) (N := 124) hx hb ht itX13 hown hK hP 0 rfl rfl 85 (by decide) (ht _ tw_267) (fun _ h9 => h9) rfl dX13_left_26 ?_
          refine lv_iload_n hx hb dX13_left_29 rfl (lv_at hl 1 rfl) ?_
          refine va_iald (D := (dC, dI)) (f := (v.1 85)) hx hb hK hP 45 0 rfl rfl (in_y (a := pa.toInt) (b := 60) rfl (om_51058f7f87 z8) (om_f30fc6227d zbg z12) rfl) dX13_left_30 ?_
          refine lv_icmp_lt (tgt := 38) hx hb dX13_left_31 (by decide) (fun h17 => ?_) (fun h17 => ?_)
          · have z18 : pb.toInt < ((v.1 85) pa.toNatClampNeg).toInt := lt_z rfl rfl h17
            refine lv_iconst (v := 0) hx hb dX13_left_38 (by decide) ?_
            refine va_put (D := (dC, dI)) (ci := 16) (fs := mF ad v) (v := .int 0) (ty := .int) (C := RX13) (T := TX13) (N := 124) hx hb ht itX13 tyX13 tyX13_ok nmX13 hown hK hP hD hS 0 rfl rfl 0 (by decide) (ht _ tw_246) (fun _ h9 => h9) rfl (by decide +kernel) rfl rfl (Nat.le_of_ble_eq_true rfl) dX13_left_39 (fun H locs hP hD hS => ?_)
            have hP := cP_ (mw_0 ad N cI cZ cJ v 0) hP
            have hD := cD_ (mw_0 ad N cI cZ cJ v 0) hD
            refine lv_aload_n hx hb dX13_left_42 rfl (lv_at hl 0 rfl) ?_
            refine va_get (D := (dC, dI)) (ci := 16) (fs := mF ad (wA v 0 0 0)) (v := .int 0) (C := RX13) (T := TX13) (N := 124) hx hb ht itX13 hown hK hP 0 rfl rfl 0 (by decide) (ht _ tw_246) (fun _ h9 => h9) rfl dX13_left_43 ?_
            refine lv_if_le (tgt := 53) hx hb dX13_left_46 (by decide) (fun _ => ?_) (fun k19 => absurd k19 (by decide))
            refine lv_aload_n hx hb dX13_left_53 rfl (lv_at hl 0 rfl) ?_
            refine va_get (D := (dC, dI)) (ci := 16) (fs := mF ad (wA v 0 0 0)) (v := .ref (ad 117)) (C := RX13) (T := TX13) (N := 124) hx hb ht itX13 hown hK hP 0 rfl rfl 117 (by decide) (ht _ tw_347) (fun _ h9 => h9) rfl dX13_left_54 ?_
            refine lv_aload_n hx hb dX13_left_57 rfl (lv_at hl 0 rfl) ?_
            refine va_get (D := (dC, dI)) (ci := 16) (fs := mF ad (wA v 0 0 0)) (v := .ref (ad 86)) (C := RX13) (T := TX13) (N := 124) hx hb ht itX13 hown hK hP 0 rfl rfl 86 (by decide) (ht _ tw_266) (fun _ h9 => h9) rfl dX13_left_58 ?_
            refine lv_iload_n hx hb dX13_left_61 rfl (lv_at hl 1 rfl) ?_
            refine va_iald (D := (dC, dI)) (f := (v.1 86)) hx hb hK hP 46 0 rfl rfl (in_y (a := pa.toInt) (b := 60) rfl (om_51058f7f87 z8) (om_f30fc6227d zbg z12) rfl) dX13_left_62 ?_
            have z20 : 0 ≤ ((v.1 86) pa.toNatClampNeg).toInt ∧ ((v.1 86) pa.toNatClampNeg).toInt + ((v.1 85) pa.toNatClampNeg).toInt ≤ (v.1 0 76).toInt := (fun q9 => ⟨q9.1, q9.2.2⟩) (bf pa.toNatClampNeg (natlt (om_51058f7f87 z8) (om_5d794e572d z12)))
            refine lv_iload_n hx hb dX13_left_63 rfl (lv_at hl 2 rfl) ?_
            refine lv_iadd hx hb dX13_left_64 ?_
            have z21 : (((v.1 86) pa.toNatClampNeg) + pb).toInt = (((v.1 86) pa.toNatClampNeg).toInt) + pb.toInt := add_z rfl rfl (om_34a18d3598 z16 z20) (om_2bed701b82 zn z18 z20)
            refine va_iald (D := (dC, dI)) (f := (v.1 117)) hx hb hK hP 60 0 rfl rfl (in_y (a := ((((v.1 86) pa.toNatClampNeg).toInt) + pb.toInt)) (b := 4200) z21 (om_e98617ad43 z16 z20) (om_be746169cb zn z18 z20) rfl) dX13_left_65 ?_
            exact W.iret (v := ((v.1 117) (((v.1 86) pa.toNatClampNeg) + pb).toNatClampNeg)) hx hb hr (fun t ht9 hW => ⟨⟨((v.1 117) (((v.1 86) pa.toNatClampNeg) + pb).toNatClampNeg), (wA v 0 0 0), rfl, ⟨(FG.f (FG.rf _) 0 (by decide)), ⟨zn, zbg, (Or.inr (⟨z4, (Or.inr (⟨z8, (Or.inr (⟨z12, (Or.inr (⟨z16, (Or.inl ⟨z18, rfl, rfl⟩)⟩))⟩))⟩))⟩))⟩⟩, by rw [ht9]; exact hP, hD⟩, hS.F ht9⟩) hS.2.2 dX13_left_66
          · have z22 : ((v.1 85) pa.toNatClampNeg).toInt ≤ pb.toInt := nlt_z rfl rfl h17
            refine lv_iconst (v := 1) hx hb dX13_left_34 (by decide) ?_
            refine lv_goto (tgt := 39) hx hb dX13_left_35 (by decide) ?_
            refine va_put (D := (dC, dI)) (ci := 16) (fs := mF ad v) (v := .int 1) (ty := .int) (C := RX13) (T := TX13) (N := 124) hx hb ht itX13 tyX13 tyX13_ok nmX13 hown hK hP hD hS 0 rfl rfl 0 (by decide) (ht _ tw_246) (fun _ h9 => h9) rfl (by decide +kernel) rfl rfl (Nat.le_of_ble_eq_true rfl) dX13_left_39 (fun H locs hP hD hS => ?_)
            have hP := cP_ (mw_0 ad N cI cZ cJ v 1) hP
            have hD := cD_ (mw_0 ad N cI cZ cJ v 1) hD
            refine lv_aload_n hx hb dX13_left_42 rfl (lv_at hl 0 rfl) ?_
            refine va_get (D := (dC, dI)) (ci := 16) (fs := mF ad (wA v 0 0 1)) (v := .int 1) (C := RX13) (T := TX13) (N := 124) hx hb ht itX13 hown hK hP 0 rfl rfl 0 (by decide) (ht _ tw_246) (fun _ h9 => h9) rfl dX13_left_43 ?_
            refine lv_if_le (tgt := 53) hx hb dX13_left_46 (by decide) (fun k23 => absurd k23 (by decide)) (fun _ => ?_)
            refine lv_iconst (v := 0) hx hb dX13_left_49 (by decide) ?_
            refine lv_goto (tgt := 66) hx hb dX13_left_50 (by decide) ?_
            exact W.iret (v := 0) hx hb hr (fun t ht9 hW => ⟨⟨0, (wA v 0 0 1), rfl, ⟨(FG.f (FG.rf _) 1 (by decide)), ⟨zn, zbg, (Or.inr (⟨z4, (Or.inr (⟨z8, (Or.inr (⟨z12, (Or.inr (⟨z16, (Or.inr (⟨z22, rfl, rfl⟩))⟩))⟩))⟩))⟩))⟩⟩, by rw [ht9]; exact hP, hD⟩, hS.F ht9⟩) hS.2.2 dX13_left_66
