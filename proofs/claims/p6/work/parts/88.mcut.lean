theorem dX13_cut_0 : decode cX13_cut 0 = .ok (.aload_n 0, 1) := by decide +kernel
theorem dX13_cut_1 : decode cX13_cut 1 = .ok (.iconst 0, 1) := by decide +kernel
theorem dX13_cut_2 : decode cX13_cut 2 = .ok (.putfield 28, 3) := by decide +kernel
theorem dX13_cut_5 : decode cX13_cut 5 = .ok (.iconst 0, 1) := by decide +kernel
theorem dX13_cut_6 : decode cX13_cut 6 = .ok (.istore_n 1, 1) := by decide +kernel
theorem dX13_cut_7 : decode cX13_cut 7 = .ok (.iconst 1, 1) := by decide +kernel
theorem dX13_cut_8 : decode cX13_cut 8 = .ok (.istore_n 2, 1) := by decide +kernel
theorem dX13_cut_9 : decode cX13_cut 9 = .ok (.iload_n 2, 1) := by decide +kernel
theorem dX13_cut_10 : decode cX13_cut 10 = .ok (.ifCond .eq 167, 3) := by decide +kernel
theorem dX13_cut_177 : decode cX13_cut 177 = .ok (.return_, 1) := by decide +kernel
theorem dX13_cut_13 : decode cX13_cut 13 = .ok (.iconst 1, 1) := by decide +kernel
theorem dX13_cut_14 : decode cX13_cut 14 = .ok (.istore_n 3, 1) := by decide +kernel
theorem dX13_cut_15 : decode cX13_cut 15 = .ok (.iload_n 3, 1) := by decide +kernel
theorem dX13_cut_16 : decode cX13_cut 16 = .ok (.ifCond .eq 83, 3) := by decide +kernel
theorem dX13_cut_99 : decode cX13_cut 99 = .ok (.aload_n 0, 1) := by decide +kernel
theorem dX13_cut_100 : decode cX13_cut 100 = .ok (.getfield 38, 3) := by decide +kernel
theorem dX13_cut_103 : decode cX13_cut 103 = .ok (.aload_n 0, 1) := by decide +kernel
theorem dX13_cut_104 : decode cX13_cut 104 = .ok (.getfield 28, 3) := by decide +kernel
theorem dX13_cut_107 : decode cX13_cut 107 = .ok (.iload_n 1, 1) := by decide +kernel
theorem dX13_cut_108 : decode cX13_cut 108 = .ok (.iastore, 1) := by decide +kernel
theorem dX13_cut_109 : decode cX13_cut 109 = .ok (.aload_n 0, 1) := by decide +kernel
theorem dX13_cut_110 : decode cX13_cut 110 = .ok (.getfield 41, 3) := by decide +kernel
theorem dX13_cut_113 : decode cX13_cut 113 = .ok (.aload_n 0, 1) := by decide +kernel
theorem dX13_cut_114 : decode cX13_cut 114 = .ok (.getfield 28, 3) := by decide +kernel
theorem dX13_cut_117 : decode cX13_cut 117 = .ok (.iload_n 1, 1) := by decide +kernel
theorem dX13_cut_118 : decode cX13_cut 118 = .ok (.aload_n 0, 1) := by decide +kernel
theorem dX13_cut_119 : decode cX13_cut 119 = .ok (.getfield 18, 3) := by decide +kernel
theorem dX13_cut_122 : decode cX13_cut 122 = .ok (.if_icmp .lt 7, 3) := by decide +kernel
theorem dX13_cut_129 : decode cX13_cut 129 = .ok (.aload_n 0, 1) := by decide +kernel
theorem dX13_cut_130 : decode cX13_cut 130 = .ok (.iload_n 1, 1) := by decide +kernel
theorem dX13_cut_131 : decode cX13_cut 131 = .ok (.invokevirtual 44, 3) := by decide +kernel
theorem tw_299 : (.code yX13_token cX13_token 5 (some .int) : Cond) ∈ tw_W := tw_in (t8_9 (List.mem_of_getElem? (i := 85) rfl)) rfl
theorem tw_300 : ∀ w ∈ ([.methodLink RX13 44 yX13_token, .instanceMethod yX13_token, .selects RX13 yX13_token yX13_token, .initialized RX13] : List Cond), w ∈ tw_W := al_c (tw_in (t8_9 (List.mem_of_getElem? (i := 82) rfl)) rfl) (al_c (tw_in (t8_9 (List.mem_of_getElem? (i := 84) rfl)) rfl) (al_c (tw_in (t7_7 (q := (yX13_token, 124)) (List.mem_of_getElem? (i := 15) rfl)) rfl) (al_c (tw_in (t8_1 (List.mem_of_getElem? (i := 23) rfl)) rfl) al_n)))
theorem dX13_cut_134 : decode cX13_cut 134 = .ok (.iastore, 1) := by decide +kernel
theorem dX13_cut_135 : decode cX13_cut 135 = .ok (.aload_n 0, 1) := by decide +kernel
theorem dX13_cut_136 : decode cX13_cut 136 = .ok (.getfield 41, 3) := by decide +kernel
theorem dX13_cut_139 : decode cX13_cut 139 = .ok (.aload_n 0, 1) := by decide +kernel
theorem dX13_cut_140 : decode cX13_cut 140 = .ok (.getfield 28, 3) := by decide +kernel
theorem dX13_cut_143 : decode cX13_cut 143 = .ok (.iaload, 1) := by decide +kernel
theorem dX13_cut_144 : decode cX13_cut 144 = .ok (.iconst 1, 1) := by decide +kernel
theorem dX13_cut_145 : decode cX13_cut 145 = .ok (.if_icmp .le 7, 3) := by decide +kernel
theorem dX13_cut_152 : decode cX13_cut 152 = .ok (.iconst 0, 1) := by decide +kernel
theorem dX13_cut_153 : decode cX13_cut 153 = .ok (.istore_n 2, 1) := by decide +kernel
theorem dX13_cut_154 : decode cX13_cut 154 = .ok (.aload_n 0, 1) := by decide +kernel
theorem dX13_cut_155 : decode cX13_cut 155 = .ok (.getfield 47, 3) := by decide +kernel
theorem dX13_cut_158 : decode cX13_cut 158 = .ok (.aload_n 0, 1) := by decide +kernel
theorem dX13_cut_159 : decode cX13_cut 159 = .ok (.getfield 28, 3) := by decide +kernel
theorem dX13_cut_162 : decode cX13_cut 162 = .ok (.iaload, 1) := by decide +kernel
theorem dX13_cut_163 : decode cX13_cut 163 = .ok (.istore_n 1, 1) := by decide +kernel
theorem dX13_cut_164 : decode cX13_cut 164 = .ok (.aload_n 0, 1) := by decide +kernel
theorem dX13_cut_165 : decode cX13_cut 165 = .ok (.dup, 1) := by decide +kernel
theorem dX13_cut_166 : decode cX13_cut 166 = .ok (.getfield 28, 3) := by decide +kernel
theorem dX13_cut_169 : decode cX13_cut 169 = .ok (.iconst 1, 1) := by decide +kernel
theorem dX13_cut_170 : decode cX13_cut 170 = .ok (.iadd, 1) := by decide +kernel
theorem dX13_cut_171 : decode cX13_cut 171 = .ok (.putfield 28, 3) := by decide +kernel
theorem dX13_cut_174 : decode cX13_cut 174 = .ok (.goto (-165), 3) := by decide +kernel
theorem dX13_cut_148 : decode cX13_cut 148 = .ok (.iconst 1, 1) := by decide +kernel
theorem dX13_cut_149 : decode cX13_cut 149 = .ok (.goto 4, 3) := by decide +kernel
theorem dX13_cut_125 : decode cX13_cut 125 = .ok (.iconst 0, 1) := by decide +kernel
theorem dX13_cut_126 : decode cX13_cut 126 = .ok (.goto 8, 3) := by decide +kernel
theorem dX13_cut_19 : decode cX13_cut 19 = .ok (.iconst 0, 1) := by decide +kernel
theorem dX13_cut_20 : decode cX13_cut 20 = .ok (.istore_n 3, 1) := by decide +kernel
theorem dX13_cut_21 : decode cX13_cut 21 = .ok (.iload_n 1, 1) := by decide +kernel
theorem dX13_cut_22 : decode cX13_cut 22 = .ok (.aload_n 0, 1) := by decide +kernel
theorem dX13_cut_23 : decode cX13_cut 23 = .ok (.getfield 18, 3) := by decide +kernel
theorem dX13_cut_26 : decode cX13_cut 26 = .ok (.if_icmp .ge 21, 3) := by decide +kernel
theorem dX13_cut_47 : decode cX13_cut 47 = .ok (.aload_n 0, 1) := by decide +kernel
theorem dX13_cut_48 : decode cX13_cut 48 = .ok (.iload_n 1, 1) := by decide +kernel
theorem dX13_cut_49 : decode cX13_cut 49 = .ok (.invokevirtual 34, 3) := by decide +kernel
theorem dX13_cut_52 : decode cX13_cut 52 = .ok (.bipush 47, 2) := by decide +kernel
theorem dX13_cut_54 : decode cX13_cut 54 = .ok (.if_icmp .ne (-39), 3) := by decide +kernel
theorem dX13_cut_57 : decode cX13_cut 57 = .ok (.aload_n 0, 1) := by decide +kernel
theorem dX13_cut_58 : decode cX13_cut 58 = .ok (.iload_n 1, 1) := by decide +kernel
theorem dX13_cut_59 : decode cX13_cut 59 = .ok (.iconst 1, 1) := by decide +kernel
theorem dX13_cut_60 : decode cX13_cut 60 = .ok (.iadd, 1) := by decide +kernel
theorem dX13_cut_61 : decode cX13_cut 61 = .ok (.invokevirtual 34, 3) := by decide +kernel
theorem dX13_cut_64 : decode cX13_cut 64 = .ok (.bipush 47, 2) := by decide +kernel
theorem dX13_cut_66 : decode cX13_cut 66 = .ok (.if_icmp .ne (-51), 3) := by decide +kernel
theorem dX13_cut_69 : decode cX13_cut 69 = .ok (.iload_n 1, 1) := by decide +kernel
theorem dX13_cut_70 : decode cX13_cut 70 = .ok (.aload_n 0, 1) := by decide +kernel
theorem dX13_cut_71 : decode cX13_cut 71 = .ok (.getfield 18, 3) := by decide +kernel
theorem dX13_cut_74 : decode cX13_cut 74 = .ok (.if_icmp .ge 20, 3) := by decide +kernel
theorem dX13_cut_94 : decode cX13_cut 94 = .ok (.iconst 1, 1) := by decide +kernel
theorem dX13_cut_95 : decode cX13_cut 95 = .ok (.istore_n 3, 1) := by decide +kernel
theorem dX13_cut_96 : decode cX13_cut 96 = .ok (.goto (-81), 3) := by decide +kernel
theorem dX13_cut_29 : decode cX13_cut 29 = .ok (.aload_n 0, 1) := by decide +kernel
theorem dX13_cut_30 : decode cX13_cut 30 = .ok (.getfield 21, 3) := by decide +kernel
theorem dX13_cut_33 : decode cX13_cut 33 = .ok (.iload_n 1, 1) := by decide +kernel
theorem dX13_cut_34 : decode cX13_cut 34 = .ok (.iaload, 1) := by decide +kernel
theorem dX13_cut_35 : decode cX13_cut 35 = .ok (.invokestatic 31, 3) := by decide +kernel
theorem tw_301 : (.code yX13_isBlank cX13_isBlank 1 (some .boolean) : Cond) ∈ tw_W := tw_in (t8_9 (List.mem_of_getElem? (i := 77) rfl)) rfl
theorem tw_302 : ∀ w ∈ ([.methodLink RX13 31 yX13_isBlank, .static yX13_isBlank, .initialized yX13_isBlank.cls] : List Cond), w ∈ tw_W := al_c (tw_in (t8_9 (List.mem_of_getElem? (i := 75) rfl)) rfl) (al_c (tw_in (t8_9 (List.mem_of_getElem? (i := 76) rfl)) rfl) (al_c (tw_in (t8_1 (List.mem_of_getElem? (i := 23) rfl)) rfl) al_n))
theorem dX13_cut_38 : decode cX13_cut 38 = .ok (.ifCond .eq 9, 3) := by decide +kernel
theorem dX13_cut_77 : decode cX13_cut 77 = .ok (.aload_n 0, 1) := by decide +kernel
theorem dX13_cut_78 : decode cX13_cut 78 = .ok (.getfield 21, 3) := by decide +kernel
theorem dX13_cut_81 : decode cX13_cut 81 = .ok (.iload_n 1, 1) := by decide +kernel
theorem dX13_cut_82 : decode cX13_cut 82 = .ok (.iaload, 1) := by decide +kernel
theorem dX13_cut_83 : decode cX13_cut 83 = .ok (.bipush 10, 2) := by decide +kernel
theorem dX13_cut_85 : decode cX13_cut 85 = .ok (.if_icmp .eq 9, 3) := by decide +kernel
theorem dX13_cut_88 : decode cX13_cut 88 = .ok (.iinc 1 1, 3) := by decide +kernel
theorem dX13_cut_91 : decode cX13_cut 91 = .ok (.goto (-22), 3) := by decide +kernel
theorem dX13_cut_41 : decode cX13_cut 41 = .ok (.iinc 1 1, 3) := by decide +kernel
theorem dX13_cut_44 : decode cX13_cut 44 = .ok (.goto (-23), 3) := by decide +kernel
theorem om_e02dcd592f : 0 ≤ (1 : Int) ∧ (1 : Int) ≤ 1 ∧ 0 ≤ (0 : Int) ∧ (0 : Int) ≤ 4000 ∧ 0 ≤ (0 : Int) ∧ (0 : Int) ≤ 4001 := by omega
theorem om_d0feb6a9a8 {x0 : Int} (h0 : 0 ≤ x0 ∧ x0 ≤ 4000) : (1 : Int) = 0 ∨ ((0 : Int) ≤ (0 : Int) ∧ (0 : Int) ≤ x0) := by omega
theorem om_d438a61c18 {x0 x1 x2 x3 : Int} (h0 : 0 ≤ x0 ∧ x0 ≤ 1 ∧ 0 ≤ x1 ∧ x1 ≤ 4000 ∧ 0 ≤ x2 ∧ x2 ≤ 4001) (h1 : x0 = 0 ∨ (x2 ≤ x1 ∧ x1 ≤ x3)) (h2 : x0 ≠ (0 : Int)) : 0 ≤ (1 : Int) ∧ (1 : Int) ≤ 1 ∧ x1 ≤ x1 ∧ x1 ≤ x3 := by omega
theorem om_cc56a2c93a {x0 x1 x2 : Int} (h0 : 0 ≤ x0 ∧ x0 ≤ 1 ∧ 0 ≤ x1 ∧ x1 ≤ 4000 ∧ 0 ≤ x2 ∧ x2 ≤ 4001) : 0 ≤ x2 := by omega
theorem om_12f225dff8 {x0 x1 x2 : Int} (h0 : 0 ≤ x0 ∧ x0 ≤ 1 ∧ 0 ≤ x1 ∧ x1 ≤ 4000 ∧ 0 ≤ x2 ∧ x2 ≤ 4001) : x2 < 4002 := by omega
theorem om_89df8a0454 {x0 x1 x2 x3 x4 x5 x6 : Int} (h0 : 0 ≤ x0 ∧ x0 ≤ 4000) (h1 : 0 ≤ x1 ∧ x1 ≤ 1 ∧ 0 ≤ x2 ∧ x2 ≤ 4000 ∧ 0 ≤ x3 ∧ x3 ≤ 4001) (h2 : x4 = x0) (h3 : 0 ≤ x5 ∧ x5 ≤ 1 ∧ x2 ≤ x6 ∧ x6 ≤ x0) (h4 : x6 < x4) : 0 ≤ x4 ∧ x4 ≤ 4000 := by omega
theorem om_9813c48597 {x0 x1 x2 : Int} (h0 : 0 ≤ x0 ∧ x0 ≤ 1 ∧ 0 ≤ x1 ∧ x1 ≤ 4000 ∧ 0 ≤ x2 ∧ x2 ≤ 4001) : 0 ≤ x2 ∧ x2 ≤ 4001 := by omega
theorem om_48e05ccd2b {x0 x1 x2 x3 x4 x5 x6 : Int} (h0 : 0 ≤ x0 ∧ x0 ≤ 1 ∧ 0 ≤ x1 ∧ x1 ≤ 4000 ∧ 0 ≤ x2 ∧ x2 ≤ 4001) (h1 : 0 ≤ x3 ∧ x3 ≤ 1 ∧ x1 ≤ x4 ∧ x4 ≤ x5) (h2 : x4 < x6) : 0 ≤ x4 ∧ x4 < x6 := by omega
theorem om_a92f1e423e {x0 x1 x2 x3 : Int} (h0 : 0 ≤ x0 ∧ x0 ≤ 1 ∧ 0 ≤ x1 ∧ x1 ≤ 4000 ∧ 0 ≤ x2 ∧ x2 ≤ 4001) (h1 : x3 = x2) : 0 ≤ x3 := by omega
theorem om_bba6cabf32 {x0 x1 x2 x3 : Int} (h0 : 0 ≤ x0 ∧ x0 ≤ 1 ∧ 0 ≤ x1 ∧ x1 ≤ 4000 ∧ 0 ≤ x2 ∧ x2 ≤ 4001) (h1 : x3 = x2) : x3 < 4002 := by omega
theorem om_6739522df0 {x0 x1 x2 x3 : Int} (h0 : 0 ≤ x0 ∧ x0 ≤ 1 ∧ 0 ≤ x1 ∧ x1 ≤ 4000 ∧ 0 ≤ x2 ∧ x2 ≤ 4001) (h1 : x3 = x2) : -2147483648 ≤ (x3) + (1 : Int) := by omega
theorem om_85cf2b78c8 {x0 x1 x2 x3 : Int} (h0 : 0 ≤ x0 ∧ x0 ≤ 1 ∧ 0 ≤ x1 ∧ x1 ≤ 4000 ∧ 0 ≤ x2 ∧ x2 ≤ 4001) (h1 : x3 = x2) : (x3) + (1 : Int) < 2147483648 := by omega
theorem om_1d04a20c1e {x0 x1 x2 x3 x4 x5 x6 : Int} (h0 : 0 ≤ x0 ∧ x0 ≤ 4000) (h1 : 0 ≤ x1 ∧ x1 ≤ 1 ∧ 0 ≤ x2 ∧ x2 ≤ 4000 ∧ 0 ≤ x3 ∧ x3 ≤ 4001) (h2 : x4 = x0) (h3 : 0 ≤ x5 ∧ x5 ≤ 1 ∧ x2 ≤ x6 ∧ x6 ≤ x0) (h4 : x6 < x4) : 0 ≤ x6 ∧ x6 ≤ 4000 := by omega
theorem om_39e2df0d30 {x0 x1 x2 x3 x4 x5 x6 x7 x8 x9 : Int} (h0 : 0 ≤ x0 ∧ x0 ≤ 4000) (h1 : 0 ≤ x1 ∧ x1 ≤ 1 ∧ 0 ≤ x2 ∧ x2 ≤ 4000 ∧ 0 ≤ x3 ∧ x3 ≤ 4001) (h2 : x1 = 0 ∨ (x3 ≤ x2 ∧ x2 ≤ x0)) (h3 : x4 = x0) (h4 : x1 ≠ (0 : Int)) (h5 : 0 ≤ x5 ∧ x5 ≤ 1 ∧ x2 ≤ x6 ∧ x6 ≤ x0) (h6 : x6 < x4) (h7 : x7 = x3) (h8 : 0 ≤ x8 ∧ x8 ≤ 4000) (h9 : x9 = (x7) + (1 : Int)) : 0 ≤ (0 : Int) ∧ (0 : Int) ≤ 1 ∧ 0 ≤ x8 ∧ x8 ≤ 4000 ∧ 0 ≤ x9 ∧ x9 ≤ 4001 := by omega
theorem om_0fceccfc7a {x0 x1 x2 : Int} : (0 : Int) = 0 ∨ (x0 ≤ x1 ∧ x1 ≤ x2) := by omega
theorem om_be59ec952f {x0 x1 x2 x3 x4 x5 x6 x7 : Int} (h0 : 0 ≤ x0 ∧ x0 ≤ 4000) (h1 : 0 ≤ x1 ∧ x1 ≤ 1 ∧ 0 ≤ x2 ∧ x2 ≤ 4000 ∧ 0 ≤ x3 ∧ x3 ≤ 4001) (h2 : x4 = x0) (h3 : x1 ≠ (0 : Int)) (h4 : 0 ≤ x5 ∧ x5 ≤ 1 ∧ x2 ≤ x6 ∧ x6 ≤ x0) (h5 : x6 < x4) (h6 : 0 ≤ x7 ∧ x7 ≤ 4000) : 5000 * (0 : Int) + 4000 - x7 < 5000 * x1 + 4000 - x2 := by omega
theorem om_0cb5937882 {x0 x1 x2 x3 x4 x5 x6 : Int} (h0 : 0 ≤ x0 ∧ x0 ≤ 4000) (h1 : 0 ≤ x1 ∧ x1 ≤ 1 ∧ 0 ≤ x2 ∧ x2 ≤ 4000 ∧ 0 ≤ x3 ∧ x3 ≤ 4001) (h2 : x4 = x0) (h3 : 0 ≤ x5 ∧ x5 ≤ 1 ∧ x2 ≤ x6 ∧ x6 ≤ x0) (h4 : x6 < x4) : 0 < 5000 * x1 + 4000 - x2 := by omega
theorem om_4b210f7d7d {x0 x1 x2 x3 x4 x5 x6 x7 x8 x9 : Int} (h0 : 0 ≤ x0 ∧ x0 ≤ 4000) (h1 : 0 ≤ x1 ∧ x1 ≤ 1 ∧ 0 ≤ x2 ∧ x2 ≤ 4000 ∧ 0 ≤ x3 ∧ x3 ≤ 4001) (h2 : x1 = 0 ∨ (x3 ≤ x2 ∧ x2 ≤ x0)) (h3 : x4 = x0) (h4 : x1 ≠ (0 : Int)) (h5 : 0 ≤ x5 ∧ x5 ≤ 1 ∧ x2 ≤ x6 ∧ x6 ≤ x0) (h6 : x6 < x4) (h7 : x7 = x3) (h8 : 0 ≤ x8 ∧ x8 ≤ 4000) (h9 : x9 = (x7) + (1 : Int)) : 0 ≤ (1 : Int) ∧ (1 : Int) ≤ 1 ∧ 0 ≤ x8 ∧ x8 ≤ 4000 ∧ 0 ≤ x9 ∧ x9 ≤ 4001 := by omega
theorem om_4d9597aa04 {x0 x1 x2 x3 x4 x5 x6 x7 x8 x9 x10 x11 : Int} (h0 : 0 ≤ x0 ∧ x0 ≤ 1 ∧ 0 ≤ x1 ∧ x1 ≤ 4000 ∧ 0 ≤ x2 ∧ x2 ≤ 4001) (h1 : x0 = 0 ∨ (x2 ≤ x1 ∧ x1 ≤ x3)) (h2 : x4 = x3) (h3 : x0 ≠ (0 : Int)) (h4 : 0 ≤ x5 ∧ x5 ≤ 1 ∧ x1 ≤ x6 ∧ x6 ≤ x3) (h5 : x7 = x2) (h6 : x8 ≤ 1 ∨ (x6 + 1 ≤ x9 ∧ x9 ≤ x4)) (h7 : x10 = x8) (h8 : (1 : Int) < x10) (h9 : x11 = (x7) + (1 : Int)) : (1 : Int) = 0 ∨ (x11 ≤ x9 ∧ x9 ≤ x3) := by omega
theorem om_a3193a0035 {x0 x1 x2 x3 x4 x5 x6 x7 x8 x9 : Int} (h0 : 0 ≤ x0 ∧ x0 ≤ 1 ∧ 0 ≤ x1 ∧ x1 ≤ 4000 ∧ 0 ≤ x2 ∧ x2 ≤ 4001) (h1 : x0 ≠ (0 : Int)) (h2 : 0 ≤ x3 ∧ x3 ≤ 1 ∧ x1 ≤ x4 ∧ x4 ≤ x5) (h3 : x6 ≤ 1 ∨ (x4 + 1 ≤ x7 ∧ x7 ≤ x8)) (h4 : x9 = x6) (h5 : (1 : Int) < x9) : 5000 * (1 : Int) + 4000 - x7 < 5000 * x0 + 4000 - x1 := by omega
theorem om_ba93aec64d {x0 x1 x2 : Int} (h0 : 0 ≤ x0 ∧ x0 ≤ 1 ∧ 0 ≤ x1 ∧ x1 ≤ 4000 ∧ 0 ≤ x2 ∧ x2 ≤ 4001) : -2147483648 ≤ (x2) + (1 : Int) := by omega
theorem om_60ed2c6af4 {x0 x1 x2 : Int} (h0 : 0 ≤ x0 ∧ x0 ≤ 1 ∧ 0 ≤ x1 ∧ x1 ≤ 4000 ∧ 0 ≤ x2 ∧ x2 ≤ 4001) : (x2) + (1 : Int) < 2147483648 := by omega
theorem om_78b4824dd1 {x0 x1 x2 x3 x4 x5 : Int} (h0 : 0 ≤ x0 ∧ x0 ≤ 4000) (h1 : 0 ≤ x1 ∧ x1 ≤ 1 ∧ 0 ≤ x2 ∧ x2 ≤ 4000 ∧ 0 ≤ x3 ∧ x3 ≤ 4001) (h2 : 0 ≤ x4 ∧ x4 ≤ 1 ∧ x2 ≤ x5 ∧ x5 ≤ x0) : 0 ≤ x5 ∧ x5 ≤ 4000 := by omega
theorem om_9ea4f2bb94 {x0 x1 x2 x3 x4 x5 : Int} (h0 : 0 ≤ x0 ∧ x0 ≤ 1 ∧ 0 ≤ x1 ∧ x1 ≤ 4000 ∧ 0 ≤ x2 ∧ x2 ≤ 4001) (h1 : x0 = 0 ∨ (x2 ≤ x1 ∧ x1 ≤ x3)) (h2 : x0 ≠ (0 : Int)) (h3 : 0 ≤ x4 ∧ x4 ≤ 4000) (h4 : x5 = (x2) + (1 : Int)) : 0 ≤ (0 : Int) ∧ (0 : Int) ≤ 1 ∧ 0 ≤ x4 ∧ x4 ≤ 4000 ∧ 0 ≤ x5 ∧ x5 ≤ 4001 := by omega
theorem om_2ecfcf15f8 {x0 x1 x2 x3 : Int} (h0 : 0 ≤ x0 ∧ x0 ≤ 1 ∧ 0 ≤ x1 ∧ x1 ≤ 4000 ∧ 0 ≤ x2 ∧ x2 ≤ 4001) (h1 : x0 ≠ (0 : Int)) (h2 : 0 ≤ x3 ∧ x3 ≤ 4000) : 5000 * (0 : Int) + 4000 - x3 < 5000 * x0 + 4000 - x1 := by omega
theorem om_7cc8231cf4 {x0 x1 x2 : Int} (h0 : 0 ≤ x0 ∧ x0 ≤ 1 ∧ 0 ≤ x1 ∧ x1 ≤ 4000 ∧ 0 ≤ x2 ∧ x2 ≤ 4001) (h1 : x0 ≠ (0 : Int)) : 0 < 5000 * x0 + 4000 - x1 := by omega
theorem om_f49a95655e {x0 : Int} (h0 : x0 = (0 : Int)) (h1 : (1 : Int) < x0) : False := by omega
theorem om_049e80ac2c {x0 x1 x2 x3 : Int} (h0 : 0 ≤ x0 ∧ x0 ≤ 1 ∧ x1 ≤ x2 ∧ x2 ≤ x3) : x2 ≤ x2 ∧ x2 ≤ x3 := by omega
theorem om_9084c127ed {x0 x1 : Int} (h0 : 0 ≤ x0 ∧ x0 ≤ 4000) (h1 : x1 = x0) : 0 ≤ x1 ∧ x1 ≤ 4000 := by omega
theorem om_600679d6fc {x0 x1 x2 x3 x4 x5 x6 : Int} (h0 : 0 ≤ x0 ∧ x0 ≤ 1 ∧ 0 ≤ x1 ∧ x1 ≤ 4000 ∧ 0 ≤ x2 ∧ x2 ≤ 4001) (h1 : 0 ≤ x3 ∧ x3 ≤ 1 ∧ x1 ≤ x4 ∧ x4 ≤ x5) (h2 : x4 ≤ x6 ∧ x6 ≤ x5) : 0 ≤ x6 := by omega
theorem om_ff71a1f8d9 {x0 x1 x2 x3 x4 : Int} (h0 : 0 ≤ x0 ∧ x0 ≤ 1 ∧ x1 ≤ x2 ∧ x2 ≤ x3) (h1 : x2 ≤ x4 ∧ x4 ≤ x3) : 0 ≤ (0 : Int) ∧ (0 : Int) ≤ 1 ∧ x1 ≤ x4 ∧ x4 ≤ x3 := by omega
theorem om_998418424b {x0 x1 x2 x3 x4 : Int} (h0 : 0 ≤ x0 ∧ x0 ≤ 1 ∧ x1 ≤ x2 ∧ x2 ≤ x3) (h1 : x0 ≠ (0 : Int)) (h2 : x2 ≤ x4 ∧ x4 ≤ x3) : 5000 * (0 : Int) + 4000 - x4 < 5000 * x0 + 4000 - x2 := by omega
theorem om_988011e091 {x0 x1 x2 x3 : Int} (h0 : 0 ≤ x0 ∧ x0 ≤ 4000) (h1 : 0 ≤ x1 ∧ x1 ≤ 1 ∧ x2 ≤ x3 ∧ x3 ≤ x0) (h2 : x1 ≠ (0 : Int)) : 0 < 5000 * x1 + 4000 - x3 := by omega
theorem om_f404b9eaa0 {x0 x1 x2 : Int} (h0 : 0 ≤ x0 ∧ x0 ≤ 4000) (h1 : x1 = x0) (h2 : x1 ≤ x2) : -2147483648 ≤ x2 + (1 : Int) := by omega
theorem om_c8c6eee402 {x0 x1 x2 x3 x4 x5 x6 x7 : Int} (h0 : 0 ≤ x0 ∧ x0 ≤ 1 ∧ 0 ≤ x1 ∧ x1 ≤ 4000 ∧ 0 ≤ x2 ∧ x2 ≤ 4001) (h1 : 0 ≤ x3 ∧ x3 ≤ 1 ∧ x1 ≤ x4 ∧ x4 ≤ x5) (h2 : x4 ≤ x6 ∧ x6 ≤ x5) (h3 : x7 = x6 + (1 : Int)) : 0 ≤ x7 := by omega
theorem om_3355f9889f {x0 x1 x2 : Int} (h0 : x0 ≤ x1 ∧ x1 ≤ x2) : x1 ≤ x1 ∧ x1 ≤ x2 := by omega
theorem om_5c1a12ab96 {x0 x1 x2 x3 x4 : Int} (h0 : x0 ≤ x1) (h1 : ((x1 < x0 ∧ x2 = x3) ∨ (x0 ≤ x1 ∧ x2 = 0))) (h2 : x2 = (47 : Int)) : x1 ≠ x1 ∨ (x3 = 47 ∧ x1 < x4) := by omega
theorem om_5efa97375c {x0 x1 x2 x3 x4 x5 : Int} (h0 : 0 ≤ x0 ∧ x0 ≤ 1 ∧ x1 ≤ x2 ∧ x2 ≤ x3) (h1 : x2 ≤ x4 ∧ x4 ≤ x3) (h2 : x4 ≤ x5 ∧ x5 ≤ x3) : 0 ≤ (1 : Int) ∧ (1 : Int) ≤ 1 ∧ x1 ≤ x5 ∧ x5 ≤ x3 := by omega
theorem om_9cc608ffb8 {x0 x1 x2 x3 x4 x5 x6 : Int} (h0 : x0 ≤ x1) (h1 : ((x1 < x0 ∧ x2 = x3) ∨ (x0 ≤ x1 ∧ x2 = 0))) (h2 : x2 = (47 : Int)) : 5000 * (1 : Int) + 4000 - x4 < 5000 * x5 + 4000 - x6 := by omega
theorem om_a7618bf7d4 {x0 x1 x2 x3 : Int} (h0 : x0 ≤ x1) (h1 : x1 ≤ x2 ∧ x2 ≤ x3) (h2 : x2 < x0) : False := by omega
theorem om_6ab4456ead {x0 x1 x2 : Int} (h0 : 0 ≤ x0 ∧ x0 ≤ 4000) (h1 : x1 = x0) (h2 : x2 < x1) : x2 < 4000 := by omega
theorem om_a7aa034acb {x0 x1 x2 x3 x4 x5 x6 x7 : Int} (h0 : 0 ≤ x0 ∧ x0 ≤ 4000) (h1 : 0 ≤ x1 ∧ x1 ≤ 1 ∧ 0 ≤ x2 ∧ x2 ≤ 4000 ∧ 0 ≤ x3 ∧ x3 ≤ 4001) (h2 : x4 = x0) (h3 : 0 ≤ x5 ∧ x5 ≤ 1 ∧ x2 ≤ x6 ∧ x6 ≤ x0) (h4 : x6 ≤ x7 ∧ x7 ≤ x0) (h5 : x7 < x4) : 0 ≤ x4 ∧ x4 ≤ 4000 := by omega
theorem om_34b7f94d8b {x0 x1 x2 x3 x4 x5 : Int} (h0 : x0 = x1) (h1 : 0 ≤ x2 ∧ x2 ≤ 1 ∧ x3 ≤ x4 ∧ x4 ≤ x1) (h2 : x4 ≤ x5 ∧ x5 ≤ x1) (h3 : x5 < x0) : 0 ≤ (0 : Int) ∧ (0 : Int) ≤ 1 ∧ x3 ≤ x5 ∧ x5 ≤ x1 := by omega
theorem om_21040c036b {x0 x1 x2 x3 x4 x5 : Int} (h0 : 0 ≤ x0 ∧ x0 ≤ 4000) (h1 : x1 = x0) (h2 : 0 ≤ x2 ∧ x2 ≤ 1 ∧ x3 ≤ x4 ∧ x4 ≤ x0) (h3 : x4 ≤ x5 ∧ x5 ≤ x0) (h4 : x5 < x1) : 0 < 5000 * x2 + 4000 - x4 := by omega
theorem om_50da948930 {x0 x1 x2 x3 x4 x5 x6 : Int} (h0 : 0 ≤ x0 ∧ x0 ≤ 1 ∧ 0 ≤ x1 ∧ x1 ≤ 4000 ∧ 0 ≤ x2 ∧ x2 ≤ 4001) (h1 : 0 ≤ x3 ∧ x3 ≤ 1 ∧ x1 ≤ x4 ∧ x4 ≤ x5) (h2 : x4 ≤ x6 ∧ x6 ≤ x5) : -2147483648 ≤ x6 + (1 : Int) := by omega
theorem om_0fe97cfa59 {x0 x1 x2 : Int} (h0 : x0 = x1) (h1 : x2 < x0) : x2 ≤ x2 ∧ x2 ≤ x1 := by omega
theorem om_4bd04670c2 {x0 x1 x2 x3 x4 : Int} (h0 : x0 = x1) (h1 : x2 < x0) (h2 : ((x2 < x0 ∧ x3 = x4) ∨ (x0 ≤ x2 ∧ x3 = 0))) (h3 : x3 = (47 : Int)) : x2 ≠ x2 ∨ (x4 = 47 ∧ x2 < x1) := by omega
theorem om_d49618ff7b {x0 x1 x2 x3 x4 x5 x6 : Int} (h0 : 0 ≤ x0 ∧ x0 ≤ 1 ∧ x1 ≤ x2 ∧ x2 ≤ x3) (h1 : x2 ≤ x4 ∧ x4 ≤ x3) (h2 : x4 < x5) (h3 : x4 ≤ x6 ∧ x6 ≤ x3) (h4 : x5 ≤ x6) : 0 ≤ (1 : Int) ∧ (1 : Int) ≤ 1 ∧ x1 ≤ x6 ∧ x6 ≤ x3 := by omega
theorem om_e424f6e703 {x0 x1 x2 x3 x4 x5 x6 : Int} (h0 : 0 ≤ x0 ∧ x0 ≤ 1 ∧ x1 ≤ x2 ∧ x2 ≤ x3) (h1 : x0 ≠ (0 : Int)) (h2 : x2 ≤ x4 ∧ x4 ≤ x3) (h3 : x4 < x5) (h4 : x5 ≤ x6) : 5000 * (1 : Int) + 4000 - x6 < 5000 * x0 + 4000 - x2 := by omega
theorem om_9c5cbba480 {x0 x1 x2 x3 x4 x5 x6 x7 : Int} (h0 : 0 ≤ x0 ∧ x0 ≤ 1 ∧ 0 ≤ x1 ∧ x1 ≤ 4000 ∧ 0 ≤ x2 ∧ x2 ≤ 4001) (h1 : 0 ≤ x3 ∧ x3 ≤ 1 ∧ x1 ≤ x4 ∧ x4 ≤ x5) (h2 : x4 ≤ x6 ∧ x6 ≤ x5) (h3 : x6 ≤ x7 ∧ x7 ≤ x5) : 0 ≤ x7 := by omega
theorem om_593f583828 {x0 x1 x2 x3 x4 x5 x6 : Int} (h0 : x0 = x1) (h1 : 0 ≤ x2 ∧ x2 ≤ 1 ∧ x3 ≤ x4 ∧ x4 ≤ x1) (h2 : x4 ≤ x5 ∧ x5 ≤ x1) (h3 : x5 ≤ x6 ∧ x6 ≤ x1) (h4 : x6 < x0) : 0 ≤ (1 : Int) ∧ (1 : Int) ≤ 1 ∧ x3 ≤ x6 ∧ x6 ≤ x1 := by omega
theorem om_ae7b0800e7 {x0 x1 x2 x3 x4 x5 x6 : Int} (h0 : 0 ≤ x0 ∧ x0 ≤ 1 ∧ x1 ≤ x2 ∧ x2 ≤ x3) (h1 : x0 ≠ (0 : Int)) (h2 : x2 ≤ x4 ∧ x4 ≤ x3) (h3 : x4 ≤ x5 ∧ x5 ≤ x3) (h4 : x5 ≠ x4 ∨ (x6 = 47 ∧ x5 < x3)) (h5 : x6 = (10 : Int)) : 5000 * (1 : Int) + 4000 - x5 < 5000 * x0 + 4000 - x2 := by omega
theorem om_ccdcb4e360 {x0 x1 x2 x3 x4 x5 x6 x7 : Int} (h0 : 0 ≤ x0 ∧ x0 ≤ 1 ∧ 0 ≤ x1 ∧ x1 ≤ 4000 ∧ 0 ≤ x2 ∧ x2 ≤ 4001) (h1 : 0 ≤ x3 ∧ x3 ≤ 1 ∧ x1 ≤ x4 ∧ x4 ≤ x5) (h2 : x4 ≤ x6 ∧ x6 ≤ x5) (h3 : x6 ≤ x7 ∧ x7 ≤ x5) : -2147483648 ≤ x7 + (1 : Int) := by omega
theorem om_416b29d9e7 {x0 x1 x2 x3 x4 : Int} (h0 : x0 = x1) (h1 : x2 ≤ x3 ∧ x3 ≤ x1) (h2 : x3 < x0) (h3 : x4 = x3 + (1 : Int)) : x2 ≤ x4 ∧ x4 ≤ x1 := by omega
theorem om_2eb2b66f65 {x0 x1 x2 x3 x4 : Int} (h0 : x0 ≤ x1 ∧ x1 ≤ x2) (h1 : x3 = x1 + (1 : Int)) : x3 ≠ x0 ∨ (x4 = 47 ∧ x3 < x2) := by omega
theorem om_ed9b469895 {x0 x1 x2 : Int} (h0 : 0 ≤ x0 ∧ x0 ≤ 4000) (h1 : x1 = x0) (h2 : x2 < x1) : 0 < 4000 - x2 := by omega
set_option maxHeartbeats 4000000 in
set_option maxRecDepth 100000 in
theorem c_m_cut (l : Launch) (dC : Nat → ClassId) (dI : Nat → Nat → Nat) (cI cB cZ cJ cR : ClassId) (tb : Nat → Nat) (sz : Nat) (ad : Nat → Nat) (N : Nat) (v : MS)  (zsz : 0 ≤ (v.1 0 4).toInt ∧ (v.1 0 4).toInt ≤ 4000) (a7 : AR 7 0 4000 v) (a8 : AR 8 0 4000 v) : Met l yX13_cut (Cond.code yX13_cut cX13_cut 4 none :: tw_W) ({ frames := 6, cells := 0, slots := 0, locals := 136 }) (pc_ (dC, dI) (tyS cI cB cZ cJ cR) tb (mW ad N cI cZ cJ v) sz [.ref (ad 0)]) (qv_ (dC, dI) (mW ad N cI cZ cJ v) sz (fun (u : MS) => FH [5] [0, 6, 7, 8, 10] v u ∧ (Q_m_cut v u) ∧ (AR 7 0 4000 u) ∧ (AR 8 0 4000 u)) (fun (u : MS) => (mW ad N cI cZ cJ u))) 0 0 (va_A (mW ad N cI cZ cJ v) sz) := by
  refine Met.ofW (cc := cX13_cut) (maxL := 4) (ret := none) (by decide) rfl ?_
  intro p e s m args below meth c s₁ B hml hv
  obtain ⟨rfl, hsz, hP, hKK, hD0, hFx⟩ := hv
  have hK := hKK.1
  have hx := B.exec
  have hb := B.bytes
  have hr := B.returns
  have ht : ∀ w ∈ tw_W, w.before _ s = true := fun w h => atoms_spec (ws := Cond.code yX13_cut cX13_cut 4 none :: tw_W) B.pre w (List.mem_cons_of_mem _ h)
  have hown : s.vm.findClass RX13 = some m.cls := findClass_of_methodNamed B.named
  have hlocks := B.notSynchronized
  subst hsz
  unfold qv_
  have hD := hD0.self (sz := s.heap.size)
  generalize hAe : va_A (mW ad N cI cZ cJ v) s.heap.size = A at hD hFx ⊢
  have hA : ∀ q : Nat, s.heap.size ≤ q → A q := fun q h => by rw [← hAe]; exact Or.inr h
  have hS : va_S A s.heap s.heap [] := va_S.rf
  have hl := lv_entry ([.ref (ad 0)]) (n := 4) (Nat.le_of_ble_eq_true rfl)
  rw [lg_entry_eq]
  generalize (lg_sl ([.ref (ad 0)]) ++ List.replicate (4 - (lg_sl ([.ref (ad 0)])).length) Slot.unset).toArray = ls at hl ⊢
  have hl : lv_has ls 4 [(0, .ref (ad 0))] := hl
  refine lv_aload_n hx hb dX13_cut_0 rfl (lv_at hl 0 rfl) ?_
  refine lv_iconst (v := 0) hx hb dX13_cut_1 (by decide) ?_
  refine va_put (D := (dC, dI)) (ci := 16) (fs := mF ad v) (v := .int 0) (ty := .int) (C := RX13) (T := TX13) (N := 124) hx hb ht itX13 tyX13 tyX13_ok nmX13 hown hK hP hD hS 0 rfl rfl 5 (by decide) (ht _ tw_283) (fun _ h9 => h9) rfl (by decide +kernel) rfl rfl (Nat.le_of_ble_eq_true rfl) dX13_cut_2 (fun H locs hP hD hS => ?_)
  have hP := cP_ (mw_5 ad N cI cZ cJ v 0) hP
  have hD := cD_ (mw_5 ad N cI cZ cJ v 0) hD
  refine lv_iconst (v := 0) hx hb dX13_cut_5 (by decide) ?_
  refine lv_istore_n (lv' := [(1, .int 0), (0, .ref (ad 0))]) hx hb dX13_cut_6 rfl hl (by decide) rfl (fun ls hl => ?_)
  refine lv_iconst (v := 1) hx hb dX13_cut_7 (by decide) ?_
  refine lv_istore_n (lv' := [(2, .int 1), (1, .int 0), (0, .ref (ad 0))]) hx hb dX13_cut_8 rfl hl (by decide) rfl (fun ls hl => ?_)
  refine lpm_ (X := Int32 × Int32 × MS) (P := (fun (x9 : Int32 × Int32 × MS) (H : Heap) (locs : List Loc) (ls : Array Slot) => (FH [5] [0, 6, 7, 8, 10] v x9.2.2) ∧ (0 ≤ x9.2.1.toInt ∧ x9.2.1.toInt ≤ 1 ∧ 0 ≤ x9.1.toInt ∧ x9.1.toInt ≤ 4000 ∧ 0 ≤ (x9.2.2.1 0 5).toInt ∧ (x9.2.2.1 0 5).toInt ≤ 4001) ∧ (x9.2.1.toInt = 0 ∨ ((x9.2.2.1 0 5).toInt ≤ x9.1.toInt ∧ x9.1.toInt ≤ (v.1 0 4).toInt)) ∧ (AR 7 0 4000 x9.2.2) ∧ (AR 8 0 4000 x9.2.2) ∧ (RT (Q_m_cut_L0 v) (0, 1, (wA v 0 5 0)) (x9.1, x9.2.1, x9.2.2)) ∧ va_P (dC, dI) vwCl (mW ad N cI cZ cJ x9.2.2) H ∧ va_D A (mW ad N cI cZ cJ x9.2.2) ∧ va_S A s.heap H locs ∧ lv_has ls 4 [(2, .int x9.2.1), (1, .int x9.1), (0, .ref (ad 0))])) (fun x9 => (5000 * x9.2.1.toInt + 4000 - x9.1.toInt).toNat) 9 (fun x9 H locs ls hh ih9 => ?_) (0, 1, (wA v 0 5 0)) _ _ _ ⟨(show FH [5] [0, 6, 7, 8, 10] v (wA v 0 5 0) from (FH.f (FH.rf _) 0 (by decide))), (show 0 ≤ (1 : Int) ∧ (1 : Int) ≤ 1 ∧ 0 ≤ (0 : Int) ∧ (0 : Int) ≤ 4000 ∧ 0 ≤ (0 : Int) ∧ (0 : Int) ≤ 4001 from om_e02dcd592f), (show (1 : Int) = 0 ∨ ((0 : Int) ≤ (0 : Int) ∧ (0 : Int) ≤ (v.1 0 4).toInt) from (om_d0feb6a9a8 zsz)), (show AR 7 0 4000 (wA v 0 5 0) from (AR.o a7 (by decide))), (show AR 8 0 4000 (wA v 0 5 0) from (AR.o a8 (by decide))), RT.rf, hP, hD, hS, lv_sub hl [0, 1, 2] rfl⟩
  obtain ⟨kx, mo, w9⟩ := x9
  obtain ⟨fwL9, l1L9, l2L9, a7L9, a8L9, exL9, hP, hD, hS, hl⟩ := hh
  have fwL9 : FH [5] [0, 6, 7, 8, 10] v w9 := fwL9
  have l1L9 : 0 ≤ mo.toInt ∧ mo.toInt ≤ 1 ∧ 0 ≤ kx.toInt ∧ kx.toInt ≤ 4000 ∧ 0 ≤ (w9.1 0 5).toInt ∧ (w9.1 0 5).toInt ≤ 4001 := l1L9
  have l2L9 : mo.toInt = 0 ∨ ((w9.1 0 5).toInt ≤ kx.toInt ∧ kx.toInt ≤ (v.1 0 4).toInt) := l2L9
  have a7L9 : AR 7 0 4000 w9 := a7L9
  have a8L9 : AR 8 0 4000 w9 := a8L9
  have hP : va_P (dC, dI) vwCl (mW ad N cI cZ cJ w9) H := hP
  have hD : va_D A (mW ad N cI cZ cJ w9) := hD
  have hl : lv_has ls 4 [(2, .int mo), (1, .int kx), (0, .ref (ad 0))] := hl
  refine lv_iload_n hx hb dX13_cut_9 rfl (lv_at hl 0 rfl) ?_
  refine lv_if_eq (tgt := 177) hx hb dX13_cut_10 (by decide) (fun h1 => ?_) (fun h1 => ?_)
  · have z2 : mo.toInt = (0 : Int) := eq_z rfl (show (0 : Int32).toInt = (0 : Int) by decide) h1
    exact W.vret hx hb hr (fun t ht9 hW => ⟨⟨w9, rfl, ⟨(FH.tr (FH.rf _) (FH.up fwL9 (by decide) (by decide))), ⟨zsz, kx, mo, w9, exL9, fwL9, l1L9, l2L9, z2, rfl⟩, a7L9, a8L9⟩, by rw [ht9]; exact hP, hD⟩, hS.F ht9⟩) hS.2.2 dX13_cut_177
  · have z3 : mo.toInt ≠ (0 : Int) := ne_z rfl (show (0 : Int32).toInt = (0 : Int) by decide) h1
    refine lv_iconst (v := 1) hx hb dX13_cut_13 (by decide) ?_
    refine lv_istore_n (lv' := [(3, .int 1), (2, .int mo), (1, .int kx), (0, .ref (ad 0))]) hx hb dX13_cut_14 rfl hl (by decide) rfl (fun ls hl => ?_)
    refine lpm_ (X := Int32 × Int32) (P := (fun (x9 : Int32 × Int32) (H : Heap) (locs : List Loc) (ls : Array Slot) => (0 ≤ x9.2.toInt ∧ x9.2.toInt ≤ 1 ∧ kx.toInt ≤ x9.1.toInt ∧ x9.1.toInt ≤ (v.1 0 4).toInt) ∧ (RT (Q_m_cut_L1 v kx w9) (kx, 1) (x9.1, x9.2)) ∧ va_P (dC, dI) vwCl (mW ad N cI cZ cJ w9) H ∧ va_D A (mW ad N cI cZ cJ w9) ∧ va_S A s.heap H locs ∧ lv_has ls 4 [(3, .int x9.2), (2, .int mo), (1, .int x9.1), (0, .ref (ad 0))])) (fun x9 => (5000 * x9.2.toInt + 4000 - x9.1.toInt).toNat) 15 (fun x9 H locs ls hh ih15 => ?_) (kx, 1) _ _ _ ⟨(show 0 ≤ (1 : Int) ∧ (1 : Int) ≤ 1 ∧ kx.toInt ≤ kx.toInt ∧ kx.toInt ≤ (v.1 0 4).toInt from (om_d438a61c18 l1L9 l2L9 z3)), RT.rf, hP, hD, hS, lv_sub hl [0, 1, 2, 3] rfl⟩
    obtain ⟨ka, bl⟩ := x9
    obtain ⟨f1L15, exL15, hP, hD, hS, hl⟩ := hh
    have f1L15 : 0 ≤ bl.toInt ∧ bl.toInt ≤ 1 ∧ kx.toInt ≤ ka.toInt ∧ ka.toInt ≤ (v.1 0 4).toInt := f1L15
    have hl : lv_has ls 4 [(3, .int bl), (2, .int mo), (1, .int ka), (0, .ref (ad 0))] := hl
    refine lv_iload_n hx hb dX13_cut_15 rfl (lv_at hl 0 rfl) ?_
    refine lv_if_eq (tgt := 99) hx hb dX13_cut_16 (by decide) (fun h4 => ?_) (fun h4 => ?_)
    · have z5 : bl.toInt = (0 : Int) := eq_z rfl (show (0 : Int32).toInt = (0 : Int) by decide) h4
      refine lv_aload_n hx hb dX13_cut_99 rfl (lv_at hl 3 rfl) ?_
      refine va_get (D := (dC, dI)) (ci := 16) (fs := mF ad w9) (v := .ref (ad 7)) (C := RX13) (T := TX13) (N := 124) hx hb ht itX13 hown hK hP 0 rfl rfl 7 (by decide) (ht _ tw_20) (fun _ h9 => h9) rfl dX13_cut_100 ?_
      refine lv_aload_n hx hb dX13_cut_103 rfl (lv_at hl 3 rfl) ?_
      refine va_get (D := (dC, dI)) (ci := 16) (fs := mF ad w9) (v := .int (w9.1 0 5)) (C := RX13) (T := TX13) (N := 124) hx hb ht itX13 hown hK hP 0 rfl rfl 5 (by decide) (ht _ tw_283) (fun _ h9 => h9) rfl dX13_cut_104 ?_
      refine lv_iload_n hx hb dX13_cut_107 rfl (lv_at hl 2 rfl) ?_
      refine va_iast (D := (dC, dI)) (f := (w9.1 7)) hx hb hK hP hD hS 4 0 rfl rfl (in_y (a := (w9.1 0 5).toInt) (b := 4002) rfl (om_cc56a2c93a l1L9) (om_12f225dff8 l1L9) rfl) dX13_cut_108 (fun H locs hP hD hS => ?_)
      have hP := cP_ (ma_7 ad N cI cZ cJ w9 ((w9.1 0 5).toNatClampNeg) ka) hP
      have hD := cD_ (ma_7 ad N cI cZ cJ w9 ((w9.1 0 5).toNatClampNeg) ka) hD
      refine lv_aload_n hx hb dX13_cut_109 rfl (lv_at hl 3 rfl) ?_
      refine va_get (D := (dC, dI)) (ci := 16) (fs := mF ad (wA w9 7 ((w9.1 0 5).toNatClampNeg) ka)) (v := .ref (ad 6)) (C := RX13) (T := TX13) (N := 124) hx hb ht itX13 hown hK hP 0 rfl rfl 6 (by decide) (ht _ tw_23) (fun _ h9 => h9) rfl dX13_cut_110 ?_
      refine lv_aload_n hx hb dX13_cut_113 rfl (lv_at hl 3 rfl) ?_
      refine va_get (D := (dC, dI)) (ci := 16) (fs := mF ad (wA w9 7 ((w9.1 0 5).toNatClampNeg) ka)) (v := .int (w9.1 0 5)) (C := RX13) (T := TX13) (N := 124) hx hb ht itX13 hown hK hP 0 rfl rfl 5 (by decide) (ht _ tw_283) (fun _ h9 => h9) rfl dX13_cut_114 ?_
      refine lv_iload_n hx hb dX13_cut_117 rfl (lv_at hl 2 rfl) ?_
      refine lv_aload_n hx hb dX13_cut_118 rfl (lv_at hl 3 rfl) ?_
      refine va_get (D := (dC, dI)) (ci := 16) (fs := mF ad (wA w9 7 ((w9.1 0 5).toNatClampNeg) ka)) (v := .int (w9.1 0 4)) (C := RX13) (T := TX13) (N := 124) hx hb ht itX13 hown hK hP 0 rfl rfl 4 (by decide) (ht _ tw_271) (fun _ h9 => h9) rfl dX13_cut_119 ?_
      refine lv_icmp_lt (tgt := 129) hx hb dX13_cut_122 (by decide) (fun h6 => ?_) (fun h6 => ?_)
      · have z7 : ka.toInt < (w9.1 0 4).toInt := lt_z rfl rfl h6
        refine lv_aload_n hx hb dX13_cut_129 rfl (lv_at hl 3 rfl) ?_
        refine lv_iload_n hx hb dX13_cut_130 rfl (lv_at hl 2 rfl) ?_
        have q8 : (w9.1 0 4).toInt = (v.1 0 4).toInt := congrArg Int32.toInt ((fwL9.2.1 4 (by decide)).trans (show v.1 0 4 = (v.1 0 4) by rfl))
        refine cu_i (rn_V (n := 1) (As := [.int ka]) (rest := [.int (w9.1 0 5), .ref (ad 6)]) hx hb hml hown ht hKK hFx hP hD hS hA (c_m_token l dC dI cI cB cZ cJ cR tb H.size ad N (wA w9 7 ((w9.1 0 5).toNatClampNeg) ka) ka (show 0 ≤ (w9.1 0 4).toInt ∧ (w9.1 0 4).toInt ≤ 4000 from (om_89df8a0454 zsz l1L9 q8 f1L15 z7)) (show 0 ≤ (w9.1 0 5).toInt ∧ (w9.1 0 5).toInt ≤ 4001 from (om_9813c48597 l1L9)) (show 0 ≤ ka.toInt ∧ ka.toInt < (w9.1 0 4).toInt from (om_48e05ccd2b l1L9 f1L15 z7)) (show AR 8 0 4000 (wA w9 7 ((w9.1 0 5).toNatClampNeg) ka) from (AR.o a8L9 (by decide)))) tw_299 tw_300 (by decide +kernel) rfl rfl ⟨Nat.le_of_ble_eq_true rfl, Nat.le_of_ble_eq_true rfl⟩ (List.range (mW ad N cI cZ cJ (wA w9 7 ((w9.1 0 5).toNatClampNeg) ka)).length) (rg_map _) (mW_nd _ _ _ _ _ _) rfl rfl rfl rfl hl.1 rfl (Nat.le_of_ble_eq_true rfl) dX13_cut_131 ⟨Nat.le_of_ble_eq_true rfl, Nat.le_of_ble_eq_true rfl⟩) hP hD hS hA (fun r11 u10 H locs hw9 hP hD hS => ?_)
        obtain ⟨fr9, ex9, pu9, a89⟩ := hw9
        have pu9 : r11.toInt ≤ 1 ∨ (ka.toInt + 1 ≤ ((u10.1 8) (u10.1 0 5).toNatClampNeg).toInt ∧ ((u10.1 8) (u10.1 0 5).toNatClampNeg).toInt ≤ (w9.1 0 4).toInt) := pu9
        have a89 : AR 8 0 4000 u10 := a89
        refine W.widen (k := 0) (n := 0) (Nat.le_refl _) (Nat.le_refl _) ?_
        refine va_iast (D := (dC, dI)) (f := (u10.1 6)) hx hb hK hP hD hS 3 0 rfl rfl (in_y (a := (w9.1 0 5).toInt) (b := 4002) rfl (om_cc56a2c93a l1L9) (om_12f225dff8 l1L9) rfl) dX13_cut_134 (fun H locs hP hD hS => ?_)
        have hP := cP_ (ma_6 ad N cI cZ cJ u10 ((w9.1 0 5).toNatClampNeg) r11) hP
        have hD := cD_ (ma_6 ad N cI cZ cJ u10 ((w9.1 0 5).toNatClampNeg) r11) hD
        refine lv_aload_n hx hb dX13_cut_135 rfl (lv_at hl 3 rfl) ?_
        refine va_get (D := (dC, dI)) (ci := 16) (fs := mF ad (wA u10 6 ((w9.1 0 5).toNatClampNeg) r11)) (v := .ref (ad 6)) (C := RX13) (T := TX13) (N := 124) hx hb ht itX13 hown hK hP 0 rfl rfl 6 (by decide) (ht _ tw_23) (fun _ h9 => h9) rfl dX13_cut_136 ?_
        refine lv_aload_n hx hb dX13_cut_139 rfl (lv_at hl 3 rfl) ?_
        refine va_get (D := (dC, dI)) (ci := 16) (fs := mF ad (wA u10 6 ((w9.1 0 5).toNatClampNeg) r11)) (v := .int (u10.1 0 5)) (C := RX13) (T := TX13) (N := 124) hx hb ht itX13 hown hK hP 0 rfl rfl 5 (by decide) (ht _ tw_283) (fun _ h9 => h9) rfl dX13_cut_140 ?_
        have q12 : (u10.1 0 5).toInt = (w9.1 0 5).toInt := congrArg Int32.toInt ((fr9.2.1 5 (by decide)).trans (show (wA w9 7 ((w9.1 0 5).toNatClampNeg) ka).1 0 5 = (w9.1 0 5) by rfl))
        refine va_iald (D := (dC, dI)) (f := (upd (u10.1 6) ((w9.1 0 5).toNatClampNeg) r11)) hx hb hK hP 3 0 rfl rfl (in_y (a := (u10.1 0 5).toInt) (b := 4002) rfl (om_a92f1e423e l1L9 q12) (om_bba6cabf32 l1L9 q12) rfl) dX13_cut_143 ?_
        refine lv_iconst (v := 1) hx hb dX13_cut_144 (by decide) ?_
        refine lv_icmp_le (tgt := 152) hx hb dX13_cut_145 (by decide) (fun h13 => ?_) (fun h13 => ?_)
        · have z14 : ((upd (u10.1 6) ((w9.1 0 5).toNatClampNeg) r11) (u10.1 0 5).toNatClampNeg).toInt ≤ (1 : Int) := le_z rfl (show (1 : Int32).toInt = (1 : Int) by decide) h13
          refine lv_iconst (v := 0) hx hb dX13_cut_152 (by decide) ?_
          refine lv_istore_n (lv' := [(2, .int 0), (3, .int bl), (1, .int ka), (0, .ref (ad 0))]) hx hb dX13_cut_153 rfl hl (by decide) rfl (fun ls hl => ?_)
          refine lv_aload_n hx hb dX13_cut_154 rfl (lv_at hl 3 rfl) ?_
          refine va_get (D := (dC, dI)) (ci := 16) (fs := mF ad (wA u10 6 ((w9.1 0 5).toNatClampNeg) r11)) (v := .ref (ad 8)) (C := RX13) (T := TX13) (N := 124) hx hb ht itX13 hown hK hP 0 rfl rfl 8 (by decide) (ht _ tw_42) (fun _ h9 => h9) rfl dX13_cut_155 ?_
          refine lv_aload_n hx hb dX13_cut_158 rfl (lv_at hl 3 rfl) ?_
          refine va_get (D := (dC, dI)) (ci := 16) (fs := mF ad (wA u10 6 ((w9.1 0 5).toNatClampNeg) r11)) (v := .int (u10.1 0 5)) (C := RX13) (T := TX13) (N := 124) hx hb ht itX13 hown hK hP 0 rfl rfl 5 (by decide) (ht _ tw_283) (fun _ h9 => h9) rfl dX13_cut_159 ?_
          refine va_iald (D := (dC, dI)) (f := (u10.1 8)) hx hb hK hP 5 0 rfl rfl (in_y (a := (u10.1 0 5).toInt) (b := 4002) rfl (om_a92f1e423e l1L9 q12) (om_bba6cabf32 l1L9 q12) rfl) dX13_cut_162 ?_
          refine lv_istore_n (lv' := [(1, .int ((u10.1 8) (u10.1 0 5).toNatClampNeg)), (2, .int 0), (3, .int bl), (0, .ref (ad 0))]) hx hb dX13_cut_163 rfl hl (by decide) rfl (fun ls hl => ?_)
          refine lv_aload_n hx hb dX13_cut_164 rfl (lv_at hl 3 rfl) ?_
          refine lv_dup hx hb dX13_cut_165 rfl ?_
          refine va_get (D := (dC, dI)) (ci := 16) (fs := mF ad (wA u10 6 ((w9.1 0 5).toNatClampNeg) r11)) (v := .int (u10.1 0 5)) (C := RX13) (T := TX13) (N := 124) hx hb ht itX13 hown hK hP 0 rfl rfl 5 (by decide) (ht _ tw_283) (fun _ h9 => h9) rfl dX13_cut_166 ?_
          refine lv_iconst (v := 1) hx hb dX13_cut_169 (by decide) ?_
          refine lv_iadd hx hb dX13_cut_170 ?_
          have z15 : ((u10.1 0 5) + (1 : Int32)).toInt = ((u10.1 0 5).toInt) + (1 : Int) := add_z rfl (show (1 : Int32).toInt = (1 : Int) by decide) (om_6739522df0 l1L9 q12) (om_85cf2b78c8 l1L9 q12)
          refine va_put (D := (dC, dI)) (ci := 16) (fs := mF ad (wA u10 6 ((w9.1 0 5).toNatClampNeg) r11)) (v := .int ((u10.1 0 5) + (1 : Int32))) (ty := .int) (C := RX13) (T := TX13) (N := 124) hx hb ht itX13 tyX13 tyX13_ok nmX13 hown hK hP hD hS 0 rfl rfl 5 (by decide) (ht _ tw_283) (fun _ h9 => h9) rfl (by decide +kernel) rfl rfl (Nat.le_of_ble_eq_true rfl) dX13_cut_171 (fun H locs hP hD hS => ?_)
          have hP := cP_ (mw_5 ad N cI cZ cJ (wA u10 6 ((w9.1 0 5).toNatClampNeg) r11) ((u10.1 0 5) + (1 : Int32))) hP
          have hD := cD_ (mw_5 ad N cI cZ cJ (wA u10 6 ((w9.1 0 5).toNatClampNeg) r11) ((u10.1 0 5) + (1 : Int32))) hD
          refine lv_goto (tgt := 9) hx hb dX13_cut_174 (by decide) ?_
          have q16 : 0 ≤ ((u10.1 8) (u10.1 0 5).toNatClampNeg).toInt ∧ ((u10.1 8) (u10.1 0 5).toNatClampNeg).toInt ≤ 4000 := (show AR 8 0 4000 (wA u10 6 ((w9.1 0 5).toNatClampNeg) r11) from (AR.o a89 (by decide))) ((u10.1 0 5).toNatClampNeg)
          exact ih9 (((u10.1 8) (u10.1 0 5).toNatClampNeg), 0, (wA (wA u10 6 ((w9.1 0 5).toNatClampNeg) r11) 0 5 ((u10.1 0 5) + (1 : Int32)))) _ _ _ (show (5000 * (0 : Int) + 4000 - ((u10.1 8) (u10.1 0 5).toNatClampNeg).toInt).toNat < (5000 * mo.toInt + 4000 - kx.toInt).toNat from tn_z (om_be59ec952f zsz l1L9 q8 z3 f1L15 z7 q16) (om_0cb5937882 zsz l1L9 q8 f1L15 z7)) ⟨(show FH [5] [0, 6, 7, 8, 10] v (wA (wA u10 6 ((w9.1 0 5).toNatClampNeg) r11) 0 5 ((u10.1 0 5) + (1 : Int32))) from (FH.f (FH.a (FH.tr (FH.a (FH.tr (FH.rf _) (FH.up fwL9 (by decide) (by decide))) ((w9.1 0 5).toNatClampNeg) ka (by decide) (by decide)) (FH.up fr9 (by decide) (by decide))) ((w9.1 0 5).toNatClampNeg) r11 (by decide) (by decide)) ((u10.1 0 5) + (1 : Int32)) (by decide))), (show 0 ≤ (0 : Int) ∧ (0 : Int) ≤ 1 ∧ 0 ≤ ((u10.1 8) (u10.1 0 5).toNatClampNeg).toInt ∧ ((u10.1 8) (u10.1 0 5).toNatClampNeg).toInt ≤ 4000 ∧ 0 ≤ ((u10.1 0 5) + (1 : Int32)).toInt ∧ ((u10.1 0 5) + (1 : Int32)).toInt ≤ 4001 from (om_39e2df0d30 zsz l1L9 l2L9 q8 z3 f1L15 z7 q12 q16 z15)), (show (0 : Int) = 0 ∨ (((u10.1 0 5) + (1 : Int32)).toInt ≤ ((u10.1 8) (u10.1 0 5).toNatClampNeg).toInt ∧ ((u10.1 8) (u10.1 0 5).toNatClampNeg).toInt ≤ (v.1 0 4).toInt) from om_0fceccfc7a), (show AR 7 0 4000 (wA (wA u10 6 ((w9.1 0 5).toNatClampNeg) r11) 0 5 ((u10.1 0 5) + (1 : Int32))) from (AR.o (AR.o (show AR 7 0 4000 u10 from AR.frH (fl := []) (al := [8, 10]) fr9 (by decide) (AR.w a7L9 (show 0 ≤ ka.toInt ∧ ka.toInt ≤ 4000 from (om_1d04a20c1e zsz l1L9 q8 f1L15 z7)))) (by decide)) (by decide))), (show AR 8 0 4000 (wA (wA u10 6 ((w9.1 0 5).toNatClampNeg) r11) 0 5 ((u10.1 0 5) + (1 : Int32))) from (AR.o (AR.o a89 (by decide)) (by decide))), (RT.st exL9 ⟨fwL9, l1L9, l2L9, z3, ka, bl, exL15, f1L15, z5, (Or.inl ⟨z7, r11, u10, ex9, ⟨fr9, pu9⟩, (Or.inl ⟨z14, rfl⟩)⟩)⟩), hP, hD, hS, lv_sub hl [1, 0, 3] rfl⟩
        · have z17 : (1 : Int) < ((upd (u10.1 6) ((w9.1 0 5).toNatClampNeg) r11) (u10.1 0 5).toNatClampNeg).toInt := nle_z rfl (show (1 : Int32).toInt = (1 : Int) by decide) h13
          refine lv_iconst (v := 1) hx hb dX13_cut_148 (by decide) ?_
          refine lv_goto (tgt := 153) hx hb dX13_cut_149 (by decide) ?_
          refine lv_istore_n (lv' := [(2, .int 1), (3, .int bl), (1, .int ka), (0, .ref (ad 0))]) hx hb dX13_cut_153 rfl hl (by decide) rfl (fun ls hl => ?_)
          refine lv_aload_n hx hb dX13_cut_154 rfl (lv_at hl 3 rfl) ?_
          refine va_get (D := (dC, dI)) (ci := 16) (fs := mF ad (wA u10 6 ((w9.1 0 5).toNatClampNeg) r11)) (v := .ref (ad 8)) (C := RX13) (T := TX13) (N := 124) hx hb ht itX13 hown hK hP 0 rfl rfl 8 (by decide) (ht _ tw_42) (fun _ h9 => h9) rfl dX13_cut_155 ?_
          refine lv_aload_n hx hb dX13_cut_158 rfl (lv_at hl 3 rfl) ?_
          refine va_get (D := (dC, dI)) (ci := 16) (fs := mF ad (wA u10 6 ((w9.1 0 5).toNatClampNeg) r11)) (v := .int (u10.1 0 5)) (C := RX13) (T := TX13) (N := 124) hx hb ht itX13 hown hK hP 0 rfl rfl 5 (by decide) (ht _ tw_283) (fun _ h9 => h9) rfl dX13_cut_159 ?_
          refine va_iald (D := (dC, dI)) (f := (u10.1 8)) hx hb hK hP 5 0 rfl rfl (in_y (a := (u10.1 0 5).toInt) (b := 4002) rfl (om_a92f1e423e l1L9 q12) (om_bba6cabf32 l1L9 q12) rfl) dX13_cut_162 ?_
          refine lv_istore_n (lv' := [(1, .int ((u10.1 8) (u10.1 0 5).toNatClampNeg)), (2, .int 1), (3, .int bl), (0, .ref (ad 0))]) hx hb dX13_cut_163 rfl hl (by decide) rfl (fun ls hl => ?_)
          refine lv_aload_n hx hb dX13_cut_164 rfl (lv_at hl 3 rfl) ?_
          refine lv_dup hx hb dX13_cut_165 rfl ?_
          refine va_get (D := (dC, dI)) (ci := 16) (fs := mF ad (wA u10 6 ((w9.1 0 5).toNatClampNeg) r11)) (v := .int (u10.1 0 5)) (C := RX13) (T := TX13) (N := 124) hx hb ht itX13 hown hK hP 0 rfl rfl 5 (by decide) (ht _ tw_283) (fun _ h9 => h9) rfl dX13_cut_166 ?_
          refine lv_iconst (v := 1) hx hb dX13_cut_169 (by decide) ?_
          refine lv_iadd hx hb dX13_cut_170 ?_
          have z18 : ((u10.1 0 5) + (1 : Int32)).toInt = ((u10.1 0 5).toInt) + (1 : Int) := add_z rfl (show (1 : Int32).toInt = (1 : Int) by decide) (om_6739522df0 l1L9 q12) (om_85cf2b78c8 l1L9 q12)
          refine va_put (D := (dC, dI)) (ci := 16) (fs := mF ad (wA u10 6 ((w9.1 0 5).toNatClampNeg) r11)) (v := .int ((u10.1 0 5) + (1 : Int32))) (ty := .int) (C := RX13) (T := TX13) (N := 124) hx hb ht itX13 tyX13 tyX13_ok nmX13 hown hK hP hD hS 0 rfl rfl 5 (by decide) (ht _ tw_283) (fun _ h9 => h9) rfl (by decide +kernel) rfl rfl (Nat.le_of_ble_eq_true rfl) dX13_cut_171 (fun H locs hP hD hS => ?_)
          have hP := cP_ (mw_5 ad N cI cZ cJ (wA u10 6 ((w9.1 0 5).toNatClampNeg) r11) ((u10.1 0 5) + (1 : Int32))) hP
          have hD := cD_ (mw_5 ad N cI cZ cJ (wA u10 6 ((w9.1 0 5).toNatClampNeg) r11) ((u10.1 0 5) + (1 : Int32))) hD
          refine lv_goto (tgt := 9) hx hb dX13_cut_174 (by decide) ?_
          have q19 : 0 ≤ ((u10.1 8) (u10.1 0 5).toNatClampNeg).toInt ∧ ((u10.1 8) (u10.1 0 5).toNatClampNeg).toInt ≤ 4000 := (show AR 8 0 4000 (wA u10 6 ((w9.1 0 5).toNatClampNeg) r11) from (AR.o a89 (by decide))) ((u10.1 0 5).toNatClampNeg)
          have q20 : ((upd (u10.1 6) ((w9.1 0 5).toNatClampNeg) r11) (u10.1 0 5).toNatClampNeg).toInt = r11.toInt := congrArg Int32.toInt ((congrArg (upd (u10.1 6) ((w9.1 0 5).toNatClampNeg) r11) (congrArg Int32.toNatClampNeg (fr9.2.1 5 (by decide)))).trans pk_us)
          exact ih9 (((u10.1 8) (u10.1 0 5).toNatClampNeg), 1, (wA (wA u10 6 ((w9.1 0 5).toNatClampNeg) r11) 0 5 ((u10.1 0 5) + (1 : Int32)))) _ _ _ (show (5000 * (1 : Int) + 4000 - ((u10.1 8) (u10.1 0 5).toNatClampNeg).toInt).toNat < (5000 * mo.toInt + 4000 - kx.toInt).toNat from tn_z (om_a3193a0035 l1L9 z3 f1L15 pu9 q20 z17) (om_0cb5937882 zsz l1L9 q8 f1L15 z7)) ⟨(show FH [5] [0, 6, 7, 8, 10] v (wA (wA u10 6 ((w9.1 0 5).toNatClampNeg) r11) 0 5 ((u10.1 0 5) + (1 : Int32))) from (FH.f (FH.a (FH.tr (FH.a (FH.tr (FH.rf _) (FH.up fwL9 (by decide) (by decide))) ((w9.1 0 5).toNatClampNeg) ka (by decide) (by decide)) (FH.up fr9 (by decide) (by decide))) ((w9.1 0 5).toNatClampNeg) r11 (by decide) (by decide)) ((u10.1 0 5) + (1 : Int32)) (by decide))), (show 0 ≤ (1 : Int) ∧ (1 : Int) ≤ 1 ∧ 0 ≤ ((u10.1 8) (u10.1 0 5).toNatClampNeg).toInt ∧ ((u10.1 8) (u10.1 0 5).toNatClampNeg).toInt ≤ 4000 ∧ 0 ≤ ((u10.1 0 5) + (1 : Int32)).toInt ∧ ((u10.1 0 5) + (1 : Int32)).toInt ≤ 4001 from (om_4b210f7d7d zsz l1L9 l2L9 q8 z3 f1L15 z7 q12 q19 z18)), (show (1 : Int) = 0 ∨ (((u10.1 0 5) + (1 : Int32)).toInt ≤ ((u10.1 8) (u10.1 0 5).toNatClampNeg).toInt ∧ ((u10.1 8) (u10.1 0 5).toNatClampNeg).toInt ≤ (v.1 0 4).toInt) from (om_4d9597aa04 l1L9 l2L9 q8 z3 f1L15 q12 pu9 q20 z17 z18)), (show AR 7 0 4000 (wA (wA u10 6 ((w9.1 0 5).toNatClampNeg) r11) 0 5 ((u10.1 0 5) + (1 : Int32))) from (AR.o (AR.o (show AR 7 0 4000 u10 from AR.frH (fl := []) (al := [8, 10]) fr9 (by decide) (AR.w a7L9 (show 0 ≤ ka.toInt ∧ ka.toInt ≤ 4000 from (om_1d04a20c1e zsz l1L9 q8 f1L15 z7)))) (by decide)) (by decide))), (show AR 8 0 4000 (wA (wA u10 6 ((w9.1 0 5).toNatClampNeg) r11) 0 5 ((u10.1 0 5) + (1 : Int32))) from (AR.o (AR.o a89 (by decide)) (by decide))), (RT.st exL9 ⟨fwL9, l1L9, l2L9, z3, ka, bl, exL15, f1L15, z5, (Or.inl ⟨z7, r11, u10, ex9, ⟨fr9, pu9⟩, (Or.inr (⟨z17, rfl⟩))⟩)⟩), hP, hD, hS, lv_sub hl [1, 0, 3] rfl⟩
      · have z21 : (w9.1 0 4).toInt ≤ ka.toInt := nlt_z rfl rfl h6
        refine lv_iconst (v := 0) hx hb dX13_cut_125 (by decide) ?_
        refine lv_goto (tgt := 134) hx hb dX13_cut_126 (by decide) ?_
        refine va_iast (D := (dC, dI)) (f := (w9.1 6)) hx hb hK hP hD hS 3 0 rfl rfl (in_y (a := (w9.1 0 5).toInt) (b := 4002) rfl (om_cc56a2c93a l1L9) (om_12f225dff8 l1L9) rfl) dX13_cut_134 (fun H locs hP hD hS => ?_)
        have hP := cP_ (ma_6 ad N cI cZ cJ (wA w9 7 ((w9.1 0 5).toNatClampNeg) ka) ((w9.1 0 5).toNatClampNeg) 0) hP
        have hD := cD_ (ma_6 ad N cI cZ cJ (wA w9 7 ((w9.1 0 5).toNatClampNeg) ka) ((w9.1 0 5).toNatClampNeg) 0) hD
        refine lv_aload_n hx hb dX13_cut_135 rfl (lv_at hl 3 rfl) ?_
        refine va_get (D := (dC, dI)) (ci := 16) (fs := mF ad (wA (wA w9 7 ((w9.1 0 5).toNatClampNeg) ka) 6 ((w9.1 0 5).toNatClampNeg) 0)) (v := .ref (ad 6)) (C := RX13) (T := TX13) (N := 124) hx hb ht itX13 hown hK hP 0 rfl rfl 6 (by decide) (ht _ tw_23) (fun _ h9 => h9) rfl dX13_cut_136 ?_
        refine lv_aload_n hx hb dX13_cut_139 rfl (lv_at hl 3 rfl) ?_
        refine va_get (D := (dC, dI)) (ci := 16) (fs := mF ad (wA (wA w9 7 ((w9.1 0 5).toNatClampNeg) ka) 6 ((w9.1 0 5).toNatClampNeg) 0)) (v := .int (w9.1 0 5)) (C := RX13) (T := TX13) (N := 124) hx hb ht itX13 hown hK hP 0 rfl rfl 5 (by decide) (ht _ tw_283) (fun _ h9 => h9) rfl dX13_cut_140 ?_
        refine va_iald (D := (dC, dI)) (f := (upd (w9.1 6) ((w9.1 0 5).toNatClampNeg) 0)) hx hb hK hP 3 0 rfl rfl (in_y (a := (w9.1 0 5).toInt) (b := 4002) rfl (om_cc56a2c93a l1L9) (om_12f225dff8 l1L9) rfl) dX13_cut_143 ?_
        refine lv_iconst (v := 1) hx hb dX13_cut_144 (by decide) ?_
        refine lv_icmp_le (tgt := 152) hx hb dX13_cut_145 (by decide) (fun h22 => ?_) (fun h22 => ?_)
        · have z23 : ((upd (w9.1 6) ((w9.1 0 5).toNatClampNeg) 0) (w9.1 0 5).toNatClampNeg).toInt ≤ (1 : Int) := le_z rfl (show (1 : Int32).toInt = (1 : Int) by decide) h22
          refine lv_iconst (v := 0) hx hb dX13_cut_152 (by decide) ?_
          refine lv_istore_n (lv' := [(2, .int 0), (3, .int bl), (1, .int ka), (0, .ref (ad 0))]) hx hb dX13_cut_153 rfl hl (by decide) rfl (fun ls hl => ?_)
          refine lv_aload_n hx hb dX13_cut_154 rfl (lv_at hl 3 rfl) ?_
          refine va_get (D := (dC, dI)) (ci := 16) (fs := mF ad (wA (wA w9 7 ((w9.1 0 5).toNatClampNeg) ka) 6 ((w9.1 0 5).toNatClampNeg) 0)) (v := .ref (ad 8)) (C := RX13) (T := TX13) (N := 124) hx hb ht itX13 hown hK hP 0 rfl rfl 8 (by decide) (ht _ tw_42) (fun _ h9 => h9) rfl dX13_cut_155 ?_
          refine lv_aload_n hx hb dX13_cut_158 rfl (lv_at hl 3 rfl) ?_
          refine va_get (D := (dC, dI)) (ci := 16) (fs := mF ad (wA (wA w9 7 ((w9.1 0 5).toNatClampNeg) ka) 6 ((w9.1 0 5).toNatClampNeg) 0)) (v := .int (w9.1 0 5)) (C := RX13) (T := TX13) (N := 124) hx hb ht itX13 hown hK hP 0 rfl rfl 5 (by decide) (ht _ tw_283) (fun _ h9 => h9) rfl dX13_cut_159 ?_
          refine va_iald (D := (dC, dI)) (f := (w9.1 8)) hx hb hK hP 5 0 rfl rfl (in_y (a := (w9.1 0 5).toInt) (b := 4002) rfl (om_cc56a2c93a l1L9) (om_12f225dff8 l1L9) rfl) dX13_cut_162 ?_
          refine lv_istore_n (lv' := [(1, .int ((w9.1 8) (w9.1 0 5).toNatClampNeg)), (2, .int 0), (3, .int bl), (0, .ref (ad 0))]) hx hb dX13_cut_163 rfl hl (by decide) rfl (fun ls hl => ?_)
          refine lv_aload_n hx hb dX13_cut_164 rfl (lv_at hl 3 rfl) ?_
          refine lv_dup hx hb dX13_cut_165 rfl ?_
          refine va_get (D := (dC, dI)) (ci := 16) (fs := mF ad (wA (wA w9 7 ((w9.1 0 5).toNatClampNeg) ka) 6 ((w9.1 0 5).toNatClampNeg) 0)) (v := .int (w9.1 0 5)) (C := RX13) (T := TX13) (N := 124) hx hb ht itX13 hown hK hP 0 rfl rfl 5 (by decide) (ht _ tw_283) (fun _ h9 => h9) rfl dX13_cut_166 ?_
          refine lv_iconst (v := 1) hx hb dX13_cut_169 (by decide) ?_
          refine lv_iadd hx hb dX13_cut_170 ?_
          have z24 : ((w9.1 0 5) + (1 : Int32)).toInt = ((w9.1 0 5).toInt) + (1 : Int) := add_z rfl (show (1 : Int32).toInt = (1 : Int) by decide) (om_ba93aec64d l1L9) (om_60ed2c6af4 l1L9)
          refine va_put (D := (dC, dI)) (ci := 16) (fs := mF ad (wA (wA w9 7 ((w9.1 0 5).toNatClampNeg) ka) 6 ((w9.1 0 5).toNatClampNeg) 0)) (v := .int ((w9.1 0 5) + (1 : Int32))) (ty := .int) (C := RX13) (T := TX13) (N := 124) hx hb ht itX13 tyX13 tyX13_ok nmX13 hown hK hP hD hS 0 rfl rfl 5 (by decide) (ht _ tw_283) (fun _ h9 => h9) rfl (by decide +kernel) rfl rfl (Nat.le_of_ble_eq_true rfl) dX13_cut_171 (fun H locs hP hD hS => ?_)
          have hP := cP_ (mw_5 ad N cI cZ cJ (wA (wA w9 7 ((w9.1 0 5).toNatClampNeg) ka) 6 ((w9.1 0 5).toNatClampNeg) 0) ((w9.1 0 5) + (1 : Int32))) hP
          have hD := cD_ (mw_5 ad N cI cZ cJ (wA (wA w9 7 ((w9.1 0 5).toNatClampNeg) ka) 6 ((w9.1 0 5).toNatClampNeg) 0) ((w9.1 0 5) + (1 : Int32))) hD
          refine lv_goto (tgt := 9) hx hb dX13_cut_174 (by decide) ?_
          have q25 : 0 ≤ ((w9.1 8) (w9.1 0 5).toNatClampNeg).toInt ∧ ((w9.1 8) (w9.1 0 5).toNatClampNeg).toInt ≤ 4000 := (show AR 8 0 4000 (wA (wA w9 7 ((w9.1 0 5).toNatClampNeg) ka) 6 ((w9.1 0 5).toNatClampNeg) 0) from (AR.o (AR.o a8L9 (by decide)) (by decide))) ((w9.1 0 5).toNatClampNeg)
          exact ih9 (((w9.1 8) (w9.1 0 5).toNatClampNeg), 0, (wA (wA (wA w9 7 ((w9.1 0 5).toNatClampNeg) ka) 6 ((w9.1 0 5).toNatClampNeg) 0) 0 5 ((w9.1 0 5) + (1 : Int32)))) _ _ _ (show (5000 * (0 : Int) + 4000 - ((w9.1 8) (w9.1 0 5).toNatClampNeg).toInt).toNat < (5000 * mo.toInt + 4000 - kx.toInt).toNat from tn_z (om_2ecfcf15f8 l1L9 z3 q25) (om_7cc8231cf4 l1L9 z3)) ⟨(show FH [5] [0, 6, 7, 8, 10] v (wA (wA (wA w9 7 ((w9.1 0 5).toNatClampNeg) ka) 6 ((w9.1 0 5).toNatClampNeg) 0) 0 5 ((w9.1 0 5) + (1 : Int32))) from (FH.f (FH.a (FH.a (FH.tr (FH.rf _) (FH.up fwL9 (by decide) (by decide))) ((w9.1 0 5).toNatClampNeg) ka (by decide) (by decide)) ((w9.1 0 5).toNatClampNeg) 0 (by decide) (by decide)) ((w9.1 0 5) + (1 : Int32)) (by decide))), (show 0 ≤ (0 : Int) ∧ (0 : Int) ≤ 1 ∧ 0 ≤ ((w9.1 8) (w9.1 0 5).toNatClampNeg).toInt ∧ ((w9.1 8) (w9.1 0 5).toNatClampNeg).toInt ≤ 4000 ∧ 0 ≤ ((w9.1 0 5) + (1 : Int32)).toInt ∧ ((w9.1 0 5) + (1 : Int32)).toInt ≤ 4001 from (om_9ea4f2bb94 l1L9 l2L9 z3 q25 z24)), (show (0 : Int) = 0 ∨ (((w9.1 0 5) + (1 : Int32)).toInt ≤ ((w9.1 8) (w9.1 0 5).toNatClampNeg).toInt ∧ ((w9.1 8) (w9.1 0 5).toNatClampNeg).toInt ≤ (v.1 0 4).toInt) from om_0fceccfc7a), (show AR 7 0 4000 (wA (wA (wA w9 7 ((w9.1 0 5).toNatClampNeg) ka) 6 ((w9.1 0 5).toNatClampNeg) 0) 0 5 ((w9.1 0 5) + (1 : Int32))) from (AR.o (AR.o (AR.w a7L9 (show 0 ≤ ka.toInt ∧ ka.toInt ≤ 4000 from (om_78b4824dd1 zsz l1L9 f1L15))) (by decide)) (by decide))), (show AR 8 0 4000 (wA (wA (wA w9 7 ((w9.1 0 5).toNatClampNeg) ka) 6 ((w9.1 0 5).toNatClampNeg) 0) 0 5 ((w9.1 0 5) + (1 : Int32))) from (AR.o (AR.o (AR.o a8L9 (by decide)) (by decide)) (by decide))), (RT.st exL9 ⟨fwL9, l1L9, l2L9, z3, ka, bl, exL15, f1L15, z5, (Or.inr (⟨z21, z23, rfl⟩))⟩), hP, hD, hS, lv_sub hl [1, 0, 3] rfl⟩
        · have z26 : (1 : Int) < ((upd (w9.1 6) ((w9.1 0 5).toNatClampNeg) 0) (w9.1 0 5).toNatClampNeg).toInt := nle_z rfl (show (1 : Int32).toInt = (1 : Int) by decide) h22
          have q27 : ((upd (w9.1 6) ((w9.1 0 5).toNatClampNeg) 0) (w9.1 0 5).toNatClampNeg).toInt = (0 : Int) := congrArg Int32.toInt pk_us
          exact False.elim (om_f49a95655e q27 z26)
    · have z28 : bl.toInt ≠ (0 : Int) := ne_z rfl (show (0 : Int32).toInt = (0 : Int) by decide) h4
      refine lv_iconst (v := 0) hx hb dX13_cut_19 (by decide) ?_
      refine lv_istore_n (lv' := [(3, .int 0), (2, .int mo), (1, .int ka), (0, .ref (ad 0))]) hx hb dX13_cut_20 rfl hl (by decide) rfl (fun ls hl => ?_)
      refine lpm_ (X := Int32) (P := (fun (x9 : Int32) (H : Heap) (locs : List Loc) (ls : Array Slot) => (ka.toInt ≤ x9.toInt ∧ x9.toInt ≤ (v.1 0 4).toInt) ∧ (RT (Q_m_cut_L2 v ka w9) ka x9) ∧ va_P (dC, dI) vwCl (mW ad N cI cZ cJ w9) H ∧ va_D A (mW ad N cI cZ cJ w9) ∧ va_S A s.heap H locs ∧ lv_has ls 4 [(3, .int 0), (2, .int mo), (1, .int x9), (0, .ref (ad 0))])) (fun x9 => (4000 - x9.toInt).toNat) 21 (fun kc H locs ls hh ih21 => ?_) ka _ _ _ ⟨(show ka.toInt ≤ ka.toInt ∧ ka.toInt ≤ (v.1 0 4).toInt from (om_049e80ac2c f1L15)), RT.rf, hP, hD, hS, lv_sub hl [0, 1, 2, 3] rfl⟩
      obtain ⟨f1L21, exL21, hP, hD, hS, hl⟩ := hh
      have f1L21 : ka.toInt ≤ kc.toInt ∧ kc.toInt ≤ (v.1 0 4).toInt := f1L21
      have hl : lv_has ls 4 [(3, .int 0), (2, .int mo), (1, .int kc), (0, .ref (ad 0))] := hl
      refine lv_iload_n hx hb dX13_cut_21 rfl (lv_at hl 2 rfl) ?_
      refine lv_aload_n hx hb dX13_cut_22 rfl (lv_at hl 3 rfl) ?_
      refine va_get (D := (dC, dI)) (ci := 16) (fs := mF ad w9) (v := .int (w9.1 0 4)) (C := RX13) (T := TX13) (N := 124) hx hb ht itX13 hown hK hP 0 rfl rfl 4 (by decide) (ht _ tw_271) (fun _ h9 => h9) rfl dX13_cut_23 ?_
      refine lv_icmp_ge (tgt := 47) hx hb dX13_cut_26 (by decide) (fun h29 => ?_) (fun h29 => ?_)
      · have z30 : (w9.1 0 4).toInt ≤ kc.toInt := le_z rfl rfl h29
        refine lv_aload_n hx hb dX13_cut_47 rfl (lv_at hl 3 rfl) ?_
        refine lv_iload_n hx hb dX13_cut_48 rfl (lv_at hl 2 rfl) ?_
        have q31 : (w9.1 0 4).toInt = (v.1 0 4).toInt := congrArg Int32.toInt ((fwL9.2.1 4 (by decide)).trans (show v.1 0 4 = (v.1 0 4) by rfl))
        refine cu_i (rn_V (n := 1) (As := [.int kc]) (rest := []) hx hb hml hown ht hKK hFx hP hD hS hA (c_m_at2 l dC dI cI cB cZ cJ cR tb H.size ad N w9 kc (show 0 ≤ (w9.1 0 4).toInt ∧ (w9.1 0 4).toInt ≤ 4000 from (om_9084c127ed zsz q31)) (show 0 ≤ kc.toInt from (om_600679d6fc l1L9 f1L15 f1L21))) tw_284 tw_285 (by decide +kernel) rfl rfl ⟨Nat.le_of_ble_eq_true rfl, Nat.le_of_ble_eq_true rfl⟩ (List.range (mW ad N cI cZ cJ w9).length) (rg_map _) (mW_nd _ _ _ _ _ _) rfl rfl rfl rfl hl.1 rfl (Nat.le_of_ble_eq_true rfl) dX13_cut_49 ⟨Nat.le_of_ble_eq_true rfl, Nat.le_of_ble_eq_true rfl⟩) hP hD hS hA (fun r34 u33 H locs hw32 hP hD hS => ?_)
        obtain ⟨rfl, ex32, c32⟩ := hw32
        have c32 : ((kc.toInt < (w9.1 0 4).toInt ∧ r34.toInt = ((w9.1 3) kc.toNatClampNeg).toInt) ∨ ((w9.1 0 4).toInt ≤ kc.toInt ∧ r34.toInt = 0)) := c32
        refine W.widen (k := 0) (n := 0) (Nat.le_refl _) (Nat.le_refl _) ?_
        refine lv_bipush (v := 47) hx hb dX13_cut_52 (by decide) ?_
        refine lv_icmp_ne (tgt := 15) hx hb dX13_cut_54 (by decide) (fun h35 => ?_) (fun h35 => ?_)
        · have z36 : r34.toInt ≠ (47 : Int) := ne_z rfl (show (47 : Int32).toInt = (47 : Int) by decide) h35
          exact ih15 (kc, 0) _ _ _ (show (5000 * (0 : Int) + 4000 - kc.toInt).toNat < (5000 * bl.toInt + 4000 - ka.toInt).toNat from tn_z (om_998418424b f1L15 z28 f1L21) (om_988011e091 zsz f1L15 z28)) ⟨(show 0 ≤ (0 : Int) ∧ (0 : Int) ≤ 1 ∧ kx.toInt ≤ kc.toInt ∧ kc.toInt ≤ (v.1 0 4).toInt from (om_ff71a1f8d9 f1L15 f1L21)), (RT.st exL15 ⟨f1L15, z28, kc, exL21, f1L21, (Or.inl ⟨z30, r34, ex32, c32, (Or.inl ⟨z36, rfl⟩)⟩)⟩), hP, hD, hS, lv_sub hl [0, 1, 2, 3] rfl⟩
        · have z37 : r34.toInt = (47 : Int) := eq_z rfl (show (47 : Int32).toInt = (47 : Int) by decide) h35
          refine lv_aload_n hx hb dX13_cut_57 rfl (lv_at hl 3 rfl) ?_
          refine lv_iload_n hx hb dX13_cut_58 rfl (lv_at hl 2 rfl) ?_
          refine lv_iconst (v := 1) hx hb dX13_cut_59 (by decide) ?_
          refine lv_iadd hx hb dX13_cut_60 ?_
          have z38 : (kc + (1 : Int32)).toInt = kc.toInt + (1 : Int) := add_z rfl (show (1 : Int32).toInt = (1 : Int) by decide) (om_f404b9eaa0 zsz q31 z30) (om_15d7dcfe30 zsz f1L21)
          refine cu_i (rn_V (n := 1) (As := [.int (kc + (1 : Int32))]) (rest := []) hx hb hml hown ht hKK hFx hP hD hS hA (c_m_at2 l dC dI cI cB cZ cJ cR tb H.size ad N w9 (kc + (1 : Int32)) (show 0 ≤ (w9.1 0 4).toInt ∧ (w9.1 0 4).toInt ≤ 4000 from (om_9084c127ed zsz q31)) (show 0 ≤ (kc + (1 : Int32)).toInt from (om_c8c6eee402 l1L9 f1L15 f1L21 z38))) tw_284 tw_285 (by decide +kernel) rfl rfl ⟨Nat.le_of_ble_eq_true rfl, Nat.le_of_ble_eq_true rfl⟩ (List.range (mW ad N cI cZ cJ w9).length) (rg_map _) (mW_nd _ _ _ _ _ _) rfl rfl rfl rfl hl.1 rfl (Nat.le_of_ble_eq_true rfl) dX13_cut_61 ⟨Nat.le_of_ble_eq_true rfl, Nat.le_of_ble_eq_true rfl⟩) hP hD hS hA (fun r41 u40 H locs hw39 hP hD hS => ?_)
          obtain ⟨rfl, ex39, c39⟩ := hw39
          have c39 : (((kc + (1 : Int32)).toInt < (w9.1 0 4).toInt ∧ r41.toInt = ((w9.1 3) (kc + (1 : Int32)).toNatClampNeg).toInt) ∨ ((w9.1 0 4).toInt ≤ (kc + (1 : Int32)).toInt ∧ r41.toInt = 0)) := c39
          refine W.widen (k := 0) (n := 0) (Nat.le_refl _) (Nat.le_refl _) ?_
          refine lv_bipush (v := 47) hx hb dX13_cut_64 (by decide) ?_
          refine lv_icmp_ne (tgt := 15) hx hb dX13_cut_66 (by decide) (fun h42 => ?_) (fun h42 => ?_)
          · have z43 : r41.toInt ≠ (47 : Int) := ne_z rfl (show (47 : Int32).toInt = (47 : Int) by decide) h42
            exact ih15 (kc, 0) _ _ _ (show (5000 * (0 : Int) + 4000 - kc.toInt).toNat < (5000 * bl.toInt + 4000 - ka.toInt).toNat from tn_z (om_998418424b f1L15 z28 f1L21) (om_988011e091 zsz f1L15 z28)) ⟨(show 0 ≤ (0 : Int) ∧ (0 : Int) ≤ 1 ∧ kx.toInt ≤ kc.toInt ∧ kc.toInt ≤ (v.1 0 4).toInt from (om_ff71a1f8d9 f1L15 f1L21)), (RT.st exL15 ⟨f1L15, z28, kc, exL21, f1L21, (Or.inl ⟨z30, r34, ex32, c32, (Or.inr (⟨z37, r41, ex39, c39, (Or.inl ⟨z43, rfl⟩)⟩))⟩)⟩), hP, hD, hS, lv_sub hl [0, 1, 2, 3] rfl⟩
          · have z44 : r41.toInt = (47 : Int) := eq_z rfl (show (47 : Int32).toInt = (47 : Int) by decide) h42
            refine lpm_ (X := Int32) (P := (fun (x9 : Int32) (H : Heap) (locs : List Loc) (ls : Array Slot) => (kc.toInt ≤ x9.toInt ∧ x9.toInt ≤ (v.1 0 4).toInt) ∧ (x9.toInt ≠ kc.toInt ∨ (((w9.1 3) x9.toNatClampNeg).toInt = 47 ∧ x9.toInt < (v.1 0 4).toInt)) ∧ (RT (Q_m_cut_L3) kc x9) ∧ va_P (dC, dI) vwCl (mW ad N cI cZ cJ w9) H ∧ va_D A (mW ad N cI cZ cJ w9) ∧ va_S A s.heap H locs ∧ lv_has ls 4 [(3, .int 0), (2, .int mo), (1, .int x9), (0, .ref (ad 0))])) (fun x9 => (4000 - x9.toInt).toNat) 69 (fun kd H locs ls hh ih69 => ?_) kc _ _ _ ⟨(show kc.toInt ≤ kc.toInt ∧ kc.toInt ≤ (v.1 0 4).toInt from (om_3355f9889f f1L21)), (show kc.toInt ≠ kc.toInt ∨ (((w9.1 3) kc.toNatClampNeg).toInt = 47 ∧ kc.toInt < (v.1 0 4).toInt) from (om_5c1a12ab96 z30 c32 z37)), RT.rf, hP, hD, hS, lv_sub hl [0, 1, 2, 3] rfl⟩
            obtain ⟨f1L69, f2L69, exL69, hP, hD, hS, hl⟩ := hh
            have f1L69 : kc.toInt ≤ kd.toInt ∧ kd.toInt ≤ (v.1 0 4).toInt := f1L69
            have f2L69 : kd.toInt ≠ kc.toInt ∨ (((w9.1 3) kd.toNatClampNeg).toInt = 47 ∧ kd.toInt < (v.1 0 4).toInt) := f2L69
            have hl : lv_has ls 4 [(3, .int 0), (2, .int mo), (1, .int kd), (0, .ref (ad 0))] := hl
            refine lv_iload_n hx hb dX13_cut_69 rfl (lv_at hl 2 rfl) ?_
            refine lv_aload_n hx hb dX13_cut_70 rfl (lv_at hl 3 rfl) ?_
            refine va_get (D := (dC, dI)) (ci := 16) (fs := mF ad w9) (v := .int (w9.1 0 4)) (C := RX13) (T := TX13) (N := 124) hx hb ht itX13 hown hK hP 0 rfl rfl 4 (by decide) (ht _ tw_271) (fun _ h9 => h9) rfl dX13_cut_71 ?_
            refine lv_icmp_ge (tgt := 94) hx hb dX13_cut_74 (by decide) (fun h45 => ?_) (fun h45 => ?_)
            · have z46 : (w9.1 0 4).toInt ≤ kd.toInt := le_z rfl rfl h45
              refine lv_iconst (v := 1) hx hb dX13_cut_94 (by decide) ?_
              refine lv_istore_n (lv' := [(3, .int 1), (2, .int mo), (1, .int kd), (0, .ref (ad 0))]) hx hb dX13_cut_95 rfl hl (by decide) rfl (fun ls hl => ?_)
              refine lv_goto (tgt := 15) hx hb dX13_cut_96 (by decide) ?_
              exact ih15 (kd, 1) _ _ _ (show (5000 * (1 : Int) + 4000 - kd.toInt).toNat < (5000 * bl.toInt + 4000 - ka.toInt).toNat from tn_z (om_9cc608ffb8 z30 c32 z37) (om_988011e091 zsz f1L15 z28)) ⟨(show 0 ≤ (1 : Int) ∧ (1 : Int) ≤ 1 ∧ kx.toInt ≤ kd.toInt ∧ kd.toInt ≤ (v.1 0 4).toInt from (om_5efa97375c f1L15 f1L21 f1L69)), (RT.st exL15 ⟨f1L15, z28, kc, exL21, f1L21, (Or.inl ⟨z30, r34, ex32, c32, (Or.inr (⟨z37, r41, ex39, c39, (Or.inr (⟨z44, kd, exL69, f1L69, f2L69, z46, rfl⟩))⟩))⟩)⟩), hP, hD, hS, lv_sub hl [0, 1, 2, 3] rfl⟩
            · have z47 : kd.toInt < (w9.1 0 4).toInt := nle_z rfl rfl h45
              exact False.elim (om_a7618bf7d4 z30 f1L69 z47)
      · have z48 : kc.toInt < (w9.1 0 4).toInt := nle_z rfl rfl h29
        refine lv_aload_n hx hb dX13_cut_29 rfl (lv_at hl 3 rfl) ?_
        refine va_get (D := (dC, dI)) (ci := 16) (fs := mF ad w9) (v := .ref (ad 3)) (C := RX13) (T := TX13) (N := 124) hx hb ht itX13 hown hK hP 0 rfl rfl 3 (by decide) (ht _ tw_43) (fun _ h9 => h9) rfl dX13_cut_30 ?_
        refine lv_iload_n hx hb dX13_cut_33 rfl (lv_at hl 2 rfl) ?_
        have q49 : (w9.1 0 4).toInt = (v.1 0 4).toInt := congrArg Int32.toInt ((fwL9.2.1 4 (by decide)).trans (show v.1 0 4 = (v.1 0 4) by rfl))
        refine va_iald (D := (dC, dI)) (f := (w9.1 3)) hx hb hK hP 2 0 rfl rfl (in_y (a := kc.toInt) (b := 4000) rfl (om_600679d6fc l1L9 f1L15 f1L21) (om_6ab4456ead zsz q49 z48) rfl) dX13_cut_34 ?_
        refine cu_s (mW_nd _ _ _ _ _ _) (rn_S (n := 1) (As := [.int ((w9.1 3) kc.toNatClampNeg)]) (rest := []) hx hb hml hown ht hKK hFx hP hD hS hA (c_m_isBlank l dC dI cI cB cZ cJ cR tb H.size ((w9.1 3) kc.toNatClampNeg) ) tw_301 tw_302 (by decide +kernel) rfl rfl ⟨Nat.le_of_ble_eq_true rfl, Nat.le_of_ble_eq_true rfl⟩ [] rfl rfl rfl hl.1 rfl (Nat.le_of_ble_eq_true rfl) dX13_cut_35 ⟨Nat.le_of_ble_eq_true rfl, Nat.le_of_ble_eq_true rfl⟩) hP hD hS hA (fun r52 H locs hw50 hP hD hS => ?_)
        obtain ⟨ex50, b50, c50⟩ := hw50
        have b50 : (r52 = 0 ∨ r52 = 1) := b50
        have c50 : (r52.toInt = 0 ∨ ((w9.1 3) kc.toNatClampNeg).toInt ≠ 0) := c50
        refine W.widen (k := 0) (n := 0) (Nat.le_refl _) (Nat.le_refl _) ?_
        refine lv_if_eq (tgt := 47) hx hb dX13_cut_38 (by decide) (fun h53 => ?_) (fun h53 => ?_)
        · have z54 : r52.toInt = (0 : Int) := eq_z rfl (show (0 : Int32).toInt = (0 : Int) by decide) h53
          refine lv_aload_n hx hb dX13_cut_47 rfl (lv_at hl 3 rfl) ?_
          refine lv_iload_n hx hb dX13_cut_48 rfl (lv_at hl 2 rfl) ?_
          refine cu_i (rn_V (n := 1) (As := [.int kc]) (rest := []) hx hb hml hown ht hKK hFx hP hD hS hA (c_m_at2 l dC dI cI cB cZ cJ cR tb H.size ad N w9 kc (show 0 ≤ (w9.1 0 4).toInt ∧ (w9.1 0 4).toInt ≤ 4000 from (om_a7aa034acb zsz l1L9 q49 f1L15 f1L21 z48)) (show 0 ≤ kc.toInt from (om_600679d6fc l1L9 f1L15 f1L21))) tw_284 tw_285 (by decide +kernel) rfl rfl ⟨Nat.le_of_ble_eq_true rfl, Nat.le_of_ble_eq_true rfl⟩ (List.range (mW ad N cI cZ cJ w9).length) (rg_map _) (mW_nd _ _ _ _ _ _) rfl rfl rfl rfl hl.1 rfl (Nat.le_of_ble_eq_true rfl) dX13_cut_49 ⟨Nat.le_of_ble_eq_true rfl, Nat.le_of_ble_eq_true rfl⟩) hP hD hS hA (fun r57 u56 H locs hw55 hP hD hS => ?_)
          obtain ⟨rfl, ex55, c55⟩ := hw55
          have c55 : ((kc.toInt < (w9.1 0 4).toInt ∧ r57.toInt = ((w9.1 3) kc.toNatClampNeg).toInt) ∨ ((w9.1 0 4).toInt ≤ kc.toInt ∧ r57.toInt = 0)) := c55
          refine W.widen (k := 0) (n := 0) (Nat.le_refl _) (Nat.le_refl _) ?_
          refine lv_bipush (v := 47) hx hb dX13_cut_52 (by decide) ?_
          refine lv_icmp_ne (tgt := 15) hx hb dX13_cut_54 (by decide) (fun h58 => ?_) (fun h58 => ?_)
          · have z59 : r57.toInt ≠ (47 : Int) := ne_z rfl (show (47 : Int32).toInt = (47 : Int) by decide) h58
            exact ih15 (kc, 0) _ _ _ (show (5000 * (0 : Int) + 4000 - kc.toInt).toNat < (5000 * bl.toInt + 4000 - ka.toInt).toNat from tn_z (om_998418424b f1L15 z28 f1L21) (om_21040c036b zsz q49 f1L15 f1L21 z48)) ⟨(show 0 ≤ (0 : Int) ∧ (0 : Int) ≤ 1 ∧ kx.toInt ≤ kc.toInt ∧ kc.toInt ≤ (v.1 0 4).toInt from (om_34b7f94d8b q49 f1L15 f1L21 z48)), (RT.st exL15 ⟨f1L15, z28, kc, exL21, f1L21, (Or.inr (⟨z48, r52, ex50, ⟨b50, c50⟩, z54, r57, ex55, c55, (Or.inl ⟨z59, rfl⟩)⟩))⟩), hP, hD, hS, lv_sub hl [0, 1, 2, 3] rfl⟩
          · have z60 : r57.toInt = (47 : Int) := eq_z rfl (show (47 : Int32).toInt = (47 : Int) by decide) h58
            refine lv_aload_n hx hb dX13_cut_57 rfl (lv_at hl 3 rfl) ?_
            refine lv_iload_n hx hb dX13_cut_58 rfl (lv_at hl 2 rfl) ?_
            refine lv_iconst (v := 1) hx hb dX13_cut_59 (by decide) ?_
            refine lv_iadd hx hb dX13_cut_60 ?_
            have z61 : (kc + (1 : Int32)).toInt = kc.toInt + (1 : Int) := add_z rfl (show (1 : Int32).toInt = (1 : Int) by decide) (om_50da948930 l1L9 f1L15 f1L21) (om_15d7dcfe30 zsz f1L21)
            refine cu_i (rn_V (n := 1) (As := [.int (kc + (1 : Int32))]) (rest := []) hx hb hml hown ht hKK hFx hP hD hS hA (c_m_at2 l dC dI cI cB cZ cJ cR tb H.size ad N w9 (kc + (1 : Int32)) (show 0 ≤ (w9.1 0 4).toInt ∧ (w9.1 0 4).toInt ≤ 4000 from (om_a7aa034acb zsz l1L9 q49 f1L15 f1L21 z48)) (show 0 ≤ (kc + (1 : Int32)).toInt from (om_c8c6eee402 l1L9 f1L15 f1L21 z61))) tw_284 tw_285 (by decide +kernel) rfl rfl ⟨Nat.le_of_ble_eq_true rfl, Nat.le_of_ble_eq_true rfl⟩ (List.range (mW ad N cI cZ cJ w9).length) (rg_map _) (mW_nd _ _ _ _ _ _) rfl rfl rfl rfl hl.1 rfl (Nat.le_of_ble_eq_true rfl) dX13_cut_61 ⟨Nat.le_of_ble_eq_true rfl, Nat.le_of_ble_eq_true rfl⟩) hP hD hS hA (fun r64 u63 H locs hw62 hP hD hS => ?_)
            obtain ⟨rfl, ex62, c62⟩ := hw62
            have c62 : (((kc + (1 : Int32)).toInt < (w9.1 0 4).toInt ∧ r64.toInt = ((w9.1 3) (kc + (1 : Int32)).toNatClampNeg).toInt) ∨ ((w9.1 0 4).toInt ≤ (kc + (1 : Int32)).toInt ∧ r64.toInt = 0)) := c62
            refine W.widen (k := 0) (n := 0) (Nat.le_refl _) (Nat.le_refl _) ?_
            refine lv_bipush (v := 47) hx hb dX13_cut_64 (by decide) ?_
            refine lv_icmp_ne (tgt := 15) hx hb dX13_cut_66 (by decide) (fun h65 => ?_) (fun h65 => ?_)
            · have z66 : r64.toInt ≠ (47 : Int) := ne_z rfl (show (47 : Int32).toInt = (47 : Int) by decide) h65
              exact ih15 (kc, 0) _ _ _ (show (5000 * (0 : Int) + 4000 - kc.toInt).toNat < (5000 * bl.toInt + 4000 - ka.toInt).toNat from tn_z (om_998418424b f1L15 z28 f1L21) (om_21040c036b zsz q49 f1L15 f1L21 z48)) ⟨(show 0 ≤ (0 : Int) ∧ (0 : Int) ≤ 1 ∧ kx.toInt ≤ kc.toInt ∧ kc.toInt ≤ (v.1 0 4).toInt from (om_34b7f94d8b q49 f1L15 f1L21 z48)), (RT.st exL15 ⟨f1L15, z28, kc, exL21, f1L21, (Or.inr (⟨z48, r52, ex50, ⟨b50, c50⟩, z54, r57, ex55, c55, (Or.inr (⟨z60, r64, ex62, c62, (Or.inl ⟨z66, rfl⟩)⟩))⟩))⟩), hP, hD, hS, lv_sub hl [0, 1, 2, 3] rfl⟩
            · have z67 : r64.toInt = (47 : Int) := eq_z rfl (show (47 : Int32).toInt = (47 : Int) by decide) h65
              refine lpm_ (X := Int32) (P := (fun (x9 : Int32) (H : Heap) (locs : List Loc) (ls : Array Slot) => (kc.toInt ≤ x9.toInt ∧ x9.toInt ≤ (v.1 0 4).toInt) ∧ (x9.toInt ≠ kc.toInt ∨ (((w9.1 3) x9.toNatClampNeg).toInt = 47 ∧ x9.toInt < (v.1 0 4).toInt)) ∧ (RT (Q_m_cut_L4 v kc w9) kc x9) ∧ va_P (dC, dI) vwCl (mW ad N cI cZ cJ w9) H ∧ va_D A (mW ad N cI cZ cJ w9) ∧ va_S A s.heap H locs ∧ lv_has ls 4 [(3, .int 0), (2, .int mo), (1, .int x9), (0, .ref (ad 0))])) (fun x9 => (4000 - x9.toInt).toNat) 69 (fun kd H locs ls hh ih69 => ?_) kc _ _ _ ⟨(show kc.toInt ≤ kc.toInt ∧ kc.toInt ≤ (v.1 0 4).toInt from (om_0fe97cfa59 q49 z48)), (show kc.toInt ≠ kc.toInt ∨ (((w9.1 3) kc.toNatClampNeg).toInt = 47 ∧ kc.toInt < (v.1 0 4).toInt) from (om_4bd04670c2 q49 z48 c55 z60)), RT.rf, hP, hD, hS, lv_sub hl [0, 1, 2, 3] rfl⟩
              obtain ⟨f1L69, f2L69, exL69, hP, hD, hS, hl⟩ := hh
              have f1L69 : kc.toInt ≤ kd.toInt ∧ kd.toInt ≤ (v.1 0 4).toInt := f1L69
              have f2L69 : kd.toInt ≠ kc.toInt ∨ (((w9.1 3) kd.toNatClampNeg).toInt = 47 ∧ kd.toInt < (v.1 0 4).toInt) := f2L69
              have hl : lv_has ls 4 [(3, .int 0), (2, .int mo), (1, .int kd), (0, .ref (ad 0))] := hl
              refine lv_iload_n hx hb dX13_cut_69 rfl (lv_at hl 2 rfl) ?_
              refine lv_aload_n hx hb dX13_cut_70 rfl (lv_at hl 3 rfl) ?_
              refine va_get (D := (dC, dI)) (ci := 16) (fs := mF ad w9) (v := .int (w9.1 0 4)) (C := RX13) (T := TX13) (N := 124) hx hb ht itX13 hown hK hP 0 rfl rfl 4 (by decide) (ht _ tw_271) (fun _ h9 => h9) rfl dX13_cut_71 ?_
              refine lv_icmp_ge (tgt := 94) hx hb dX13_cut_74 (by decide) (fun h68 => ?_) (fun h68 => ?_)
              · have z69 : (w9.1 0 4).toInt ≤ kd.toInt := le_z rfl rfl h68
                refine lv_iconst (v := 1) hx hb dX13_cut_94 (by decide) ?_
                refine lv_istore_n (lv' := [(3, .int 1), (2, .int mo), (1, .int kd), (0, .ref (ad 0))]) hx hb dX13_cut_95 rfl hl (by decide) rfl (fun ls hl => ?_)
                refine lv_goto (tgt := 15) hx hb dX13_cut_96 (by decide) ?_
                exact ih15 (kd, 1) _ _ _ (show (5000 * (1 : Int) + 4000 - kd.toInt).toNat < (5000 * bl.toInt + 4000 - ka.toInt).toNat from tn_z (om_e424f6e703 f1L15 z28 f1L21 z48 z69) (om_21040c036b zsz q49 f1L15 f1L21 z48)) ⟨(show 0 ≤ (1 : Int) ∧ (1 : Int) ≤ 1 ∧ kx.toInt ≤ kd.toInt ∧ kd.toInt ≤ (v.1 0 4).toInt from (om_d49618ff7b f1L15 f1L21 z48 f1L69 z69)), (RT.st exL15 ⟨f1L15, z28, kc, exL21, f1L21, (Or.inr (⟨z48, r52, ex50, ⟨b50, c50⟩, z54, r57, ex55, c55, (Or.inr (⟨z60, r64, ex62, c62, (Or.inr (⟨z67, kd, exL69, f1L69, f2L69, (Or.inl ⟨z69, rfl⟩)⟩))⟩))⟩))⟩), hP, hD, hS, lv_sub hl [0, 1, 2, 3] rfl⟩
              · have z70 : kd.toInt < (w9.1 0 4).toInt := nle_z rfl rfl h68
                refine lv_aload_n hx hb dX13_cut_77 rfl (lv_at hl 3 rfl) ?_
                refine va_get (D := (dC, dI)) (ci := 16) (fs := mF ad w9) (v := .ref (ad 3)) (C := RX13) (T := TX13) (N := 124) hx hb ht itX13 hown hK hP 0 rfl rfl 3 (by decide) (ht _ tw_43) (fun _ h9 => h9) rfl dX13_cut_78 ?_
                refine lv_iload_n hx hb dX13_cut_81 rfl (lv_at hl 2 rfl) ?_
                refine va_iald (D := (dC, dI)) (f := (w9.1 3)) hx hb hK hP 2 0 rfl rfl (in_y (a := kd.toInt) (b := 4000) rfl (om_9c5cbba480 l1L9 f1L15 f1L21 f1L69) (om_6ab4456ead zsz q49 z70) rfl) dX13_cut_82 ?_
                refine lv_bipush (v := 10) hx hb dX13_cut_83 (by decide) ?_
                refine lv_icmp_eq (tgt := 94) hx hb dX13_cut_85 (by decide) (fun h71 => ?_) (fun h71 => ?_)
                · have z72 : ((w9.1 3) kd.toNatClampNeg).toInt = (10 : Int) := eq_z rfl (show (10 : Int32).toInt = (10 : Int) by decide) h71
                  refine lv_iconst (v := 1) hx hb dX13_cut_94 (by decide) ?_
                  refine lv_istore_n (lv' := [(3, .int 1), (2, .int mo), (1, .int kd), (0, .ref (ad 0))]) hx hb dX13_cut_95 rfl hl (by decide) rfl (fun ls hl => ?_)
                  refine lv_goto (tgt := 15) hx hb dX13_cut_96 (by decide) ?_
                  exact ih15 (kd, 1) _ _ _ (show (5000 * (1 : Int) + 4000 - kd.toInt).toNat < (5000 * bl.toInt + 4000 - ka.toInt).toNat from tn_z (om_ae7b0800e7 f1L15 z28 f1L21 f1L69 f2L69 z72) (om_21040c036b zsz q49 f1L15 f1L21 z48)) ⟨(show 0 ≤ (1 : Int) ∧ (1 : Int) ≤ 1 ∧ kx.toInt ≤ kd.toInt ∧ kd.toInt ≤ (v.1 0 4).toInt from (om_593f583828 q49 f1L15 f1L21 f1L69 z70)), (RT.st exL15 ⟨f1L15, z28, kc, exL21, f1L21, (Or.inr (⟨z48, r52, ex50, ⟨b50, c50⟩, z54, r57, ex55, c55, (Or.inr (⟨z60, r64, ex62, c62, (Or.inr (⟨z67, kd, exL69, f1L69, f2L69, (Or.inr (⟨z70, z72, rfl⟩))⟩))⟩))⟩))⟩), hP, hD, hS, lv_sub hl [0, 1, 2, 3] rfl⟩
                · have z73 : ((w9.1 3) kd.toNatClampNeg).toInt ≠ (10 : Int) := ne_z rfl (show (10 : Int32).toInt = (10 : Int) by decide) h71
                  refine lv_iinc (v := (kd + (1 : Int32))) (lv' := [(1, .int (kd + (1 : Int32))), (3, .int 0), (2, .int mo), (0, .ref (ad 0))]) hx hb dX13_cut_88 hl (k := 2) rfl (rfl) (by decide) rfl (fun ls hl => ?_)
                  have z74 : (kd + (1 : Int32)).toInt = kd.toInt + (1 : Int) := add_z rfl (show (1 : Int32).toInt = (1 : Int) by decide) (om_ccdcb4e360 l1L9 f1L15 f1L21 f1L69) (om_15d7dcfe30 zsz f1L69)
                  refine lv_goto (tgt := 69) hx hb dX13_cut_91 (by decide) ?_
                  exact ih69 (kd + (1 : Int32)) _ _ _ (show (4000 - (kd + (1 : Int32)).toInt).toNat < (4000 - kd.toInt).toNat from tn_z (om_f25e8122ae z74) (om_ed9b469895 zsz q49 z70)) ⟨(show kc.toInt ≤ (kd + (1 : Int32)).toInt ∧ (kd + (1 : Int32)).toInt ≤ (v.1 0 4).toInt from (om_416b29d9e7 q49 f1L69 z70 z74)), (show (kd + (1 : Int32)).toInt ≠ kc.toInt ∨ (((w9.1 3) (kd + (1 : Int32)).toNatClampNeg).toInt = 47 ∧ (kd + (1 : Int32)).toInt < (v.1 0 4).toInt) from (om_2eb2b66f65 f1L69 z74)), (RT.st exL69 ⟨f1L69, f2L69, z70, z73, rfl⟩), hP, hD, hS, lv_sub hl [1, 2, 0, 3] rfl⟩
        · have z75 : r52.toInt ≠ (0 : Int) := ne_z rfl (show (0 : Int32).toInt = (0 : Int) by decide) h53
          refine lv_iinc (v := (kc + (1 : Int32))) (lv' := [(1, .int (kc + (1 : Int32))), (3, .int 0), (2, .int mo), (0, .ref (ad 0))]) hx hb dX13_cut_41 hl (k := 2) rfl (rfl) (by decide) rfl (fun ls hl => ?_)
          have z76 : (kc + (1 : Int32)).toInt = kc.toInt + (1 : Int) := add_z rfl (show (1 : Int32).toInt = (1 : Int) by decide) (om_50da948930 l1L9 f1L15 f1L21) (om_15d7dcfe30 zsz f1L21)
          refine lv_goto (tgt := 21) hx hb dX13_cut_44 (by decide) ?_
          exact ih21 (kc + (1 : Int32)) _ _ _ (show (4000 - (kc + (1 : Int32)).toInt).toNat < (4000 - kc.toInt).toNat from tn_z (om_f25e8122ae z76) (om_ed9b469895 zsz q49 z48)) ⟨(show ka.toInt ≤ (kc + (1 : Int32)).toInt ∧ (kc + (1 : Int32)).toInt ≤ (v.1 0 4).toInt from (om_416b29d9e7 q49 f1L21 z48 z76)), (RT.st exL21 ⟨f1L21, z48, r52, ex50, ⟨b50, c50⟩, z75, rfl⟩), hP, hD, hS, lv_sub hl [1, 2, 0, 3] rfl⟩
