theorem dX13_call_0 : decode cX13_call 0 = .ok (.aload_n 0, 1) := by decide +kernel
theorem dX13_call_1 : decode cX13_call 1 = .ok (.aload_n 0, 1) := by decide +kernel
theorem dX13_call_2 : decode cX13_call 2 = .ok (.getfield 137, 3) := by decide +kernel
theorem dX13_call_5 : decode cX13_call 5 = .ok (.invokevirtual 246, 3) := by decide +kernel
theorem dX13_call_8 : decode cX13_call 8 = .ok (.ifCond .ge 14, 3) := by decide +kernel
theorem dX13_call_22 : decode cX13_call 22 = .ok (.aload_n 0, 1) := by decide +kernel
theorem dX13_call_23 : decode cX13_call 23 = .ok (.iconst 3, 1) := by decide +kernel
theorem dX13_call_24 : decode cX13_call 24 = .ok (.aload_n 0, 1) := by decide +kernel
theorem dX13_call_25 : decode cX13_call 25 = .ok (.getfield 137, 3) := by decide +kernel
theorem dX13_call_28 : decode cX13_call 28 = .ok (.invokevirtual 140, 3) := by decide +kernel
theorem dX13_call_31 : decode cX13_call 31 = .ok (.athrow, 1) := by decide +kernel
theorem dX13_call_11 : decode cX13_call 11 = .ok (.aload_n 0, 1) := by decide +kernel
theorem dX13_call_12 : decode cX13_call 12 = .ok (.aload_n 0, 1) := by decide +kernel
theorem dX13_call_13 : decode cX13_call 13 = .ok (.getfield 137, 3) := by decide +kernel
theorem dX13_call_16 : decode cX13_call 16 = .ok (.invokevirtual 249, 3) := by decide +kernel
theorem dX13_call_19 : decode cX13_call 19 = .ok (.ifCond .lt 13, 3) := by decide +kernel
theorem dX13_call_32 : decode cX13_call 32 = .ok (.aload_n 0, 1) := by decide +kernel
theorem dX13_call_33 : decode cX13_call 33 = .ok (.getfield 338, 3) := by decide +kernel
theorem tw_105 : (.fieldLink RX13 338 "PocketCompilerModel" "calls" "I" : Cond) ∈ tw_W := tw_in (by decide +kernel) (by decide +kernel)
theorem dX13_call_36 : decode cX13_call 36 = .ok (.istore_n 1, 1) := by decide +kernel
theorem dX13_call_37 : decode cX13_call 37 = .ok (.aload_n 0, 1) := by decide +kernel
theorem dX13_call_38 : decode cX13_call 38 = .ok (.dup, 1) := by decide +kernel
theorem dX13_call_39 : decode cX13_call 39 = .ok (.getfield 338, 3) := by decide +kernel
theorem dX13_call_42 : decode cX13_call 42 = .ok (.iconst 1, 1) := by decide +kernel
theorem dX13_call_43 : decode cX13_call 43 = .ok (.iadd, 1) := by decide +kernel
theorem dX13_call_44 : decode cX13_call 44 = .ok (.putfield 338, 3) := by decide +kernel
theorem dX13_call_47 : decode cX13_call 47 = .ok (.aload_n 0, 1) := by decide +kernel
theorem dX13_call_48 : decode cX13_call 48 = .ok (.getfield 341, 3) := by decide +kernel
theorem tw_106 : (.fieldLink RX13 341 "PocketCompilerModel" "cName" "[I" : Cond) ∈ tw_W := tw_in (by decide +kernel) (by decide +kernel)
theorem dX13_call_51 : decode cX13_call 51 = .ok (.iload_n 1, 1) := by decide +kernel
theorem dX13_call_52 : decode cX13_call 52 = .ok (.aload_n 0, 1) := by decide +kernel
theorem dX13_call_53 : decode cX13_call 53 = .ok (.getfield 137, 3) := by decide +kernel
theorem dX13_call_56 : decode cX13_call 56 = .ok (.iastore, 1) := by decide +kernel
theorem dX13_call_57 : decode cX13_call 57 = .ok (.aload_n 0, 1) := by decide +kernel
theorem dX13_call_58 : decode cX13_call 58 = .ok (.invokevirtual 154, 3) := by decide +kernel
theorem dX13_call_61 : decode cX13_call 61 = .ok (.aload_n 0, 1) := by decide +kernel
theorem dX13_call_62 : decode cX13_call 62 = .ok (.bipush 40, 2) := by decide +kernel
theorem dX13_call_64 : decode cX13_call 64 = .ok (.invokevirtual 281, 3) := by decide +kernel
theorem dX13_call_67 : decode cX13_call 67 = .ok (.iconst 0, 1) := by decide +kernel
theorem dX13_call_68 : decode cX13_call 68 = .ok (.istore_n 2, 1) := by decide +kernel
theorem dX13_call_69 : decode cX13_call 69 = .ok (.aload_n 0, 1) := by decide +kernel
theorem dX13_call_70 : decode cX13_call 70 = .ok (.getfield 171, 3) := by decide +kernel
theorem dX13_call_73 : decode cX13_call 73 = .ok (.aload_n 0, 1) := by decide +kernel
theorem dX13_call_74 : decode cX13_call 74 = .ok (.getfield 174, 3) := by decide +kernel
theorem dX13_call_77 : decode cX13_call 77 = .ok (.iadd, 1) := by decide +kernel
theorem dX13_call_78 : decode cX13_call 78 = .ok (.istore_n 3, 1) := by decide +kernel
theorem dX13_call_79 : decode cX13_call 79 = .ok (.aload_n 0, 1) := by decide +kernel
theorem dX13_call_80 : decode cX13_call 80 = .ok (.bipush 41, 2) := by decide +kernel
theorem dX13_call_82 : decode cX13_call 82 = .ok (.invokevirtual 158, 3) := by decide +kernel
theorem dX13_call_85 : decode cX13_call 85 = .ok (.ifCond .ne 86, 3) := by decide +kernel
theorem dX13_call_171 : decode cX13_call 171 = .ok (.aload_n 0, 1) := by decide +kernel
theorem dX13_call_172 : decode cX13_call 172 = .ok (.bipush 41, 2) := by decide +kernel
theorem dX13_call_174 : decode cX13_call 174 = .ok (.invokevirtual 287, 3) := by decide +kernel
theorem dX13_call_177 : decode cX13_call 177 = .ok (.aload_n 0, 1) := by decide +kernel
theorem dX13_call_178 : decode cX13_call 178 = .ok (.dup, 1) := by decide +kernel
theorem dX13_call_179 : decode cX13_call 179 = .ok (.getfield 174, 3) := by decide +kernel
theorem dX13_call_182 : decode cX13_call 182 = .ok (.iload_n 2, 1) := by decide +kernel
theorem dX13_call_183 : decode cX13_call 183 = .ok (.isub, 1) := by decide +kernel
theorem dX13_call_184 : decode cX13_call 184 = .ok (.putfield 174, 3) := by decide +kernel
theorem dX13_call_187 : decode cX13_call 187 = .ok (.aload_n 0, 1) := by decide +kernel
theorem dX13_call_188 : decode cX13_call 188 = .ok (.getfield 344, 3) := by decide +kernel
theorem tw_107 : (.fieldLink RX13 344 "PocketCompilerModel" "cMany" "[I" : Cond) ∈ tw_W := tw_in (by decide +kernel) (by decide +kernel)
theorem dX13_call_191 : decode cX13_call 191 = .ok (.iload_n 1, 1) := by decide +kernel
theorem dX13_call_192 : decode cX13_call 192 = .ok (.iload_n 2, 1) := by decide +kernel
theorem dX13_call_193 : decode cX13_call 193 = .ok (.iastore, 1) := by decide +kernel
theorem dX13_call_194 : decode cX13_call 194 = .ok (.iload_n 2, 1) := by decide +kernel
theorem dX13_call_195 : decode cX13_call 195 = .ok (.ifCond .le 18, 3) := by decide +kernel
theorem dX13_call_213 : decode cX13_call 213 = .ok (.aload_n 0, 1) := by decide +kernel
theorem dX13_call_214 : decode cX13_call 214 = .ok (.getfield 347, 3) := by decide +kernel
theorem tw_108 : (.fieldLink RX13 347 "PocketCompilerModel" "cWord" "[I" : Cond) ∈ tw_W := tw_in (by decide +kernel) (by decide +kernel)
theorem dX13_call_217 : decode cX13_call 217 = .ok (.iload_n 1, 1) := by decide +kernel
theorem dX13_call_218 : decode cX13_call 218 = .ok (.aload_n 0, 1) := by decide +kernel
theorem dX13_call_219 : decode cX13_call 219 = .ok (.iconst 0, 1) := by decide +kernel
theorem dX13_call_220 : decode cX13_call 220 = .ok (.invokevirtual 111, 3) := by decide +kernel
theorem dX13_call_223 : decode cX13_call 223 = .ok (.iastore, 1) := by decide +kernel
theorem dX13_call_224 : decode cX13_call 224 = .ok (.aload_n 0, 1) := by decide +kernel
theorem dX13_call_225 : decode cX13_call 225 = .ok (.getfield 350, 3) := by decide +kernel
theorem tw_109 : (.fieldLink RX13 350 "PocketCompilerModel" "cOrder" "[I" : Cond) ∈ tw_W := tw_in (by decide +kernel) (by decide +kernel)
theorem dX13_call_228 : decode cX13_call 228 = .ok (.iload_n 1, 1) := by decide +kernel
theorem dX13_call_229 : decode cX13_call 229 = .ok (.aload_n 0, 1) := by decide +kernel
theorem dX13_call_230 : decode cX13_call 230 = .ok (.bipush 14, 2) := by decide +kernel
theorem dX13_call_232 : decode cX13_call 232 = .ok (.iconst 0, 1) := by decide +kernel
theorem dX13_call_233 : decode cX13_call 233 = .ok (.invokevirtual 210, 3) := by decide +kernel
theorem dX13_call_236 : decode cX13_call 236 = .ok (.iastore, 1) := by decide +kernel
theorem dX13_call_237 : decode cX13_call 237 = .ok (.return_, 1) := by decide +kernel
theorem dX13_call_88 : decode cX13_call 88 = .ok (.iconst 1, 1) := by decide +kernel
theorem dX13_call_89 : decode cX13_call 89 = .ok (.istore 4, 2) := by decide +kernel
theorem dX13_call_91 : decode cX13_call 91 = .ok (.iload 4, 2) := by decide +kernel
theorem dX13_call_93 : decode cX13_call 93 = .ok (.ifCond .eq 78, 3) := by decide +kernel
theorem dX13_call_198 : decode cX13_call 198 = .ok (.aload_n 0, 1) := by decide +kernel
theorem dX13_call_199 : decode cX13_call 199 = .ok (.iconst 5, 1) := by decide +kernel
theorem dX13_call_200 : decode cX13_call 200 = .ok (.bipush 8, 2) := by decide +kernel
theorem dX13_call_202 : decode cX13_call 202 = .ok (.iload_n 3, 1) := by decide +kernel
theorem dX13_call_203 : decode cX13_call 203 = .ok (.invokestatic 272, 3) := by decide +kernel
theorem dX13_call_206 : decode cX13_call 206 = .ok (.invokestatic 219, 3) := by decide +kernel
theorem dX13_call_209 : decode cX13_call 209 = .ok (.invokevirtual 111, 3) := by decide +kernel
theorem dX13_call_212 : decode cX13_call 212 = .ok (.pop, 1) := by decide +kernel
theorem dX13_call_96 : decode cX13_call 96 = .ok (.iload_n 2, 1) := by decide +kernel
theorem dX13_call_97 : decode cX13_call 97 = .ok (.bipush 8, 2) := by decide +kernel
theorem dX13_call_99 : decode cX13_call 99 = .ok (.if_icmp .ne 11, 3) := by decide +kernel
theorem dX13_call_110 : decode cX13_call 110 = .ok (.aload_n 0, 1) := by decide +kernel
theorem dX13_call_111 : decode cX13_call 111 = .ok (.iconst 1, 1) := by decide +kernel
theorem dX13_call_112 : decode cX13_call 112 = .ok (.invokevirtual 298, 3) := by decide +kernel
theorem dX13_call_115 : decode cX13_call 115 = .ok (.istore 5, 2) := by decide +kernel
theorem dX13_call_117 : decode cX13_call 117 = .ok (.aload_n 0, 1) := by decide +kernel
theorem dX13_call_118 : decode cX13_call 118 = .ok (.invokevirtual 284, 3) := by decide +kernel
theorem dX13_call_121 : decode cX13_call 121 = .ok (.aload_n 0, 1) := by decide +kernel
theorem dX13_call_122 : decode cX13_call 122 = .ok (.bipush 10, 2) := by decide +kernel
theorem dX13_call_124 : decode cX13_call 124 = .ok (.iload 5, 2) := by decide +kernel
theorem dX13_call_126 : decode cX13_call 126 = .ok (.invokestatic 272, 3) := by decide +kernel
theorem dX13_call_129 : decode cX13_call 129 = .ok (.bipush 8, 2) := by decide +kernel
theorem dX13_call_131 : decode cX13_call 131 = .ok (.invokestatic 278, 3) := by decide +kernel
theorem dX13_call_134 : decode cX13_call 134 = .ok (.invokevirtual 111, 3) := by decide +kernel
theorem dX13_call_137 : decode cX13_call 137 = .ok (.pop, 1) := by decide +kernel
theorem dX13_call_138 : decode cX13_call 138 = .ok (.aload_n 0, 1) := by decide +kernel
theorem dX13_call_139 : decode cX13_call 139 = .ok (.dup, 1) := by decide +kernel
theorem dX13_call_140 : decode cX13_call 140 = .ok (.getfield 174, 3) := by decide +kernel
theorem dX13_call_143 : decode cX13_call 143 = .ok (.iconst 1, 1) := by decide +kernel
theorem dX13_call_144 : decode cX13_call 144 = .ok (.iadd, 1) := by decide +kernel
theorem dX13_call_145 : decode cX13_call 145 = .ok (.putfield 174, 3) := by decide +kernel
theorem dX13_call_148 : decode cX13_call 148 = .ok (.iinc 2 1, 3) := by decide +kernel
theorem dX13_call_151 : decode cX13_call 151 = .ok (.aload_n 0, 1) := by decide +kernel
theorem dX13_call_152 : decode cX13_call 152 = .ok (.bipush 44, 2) := by decide +kernel
theorem dX13_call_154 : decode cX13_call 154 = .ok (.invokevirtual 158, 3) := by decide +kernel
theorem dX13_call_157 : decode cX13_call 157 = .ok (.istore 4, 2) := by decide +kernel
theorem dX13_call_159 : decode cX13_call 159 = .ok (.iload 4, 2) := by decide +kernel
theorem dX13_call_161 : decode cX13_call 161 = .ok (.ifCond .eq 7, 3) := by decide +kernel
theorem dX13_call_168 : decode cX13_call 168 = .ok (.goto (-77), 3) := by decide +kernel
theorem dX13_call_164 : decode cX13_call 164 = .ok (.aload_n 0, 1) := by decide +kernel
theorem dX13_call_165 : decode cX13_call 165 = .ok (.invokevirtual 154, 3) := by decide +kernel
theorem dX13_call_102 : decode cX13_call 102 = .ok (.aload_n 0, 1) := by decide +kernel
theorem dX13_call_103 : decode cX13_call 103 = .ok (.aload_n 0, 1) := by decide +kernel
theorem dX13_call_104 : decode cX13_call 104 = .ok (.getfield 137, 3) := by decide +kernel
theorem dX13_call_107 : decode cX13_call 107 = .ok (.putfield 148, 3) := by decide +kernel
theorem om_9d6ac316d0 {n0 : Nat} : 1 + 1 ≤ 40 * n0 + 7 := by omega
theorem om_c9f0e2297a {n0 : Nat} : 8 + (3 + 11) + 25 ≤ 28 * (40 * n0 + 7) := by omega
theorem om_8e99a81d6b {n0 : Nat} : 0 + 1 ≤ 40 * n0 + 7 := by omega
theorem om_3763ab29f8 {n0 : Nat} : 8 + (3 + 11) + 0 ≤ 28 * (40 * n0 + 7) := by omega
theorem om_22bfffe066 {x0 x1 : Int} (h0 : 0 ≤ x0 ∧ x0 ≤ 1 * x1 + 0) : -2147483648 ≤ (x0) + 1 := by omega
theorem om_e538d4d42a {x0 x1 : Int} (h0 : 0 ≤ x0 ∧ x0 ≤ 1500) (h1 : 0 ≤ x1 ∧ x1 ≤ 1 * x0 + 0) : (x1) + 1 < 2147483648 := by omega
theorem om_eff68e0d8d {x0 x1 : Int} (h0 : 0 ≤ x0 ∧ x0 ≤ 1 * x1 + 0) : 0 ≤ x0 := by omega
theorem om_7fb54af03d {x0 x1 : Int} (h0 : 0 ≤ x0 ∧ x0 ≤ 1500) (h1 : 0 ≤ x1 ∧ x1 ≤ 1 * x0 + 0) : x1 < 4000 := by omega
theorem om_9e58535660 {n0 : Nat} : 8 + (1 + 11) + 22 ≤ 28 * (40 * n0 + 7) := by omega
theorem om_c983938bd3 {n0 : Nat} : 3 + 1 ≤ 40 * n0 + 7 := by omega
theorem om_8c6422358d {n0 : Nat} : 8 + (2 + 11) + 62 ≤ 28 * (40 * n0 + 7) := by omega
theorem om_dd57b474c4 {x0 : Int} : -2147483648 ≤ ((x0) + 1) + 1 := by omega
theorem om_043e19c23e {x0 : Int} (h0 : 0 ≤ x0 ∧ x0 ≤ 1500) : ((x0) + 1) + 1 < 2147483648 := by omega
theorem om_e7937ea0e3 {x0 x1 : Int} (h0 : 0 ≤ x0 ∧ x0 ≤ 500) (h1 : 0 ≤ x1 ∧ x0 + x1 ≤ 500) : -2147483648 ≤ (x0) + (x1) := by omega
theorem om_7026b2bbc8 {x0 x1 : Int} (h0 : 0 ≤ x0 ∧ x1 + x0 ≤ 500) : (x1) + (x0) < 2147483648 := by omega
theorem om_ae802feffd {x0 x1 x2 x3 : Int} (h0 : 0 ≤ x0 ∧ x0 ≤ 15 * x1 + 0) (h1 : x2 = (x1) + 1) (h2 : x3 = ((x1) + 1) + 1) (h3 : x2 < 1500) : 0 ≤ x3 ∧ x3 ≤ 1500 := by omega
theorem om_7fcb3e7e8b {n0 : Nat} : 8 + (2 + 11) + 22 ≤ 28 * (40 * n0 + 7) := by omega
theorem om_c7e38a8301 {n0 : Nat} : 8 + (2 + 11) + 64 ≤ 28 * (40 * n0 + 7) := by omega
theorem om_4a9b053eff {x0 : Int} : -2147483648 ≤ (((x0) + 1) + 1) + 1 := by omega
theorem om_565fab1677 {x0 : Int} (h0 : 0 ≤ x0 ∧ x0 ≤ 1500) : (((x0) + 1) + 1) + 1 < 2147483648 := by omega
theorem om_1b8d8f630d {x0 : Int} (h0 : 0 ≤ x0 ∧ x0 ≤ 40) : -2147483648 ≤ ((x0) + 1) - 1 := by omega
theorem om_c5ab695f03 {x0 : Int} (h0 : 0 ≤ x0 ∧ x0 ≤ 40) : ((x0) + 1) - 1 < 2147483648 := by omega
theorem om_08d854e850 {x0 x1 x2 : Int} (h0 : 0 ≤ x0 ∧ x0 ≤ 15 * x1 + 0) (h1 : x2 = ((x1) + 1) + 1) (h2 : x2 < 1500) : 0 ≤ x1 ∧ x1 ≤ 1500 := by omega
theorem om_afcf7f851f {x0 x1 x2 : Int} (h0 : 0 ≤ x0 ∧ x1 + x0 ≤ 500) (h1 : x2 = x0) : -2147483648 ≤ (x2) - 0 := by omega
theorem om_c7f6767c97 {x0 x1 x2 : Int} (h0 : 0 ≤ x0 ∧ x0 ≤ 500) (h1 : 0 ≤ x1 ∧ x0 + x1 ≤ 500) (h2 : x2 = x1) : (x2) - 0 < 2147483648 := by omega
theorem om_59dffa004b {x0 x1 : Int} (h0 : 0 ≤ x0 ∧ x0 ≤ 1 * x1 + 0) (h1 : x1 < 1500) : x0 < 4000 := by omega
theorem om_76ced50d90 {x0 x1 x2 : Int} (h0 : 0 ≤ x0 ∧ x0 ≤ 15 * x1 + 2) (h1 : x1 < 1500) (h2 : x2 = x0) : 0 ≤ x2 ∧ x2 < 24000 := by omega
theorem om_b622fbbd61 {n0 : Nat} : 8 + (2 + 11) + 0 ≤ 28 * (40 * n0 + 7) := by omega
theorem om_1a06a266be {x0 x1 x2 : Int} (h0 : 0 ≤ x0 ∧ x0 ≤ 15 * x1 + 2) (h1 : x2 = x0) : -2147483648 ≤ (x2) + 1 := by omega
theorem om_a191191abf {x0 x1 x2 : Int} (h0 : 0 ≤ x0 ∧ x0 ≤ 15 * x1 + 2) (h1 : x1 < 1500) (h2 : x2 = x0) : (x2) + 1 < 2147483648 := by omega
theorem om_3d37f463d2 {x0 x1 x2 : Int} (h0 : 0 ≤ x0 ∧ x0 ≤ 10 * x1 + 0) (h1 : x1 < 1500) (h2 : x2 = x0) : 0 ≤ x2 ∧ x2 < 16000 := by omega
theorem om_e7f4be22c0 {x0 x1 x2 : Int} (h0 : 0 ≤ x0 ∧ x0 ≤ 10 * x1 + 0) (h1 : x2 = x0) : -2147483648 ≤ (x2) + 1 := by omega
theorem om_43d6d5a97a {x0 x1 x2 : Int} (h0 : 0 ≤ x0 ∧ x0 ≤ 1500) (h1 : 0 ≤ x1 ∧ x1 ≤ 10 * x0 + 0) (h2 : x2 = x1) : (x2) + 1 < 2147483648 := by omega
theorem om_5c3049bd90 {x0 x1 x2 : Int} (h0 : 0 ≤ x0 ∧ x0 ≤ 15 * x1 + 2) (h1 : x2 = x0) : 0 ≤ x2 := by omega
theorem om_7a9921a7e5 {x0 x1 : Int} {n2 : Nat} (h0 : x0 = x1) (h1 : (n2 : Int) < x1) : (n2 : Int) < x0 := by omega
theorem om_f5f3e836e2 {x0 x1 x2 : Int} (h0 : 0 ≤ x0 ∧ x0 ≤ 10 * x1 + 0) (h1 : x2 = x0) : 0 ≤ x2 := by omega
theorem om_1cd1969ab4 {x0 x1 x2 x3 : Int} (h0 : x0 = ((x1) + 1) + 1) (h1 : x0 < 1500) (h2 : x2 = ((((x1) + 1) + 1) + 1)) (h3 : x3 = x2) : x1 + 1 ≤ x3 ∧ x3 ≤ 1500 := by omega
theorem om_25e714ae69 {x0 x1 x2 x3 x4 x5 : Int} (h0 : x0 = x1) (h1 : x2 = ((((x3) + 1) + 1) + 1)) (h2 : x4 = ((x0) + 1)) (h3 : x5 = x2) : x1 ≤ x4 ∧ x4 - 15 * x5 ≤ x1 - 15 * x3 := by omega
theorem om_66a9d1c634 {x0 x1 x2 x3 x4 x5 : Int} (h0 : x0 = x1) (h1 : x2 = ((((x3) + 1) + 1) + 1)) (h2 : x4 = ((x0) + 1)) (h3 : x5 = x2) : x1 ≤ x4 ∧ x4 - 10 * x5 ≤ x1 - 10 * x3 := by omega
theorem om_cc7faedc82 {x0 x1 x2 x3 x4 x5 : Int} (h0 : x0 = x1) (h1 : x2 = ((((x3) + 1) + 1) + 1)) (h2 : x4 = x0) (h3 : x5 = x2) : x1 ≤ x4 ∧ x4 - 15 * x5 ≤ x1 - 15 * x3 := by omega
theorem om_512831d3d5 {x0 x1 x2 x3 x4 x5 : Int} (h0 : x0 = ((x1) + 1)) (h1 : x2 = ((((x3) + 1) + 1) + 1)) (h2 : x4 = x0) (h3 : x5 = x2) : x1 ≤ x4 ∧ x4 - 1 * x5 ≤ x1 - 1 * x3 := by omega
theorem om_f2cc061f72 {x0 x1 x2 x3 x4 x5 : Int} (h0 : x0 = x1) (h1 : x2 = (((x3) + 1) - 1)) (h2 : x4 = ((x0) - 0)) (h3 : x5 = x2) : x4 = x1 ∧ x5 = x3 := by omega
theorem om_0aa458c3cb {x0 x1 x2 : Int} (h0 : 0 ≤ x0 ∧ x0 ≤ 500) (h1 : x1 = x0) (h2 : x2 = x1) : x0 ≤ x2 ∧ x2 ≤ 500 := by omega
theorem om_cb2da83618 {x0 x1 : Int} (h0 : 0 ≤ x0 ∧ x0 ≤ 15 * x1 + 0) (h1 : x1 < 1500) : 0 ≤ x1 ∧ x1 ≤ 1500 := by omega
theorem om_33b81b7bc4 {x0 x1 x2 x3 : Int} (h0 : x0 = (x1) + 1) (h1 : x2 ≠ x1) (h2 : x3 = ((x1) + 1) + 1) (h3 : x0 < 1500) : x1 + 2 ≤ x3 ∧ x3 ≤ 1500 ∧ x2 ≠ x1 := by omega
theorem om_e63a6f4696 {x0 x1 x2 : Int} (h0 : x0 = ((x1) + 1) + 1) : x2 ≤ x2 ∧ x2 - 15 * x0 + 14 + 1 ≤ x2 - 15 * x1 := by omega
theorem om_265f6a15b3 : 0 ≤ 1 ∧ 1 ≤ 1 := by omega
theorem om_f48fa5821e {x0 x1 x2 : Int} (h0 : x0 = ((x1) + 1) + 1) : x2 ≤ x2 ∧ x2 - 10 * x0 + 10 ≤ x2 - 10 * x1 := by omega
theorem om_2c5e739fbe {x0 x1 x2 : Int} (h0 : x0 = ((x1) + 1) + 1) : x2 ≤ x2 ∧ x2 - 15 * x0 + 0 ≤ x2 - 15 * x1 := by omega
theorem om_672f33d88e {x0 x1 x2 x3 : Int} (h0 : x0 = (x1) + 1) (h1 : x2 = ((x3) + 1) + 1) : x1 ≤ x0 ∧ x0 - 1 * x2 + 1 ≤ x1 - 1 * x3 := by omega
theorem om_7f01bebe05 {x0 x1 x2 x3 : Int} (h0 : 0 ≤ x0 ∧ x1 + x0 ≤ 500) (h1 : x2 = (x3) + 1) : x0 = x0 + 0 ∧ x2 = x3 + 1 ∧ x1 + x0 ≤ 500 := by omega
theorem om_4b83eb0f4d {x0 x1 x2 x3 x4 x5 : Int} (h0 : 0 ≤ x0 ∧ x0 ≤ 15 * x1 + 0) (h1 : x1 + 2 ≤ x2 ∧ x2 ≤ 1500 ∧ x3 ≠ x1) (h2 : x4 ≤ x5 ∧ x5 - 10 * x2 + 10 ≤ x4 - 10 * x1) : 0 ≤ x2 ∧ x2 ≤ 1500 := by omega
theorem om_2690ee518b {x0 x1 x2 x3 x4 x5 : Int} (h0 : 0 ≤ x0 ∧ x0 ≤ 40) (h1 : x0 < 40) (h2 : x1 = x2 + x3 ∧ x4 = x0 + 1 ∧ x5 + x1 ≤ 500) : 0 ≤ x4 ∧ x4 ≤ 40 := by omega
theorem om_4c26923d51 {x0 x1 x2 : Int} (h0 : x0 + 2 ≤ x1 ∧ x1 ≤ 1500 ∧ x2 ≠ x0) : (x1) + 1 < 2147483648 := by omega
theorem om_9f727c2885 {x0 x1 x2 x3 x4 x5 : Int} (h0 : 0 ≤ x0 ∧ x0 ≤ 40) (h1 : x1 = x2 + x3 ∧ x4 = x0 + 1 ∧ x5 + x1 ≤ 500) : -2147483648 ≤ (x4) - 1 := by omega
theorem om_7f8f9d33e5 {x0 x1 x2 x3 x4 x5 : Int} (h0 : x0 < 40) (h1 : x1 = x2 + x3 ∧ x4 = x0 + 1 ∧ x5 + x1 ≤ 500) : (x4) - 1 < 2147483648 := by omega
theorem om_dba6398040 {x0 x1 x2 x3 x4 x5 : Int} (h0 : 0 ≤ x0 ∧ x1 + x0 ≤ 500) (h1 : x2 = x0 + x3 ∧ x4 = x5 + 1 ∧ x1 + x2 ≤ 500) : -2147483648 ≤ (x2) - x3 := by omega
theorem om_ce647d8687 {x0 x1 x2 x3 x4 x5 : Int} (h0 : 0 ≤ x0 ∧ x0 ≤ 500) (h1 : 0 ≤ x1 ∧ x1 ≤ 8) (h2 : x2 = x3 + x1 ∧ x4 = x5 + 1 ∧ x0 + x2 ≤ 500) : (x2) - x1 < 2147483648 := by omega
theorem om_f145506fe6 {x0 x1 x2 x3 x4 : Int} (h0 : 0 ≤ x0 ∧ x0 ≤ 15 * x1 + 2) (h1 : x0 ≤ x2 ∧ x2 - 15 * x3 + 14 + x4 ≤ x0 - 15 * x1) (h2 : 0 ≤ x4 ∧ x4 ≤ 1) (h3 : x3 < 1500) : 0 ≤ x2 ∧ x2 < 24000 := by omega
theorem om_21421f1446 {x0 x1 x2 x3 x4 : Int} (h0 : 0 ≤ x0 ∧ x0 ≤ 15 * x1 + 2) (h1 : x0 ≤ x2 ∧ x2 - 15 * x3 + 14 + x4 ≤ x0 - 15 * x1) : -2147483648 ≤ (x2) + 1 := by omega
theorem om_4f01b76c03 {x0 x1 x2 x3 x4 : Int} (h0 : 0 ≤ x0 ∧ x0 ≤ 15 * x1 + 2) (h1 : x0 ≤ x2 ∧ x2 - 15 * x3 + 14 + x4 ≤ x0 - 15 * x1) (h2 : 0 ≤ x4 ∧ x4 ≤ 1) (h3 : x3 < 1500) : (x2) + 1 < 2147483648 := by omega
theorem om_771c207ba7 {x0 x1 x2 x3 x4 : Int} (h0 : 0 ≤ x0 ∧ x0 ≤ 15 * x1 + 2) (h1 : x0 ≤ x2 ∧ x2 - 15 * x3 + 14 + x4 ≤ x0 - 15 * x1) : 0 ≤ x2 := by omega
theorem om_25ba0b5356 {x0 x1 x2 x3 x4 : Int} {n5 : Nat} (h0 : x0 ≤ x1 ∧ x1 - 15 * x2 + 14 + x3 ≤ x0 - 15 * x4) (h1 : (n5 : Int) < x0) : (n5 : Int) < x1 := by omega
theorem om_f026c60dd8 {x0 x1 x2 x3 x4 : Int} (h0 : 0 ≤ x0 ∧ x0 ≤ 10 * x1 + 0) (h1 : x0 ≤ x2 ∧ x2 - 10 * x3 + 10 ≤ x0 - 10 * x1) (h2 : x3 < 1500) (h3 : x4 = x2) : 0 ≤ x4 ∧ x4 < 16000 := by omega
theorem om_66da2a046f {x0 x1 x2 x3 x4 : Int} (h0 : 0 ≤ x0 ∧ x0 ≤ 10 * x1 + 0) (h1 : x0 ≤ x2 ∧ x2 - 10 * x3 + 10 ≤ x0 - 10 * x1) (h2 : x4 = x2) : -2147483648 ≤ (x4) + 1 := by omega
theorem om_f6568e549b {x0 x1 x2 x3 x4 x5 : Int} (h0 : 0 ≤ x0 ∧ x0 ≤ 10 * x1 + 0) (h1 : x1 + 2 ≤ x2 ∧ x2 ≤ 1500 ∧ x3 ≠ x1) (h2 : x0 ≤ x4 ∧ x4 - 10 * x2 + 10 ≤ x0 - 10 * x1) (h3 : x5 = x4) : (x5) + 1 < 2147483648 := by omega
theorem om_2ce067cfe1 {x0 x1 x2 x3 x4 : Int} (h0 : x0 ≤ x1 ∧ x1 - 10 * x2 + 10 ≤ x0 - 10 * x3) (h1 : x2 < 1500) (h2 : x4 = ((x2) + 1)) : x3 + 1 ≤ x4 ∧ x4 ≤ 1500 := by omega
theorem om_3a9c163bfd {x0 x1 x2 x3 x4 x5 x6 : Int} (h0 : x0 ≤ x1 ∧ x1 - 15 * x2 + 14 + x3 ≤ x0 - 15 * x4) (h1 : 0 ≤ x3 ∧ x3 ≤ 1) (h2 : x5 = ((x1) + 1)) (h3 : x6 = ((x2) + 1)) : x0 ≤ x5 ∧ x5 - 15 * x6 ≤ x0 - 15 * x4 := by omega
theorem om_0ff3107b48 {x0 x1 x2 x3 x4 x5 x6 : Int} (h0 : x0 ≤ x1 ∧ x1 - 10 * x2 + 10 ≤ x0 - 10 * x3) (h1 : x4 = x1) (h2 : x5 = ((x2) + 1)) (h3 : x6 = (x4) + 1) : x0 ≤ x6 ∧ x6 - 10 * x5 ≤ x0 - 10 * x3 := by omega
theorem om_51a7203f57 {x0 x1 x2 x3 x4 x5 : Int} (h0 : x0 ≤ x1 ∧ x1 - 15 * x2 + 0 ≤ x0 - 15 * x3) (h1 : x4 = x1) (h2 : x5 = ((x2) + 1)) : x0 ≤ x4 ∧ x4 - 15 * x5 ≤ x0 - 15 * x3 := by omega
theorem om_5ad5dbece5 {x0 x1 x2 x3 x4 x5 : Int} (h0 : x0 ≤ x1 ∧ x1 - 1 * x2 + 1 ≤ x0 - 1 * x3) (h1 : x4 = x1) (h2 : x5 = ((x2) + 1)) : x0 ≤ x4 ∧ x4 - 1 * x5 ≤ x0 - 1 * x3 := by omega
theorem om_a6b5374474 {x0 x1 x2 x3 x4 x5 x6 x7 : Int} (h0 : x0 = x1 + x2 ∧ x3 = x4 + 1 ∧ x5 + x0 ≤ 500) (h1 : x6 = ((x0) - x2)) (h2 : x7 = ((x3) - 1)) : x6 = x1 ∧ x7 = x4 := by omega
theorem om_865fa38dbd {x0 x1 x2 x3 x4 : Int} (h0 : 0 ≤ x0 ∧ x0 ≤ 10 * x1 + 0) (h1 : x0 ≤ x2 ∧ x2 - 10 * x3 + 10 ≤ x0 - 10 * x1) (h2 : x4 = x2) : 0 ≤ x4 := by omega
theorem om_7517dbbafd {x0 x1 x2 x3 x4 : Int} {n5 : Nat} (h0 : x0 ≤ x1 ∧ x1 - 10 * x2 + 10 ≤ x0 - 10 * x3) (h1 : x4 = x1) (h2 : (n5 : Int) < x0) : (n5 : Int) < x4 := by omega
theorem om_0b9857731b {n0 : Nat} : 8 + (1 + 11) + 0 ≤ 28 * (40 * n0 + 7) := by omega
theorem om_2e21d24516 {n0 : Nat} : 8 + (3 + 11) + 24 ≤ 28 * (40 * n0 + 7) := by omega
theorem om_f0908d1617 {x0 x1 x2 x3 x4 x5 : Int} (h0 : 0 ≤ x0 ∧ x0 ≤ 15 * x1 + 2) (h1 : x0 ≤ x2 ∧ x2 - 15 * x3 + 14 + x4 ≤ x0 - 15 * x1) (h2 : 0 ≤ x4 ∧ x4 ≤ 1) (h3 : x3 < 1500) (h4 : x5 = (x2) + 1) : 0 ≤ x5 ∧ x5 < 24000 := by omega
theorem om_39c9977127 {x0 x1 x2 x3 x4 : Int} (h0 : 0 ≤ x0 ∧ x0 ≤ 15 * x1 + 2) (h1 : x0 ≤ x2 ∧ x2 - 15 * x3 + 14 + x4 ≤ x0 - 15 * x1) : -2147483648 ≤ ((x2) + 1) + 1 := by omega
theorem om_fc75630b16 {x0 x1 x2 x3 x4 : Int} (h0 : 0 ≤ x0 ∧ x0 ≤ 15 * x1 + 2) (h1 : x0 ≤ x2 ∧ x2 - 15 * x3 + 14 + x4 ≤ x0 - 15 * x1) (h2 : 0 ≤ x4 ∧ x4 ≤ 1) (h3 : x3 < 1500) : ((x2) + 1) + 1 < 2147483648 := by omega
theorem om_9fb46145ec {x0 x1 x2 x3 x4 x5 : Int} (h0 : 0 ≤ x0 ∧ x0 ≤ 15 * x1 + 2) (h1 : x0 ≤ x2 ∧ x2 - 15 * x3 + 14 + x4 ≤ x0 - 15 * x1) (h2 : x5 = (x2) + 1) : 0 ≤ x5 := by omega
theorem om_57ad8c7472 {x0 x1 x2 x3 x4 x5 : Int} {n6 : Nat} (h0 : x0 ≤ x1 ∧ x1 - 15 * x2 + 14 + x3 ≤ x0 - 15 * x4) (h1 : x5 = (x1) + 1) (h2 : (n6 : Int) < x0) : (n6 : Int) < x5 := by omega
theorem om_c2274911d9 {x0 x1 x2 x3 x4 : Int} (h0 : 0 ≤ x0 ∧ x0 ≤ 10 * x1 + 0) (h1 : x0 ≤ x2 ∧ x2 - 10 * x3 + 10 ≤ x0 - 10 * x1) (h2 : x3 < 1500) (h3 : x4 = x2) : (x4) + 1 < 2147483648 := by omega
theorem om_6f2da7abdb {x0 x1 x2 x3 x4 x5 x6 : Int} (h0 : x0 ≤ x1 ∧ x1 - 15 * x2 + 14 + x3 ≤ x0 - 15 * x4) (h1 : 0 ≤ x3 ∧ x3 ≤ 1) (h2 : x5 = (((x1) + 1) + 1)) (h3 : x6 = ((x2) + 1)) : x0 ≤ x5 ∧ x5 - 15 * x6 ≤ x0 - 15 * x4 := by omega
theorem om_f8376ff89c {x0 x1 : Int} (h0 : 0 ≤ x0 ∧ x0 ≤ 500) (h1 : x1 = x0) : 0 ≤ x1 ∧ x1 ≤ 500 := by omega
theorem om_d6b40a31f9 {x0 x1 x2 x3 x4 x5 : Int} (h0 : 0 ≤ x0 ∧ x0 ≤ 500) (h1 : 0 ≤ x1 ∧ x0 + x1 ≤ 500) (h2 : 0 ≤ x2 ∧ x2 ≤ 8) (h3 : x3 = x1 + x2 ∧ x4 = x5 + 1 ∧ x0 + x3 ≤ 500) : 0 ≤ x3 ∧ x3 ≤ 2000 := by omega
theorem om_cc8e83f451 {x0 x1 : Int} (h0 : 0 ≤ x0 ∧ x0 ≤ 500) (h1 : x0 ≤ x1 ∧ x1 ≤ 500) : 0 ≤ x1 ∧ x1 ≤ 500 := by omega
theorem om_b1f15a1a46 {x0 x2 x3 x4 x5 x6 x7 : Int} {n1 n8 : Nat} (h0 : 40 ≤ x0 + (n1 : Int)) (h1 : x2 = x3 + x4 ∧ x5 = x0 + 1 ∧ x6 + x2 ≤ 500) (h2 : x7 = x5) (h3 : n1 = n8 + 1) : 40 ≤ x7 + (n8 : Int) := by omega
theorem om_4b7b84fccf {x0 x1 x2 x3 x4 x5 x6 : Int} (h0 : 0 ≤ x0 ∧ x0 ≤ 15 * x1 + 0) (h1 : x1 + 2 ≤ x2 ∧ x2 ≤ 1500 ∧ x3 ≠ x1) (h2 : x4 ≤ x5 ∧ x5 - 10 * x2 + 10 ≤ x4 - 10 * x1) (h3 : x6 = x2) : 0 ≤ x6 ∧ x6 ≤ 1500 := by omega
theorem om_1a3ff391a1 {x0 x1 x2 x3 x4 x5 x6 : Int} (h0 : 0 ≤ x0 ∧ x0 ≤ 40) (h1 : x0 < 40) (h2 : x1 = x2 + x3 ∧ x4 = x0 + 1 ∧ x5 + x1 ≤ 500) (h3 : x6 = x4) : 0 ≤ x6 ∧ x6 ≤ 40 := by omega
theorem om_fa78899538 {x0 x1 x2 : Int} (h0 : 0 ≤ x0 ∧ x0 ≤ 500) (h1 : x0 ≤ x1 ∧ x1 ≤ 500) (h2 : x1 ≤ x2 ∧ x2 ≤ 500) : 0 ≤ x2 ∧ x2 ≤ 500 := by omega
theorem om_a50bd71174 {x0 x1 x2 x3 x4 x5 x6 x7 x8 : Int} (h0 : 0 ≤ x0 ∧ x1 + x0 ≤ 500) (h1 : 0 ≤ x2 ∧ x2 ≤ 8) (h2 : x3 = x0 + x2 ∧ x4 = x5 + 1 ∧ x1 + x3 ≤ 500) (h3 : x6 = x1) (h4 : x7 = x6) (h5 : x8 = x3) : 0 ≤ x8 ∧ x7 + x8 ≤ 500 := by omega
theorem om_88dff433f8 {x0 x1 x2 x3 x4 x5 x6 : Int} (h0 : 0 ≤ x0 ∧ x0 ≤ 15 * x1 + 2) (h1 : x0 ≤ x2 ∧ x2 - 15 * x3 + 14 + x4 ≤ x0 - 15 * x1) (h2 : 0 ≤ x4 ∧ x4 ≤ 1) (h3 : x5 = x2) (h4 : x6 = x3) : 0 ≤ x5 ∧ x5 ≤ 15 * x6 + 2 := by omega
theorem om_0ceca355ec {x0 x1 x2 x3 x4 x5 : Int} (h0 : 0 ≤ x0 ∧ x0 ≤ 10 * x1 + 0) (h1 : x0 ≤ x2 ∧ x2 - 10 * x3 + 10 ≤ x0 - 10 * x1) (h2 : x4 = x2) (h3 : x5 = x3) : 0 ≤ x4 ∧ x4 ≤ 10 * x5 + 0 := by omega
theorem om_47d8a1519d {x0 x1 x2 x3 x4 x5 : Int} (h0 : 0 ≤ x0 ∧ x0 ≤ 15 * x1 + 0) (h1 : x0 ≤ x2 ∧ x2 - 15 * x3 + 0 ≤ x0 - 15 * x1) (h2 : x4 = x2) (h3 : x5 = x3) : 0 ≤ x4 ∧ x4 ≤ 15 * x5 + 0 := by omega
theorem om_2a29b367b4 {x0 x1 x2 x3 x4 x5 : Int} (h0 : 0 ≤ x0 ∧ x0 ≤ 1 * x1 + 0) (h1 : x0 ≤ x2 ∧ x2 - 1 * x3 + 1 ≤ x0 - 1 * x1) (h2 : x4 = x2) (h3 : x5 = x3) : 0 ≤ x4 ∧ x4 ≤ 1 * x5 + 0 := by omega
theorem om_f82ab4b197 {n0 n1 : Nat} (h0 : n0 = n1 + 1) : (40 * n1 + 36) + 1 ≤ 40 * n0 + 7 := by omega
theorem om_602ef98186 {n0 n1 : Nat} (h0 : n0 = n1 + 1) : 8 + (1 + 11) + 28 * (40 * n1 + 36) ≤ 28 * (40 * n0 + 7) := by omega
theorem om_743c7d12b2 {x0 x1 x2 x3 x4 x5 x6 x7 x8 : Int} (h0 : 0 ≤ x0 ∧ x0 ≤ 15 * x1 + 2) (h1 : x0 ≤ x2 ∧ x2 - 15 * x3 + 14 + x4 ≤ x0 - 15 * x1) (h2 : 0 ≤ x4 ∧ x4 ≤ 1) (h3 : x5 = x2) (h4 : x6 = x3) (h5 : x6 + 1 ≤ x7 ∧ x7 ≤ 1500) (h6 : x5 ≤ x8 ∧ x8 - 15 * x7 ≤ x5 - 15 * x6) : 0 ≤ x8 ∧ x8 < 24000 := by omega
theorem om_f44cca851c {x0 x1 x2 x3 x4 x5 x6 x7 x8 : Int} (h0 : 0 ≤ x0 ∧ x0 ≤ 15 * x1 + 2) (h1 : x0 ≤ x2 ∧ x2 - 15 * x3 + 14 + x4 ≤ x0 - 15 * x1) (h2 : x5 = x2) (h3 : x5 ≤ x6 ∧ x6 - 15 * x7 ≤ x5 - 15 * x8) : -2147483648 ≤ (x6) + 1 := by omega
theorem om_24debe6471 {x0 x1 x2 x3 x4 x5 x6 x7 x8 : Int} (h0 : 0 ≤ x0 ∧ x0 ≤ 15 * x1 + 2) (h1 : x0 ≤ x2 ∧ x2 - 15 * x3 + 14 + x4 ≤ x0 - 15 * x1) (h2 : 0 ≤ x4 ∧ x4 ≤ 1) (h3 : x5 = x2) (h4 : x6 = x3) (h5 : x6 + 1 ≤ x7 ∧ x7 ≤ 1500) (h6 : x5 ≤ x8 ∧ x8 - 15 * x7 ≤ x5 - 15 * x6) : (x8) + 1 < 2147483648 := by omega
theorem om_e0b7151e27 {x0 x1 x2 x3 x4 x5 x6 x7 x8 x9 : Int} (h0 : 0 ≤ x0 ∧ x1 + x0 ≤ 500) (h1 : 0 ≤ x2 ∧ x2 ≤ 8) (h2 : x3 = x0 + x2 ∧ x4 = x5 + 1 ∧ x1 + x3 ≤ 500) (h3 : x6 = x3) (h4 : x7 = x6 ∧ x8 = x9) : -2147483648 ≤ (x7) + 1 := by omega
theorem om_49f7576b45 {x0 x1 x2 x3 x4 x5 x6 x7 x8 x9 : Int} (h0 : 0 ≤ x0 ∧ x0 ≤ 500) (h1 : x1 = x2 + x3 ∧ x4 = x5 + 1 ∧ x0 + x1 ≤ 500) (h2 : x6 = x1) (h3 : x7 = x6 ∧ x8 = x9) : (x7) + 1 < 2147483648 := by omega
theorem om_9442f9028b {x0 : Int} (h0 : 0 ≤ x0 ∧ x0 ≤ 8) : -2147483648 ≤ x0 + 1 := by omega
theorem om_1084b5be12 {x0 : Int} (h0 : 0 ≤ x0 ∧ x0 ≤ 8) : x0 + 1 < 2147483648 := by omega
theorem om_b8b1f39fc3 {x0 x1 x2 x3 x4 x5 x6 x7 x8 : Int} (h0 : 0 ≤ x0 ∧ x0 ≤ 15 * x1 + 0) (h1 : x2 ≤ x3 ∧ x3 - 10 * x4 + 10 ≤ x2 - 10 * x1) (h2 : x5 = x4) (h3 : x5 + 1 ≤ x6 ∧ x6 ≤ 1500) (h4 : x7 ≤ x8 ∧ x8 - 15 * x6 ≤ x7 - 15 * x5) : 0 ≤ x6 ∧ x6 ≤ 1500 := by omega
theorem om_d4d5dc5ad0 {x0 x1 x2 x3 x4 x5 x6 x7 x8 : Int} (h0 : 0 ≤ x0 ∧ x0 ≤ 15 * x1 + 2) (h1 : x0 ≤ x2 ∧ x2 - 15 * x3 + 14 + x4 ≤ x0 - 15 * x1) (h2 : x5 = x2) (h3 : x5 ≤ x6 ∧ x6 - 15 * x7 ≤ x5 - 15 * x8) : 0 ≤ x6 := by omega
theorem om_d0ae3268d8 {x0 x1 x2 x3 x4 x5 x6 x7 x8 : Int} {n9 : Nat} (h0 : x0 ≤ x1 ∧ x1 - 15 * x2 + 14 + x3 ≤ x0 - 15 * x4) (h1 : x5 = x1) (h2 : x5 ≤ x6 ∧ x6 - 15 * x7 ≤ x5 - 15 * x8) (h3 : (n9 : Int) < x0) : (n9 : Int) < x6 := by omega
theorem om_b72412c74e {x0 x1 x2 x3 x4 x5 : Int} {n6 : Nat} (h0 : x0 ≤ x1 ∧ x1 - 15 * x2 + 14 + x3 ≤ x0 - 15 * x4) (h1 : x5 = x1) (h2 : (n6 : Int) < x0) : (n6 : Int) < x5 := by omega
theorem om_6ea8ff4aec {x0 x1 : Int} (h0 : 0 ≤ x0 ∧ x0 ≤ 8) (h1 : x0 ≠ 8) (h2 : x1 = x0 + 1) : 0 ≤ x1 ∧ x1 ≤ 8 := by omega
theorem om_1be7b253f9 {x0 x1 x2 x3 x4 : Int} (h0 : x0 ≠ x1) (h1 : x1 + 2 ≤ x2 ∧ x2 ≤ 1500 ∧ x0 ≠ x1) (h2 : x3 = x2) (h3 : x3 + 1 ≤ x4 ∧ x4 ≤ 1500) : x1 + 2 ≤ x4 ∧ x4 ≤ 1500 ∧ x0 ≠ x1 := by omega
theorem om_416ca29b28 {x0 x1 x2 x3 x4 x5 x6 x7 x8 x9 x10 : Int} (h0 : x0 ≤ x1 ∧ x1 - 15 * x2 + 14 + x3 ≤ x0 - 15 * x4) (h1 : 0 ≤ x3 ∧ x3 ≤ 1) (h2 : x3 ≠ 0) (h3 : x5 = x1) (h4 : x6 = x2) (h5 : x5 ≤ x7 ∧ x7 - 15 * x8 ≤ x5 - 15 * x6) (h6 : x9 = (x7) + 1) (h7 : x10 = 0) : x0 ≤ x9 ∧ x9 - 15 * x8 + 14 + x10 ≤ x0 - 15 * x4 := by omega
theorem om_0c3da3f775 {x0 : Int} (h0 : 0 ≤ x0 ∧ x0 ≤ 1) (h1 : x0 = 0) : 0 ≤ x0 ∧ x0 ≤ 1 := by omega
theorem om_e0aa59a87c {x0 x1 x2 x3 x4 x5 x6 x7 : Int} (h0 : x0 ≤ x1 ∧ x1 - 10 * x2 + 10 ≤ x0 - 10 * x3) (h1 : x4 = x1) (h2 : x5 = x2) (h3 : x4 ≤ x6 ∧ x6 - 10 * x7 ≤ x4 - 10 * x5) : x0 ≤ x6 ∧ x6 - 10 * x7 + 10 ≤ x0 - 10 * x3 := by omega
theorem om_7de1bc600f {x0 x1 x2 x3 x4 x5 x6 x7 : Int} (h0 : x0 ≤ x1 ∧ x1 - 15 * x2 + 0 ≤ x0 - 15 * x3) (h1 : x4 = x1) (h2 : x5 = x2) (h3 : x4 ≤ x6 ∧ x6 - 15 * x7 ≤ x4 - 15 * x5) : x0 ≤ x6 ∧ x6 - 15 * x7 + 0 ≤ x0 - 15 * x3 := by omega
theorem om_a800f031ff {x0 x1 x2 x3 x4 x5 x6 x7 : Int} (h0 : x0 ≤ x1 ∧ x1 - 1 * x2 + 1 ≤ x0 - 1 * x3) (h1 : x4 = x1) (h2 : x5 = x2) (h3 : x4 ≤ x6 ∧ x6 - 1 * x7 ≤ x4 - 1 * x5) : x0 ≤ x6 ∧ x6 - 1 * x7 + 1 ≤ x0 - 1 * x3 := by omega
theorem om_a96e790d0e {x0 x1 x2 x3 x4 x5 x6 x7 x8 x9 x10 x11 x12 x13 x14 x15 x16 x17 x18 : Int} (h0 : x0 = x1 + x2 ∧ x3 = x4 + 1 ∧ x5 + x0 ≤ 500) (h1 : x6 = x5) (h2 : x7 = x0) (h3 : x8 = x9) (h4 : x10 = x3) (h5 : (x6 + x0 + 1 ≤ x11 ∧ x12 = x13) ∨ x12 = x9) (h6 : x14 ≤ x11 ∧ x11 ≤ 500) (h7 : x12 ≠ x8) (h8 : x15 = x7 ∧ x16 = x10) (h9 : x17 = (x15) + 1) (h10 : x18 = x2 + 1) : x17 = x1 + x18 ∧ x16 = x4 + 1 ∧ x5 + x17 ≤ 500 := by omega
theorem om_bfb48e15b8 {x0 x1 x2 x3 : Int} (h0 : x0 ≤ x1 ∧ x1 ≤ 500) (h1 : x1 ≤ x2 ∧ x2 ≤ 500) (h2 : x2 ≤ x3 ∧ x3 ≤ 500) : x0 ≤ x3 ∧ x3 ≤ 500 := by omega
theorem om_11eab9cfcd {x0 x1 x2 : Int} (h0 : x0 = x1) (h1 : x0 + 1 ≤ x2 ∧ x2 ≤ 1500) : 1500 - x2 < 1500 - x1 := by omega
theorem om_7b2416efdf {x0 x1 x2 : Int} (h0 : x0 = x1) (h1 : x0 + 1 ≤ x2 ∧ x2 ≤ 1500) : 0 < 1500 - x1 := by omega
theorem om_974ce78dbd {x0 x1 x2 : Int} (h0 : x0 = x1) : -2147483648 ≤ (x2) + 1 := by omega
theorem om_5c80432c67 {x0 x1 x2 x3 x4 x5 : Int} (h0 : x0 ≠ x1) (h1 : x1 + 2 ≤ x2 ∧ x2 ≤ 1500 ∧ x0 ≠ x1) (h2 : x3 = x2) (h3 : x3 + 1 ≤ x4 ∧ x4 ≤ 1500) (h4 : x5 = (x4) + 1) (h5 : x4 < 1500) : x1 + 2 ≤ x5 ∧ x5 ≤ 1500 ∧ x0 ≠ x1 := by omega
theorem om_c9f49278e2 {x0 x1 x2 x3 x4 x5 x6 x7 x8 x9 x10 x11 : Int} (h0 : x0 ≤ x1 ∧ x1 - 15 * x2 + 14 + x3 ≤ x0 - 15 * x4) (h1 : 0 ≤ x3 ∧ x3 ≤ 1) (h2 : x5 = x1) (h3 : x6 = x2) (h4 : x5 ≤ x7 ∧ x7 - 15 * x8 ≤ x5 - 15 * x6) (h5 : x9 = (x7) + 1) (h6 : 0 ≤ x10 ∧ x10 ≤ 1) (h7 : x11 = (x8) + 1) : x0 ≤ x9 ∧ x9 - 15 * x11 + 14 + x10 ≤ x0 - 15 * x4 := by omega
theorem om_3c098c46d5 {x0 : Int} (h0 : 0 ≤ x0 ∧ x0 ≤ 1) : 0 ≤ x0 ∧ x0 ≤ 1 := by omega
theorem om_a82e6191d3 {x0 x1 x2 x3 x4 x5 x6 x7 x8 : Int} (h0 : x0 ≤ x1 ∧ x1 - 10 * x2 + 10 ≤ x0 - 10 * x3) (h1 : x4 = x1) (h2 : x5 = x2) (h3 : x4 ≤ x6 ∧ x6 - 10 * x7 ≤ x4 - 10 * x5) (h4 : x8 = (x7) + 1) : x0 ≤ x6 ∧ x6 - 10 * x8 + 10 ≤ x0 - 10 * x3 := by omega
theorem om_84be5b1ab0 {x0 x1 x2 x3 x4 x5 x6 x7 x8 : Int} (h0 : x0 ≤ x1 ∧ x1 - 15 * x2 + 0 ≤ x0 - 15 * x3) (h1 : x4 = x1) (h2 : x5 = x2) (h3 : x4 ≤ x6 ∧ x6 - 15 * x7 ≤ x4 - 15 * x5) (h4 : x8 = (x7) + 1) : x0 ≤ x6 ∧ x6 - 15 * x8 + 0 ≤ x0 - 15 * x3 := by omega
theorem om_76d4e086e2 {x0 x1 x2 x3 x4 x5 x6 x7 x8 : Int} (h0 : x0 ≤ x1 ∧ x1 - 1 * x2 + 1 ≤ x0 - 1 * x3) (h1 : x4 = x1) (h2 : x5 = x2) (h3 : x4 ≤ x6 ∧ x6 - 1 * x7 ≤ x4 - 1 * x5) (h4 : x8 = (x7) + 1) : x0 ≤ x6 ∧ x6 - 1 * x8 + 1 ≤ x0 - 1 * x3 := by omega
theorem om_9dadf41de6 {x0 x1 x2 x3 : Int} (h0 : x0 = x1) (h1 : x0 + 1 ≤ x2 ∧ x2 ≤ 1500) (h2 : x3 = (x2) + 1) : 1500 - x3 < 1500 - x1 := by omega
theorem om_581ba89dc8 {x0 x1 x2 : Int} (h0 : x0 = x1) (h1 : x0 + 1 ≤ x2 ∧ x2 ≤ 1500) (h2 : x2 < 1500) : 0 < 1500 - x1 := by omega
theorem om_55dc333e68 {x0 x1 x2 x3 x4 x5 x6 : Int} (h0 : 0 ≤ x0 ∧ x0 ≤ 500) (h1 : 0 ≤ x1 ∧ x0 + x1 ≤ 500) (h2 : x2 = x1 + x3 ∧ x4 = x5 + 1 ∧ x0 + x2 ≤ 500) (h3 : x6 = x0) (h4 : x3 = 8) : 0 ≤ x6 ∧ x6 ≤ 500 := by omega
theorem om_b07cb957a5 {x0 x1 x2 x3 x4 x5 : Int} (h0 : 0 ≤ x0 ∧ x0 ≤ 500) (h1 : 0 ≤ x1 ∧ x0 + x1 ≤ 500) (h2 : x2 = x1 + x3 ∧ x4 = x5 + 1 ∧ x0 + x2 ≤ 500) (h3 : x3 = 8) : 0 ≤ x2 ∧ x2 ≤ 2000 := by omega
theorem om_bf43386a25 {x0 x1 x2 x3 x4 x5 x6 x7 : Int} (h0 : 0 ≤ x0 ∧ x0 ≤ 500) (h1 : 0 ≤ x1 ∧ x0 + x1 ≤ 500) (h2 : x2 = x1 + x3 ∧ x4 = x5 + 1 ∧ x0 + x2 ≤ 500) (h3 : x6 = x0) (h4 : x3 = 8) (h5 : x7 = x6) : 0 ≤ x7 ∧ x7 ≤ 500 := by omega
theorem om_028fd2e4b1 {x0 x1 x2 x3 x4 x5 x6 x7 x8 : Int} (h0 : 0 ≤ x0 ∧ x1 + x0 ≤ 500) (h1 : x2 = x0 + x3 ∧ x4 = x5 + 1 ∧ x1 + x2 ≤ 500) (h2 : x6 = x1) (h3 : x3 = 8) (h4 : x7 = x6) (h5 : x8 = x2) : 0 ≤ x8 ∧ x7 + x8 ≤ 500 := by omega
theorem om_5230a27707 {x0 x1 x2 x3 x4 x5 x6 x7 x8 x9 : Int} (h0 : 0 ≤ x0 ∧ x1 + x0 ≤ 500) (h1 : x2 = x0 + x3 ∧ x4 = x5 + 1 ∧ x1 + x2 ≤ 500) (h2 : x3 = 8) (h3 : x6 = x2) (h4 : x7 = x6 ∧ x8 = x9) : -2147483648 ≤ (x7) + 1 := by omega
theorem om_ea7535eea9 {x0 : Int} (h0 : x0 = 8) : -2147483648 ≤ x0 + 1 := by omega
theorem om_610be07bca {x0 x1 x2 x3 x4 x5 x6 x7 : Int} (h0 : x0 = 8) (h1 : x1 = x2) (h2 : (x3 + x4 + 1 ≤ x5 ∧ x6 = x2) ∨ x6 = x2) (h3 : x6 ≠ x1) (h4 : x7 = x0 + 1) : 0 ≤ x7 ∧ x7 ≤ 8 := by omega
theorem om_7caa19de08 {x0 x1 x2 x3 x4 x5 x6 x7 x8 x9 x10 x11 x12 x13 x14 x15 x16 x17 : Int} (h0 : x0 = x1 + x2 ∧ x3 = x4 + 1 ∧ x5 + x0 ≤ 500) (h1 : x6 = x5) (h2 : x7 = x0) (h3 : x8 = x9) (h4 : x10 = x3) (h5 : (x6 + x0 + 1 ≤ x11 ∧ x12 = x9) ∨ x12 = x9) (h6 : x13 ≤ x11 ∧ x11 ≤ 500) (h7 : x12 ≠ x8) (h8 : x14 = x7 ∧ x15 = x10) (h9 : x16 = (x14) + 1) (h10 : x17 = x2 + 1) : x16 = x1 + x17 ∧ x15 = x4 + 1 ∧ x5 + x16 ≤ 500 := by omega
set_option maxHeartbeats 16000000 in
set_option maxRecDepth 100000 in
theorem c_m_call (l : Launch) (n : Nat) (ihE : ∀ m, n = m + 1 → Cx_expression l m) (dC : Nat → ClassId) (dI : Nat → Nat → Nat) (cI cB cZ cJ cR : ClassId) (tb : Nat → Nat) (sz : Nat) (ad : Nat → Nat) (N : Nat) (v : MS)  (zn : 40 ≤ (v.1 0 48).toInt + (n : Int)) (zt : 0 ≤ (v.1 0 47).toInt ∧ (v.1 0 47).toInt ≤ 1500) (zop : 0 ≤ (v.1 0 48).toInt ∧ (v.1 0 48).toInt ≤ 40) (zkn : 0 ≤ (v.1 0 30).toInt ∧ (v.1 0 30).toInt ≤ 500) (zhi : 0 ≤ (v.1 0 33).toInt ∧ (v.1 0 33).toInt ≤ 500) (zs : 0 ≤ (v.1 0 32).toInt ∧ (v.1 0 30).toInt + (v.1 0 32).toInt ≤ 500) (zws : 0 ≤ (v.1 0 12).toInt ∧ (v.1 0 12).toInt ≤ 15 * (v.1 0 47).toInt + 2) (zos : 0 ≤ (v.1 0 15).toInt ∧ (v.1 0 15).toInt ≤ 10 * (v.1 0 47).toInt + 0) (zfs : 0 ≤ (v.1 0 43).toInt ∧ (v.1 0 43).toInt ≤ 15 * (v.1 0 47).toInt + 0) (zcs : 0 ≤ (v.1 0 39).toInt ∧ (v.1 0 39).toInt ≤ 1 * (v.1 0 47).toInt + 0) (zgl : 0 ≤ (v.1 0 27).toInt ∧ (v.1 0 27).toInt ≤ 60) (hT : TI v) (n29 : NI 29 v) (n23 : NI 23 v) (n35 : NI 35 v) : vx_Met l yX13_call (Cond.code yX13_call cX13_call 6 none :: tw_W) ({ frames := 40 * n + 7, cells := 0, slots := 0, locals := 28 * (40 * n + 7) }) (pc_ (dC, dI) (tyS cI cB cZ cJ cR) tb (mW ad N cI cZ cJ v) sz [.ref (ad 0)]) (qv_ (dC, dI) (mW ad N cI cZ cJ v) sz (fun (u : MS) => FG [12, 15, 32, 33, 39, 43, 44, 45, 47, 48, 49, 50, 51] [0, 11, 13, 14, 35, 36, 37, 38, 40, 41, 42] v u ∧ ((v.1 0 47).toInt + 1 ≤ (u.1 0 47).toInt ∧ (u.1 0 47).toInt ≤ 1500) ∧ ((v.1 0 49).toInt ≠ (v.1 0 47).toInt) ∧ ((v.1 0 12).toInt ≤ (u.1 0 12).toInt ∧ (u.1 0 12).toInt - 15 * (u.1 0 47).toInt ≤ (v.1 0 12).toInt - 15 * (v.1 0 47).toInt) ∧ ((v.1 0 15).toInt ≤ (u.1 0 15).toInt ∧ (u.1 0 15).toInt - 10 * (u.1 0 47).toInt ≤ (v.1 0 15).toInt - 10 * (v.1 0 47).toInt) ∧ ((v.1 0 43).toInt ≤ (u.1 0 43).toInt ∧ (u.1 0 43).toInt - 15 * (u.1 0 47).toInt ≤ (v.1 0 43).toInt - 15 * (v.1 0 47).toInt) ∧ ((v.1 0 39).toInt ≤ (u.1 0 39).toInt ∧ (u.1 0 39).toInt - 1 * (u.1 0 47).toInt ≤ (v.1 0 39).toInt - 1 * (v.1 0 47).toInt) ∧ ((u.1 0 32).toInt = (v.1 0 32).toInt ∧ (u.1 0 48).toInt = (v.1 0 48).toInt) ∧ ((v.1 0 33).toInt ≤ (u.1 0 33).toInt ∧ (u.1 0 33).toInt ≤ 500) ∧ (∀ j : Nat, (j : Int) < (v.1 0 12).toInt → (u.1 11) j = (v.1 11) j) ∧ (∀ j : Nat, (j : Int) < (v.1 0 15).toInt → (u.1 13) j = (v.1 13) j) ∧ (∀ j : Nat, (j : Int) < (v.1 0 15).toInt → (u.1 14) j = (v.1 14) j) ∧ (NI 35 u)) (fun (u : MS) => (mW ad N cI cZ cJ u))) (qxm (dC, dI) (mW ad N cI cZ cJ v) sz (fun (u : MS) => (mW ad N cI cZ cJ u)) (fun (u : MS) => Fr v u)) 0 0 (va_A (mW ad N cI cZ cJ v) sz) := by
  refine vx_ofW (cc := cX13_call) (maxL := 6) (ret := none) (by decide) rfl ?_
  intro p e s m args below meth c s₁ B hml hnt hv
  obtain ⟨rfl, hsz, hP, hKK, hD0, hFx⟩ := hv
  have hK := hKK.1
  have hx := B.exec
  have hb := B.bytes
  have hr := B.returns
  have ht : ∀ w ∈ tw_W, w.before _ s = true := fun w h => atoms_spec (ws := Cond.code yX13_call cX13_call 6 none :: tw_W) B.pre w (List.mem_cons_of_mem _ h)
  have hown : s.vm.findClass RX13 = some m.cls := findClass_of_methodNamed B.named
  have hlocks := B.notSynchronized
  subst hsz
  unfold qv_ qxm
  have hD := hD0.self (sz := s.heap.size)
  generalize hAe : va_A (mW ad N cI cZ cJ v) s.heap.size = A at hD hFx ⊢
  have hA : ∀ q : Nat, s.heap.size ≤ q → A q := fun q h => by rw [← hAe]; exact Or.inr h
  have hS : va_S A s.heap s.heap [] := va_S.rf
  have hl := lv_entry ([.ref (ad 0)]) (n := 6) (Nat.le_of_ble_eq_true rfl)
  rw [lg_entry_eq]
  generalize (lg_sl ([.ref (ad 0)]) ++ List.replicate (6 - (lg_sl ([.ref (ad 0)])).length) Slot.unset).toArray = ls at hl ⊢
  have hl : lv_has ls 6 [(0, .ref (ad 0))] := hl
  refine lv_aload_n hx hb dX13_call_0 rfl (lv_at hl 0 rfl) ?_
  refine lv_aload_n hx hb dX13_call_1 rfl (lv_at hl 0 rfl) ?_
  refine va_get (D := (dC, dI)) (ci := 16) (fs := mF ad v) (v := .int (v.1 0 47)) (C := RX13) (T := TX13) (N := 124) hx hb ht itX13 hown hK hP 0 rfl rfl 47 (by decide) (ht _ tw_24) (fun _ h9 => h9) rfl dX13_call_2 ?_
  refine cu_i (rn_V (n := 1) (As := [.int (v.1 0 47)]) (rest := []) hx hb hml hown ht hKK hFx hP hD hS hA (c_m_local l dC dI cI cB cZ cJ cR tb s.heap.size ad N v (v.1 0 47) (show 0 ≤ (v.1 0 47).toInt ∧ (v.1 0 47).toInt < 4002 from (om_d0702dcce3 zt zfs)) (show 0 ≤ (v.1 0 30).toInt ∧ (v.1 0 30).toInt ≤ 501 from (om_3af6ab4c7d zkn)) (FG.ti (fl := pfl) (al := pal) (FG.rf _) (by decide) (by decide) hT) (n29)) tw_98 tw_99 (by decide +kernel) rfl rfl ⟨show 1 + 1 ≤ 40 * n + 7 from om_9d6ac316d0, show 8 + (3 + 11) + 25 ≤ 28 * (40 * n + 7) from om_c9f0e2297a⟩ (List.range (mW ad N cI cZ cJ v).length) (rg_map _) (mW_nd _ _ _ _ _ _) rfl rfl rfl rfl hl.1 rfl (Nat.le_of_ble_eq_true rfl) dX13_call_5 ⟨Nat.le_of_ble_eq_true rfl, Nat.le_of_ble_eq_true rfl⟩) hP hD hS hA (fun r3 u2 H locs hw1 hP hD hS => ?_)
  obtain ⟨rfl, a1, b1⟩ := hw1
  refine W.widen (k := 0) (n := 0) (Nat.le_refl _) (Nat.le_refl _) ?_
  refine lv_if_ge (tgt := 22) hx hb dX13_call_8 (by decide) (fun h4 => ?_) (fun h4 => ?_)
  · have z5 : 0 ≤ r3.toInt := le_z (show (0 : Int32).toInt = 0 by decide) rfl h4
    refine lv_aload_n hx hb dX13_call_22 rfl (lv_at hl 0 rfl) ?_
    refine lv_iconst (v := 3) hx hb dX13_call_23 (by decide) ?_
    refine lv_aload_n hx hb dX13_call_24 rfl (lv_at hl 0 rfl) ?_
    refine va_get (D := (dC, dI)) (ci := 16) (fs := mF ad v) (v := .int (v.1 0 47)) (C := RX13) (T := TX13) (N := 124) hx hb ht itX13 hown hK hP 0 rfl rfl 47 (by decide) (ht _ tw_24) (fun _ h9 => h9) rfl dX13_call_25 ?_
    refine cu_r (rn_V (n := 2) (As := [.int 3, .int (v.1 0 47)]) (rest := []) hx hb hml hown ht hKK hFx hP hD hS hA (c_m_fail l dC dI cI cB cZ cJ cR tb H.size ad N v (3 : Int32) (v.1 0 47) (show 0 ≤ (v.1 0 47).toInt ∧ (v.1 0 47).toInt < 4002 from (om_d0702dcce3 zt zfs))) tw_25 tw_26 (by decide +kernel) rfl rfl ⟨show 0 + 1 ≤ 40 * n + 7 from om_8e99a81d6b, show 8 + (3 + 11) + 0 ≤ 28 * (40 * n + 7) from om_3763ab29f8⟩ (List.range (mW ad N cI cZ cJ v).length) (rg_map _) (mW_nd _ _ _ _ _ _) rfl rfl rfl rfl hl.1 rfl (Nat.le_of_ble_eq_true rfl) dX13_call_28 ⟨Nat.le_of_ble_eq_true rfl, Nat.le_of_ble_eq_true rfl⟩) hP hD hS hA (fun u7 H locs hw6 hP hD hS => ?_)
    obtain rfl := hw6
    have hP : va_P (dC, dI) vwCl (mW ad N cI cZ cJ (wA (wA v 0 50 (3 : Int32)) 0 51 ((v.1 7) (v.1 0 47).toNatClampNeg))) H := hP
    have hD : va_D A (mW ad N cI cZ cJ (wA (wA v 0 50 (3 : Int32)) 0 51 ((v.1 7) (v.1 0 47).toNatClampNeg))) := hD
    refine W.widen (k := 0) (n := 0) (Nat.le_refl _) (Nat.le_refl _) ?_
    obtain ⟨ce9, hc9, hv9, hf9⟩ := halt_at hK hP
    refine um_athrow hx hb dX13_call_31 ?_
    exact vx_out (fun x h9 => (hnt x h9).elim) hlocks hc9 hv9 hf9 (fun t9 ht9 hv8 => ⟨(wA (wA v 0 50 (3 : Int32)) 0 51 ((v.1 7) (v.1 0 47).toNatClampNeg)), (FG.f (FG.f (FG.rf _) (3 : Int32) (by decide)) ((v.1 7) (v.1 0 47).toNatClampNeg) (by decide)), ⟨rfl, by rw [ht9]; exact hP, hD⟩, hS.F ht9⟩) hS.2.2 (Nat.le_refl _) (Nat.le_refl _)
  · have z9 : r3.toInt < 0 := nle_z (show (0 : Int32).toInt = 0 by decide) rfl h4
    refine lv_aload_n hx hb dX13_call_11 rfl (lv_at hl 0 rfl) ?_
    refine lv_aload_n hx hb dX13_call_12 rfl (lv_at hl 0 rfl) ?_
    refine va_get (D := (dC, dI)) (ci := 16) (fs := mF ad v) (v := .int (v.1 0 47)) (C := RX13) (T := TX13) (N := 124) hx hb ht itX13 hown hK hP 0 rfl rfl 47 (by decide) (ht _ tw_24) (fun _ h9 => h9) rfl dX13_call_13 ?_
    refine cu_i (rn_V (n := 1) (As := [.int (v.1 0 47)]) (rest := []) hx hb hml hown ht hKK hFx hP hD hS hA (c_m_globalOf l dC dI cI cB cZ cJ cR tb H.size ad N v (v.1 0 47) (show 0 ≤ (v.1 0 47).toInt ∧ (v.1 0 47).toInt < 4002 from (om_d0702dcce3 zt zfs)) (show 0 ≤ (v.1 0 27).toInt ∧ (v.1 0 27).toInt ≤ 60 from (om_1d2c7ad648 zgl)) (FG.ti (fl := pfl) (al := pal) (FG.rf _) (by decide) (by decide) hT) (n23)) tw_100 tw_101 (by decide +kernel) rfl rfl ⟨show 1 + 1 ≤ 40 * n + 7 from om_9d6ac316d0, show 8 + (3 + 11) + 25 ≤ 28 * (40 * n + 7) from om_c9f0e2297a⟩ (List.range (mW ad N cI cZ cJ v).length) (rg_map _) (mW_nd _ _ _ _ _ _) rfl rfl rfl rfl hl.1 rfl (Nat.le_of_ble_eq_true rfl) dX13_call_16 ⟨Nat.le_of_ble_eq_true rfl, Nat.le_of_ble_eq_true rfl⟩) hP hD hS hA (fun r12 u11 H locs hw10 hP hD hS => ?_)
    obtain ⟨rfl, a10, b10⟩ := hw10
    refine W.widen (k := 0) (n := 0) (Nat.le_refl _) (Nat.le_refl _) ?_
    refine lv_if_lt (tgt := 32) hx hb dX13_call_19 (by decide) (fun h13 => ?_) (fun h13 => ?_)
    · have z14 : r12.toInt < 0 := lt_z rfl (show (0 : Int32).toInt = 0 by decide) h13
      refine lv_aload_n hx hb dX13_call_32 rfl (lv_at hl 0 rfl) ?_
      refine va_get (D := (dC, dI)) (ci := 16) (fs := mF ad v) (v := .int (v.1 0 39)) (C := RX13) (T := TX13) (N := 124) hx hb ht itX13 hown hK hP 0 rfl rfl 39 (by decide) (ht _ tw_105) (fun _ h9 => h9) rfl dX13_call_33 ?_
      refine lv_istore_n (lv' := [(1, .int (v.1 0 39)), (0, .ref (ad 0))]) hx hb dX13_call_36 rfl hl (by decide) rfl (fun ls hl => ?_)
      refine lv_aload_n hx hb dX13_call_37 rfl (lv_at hl 1 rfl) ?_
      refine lv_dup hx hb dX13_call_38 rfl ?_
      refine va_get (D := (dC, dI)) (ci := 16) (fs := mF ad v) (v := .int (v.1 0 39)) (C := RX13) (T := TX13) (N := 124) hx hb ht itX13 hown hK hP 0 rfl rfl 39 (by decide) (ht _ tw_105) (fun _ h9 => h9) rfl dX13_call_39 ?_
      refine lv_iconst (v := 1) hx hb dX13_call_42 (by decide) ?_
      refine lv_iadd hx hb dX13_call_43 ?_
      have z15 : ((v.1 0 39) + (1 : Int32)).toInt = ((v.1 0 39).toInt) + 1 := add_z rfl (show (1 : Int32).toInt = 1 by decide) (om_22bfffe066 zcs) (om_e538d4d42a zt zcs)
      refine va_put (D := (dC, dI)) (ci := 16) (fs := mF ad v) (v := .int ((v.1 0 39) + (1 : Int32))) (ty := .int) (C := RX13) (T := TX13) (N := 124) hx hb ht itX13 tyX13 tyX13_ok nmX13 hown hK hP hD hS 0 rfl rfl 39 (by decide) (ht _ tw_105) (fun _ h9 => h9) rfl (by decide +kernel) rfl rfl (Nat.le_of_ble_eq_true rfl) dX13_call_44 (fun H locs hP hD hS => ?_)
      have hP := cP_ (mw_39 ad N cI cZ cJ v ((v.1 0 39) + (1 : Int32))) hP
      have hD := cD_ (mw_39 ad N cI cZ cJ v ((v.1 0 39) + (1 : Int32))) hD
      refine lv_aload_n hx hb dX13_call_47 rfl (lv_at hl 1 rfl) ?_
      refine va_get (D := (dC, dI)) (ci := 16) (fs := mF ad (wA v 0 39 ((v.1 0 39) + (1 : Int32)))) (v := .ref (ad 35)) (C := RX13) (T := TX13) (N := 124) hx hb ht itX13 hown hK hP 0 rfl rfl 35 (by decide) (ht _ tw_106) (fun _ h9 => h9) rfl dX13_call_48 ?_
      refine lv_iload_n hx hb dX13_call_51 rfl (lv_at hl 0 rfl) ?_
      refine lv_aload_n hx hb dX13_call_52 rfl (lv_at hl 1 rfl) ?_
      refine va_get (D := (dC, dI)) (ci := 16) (fs := mF ad (wA v 0 39 ((v.1 0 39) + (1 : Int32)))) (v := .int (v.1 0 47)) (C := RX13) (T := TX13) (N := 124) hx hb ht itX13 hown hK hP 0 rfl rfl 47 (by decide) (ht _ tw_24) (fun _ h9 => h9) rfl dX13_call_53 ?_
      refine va_iast (D := (dC, dI)) (f := (v.1 35)) hx hb hK hP hD hS 22 0 rfl rfl (in_y (a := (v.1 0 39).toInt) (b := 4000) rfl (om_eff68e0d8d zcs) (om_7fb54af03d zt zcs) rfl) dX13_call_56 (fun H locs hP hD hS => ?_)
      have hP := cP_ (ma_35 ad N cI cZ cJ (wA v 0 39 ((v.1 0 39) + (1 : Int32))) ((v.1 0 39).toNatClampNeg) (v.1 0 47)) hP
      have hD := cD_ (ma_35 ad N cI cZ cJ (wA v 0 39 ((v.1 0 39) + (1 : Int32))) ((v.1 0 39).toNatClampNeg) (v.1 0 47)) hD
      refine lv_aload_n hx hb dX13_call_57 rfl (lv_at hl 1 rfl) ?_
      refine cux_v (rx_V (n := 0) (As := []) (rest := []) hx hb hml hown ht hKK hFx hP hD hS hA (c_m_take l dC dI cI cB cZ cJ cR tb H.size ad N (wA (wA v 0 39 ((v.1 0 39) + (1 : Int32))) 35 ((v.1 0 39).toNatClampNeg) (v.1 0 47))  (show 0 ≤ (v.1 0 47).toInt ∧ (v.1 0 47).toInt ≤ 1500 from (om_2fb699b811 zt zfs))) tw_32 tw_33 (by decide +kernel) rfl rfl ⟨show 1 + 1 ≤ 40 * n + 7 from om_9d6ac316d0, show 8 + (1 + 11) + 22 ≤ 28 * (40 * n + 7) from om_9e58535660⟩ (List.range (mW ad N cI cZ cJ (wA (wA v 0 39 ((v.1 0 39) + (1 : Int32))) 35 ((v.1 0 39).toNatClampNeg) (v.1 0 47))).length) (rg_map _) (mW_nd _ _ _ _ _ _) rfl rfl rfl rfl hl.1 rfl (Nat.le_of_ble_eq_true rfl) dX13_call_58 ⟨Nat.le_of_ble_eq_true rfl, Nat.le_of_ble_eq_true rfl⟩) hP hD hS hA (fun u9 ce9 q9 H locs hx9 hP hD hS hc9 hv9 hf9 => ?_) (fun u17 H locs hw16 hP hD hS => ?_)
      · exact vx_out (fun x h9 => (hnt x h9).elim) hlocks hc9 hv9 hf9 (fun t9 ht9 hv8 => ⟨u9, (FG.tr (FG.a (FG.f (FG.rf _) ((v.1 0 39) + (1 : Int32)) (by decide)) ((v.1 0 39).toNatClampNeg) (v.1 0 47) (by decide) (by decide)) hx9), ⟨rfl, by rw [ht9]; exact hP, hD⟩, hS.F ht9⟩) hS.2.2 (Nat.le_refl _) (Nat.le_refl _)
      obtain ⟨rfl, a16, b16⟩ := hw16
      have z19 : ((v.1 0 47) + (1 : Int32)).toInt = ((v.1 0 47).toInt) + 1 := add_z rfl (show (1 : Int32).toInt = 1 by decide) om_41768d81aa (om_4c41a33dcc zt)
      have hP : va_P (dC, dI) vwCl (mW ad N cI cZ cJ (wA (wA (wA v 0 39 ((v.1 0 39) + (1 : Int32))) 35 ((v.1 0 39).toNatClampNeg) (v.1 0 47)) 0 47 ((v.1 0 47) + (1 : Int32)))) H := hP
      have hD : va_D A (mW ad N cI cZ cJ (wA (wA (wA v 0 39 ((v.1 0 39) + (1 : Int32))) 35 ((v.1 0 39).toNatClampNeg) (v.1 0 47)) 0 47 ((v.1 0 47) + (1 : Int32)))) := hD
      have a16 : (v.1 0 47).toInt < 1500 := a16
      have b16 : (v.1 0 49).toInt ≠ (v.1 0 47).toInt := b16
      refine W.widen (k := 0) (n := 0) (Nat.le_refl _) (Nat.le_refl _) ?_
      refine lv_aload_n hx hb dX13_call_61 rfl (lv_at hl 1 rfl) ?_
      refine lv_bipush (v := 40) hx hb dX13_call_62 (by decide) ?_
      refine cux_v (rx_V (n := 1) (As := [.int 40]) (rest := []) hx hb hml hown ht hKK hFx hP hD hS hA (c_m_open l dC dI cI cB cZ cJ cR tb H.size ad N (wA (wA (wA v 0 39 ((v.1 0 39) + (1 : Int32))) 35 ((v.1 0 39).toNatClampNeg) (v.1 0 47)) 0 47 ((v.1 0 47) + (1 : Int32))) (40 : Int32) (show 0 ≤ ((v.1 0 47) + (1 : Int32)).toInt ∧ ((v.1 0 47) + (1 : Int32)).toInt ≤ 1500 from (om_546b696276 zfs z19 a16)) (show 0 ≤ (v.1 0 48).toInt ∧ (v.1 0 48).toInt ≤ 40 from (om_7eaf33e007 zop))) tw_78 tw_79 (by decide +kernel) rfl rfl ⟨show 3 + 1 ≤ 40 * n + 7 from om_c983938bd3, show 8 + (2 + 11) + 62 ≤ 28 * (40 * n + 7) from om_8c6422358d⟩ (List.range (mW ad N cI cZ cJ (wA (wA (wA v 0 39 ((v.1 0 39) + (1 : Int32))) 35 ((v.1 0 39).toNatClampNeg) (v.1 0 47)) 0 47 ((v.1 0 47) + (1 : Int32)))).length) (rg_map _) (mW_nd _ _ _ _ _ _) rfl rfl rfl rfl hl.1 rfl (Nat.le_of_ble_eq_true rfl) dX13_call_64 ⟨Nat.le_of_ble_eq_true rfl, Nat.le_of_ble_eq_true rfl⟩) hP hD hS hA (fun u9 ce9 q9 H locs hx9 hP hD hS hc9 hv9 hf9 => ?_) (fun u21 H locs hw20 hP hD hS => ?_)
      · exact vx_out (fun x h9 => (hnt x h9).elim) hlocks hc9 hv9 hf9 (fun t9 ht9 hv8 => ⟨u9, (FG.tr (FG.f (FG.a (FG.f (FG.rf _) ((v.1 0 39) + (1 : Int32)) (by decide)) ((v.1 0 39).toNatClampNeg) (v.1 0 47) (by decide) (by decide)) ((v.1 0 47) + (1 : Int32)) (by decide)) hx9), ⟨rfl, by rw [ht9]; exact hP, hD⟩, hS.F ht9⟩) hS.2.2 (Nat.le_refl _) (Nat.le_refl _)
      obtain ⟨rfl, a20, b20, c20⟩ := hw20
      have z23 : (((v.1 0 47) + (1 : Int32)) + (1 : Int32)).toInt = (((v.1 0 47).toInt) + 1) + 1 := add_z z19 (show (1 : Int32).toInt = 1 by decide) om_dd57b474c4 (om_043e19c23e zt)
      have z24 : ((v.1 0 48) + (1 : Int32)).toInt = ((v.1 0 48).toInt) + 1 := add_z rfl (show (1 : Int32).toInt = 1 by decide) (om_4349469ff4 zop) (om_40605d3eee zop)
      have hP : va_P (dC, dI) vwCl (mW ad N cI cZ cJ (wA (wA (wA (wA (wA v 0 39 ((v.1 0 39) + (1 : Int32))) 35 ((v.1 0 39).toNatClampNeg) (v.1 0 47)) 0 47 ((v.1 0 47) + (1 : Int32))) 0 47 (((v.1 0 47) + (1 : Int32)) + (1 : Int32))) 0 48 ((v.1 0 48) + (1 : Int32)))) H := hP
      have hD : va_D A (mW ad N cI cZ cJ (wA (wA (wA (wA (wA v 0 39 ((v.1 0 39) + (1 : Int32))) 35 ((v.1 0 39).toNatClampNeg) (v.1 0 47)) 0 47 ((v.1 0 47) + (1 : Int32))) 0 47 (((v.1 0 47) + (1 : Int32)) + (1 : Int32))) 0 48 ((v.1 0 48) + (1 : Int32)))) := hD
      have a20 : ((v.1 0 47) + (1 : Int32)).toInt < 1500 := a20
      have b20 : (v.1 0 48).toInt < 40 := b20
      have c20 : (v.1 0 49).toInt ≠ ((v.1 0 47) + (1 : Int32)).toInt := c20
      refine W.widen (k := 0) (n := 0) (Nat.le_refl _) (Nat.le_refl _) ?_
      refine lv_iconst (v := 0) hx hb dX13_call_67 (by decide) ?_
      refine lv_istore_n (lv' := [(2, .int 0), (1, .int (v.1 0 39)), (0, .ref (ad 0))]) hx hb dX13_call_68 rfl hl (by decide) rfl (fun ls hl => ?_)
      refine lv_aload_n hx hb dX13_call_69 rfl (lv_at hl 2 rfl) ?_
      refine va_get (D := (dC, dI)) (ci := 16) (fs := mF ad (wA (wA (wA (wA (wA v 0 39 ((v.1 0 39) + (1 : Int32))) 35 ((v.1 0 39).toNatClampNeg) (v.1 0 47)) 0 47 ((v.1 0 47) + (1 : Int32))) 0 47 (((v.1 0 47) + (1 : Int32)) + (1 : Int32))) 0 48 ((v.1 0 48) + (1 : Int32)))) (v := .int (v.1 0 30)) (C := RX13) (T := TX13) (N := 124) hx hb ht itX13 hown hK hP 0 rfl rfl 30 (by decide) (ht _ tw_44) (fun _ h9 => h9) rfl dX13_call_70 ?_
      refine lv_aload_n hx hb dX13_call_73 rfl (lv_at hl 2 rfl) ?_
      refine va_get (D := (dC, dI)) (ci := 16) (fs := mF ad (wA (wA (wA (wA (wA v 0 39 ((v.1 0 39) + (1 : Int32))) 35 ((v.1 0 39).toNatClampNeg) (v.1 0 47)) 0 47 ((v.1 0 47) + (1 : Int32))) 0 47 (((v.1 0 47) + (1 : Int32)) + (1 : Int32))) 0 48 ((v.1 0 48) + (1 : Int32)))) (v := .int (v.1 0 32)) (C := RX13) (T := TX13) (N := 124) hx hb ht itX13 hown hK hP 0 rfl rfl 32 (by decide) (ht _ tw_52) (fun _ h9 => h9) rfl dX13_call_74 ?_
      refine lv_iadd hx hb dX13_call_77 ?_
      have z25 : ((v.1 0 30) + (v.1 0 32)).toInt = ((v.1 0 30).toInt) + ((v.1 0 32).toInt) := add_z rfl rfl (om_e7937ea0e3 zkn zs) (om_7026b2bbc8 zs)
      refine lv_istore_n (lv' := [(3, .int ((v.1 0 30) + (v.1 0 32))), (2, .int 0), (1, .int (v.1 0 39)), (0, .ref (ad 0))]) hx hb dX13_call_78 rfl hl (by decide) rfl (fun ls hl => ?_)
      refine lv_aload_n hx hb dX13_call_79 rfl (lv_at hl 3 rfl) ?_
      refine lv_bipush (v := 41) hx hb dX13_call_80 (by decide) ?_
      refine cu_i (rn_V (n := 1) (As := [.int 41]) (rest := []) hx hb hml hown ht hKK hFx hP hD hS hA (c_m_is l dC dI cI cB cZ cJ cR tb H.size ad N (wA (wA (wA (wA (wA v 0 39 ((v.1 0 39) + (1 : Int32))) 35 ((v.1 0 39).toNatClampNeg) (v.1 0 47)) 0 47 ((v.1 0 47) + (1 : Int32))) 0 47 (((v.1 0 47) + (1 : Int32)) + (1 : Int32))) 0 48 ((v.1 0 48) + (1 : Int32))) (41 : Int32) (show 0 ≤ (((v.1 0 47) + (1 : Int32)) + (1 : Int32)).toInt ∧ (((v.1 0 47) + (1 : Int32)) + (1 : Int32)).toInt ≤ 1500 from (om_ae802feffd zfs z19 z23 a20))) tw_34 tw_35 (by decide +kernel) rfl rfl ⟨show 1 + 1 ≤ 40 * n + 7 from om_9d6ac316d0, show 8 + (2 + 11) + 22 ≤ 28 * (40 * n + 7) from om_7fcb3e7e8b⟩ (List.range (mW ad N cI cZ cJ (wA (wA (wA (wA (wA v 0 39 ((v.1 0 39) + (1 : Int32))) 35 ((v.1 0 39).toNatClampNeg) (v.1 0 47)) 0 47 ((v.1 0 47) + (1 : Int32))) 0 47 (((v.1 0 47) + (1 : Int32)) + (1 : Int32))) 0 48 ((v.1 0 48) + (1 : Int32)))).length) (rg_map _) (mW_nd _ _ _ _ _ _) rfl rfl rfl rfl hl.1 rfl (Nat.le_of_ble_eq_true rfl) dX13_call_82 ⟨Nat.le_of_ble_eq_true rfl, Nat.le_of_ble_eq_true rfl⟩) hP hD hS hA (fun r28 u27 H locs hw26 hP hD hS => ?_)
      obtain ⟨rfl, b26, e26⟩ := hw26
      have b26 : (r28 = 0 ∨ r28 = 1) := b26
      have e26 : 0 ≤ r28.toInt ∧ r28.toInt ≤ 1 := e26
      refine W.widen (k := 0) (n := 0) (Nat.le_refl _) (Nat.le_refl _) ?_
      refine lv_if_ne (tgt := 171) hx hb dX13_call_85 (by decide) (fun h29 => ?_) (fun h29 => ?_)
      · have z30 : r28.toInt ≠ 0 := ne_z rfl (show (0 : Int32).toInt = 0 by decide) h29
        refine lv_aload_n hx hb dX13_call_171 rfl (lv_at hl 3 rfl) ?_
        refine lv_bipush (v := 41) hx hb dX13_call_172 (by decide) ?_
        refine cux_v (rx_V (n := 1) (As := [.int 41]) (rest := []) hx hb hml hown ht hKK hFx hP hD hS hA (c_m_close l dC dI cI cB cZ cJ cR tb H.size ad N (wA (wA (wA (wA (wA v 0 39 ((v.1 0 39) + (1 : Int32))) 35 ((v.1 0 39).toNatClampNeg) (v.1 0 47)) 0 47 ((v.1 0 47) + (1 : Int32))) 0 47 (((v.1 0 47) + (1 : Int32)) + (1 : Int32))) 0 48 ((v.1 0 48) + (1 : Int32))) (41 : Int32) (show 0 ≤ (((v.1 0 47) + (1 : Int32)) + (1 : Int32)).toInt ∧ (((v.1 0 47) + (1 : Int32)) + (1 : Int32)).toInt ≤ 1500 from (om_ae802feffd zfs z19 z23 a20)) (show 0 ≤ ((v.1 0 48) + (1 : Int32)).toInt ∧ ((v.1 0 48) + (1 : Int32)).toInt ≤ 40 from (om_2692a2ca83 zop z24 b20))) tw_82 tw_83 (by decide +kernel) rfl rfl ⟨show 3 + 1 ≤ 40 * n + 7 from om_c983938bd3, show 8 + (2 + 11) + 64 ≤ 28 * (40 * n + 7) from om_c7e38a8301⟩ (List.range (mW ad N cI cZ cJ (wA (wA (wA (wA (wA v 0 39 ((v.1 0 39) + (1 : Int32))) 35 ((v.1 0 39).toNatClampNeg) (v.1 0 47)) 0 47 ((v.1 0 47) + (1 : Int32))) 0 47 (((v.1 0 47) + (1 : Int32)) + (1 : Int32))) 0 48 ((v.1 0 48) + (1 : Int32)))).length) (rg_map _) (mW_nd _ _ _ _ _ _) rfl rfl rfl rfl hl.1 rfl (Nat.le_of_ble_eq_true rfl) dX13_call_174 ⟨Nat.le_of_ble_eq_true rfl, Nat.le_of_ble_eq_true rfl⟩) hP hD hS hA (fun u9 ce9 q9 H locs hx9 hP hD hS hc9 hv9 hf9 => ?_) (fun u32 H locs hw31 hP hD hS => ?_)
        · exact vx_out (fun x h9 => (hnt x h9).elim) hlocks hc9 hv9 hf9 (fun t9 ht9 hv8 => ⟨u9, (FG.tr (FG.f (FG.f (FG.f (FG.a (FG.f (FG.rf _) ((v.1 0 39) + (1 : Int32)) (by decide)) ((v.1 0 39).toNatClampNeg) (v.1 0 47) (by decide) (by decide)) ((v.1 0 47) + (1 : Int32)) (by decide)) (((v.1 0 47) + (1 : Int32)) + (1 : Int32)) (by decide)) ((v.1 0 48) + (1 : Int32)) (by decide)) hx9), ⟨rfl, by rw [ht9]; exact hP, hD⟩, hS.F ht9⟩) hS.2.2 (Nat.le_refl _) (Nat.le_refl _)
        obtain ⟨rfl, a31, c31⟩ := hw31
        have z34 : ((((v.1 0 47) + (1 : Int32)) + (1 : Int32)) + (1 : Int32)).toInt = ((((v.1 0 47).toInt) + 1) + 1) + 1 := add_z z23 (show (1 : Int32).toInt = 1 by decide) om_4a9b053eff (om_565fab1677 zt)
        have z35 : (((v.1 0 48) + (1 : Int32)) - (1 : Int32)).toInt = (((v.1 0 48).toInt) + 1) - 1 := sub_z z24 (show (1 : Int32).toInt = 1 by decide) (om_1b8d8f630d zop) (om_c5ab695f03 zop)
        have hP : va_P (dC, dI) vwCl (mW ad N cI cZ cJ (wA (wA (wA (wA (wA (wA (wA v 0 39 ((v.1 0 39) + (1 : Int32))) 35 ((v.1 0 39).toNatClampNeg) (v.1 0 47)) 0 47 ((v.1 0 47) + (1 : Int32))) 0 47 (((v.1 0 47) + (1 : Int32)) + (1 : Int32))) 0 48 ((v.1 0 48) + (1 : Int32))) 0 47 ((((v.1 0 47) + (1 : Int32)) + (1 : Int32)) + (1 : Int32))) 0 48 (((v.1 0 48) + (1 : Int32)) - (1 : Int32)))) H := hP
        have hD : va_D A (mW ad N cI cZ cJ (wA (wA (wA (wA (wA (wA (wA v 0 39 ((v.1 0 39) + (1 : Int32))) 35 ((v.1 0 39).toNatClampNeg) (v.1 0 47)) 0 47 ((v.1 0 47) + (1 : Int32))) 0 47 (((v.1 0 47) + (1 : Int32)) + (1 : Int32))) 0 48 ((v.1 0 48) + (1 : Int32))) 0 47 ((((v.1 0 47) + (1 : Int32)) + (1 : Int32)) + (1 : Int32))) 0 48 (((v.1 0 48) + (1 : Int32)) - (1 : Int32)))) := hD
        have a31 : (((v.1 0 47) + (1 : Int32)) + (1 : Int32)).toInt < 1500 := a31
        have c31 : (v.1 0 49).toInt ≠ (((v.1 0 47) + (1 : Int32)) + (1 : Int32)).toInt := c31
        refine W.widen (k := 0) (n := 0) (Nat.le_refl _) (Nat.le_refl _) ?_
        obtain ⟨u36, hu37⟩ : ∃ z, z = (wA (wA (wA (wA (wA (wA (wA v 0 39 ((v.1 0 39) + (1 : Int32))) 35 ((v.1 0 39).toNatClampNeg) (v.1 0 47)) 0 47 ((v.1 0 47) + (1 : Int32))) 0 47 (((v.1 0 47) + (1 : Int32)) + (1 : Int32))) 0 48 ((v.1 0 48) + (1 : Int32))) 0 47 ((((v.1 0 47) + (1 : Int32)) + (1 : Int32)) + (1 : Int32))) 0 48 (((v.1 0 48) + (1 : Int32)) - (1 : Int32))) := ⟨_, rfl⟩
        have fr37 : FG [39, 47, 48] [0, 35] v u36 := by rw [hu37]; exact (FG.f (FG.f (FG.f (FG.f (FG.f (FG.a (FG.f (FG.rf _) ((v.1 0 39) + (1 : Int32)) (by decide)) ((v.1 0 39).toNatClampNeg) (v.1 0 47) (by decide) (by decide)) ((v.1 0 47) + (1 : Int32)) (by decide)) (((v.1 0 47) + (1 : Int32)) + (1 : Int32)) (by decide)) ((v.1 0 48) + (1 : Int32)) (by decide)) ((((v.1 0 47) + (1 : Int32)) + (1 : Int32)) + (1 : Int32)) (by decide)) (((v.1 0 48) + (1 : Int32)) - (1 : Int32)) (by decide))
        have n3537 : NI 35 u36 := by rw [hu37]; exact (NI.w (v := (wA v 0 39 ((v.1 0 39) + (1 : Int32)))) n35 (show 0 ≤ (v.1 0 47).toInt ∧ (v.1 0 47).toInt ≤ 1500 from (om_08d854e850 zfs z23 a31)))
        rw [← hu37] at hP hD
        refine lv_aload_n hx hb dX13_call_177 rfl (lv_at hl 3 rfl) ?_
        refine lv_dup hx hb dX13_call_178 rfl ?_
        refine va_get (D := (dC, dI)) (ci := 16) (fs := mF ad u36) (v := .int (u36.1 0 32)) (C := RX13) (T := TX13) (N := 124) hx hb ht itX13 hown hK hP 0 rfl rfl 32 (by decide) (ht _ tw_52) (fun _ h9 => h9) rfl dX13_call_179 ?_
        refine lv_iload_n hx hb dX13_call_182 rfl (lv_at hl 1 rfl) ?_
        refine lv_isub hx hb dX13_call_183 ?_
        have q38 : (u36.1 0 32).toInt = (v.1 0 32).toInt := congrArg Int32.toInt (fr37.2.1 32 (by decide))
        have z39 : ((u36.1 0 32) - (0 : Int32)).toInt = ((u36.1 0 32).toInt) - 0 := sub_z rfl (show (0 : Int32).toInt = 0 by decide) (om_afcf7f851f zs q38) (om_c7f6767c97 zkn zs q38)
        refine va_put (D := (dC, dI)) (ci := 16) (fs := mF ad u36) (v := .int ((u36.1 0 32) - (0 : Int32))) (ty := .int) (C := RX13) (T := TX13) (N := 124) hx hb ht itX13 tyX13 tyX13_ok nmX13 hown hK hP hD hS 0 rfl rfl 32 (by decide) (ht _ tw_52) (fun _ h9 => h9) rfl (by decide +kernel) rfl rfl (Nat.le_of_ble_eq_true rfl) dX13_call_184 (fun H locs hP hD hS => ?_)
        have hP := cP_ (mw_32 ad N cI cZ cJ u36 ((u36.1 0 32) - (0 : Int32))) hP
        have hD := cD_ (mw_32 ad N cI cZ cJ u36 ((u36.1 0 32) - (0 : Int32))) hD
        refine lv_aload_n hx hb dX13_call_187 rfl (lv_at hl 3 rfl) ?_
        refine va_get (D := (dC, dI)) (ci := 16) (fs := mF ad (wA u36 0 32 ((u36.1 0 32) - (0 : Int32)))) (v := .ref (ad 36)) (C := RX13) (T := TX13) (N := 124) hx hb ht itX13 hown hK hP 0 rfl rfl 36 (by decide) (ht _ tw_107) (fun _ h9 => h9) rfl dX13_call_188 ?_
        refine lv_iload_n hx hb dX13_call_191 rfl (lv_at hl 2 rfl) ?_
        refine lv_iload_n hx hb dX13_call_192 rfl (lv_at hl 1 rfl) ?_
        refine va_iast (D := (dC, dI)) (f := (u36.1 36)) hx hb hK hP hD hS 23 0 rfl rfl (in_y (a := (v.1 0 39).toInt) (b := 4000) rfl (om_eff68e0d8d zcs) (om_59dffa004b zcs a16) rfl) dX13_call_193 (fun H locs hP hD hS => ?_)
        have hP := cP_ (ma_36 ad N cI cZ cJ (wA u36 0 32 ((u36.1 0 32) - (0 : Int32))) ((v.1 0 39).toNatClampNeg) 0) hP
        have hD := cD_ (ma_36 ad N cI cZ cJ (wA u36 0 32 ((u36.1 0 32) - (0 : Int32))) ((v.1 0 39).toNatClampNeg) 0) hD
        refine lv_iload_n hx hb dX13_call_194 rfl (lv_at hl 1 rfl) ?_
        refine lv_if_le (tgt := 213) hx hb dX13_call_195 (by decide) (fun _ => ?_) (fun k40 => absurd k40 (by decide))
        refine lv_aload_n hx hb dX13_call_213 rfl (lv_at hl 3 rfl) ?_
        refine va_get (D := (dC, dI)) (ci := 16) (fs := mF ad (wA (wA u36 0 32 ((u36.1 0 32) - (0 : Int32))) 36 ((v.1 0 39).toNatClampNeg) 0)) (v := .ref (ad 37)) (C := RX13) (T := TX13) (N := 124) hx hb ht itX13 hown hK hP 0 rfl rfl 37 (by decide) (ht _ tw_108) (fun _ h9 => h9) rfl dX13_call_214 ?_
        refine lv_iload_n hx hb dX13_call_217 rfl (lv_at hl 2 rfl) ?_
        refine lv_aload_n hx hb dX13_call_218 rfl (lv_at hl 3 rfl) ?_
        refine lv_iconst (v := 0) hx hb dX13_call_219 (by decide) ?_
        have q41 : (u36.1 0 12).toInt = (v.1 0 12).toInt := congrArg Int32.toInt (fr37.2.1 12 (by decide))
        refine cu_i (rn_V (n := 1) (As := [.int 0]) (rest := [.int (v.1 0 39), .ref (ad 37)]) hx hb hml hown ht hKK hFx hP hD hS hA (c_m_emit l dC dI cI cB cZ cJ cR tb H.size ad N (wA (wA u36 0 32 ((u36.1 0 32) - (0 : Int32))) 36 ((v.1 0 39).toNatClampNeg) 0) (0 : Int32) (show 0 ≤ (u36.1 0 12).toInt ∧ (u36.1 0 12).toInt < 24000 from (om_76ced50d90 zws a16 q41))) tw_8 tw_9 (by decide +kernel) rfl rfl ⟨show 0 + 1 ≤ 40 * n + 7 from om_8e99a81d6b, show 8 + (2 + 11) + 0 ≤ 28 * (40 * n + 7) from om_b622fbbd61⟩ (List.range (mW ad N cI cZ cJ (wA (wA u36 0 32 ((u36.1 0 32) - (0 : Int32))) 36 ((v.1 0 39).toNatClampNeg) 0)).length) (rg_map _) (mW_nd _ _ _ _ _ _) rfl rfl rfl rfl hl.1 rfl (Nat.le_of_ble_eq_true rfl) dX13_call_220 ⟨Nat.le_of_ble_eq_true rfl, Nat.le_of_ble_eq_true rfl⟩) hP hD hS hA (fun r44 u43 H locs hw42 hP hD hS => ?_)
        obtain ⟨rfl, rfl⟩ := hw42
        have z45 : ((u36.1 0 12) + (1 : Int32)).toInt = ((u36.1 0 12).toInt) + 1 := add_z rfl (show (1 : Int32).toInt = 1 by decide) (om_1a06a266be zws q41) (om_a191191abf zws a16 q41)
        have hP : va_P (dC, dI) vwCl (mW ad N cI cZ cJ (wA (wA (wA (wA u36 0 32 ((u36.1 0 32) - (0 : Int32))) 36 ((v.1 0 39).toNatClampNeg) 0) 11 ((u36.1 0 12).toNatClampNeg) (0 : Int32)) 0 12 ((u36.1 0 12) + (1 : Int32)))) H := hP
        have hD : va_D A (mW ad N cI cZ cJ (wA (wA (wA (wA u36 0 32 ((u36.1 0 32) - (0 : Int32))) 36 ((v.1 0 39).toNatClampNeg) 0) 11 ((u36.1 0 12).toNatClampNeg) (0 : Int32)) 0 12 ((u36.1 0 12) + (1 : Int32)))) := hD
        refine tp_i (y := (u36.1 0 12)) (rfl) ?_
        refine W.widen (k := 0) (n := 0) (Nat.le_refl _) (Nat.le_refl _) ?_
        refine va_iast (D := (dC, dI)) (f := (u36.1 37)) hx hb hK hP hD hS 24 0 rfl rfl (in_y (a := (v.1 0 39).toInt) (b := 4000) rfl (om_eff68e0d8d zcs) (om_59dffa004b zcs a16) rfl) dX13_call_223 (fun H locs hP hD hS => ?_)
        have hP := cP_ (ma_37 ad N cI cZ cJ (wA (wA (wA (wA u36 0 32 ((u36.1 0 32) - (0 : Int32))) 36 ((v.1 0 39).toNatClampNeg) 0) 11 ((u36.1 0 12).toNatClampNeg) (0 : Int32)) 0 12 ((u36.1 0 12) + (1 : Int32))) ((v.1 0 39).toNatClampNeg) (u36.1 0 12)) hP
        have hD := cD_ (ma_37 ad N cI cZ cJ (wA (wA (wA (wA u36 0 32 ((u36.1 0 32) - (0 : Int32))) 36 ((v.1 0 39).toNatClampNeg) 0) 11 ((u36.1 0 12).toNatClampNeg) (0 : Int32)) 0 12 ((u36.1 0 12) + (1 : Int32))) ((v.1 0 39).toNatClampNeg) (u36.1 0 12)) hD
        refine lv_aload_n hx hb dX13_call_224 rfl (lv_at hl 3 rfl) ?_
        refine va_get (D := (dC, dI)) (ci := 16) (fs := mF ad (wA (wA (wA (wA (wA u36 0 32 ((u36.1 0 32) - (0 : Int32))) 36 ((v.1 0 39).toNatClampNeg) 0) 11 ((u36.1 0 12).toNatClampNeg) (0 : Int32)) 0 12 ((u36.1 0 12) + (1 : Int32))) 37 ((v.1 0 39).toNatClampNeg) (u36.1 0 12))) (v := .ref (ad 38)) (C := RX13) (T := TX13) (N := 124) hx hb ht itX13 hown hK hP 0 rfl rfl 38 (by decide) (ht _ tw_109) (fun _ h9 => h9) rfl dX13_call_225 ?_
        refine lv_iload_n hx hb dX13_call_228 rfl (lv_at hl 2 rfl) ?_
        refine lv_aload_n hx hb dX13_call_229 rfl (lv_at hl 3 rfl) ?_
        refine lv_bipush (v := 14) hx hb dX13_call_230 (by decide) ?_
        refine lv_iconst (v := 0) hx hb dX13_call_232 (by decide) ?_
        have q46 : (u36.1 0 15).toInt = (v.1 0 15).toInt := congrArg Int32.toInt (fr37.2.1 15 (by decide))
        refine cu_i (rn_V (n := 2) (As := [.int 14, .int 0]) (rest := [.int (v.1 0 39), .ref (ad 38)]) hx hb hml hown ht hKK hFx hP hD hS hA (c_m_say l dC dI cI cB cZ cJ cR tb H.size ad N (wA (wA (wA (wA (wA u36 0 32 ((u36.1 0 32) - (0 : Int32))) 36 ((v.1 0 39).toNatClampNeg) 0) 11 ((u36.1 0 12).toNatClampNeg) (0 : Int32)) 0 12 ((u36.1 0 12) + (1 : Int32))) 37 ((v.1 0 39).toNatClampNeg) (u36.1 0 12)) (14 : Int32) (0 : Int32) (show 0 ≤ (u36.1 0 15).toInt ∧ (u36.1 0 15).toInt < 16000 from (om_3d37f463d2 zos a16 q46))) tw_59 tw_60 (by decide +kernel) rfl rfl ⟨show 0 + 1 ≤ 40 * n + 7 from om_8e99a81d6b, show 8 + (3 + 11) + 0 ≤ 28 * (40 * n + 7) from om_3763ab29f8⟩ (List.range (mW ad N cI cZ cJ (wA (wA (wA (wA (wA u36 0 32 ((u36.1 0 32) - (0 : Int32))) 36 ((v.1 0 39).toNatClampNeg) 0) 11 ((u36.1 0 12).toNatClampNeg) (0 : Int32)) 0 12 ((u36.1 0 12) + (1 : Int32))) 37 ((v.1 0 39).toNatClampNeg) (u36.1 0 12))).length) (rg_map _) (mW_nd _ _ _ _ _ _) rfl rfl rfl rfl hl.1 rfl (Nat.le_of_ble_eq_true rfl) dX13_call_233 ⟨Nat.le_of_ble_eq_true rfl, Nat.le_of_ble_eq_true rfl⟩) hP hD hS hA (fun r49 u48 H locs hw47 hP hD hS => ?_)
        obtain ⟨rfl, rfl⟩ := hw47
        have z50 : ((u36.1 0 15) + (1 : Int32)).toInt = ((u36.1 0 15).toInt) + 1 := add_z rfl (show (1 : Int32).toInt = 1 by decide) (om_e7f4be22c0 zos q46) (om_43d6d5a97a zt zos q46)
        have hP : va_P (dC, dI) vwCl (mW ad N cI cZ cJ (wA (wA (wA (wA (wA (wA (wA (wA u36 0 32 ((u36.1 0 32) - (0 : Int32))) 36 ((v.1 0 39).toNatClampNeg) 0) 11 ((u36.1 0 12).toNatClampNeg) (0 : Int32)) 0 12 ((u36.1 0 12) + (1 : Int32))) 37 ((v.1 0 39).toNatClampNeg) (u36.1 0 12)) 13 ((u36.1 0 15).toNatClampNeg) (14 : Int32)) 14 ((u36.1 0 15).toNatClampNeg) (0 : Int32)) 0 15 ((u36.1 0 15) + (1 : Int32)))) H := hP
        have hD : va_D A (mW ad N cI cZ cJ (wA (wA (wA (wA (wA (wA (wA (wA u36 0 32 ((u36.1 0 32) - (0 : Int32))) 36 ((v.1 0 39).toNatClampNeg) 0) 11 ((u36.1 0 12).toNatClampNeg) (0 : Int32)) 0 12 ((u36.1 0 12) + (1 : Int32))) 37 ((v.1 0 39).toNatClampNeg) (u36.1 0 12)) 13 ((u36.1 0 15).toNatClampNeg) (14 : Int32)) 14 ((u36.1 0 15).toNatClampNeg) (0 : Int32)) 0 15 ((u36.1 0 15) + (1 : Int32)))) := hD
        refine tp_i (y := (u36.1 0 15)) (rfl) ?_
        refine W.widen (k := 0) (n := 0) (Nat.le_refl _) (Nat.le_refl _) ?_
        obtain ⟨u51, hu52⟩ : ∃ z, z = (wA (wA (wA (wA (wA (wA (wA (wA u36 0 32 ((u36.1 0 32) - (0 : Int32))) 36 ((v.1 0 39).toNatClampNeg) 0) 11 ((u36.1 0 12).toNatClampNeg) (0 : Int32)) 0 12 ((u36.1 0 12) + (1 : Int32))) 37 ((v.1 0 39).toNatClampNeg) (u36.1 0 12)) 13 ((u36.1 0 15).toNatClampNeg) (14 : Int32)) 14 ((u36.1 0 15).toNatClampNeg) (0 : Int32)) 0 15 ((u36.1 0 15) + (1 : Int32))) := ⟨_, rfl⟩
        have fr52 : FG [12, 15, 32] [0, 11, 13, 14, 36, 37] u36 u51 := by rw [hu52]; exact (FG.f (FG.a (FG.a (FG.a (FG.f (FG.a (FG.a (FG.f (FG.rf _) ((u36.1 0 32) - (0 : Int32)) (by decide)) ((v.1 0 39).toNatClampNeg) 0 (by decide) (by decide)) ((u36.1 0 12).toNatClampNeg) (0 : Int32) (by decide) (by decide)) ((u36.1 0 12) + (1 : Int32)) (by decide)) ((v.1 0 39).toNatClampNeg) (u36.1 0 12) (by decide) (by decide)) ((u36.1 0 15).toNatClampNeg) (14 : Int32) (by decide) (by decide)) ((u36.1 0 15).toNatClampNeg) (0 : Int32) (by decide) (by decide)) ((u36.1 0 15) + (1 : Int32)) (by decide))
        have kc52 : ∀ j : Nat, (j : Int) < (v.1 0 12).toInt → (u51.1 11) j = (v.1 11) j := by rw [hu52]; exact (fun (j9 : Nat) hj9 => (Eq.trans (pk_un3 (a := (u36.1 0 12).toInt) rfl (om_5c3049bd90 zws q41) (om_7a9921a7e5 q41 hj9)) (congrFun (fr37.2.2 11 (by decide)) j9)))
        have ko52 : ∀ j : Nat, (j : Int) < (v.1 0 15).toInt → (u51.1 13) j = (v.1 13) j := by rw [hu52]; exact (fun (j9 : Nat) hj9 => (Eq.trans (pk_un3 (a := (u36.1 0 15).toInt) rfl (om_f5f3e836e2 zos q46) (om_7a9921a7e5 q46 hj9)) (congrFun (fr37.2.2 13 (by decide)) j9)))
        have kg52 : ∀ j : Nat, (j : Int) < (v.1 0 15).toInt → (u51.1 14) j = (v.1 14) j := by rw [hu52]; exact (fun (j9 : Nat) hj9 => (Eq.trans (pk_un3 (a := (u36.1 0 15).toInt) rfl (om_f5f3e836e2 zos q46) (om_7a9921a7e5 q46 hj9)) (congrFun (fr37.2.2 14 (by decide)) j9)))
        rw [← hu52] at hP hD
        refine va_iast (D := (dC, dI)) (f := (u51.1 38)) hx hb hK hP hD hS 25 0 rfl rfl (in_y (a := (v.1 0 39).toInt) (b := 4000) rfl (om_eff68e0d8d zcs) (om_59dffa004b zcs a16) rfl) dX13_call_236 (fun H locs hP hD hS => ?_)
        have hP := cP_ (ma_38 ad N cI cZ cJ u51 ((v.1 0 39).toNatClampNeg) (u36.1 0 15)) hP
        have hD := cD_ (ma_38 ad N cI cZ cJ u51 ((v.1 0 39).toNatClampNeg) (u36.1 0 15)) hD
        have q53 : (u36.1 0 47).toInt = (((((v.1 0 47).toInt) + 1) + 1) + 1) := by rw [hu37]; exact (show ((((v.1 0 47) + (1 : Int32)) + (1 : Int32)) + (1 : Int32)).toInt = (((((v.1 0 47).toInt) + 1) + 1) + 1) from z34)
        have q54 : (u51.1 0 47).toInt = (u36.1 0 47).toInt := congrArg Int32.toInt (fr52.2.1 47 (by decide))
        have q55 : (u51.1 0 12).toInt = (((u36.1 0 12).toInt) + 1) := by rw [hu52]; exact (show ((u36.1 0 12) + (1 : Int32)).toInt = (((u36.1 0 12).toInt) + 1) from z45)
        have q56 : (u51.1 0 15).toInt = (((u36.1 0 15).toInt) + 1) := by rw [hu52]; exact (show ((u36.1 0 15) + (1 : Int32)).toInt = (((u36.1 0 15).toInt) + 1) from z50)
        have q57 : (u36.1 0 43).toInt = (v.1 0 43).toInt := congrArg Int32.toInt (fr37.2.1 43 (by decide))
        have q58 : (u51.1 0 43).toInt = (u36.1 0 43).toInt := congrArg Int32.toInt (fr52.2.1 43 (by decide))
        have q59 : (u36.1 0 39).toInt = (((v.1 0 39).toInt) + 1) := by rw [hu37]; exact (show ((v.1 0 39) + (1 : Int32)).toInt = (((v.1 0 39).toInt) + 1) from z15)
        have q60 : (u51.1 0 39).toInt = (u36.1 0 39).toInt := congrArg Int32.toInt (fr52.2.1 39 (by decide))
        have q61 : (u36.1 0 48).toInt = ((((v.1 0 48).toInt) + 1) - 1) := by rw [hu37]; exact (show (((v.1 0 48) + (1 : Int32)) - (1 : Int32)).toInt = ((((v.1 0 48).toInt) + 1) - 1) from z35)
        have q62 : (u51.1 0 32).toInt = (((u36.1 0 32).toInt) - 0) := by rw [hu52]; exact (show ((u36.1 0 32) - (0 : Int32)).toInt = (((u36.1 0 32).toInt) - 0) from z39)
        have q63 : (u51.1 0 48).toInt = (u36.1 0 48).toInt := congrArg Int32.toInt (fr52.2.1 48 (by decide))
        have q64 : (u36.1 0 33).toInt = (v.1 0 33).toInt := congrArg Int32.toInt (fr37.2.1 33 (by decide))
        have q65 : (u51.1 0 33).toInt = (u36.1 0 33).toInt := congrArg Int32.toInt (fr52.2.1 33 (by decide))
        refine vx_ret ?_
        exact W.vret hx hb hr (fun t ht9 hW => ⟨⟨(wA u51 38 ((v.1 0 39).toNatClampNeg) (u36.1 0 15)), rfl, ⟨(FG.a (FG.tr (FG.tr (FG.rf _) (FG.up fr37 (by decide) (by decide))) (FG.up fr52 (by decide) (by decide))) ((v.1 0 39).toNatClampNeg) (u36.1 0 15) (by decide) (by decide)), (show (v.1 0 47).toInt + 1 ≤ (u51.1 0 47).toInt ∧ (u51.1 0 47).toInt ≤ 1500 from (om_1cd1969ab4 z23 a31 q53 q54)), (show (v.1 0 49).toInt ≠ (v.1 0 47).toInt from (om_32294a9ce4 b16)), (show (v.1 0 12).toInt ≤ (u51.1 0 12).toInt ∧ (u51.1 0 12).toInt - 15 * (u51.1 0 47).toInt ≤ (v.1 0 12).toInt - 15 * (v.1 0 47).toInt from (om_25e714ae69 q41 q53 q55 q54)), (show (v.1 0 15).toInt ≤ (u51.1 0 15).toInt ∧ (u51.1 0 15).toInt - 10 * (u51.1 0 47).toInt ≤ (v.1 0 15).toInt - 10 * (v.1 0 47).toInt from (om_66a9d1c634 q46 q53 q56 q54)), (show (v.1 0 43).toInt ≤ (u51.1 0 43).toInt ∧ (u51.1 0 43).toInt - 15 * (u51.1 0 47).toInt ≤ (v.1 0 43).toInt - 15 * (v.1 0 47).toInt from (om_cc7faedc82 q57 q53 q58 q54)), (show (v.1 0 39).toInt ≤ (u51.1 0 39).toInt ∧ (u51.1 0 39).toInt - 1 * (u51.1 0 47).toInt ≤ (v.1 0 39).toInt - 1 * (v.1 0 47).toInt from (om_512831d3d5 q59 q53 q60 q54)), (show (u51.1 0 32).toInt = (v.1 0 32).toInt ∧ (u51.1 0 48).toInt = (v.1 0 48).toInt from (om_f2cc061f72 q38 q61 q62 q63)), (show (v.1 0 33).toInt ≤ (u51.1 0 33).toInt ∧ (u51.1 0 33).toInt ≤ 500 from (om_0aa458c3cb zhi q64 q65)), (fun (j9 : Nat) hj9 => (kc52 j9 hj9)), (fun (j9 : Nat) hj9 => (ko52 j9 hj9)), (fun (j9 : Nat) hj9 => (kg52 j9 hj9)), (show NI 35 u51 from NI.fr (fl := [12, 15, 32]) (al := [0, 11, 13, 14, 36, 37]) fr52 (by decide) n3537)⟩, by rw [ht9]; exact hP, hD⟩, hS.F ht9⟩) hS.2.2 dX13_call_237
      · have z66 : r28.toInt = 0 := eq_z rfl (show (0 : Int32).toInt = 0 by decide) h29
        refine lv_iconst (v := 1) hx hb dX13_call_88 (by decide) ?_
        refine lv_istore (lv' := [(4, .int 1), (3, .int ((v.1 0 30) + (v.1 0 32))), (2, .int 0), (1, .int (v.1 0 39)), (0, .ref (ad 0))]) hx hb dX13_call_89 hl (by decide) rfl (fun ls hl => ?_)
        refine lpm_ (X := Int32 × Int32 × MS) (P := (fun (x9 : Int32 × Int32 × MS) (H : Heap) (locs : List Loc) (ls : Array Slot) => (FG [12, 15, 32, 33, 39, 43, 44, 45, 47, 48, 49, 50, 51] [0, 11, 13, 14, 35, 36, 37, 38, 40, 41, 42] v x9.2.2) ∧ (0 ≤ x9.1.toInt ∧ x9.1.toInt ≤ 8) ∧ ((v.1 0 47).toInt + 2 ≤ (x9.2.2.1 0 47).toInt ∧ (x9.2.2.1 0 47).toInt ≤ 1500 ∧ (v.1 0 49).toInt ≠ (v.1 0 47).toInt) ∧ ((v.1 0 12).toInt ≤ (x9.2.2.1 0 12).toInt ∧ (x9.2.2.1 0 12).toInt - 15 * (x9.2.2.1 0 47).toInt + 14 + x9.2.1.toInt ≤ (v.1 0 12).toInt - 15 * (v.1 0 47).toInt) ∧ (0 ≤ x9.2.1.toInt ∧ x9.2.1.toInt ≤ 1) ∧ ((v.1 0 15).toInt ≤ (x9.2.2.1 0 15).toInt ∧ (x9.2.2.1 0 15).toInt - 10 * (x9.2.2.1 0 47).toInt + 10 ≤ (v.1 0 15).toInt - 10 * (v.1 0 47).toInt) ∧ ((v.1 0 43).toInt ≤ (x9.2.2.1 0 43).toInt ∧ (x9.2.2.1 0 43).toInt - 15 * (x9.2.2.1 0 47).toInt + 0 ≤ (v.1 0 43).toInt - 15 * (v.1 0 47).toInt) ∧ ((v.1 0 39).toInt ≤ (x9.2.2.1 0 39).toInt ∧ (x9.2.2.1 0 39).toInt - 1 * (x9.2.2.1 0 47).toInt + 1 ≤ (v.1 0 39).toInt - 1 * (v.1 0 47).toInt) ∧ ((x9.2.2.1 0 32).toInt = (v.1 0 32).toInt + x9.1.toInt ∧ (x9.2.2.1 0 48).toInt = (v.1 0 48).toInt + 1 ∧ (v.1 0 30).toInt + (x9.2.2.1 0 32).toInt ≤ 500) ∧ ((v.1 0 33).toInt ≤ (x9.2.2.1 0 33).toInt ∧ (x9.2.2.1 0 33).toInt ≤ 500) ∧ (∀ j : Nat, (j : Int) < (v.1 0 12).toInt → (x9.2.2.1 11) j = (v.1 11) j) ∧ (∀ j : Nat, (j : Int) < (v.1 0 15).toInt → (x9.2.2.1 13) j = (v.1 13) j) ∧ (∀ j : Nat, (j : Int) < (v.1 0 15).toInt → (x9.2.2.1 14) j = (v.1 14) j) ∧ (NI 35 x9.2.2) ∧ va_P (dC, dI) vwCl (mW ad N cI cZ cJ x9.2.2) H ∧ va_D A (mW ad N cI cZ cJ x9.2.2) ∧ va_S A s.heap H locs ∧ lv_has ls 6 [(4, .int x9.2.1), (3, .int ((v.1 0 30) + (v.1 0 32))), (2, .int x9.1), (1, .int (v.1 0 39)), (0, .ref (ad 0))])) (fun x9 => (1500 - (x9.2.2.1 0 47).toInt).toNat) 91 (fun x9 H locs ls hh ih91 => ?_) (0, 1, (wA (wA (wA (wA (wA v 0 39 ((v.1 0 39) + (1 : Int32))) 35 ((v.1 0 39).toNatClampNeg) (v.1 0 47)) 0 47 ((v.1 0 47) + (1 : Int32))) 0 47 (((v.1 0 47) + (1 : Int32)) + (1 : Int32))) 0 48 ((v.1 0 48) + (1 : Int32)))) _ _ _ ⟨(show FG [12, 15, 32, 33, 39, 43, 44, 45, 47, 48, 49, 50, 51] [0, 11, 13, 14, 35, 36, 37, 38, 40, 41, 42] v (wA (wA (wA (wA (wA v 0 39 ((v.1 0 39) + (1 : Int32))) 35 ((v.1 0 39).toNatClampNeg) (v.1 0 47)) 0 47 ((v.1 0 47) + (1 : Int32))) 0 47 (((v.1 0 47) + (1 : Int32)) + (1 : Int32))) 0 48 ((v.1 0 48) + (1 : Int32))) from (FG.f (FG.f (FG.f (FG.a (FG.f (FG.rf _) ((v.1 0 39) + (1 : Int32)) (by decide)) ((v.1 0 39).toNatClampNeg) (v.1 0 47) (by decide) (by decide)) ((v.1 0 47) + (1 : Int32)) (by decide)) (((v.1 0 47) + (1 : Int32)) + (1 : Int32)) (by decide)) ((v.1 0 48) + (1 : Int32)) (by decide))), (show 0 ≤ 0 ∧ 0 ≤ 8 from om_f57f4cdc86), (show (v.1 0 47).toInt + 2 ≤ (((v.1 0 47) + (1 : Int32)) + (1 : Int32)).toInt ∧ (((v.1 0 47) + (1 : Int32)) + (1 : Int32)).toInt ≤ 1500 ∧ (v.1 0 49).toInt ≠ (v.1 0 47).toInt from (om_33b81b7bc4 z19 b16 z23 a20)), (show (v.1 0 12).toInt ≤ (v.1 0 12).toInt ∧ (v.1 0 12).toInt - 15 * (((v.1 0 47) + (1 : Int32)) + (1 : Int32)).toInt + 14 + 1 ≤ (v.1 0 12).toInt - 15 * (v.1 0 47).toInt from (om_e63a6f4696 z23)), (show 0 ≤ 1 ∧ 1 ≤ 1 from om_265f6a15b3), (show (v.1 0 15).toInt ≤ (v.1 0 15).toInt ∧ (v.1 0 15).toInt - 10 * (((v.1 0 47) + (1 : Int32)) + (1 : Int32)).toInt + 10 ≤ (v.1 0 15).toInt - 10 * (v.1 0 47).toInt from (om_f48fa5821e z23)), (show (v.1 0 43).toInt ≤ (v.1 0 43).toInt ∧ (v.1 0 43).toInt - 15 * (((v.1 0 47) + (1 : Int32)) + (1 : Int32)).toInt + 0 ≤ (v.1 0 43).toInt - 15 * (v.1 0 47).toInt from (om_2c5e739fbe z23)), (show (v.1 0 39).toInt ≤ ((v.1 0 39) + (1 : Int32)).toInt ∧ ((v.1 0 39) + (1 : Int32)).toInt - 1 * (((v.1 0 47) + (1 : Int32)) + (1 : Int32)).toInt + 1 ≤ (v.1 0 39).toInt - 1 * (v.1 0 47).toInt from (om_672f33d88e z15 z23)), (show (v.1 0 32).toInt = (v.1 0 32).toInt + 0 ∧ ((v.1 0 48) + (1 : Int32)).toInt = (v.1 0 48).toInt + 1 ∧ (v.1 0 30).toInt + (v.1 0 32).toInt ≤ 500 from (om_7f01bebe05 zs z24)), (show (v.1 0 33).toInt ≤ (v.1 0 33).toInt ∧ (v.1 0 33).toInt ≤ 500 from (om_b8827882d9 zhi)), (show ∀ j : Nat, (j : Int) < (v.1 0 12).toInt → (v.1 11) j = (v.1 11) j from (fun (j9 : Nat) hj9 => rfl)), (show ∀ j : Nat, (j : Int) < (v.1 0 15).toInt → (v.1 13) j = (v.1 13) j from (fun (j9 : Nat) hj9 => rfl)), (show ∀ j : Nat, (j : Int) < (v.1 0 15).toInt → (v.1 14) j = (v.1 14) j from (fun (j9 : Nat) hj9 => rfl)), (show NI 35 (wA (wA (wA (wA (wA v 0 39 ((v.1 0 39) + (1 : Int32))) 35 ((v.1 0 39).toNatClampNeg) (v.1 0 47)) 0 47 ((v.1 0 47) + (1 : Int32))) 0 47 (((v.1 0 47) + (1 : Int32)) + (1 : Int32))) 0 48 ((v.1 0 48) + (1 : Int32))) from (NI.w (v := (wA v 0 39 ((v.1 0 39) + (1 : Int32)))) n35 (show 0 ≤ (v.1 0 47).toInt ∧ (v.1 0 47).toInt ≤ 1500 from (om_cb2da83618 zfs a16)))), hP, hD, hS, lv_sub hl [0, 1, 2, 3, 4] rfl⟩
        obtain ⟨na, mo, w91⟩ := x9
        obtain ⟨fwL91, l1L91, l2L91, l3L91, lmL91, l4L91, l5L91, l6L91, l7L91, l8L91, kcL91, koL91, kgL91, n35L91, hP, hD, hS, hl⟩ := hh
        have fwL91 : FG [12, 15, 32, 33, 39, 43, 44, 45, 47, 48, 49, 50, 51] [0, 11, 13, 14, 35, 36, 37, 38, 40, 41, 42] v w91 := fwL91
        have l1L91 : 0 ≤ na.toInt ∧ na.toInt ≤ 8 := l1L91
        have l2L91 : (v.1 0 47).toInt + 2 ≤ (w91.1 0 47).toInt ∧ (w91.1 0 47).toInt ≤ 1500 ∧ (v.1 0 49).toInt ≠ (v.1 0 47).toInt := l2L91
        have l3L91 : (v.1 0 12).toInt ≤ (w91.1 0 12).toInt ∧ (w91.1 0 12).toInt - 15 * (w91.1 0 47).toInt + 14 + mo.toInt ≤ (v.1 0 12).toInt - 15 * (v.1 0 47).toInt := l3L91
        have lmL91 : 0 ≤ mo.toInt ∧ mo.toInt ≤ 1 := lmL91
        have l4L91 : (v.1 0 15).toInt ≤ (w91.1 0 15).toInt ∧ (w91.1 0 15).toInt - 10 * (w91.1 0 47).toInt + 10 ≤ (v.1 0 15).toInt - 10 * (v.1 0 47).toInt := l4L91
        have l5L91 : (v.1 0 43).toInt ≤ (w91.1 0 43).toInt ∧ (w91.1 0 43).toInt - 15 * (w91.1 0 47).toInt + 0 ≤ (v.1 0 43).toInt - 15 * (v.1 0 47).toInt := l5L91
        have l6L91 : (v.1 0 39).toInt ≤ (w91.1 0 39).toInt ∧ (w91.1 0 39).toInt - 1 * (w91.1 0 47).toInt + 1 ≤ (v.1 0 39).toInt - 1 * (v.1 0 47).toInt := l6L91
        have l7L91 : (w91.1 0 32).toInt = (v.1 0 32).toInt + na.toInt ∧ (w91.1 0 48).toInt = (v.1 0 48).toInt + 1 ∧ (v.1 0 30).toInt + (w91.1 0 32).toInt ≤ 500 := l7L91
        have l8L91 : (v.1 0 33).toInt ≤ (w91.1 0 33).toInt ∧ (w91.1 0 33).toInt ≤ 500 := l8L91
        have kcL91 : ∀ j : Nat, (j : Int) < (v.1 0 12).toInt → (w91.1 11) j = (v.1 11) j := kcL91
        have koL91 : ∀ j : Nat, (j : Int) < (v.1 0 15).toInt → (w91.1 13) j = (v.1 13) j := koL91
        have kgL91 : ∀ j : Nat, (j : Int) < (v.1 0 15).toInt → (w91.1 14) j = (v.1 14) j := kgL91
        have n35L91 : NI 35 w91 := n35L91
        have hP : va_P (dC, dI) vwCl (mW ad N cI cZ cJ w91) H := hP
        have hD : va_D A (mW ad N cI cZ cJ w91) := hD
        have hl : lv_has ls 6 [(4, .int mo), (3, .int ((v.1 0 30) + (v.1 0 32))), (2, .int na), (1, .int (v.1 0 39)), (0, .ref (ad 0))] := hl
        refine lv_iload hx hb dX13_call_91 (lv_at hl 0 rfl) ?_
        refine lv_if_eq (tgt := 171) hx hb dX13_call_93 (by decide) (fun h67 => ?_) (fun h67 => ?_)
        · have z68 : mo.toInt = 0 := eq_z rfl (show (0 : Int32).toInt = 0 by decide) h67
          refine lv_aload_n hx hb dX13_call_171 rfl (lv_at hl 4 rfl) ?_
          refine lv_bipush (v := 41) hx hb dX13_call_172 (by decide) ?_
          refine cux_v (rx_V (n := 1) (As := [.int 41]) (rest := []) hx hb hml hown ht hKK hFx hP hD hS hA (c_m_close l dC dI cI cB cZ cJ cR tb H.size ad N w91 (41 : Int32) (show 0 ≤ (w91.1 0 47).toInt ∧ (w91.1 0 47).toInt ≤ 1500 from (om_4b83eb0f4d zfs l2L91 l4L91)) (show 0 ≤ (w91.1 0 48).toInt ∧ (w91.1 0 48).toInt ≤ 40 from (om_2690ee518b zop b20 l7L91))) tw_82 tw_83 (by decide +kernel) rfl rfl ⟨show 3 + 1 ≤ 40 * n + 7 from om_c983938bd3, show 8 + (2 + 11) + 64 ≤ 28 * (40 * n + 7) from om_c7e38a8301⟩ (List.range (mW ad N cI cZ cJ w91).length) (rg_map _) (mW_nd _ _ _ _ _ _) rfl rfl rfl rfl hl.1 rfl (Nat.le_of_ble_eq_true rfl) dX13_call_174 ⟨Nat.le_of_ble_eq_true rfl, Nat.le_of_ble_eq_true rfl⟩) hP hD hS hA (fun u9 ce9 q9 H locs hx9 hP hD hS hc9 hv9 hf9 => ?_) (fun u70 H locs hw69 hP hD hS => ?_)
          · exact vx_out (fun x h9 => (hnt x h9).elim) hlocks hc9 hv9 hf9 (fun t9 ht9 hv8 => ⟨u9, (FG.tr (FG.tr (FG.rf _) (FG.up fwL91 (by decide) (by decide))) hx9), ⟨rfl, by rw [ht9]; exact hP, hD⟩, hS.F ht9⟩) hS.2.2 (Nat.le_refl _) (Nat.le_refl _)
          obtain ⟨rfl, a69, c69⟩ := hw69
          have z72 : ((w91.1 0 47) + (1 : Int32)).toInt = ((w91.1 0 47).toInt) + 1 := add_z rfl (show (1 : Int32).toInt = 1 by decide) om_41768d81aa (om_4c26923d51 l2L91)
          have z73 : ((w91.1 0 48) - (1 : Int32)).toInt = ((w91.1 0 48).toInt) - 1 := sub_z rfl (show (1 : Int32).toInt = 1 by decide) (om_9f727c2885 zop l7L91) (om_7f8f9d33e5 b20 l7L91)
          have hP : va_P (dC, dI) vwCl (mW ad N cI cZ cJ (wA (wA w91 0 47 ((w91.1 0 47) + (1 : Int32))) 0 48 ((w91.1 0 48) - (1 : Int32)))) H := hP
          have hD : va_D A (mW ad N cI cZ cJ (wA (wA w91 0 47 ((w91.1 0 47) + (1 : Int32))) 0 48 ((w91.1 0 48) - (1 : Int32)))) := hD
          have a69 : (w91.1 0 47).toInt < 1500 := a69
          have c69 : (w91.1 0 49).toInt ≠ (w91.1 0 47).toInt := c69
          refine W.widen (k := 0) (n := 0) (Nat.le_refl _) (Nat.le_refl _) ?_
          refine lv_aload_n hx hb dX13_call_177 rfl (lv_at hl 4 rfl) ?_
          refine lv_dup hx hb dX13_call_178 rfl ?_
          refine va_get (D := (dC, dI)) (ci := 16) (fs := mF ad (wA (wA w91 0 47 ((w91.1 0 47) + (1 : Int32))) 0 48 ((w91.1 0 48) - (1 : Int32)))) (v := .int (w91.1 0 32)) (C := RX13) (T := TX13) (N := 124) hx hb ht itX13 hown hK hP 0 rfl rfl 32 (by decide) (ht _ tw_52) (fun _ h9 => h9) rfl dX13_call_179 ?_
          refine lv_iload_n hx hb dX13_call_182 rfl (lv_at hl 2 rfl) ?_
          refine lv_isub hx hb dX13_call_183 ?_
          have z74 : ((w91.1 0 32) - na).toInt = ((w91.1 0 32).toInt) - na.toInt := sub_z rfl rfl (om_dba6398040 zs l7L91) (om_ce647d8687 zkn l1L91 l7L91)
          refine va_put (D := (dC, dI)) (ci := 16) (fs := mF ad (wA (wA w91 0 47 ((w91.1 0 47) + (1 : Int32))) 0 48 ((w91.1 0 48) - (1 : Int32)))) (v := .int ((w91.1 0 32) - na)) (ty := .int) (C := RX13) (T := TX13) (N := 124) hx hb ht itX13 tyX13 tyX13_ok nmX13 hown hK hP hD hS 0 rfl rfl 32 (by decide) (ht _ tw_52) (fun _ h9 => h9) rfl (by decide +kernel) rfl rfl (Nat.le_of_ble_eq_true rfl) dX13_call_184 (fun H locs hP hD hS => ?_)
          have hP := cP_ (mw_32 ad N cI cZ cJ (wA (wA w91 0 47 ((w91.1 0 47) + (1 : Int32))) 0 48 ((w91.1 0 48) - (1 : Int32))) ((w91.1 0 32) - na)) hP
          have hD := cD_ (mw_32 ad N cI cZ cJ (wA (wA w91 0 47 ((w91.1 0 47) + (1 : Int32))) 0 48 ((w91.1 0 48) - (1 : Int32))) ((w91.1 0 32) - na)) hD
          refine lv_aload_n hx hb dX13_call_187 rfl (lv_at hl 4 rfl) ?_
          refine va_get (D := (dC, dI)) (ci := 16) (fs := mF ad (wA (wA (wA w91 0 47 ((w91.1 0 47) + (1 : Int32))) 0 48 ((w91.1 0 48) - (1 : Int32))) 0 32 ((w91.1 0 32) - na))) (v := .ref (ad 36)) (C := RX13) (T := TX13) (N := 124) hx hb ht itX13 hown hK hP 0 rfl rfl 36 (by decide) (ht _ tw_107) (fun _ h9 => h9) rfl dX13_call_188 ?_
          refine lv_iload_n hx hb dX13_call_191 rfl (lv_at hl 3 rfl) ?_
          refine lv_iload_n hx hb dX13_call_192 rfl (lv_at hl 2 rfl) ?_
          refine va_iast (D := (dC, dI)) (f := (w91.1 36)) hx hb hK hP hD hS 23 0 rfl rfl (in_y (a := (v.1 0 39).toInt) (b := 4000) rfl (om_eff68e0d8d zcs) (om_59dffa004b zcs a16) rfl) dX13_call_193 (fun H locs hP hD hS => ?_)
          have hP := cP_ (ma_36 ad N cI cZ cJ (wA (wA (wA w91 0 47 ((w91.1 0 47) + (1 : Int32))) 0 48 ((w91.1 0 48) - (1 : Int32))) 0 32 ((w91.1 0 32) - na)) ((v.1 0 39).toNatClampNeg) na) hP
          have hD := cD_ (ma_36 ad N cI cZ cJ (wA (wA (wA w91 0 47 ((w91.1 0 47) + (1 : Int32))) 0 48 ((w91.1 0 48) - (1 : Int32))) 0 32 ((w91.1 0 32) - na)) ((v.1 0 39).toNatClampNeg) na) hD
          refine lv_iload_n hx hb dX13_call_194 rfl (lv_at hl 2 rfl) ?_
          refine lv_if_le (tgt := 213) hx hb dX13_call_195 (by decide) (fun h75 => ?_) (fun h75 => ?_)
          · have z76 : na.toInt ≤ 0 := le_z rfl (show (0 : Int32).toInt = 0 by decide) h75
            refine lv_aload_n hx hb dX13_call_213 rfl (lv_at hl 4 rfl) ?_
            refine va_get (D := (dC, dI)) (ci := 16) (fs := mF ad (wA (wA (wA (wA w91 0 47 ((w91.1 0 47) + (1 : Int32))) 0 48 ((w91.1 0 48) - (1 : Int32))) 0 32 ((w91.1 0 32) - na)) 36 ((v.1 0 39).toNatClampNeg) na)) (v := .ref (ad 37)) (C := RX13) (T := TX13) (N := 124) hx hb ht itX13 hown hK hP 0 rfl rfl 37 (by decide) (ht _ tw_108) (fun _ h9 => h9) rfl dX13_call_214 ?_
            refine lv_iload_n hx hb dX13_call_217 rfl (lv_at hl 3 rfl) ?_
            refine lv_aload_n hx hb dX13_call_218 rfl (lv_at hl 4 rfl) ?_
            refine lv_iconst (v := 0) hx hb dX13_call_219 (by decide) ?_
            refine cu_i (rn_V (n := 1) (As := [.int 0]) (rest := [.int (v.1 0 39), .ref (ad 37)]) hx hb hml hown ht hKK hFx hP hD hS hA (c_m_emit l dC dI cI cB cZ cJ cR tb H.size ad N (wA (wA (wA (wA w91 0 47 ((w91.1 0 47) + (1 : Int32))) 0 48 ((w91.1 0 48) - (1 : Int32))) 0 32 ((w91.1 0 32) - na)) 36 ((v.1 0 39).toNatClampNeg) na) (0 : Int32) (show 0 ≤ (w91.1 0 12).toInt ∧ (w91.1 0 12).toInt < 24000 from (om_f145506fe6 zws l3L91 lmL91 a69))) tw_8 tw_9 (by decide +kernel) rfl rfl ⟨show 0 + 1 ≤ 40 * n + 7 from om_8e99a81d6b, show 8 + (2 + 11) + 0 ≤ 28 * (40 * n + 7) from om_b622fbbd61⟩ (List.range (mW ad N cI cZ cJ (wA (wA (wA (wA w91 0 47 ((w91.1 0 47) + (1 : Int32))) 0 48 ((w91.1 0 48) - (1 : Int32))) 0 32 ((w91.1 0 32) - na)) 36 ((v.1 0 39).toNatClampNeg) na)).length) (rg_map _) (mW_nd _ _ _ _ _ _) rfl rfl rfl rfl hl.1 rfl (Nat.le_of_ble_eq_true rfl) dX13_call_220 ⟨Nat.le_of_ble_eq_true rfl, Nat.le_of_ble_eq_true rfl⟩) hP hD hS hA (fun r79 u78 H locs hw77 hP hD hS => ?_)
            obtain ⟨rfl, rfl⟩ := hw77
            have z80 : ((w91.1 0 12) + (1 : Int32)).toInt = ((w91.1 0 12).toInt) + 1 := add_z rfl (show (1 : Int32).toInt = 1 by decide) (om_21421f1446 zws l3L91) (om_4f01b76c03 zws l3L91 lmL91 a69)
            have hP : va_P (dC, dI) vwCl (mW ad N cI cZ cJ (wA (wA (wA (wA (wA (wA w91 0 47 ((w91.1 0 47) + (1 : Int32))) 0 48 ((w91.1 0 48) - (1 : Int32))) 0 32 ((w91.1 0 32) - na)) 36 ((v.1 0 39).toNatClampNeg) na) 11 ((w91.1 0 12).toNatClampNeg) (0 : Int32)) 0 12 ((w91.1 0 12) + (1 : Int32)))) H := hP
            have hD : va_D A (mW ad N cI cZ cJ (wA (wA (wA (wA (wA (wA w91 0 47 ((w91.1 0 47) + (1 : Int32))) 0 48 ((w91.1 0 48) - (1 : Int32))) 0 32 ((w91.1 0 32) - na)) 36 ((v.1 0 39).toNatClampNeg) na) 11 ((w91.1 0 12).toNatClampNeg) (0 : Int32)) 0 12 ((w91.1 0 12) + (1 : Int32)))) := hD
            refine tp_i (y := (w91.1 0 12)) (rfl) ?_
            refine W.widen (k := 0) (n := 0) (Nat.le_refl _) (Nat.le_refl _) ?_
            refine va_iast (D := (dC, dI)) (f := (w91.1 37)) hx hb hK hP hD hS 24 0 rfl rfl (in_y (a := (v.1 0 39).toInt) (b := 4000) rfl (om_eff68e0d8d zcs) (om_59dffa004b zcs a16) rfl) dX13_call_223 (fun H locs hP hD hS => ?_)
            have hP := cP_ (ma_37 ad N cI cZ cJ (wA (wA (wA (wA (wA (wA w91 0 47 ((w91.1 0 47) + (1 : Int32))) 0 48 ((w91.1 0 48) - (1 : Int32))) 0 32 ((w91.1 0 32) - na)) 36 ((v.1 0 39).toNatClampNeg) na) 11 ((w91.1 0 12).toNatClampNeg) (0 : Int32)) 0 12 ((w91.1 0 12) + (1 : Int32))) ((v.1 0 39).toNatClampNeg) (w91.1 0 12)) hP
            have hD := cD_ (ma_37 ad N cI cZ cJ (wA (wA (wA (wA (wA (wA w91 0 47 ((w91.1 0 47) + (1 : Int32))) 0 48 ((w91.1 0 48) - (1 : Int32))) 0 32 ((w91.1 0 32) - na)) 36 ((v.1 0 39).toNatClampNeg) na) 11 ((w91.1 0 12).toNatClampNeg) (0 : Int32)) 0 12 ((w91.1 0 12) + (1 : Int32))) ((v.1 0 39).toNatClampNeg) (w91.1 0 12)) hD
            obtain ⟨u81, hu82⟩ : ∃ z, z = (wA (wA (wA (wA (wA (wA (wA w91 0 47 ((w91.1 0 47) + (1 : Int32))) 0 48 ((w91.1 0 48) - (1 : Int32))) 0 32 ((w91.1 0 32) - na)) 36 ((v.1 0 39).toNatClampNeg) na) 11 ((w91.1 0 12).toNatClampNeg) (0 : Int32)) 0 12 ((w91.1 0 12) + (1 : Int32))) 37 ((v.1 0 39).toNatClampNeg) (w91.1 0 12)) := ⟨_, rfl⟩
            have fr82 : FG [12, 32, 47, 48] [0, 11, 36, 37] w91 u81 := by rw [hu82]; exact (FG.a (FG.f (FG.a (FG.a (FG.f (FG.f (FG.f (FG.rf _) ((w91.1 0 47) + (1 : Int32)) (by decide)) ((w91.1 0 48) - (1 : Int32)) (by decide)) ((w91.1 0 32) - na) (by decide)) ((v.1 0 39).toNatClampNeg) na (by decide) (by decide)) ((w91.1 0 12).toNatClampNeg) (0 : Int32) (by decide) (by decide)) ((w91.1 0 12) + (1 : Int32)) (by decide)) ((v.1 0 39).toNatClampNeg) (w91.1 0 12) (by decide) (by decide))
            have kc82 : ∀ j : Nat, (j : Int) < (v.1 0 12).toInt → (u81.1 11) j = (v.1 11) j := by rw [hu82]; exact (fun (j9 : Nat) hj9 => (Eq.trans (pk_un3 (a := (w91.1 0 12).toInt) rfl (om_771c207ba7 zws l3L91) (om_25ba0b5356 l3L91 hj9)) (kcL91 j9 (om_4fe904e9bf hj9))))
            rw [← hu82] at hP hD
            refine lv_aload_n hx hb dX13_call_224 rfl (lv_at hl 4 rfl) ?_
            refine va_get (D := (dC, dI)) (ci := 16) (fs := mF ad u81) (v := .ref (ad 38)) (C := RX13) (T := TX13) (N := 124) hx hb ht itX13 hown hK hP 0 rfl rfl 38 (by decide) (ht _ tw_109) (fun _ h9 => h9) rfl dX13_call_225 ?_
            refine lv_iload_n hx hb dX13_call_228 rfl (lv_at hl 3 rfl) ?_
            refine lv_aload_n hx hb dX13_call_229 rfl (lv_at hl 4 rfl) ?_
            refine lv_bipush (v := 14) hx hb dX13_call_230 (by decide) ?_
            refine lv_iconst (v := 0) hx hb dX13_call_232 (by decide) ?_
            have q83 : (u81.1 0 15).toInt = (w91.1 0 15).toInt := congrArg Int32.toInt (fr82.2.1 15 (by decide))
            refine cu_i (rn_V (n := 2) (As := [.int 14, .int 0]) (rest := [.int (v.1 0 39), .ref (ad 38)]) hx hb hml hown ht hKK hFx hP hD hS hA (c_m_say l dC dI cI cB cZ cJ cR tb H.size ad N u81 (14 : Int32) (0 : Int32) (show 0 ≤ (u81.1 0 15).toInt ∧ (u81.1 0 15).toInt < 16000 from (om_f026c60dd8 zos l4L91 a69 q83))) tw_59 tw_60 (by decide +kernel) rfl rfl ⟨show 0 + 1 ≤ 40 * n + 7 from om_8e99a81d6b, show 8 + (3 + 11) + 0 ≤ 28 * (40 * n + 7) from om_3763ab29f8⟩ (List.range (mW ad N cI cZ cJ u81).length) (rg_map _) (mW_nd _ _ _ _ _ _) rfl rfl rfl rfl hl.1 rfl (Nat.le_of_ble_eq_true rfl) dX13_call_233 ⟨Nat.le_of_ble_eq_true rfl, Nat.le_of_ble_eq_true rfl⟩) hP hD hS hA (fun r86 u85 H locs hw84 hP hD hS => ?_)
            obtain ⟨rfl, rfl⟩ := hw84
            have z87 : ((u81.1 0 15) + (1 : Int32)).toInt = ((u81.1 0 15).toInt) + 1 := add_z rfl (show (1 : Int32).toInt = 1 by decide) (om_66da2a046f zos l4L91 q83) (om_f6568e549b zos l2L91 l4L91 q83)
            have hP : va_P (dC, dI) vwCl (mW ad N cI cZ cJ (wA (wA (wA u81 13 ((u81.1 0 15).toNatClampNeg) (14 : Int32)) 14 ((u81.1 0 15).toNatClampNeg) (0 : Int32)) 0 15 ((u81.1 0 15) + (1 : Int32)))) H := hP
            have hD : va_D A (mW ad N cI cZ cJ (wA (wA (wA u81 13 ((u81.1 0 15).toNatClampNeg) (14 : Int32)) 14 ((u81.1 0 15).toNatClampNeg) (0 : Int32)) 0 15 ((u81.1 0 15) + (1 : Int32)))) := hD
            refine tp_i (y := (u81.1 0 15)) (rfl) ?_
            refine W.widen (k := 0) (n := 0) (Nat.le_refl _) (Nat.le_refl _) ?_
            refine va_iast (D := (dC, dI)) (f := (u81.1 38)) hx hb hK hP hD hS 25 0 rfl rfl (in_y (a := (v.1 0 39).toInt) (b := 4000) rfl (om_eff68e0d8d zcs) (om_59dffa004b zcs a16) rfl) dX13_call_236 (fun H locs hP hD hS => ?_)
            have hP := cP_ (ma_38 ad N cI cZ cJ (wA (wA (wA u81 13 ((u81.1 0 15).toNatClampNeg) (14 : Int32)) 14 ((u81.1 0 15).toNatClampNeg) (0 : Int32)) 0 15 ((u81.1 0 15) + (1 : Int32))) ((v.1 0 39).toNatClampNeg) (u81.1 0 15)) hP
            have hD := cD_ (ma_38 ad N cI cZ cJ (wA (wA (wA u81 13 ((u81.1 0 15).toNatClampNeg) (14 : Int32)) 14 ((u81.1 0 15).toNatClampNeg) (0 : Int32)) 0 15 ((u81.1 0 15) + (1 : Int32))) ((v.1 0 39).toNatClampNeg) (u81.1 0 15)) hD
            have q88 : (u81.1 0 47).toInt = (((w91.1 0 47).toInt) + 1) := by rw [hu82]; exact (show ((w91.1 0 47) + (1 : Int32)).toInt = (((w91.1 0 47).toInt) + 1) from z72)
            have q89 : (u81.1 0 12).toInt = (((w91.1 0 12).toInt) + 1) := by rw [hu82]; exact (show ((w91.1 0 12) + (1 : Int32)).toInt = (((w91.1 0 12).toInt) + 1) from z80)
            have q90 : (u81.1 0 43).toInt = (w91.1 0 43).toInt := congrArg Int32.toInt (fr82.2.1 43 (by decide))
            have q91 : (u81.1 0 39).toInt = (w91.1 0 39).toInt := congrArg Int32.toInt (fr82.2.1 39 (by decide))
            have q92 : (u81.1 0 32).toInt = (((w91.1 0 32).toInt) - na.toInt) := by rw [hu82]; exact (show ((w91.1 0 32) - na).toInt = (((w91.1 0 32).toInt) - na.toInt) from z74)
            have q93 : (u81.1 0 48).toInt = (((w91.1 0 48).toInt) - 1) := by rw [hu82]; exact (show ((w91.1 0 48) - (1 : Int32)).toInt = (((w91.1 0 48).toInt) - 1) from z73)
            have q94 : (u81.1 0 33).toInt = (w91.1 0 33).toInt := congrArg Int32.toInt (fr82.2.1 33 (by decide))
            refine vx_ret ?_
            exact W.vret hx hb hr (fun t ht9 hW => ⟨⟨(wA (wA (wA (wA u81 13 ((u81.1 0 15).toNatClampNeg) (14 : Int32)) 14 ((u81.1 0 15).toNatClampNeg) (0 : Int32)) 0 15 ((u81.1 0 15) + (1 : Int32))) 38 ((v.1 0 39).toNatClampNeg) (u81.1 0 15)), rfl, ⟨(FG.a (FG.f (FG.a (FG.a (FG.tr (FG.tr (FG.rf _) (FG.up fwL91 (by decide) (by decide))) (FG.up fr82 (by decide) (by decide))) ((u81.1 0 15).toNatClampNeg) (14 : Int32) (by decide) (by decide)) ((u81.1 0 15).toNatClampNeg) (0 : Int32) (by decide) (by decide)) ((u81.1 0 15) + (1 : Int32)) (by decide)) ((v.1 0 39).toNatClampNeg) (u81.1 0 15) (by decide) (by decide)), (show (v.1 0 47).toInt + 1 ≤ (u81.1 0 47).toInt ∧ (u81.1 0 47).toInt ≤ 1500 from (om_2ce067cfe1 l4L91 a69 q88)), (show (v.1 0 49).toInt ≠ (v.1 0 47).toInt from (om_32294a9ce4 b16)), (show (v.1 0 12).toInt ≤ (u81.1 0 12).toInt ∧ (u81.1 0 12).toInt - 15 * (u81.1 0 47).toInt ≤ (v.1 0 12).toInt - 15 * (v.1 0 47).toInt from (om_3a9c163bfd l3L91 lmL91 q89 q88)), (show (v.1 0 15).toInt ≤ ((u81.1 0 15) + (1 : Int32)).toInt ∧ ((u81.1 0 15) + (1 : Int32)).toInt - 10 * (u81.1 0 47).toInt ≤ (v.1 0 15).toInt - 10 * (v.1 0 47).toInt from (om_0ff3107b48 l4L91 q83 q88 z87)), (show (v.1 0 43).toInt ≤ (u81.1 0 43).toInt ∧ (u81.1 0 43).toInt - 15 * (u81.1 0 47).toInt ≤ (v.1 0 43).toInt - 15 * (v.1 0 47).toInt from (om_51a7203f57 l5L91 q90 q88)), (show (v.1 0 39).toInt ≤ (u81.1 0 39).toInt ∧ (u81.1 0 39).toInt - 1 * (u81.1 0 47).toInt ≤ (v.1 0 39).toInt - 1 * (v.1 0 47).toInt from (om_5ad5dbece5 l6L91 q91 q88)), (show (u81.1 0 32).toInt = (v.1 0 32).toInt ∧ (u81.1 0 48).toInt = (v.1 0 48).toInt from (om_a6b5374474 l7L91 q92 q93)), (show (v.1 0 33).toInt ≤ (u81.1 0 33).toInt ∧ (u81.1 0 33).toInt ≤ 500 from (om_06b267353f l8L91 q94)), (fun (j9 : Nat) hj9 => (kc82 j9 hj9)), (fun (j9 : Nat) hj9 => (Eq.trans (pk_un3 (a := (u81.1 0 15).toInt) rfl (om_865fa38dbd zos l4L91 q83) (om_7517dbbafd l4L91 q83 hj9)) (Eq.trans (congrFun (fr82.2.2 13 (by decide)) j9) (koL91 j9 (om_4fe904e9bf hj9))))), (fun (j9 : Nat) hj9 => (Eq.trans (pk_un3 (a := (u81.1 0 15).toInt) rfl (om_865fa38dbd zos l4L91 q83) (om_7517dbbafd l4L91 q83 hj9)) (Eq.trans (congrFun (fr82.2.2 14 (by decide)) j9) (kgL91 j9 (om_4fe904e9bf hj9))))), (show NI 35 u81 from NI.fr (fl := [12, 32, 47, 48]) (al := [0, 11, 36, 37]) fr82 (by decide) n35L91)⟩, by rw [ht9]; exact hP, hD⟩, hS.F ht9⟩) hS.2.2 dX13_call_237
          · have z95 : 0 < na.toInt := nle_z rfl (show (0 : Int32).toInt = 0 by decide) h75
            refine lv_aload_n hx hb dX13_call_198 rfl (lv_at hl 4 rfl) ?_
            refine lv_iconst (v := 5) hx hb dX13_call_199 (by decide) ?_
            refine lv_bipush (v := 8) hx hb dX13_call_200 (by decide) ?_
            refine lv_iload_n hx hb dX13_call_202 rfl (lv_at hl 1 rfl) ?_
            refine cu_s (mW_nd _ _ _ _ _ _) (rn_S (n := 1) (As := [.int ((v.1 0 30) + (v.1 0 32))]) (rest := [.int 8, .int 5, .ref (ad 0)]) hx hb hml hown ht hKK hFx hP hD hS hA (c_m_slotAt l dC dI cI cB cZ cJ cR tb H.size ((v.1 0 30) + (v.1 0 32)) ) tw_74 tw_75 (by decide +kernel) rfl rfl ⟨show 0 + 1 ≤ 40 * n + 7 from om_8e99a81d6b, show 8 + (1 + 11) + 0 ≤ 28 * (40 * n + 7) from om_0b9857731b⟩ [] rfl rfl rfl hl.1 rfl (Nat.le_of_ble_eq_true rfl) dX13_call_203 ⟨Nat.le_of_ble_eq_true rfl, Nat.le_of_ble_eq_true rfl⟩) hP hD hS hA (fun r98 H locs hw96 hP hD hS => ?_)
            refine W.widen (k := 0) (n := 0) (Nat.le_refl _) (Nat.le_refl _) ?_
            refine cu_s (mW_nd _ _ _ _ _ _) (rn_S (n := 3) (As := [.int 5, .int 8, .int r98]) (rest := [.ref (ad 0)]) hx hb hml hown ht hKK hFx hP hD hS hA (c_m_addi l dC dI cI cB cZ cJ cR tb H.size (5 : Int32) (8 : Int32) r98 ) tw_65 tw_66 (by decide +kernel) rfl rfl ⟨show 1 + 1 ≤ 40 * n + 7 from om_9d6ac316d0, show 8 + (3 + 11) + 24 ≤ 28 * (40 * n + 7) from om_2e21d24516⟩ [] rfl rfl rfl hl.1 rfl (Nat.le_of_ble_eq_true rfl) dX13_call_206 ⟨Nat.le_of_ble_eq_true rfl, Nat.le_of_ble_eq_true rfl⟩) hP hD hS hA (fun r101 H locs hw99 hP hD hS => ?_)
            refine W.widen (k := 0) (n := 0) (Nat.le_refl _) (Nat.le_refl _) ?_
            refine cu_i (rn_V (n := 1) (As := [.int r101]) (rest := []) hx hb hml hown ht hKK hFx hP hD hS hA (c_m_emit l dC dI cI cB cZ cJ cR tb H.size ad N (wA (wA (wA (wA w91 0 47 ((w91.1 0 47) + (1 : Int32))) 0 48 ((w91.1 0 48) - (1 : Int32))) 0 32 ((w91.1 0 32) - na)) 36 ((v.1 0 39).toNatClampNeg) na) r101 (show 0 ≤ (w91.1 0 12).toInt ∧ (w91.1 0 12).toInt < 24000 from (om_f145506fe6 zws l3L91 lmL91 a69))) tw_8 tw_9 (by decide +kernel) rfl rfl ⟨show 0 + 1 ≤ 40 * n + 7 from om_8e99a81d6b, show 8 + (2 + 11) + 0 ≤ 28 * (40 * n + 7) from om_b622fbbd61⟩ (List.range (mW ad N cI cZ cJ (wA (wA (wA (wA w91 0 47 ((w91.1 0 47) + (1 : Int32))) 0 48 ((w91.1 0 48) - (1 : Int32))) 0 32 ((w91.1 0 32) - na)) 36 ((v.1 0 39).toNatClampNeg) na)).length) (rg_map _) (mW_nd _ _ _ _ _ _) rfl rfl rfl rfl hl.1 rfl (Nat.le_of_ble_eq_true rfl) dX13_call_209 ⟨Nat.le_of_ble_eq_true rfl, Nat.le_of_ble_eq_true rfl⟩) hP hD hS hA (fun r104 u103 H locs hw102 hP hD hS => ?_)
            obtain ⟨rfl, rfl⟩ := hw102
            have z105 : ((w91.1 0 12) + (1 : Int32)).toInt = ((w91.1 0 12).toInt) + 1 := add_z rfl (show (1 : Int32).toInt = 1 by decide) (om_21421f1446 zws l3L91) (om_4f01b76c03 zws l3L91 lmL91 a69)
            have hP : va_P (dC, dI) vwCl (mW ad N cI cZ cJ (wA (wA (wA (wA (wA (wA w91 0 47 ((w91.1 0 47) + (1 : Int32))) 0 48 ((w91.1 0 48) - (1 : Int32))) 0 32 ((w91.1 0 32) - na)) 36 ((v.1 0 39).toNatClampNeg) na) 11 ((w91.1 0 12).toNatClampNeg) r101) 0 12 ((w91.1 0 12) + (1 : Int32)))) H := hP
            have hD : va_D A (mW ad N cI cZ cJ (wA (wA (wA (wA (wA (wA w91 0 47 ((w91.1 0 47) + (1 : Int32))) 0 48 ((w91.1 0 48) - (1 : Int32))) 0 32 ((w91.1 0 32) - na)) 36 ((v.1 0 39).toNatClampNeg) na) 11 ((w91.1 0 12).toNatClampNeg) r101) 0 12 ((w91.1 0 12) + (1 : Int32)))) := hD
            refine tp_i (y := (w91.1 0 12)) (rfl) ?_
            refine W.widen (k := 0) (n := 0) (Nat.le_refl _) (Nat.le_refl _) ?_
            refine lv_pop hx hb dX13_call_212 rfl ?_
            refine lv_aload_n hx hb dX13_call_213 rfl (lv_at hl 4 rfl) ?_
            refine va_get (D := (dC, dI)) (ci := 16) (fs := mF ad (wA (wA (wA (wA (wA (wA w91 0 47 ((w91.1 0 47) + (1 : Int32))) 0 48 ((w91.1 0 48) - (1 : Int32))) 0 32 ((w91.1 0 32) - na)) 36 ((v.1 0 39).toNatClampNeg) na) 11 ((w91.1 0 12).toNatClampNeg) r101) 0 12 ((w91.1 0 12) + (1 : Int32)))) (v := .ref (ad 37)) (C := RX13) (T := TX13) (N := 124) hx hb ht itX13 hown hK hP 0 rfl rfl 37 (by decide) (ht _ tw_108) (fun _ h9 => h9) rfl dX13_call_214 ?_
            refine lv_iload_n hx hb dX13_call_217 rfl (lv_at hl 3 rfl) ?_
            refine lv_aload_n hx hb dX13_call_218 rfl (lv_at hl 4 rfl) ?_
            refine lv_iconst (v := 0) hx hb dX13_call_219 (by decide) ?_
            refine cu_i (rn_V (n := 1) (As := [.int 0]) (rest := [.int (v.1 0 39), .ref (ad 37)]) hx hb hml hown ht hKK hFx hP hD hS hA (c_m_emit l dC dI cI cB cZ cJ cR tb H.size ad N (wA (wA (wA (wA (wA (wA w91 0 47 ((w91.1 0 47) + (1 : Int32))) 0 48 ((w91.1 0 48) - (1 : Int32))) 0 32 ((w91.1 0 32) - na)) 36 ((v.1 0 39).toNatClampNeg) na) 11 ((w91.1 0 12).toNatClampNeg) r101) 0 12 ((w91.1 0 12) + (1 : Int32))) (0 : Int32) (show 0 ≤ ((w91.1 0 12) + (1 : Int32)).toInt ∧ ((w91.1 0 12) + (1 : Int32)).toInt < 24000 from (om_f0908d1617 zws l3L91 lmL91 a69 z105))) tw_8 tw_9 (by decide +kernel) rfl rfl ⟨show 0 + 1 ≤ 40 * n + 7 from om_8e99a81d6b, show 8 + (2 + 11) + 0 ≤ 28 * (40 * n + 7) from om_b622fbbd61⟩ (List.range (mW ad N cI cZ cJ (wA (wA (wA (wA (wA (wA w91 0 47 ((w91.1 0 47) + (1 : Int32))) 0 48 ((w91.1 0 48) - (1 : Int32))) 0 32 ((w91.1 0 32) - na)) 36 ((v.1 0 39).toNatClampNeg) na) 11 ((w91.1 0 12).toNatClampNeg) r101) 0 12 ((w91.1 0 12) + (1 : Int32)))).length) (rg_map _) (mW_nd _ _ _ _ _ _) rfl rfl rfl rfl hl.1 rfl (Nat.le_of_ble_eq_true rfl) dX13_call_220 ⟨Nat.le_of_ble_eq_true rfl, Nat.le_of_ble_eq_true rfl⟩) hP hD hS hA (fun r108 u107 H locs hw106 hP hD hS => ?_)
            obtain ⟨rfl, rfl⟩ := hw106
            have z109 : (((w91.1 0 12) + (1 : Int32)) + (1 : Int32)).toInt = (((w91.1 0 12).toInt) + 1) + 1 := add_z z105 (show (1 : Int32).toInt = 1 by decide) (om_39c9977127 zws l3L91) (om_fc75630b16 zws l3L91 lmL91 a69)
            have hP : va_P (dC, dI) vwCl (mW ad N cI cZ cJ (wA (wA (wA (wA (wA (wA (wA (wA w91 0 47 ((w91.1 0 47) + (1 : Int32))) 0 48 ((w91.1 0 48) - (1 : Int32))) 0 32 ((w91.1 0 32) - na)) 36 ((v.1 0 39).toNatClampNeg) na) 11 ((w91.1 0 12).toNatClampNeg) r101) 0 12 ((w91.1 0 12) + (1 : Int32))) 11 (((w91.1 0 12) + (1 : Int32)).toNatClampNeg) (0 : Int32)) 0 12 (((w91.1 0 12) + (1 : Int32)) + (1 : Int32)))) H := hP
            have hD : va_D A (mW ad N cI cZ cJ (wA (wA (wA (wA (wA (wA (wA (wA w91 0 47 ((w91.1 0 47) + (1 : Int32))) 0 48 ((w91.1 0 48) - (1 : Int32))) 0 32 ((w91.1 0 32) - na)) 36 ((v.1 0 39).toNatClampNeg) na) 11 ((w91.1 0 12).toNatClampNeg) r101) 0 12 ((w91.1 0 12) + (1 : Int32))) 11 (((w91.1 0 12) + (1 : Int32)).toNatClampNeg) (0 : Int32)) 0 12 (((w91.1 0 12) + (1 : Int32)) + (1 : Int32)))) := hD
            refine tp_i (y := ((w91.1 0 12) + (1 : Int32))) (rfl) ?_
            refine W.widen (k := 0) (n := 0) (Nat.le_refl _) (Nat.le_refl _) ?_
            obtain ⟨u110, hu111⟩ : ∃ z, z = (wA (wA (wA (wA (wA (wA (wA (wA w91 0 47 ((w91.1 0 47) + (1 : Int32))) 0 48 ((w91.1 0 48) - (1 : Int32))) 0 32 ((w91.1 0 32) - na)) 36 ((v.1 0 39).toNatClampNeg) na) 11 ((w91.1 0 12).toNatClampNeg) r101) 0 12 ((w91.1 0 12) + (1 : Int32))) 11 (((w91.1 0 12) + (1 : Int32)).toNatClampNeg) (0 : Int32)) 0 12 (((w91.1 0 12) + (1 : Int32)) + (1 : Int32))) := ⟨_, rfl⟩
            have fr111 : FG [12, 32, 47, 48] [0, 11, 36] w91 u110 := by rw [hu111]; exact (FG.f (FG.a (FG.f (FG.a (FG.a (FG.f (FG.f (FG.f (FG.rf _) ((w91.1 0 47) + (1 : Int32)) (by decide)) ((w91.1 0 48) - (1 : Int32)) (by decide)) ((w91.1 0 32) - na) (by decide)) ((v.1 0 39).toNatClampNeg) na (by decide) (by decide)) ((w91.1 0 12).toNatClampNeg) r101 (by decide) (by decide)) ((w91.1 0 12) + (1 : Int32)) (by decide)) (((w91.1 0 12) + (1 : Int32)).toNatClampNeg) (0 : Int32) (by decide) (by decide)) (((w91.1 0 12) + (1 : Int32)) + (1 : Int32)) (by decide))
            have kc111 : ∀ j : Nat, (j : Int) < (v.1 0 12).toInt → (u110.1 11) j = (v.1 11) j := by rw [hu111]; exact (fun (j9 : Nat) hj9 => (Eq.trans (pk_un3 (a := ((w91.1 0 12) + (1 : Int32)).toInt) rfl (om_9fb46145ec zws l3L91 z105) (om_57ad8c7472 l3L91 z105 hj9)) (Eq.trans (pk_un3 (a := (w91.1 0 12).toInt) rfl (om_771c207ba7 zws l3L91) (om_25ba0b5356 l3L91 hj9)) (kcL91 j9 (om_4fe904e9bf hj9)))))
            rw [← hu111] at hP hD
            refine va_iast (D := (dC, dI)) (f := (u110.1 37)) hx hb hK hP hD hS 24 0 rfl rfl (in_y (a := (v.1 0 39).toInt) (b := 4000) rfl (om_eff68e0d8d zcs) (om_59dffa004b zcs a16) rfl) dX13_call_223 (fun H locs hP hD hS => ?_)
            have hP := cP_ (ma_37 ad N cI cZ cJ u110 ((v.1 0 39).toNatClampNeg) ((w91.1 0 12) + (1 : Int32))) hP
            have hD := cD_ (ma_37 ad N cI cZ cJ u110 ((v.1 0 39).toNatClampNeg) ((w91.1 0 12) + (1 : Int32))) hD
            refine lv_aload_n hx hb dX13_call_224 rfl (lv_at hl 4 rfl) ?_
            refine va_get (D := (dC, dI)) (ci := 16) (fs := mF ad (wA u110 37 ((v.1 0 39).toNatClampNeg) ((w91.1 0 12) + (1 : Int32)))) (v := .ref (ad 38)) (C := RX13) (T := TX13) (N := 124) hx hb ht itX13 hown hK hP 0 rfl rfl 38 (by decide) (ht _ tw_109) (fun _ h9 => h9) rfl dX13_call_225 ?_
            refine lv_iload_n hx hb dX13_call_228 rfl (lv_at hl 3 rfl) ?_
            refine lv_aload_n hx hb dX13_call_229 rfl (lv_at hl 4 rfl) ?_
            refine lv_bipush (v := 14) hx hb dX13_call_230 (by decide) ?_
            refine lv_iconst (v := 0) hx hb dX13_call_232 (by decide) ?_
            have q112 : (u110.1 0 15).toInt = (w91.1 0 15).toInt := congrArg Int32.toInt (fr111.2.1 15 (by decide))
            refine cu_i (rn_V (n := 2) (As := [.int 14, .int 0]) (rest := [.int (v.1 0 39), .ref (ad 38)]) hx hb hml hown ht hKK hFx hP hD hS hA (c_m_say l dC dI cI cB cZ cJ cR tb H.size ad N (wA u110 37 ((v.1 0 39).toNatClampNeg) ((w91.1 0 12) + (1 : Int32))) (14 : Int32) (0 : Int32) (show 0 ≤ (u110.1 0 15).toInt ∧ (u110.1 0 15).toInt < 16000 from (om_f026c60dd8 zos l4L91 a69 q112))) tw_59 tw_60 (by decide +kernel) rfl rfl ⟨show 0 + 1 ≤ 40 * n + 7 from om_8e99a81d6b, show 8 + (3 + 11) + 0 ≤ 28 * (40 * n + 7) from om_3763ab29f8⟩ (List.range (mW ad N cI cZ cJ (wA u110 37 ((v.1 0 39).toNatClampNeg) ((w91.1 0 12) + (1 : Int32)))).length) (rg_map _) (mW_nd _ _ _ _ _ _) rfl rfl rfl rfl hl.1 rfl (Nat.le_of_ble_eq_true rfl) dX13_call_233 ⟨Nat.le_of_ble_eq_true rfl, Nat.le_of_ble_eq_true rfl⟩) hP hD hS hA (fun r115 u114 H locs hw113 hP hD hS => ?_)
            obtain ⟨rfl, rfl⟩ := hw113
            have z116 : ((u110.1 0 15) + (1 : Int32)).toInt = ((u110.1 0 15).toInt) + 1 := add_z rfl (show (1 : Int32).toInt = 1 by decide) (om_66da2a046f zos l4L91 q112) (om_c2274911d9 zos l4L91 a69 q112)
            have hP : va_P (dC, dI) vwCl (mW ad N cI cZ cJ (wA (wA (wA (wA u110 37 ((v.1 0 39).toNatClampNeg) ((w91.1 0 12) + (1 : Int32))) 13 ((u110.1 0 15).toNatClampNeg) (14 : Int32)) 14 ((u110.1 0 15).toNatClampNeg) (0 : Int32)) 0 15 ((u110.1 0 15) + (1 : Int32)))) H := hP
            have hD : va_D A (mW ad N cI cZ cJ (wA (wA (wA (wA u110 37 ((v.1 0 39).toNatClampNeg) ((w91.1 0 12) + (1 : Int32))) 13 ((u110.1 0 15).toNatClampNeg) (14 : Int32)) 14 ((u110.1 0 15).toNatClampNeg) (0 : Int32)) 0 15 ((u110.1 0 15) + (1 : Int32)))) := hD
            refine tp_i (y := (u110.1 0 15)) (rfl) ?_
            refine W.widen (k := 0) (n := 0) (Nat.le_refl _) (Nat.le_refl _) ?_
            refine va_iast (D := (dC, dI)) (f := (u110.1 38)) hx hb hK hP hD hS 25 0 rfl rfl (in_y (a := (v.1 0 39).toInt) (b := 4000) rfl (om_eff68e0d8d zcs) (om_59dffa004b zcs a16) rfl) dX13_call_236 (fun H locs hP hD hS => ?_)
            have hP := cP_ (ma_38 ad N cI cZ cJ (wA (wA (wA (wA u110 37 ((v.1 0 39).toNatClampNeg) ((w91.1 0 12) + (1 : Int32))) 13 ((u110.1 0 15).toNatClampNeg) (14 : Int32)) 14 ((u110.1 0 15).toNatClampNeg) (0 : Int32)) 0 15 ((u110.1 0 15) + (1 : Int32))) ((v.1 0 39).toNatClampNeg) (u110.1 0 15)) hP
            have hD := cD_ (ma_38 ad N cI cZ cJ (wA (wA (wA (wA u110 37 ((v.1 0 39).toNatClampNeg) ((w91.1 0 12) + (1 : Int32))) 13 ((u110.1 0 15).toNatClampNeg) (14 : Int32)) 14 ((u110.1 0 15).toNatClampNeg) (0 : Int32)) 0 15 ((u110.1 0 15) + (1 : Int32))) ((v.1 0 39).toNatClampNeg) (u110.1 0 15)) hD
            have q117 : (u110.1 0 47).toInt = (((w91.1 0 47).toInt) + 1) := by rw [hu111]; exact (show ((w91.1 0 47) + (1 : Int32)).toInt = (((w91.1 0 47).toInt) + 1) from z72)
            have q118 : (u110.1 0 12).toInt = ((((w91.1 0 12).toInt) + 1) + 1) := by rw [hu111]; exact (show (((w91.1 0 12) + (1 : Int32)) + (1 : Int32)).toInt = ((((w91.1 0 12).toInt) + 1) + 1) from z109)
            have q119 : (u110.1 0 43).toInt = (w91.1 0 43).toInt := congrArg Int32.toInt (fr111.2.1 43 (by decide))
            have q120 : (u110.1 0 39).toInt = (w91.1 0 39).toInt := congrArg Int32.toInt (fr111.2.1 39 (by decide))
            have q121 : (u110.1 0 32).toInt = (((w91.1 0 32).toInt) - na.toInt) := by rw [hu111]; exact (show ((w91.1 0 32) - na).toInt = (((w91.1 0 32).toInt) - na.toInt) from z74)
            have q122 : (u110.1 0 48).toInt = (((w91.1 0 48).toInt) - 1) := by rw [hu111]; exact (show ((w91.1 0 48) - (1 : Int32)).toInt = (((w91.1 0 48).toInt) - 1) from z73)
            have q123 : (u110.1 0 33).toInt = (w91.1 0 33).toInt := congrArg Int32.toInt (fr111.2.1 33 (by decide))
            refine vx_ret ?_
            exact W.vret hx hb hr (fun t ht9 hW => ⟨⟨(wA (wA (wA (wA (wA u110 37 ((v.1 0 39).toNatClampNeg) ((w91.1 0 12) + (1 : Int32))) 13 ((u110.1 0 15).toNatClampNeg) (14 : Int32)) 14 ((u110.1 0 15).toNatClampNeg) (0 : Int32)) 0 15 ((u110.1 0 15) + (1 : Int32))) 38 ((v.1 0 39).toNatClampNeg) (u110.1 0 15)), rfl, ⟨(FG.a (FG.f (FG.a (FG.a (FG.a (FG.tr (FG.tr (FG.rf _) (FG.up fwL91 (by decide) (by decide))) (FG.up fr111 (by decide) (by decide))) ((v.1 0 39).toNatClampNeg) ((w91.1 0 12) + (1 : Int32)) (by decide) (by decide)) ((u110.1 0 15).toNatClampNeg) (14 : Int32) (by decide) (by decide)) ((u110.1 0 15).toNatClampNeg) (0 : Int32) (by decide) (by decide)) ((u110.1 0 15) + (1 : Int32)) (by decide)) ((v.1 0 39).toNatClampNeg) (u110.1 0 15) (by decide) (by decide)), (show (v.1 0 47).toInt + 1 ≤ (u110.1 0 47).toInt ∧ (u110.1 0 47).toInt ≤ 1500 from (om_2ce067cfe1 l4L91 a69 q117)), (show (v.1 0 49).toInt ≠ (v.1 0 47).toInt from (om_32294a9ce4 b16)), (show (v.1 0 12).toInt ≤ (u110.1 0 12).toInt ∧ (u110.1 0 12).toInt - 15 * (u110.1 0 47).toInt ≤ (v.1 0 12).toInt - 15 * (v.1 0 47).toInt from (om_6f2da7abdb l3L91 lmL91 q118 q117)), (show (v.1 0 15).toInt ≤ ((u110.1 0 15) + (1 : Int32)).toInt ∧ ((u110.1 0 15) + (1 : Int32)).toInt - 10 * (u110.1 0 47).toInt ≤ (v.1 0 15).toInt - 10 * (v.1 0 47).toInt from (om_0ff3107b48 l4L91 q112 q117 z116)), (show (v.1 0 43).toInt ≤ (u110.1 0 43).toInt ∧ (u110.1 0 43).toInt - 15 * (u110.1 0 47).toInt ≤ (v.1 0 43).toInt - 15 * (v.1 0 47).toInt from (om_51a7203f57 l5L91 q119 q117)), (show (v.1 0 39).toInt ≤ (u110.1 0 39).toInt ∧ (u110.1 0 39).toInt - 1 * (u110.1 0 47).toInt ≤ (v.1 0 39).toInt - 1 * (v.1 0 47).toInt from (om_5ad5dbece5 l6L91 q120 q117)), (show (u110.1 0 32).toInt = (v.1 0 32).toInt ∧ (u110.1 0 48).toInt = (v.1 0 48).toInt from (om_a6b5374474 l7L91 q121 q122)), (show (v.1 0 33).toInt ≤ (u110.1 0 33).toInt ∧ (u110.1 0 33).toInt ≤ 500 from (om_06b267353f l8L91 q123)), (fun (j9 : Nat) hj9 => (kc111 j9 hj9)), (fun (j9 : Nat) hj9 => (Eq.trans (pk_un3 (a := (u110.1 0 15).toInt) rfl (om_865fa38dbd zos l4L91 q112) (om_7517dbbafd l4L91 q112 hj9)) (Eq.trans (congrFun (fr111.2.2 13 (by decide)) j9) (koL91 j9 (om_4fe904e9bf hj9))))), (fun (j9 : Nat) hj9 => (Eq.trans (pk_un3 (a := (u110.1 0 15).toInt) rfl (om_865fa38dbd zos l4L91 q112) (om_7517dbbafd l4L91 q112 hj9)) (Eq.trans (congrFun (fr111.2.2 14 (by decide)) j9) (kgL91 j9 (om_4fe904e9bf hj9))))), (show NI 35 u110 from NI.fr (fl := [12, 32, 47, 48]) (al := [0, 11, 36]) fr111 (by decide) n35L91)⟩, by rw [ht9]; exact hP, hD⟩, hS.F ht9⟩) hS.2.2 dX13_call_237
        · have z124 : mo.toInt ≠ 0 := ne_z rfl (show (0 : Int32).toInt = 0 by decide) h67
          refine lv_iload_n hx hb dX13_call_96 rfl (lv_at hl 2 rfl) ?_
          refine lv_bipush (v := 8) hx hb dX13_call_97 (by decide) ?_
          refine lv_icmp_ne (tgt := 110) hx hb dX13_call_99 (by decide) (fun h125 => ?_) (fun h125 => ?_)
          · have z126 : na.toInt ≠ 8 := ne_z rfl (show (8 : Int32).toInt = 8 by decide) h125
            refine lv_aload_n hx hb dX13_call_110 rfl (lv_at hl 4 rfl) ?_
            refine lv_iconst (v := 1) hx hb dX13_call_111 (by decide) ?_
            have q127 : (w91.1 0 30).toInt = (v.1 0 30).toInt := congrArg Int32.toInt (fwL91.2.1 30 (by decide))
            refine cu_i (rn_V (n := 1) (As := [.int 1]) (rest := []) hx hb hml hown ht hKK hFx hP hD hS hA (c_m_slots l dC dI cI cB cZ cJ cR tb H.size ad N w91 (1 : Int32) (show 0 ≤ (w91.1 0 30).toInt ∧ (w91.1 0 30).toInt ≤ 500 from (om_f8376ff89c zkn q127)) (show 0 ≤ (w91.1 0 32).toInt ∧ (w91.1 0 32).toInt ≤ 2000 from (om_d6b40a31f9 zkn zs l1L91 l7L91)) (show 0 ≤ (w91.1 0 33).toInt ∧ (w91.1 0 33).toInt ≤ 500 from (om_cc8e83f451 zhi l8L91)) (show 0 ≤ 1 ∧ 1 ≤ 8 from om_9f427a292a)) tw_88 tw_89 (by decide +kernel) rfl rfl ⟨show 0 + 1 ≤ 40 * n + 7 from om_8e99a81d6b, show 8 + (3 + 11) + 0 ≤ 28 * (40 * n + 7) from om_3763ab29f8⟩ (List.range (mW ad N cI cZ cJ w91).length) (rg_map _) (mW_nd _ _ _ _ _ _) rfl rfl rfl rfl hl.1 rfl (Nat.le_of_ble_eq_true rfl) dX13_call_112 ⟨Nat.le_of_ble_eq_true rfl, Nat.le_of_ble_eq_true rfl⟩) hP hD hS hA (fun r130 u129 H locs hw128 hP hD hS => ?_)
            obtain ⟨fr128, sr128, sb128, sh128⟩ := hw128
            have sr128 : r130.toInt = (w91.1 0 30).toInt + (w91.1 0 32).toInt := sr128
            have sb128 : ((w91.1 0 30).toInt + (w91.1 0 32).toInt + 1 ≤ (u129.1 0 33).toInt ∧ (u129.1 0 49).toInt = (w91.1 0 49).toInt) ∨ (u129.1 0 49).toInt = (w91.1 0 47).toInt := sb128
            have sh128 : (w91.1 0 33).toInt ≤ (u129.1 0 33).toInt ∧ (u129.1 0 33).toInt ≤ 500 := sh128
            refine W.widen (k := 0) (n := 0) (Nat.le_refl _) (Nat.le_refl _) ?_
            refine lv_istore (lv' := [(5, .int r130), (4, .int mo), (3, .int ((v.1 0 30) + (v.1 0 32))), (2, .int na), (1, .int (v.1 0 39)), (0, .ref (ad 0))]) hx hb dX13_call_115 hl (by decide) rfl (fun ls hl => ?_)
            refine lv_aload_n hx hb dX13_call_117 rfl (lv_at hl 5 rfl) ?_
            obtain ⟨n131, hn132⟩ : ∃ m, n = m + 1 := ex_z (om_78b28660f8 zn b20)
            have q133 : (u129.1 0 48).toInt = (w91.1 0 48).toInt := congrArg Int32.toInt ((fr128.2.1 48 (by decide)).trans (show w91.1 0 48 = (w91.1 0 48) by rfl))
            have q134 : (u129.1 0 47).toInt = (w91.1 0 47).toInt := congrArg Int32.toInt ((fr128.2.1 47 (by decide)).trans (show w91.1 0 47 = (w91.1 0 47) by rfl))
            have q135 : (u129.1 0 30).toInt = (w91.1 0 30).toInt := congrArg Int32.toInt ((fr128.2.1 30 (by decide)).trans (show w91.1 0 30 = (w91.1 0 30) by rfl))
            have q136 : (u129.1 0 32).toInt = (w91.1 0 32).toInt := congrArg Int32.toInt ((fr128.2.1 32 (by decide)).trans (show w91.1 0 32 = (w91.1 0 32) by rfl))
            have q137 : (u129.1 0 12).toInt = (w91.1 0 12).toInt := congrArg Int32.toInt ((fr128.2.1 12 (by decide)).trans (show w91.1 0 12 = (w91.1 0 12) by rfl))
            have q138 : (u129.1 0 15).toInt = (w91.1 0 15).toInt := congrArg Int32.toInt ((fr128.2.1 15 (by decide)).trans (show w91.1 0 15 = (w91.1 0 15) by rfl))
            have q139 : (u129.1 0 43).toInt = (w91.1 0 43).toInt := congrArg Int32.toInt ((fr128.2.1 43 (by decide)).trans (show w91.1 0 43 = (w91.1 0 43) by rfl))
            have q140 : (u129.1 0 39).toInt = (w91.1 0 39).toInt := congrArg Int32.toInt ((fr128.2.1 39 (by decide)).trans (show w91.1 0 39 = (w91.1 0 39) by rfl))
            have q141 : (w91.1 0 27).toInt = (v.1 0 27).toInt := congrArg Int32.toInt (fwL91.2.1 27 (by decide))
            have q142 : (u129.1 0 27).toInt = (w91.1 0 27).toInt := congrArg Int32.toInt ((fr128.2.1 27 (by decide)).trans (show w91.1 0 27 = (w91.1 0 27) by rfl))
            refine cux_v (rx_V (n := 0) (As := []) (rest := []) hx hb hml hown ht hKK hFx hP hD hS hA (ihE n131 hn132 dC dI cI cB cZ cJ cR tb H.size ad N u129  (show 40 ≤ (u129.1 0 48).toInt + (n131 : Int) from (om_b1f15a1a46 zn l7L91 q133 hn132)) (show 0 ≤ (u129.1 0 47).toInt ∧ (u129.1 0 47).toInt ≤ 1500 from (om_4b7b84fccf zfs l2L91 l4L91 q134)) (show 0 ≤ (u129.1 0 48).toInt ∧ (u129.1 0 48).toInt ≤ 40 from (om_1a3ff391a1 zop b20 l7L91 q133)) (show 0 ≤ (u129.1 0 30).toInt ∧ (u129.1 0 30).toInt ≤ 500 from (om_8a5975ec21 zkn q127 q135)) (show 0 ≤ (u129.1 0 33).toInt ∧ (u129.1 0 33).toInt ≤ 500 from (om_fa78899538 zhi l8L91 sh128)) (show 0 ≤ (u129.1 0 32).toInt ∧ (u129.1 0 30).toInt + (u129.1 0 32).toInt ≤ 500 from (om_a50bd71174 zs l1L91 l7L91 q127 q135 q136)) (show 0 ≤ (u129.1 0 12).toInt ∧ (u129.1 0 12).toInt ≤ 15 * (u129.1 0 47).toInt + 2 from (om_88dff433f8 zws l3L91 lmL91 q137 q134)) (show 0 ≤ (u129.1 0 15).toInt ∧ (u129.1 0 15).toInt ≤ 10 * (u129.1 0 47).toInt + 0 from (om_0ceca355ec zos l4L91 q138 q134)) (show 0 ≤ (u129.1 0 43).toInt ∧ (u129.1 0 43).toInt ≤ 15 * (u129.1 0 47).toInt + 0 from (om_47d8a1519d zfs l5L91 q139 q134)) (show 0 ≤ (u129.1 0 39).toInt ∧ (u129.1 0 39).toInt ≤ 1 * (u129.1 0 47).toInt + 0 from (om_2a29b367b4 zcs l6L91 q140 q134)) (show 0 ≤ (u129.1 0 27).toInt ∧ (u129.1 0 27).toInt ≤ 60 from (om_439c5576c5 zgl q141 q142)) (FG.ti (fl := pfl) (al := pal) (FG.tr (FG.tr (FG.rf _) (FG.up fwL91 (by decide) (by decide))) (FG.up fr128 (by decide) (by decide))) (by decide) (by decide) hT) ((show NI 29 u129 from NI.fr (fl := [33, 49]) (al := [0]) fr128 (by decide) (show NI 29 w91 from NI.fr (fl := [12, 15, 32, 33, 39, 43, 44, 45, 47, 48, 49, 50, 51]) (al := [0, 11, 13, 14, 35, 36, 37, 38, 40, 41, 42]) fwL91 (by decide) n29))) ((show NI 23 u129 from NI.fr (fl := [33, 49]) (al := [0]) fr128 (by decide) (show NI 23 w91 from NI.fr (fl := [12, 15, 32, 33, 39, 43, 44, 45, 47, 48, 49, 50, 51]) (al := [0, 11, 13, 14, 35, 36, 37, 38, 40, 41, 42]) fwL91 (by decide) n23))) ((show NI 35 u129 from NI.fr (fl := [33, 49]) (al := [0]) fr128 (by decide) n35L91))) tw_80 tw_81 (by decide +kernel) rfl rfl ⟨show (40 * n131 + 36) + 1 ≤ 40 * n + 7 from (om_f82ab4b197 hn132), show 8 + (1 + 11) + 28 * (40 * n131 + 36) ≤ 28 * (40 * n + 7) from (om_602ef98186 hn132)⟩ (List.range (mW ad N cI cZ cJ u129).length) (rg_map _) (mW_nd _ _ _ _ _ _) rfl rfl rfl rfl hl.1 rfl (Nat.le_of_ble_eq_true rfl) dX13_call_118 ⟨Nat.le_of_ble_eq_true rfl, Nat.le_of_ble_eq_true rfl⟩) hP hD hS hA (fun u9 ce9 q9 H locs hx9 hP hD hS hc9 hv9 hf9 => ?_) (fun u144 H locs hw143 hP hD hS => ?_)
            · exact vx_out (fun x h9 => (hnt x h9).elim) hlocks hc9 hv9 hf9 (fun t9 ht9 hv8 => ⟨u9, (FG.tr (FG.tr (FG.tr (FG.rf _) (FG.up fwL91 (by decide) (by decide))) (FG.up fr128 (by decide) (by decide))) hx9), ⟨rfl, by rw [ht9]; exact hP, hD⟩, hS.F ht9⟩) hS.2.2 (Nat.le_refl _) (Nat.le_refl _)
            obtain ⟨fr143, pt143, pb143, pw143, po143, pf143, pk143, pp143, ph143, kc143, ko143, kg143, n35143⟩ := hw143
            have pt143 : (u129.1 0 47).toInt + 1 ≤ (u144.1 0 47).toInt ∧ (u144.1 0 47).toInt ≤ 1500 := pt143
            have pb143 : (u129.1 0 49).toInt ≠ (u129.1 0 47).toInt := pb143
            have pw143 : (u129.1 0 12).toInt ≤ (u144.1 0 12).toInt ∧ (u144.1 0 12).toInt - 15 * (u144.1 0 47).toInt ≤ (u129.1 0 12).toInt - 15 * (u129.1 0 47).toInt := pw143
            have po143 : (u129.1 0 15).toInt ≤ (u144.1 0 15).toInt ∧ (u144.1 0 15).toInt - 10 * (u144.1 0 47).toInt ≤ (u129.1 0 15).toInt - 10 * (u129.1 0 47).toInt := po143
            have pf143 : (u129.1 0 43).toInt ≤ (u144.1 0 43).toInt ∧ (u144.1 0 43).toInt - 15 * (u144.1 0 47).toInt ≤ (u129.1 0 43).toInt - 15 * (u129.1 0 47).toInt := pf143
            have pk143 : (u129.1 0 39).toInt ≤ (u144.1 0 39).toInt ∧ (u144.1 0 39).toInt - 1 * (u144.1 0 47).toInt ≤ (u129.1 0 39).toInt - 1 * (u129.1 0 47).toInt := pk143
            have pp143 : (u144.1 0 32).toInt = (u129.1 0 32).toInt ∧ (u144.1 0 48).toInt = (u129.1 0 48).toInt := pp143
            have ph143 : (u129.1 0 33).toInt ≤ (u144.1 0 33).toInt ∧ (u144.1 0 33).toInt ≤ 500 := ph143
            have kc143 : ∀ j : Nat, (j : Int) < (u129.1 0 12).toInt → (u144.1 11) j = (u129.1 11) j := kc143
            have ko143 : ∀ j : Nat, (j : Int) < (u129.1 0 15).toInt → (u144.1 13) j = (u129.1 13) j := ko143
            have kg143 : ∀ j : Nat, (j : Int) < (u129.1 0 15).toInt → (u144.1 14) j = (u129.1 14) j := kg143
            have n35143 : NI 35 u144 := n35143
            refine W.widen (k := 0) (n := 0) (Nat.le_refl _) (Nat.le_refl _) ?_
            refine lv_aload_n hx hb dX13_call_121 rfl (lv_at hl 5 rfl) ?_
            refine lv_bipush (v := 10) hx hb dX13_call_122 (by decide) ?_
            refine lv_iload hx hb dX13_call_124 (lv_at hl 0 rfl) ?_
            refine cu_s (mW_nd _ _ _ _ _ _) (rn_S (n := 1) (As := [.int r130]) (rest := [.int 10, .ref (ad 0)]) hx hb hml hown ht hKK hFx hP hD hS hA (c_m_slotAt l dC dI cI cB cZ cJ cR tb H.size r130 ) tw_74 tw_75 (by decide +kernel) rfl rfl ⟨show 0 + 1 ≤ 40 * n + 7 from om_8e99a81d6b, show 8 + (1 + 11) + 0 ≤ 28 * (40 * n + 7) from om_0b9857731b⟩ [] rfl rfl rfl hl.1 rfl (Nat.le_of_ble_eq_true rfl) dX13_call_126 ⟨Nat.le_of_ble_eq_true rfl, Nat.le_of_ble_eq_true rfl⟩) hP hD hS hA (fun r148 H locs hw146 hP hD hS => ?_)
            refine W.widen (k := 0) (n := 0) (Nat.le_refl _) (Nat.le_refl _) ?_
            refine lv_bipush (v := 8) hx hb dX13_call_129 (by decide) ?_
            refine cu_s (mW_nd _ _ _ _ _ _) (rn_S (n := 3) (As := [.int 10, .int r148, .int 8]) (rest := [.ref (ad 0)]) hx hb hml hown ht hKK hFx hP hD hS hA (c_m_sw l dC dI cI cB cZ cJ cR tb H.size (10 : Int32) r148 (8 : Int32) ) tw_76 tw_77 (by decide +kernel) rfl rfl ⟨show 0 + 1 ≤ 40 * n + 7 from om_8e99a81d6b, show 8 + (3 + 11) + 0 ≤ 28 * (40 * n + 7) from om_3763ab29f8⟩ [] rfl rfl rfl hl.1 rfl (Nat.le_of_ble_eq_true rfl) dX13_call_131 ⟨Nat.le_of_ble_eq_true rfl, Nat.le_of_ble_eq_true rfl⟩) hP hD hS hA (fun r151 H locs hw149 hP hD hS => ?_)
            refine W.widen (k := 0) (n := 0) (Nat.le_refl _) (Nat.le_refl _) ?_
            refine cu_i (rn_V (n := 1) (As := [.int r151]) (rest := []) hx hb hml hown ht hKK hFx hP hD hS hA (c_m_emit l dC dI cI cB cZ cJ cR tb H.size ad N u144 r151 (show 0 ≤ (u144.1 0 12).toInt ∧ (u144.1 0 12).toInt < 24000 from (om_743c7d12b2 zws l3L91 lmL91 q137 q134 pt143 pw143))) tw_8 tw_9 (by decide +kernel) rfl rfl ⟨show 0 + 1 ≤ 40 * n + 7 from om_8e99a81d6b, show 8 + (2 + 11) + 0 ≤ 28 * (40 * n + 7) from om_b622fbbd61⟩ (List.range (mW ad N cI cZ cJ u144).length) (rg_map _) (mW_nd _ _ _ _ _ _) rfl rfl rfl rfl hl.1 rfl (Nat.le_of_ble_eq_true rfl) dX13_call_134 ⟨Nat.le_of_ble_eq_true rfl, Nat.le_of_ble_eq_true rfl⟩) hP hD hS hA (fun r154 u153 H locs hw152 hP hD hS => ?_)
            obtain ⟨rfl, rfl⟩ := hw152
            have z155 : ((u144.1 0 12) + (1 : Int32)).toInt = ((u144.1 0 12).toInt) + 1 := add_z rfl (show (1 : Int32).toInt = 1 by decide) (om_f44cca851c zws l3L91 q137 pw143) (om_24debe6471 zws l3L91 lmL91 q137 q134 pt143 pw143)
            have hP : va_P (dC, dI) vwCl (mW ad N cI cZ cJ (wA (wA u144 11 ((u144.1 0 12).toNatClampNeg) r151) 0 12 ((u144.1 0 12) + (1 : Int32)))) H := hP
            have hD : va_D A (mW ad N cI cZ cJ (wA (wA u144 11 ((u144.1 0 12).toNatClampNeg) r151) 0 12 ((u144.1 0 12) + (1 : Int32)))) := hD
            refine tp_i (y := (u144.1 0 12)) (rfl) ?_
            refine W.widen (k := 0) (n := 0) (Nat.le_refl _) (Nat.le_refl _) ?_
            refine lv_pop hx hb dX13_call_137 rfl ?_
            refine lv_aload_n hx hb dX13_call_138 rfl (lv_at hl 5 rfl) ?_
            refine lv_dup hx hb dX13_call_139 rfl ?_
            refine va_get (D := (dC, dI)) (ci := 16) (fs := mF ad (wA (wA u144 11 ((u144.1 0 12).toNatClampNeg) r151) 0 12 ((u144.1 0 12) + (1 : Int32)))) (v := .int (u144.1 0 32)) (C := RX13) (T := TX13) (N := 124) hx hb ht itX13 hown hK hP 0 rfl rfl 32 (by decide) (ht _ tw_52) (fun _ h9 => h9) rfl dX13_call_140 ?_
            refine lv_iconst (v := 1) hx hb dX13_call_143 (by decide) ?_
            refine lv_iadd hx hb dX13_call_144 ?_
            have z156 : ((u144.1 0 32) + (1 : Int32)).toInt = ((u144.1 0 32).toInt) + 1 := add_z rfl (show (1 : Int32).toInt = 1 by decide) (om_e0b7151e27 zs l1L91 l7L91 q136 pp143) (om_49f7576b45 zkn l7L91 q136 pp143)
            refine va_put (D := (dC, dI)) (ci := 16) (fs := mF ad (wA (wA u144 11 ((u144.1 0 12).toNatClampNeg) r151) 0 12 ((u144.1 0 12) + (1 : Int32)))) (v := .int ((u144.1 0 32) + (1 : Int32))) (ty := .int) (C := RX13) (T := TX13) (N := 124) hx hb ht itX13 tyX13 tyX13_ok nmX13 hown hK hP hD hS 0 rfl rfl 32 (by decide) (ht _ tw_52) (fun _ h9 => h9) rfl (by decide +kernel) rfl rfl (Nat.le_of_ble_eq_true rfl) dX13_call_145 (fun H locs hP hD hS => ?_)
            have hP := cP_ (mw_32 ad N cI cZ cJ (wA (wA u144 11 ((u144.1 0 12).toNatClampNeg) r151) 0 12 ((u144.1 0 12) + (1 : Int32))) ((u144.1 0 32) + (1 : Int32))) hP
            have hD := cD_ (mw_32 ad N cI cZ cJ (wA (wA u144 11 ((u144.1 0 12).toNatClampNeg) r151) 0 12 ((u144.1 0 12) + (1 : Int32))) ((u144.1 0 32) + (1 : Int32))) hD
            refine lv_iinc (v := (na + (1 : Int32))) (lv' := [(2, .int (na + (1 : Int32))), (5, .int r130), (4, .int mo), (3, .int ((v.1 0 30) + (v.1 0 32))), (1, .int (v.1 0 39)), (0, .ref (ad 0))]) hx hb dX13_call_148 hl (k := 3) rfl (rfl) (by decide) rfl (fun ls hl => ?_)
            have z157 : (na + (1 : Int32)).toInt = na.toInt + 1 := add_z rfl (show (1 : Int32).toInt = 1 by decide) (om_9442f9028b l1L91) (om_1084b5be12 l1L91)
            refine lv_aload_n hx hb dX13_call_151 rfl (lv_at hl 5 rfl) ?_
            refine lv_bipush (v := 44) hx hb dX13_call_152 (by decide) ?_
            refine cu_i (rn_V (n := 1) (As := [.int 44]) (rest := []) hx hb hml hown ht hKK hFx hP hD hS hA (c_m_is l dC dI cI cB cZ cJ cR tb H.size ad N (wA (wA (wA u144 11 ((u144.1 0 12).toNatClampNeg) r151) 0 12 ((u144.1 0 12) + (1 : Int32))) 0 32 ((u144.1 0 32) + (1 : Int32))) (44 : Int32) (show 0 ≤ (u144.1 0 47).toInt ∧ (u144.1 0 47).toInt ≤ 1500 from (om_b8b1f39fc3 zfs l4L91 q134 pt143 pw143))) tw_34 tw_35 (by decide +kernel) rfl rfl ⟨show 1 + 1 ≤ 40 * n + 7 from om_9d6ac316d0, show 8 + (2 + 11) + 22 ≤ 28 * (40 * n + 7) from om_7fcb3e7e8b⟩ (List.range (mW ad N cI cZ cJ (wA (wA (wA u144 11 ((u144.1 0 12).toNatClampNeg) r151) 0 12 ((u144.1 0 12) + (1 : Int32))) 0 32 ((u144.1 0 32) + (1 : Int32)))).length) (rg_map _) (mW_nd _ _ _ _ _ _) rfl rfl rfl rfl hl.1 rfl (Nat.le_of_ble_eq_true rfl) dX13_call_154 ⟨Nat.le_of_ble_eq_true rfl, Nat.le_of_ble_eq_true rfl⟩) hP hD hS hA (fun r160 u159 H locs hw158 hP hD hS => ?_)
            obtain ⟨rfl, b158, e158⟩ := hw158
            have b158 : (r160 = 0 ∨ r160 = 1) := b158
            have e158 : 0 ≤ r160.toInt ∧ r160.toInt ≤ 1 := e158
            refine W.widen (k := 0) (n := 0) (Nat.le_refl _) (Nat.le_refl _) ?_
            refine lv_istore (lv' := [(4, .int r160), (2, .int (na + (1 : Int32))), (5, .int r130), (3, .int ((v.1 0 30) + (v.1 0 32))), (1, .int (v.1 0 39)), (0, .ref (ad 0))]) hx hb dX13_call_157 hl (by decide) rfl (fun ls hl => ?_)
            refine lv_iload hx hb dX13_call_159 (lv_at hl 0 rfl) ?_
            refine lv_if_eq (tgt := 168) hx hb dX13_call_161 (by decide) (fun h161 => ?_) (fun h161 => ?_)
            · have z162 : r160.toInt = 0 := eq_z rfl (show (0 : Int32).toInt = 0 by decide) h161
              refine lv_goto (tgt := 91) hx hb dX13_call_168 (by decide) ?_
              exact ih91 ((na + (1 : Int32)), r160, (wA (wA (wA u144 11 ((u144.1 0 12).toNatClampNeg) r151) 0 12 ((u144.1 0 12) + (1 : Int32))) 0 32 ((u144.1 0 32) + (1 : Int32)))) _ _ _ (show (1500 - (u144.1 0 47).toInt).toNat < (1500 - (w91.1 0 47).toInt).toNat from tn_z (om_11eab9cfcd q134 pt143) (om_7b2416efdf q134 pt143)) ⟨(show FG [12, 15, 32, 33, 39, 43, 44, 45, 47, 48, 49, 50, 51] [0, 11, 13, 14, 35, 36, 37, 38, 40, 41, 42] v (wA (wA (wA u144 11 ((u144.1 0 12).toNatClampNeg) r151) 0 12 ((u144.1 0 12) + (1 : Int32))) 0 32 ((u144.1 0 32) + (1 : Int32))) from (FG.f (FG.f (FG.a (FG.tr (FG.tr (FG.tr (FG.rf _) (FG.up fwL91 (by decide) (by decide))) (FG.up fr128 (by decide) (by decide))) (FG.up fr143 (by decide) (by decide))) ((u144.1 0 12).toNatClampNeg) r151 (by decide) (by decide)) ((u144.1 0 12) + (1 : Int32)) (by decide)) ((u144.1 0 32) + (1 : Int32)) (by decide))), (show 0 ≤ (na + (1 : Int32)).toInt ∧ (na + (1 : Int32)).toInt ≤ 8 from (om_6ea8ff4aec l1L91 z126 z157)), (show (v.1 0 47).toInt + 2 ≤ (u144.1 0 47).toInt ∧ (u144.1 0 47).toInt ≤ 1500 ∧ (v.1 0 49).toInt ≠ (v.1 0 47).toInt from (om_1be7b253f9 b16 l2L91 q134 pt143)), (show (v.1 0 12).toInt ≤ ((u144.1 0 12) + (1 : Int32)).toInt ∧ ((u144.1 0 12) + (1 : Int32)).toInt - 15 * (u144.1 0 47).toInt + 14 + r160.toInt ≤ (v.1 0 12).toInt - 15 * (v.1 0 47).toInt from (om_416ca29b28 l3L91 lmL91 z124 q137 q134 pw143 z155 z162)), (show 0 ≤ r160.toInt ∧ r160.toInt ≤ 1 from (om_0c3da3f775 e158 z162)), (show (v.1 0 15).toInt ≤ (u144.1 0 15).toInt ∧ (u144.1 0 15).toInt - 10 * (u144.1 0 47).toInt + 10 ≤ (v.1 0 15).toInt - 10 * (v.1 0 47).toInt from (om_e0aa59a87c l4L91 q138 q134 po143)), (show (v.1 0 43).toInt ≤ (u144.1 0 43).toInt ∧ (u144.1 0 43).toInt - 15 * (u144.1 0 47).toInt + 0 ≤ (v.1 0 43).toInt - 15 * (v.1 0 47).toInt from (om_7de1bc600f l5L91 q139 q134 pf143)), (show (v.1 0 39).toInt ≤ (u144.1 0 39).toInt ∧ (u144.1 0 39).toInt - 1 * (u144.1 0 47).toInt + 1 ≤ (v.1 0 39).toInt - 1 * (v.1 0 47).toInt from (om_a800f031ff l6L91 q140 q134 pk143)), (show ((u144.1 0 32) + (1 : Int32)).toInt = (v.1 0 32).toInt + (na + (1 : Int32)).toInt ∧ (u144.1 0 48).toInt = (v.1 0 48).toInt + 1 ∧ (v.1 0 30).toInt + ((u144.1 0 32) + (1 : Int32)).toInt ≤ 500 from (om_a96e790d0e l7L91 q127 q136 q134 q133 sb128 sh128 pb143 pp143 z156 z157)), (show (v.1 0 33).toInt ≤ (u144.1 0 33).toInt ∧ (u144.1 0 33).toInt ≤ 500 from (om_bfb48e15b8 l8L91 sh128 ph143)), (show ∀ j : Nat, (j : Int) < (v.1 0 12).toInt → (upd (u144.1 11) ((u144.1 0 12).toNatClampNeg) r151) j = (v.1 11) j from (fun (j9 : Nat) hj9 => (Eq.trans (pk_un3 (a := (u144.1 0 12).toInt) rfl (om_d4d5dc5ad0 zws l3L91 q137 pw143) (om_d0ae3268d8 l3L91 q137 pw143 hj9)) (Eq.trans (kc143 j9 (om_b72412c74e l3L91 q137 hj9)) (Eq.trans (congrFun (fr128.2.2 11 (by decide)) j9) (kcL91 j9 (om_4fe904e9bf hj9))))))), (show ∀ j : Nat, (j : Int) < (v.1 0 15).toInt → (u144.1 13) j = (v.1 13) j from (fun (j9 : Nat) hj9 => (Eq.trans (ko143 j9 (om_7517dbbafd l4L91 q138 hj9)) (Eq.trans (congrFun (fr128.2.2 13 (by decide)) j9) (koL91 j9 (om_4fe904e9bf hj9)))))), (show ∀ j : Nat, (j : Int) < (v.1 0 15).toInt → (u144.1 14) j = (v.1 14) j from (fun (j9 : Nat) hj9 => (Eq.trans (kg143 j9 (om_7517dbbafd l4L91 q138 hj9)) (Eq.trans (congrFun (fr128.2.2 14 (by decide)) j9) (kgL91 j9 (om_4fe904e9bf hj9)))))), (show NI 35 (wA (wA (wA u144 11 ((u144.1 0 12).toNatClampNeg) r151) 0 12 ((u144.1 0 12) + (1 : Int32))) 0 32 ((u144.1 0 32) + (1 : Int32))) from n35143), hP, hD, hS, lv_sub hl [0, 3, 1, 4, 5] rfl⟩
            · have z163 : r160.toInt ≠ 0 := ne_z rfl (show (0 : Int32).toInt = 0 by decide) h161
              refine lv_aload_n hx hb dX13_call_164 rfl (lv_at hl 5 rfl) ?_
              refine cux_v (rx_V (n := 0) (As := []) (rest := []) hx hb hml hown ht hKK hFx hP hD hS hA (c_m_take l dC dI cI cB cZ cJ cR tb H.size ad N (wA (wA (wA u144 11 ((u144.1 0 12).toNatClampNeg) r151) 0 12 ((u144.1 0 12) + (1 : Int32))) 0 32 ((u144.1 0 32) + (1 : Int32)))  (show 0 ≤ (u144.1 0 47).toInt ∧ (u144.1 0 47).toInt ≤ 1500 from (om_b8b1f39fc3 zfs l4L91 q134 pt143 pw143))) tw_32 tw_33 (by decide +kernel) rfl rfl ⟨show 1 + 1 ≤ 40 * n + 7 from om_9d6ac316d0, show 8 + (1 + 11) + 22 ≤ 28 * (40 * n + 7) from om_9e58535660⟩ (List.range (mW ad N cI cZ cJ (wA (wA (wA u144 11 ((u144.1 0 12).toNatClampNeg) r151) 0 12 ((u144.1 0 12) + (1 : Int32))) 0 32 ((u144.1 0 32) + (1 : Int32)))).length) (rg_map _) (mW_nd _ _ _ _ _ _) rfl rfl rfl rfl hl.1 rfl (Nat.le_of_ble_eq_true rfl) dX13_call_165 ⟨Nat.le_of_ble_eq_true rfl, Nat.le_of_ble_eq_true rfl⟩) hP hD hS hA (fun u9 ce9 q9 H locs hx9 hP hD hS hc9 hv9 hf9 => ?_) (fun u165 H locs hw164 hP hD hS => ?_)
              · exact vx_out (fun x h9 => (hnt x h9).elim) hlocks hc9 hv9 hf9 (fun t9 ht9 hv8 => ⟨u9, (FG.tr (FG.f (FG.f (FG.a (FG.tr (FG.tr (FG.tr (FG.rf _) (FG.up fwL91 (by decide) (by decide))) (FG.up fr128 (by decide) (by decide))) (FG.up fr143 (by decide) (by decide))) ((u144.1 0 12).toNatClampNeg) r151 (by decide) (by decide)) ((u144.1 0 12) + (1 : Int32)) (by decide)) ((u144.1 0 32) + (1 : Int32)) (by decide)) hx9), ⟨rfl, by rw [ht9]; exact hP, hD⟩, hS.F ht9⟩) hS.2.2 (Nat.le_refl _) (Nat.le_refl _)
              obtain ⟨rfl, a164, b164⟩ := hw164
              have z167 : ((u144.1 0 47) + (1 : Int32)).toInt = ((u144.1 0 47).toInt) + 1 := add_z rfl (show (1 : Int32).toInt = 1 by decide) (om_974ce78dbd q134) (om_61706382c1 pt143)
              have hP : va_P (dC, dI) vwCl (mW ad N cI cZ cJ (wA (wA (wA (wA u144 11 ((u144.1 0 12).toNatClampNeg) r151) 0 12 ((u144.1 0 12) + (1 : Int32))) 0 32 ((u144.1 0 32) + (1 : Int32))) 0 47 ((u144.1 0 47) + (1 : Int32)))) H := hP
              have hD : va_D A (mW ad N cI cZ cJ (wA (wA (wA (wA u144 11 ((u144.1 0 12).toNatClampNeg) r151) 0 12 ((u144.1 0 12) + (1 : Int32))) 0 32 ((u144.1 0 32) + (1 : Int32))) 0 47 ((u144.1 0 47) + (1 : Int32)))) := hD
              have a164 : (u144.1 0 47).toInt < 1500 := a164
              have b164 : (u144.1 0 49).toInt ≠ (u144.1 0 47).toInt := b164
              refine W.widen (k := 0) (n := 0) (Nat.le_refl _) (Nat.le_refl _) ?_
              refine lv_goto (tgt := 91) hx hb dX13_call_168 (by decide) ?_
              exact ih91 ((na + (1 : Int32)), r160, (wA (wA (wA (wA u144 11 ((u144.1 0 12).toNatClampNeg) r151) 0 12 ((u144.1 0 12) + (1 : Int32))) 0 32 ((u144.1 0 32) + (1 : Int32))) 0 47 ((u144.1 0 47) + (1 : Int32)))) _ _ _ (show (1500 - ((u144.1 0 47) + (1 : Int32)).toInt).toNat < (1500 - (w91.1 0 47).toInt).toNat from tn_z (om_9dadf41de6 q134 pt143 z167) (om_581ba89dc8 q134 pt143 a164)) ⟨(show FG [12, 15, 32, 33, 39, 43, 44, 45, 47, 48, 49, 50, 51] [0, 11, 13, 14, 35, 36, 37, 38, 40, 41, 42] v (wA (wA (wA (wA u144 11 ((u144.1 0 12).toNatClampNeg) r151) 0 12 ((u144.1 0 12) + (1 : Int32))) 0 32 ((u144.1 0 32) + (1 : Int32))) 0 47 ((u144.1 0 47) + (1 : Int32))) from (FG.f (FG.f (FG.f (FG.a (FG.tr (FG.tr (FG.tr (FG.rf _) (FG.up fwL91 (by decide) (by decide))) (FG.up fr128 (by decide) (by decide))) (FG.up fr143 (by decide) (by decide))) ((u144.1 0 12).toNatClampNeg) r151 (by decide) (by decide)) ((u144.1 0 12) + (1 : Int32)) (by decide)) ((u144.1 0 32) + (1 : Int32)) (by decide)) ((u144.1 0 47) + (1 : Int32)) (by decide))), (show 0 ≤ (na + (1 : Int32)).toInt ∧ (na + (1 : Int32)).toInt ≤ 8 from (om_6ea8ff4aec l1L91 z126 z157)), (show (v.1 0 47).toInt + 2 ≤ ((u144.1 0 47) + (1 : Int32)).toInt ∧ ((u144.1 0 47) + (1 : Int32)).toInt ≤ 1500 ∧ (v.1 0 49).toInt ≠ (v.1 0 47).toInt from (om_5c80432c67 b16 l2L91 q134 pt143 z167 a164)), (show (v.1 0 12).toInt ≤ ((u144.1 0 12) + (1 : Int32)).toInt ∧ ((u144.1 0 12) + (1 : Int32)).toInt - 15 * ((u144.1 0 47) + (1 : Int32)).toInt + 14 + r160.toInt ≤ (v.1 0 12).toInt - 15 * (v.1 0 47).toInt from (om_c9f49278e2 l3L91 lmL91 q137 q134 pw143 z155 e158 z167)), (show 0 ≤ r160.toInt ∧ r160.toInt ≤ 1 from (om_3c098c46d5 e158)), (show (v.1 0 15).toInt ≤ (u144.1 0 15).toInt ∧ (u144.1 0 15).toInt - 10 * ((u144.1 0 47) + (1 : Int32)).toInt + 10 ≤ (v.1 0 15).toInt - 10 * (v.1 0 47).toInt from (om_a82e6191d3 l4L91 q138 q134 po143 z167)), (show (v.1 0 43).toInt ≤ (u144.1 0 43).toInt ∧ (u144.1 0 43).toInt - 15 * ((u144.1 0 47) + (1 : Int32)).toInt + 0 ≤ (v.1 0 43).toInt - 15 * (v.1 0 47).toInt from (om_84be5b1ab0 l5L91 q139 q134 pf143 z167)), (show (v.1 0 39).toInt ≤ (u144.1 0 39).toInt ∧ (u144.1 0 39).toInt - 1 * ((u144.1 0 47) + (1 : Int32)).toInt + 1 ≤ (v.1 0 39).toInt - 1 * (v.1 0 47).toInt from (om_76d4e086e2 l6L91 q140 q134 pk143 z167)), (show ((u144.1 0 32) + (1 : Int32)).toInt = (v.1 0 32).toInt + (na + (1 : Int32)).toInt ∧ (u144.1 0 48).toInt = (v.1 0 48).toInt + 1 ∧ (v.1 0 30).toInt + ((u144.1 0 32) + (1 : Int32)).toInt ≤ 500 from (om_a96e790d0e l7L91 q127 q136 q134 q133 sb128 sh128 pb143 pp143 z156 z157)), (show (v.1 0 33).toInt ≤ (u144.1 0 33).toInt ∧ (u144.1 0 33).toInt ≤ 500 from (om_bfb48e15b8 l8L91 sh128 ph143)), (show ∀ j : Nat, (j : Int) < (v.1 0 12).toInt → (upd (u144.1 11) ((u144.1 0 12).toNatClampNeg) r151) j = (v.1 11) j from (fun (j9 : Nat) hj9 => (Eq.trans (pk_un3 (a := (u144.1 0 12).toInt) rfl (om_d4d5dc5ad0 zws l3L91 q137 pw143) (om_d0ae3268d8 l3L91 q137 pw143 hj9)) (Eq.trans (kc143 j9 (om_b72412c74e l3L91 q137 hj9)) (Eq.trans (congrFun (fr128.2.2 11 (by decide)) j9) (kcL91 j9 (om_4fe904e9bf hj9))))))), (show ∀ j : Nat, (j : Int) < (v.1 0 15).toInt → (u144.1 13) j = (v.1 13) j from (fun (j9 : Nat) hj9 => (Eq.trans (ko143 j9 (om_7517dbbafd l4L91 q138 hj9)) (Eq.trans (congrFun (fr128.2.2 13 (by decide)) j9) (koL91 j9 (om_4fe904e9bf hj9)))))), (show ∀ j : Nat, (j : Int) < (v.1 0 15).toInt → (u144.1 14) j = (v.1 14) j from (fun (j9 : Nat) hj9 => (Eq.trans (kg143 j9 (om_7517dbbafd l4L91 q138 hj9)) (Eq.trans (congrFun (fr128.2.2 14 (by decide)) j9) (kgL91 j9 (om_4fe904e9bf hj9)))))), (show NI 35 (wA (wA (wA (wA u144 11 ((u144.1 0 12).toNatClampNeg) r151) 0 12 ((u144.1 0 12) + (1 : Int32))) 0 32 ((u144.1 0 32) + (1 : Int32))) 0 47 ((u144.1 0 47) + (1 : Int32))) from n35143), hP, hD, hS, lv_sub hl [0, 3, 1, 4, 5] rfl⟩
          · have z168 : na.toInt = 8 := eq_z rfl (show (8 : Int32).toInt = 8 by decide) h125
            refine lv_aload_n hx hb dX13_call_102 rfl (lv_at hl 4 rfl) ?_
            refine lv_aload_n hx hb dX13_call_103 rfl (lv_at hl 4 rfl) ?_
            refine va_get (D := (dC, dI)) (ci := 16) (fs := mF ad w91) (v := .int (w91.1 0 47)) (C := RX13) (T := TX13) (N := 124) hx hb ht itX13 hown hK hP 0 rfl rfl 47 (by decide) (ht _ tw_24) (fun _ h9 => h9) rfl dX13_call_104 ?_
            refine va_put (D := (dC, dI)) (ci := 16) (fs := mF ad w91) (v := .int (w91.1 0 47)) (ty := .int) (C := RX13) (T := TX13) (N := 124) hx hb ht itX13 tyX13 tyX13_ok nmX13 hown hK hP hD hS 0 rfl rfl 49 (by decide) (ht _ tw_30) (fun _ h9 => h9) rfl (by decide +kernel) rfl rfl (Nat.le_of_ble_eq_true rfl) dX13_call_107 (fun H locs hP hD hS => ?_)
            have hP := cP_ (mw_49 ad N cI cZ cJ w91 (w91.1 0 47)) hP
            have hD := cD_ (mw_49 ad N cI cZ cJ w91 (w91.1 0 47)) hD
            refine lv_aload_n hx hb dX13_call_110 rfl (lv_at hl 4 rfl) ?_
            refine lv_iconst (v := 1) hx hb dX13_call_111 (by decide) ?_
            have q169 : (w91.1 0 30).toInt = (v.1 0 30).toInt := congrArg Int32.toInt (fwL91.2.1 30 (by decide))
            refine cu_i (rn_V (n := 1) (As := [.int 1]) (rest := []) hx hb hml hown ht hKK hFx hP hD hS hA (c_m_slots l dC dI cI cB cZ cJ cR tb H.size ad N (wA w91 0 49 (w91.1 0 47)) (1 : Int32) (show 0 ≤ (w91.1 0 30).toInt ∧ (w91.1 0 30).toInt ≤ 500 from (om_55dc333e68 zkn zs l7L91 q169 z168)) (show 0 ≤ (w91.1 0 32).toInt ∧ (w91.1 0 32).toInt ≤ 2000 from (om_b07cb957a5 zkn zs l7L91 z168)) (show 0 ≤ (w91.1 0 33).toInt ∧ (w91.1 0 33).toInt ≤ 500 from (om_cc8e83f451 zhi l8L91)) (show 0 ≤ 1 ∧ 1 ≤ 8 from om_9f427a292a)) tw_88 tw_89 (by decide +kernel) rfl rfl ⟨show 0 + 1 ≤ 40 * n + 7 from om_8e99a81d6b, show 8 + (3 + 11) + 0 ≤ 28 * (40 * n + 7) from om_3763ab29f8⟩ (List.range (mW ad N cI cZ cJ (wA w91 0 49 (w91.1 0 47))).length) (rg_map _) (mW_nd _ _ _ _ _ _) rfl rfl rfl rfl hl.1 rfl (Nat.le_of_ble_eq_true rfl) dX13_call_112 ⟨Nat.le_of_ble_eq_true rfl, Nat.le_of_ble_eq_true rfl⟩) hP hD hS hA (fun r172 u171 H locs hw170 hP hD hS => ?_)
            obtain ⟨fr170, sr170, sb170, sh170⟩ := hw170
            have sr170 : r172.toInt = (w91.1 0 30).toInt + (w91.1 0 32).toInt := sr170
            have sb170 : ((w91.1 0 30).toInt + (w91.1 0 32).toInt + 1 ≤ (u171.1 0 33).toInt ∧ (u171.1 0 49).toInt = (w91.1 0 47).toInt) ∨ (u171.1 0 49).toInt = (w91.1 0 47).toInt := sb170
            have sh170 : (w91.1 0 33).toInt ≤ (u171.1 0 33).toInt ∧ (u171.1 0 33).toInt ≤ 500 := sh170
            refine W.widen (k := 0) (n := 0) (Nat.le_refl _) (Nat.le_refl _) ?_
            refine lv_istore (lv' := [(5, .int r172), (4, .int mo), (3, .int ((v.1 0 30) + (v.1 0 32))), (2, .int na), (1, .int (v.1 0 39)), (0, .ref (ad 0))]) hx hb dX13_call_115 hl (by decide) rfl (fun ls hl => ?_)
            refine lv_aload_n hx hb dX13_call_117 rfl (lv_at hl 5 rfl) ?_
            obtain ⟨n173, hn174⟩ : ∃ m, n = m + 1 := ex_z (om_78b28660f8 zn b20)
            have q175 : (u171.1 0 48).toInt = (w91.1 0 48).toInt := congrArg Int32.toInt ((fr170.2.1 48 (by decide)).trans (show (wA w91 0 49 (w91.1 0 47)).1 0 48 = (w91.1 0 48) by rfl))
            have q176 : (u171.1 0 47).toInt = (w91.1 0 47).toInt := congrArg Int32.toInt ((fr170.2.1 47 (by decide)).trans (show (wA w91 0 49 (w91.1 0 47)).1 0 47 = (w91.1 0 47) by rfl))
            have q177 : (u171.1 0 30).toInt = (w91.1 0 30).toInt := congrArg Int32.toInt ((fr170.2.1 30 (by decide)).trans (show (wA w91 0 49 (w91.1 0 47)).1 0 30 = (w91.1 0 30) by rfl))
            have q178 : (u171.1 0 32).toInt = (w91.1 0 32).toInt := congrArg Int32.toInt ((fr170.2.1 32 (by decide)).trans (show (wA w91 0 49 (w91.1 0 47)).1 0 32 = (w91.1 0 32) by rfl))
            have q179 : (u171.1 0 12).toInt = (w91.1 0 12).toInt := congrArg Int32.toInt ((fr170.2.1 12 (by decide)).trans (show (wA w91 0 49 (w91.1 0 47)).1 0 12 = (w91.1 0 12) by rfl))
            have q180 : (u171.1 0 15).toInt = (w91.1 0 15).toInt := congrArg Int32.toInt ((fr170.2.1 15 (by decide)).trans (show (wA w91 0 49 (w91.1 0 47)).1 0 15 = (w91.1 0 15) by rfl))
            have q181 : (u171.1 0 43).toInt = (w91.1 0 43).toInt := congrArg Int32.toInt ((fr170.2.1 43 (by decide)).trans (show (wA w91 0 49 (w91.1 0 47)).1 0 43 = (w91.1 0 43) by rfl))
            have q182 : (u171.1 0 39).toInt = (w91.1 0 39).toInt := congrArg Int32.toInt ((fr170.2.1 39 (by decide)).trans (show (wA w91 0 49 (w91.1 0 47)).1 0 39 = (w91.1 0 39) by rfl))
            have q183 : (w91.1 0 27).toInt = (v.1 0 27).toInt := congrArg Int32.toInt (fwL91.2.1 27 (by decide))
            have q184 : (u171.1 0 27).toInt = (w91.1 0 27).toInt := congrArg Int32.toInt ((fr170.2.1 27 (by decide)).trans (show (wA w91 0 49 (w91.1 0 47)).1 0 27 = (w91.1 0 27) by rfl))
            refine cux_v (rx_V (n := 0) (As := []) (rest := []) hx hb hml hown ht hKK hFx hP hD hS hA (ihE n173 hn174 dC dI cI cB cZ cJ cR tb H.size ad N u171  (show 40 ≤ (u171.1 0 48).toInt + (n173 : Int) from (om_b1f15a1a46 zn l7L91 q175 hn174)) (show 0 ≤ (u171.1 0 47).toInt ∧ (u171.1 0 47).toInt ≤ 1500 from (om_4b7b84fccf zfs l2L91 l4L91 q176)) (show 0 ≤ (u171.1 0 48).toInt ∧ (u171.1 0 48).toInt ≤ 40 from (om_1a3ff391a1 zop b20 l7L91 q175)) (show 0 ≤ (u171.1 0 30).toInt ∧ (u171.1 0 30).toInt ≤ 500 from (om_bf43386a25 zkn zs l7L91 q169 z168 q177)) (show 0 ≤ (u171.1 0 33).toInt ∧ (u171.1 0 33).toInt ≤ 500 from (om_fa78899538 zhi l8L91 sh170)) (show 0 ≤ (u171.1 0 32).toInt ∧ (u171.1 0 30).toInt + (u171.1 0 32).toInt ≤ 500 from (om_028fd2e4b1 zs l7L91 q169 z168 q177 q178)) (show 0 ≤ (u171.1 0 12).toInt ∧ (u171.1 0 12).toInt ≤ 15 * (u171.1 0 47).toInt + 2 from (om_88dff433f8 zws l3L91 lmL91 q179 q176)) (show 0 ≤ (u171.1 0 15).toInt ∧ (u171.1 0 15).toInt ≤ 10 * (u171.1 0 47).toInt + 0 from (om_0ceca355ec zos l4L91 q180 q176)) (show 0 ≤ (u171.1 0 43).toInt ∧ (u171.1 0 43).toInt ≤ 15 * (u171.1 0 47).toInt + 0 from (om_47d8a1519d zfs l5L91 q181 q176)) (show 0 ≤ (u171.1 0 39).toInt ∧ (u171.1 0 39).toInt ≤ 1 * (u171.1 0 47).toInt + 0 from (om_2a29b367b4 zcs l6L91 q182 q176)) (show 0 ≤ (u171.1 0 27).toInt ∧ (u171.1 0 27).toInt ≤ 60 from (om_439c5576c5 zgl q183 q184)) (FG.ti (fl := pfl) (al := pal) (FG.tr (FG.f (FG.tr (FG.rf _) (FG.up fwL91 (by decide) (by decide))) (w91.1 0 47) (by decide)) (FG.up fr170 (by decide) (by decide))) (by decide) (by decide) hT) ((show NI 29 u171 from NI.fr (fl := [33, 49]) (al := [0]) fr170 (by decide) (show NI 29 w91 from NI.fr (fl := [12, 15, 32, 33, 39, 43, 44, 45, 47, 48, 49, 50, 51]) (al := [0, 11, 13, 14, 35, 36, 37, 38, 40, 41, 42]) fwL91 (by decide) n29))) ((show NI 23 u171 from NI.fr (fl := [33, 49]) (al := [0]) fr170 (by decide) (show NI 23 w91 from NI.fr (fl := [12, 15, 32, 33, 39, 43, 44, 45, 47, 48, 49, 50, 51]) (al := [0, 11, 13, 14, 35, 36, 37, 38, 40, 41, 42]) fwL91 (by decide) n23))) ((show NI 35 u171 from NI.fr (fl := [33, 49]) (al := [0]) fr170 (by decide) n35L91))) tw_80 tw_81 (by decide +kernel) rfl rfl ⟨show (40 * n173 + 36) + 1 ≤ 40 * n + 7 from (om_f82ab4b197 hn174), show 8 + (1 + 11) + 28 * (40 * n173 + 36) ≤ 28 * (40 * n + 7) from (om_602ef98186 hn174)⟩ (List.range (mW ad N cI cZ cJ u171).length) (rg_map _) (mW_nd _ _ _ _ _ _) rfl rfl rfl rfl hl.1 rfl (Nat.le_of_ble_eq_true rfl) dX13_call_118 ⟨Nat.le_of_ble_eq_true rfl, Nat.le_of_ble_eq_true rfl⟩) hP hD hS hA (fun u9 ce9 q9 H locs hx9 hP hD hS hc9 hv9 hf9 => ?_) (fun u186 H locs hw185 hP hD hS => ?_)
            · exact vx_out (fun x h9 => (hnt x h9).elim) hlocks hc9 hv9 hf9 (fun t9 ht9 hv8 => ⟨u9, (FG.tr (FG.tr (FG.f (FG.tr (FG.rf _) (FG.up fwL91 (by decide) (by decide))) (w91.1 0 47) (by decide)) (FG.up fr170 (by decide) (by decide))) hx9), ⟨rfl, by rw [ht9]; exact hP, hD⟩, hS.F ht9⟩) hS.2.2 (Nat.le_refl _) (Nat.le_refl _)
            obtain ⟨fr185, pt185, pb185, pw185, po185, pf185, pk185, pp185, ph185, kc185, ko185, kg185, n35185⟩ := hw185
            have pt185 : (u171.1 0 47).toInt + 1 ≤ (u186.1 0 47).toInt ∧ (u186.1 0 47).toInt ≤ 1500 := pt185
            have pb185 : (u171.1 0 49).toInt ≠ (u171.1 0 47).toInt := pb185
            have pw185 : (u171.1 0 12).toInt ≤ (u186.1 0 12).toInt ∧ (u186.1 0 12).toInt - 15 * (u186.1 0 47).toInt ≤ (u171.1 0 12).toInt - 15 * (u171.1 0 47).toInt := pw185
            have po185 : (u171.1 0 15).toInt ≤ (u186.1 0 15).toInt ∧ (u186.1 0 15).toInt - 10 * (u186.1 0 47).toInt ≤ (u171.1 0 15).toInt - 10 * (u171.1 0 47).toInt := po185
            have pf185 : (u171.1 0 43).toInt ≤ (u186.1 0 43).toInt ∧ (u186.1 0 43).toInt - 15 * (u186.1 0 47).toInt ≤ (u171.1 0 43).toInt - 15 * (u171.1 0 47).toInt := pf185
            have pk185 : (u171.1 0 39).toInt ≤ (u186.1 0 39).toInt ∧ (u186.1 0 39).toInt - 1 * (u186.1 0 47).toInt ≤ (u171.1 0 39).toInt - 1 * (u171.1 0 47).toInt := pk185
            have pp185 : (u186.1 0 32).toInt = (u171.1 0 32).toInt ∧ (u186.1 0 48).toInt = (u171.1 0 48).toInt := pp185
            have ph185 : (u171.1 0 33).toInt ≤ (u186.1 0 33).toInt ∧ (u186.1 0 33).toInt ≤ 500 := ph185
            have kc185 : ∀ j : Nat, (j : Int) < (u171.1 0 12).toInt → (u186.1 11) j = (u171.1 11) j := kc185
            have ko185 : ∀ j : Nat, (j : Int) < (u171.1 0 15).toInt → (u186.1 13) j = (u171.1 13) j := ko185
            have kg185 : ∀ j : Nat, (j : Int) < (u171.1 0 15).toInt → (u186.1 14) j = (u171.1 14) j := kg185
            have n35185 : NI 35 u186 := n35185
            refine W.widen (k := 0) (n := 0) (Nat.le_refl _) (Nat.le_refl _) ?_
            refine lv_aload_n hx hb dX13_call_121 rfl (lv_at hl 5 rfl) ?_
            refine lv_bipush (v := 10) hx hb dX13_call_122 (by decide) ?_
            refine lv_iload hx hb dX13_call_124 (lv_at hl 0 rfl) ?_
            refine cu_s (mW_nd _ _ _ _ _ _) (rn_S (n := 1) (As := [.int r172]) (rest := [.int 10, .ref (ad 0)]) hx hb hml hown ht hKK hFx hP hD hS hA (c_m_slotAt l dC dI cI cB cZ cJ cR tb H.size r172 ) tw_74 tw_75 (by decide +kernel) rfl rfl ⟨show 0 + 1 ≤ 40 * n + 7 from om_8e99a81d6b, show 8 + (1 + 11) + 0 ≤ 28 * (40 * n + 7) from om_0b9857731b⟩ [] rfl rfl rfl hl.1 rfl (Nat.le_of_ble_eq_true rfl) dX13_call_126 ⟨Nat.le_of_ble_eq_true rfl, Nat.le_of_ble_eq_true rfl⟩) hP hD hS hA (fun r190 H locs hw188 hP hD hS => ?_)
            refine W.widen (k := 0) (n := 0) (Nat.le_refl _) (Nat.le_refl _) ?_
            refine lv_bipush (v := 8) hx hb dX13_call_129 (by decide) ?_
            refine cu_s (mW_nd _ _ _ _ _ _) (rn_S (n := 3) (As := [.int 10, .int r190, .int 8]) (rest := [.ref (ad 0)]) hx hb hml hown ht hKK hFx hP hD hS hA (c_m_sw l dC dI cI cB cZ cJ cR tb H.size (10 : Int32) r190 (8 : Int32) ) tw_76 tw_77 (by decide +kernel) rfl rfl ⟨show 0 + 1 ≤ 40 * n + 7 from om_8e99a81d6b, show 8 + (3 + 11) + 0 ≤ 28 * (40 * n + 7) from om_3763ab29f8⟩ [] rfl rfl rfl hl.1 rfl (Nat.le_of_ble_eq_true rfl) dX13_call_131 ⟨Nat.le_of_ble_eq_true rfl, Nat.le_of_ble_eq_true rfl⟩) hP hD hS hA (fun r193 H locs hw191 hP hD hS => ?_)
            refine W.widen (k := 0) (n := 0) (Nat.le_refl _) (Nat.le_refl _) ?_
            refine cu_i (rn_V (n := 1) (As := [.int r193]) (rest := []) hx hb hml hown ht hKK hFx hP hD hS hA (c_m_emit l dC dI cI cB cZ cJ cR tb H.size ad N u186 r193 (show 0 ≤ (u186.1 0 12).toInt ∧ (u186.1 0 12).toInt < 24000 from (om_743c7d12b2 zws l3L91 lmL91 q179 q176 pt185 pw185))) tw_8 tw_9 (by decide +kernel) rfl rfl ⟨show 0 + 1 ≤ 40 * n + 7 from om_8e99a81d6b, show 8 + (2 + 11) + 0 ≤ 28 * (40 * n + 7) from om_b622fbbd61⟩ (List.range (mW ad N cI cZ cJ u186).length) (rg_map _) (mW_nd _ _ _ _ _ _) rfl rfl rfl rfl hl.1 rfl (Nat.le_of_ble_eq_true rfl) dX13_call_134 ⟨Nat.le_of_ble_eq_true rfl, Nat.le_of_ble_eq_true rfl⟩) hP hD hS hA (fun r196 u195 H locs hw194 hP hD hS => ?_)
            obtain ⟨rfl, rfl⟩ := hw194
            have z197 : ((u186.1 0 12) + (1 : Int32)).toInt = ((u186.1 0 12).toInt) + 1 := add_z rfl (show (1 : Int32).toInt = 1 by decide) (om_f44cca851c zws l3L91 q179 pw185) (om_24debe6471 zws l3L91 lmL91 q179 q176 pt185 pw185)
            have hP : va_P (dC, dI) vwCl (mW ad N cI cZ cJ (wA (wA u186 11 ((u186.1 0 12).toNatClampNeg) r193) 0 12 ((u186.1 0 12) + (1 : Int32)))) H := hP
            have hD : va_D A (mW ad N cI cZ cJ (wA (wA u186 11 ((u186.1 0 12).toNatClampNeg) r193) 0 12 ((u186.1 0 12) + (1 : Int32)))) := hD
            refine tp_i (y := (u186.1 0 12)) (rfl) ?_
            refine W.widen (k := 0) (n := 0) (Nat.le_refl _) (Nat.le_refl _) ?_
            refine lv_pop hx hb dX13_call_137 rfl ?_
            refine lv_aload_n hx hb dX13_call_138 rfl (lv_at hl 5 rfl) ?_
            refine lv_dup hx hb dX13_call_139 rfl ?_
            refine va_get (D := (dC, dI)) (ci := 16) (fs := mF ad (wA (wA u186 11 ((u186.1 0 12).toNatClampNeg) r193) 0 12 ((u186.1 0 12) + (1 : Int32)))) (v := .int (u186.1 0 32)) (C := RX13) (T := TX13) (N := 124) hx hb ht itX13 hown hK hP 0 rfl rfl 32 (by decide) (ht _ tw_52) (fun _ h9 => h9) rfl dX13_call_140 ?_
            refine lv_iconst (v := 1) hx hb dX13_call_143 (by decide) ?_
            refine lv_iadd hx hb dX13_call_144 ?_
            have z198 : ((u186.1 0 32) + (1 : Int32)).toInt = ((u186.1 0 32).toInt) + 1 := add_z rfl (show (1 : Int32).toInt = 1 by decide) (om_5230a27707 zs l7L91 z168 q178 pp185) (om_49f7576b45 zkn l7L91 q178 pp185)
            refine va_put (D := (dC, dI)) (ci := 16) (fs := mF ad (wA (wA u186 11 ((u186.1 0 12).toNatClampNeg) r193) 0 12 ((u186.1 0 12) + (1 : Int32)))) (v := .int ((u186.1 0 32) + (1 : Int32))) (ty := .int) (C := RX13) (T := TX13) (N := 124) hx hb ht itX13 tyX13 tyX13_ok nmX13 hown hK hP hD hS 0 rfl rfl 32 (by decide) (ht _ tw_52) (fun _ h9 => h9) rfl (by decide +kernel) rfl rfl (Nat.le_of_ble_eq_true rfl) dX13_call_145 (fun H locs hP hD hS => ?_)
            have hP := cP_ (mw_32 ad N cI cZ cJ (wA (wA u186 11 ((u186.1 0 12).toNatClampNeg) r193) 0 12 ((u186.1 0 12) + (1 : Int32))) ((u186.1 0 32) + (1 : Int32))) hP
            have hD := cD_ (mw_32 ad N cI cZ cJ (wA (wA u186 11 ((u186.1 0 12).toNatClampNeg) r193) 0 12 ((u186.1 0 12) + (1 : Int32))) ((u186.1 0 32) + (1 : Int32))) hD
            refine lv_iinc (v := (na + (1 : Int32))) (lv' := [(2, .int (na + (1 : Int32))), (5, .int r172), (4, .int mo), (3, .int ((v.1 0 30) + (v.1 0 32))), (1, .int (v.1 0 39)), (0, .ref (ad 0))]) hx hb dX13_call_148 hl (k := 3) rfl (rfl) (by decide) rfl (fun ls hl => ?_)
            have z199 : (na + (1 : Int32)).toInt = na.toInt + 1 := add_z rfl (show (1 : Int32).toInt = 1 by decide) (om_ea7535eea9 z168) (om_1084b5be12 l1L91)
            refine lv_aload_n hx hb dX13_call_151 rfl (lv_at hl 5 rfl) ?_
            refine lv_bipush (v := 44) hx hb dX13_call_152 (by decide) ?_
            refine cu_i (rn_V (n := 1) (As := [.int 44]) (rest := []) hx hb hml hown ht hKK hFx hP hD hS hA (c_m_is l dC dI cI cB cZ cJ cR tb H.size ad N (wA (wA (wA u186 11 ((u186.1 0 12).toNatClampNeg) r193) 0 12 ((u186.1 0 12) + (1 : Int32))) 0 32 ((u186.1 0 32) + (1 : Int32))) (44 : Int32) (show 0 ≤ (u186.1 0 47).toInt ∧ (u186.1 0 47).toInt ≤ 1500 from (om_b8b1f39fc3 zfs l4L91 q176 pt185 pw185))) tw_34 tw_35 (by decide +kernel) rfl rfl ⟨show 1 + 1 ≤ 40 * n + 7 from om_9d6ac316d0, show 8 + (2 + 11) + 22 ≤ 28 * (40 * n + 7) from om_7fcb3e7e8b⟩ (List.range (mW ad N cI cZ cJ (wA (wA (wA u186 11 ((u186.1 0 12).toNatClampNeg) r193) 0 12 ((u186.1 0 12) + (1 : Int32))) 0 32 ((u186.1 0 32) + (1 : Int32)))).length) (rg_map _) (mW_nd _ _ _ _ _ _) rfl rfl rfl rfl hl.1 rfl (Nat.le_of_ble_eq_true rfl) dX13_call_154 ⟨Nat.le_of_ble_eq_true rfl, Nat.le_of_ble_eq_true rfl⟩) hP hD hS hA (fun r202 u201 H locs hw200 hP hD hS => ?_)
            obtain ⟨rfl, b200, e200⟩ := hw200
            have b200 : (r202 = 0 ∨ r202 = 1) := b200
            have e200 : 0 ≤ r202.toInt ∧ r202.toInt ≤ 1 := e200
            refine W.widen (k := 0) (n := 0) (Nat.le_refl _) (Nat.le_refl _) ?_
            refine lv_istore (lv' := [(4, .int r202), (2, .int (na + (1 : Int32))), (5, .int r172), (3, .int ((v.1 0 30) + (v.1 0 32))), (1, .int (v.1 0 39)), (0, .ref (ad 0))]) hx hb dX13_call_157 hl (by decide) rfl (fun ls hl => ?_)
            refine lv_iload hx hb dX13_call_159 (lv_at hl 0 rfl) ?_
            refine lv_if_eq (tgt := 168) hx hb dX13_call_161 (by decide) (fun h203 => ?_) (fun h203 => ?_)
            · have z204 : r202.toInt = 0 := eq_z rfl (show (0 : Int32).toInt = 0 by decide) h203
              refine lv_goto (tgt := 91) hx hb dX13_call_168 (by decide) ?_
              exact ih91 ((na + (1 : Int32)), r202, (wA (wA (wA u186 11 ((u186.1 0 12).toNatClampNeg) r193) 0 12 ((u186.1 0 12) + (1 : Int32))) 0 32 ((u186.1 0 32) + (1 : Int32)))) _ _ _ (show (1500 - (u186.1 0 47).toInt).toNat < (1500 - (w91.1 0 47).toInt).toNat from tn_z (om_11eab9cfcd q176 pt185) (om_7b2416efdf q176 pt185)) ⟨(show FG [12, 15, 32, 33, 39, 43, 44, 45, 47, 48, 49, 50, 51] [0, 11, 13, 14, 35, 36, 37, 38, 40, 41, 42] v (wA (wA (wA u186 11 ((u186.1 0 12).toNatClampNeg) r193) 0 12 ((u186.1 0 12) + (1 : Int32))) 0 32 ((u186.1 0 32) + (1 : Int32))) from (FG.f (FG.f (FG.a (FG.tr (FG.tr (FG.f (FG.tr (FG.rf _) (FG.up fwL91 (by decide) (by decide))) (w91.1 0 47) (by decide)) (FG.up fr170 (by decide) (by decide))) (FG.up fr185 (by decide) (by decide))) ((u186.1 0 12).toNatClampNeg) r193 (by decide) (by decide)) ((u186.1 0 12) + (1 : Int32)) (by decide)) ((u186.1 0 32) + (1 : Int32)) (by decide))), (show 0 ≤ (na + (1 : Int32)).toInt ∧ (na + (1 : Int32)).toInt ≤ 8 from (om_610be07bca z168 q176 sb170 pb185 z199)), (show (v.1 0 47).toInt + 2 ≤ (u186.1 0 47).toInt ∧ (u186.1 0 47).toInt ≤ 1500 ∧ (v.1 0 49).toInt ≠ (v.1 0 47).toInt from (om_1be7b253f9 b16 l2L91 q176 pt185)), (show (v.1 0 12).toInt ≤ ((u186.1 0 12) + (1 : Int32)).toInt ∧ ((u186.1 0 12) + (1 : Int32)).toInt - 15 * (u186.1 0 47).toInt + 14 + r202.toInt ≤ (v.1 0 12).toInt - 15 * (v.1 0 47).toInt from (om_416ca29b28 l3L91 lmL91 z124 q179 q176 pw185 z197 z204)), (show 0 ≤ r202.toInt ∧ r202.toInt ≤ 1 from (om_0c3da3f775 e200 z204)), (show (v.1 0 15).toInt ≤ (u186.1 0 15).toInt ∧ (u186.1 0 15).toInt - 10 * (u186.1 0 47).toInt + 10 ≤ (v.1 0 15).toInt - 10 * (v.1 0 47).toInt from (om_e0aa59a87c l4L91 q180 q176 po185)), (show (v.1 0 43).toInt ≤ (u186.1 0 43).toInt ∧ (u186.1 0 43).toInt - 15 * (u186.1 0 47).toInt + 0 ≤ (v.1 0 43).toInt - 15 * (v.1 0 47).toInt from (om_7de1bc600f l5L91 q181 q176 pf185)), (show (v.1 0 39).toInt ≤ (u186.1 0 39).toInt ∧ (u186.1 0 39).toInt - 1 * (u186.1 0 47).toInt + 1 ≤ (v.1 0 39).toInt - 1 * (v.1 0 47).toInt from (om_a800f031ff l6L91 q182 q176 pk185)), (show ((u186.1 0 32) + (1 : Int32)).toInt = (v.1 0 32).toInt + (na + (1 : Int32)).toInt ∧ (u186.1 0 48).toInt = (v.1 0 48).toInt + 1 ∧ (v.1 0 30).toInt + ((u186.1 0 32) + (1 : Int32)).toInt ≤ 500 from (om_7caa19de08 l7L91 q169 q178 q176 q175 sb170 sh170 pb185 pp185 z198 z199)), (show (v.1 0 33).toInt ≤ (u186.1 0 33).toInt ∧ (u186.1 0 33).toInt ≤ 500 from (om_bfb48e15b8 l8L91 sh170 ph185)), (show ∀ j : Nat, (j : Int) < (v.1 0 12).toInt → (upd (u186.1 11) ((u186.1 0 12).toNatClampNeg) r193) j = (v.1 11) j from (fun (j9 : Nat) hj9 => (Eq.trans (pk_un3 (a := (u186.1 0 12).toInt) rfl (om_d4d5dc5ad0 zws l3L91 q179 pw185) (om_d0ae3268d8 l3L91 q179 pw185 hj9)) (Eq.trans (kc185 j9 (om_b72412c74e l3L91 q179 hj9)) (Eq.trans (congrFun (fr170.2.2 11 (by decide)) j9) (kcL91 j9 (om_4fe904e9bf hj9))))))), (show ∀ j : Nat, (j : Int) < (v.1 0 15).toInt → (u186.1 13) j = (v.1 13) j from (fun (j9 : Nat) hj9 => (Eq.trans (ko185 j9 (om_7517dbbafd l4L91 q180 hj9)) (Eq.trans (congrFun (fr170.2.2 13 (by decide)) j9) (koL91 j9 (om_4fe904e9bf hj9)))))), (show ∀ j : Nat, (j : Int) < (v.1 0 15).toInt → (u186.1 14) j = (v.1 14) j from (fun (j9 : Nat) hj9 => (Eq.trans (kg185 j9 (om_7517dbbafd l4L91 q180 hj9)) (Eq.trans (congrFun (fr170.2.2 14 (by decide)) j9) (kgL91 j9 (om_4fe904e9bf hj9)))))), (show NI 35 (wA (wA (wA u186 11 ((u186.1 0 12).toNatClampNeg) r193) 0 12 ((u186.1 0 12) + (1 : Int32))) 0 32 ((u186.1 0 32) + (1 : Int32))) from n35185), hP, hD, hS, lv_sub hl [0, 3, 1, 4, 5] rfl⟩
            · have z205 : r202.toInt ≠ 0 := ne_z rfl (show (0 : Int32).toInt = 0 by decide) h203
              refine lv_aload_n hx hb dX13_call_164 rfl (lv_at hl 5 rfl) ?_
              refine cux_v (rx_V (n := 0) (As := []) (rest := []) hx hb hml hown ht hKK hFx hP hD hS hA (c_m_take l dC dI cI cB cZ cJ cR tb H.size ad N (wA (wA (wA u186 11 ((u186.1 0 12).toNatClampNeg) r193) 0 12 ((u186.1 0 12) + (1 : Int32))) 0 32 ((u186.1 0 32) + (1 : Int32)))  (show 0 ≤ (u186.1 0 47).toInt ∧ (u186.1 0 47).toInt ≤ 1500 from (om_b8b1f39fc3 zfs l4L91 q176 pt185 pw185))) tw_32 tw_33 (by decide +kernel) rfl rfl ⟨show 1 + 1 ≤ 40 * n + 7 from om_9d6ac316d0, show 8 + (1 + 11) + 22 ≤ 28 * (40 * n + 7) from om_9e58535660⟩ (List.range (mW ad N cI cZ cJ (wA (wA (wA u186 11 ((u186.1 0 12).toNatClampNeg) r193) 0 12 ((u186.1 0 12) + (1 : Int32))) 0 32 ((u186.1 0 32) + (1 : Int32)))).length) (rg_map _) (mW_nd _ _ _ _ _ _) rfl rfl rfl rfl hl.1 rfl (Nat.le_of_ble_eq_true rfl) dX13_call_165 ⟨Nat.le_of_ble_eq_true rfl, Nat.le_of_ble_eq_true rfl⟩) hP hD hS hA (fun u9 ce9 q9 H locs hx9 hP hD hS hc9 hv9 hf9 => ?_) (fun u207 H locs hw206 hP hD hS => ?_)
              · exact vx_out (fun x h9 => (hnt x h9).elim) hlocks hc9 hv9 hf9 (fun t9 ht9 hv8 => ⟨u9, (FG.tr (FG.f (FG.f (FG.a (FG.tr (FG.tr (FG.f (FG.tr (FG.rf _) (FG.up fwL91 (by decide) (by decide))) (w91.1 0 47) (by decide)) (FG.up fr170 (by decide) (by decide))) (FG.up fr185 (by decide) (by decide))) ((u186.1 0 12).toNatClampNeg) r193 (by decide) (by decide)) ((u186.1 0 12) + (1 : Int32)) (by decide)) ((u186.1 0 32) + (1 : Int32)) (by decide)) hx9), ⟨rfl, by rw [ht9]; exact hP, hD⟩, hS.F ht9⟩) hS.2.2 (Nat.le_refl _) (Nat.le_refl _)
              obtain ⟨rfl, a206, b206⟩ := hw206
              have z209 : ((u186.1 0 47) + (1 : Int32)).toInt = ((u186.1 0 47).toInt) + 1 := add_z rfl (show (1 : Int32).toInt = 1 by decide) (om_974ce78dbd q176) (om_61706382c1 pt185)
              have hP : va_P (dC, dI) vwCl (mW ad N cI cZ cJ (wA (wA (wA (wA u186 11 ((u186.1 0 12).toNatClampNeg) r193) 0 12 ((u186.1 0 12) + (1 : Int32))) 0 32 ((u186.1 0 32) + (1 : Int32))) 0 47 ((u186.1 0 47) + (1 : Int32)))) H := hP
              have hD : va_D A (mW ad N cI cZ cJ (wA (wA (wA (wA u186 11 ((u186.1 0 12).toNatClampNeg) r193) 0 12 ((u186.1 0 12) + (1 : Int32))) 0 32 ((u186.1 0 32) + (1 : Int32))) 0 47 ((u186.1 0 47) + (1 : Int32)))) := hD
              have a206 : (u186.1 0 47).toInt < 1500 := a206
              have b206 : (u186.1 0 49).toInt ≠ (u186.1 0 47).toInt := b206
              refine W.widen (k := 0) (n := 0) (Nat.le_refl _) (Nat.le_refl _) ?_
              refine lv_goto (tgt := 91) hx hb dX13_call_168 (by decide) ?_
              exact ih91 ((na + (1 : Int32)), r202, (wA (wA (wA (wA u186 11 ((u186.1 0 12).toNatClampNeg) r193) 0 12 ((u186.1 0 12) + (1 : Int32))) 0 32 ((u186.1 0 32) + (1 : Int32))) 0 47 ((u186.1 0 47) + (1 : Int32)))) _ _ _ (show (1500 - ((u186.1 0 47) + (1 : Int32)).toInt).toNat < (1500 - (w91.1 0 47).toInt).toNat from tn_z (om_9dadf41de6 q176 pt185 z209) (om_581ba89dc8 q176 pt185 a206)) ⟨(show FG [12, 15, 32, 33, 39, 43, 44, 45, 47, 48, 49, 50, 51] [0, 11, 13, 14, 35, 36, 37, 38, 40, 41, 42] v (wA (wA (wA (wA u186 11 ((u186.1 0 12).toNatClampNeg) r193) 0 12 ((u186.1 0 12) + (1 : Int32))) 0 32 ((u186.1 0 32) + (1 : Int32))) 0 47 ((u186.1 0 47) + (1 : Int32))) from (FG.f (FG.f (FG.f (FG.a (FG.tr (FG.tr (FG.f (FG.tr (FG.rf _) (FG.up fwL91 (by decide) (by decide))) (w91.1 0 47) (by decide)) (FG.up fr170 (by decide) (by decide))) (FG.up fr185 (by decide) (by decide))) ((u186.1 0 12).toNatClampNeg) r193 (by decide) (by decide)) ((u186.1 0 12) + (1 : Int32)) (by decide)) ((u186.1 0 32) + (1 : Int32)) (by decide)) ((u186.1 0 47) + (1 : Int32)) (by decide))), (show 0 ≤ (na + (1 : Int32)).toInt ∧ (na + (1 : Int32)).toInt ≤ 8 from (om_610be07bca z168 q176 sb170 pb185 z199)), (show (v.1 0 47).toInt + 2 ≤ ((u186.1 0 47) + (1 : Int32)).toInt ∧ ((u186.1 0 47) + (1 : Int32)).toInt ≤ 1500 ∧ (v.1 0 49).toInt ≠ (v.1 0 47).toInt from (om_5c80432c67 b16 l2L91 q176 pt185 z209 a206)), (show (v.1 0 12).toInt ≤ ((u186.1 0 12) + (1 : Int32)).toInt ∧ ((u186.1 0 12) + (1 : Int32)).toInt - 15 * ((u186.1 0 47) + (1 : Int32)).toInt + 14 + r202.toInt ≤ (v.1 0 12).toInt - 15 * (v.1 0 47).toInt from (om_c9f49278e2 l3L91 lmL91 q179 q176 pw185 z197 e200 z209)), (show 0 ≤ r202.toInt ∧ r202.toInt ≤ 1 from (om_3c098c46d5 e200)), (show (v.1 0 15).toInt ≤ (u186.1 0 15).toInt ∧ (u186.1 0 15).toInt - 10 * ((u186.1 0 47) + (1 : Int32)).toInt + 10 ≤ (v.1 0 15).toInt - 10 * (v.1 0 47).toInt from (om_a82e6191d3 l4L91 q180 q176 po185 z209)), (show (v.1 0 43).toInt ≤ (u186.1 0 43).toInt ∧ (u186.1 0 43).toInt - 15 * ((u186.1 0 47) + (1 : Int32)).toInt + 0 ≤ (v.1 0 43).toInt - 15 * (v.1 0 47).toInt from (om_84be5b1ab0 l5L91 q181 q176 pf185 z209)), (show (v.1 0 39).toInt ≤ (u186.1 0 39).toInt ∧ (u186.1 0 39).toInt - 1 * ((u186.1 0 47) + (1 : Int32)).toInt + 1 ≤ (v.1 0 39).toInt - 1 * (v.1 0 47).toInt from (om_76d4e086e2 l6L91 q182 q176 pk185 z209)), (show ((u186.1 0 32) + (1 : Int32)).toInt = (v.1 0 32).toInt + (na + (1 : Int32)).toInt ∧ (u186.1 0 48).toInt = (v.1 0 48).toInt + 1 ∧ (v.1 0 30).toInt + ((u186.1 0 32) + (1 : Int32)).toInt ≤ 500 from (om_7caa19de08 l7L91 q169 q178 q176 q175 sb170 sh170 pb185 pp185 z198 z199)), (show (v.1 0 33).toInt ≤ (u186.1 0 33).toInt ∧ (u186.1 0 33).toInt ≤ 500 from (om_bfb48e15b8 l8L91 sh170 ph185)), (show ∀ j : Nat, (j : Int) < (v.1 0 12).toInt → (upd (u186.1 11) ((u186.1 0 12).toNatClampNeg) r193) j = (v.1 11) j from (fun (j9 : Nat) hj9 => (Eq.trans (pk_un3 (a := (u186.1 0 12).toInt) rfl (om_d4d5dc5ad0 zws l3L91 q179 pw185) (om_d0ae3268d8 l3L91 q179 pw185 hj9)) (Eq.trans (kc185 j9 (om_b72412c74e l3L91 q179 hj9)) (Eq.trans (congrFun (fr170.2.2 11 (by decide)) j9) (kcL91 j9 (om_4fe904e9bf hj9))))))), (show ∀ j : Nat, (j : Int) < (v.1 0 15).toInt → (u186.1 13) j = (v.1 13) j from (fun (j9 : Nat) hj9 => (Eq.trans (ko185 j9 (om_7517dbbafd l4L91 q180 hj9)) (Eq.trans (congrFun (fr170.2.2 13 (by decide)) j9) (koL91 j9 (om_4fe904e9bf hj9)))))), (show ∀ j : Nat, (j : Int) < (v.1 0 15).toInt → (u186.1 14) j = (v.1 14) j from (fun (j9 : Nat) hj9 => (Eq.trans (kg185 j9 (om_7517dbbafd l4L91 q180 hj9)) (Eq.trans (congrFun (fr170.2.2 14 (by decide)) j9) (kgL91 j9 (om_4fe904e9bf hj9)))))), (show NI 35 (wA (wA (wA (wA u186 11 ((u186.1 0 12).toNatClampNeg) r193) 0 12 ((u186.1 0 12) + (1 : Int32))) 0 32 ((u186.1 0 32) + (1 : Int32))) 0 47 ((u186.1 0 47) + (1 : Int32))) from n35185), hP, hD, hS, lv_sub hl [0, 3, 1, 4, 5] rfl⟩
    · have z210 : 0 ≤ r12.toInt := nlt_z rfl (show (0 : Int32).toInt = 0 by decide) h13
      refine lv_aload_n hx hb dX13_call_22 rfl (lv_at hl 0 rfl) ?_
      refine lv_iconst (v := 3) hx hb dX13_call_23 (by decide) ?_
      refine lv_aload_n hx hb dX13_call_24 rfl (lv_at hl 0 rfl) ?_
      refine va_get (D := (dC, dI)) (ci := 16) (fs := mF ad v) (v := .int (v.1 0 47)) (C := RX13) (T := TX13) (N := 124) hx hb ht itX13 hown hK hP 0 rfl rfl 47 (by decide) (ht _ tw_24) (fun _ h9 => h9) rfl dX13_call_25 ?_
      refine cu_r (rn_V (n := 2) (As := [.int 3, .int (v.1 0 47)]) (rest := []) hx hb hml hown ht hKK hFx hP hD hS hA (c_m_fail l dC dI cI cB cZ cJ cR tb H.size ad N v (3 : Int32) (v.1 0 47) (show 0 ≤ (v.1 0 47).toInt ∧ (v.1 0 47).toInt < 4002 from (om_d0702dcce3 zt zfs))) tw_25 tw_26 (by decide +kernel) rfl rfl ⟨show 0 + 1 ≤ 40 * n + 7 from om_8e99a81d6b, show 8 + (3 + 11) + 0 ≤ 28 * (40 * n + 7) from om_3763ab29f8⟩ (List.range (mW ad N cI cZ cJ v).length) (rg_map _) (mW_nd _ _ _ _ _ _) rfl rfl rfl rfl hl.1 rfl (Nat.le_of_ble_eq_true rfl) dX13_call_28 ⟨Nat.le_of_ble_eq_true rfl, Nat.le_of_ble_eq_true rfl⟩) hP hD hS hA (fun u212 H locs hw211 hP hD hS => ?_)
      obtain rfl := hw211
      have hP : va_P (dC, dI) vwCl (mW ad N cI cZ cJ (wA (wA v 0 50 (3 : Int32)) 0 51 ((v.1 7) (v.1 0 47).toNatClampNeg))) H := hP
      have hD : va_D A (mW ad N cI cZ cJ (wA (wA v 0 50 (3 : Int32)) 0 51 ((v.1 7) (v.1 0 47).toNatClampNeg))) := hD
      refine W.widen (k := 0) (n := 0) (Nat.le_refl _) (Nat.le_refl _) ?_
      obtain ⟨ce9, hc9, hv9, hf9⟩ := halt_at hK hP
      refine um_athrow hx hb dX13_call_31 ?_
      exact vx_out (fun x h9 => (hnt x h9).elim) hlocks hc9 hv9 hf9 (fun t9 ht9 hv8 => ⟨(wA (wA v 0 50 (3 : Int32)) 0 51 ((v.1 7) (v.1 0 47).toNatClampNeg)), (FG.f (FG.f (FG.rf _) (3 : Int32) (by decide)) ((v.1 7) (v.1 0 47).toNatClampNeg) (by decide)), ⟨rfl, by rw [ht9]; exact hP, hD⟩, hS.F ht9⟩) hS.2.2 (Nat.le_refl _) (Nat.le_refl _)
