theorem dX13_index_0 : decode cX13_index 0 = .ok (.aload_n 0, 1) := by decide +kernel
theorem dX13_index_1 : decode cX13_index 1 = .ok (.bipush 91, 2) := by decide +kernel
theorem dX13_index_3 : decode cX13_index 3 = .ok (.invokevirtual 281, 3) := by decide +kernel
theorem tw_78 : (.code yX13_open cX13_open 2 none : Cond) ∈ tw_W := tw_in (by decide +kernel) (by decide +kernel)
theorem tw_79 : ∀ w ∈ ([.methodLink RX13 281 yX13_open, .instanceMethod yX13_open, .selects RX13 yX13_open yX13_open, .initialized RX13] : List Cond), w ∈ tw_W := tw_all (by decide +kernel)
theorem dX13_index_6 : decode cX13_index 6 = .ok (.aload_n 0, 1) := by decide +kernel
theorem dX13_index_7 : decode cX13_index 7 = .ok (.invokevirtual 284, 3) := by decide +kernel
theorem tw_80 : (.code yX13_expression cX13_expression 1 none : Cond) ∈ tw_W := tw_in (by decide +kernel) (by decide +kernel)
theorem tw_81 : ∀ w ∈ ([.methodLink RX13 284 yX13_expression, .instanceMethod yX13_expression, .selects RX13 yX13_expression yX13_expression, .initialized RX13] : List Cond), w ∈ tw_W := tw_all (by decide +kernel)
theorem dX13_index_10 : decode cX13_index 10 = .ok (.aload_n 0, 1) := by decide +kernel
theorem dX13_index_11 : decode cX13_index 11 = .ok (.bipush 93, 2) := by decide +kernel
theorem dX13_index_13 : decode cX13_index 13 = .ok (.invokevirtual 287, 3) := by decide +kernel
theorem tw_82 : (.code yX13_close cX13_close 2 none : Cond) ∈ tw_W := tw_in (by decide +kernel) (by decide +kernel)
theorem tw_83 : ∀ w ∈ ([.methodLink RX13 287 yX13_close, .instanceMethod yX13_close, .selects RX13 yX13_close yX13_close, .initialized RX13] : List Cond), w ∈ tw_W := tw_all (by decide +kernel)
theorem dX13_index_16 : decode cX13_index 16 = .ok (.aload_n 0, 1) := by decide +kernel
theorem dX13_index_17 : decode cX13_index 17 = .ok (.getfield 290, 3) := by decide +kernel
theorem tw_84 : (.fieldLink RX13 290 "PocketCompilerModel" "gMany" "[I" : Cond) ∈ tw_W := tw_in (by decide +kernel) (by decide +kernel)
theorem dX13_index_20 : decode cX13_index 20 = .ok (.iload_n 1, 1) := by decide +kernel
theorem dX13_index_21 : decode cX13_index 21 = .ok (.iaload, 1) := by decide +kernel
theorem dX13_index_22 : decode cX13_index 22 = .ok (.istore_n 2, 1) := by decide +kernel
theorem dX13_index_23 : decode cX13_index 23 = .ok (.aload_n 0, 1) := by decide +kernel
theorem dX13_index_24 : decode cX13_index 24 = .ok (.bipush 6, 2) := by decide +kernel
theorem dX13_index_26 : decode cX13_index 26 = .ok (.iload_n 2, 1) := by decide +kernel
theorem dX13_index_27 : decode cX13_index 27 = .ok (.invokestatic 94, 3) := by decide +kernel
theorem dX13_index_30 : decode cX13_index 30 = .ok (.invokestatic 223, 3) := by decide +kernel
theorem dX13_index_33 : decode cX13_index 33 = .ok (.invokevirtual 111, 3) := by decide +kernel
theorem dX13_index_36 : decode cX13_index 36 = .ok (.pop, 1) := by decide +kernel
theorem dX13_index_37 : decode cX13_index 37 = .ok (.aload_n 0, 1) := by decide +kernel
theorem dX13_index_38 : decode cX13_index 38 = .ok (.bipush 6, 2) := by decide +kernel
theorem dX13_index_40 : decode cX13_index 40 = .ok (.bipush 6, 2) := by decide +kernel
theorem dX13_index_42 : decode cX13_index 42 = .ok (.iload_n 2, 1) := by decide +kernel
theorem dX13_index_43 : decode cX13_index 43 = .ok (.invokestatic 226, 3) := by decide +kernel
theorem dX13_index_46 : decode cX13_index 46 = .ok (.invokestatic 219, 3) := by decide +kernel
theorem dX13_index_49 : decode cX13_index 49 = .ok (.invokevirtual 111, 3) := by decide +kernel
theorem dX13_index_52 : decode cX13_index 52 = .ok (.pop, 1) := by decide +kernel
theorem dX13_index_53 : decode cX13_index 53 = .ok (.aload_n 0, 1) := by decide +kernel
theorem dX13_index_54 : decode cX13_index 54 = .ok (.bipush 6, 2) := by decide +kernel
theorem dX13_index_56 : decode cX13_index 56 = .ok (.bipush 10, 2) := by decide +kernel
theorem dX13_index_58 : decode cX13_index 58 = .ok (.bipush 6, 2) := by decide +kernel
theorem dX13_index_60 : decode cX13_index 60 = .ok (.bipush 12, 2) := by decide +kernel
theorem dX13_index_62 : decode cX13_index 62 = .ok (.invokestatic 293, 3) := by decide +kernel
theorem tw_85 : (.code yX13_byB cX13_byB 4 (some .int) : Cond) ∈ tw_W := tw_in (by decide +kernel) (by decide +kernel)
theorem tw_86 : ∀ w ∈ ([.methodLink RX13 293 yX13_byB, .static yX13_byB, .initialized yX13_byB.cls] : List Cond), w ∈ tw_W := tw_all (by decide +kernel)
theorem dX13_index_65 : decode cX13_index 65 = .ok (.invokevirtual 111, 3) := by decide +kernel
theorem dX13_index_68 : decode cX13_index 68 = .ok (.pop, 1) := by decide +kernel
theorem dX13_index_69 : decode cX13_index 69 = .ok (.aload_n 0, 1) := by decide +kernel
theorem dX13_index_70 : decode cX13_index 70 = .ok (.bipush 17, 2) := by decide +kernel
theorem dX13_index_72 : decode cX13_index 72 = .ok (.iconst 0, 1) := by decide +kernel
theorem dX13_index_73 : decode cX13_index 73 = .ok (.iconst 3, 1) := by decide +kernel
theorem dX13_index_74 : decode cX13_index 74 = .ok (.invokestatic 219, 3) := by decide +kernel
theorem dX13_index_77 : decode cX13_index 77 = .ok (.invokevirtual 111, 3) := by decide +kernel
theorem dX13_index_80 : decode cX13_index 80 = .ok (.pop, 1) := by decide +kernel
theorem dX13_index_81 : decode cX13_index 81 = .ok (.aload_n 0, 1) := by decide +kernel
theorem dX13_index_82 : decode cX13_index 82 = .ok (.ldc_w 297, 3) := by decide +kernel
theorem tw_87 : (.constant RX13 297 (1048691) : Cond) ∈ tw_W := tw_in (by decide +kernel) (by decide +kernel)
theorem dX13_index_85 : decode cX13_index 85 = .ok (.invokevirtual 111, 3) := by decide +kernel
theorem dX13_index_88 : decode cX13_index 88 = .ok (.pop, 1) := by decide +kernel
theorem dX13_index_89 : decode cX13_index 89 = .ok (.aload_n 0, 1) := by decide +kernel
theorem dX13_index_90 : decode cX13_index 90 = .ok (.bipush 19, 2) := by decide +kernel
theorem dX13_index_92 : decode cX13_index 92 = .ok (.iconst 1, 1) := by decide +kernel
theorem dX13_index_93 : decode cX13_index 93 = .ok (.bipush 10, 2) := by decide +kernel
theorem dX13_index_95 : decode cX13_index 95 = .ok (.bipush 10, 2) := by decide +kernel
theorem dX13_index_97 : decode cX13_index 97 = .ok (.iconst 2, 1) := by decide +kernel
theorem dX13_index_98 : decode cX13_index 98 = .ok (.invokestatic 97, 3) := by decide +kernel
theorem dX13_index_101 : decode cX13_index 101 = .ok (.invokevirtual 111, 3) := by decide +kernel
theorem dX13_index_104 : decode cX13_index 104 = .ok (.pop, 1) := by decide +kernel
theorem dX13_index_105 : decode cX13_index 105 = .ok (.aload_n 0, 1) := by decide +kernel
theorem dX13_index_106 : decode cX13_index 106 = .ok (.aload_n 0, 1) := by decide +kernel
theorem dX13_index_107 : decode cX13_index 107 = .ok (.bipush 6, 2) := by decide +kernel
theorem dX13_index_109 : decode cX13_index 109 = .ok (.iconst 0, 1) := by decide +kernel
theorem dX13_index_110 : decode cX13_index 110 = .ok (.invokestatic 223, 3) := by decide +kernel
theorem dX13_index_113 : decode cX13_index 113 = .ok (.invokevirtual 111, 3) := by decide +kernel
theorem dX13_index_116 : decode cX13_index 116 = .ok (.iload_n 1, 1) := by decide +kernel
theorem dX13_index_117 : decode cX13_index 117 = .ok (.iconst 0, 1) := by decide +kernel
theorem dX13_index_118 : decode cX13_index 118 = .ok (.invokevirtual 216, 3) := by decide +kernel
theorem dX13_index_121 : decode cX13_index 121 = .ok (.aload_n 0, 1) := by decide +kernel
theorem dX13_index_122 : decode cX13_index 122 = .ok (.iconst 0, 1) := by decide +kernel
theorem dX13_index_123 : decode cX13_index 123 = .ok (.iconst 0, 1) := by decide +kernel
theorem dX13_index_124 : decode cX13_index 124 = .ok (.bipush 10, 2) := by decide +kernel
theorem dX13_index_126 : decode cX13_index 126 = .ok (.bipush 10, 2) := by decide +kernel
theorem dX13_index_128 : decode cX13_index 128 = .ok (.bipush 6, 2) := by decide +kernel
theorem dX13_index_130 : decode cX13_index 130 = .ok (.invokestatic 213, 3) := by decide +kernel
theorem dX13_index_133 : decode cX13_index 133 = .ok (.invokevirtual 111, 3) := by decide +kernel
theorem dX13_index_136 : decode cX13_index 136 = .ok (.pop, 1) := by decide +kernel
theorem dX13_index_137 : decode cX13_index 137 = .ok (.aload_n 0, 1) := by decide +kernel
theorem dX13_index_138 : decode cX13_index 138 = .ok (.iconst 5, 1) := by decide +kernel
theorem dX13_index_139 : decode cX13_index 139 = .ok (.iload_n 1, 1) := by decide +kernel
theorem dX13_index_140 : decode cX13_index 140 = .ok (.invokevirtual 210, 3) := by decide +kernel
theorem dX13_index_143 : decode cX13_index 143 = .ok (.pop, 1) := by decide +kernel
theorem dX13_index_144 : decode cX13_index 144 = .ok (.return_, 1) := by decide +kernel
def Cx_expression (l : Launch) (n : Nat) : Prop := ∀ (dC : Nat → ClassId) (dI : Nat → Nat → Nat) (cI cB cZ cJ cR : ClassId) (tb : Nat → Nat) (sz : Nat) (ad : Nat → Nat) (N : Nat) (v : MS)  (zn : 40 ≤ (v.1 0 48).toInt + (n : Int)) (zt : 0 ≤ (v.1 0 47).toInt ∧ (v.1 0 47).toInt ≤ 1500) (zop : 0 ≤ (v.1 0 48).toInt ∧ (v.1 0 48).toInt ≤ 40) (zkn : 0 ≤ (v.1 0 30).toInt ∧ (v.1 0 30).toInt ≤ 500) (zhi : 0 ≤ (v.1 0 33).toInt ∧ (v.1 0 33).toInt ≤ 500) (zs : 0 ≤ (v.1 0 32).toInt ∧ (v.1 0 30).toInt + (v.1 0 32).toInt ≤ 500) (zws : 0 ≤ (v.1 0 12).toInt ∧ (v.1 0 12).toInt ≤ 15 * (v.1 0 47).toInt + 2) (zos : 0 ≤ (v.1 0 15).toInt ∧ (v.1 0 15).toInt ≤ 10 * (v.1 0 47).toInt + 0) (zfs : 0 ≤ (v.1 0 43).toInt ∧ (v.1 0 43).toInt ≤ 15 * (v.1 0 47).toInt + 0) (zcs : 0 ≤ (v.1 0 39).toInt ∧ (v.1 0 39).toInt ≤ 1 * (v.1 0 47).toInt + 0) (zgl : 0 ≤ (v.1 0 27).toInt ∧ (v.1 0 27).toInt ≤ 60) (hT : TI v) (n29 : NI 29 v) (n23 : NI 23 v) (n35 : NI 35 v), vx_Met l yX13_expression (Cond.code yX13_expression cX13_expression 1 none :: tw_W) ({ frames := 40 * n + 36, cells := 0, slots := 0, locals := 28 * (40 * n + 36) }) (pc_ (dC, dI) (tyS cI cB cZ cJ cR) tb (mW ad N cI cZ cJ v) sz [.ref (ad 0)]) (qv_ (dC, dI) (mW ad N cI cZ cJ v) sz (fun (u : MS) => FG [12, 15, 32, 33, 39, 43, 44, 45, 47, 48, 49, 50, 51] [0, 11, 13, 14, 35, 36, 37, 38, 40, 41, 42] v u ∧ ((v.1 0 47).toInt + 1 ≤ (u.1 0 47).toInt ∧ (u.1 0 47).toInt ≤ 1500) ∧ ((v.1 0 49).toInt ≠ (v.1 0 47).toInt) ∧ ((v.1 0 12).toInt ≤ (u.1 0 12).toInt ∧ (u.1 0 12).toInt - 15 * (u.1 0 47).toInt ≤ (v.1 0 12).toInt - 15 * (v.1 0 47).toInt) ∧ ((v.1 0 15).toInt ≤ (u.1 0 15).toInt ∧ (u.1 0 15).toInt - 10 * (u.1 0 47).toInt ≤ (v.1 0 15).toInt - 10 * (v.1 0 47).toInt) ∧ ((v.1 0 43).toInt ≤ (u.1 0 43).toInt ∧ (u.1 0 43).toInt - 15 * (u.1 0 47).toInt ≤ (v.1 0 43).toInt - 15 * (v.1 0 47).toInt) ∧ ((v.1 0 39).toInt ≤ (u.1 0 39).toInt ∧ (u.1 0 39).toInt - 1 * (u.1 0 47).toInt ≤ (v.1 0 39).toInt - 1 * (v.1 0 47).toInt) ∧ ((u.1 0 32).toInt = (v.1 0 32).toInt ∧ (u.1 0 48).toInt = (v.1 0 48).toInt) ∧ ((v.1 0 33).toInt ≤ (u.1 0 33).toInt ∧ (u.1 0 33).toInt ≤ 500) ∧ (∀ j : Nat, (j : Int) < (v.1 0 12).toInt → (u.1 11) j = (v.1 11) j) ∧ (∀ j : Nat, (j : Int) < (v.1 0 15).toInt → (u.1 13) j = (v.1 13) j) ∧ (∀ j : Nat, (j : Int) < (v.1 0 15).toInt → (u.1 14) j = (v.1 14) j) ∧ (NI 35 u)) (fun (u : MS) => (mW ad N cI cZ cJ u))) (qxm (dC, dI) (mW ad N cI cZ cJ v) sz (fun (u : MS) => (mW ad N cI cZ cJ u)) (fun (u : MS) => Fr v u)) 0 0 (va_A (mW ad N cI cZ cJ v) sz)
theorem om_2fb699b811 {x0 x1 : Int} (h0 : 0 ≤ x0 ∧ x0 ≤ 1500) (h1 : 0 ≤ x1 ∧ x1 ≤ 15 * x0 + 0) : 0 ≤ x0 ∧ x0 ≤ 1500 := by omega
theorem om_c9931a82b5 {n0 : Nat} : 3 + 1 ≤ 40 * n0 + 6 := by omega
theorem om_207cd7ffe4 {n0 : Nat} : 8 + (2 + 11) + 62 ≤ 28 * (40 * n0 + 6) := by omega
theorem om_41768d81aa {x0 : Int} : -2147483648 ≤ (x0) + 1 := by omega
theorem om_78b28660f8 {x0 : Int} {n1 : Nat} (h0 : 40 ≤ x0 + (n1 : Int)) (h1 : x0 < 40) : 1 ≤ (n1 : Int) := by omega
theorem om_99fbe9b13d {x0 x2 : Int} {n1 n3 : Nat} (h0 : 40 ≤ x0 + (n1 : Int)) (h1 : x2 = (x0) + 1) (h2 : n1 = n3 + 1) : 40 ≤ x2 + (n3 : Int) := by omega
theorem om_546b696276 {x0 x1 x2 : Int} (h0 : 0 ≤ x0 ∧ x0 ≤ 15 * x1 + 0) (h1 : x2 = (x1) + 1) (h2 : x1 < 1500) : 0 ≤ x2 ∧ x2 ≤ 1500 := by omega
theorem om_2692a2ca83 {x0 x1 : Int} (h0 : 0 ≤ x0 ∧ x0 ≤ 40) (h1 : x1 = (x0) + 1) (h2 : x0 < 40) : 0 ≤ x1 ∧ x1 ≤ 40 := by omega
theorem om_9861e69da5 {x0 : Int} (h0 : 0 ≤ x0 ∧ x0 ≤ 500) : 0 ≤ x0 ∧ x0 ≤ 500 := by omega
theorem om_7c096b0019 {x0 x1 : Int} (h0 : 0 ≤ x0 ∧ x1 + x0 ≤ 500) : 0 ≤ x0 ∧ x1 + x0 ≤ 500 := by omega
theorem om_8000a86782 {x0 x1 x2 : Int} (h0 : 0 ≤ x0 ∧ x0 ≤ 15 * x1 + 2) (h1 : x2 = (x1) + 1) : 0 ≤ x0 ∧ x0 ≤ 15 * x2 + 2 := by omega
theorem om_58ddae9939 {x0 x1 x2 : Int} (h0 : 0 ≤ x0 ∧ x0 ≤ 10 * x1 + 0) (h1 : x2 = (x1) + 1) : 0 ≤ x0 ∧ x0 ≤ 10 * x2 + 0 := by omega
theorem om_75a9aeff29 {x0 x1 x2 : Int} (h0 : 0 ≤ x0 ∧ x0 ≤ 15 * x1 + 0) (h1 : x2 = (x1) + 1) : 0 ≤ x0 ∧ x0 ≤ 15 * x2 + 0 := by omega
theorem om_682fa06fa2 {x0 x1 x2 : Int} (h0 : 0 ≤ x0 ∧ x0 ≤ 1 * x1 + 0) (h1 : x2 = (x1) + 1) : 0 ≤ x0 ∧ x0 ≤ 1 * x2 + 0 := by omega
theorem om_1d2c7ad648 {x0 : Int} (h0 : 0 ≤ x0 ∧ x0 ≤ 60) : 0 ≤ x0 ∧ x0 ≤ 60 := by omega
theorem om_a8c331ff68 {n0 n1 : Nat} (h0 : n0 = n1 + 1) : (40 * n1 + 36) + 1 ≤ 40 * n0 + 6 := by omega
theorem om_93090b8001 {n0 n1 : Nat} (h0 : n0 = n1 + 1) : 8 + (1 + 11) + 28 * (40 * n1 + 36) ≤ 28 * (40 * n0 + 6) := by omega
theorem om_f51701028c {x0 x1 x2 x3 x4 x5 : Int} (h0 : 0 ≤ x0 ∧ x0 ≤ 15 * x1 + 0) (h1 : x2 = (x1) + 1) (h2 : x2 + 1 ≤ x3 ∧ x3 ≤ 1500) (h3 : x4 ≤ x5 ∧ x5 - 15 * x3 ≤ x4 - 15 * x2) : 0 ≤ x3 ∧ x3 ≤ 1500 := by omega
theorem om_0da0b41fc9 {x0 x1 x2 x3 x4 : Int} (h0 : 0 ≤ x0 ∧ x0 ≤ 40) (h1 : x1 = (x0) + 1) (h2 : x0 < 40) (h3 : x2 = x3 ∧ x4 = x1) : 0 ≤ x4 ∧ x4 ≤ 40 := by omega
theorem om_de350190fe {n0 : Nat} : 8 + (2 + 11) + 64 ≤ 28 * (40 * n0 + 6) := by omega
theorem om_acb12d98f8 {x0 x1 x2 : Int} (h0 : x0 = (x1) + 1) : -2147483648 ≤ (x2) + 1 := by omega
theorem om_61706382c1 {x0 x1 : Int} (h0 : x0 + 1 ≤ x1 ∧ x1 ≤ 1500) : (x1) + 1 < 2147483648 := by omega
theorem om_5e2c23bb58 {x0 x1 x2 x3 x4 : Int} (h0 : 0 ≤ x0 ∧ x0 ≤ 40) (h1 : x1 = (x0) + 1) (h2 : x2 = x3 ∧ x4 = x1) : -2147483648 ≤ (x4) - 1 := by omega
theorem om_2fcd6173a7 {x0 x1 x2 x3 x4 : Int} (h0 : x0 = (x1) + 1) (h1 : x1 < 40) (h2 : x2 = x3 ∧ x4 = x0) : (x4) - 1 < 2147483648 := by omega
theorem om_6853c8734e {x0 : Int} (h0 : 0 ≤ x0 ∧ x0 < 60) : 0 ≤ x0 := by omega
theorem om_00b21bb66e {x0 : Int} (h0 : 0 ≤ x0 ∧ x0 < 60) : x0 < 60 := by omega
theorem om_19dfed8989 {n0 : Nat} : 0 + 1 ≤ 40 * n0 + 6 := by omega
theorem om_213884e4e8 {n0 : Nat} : 8 + (1 + 11) + 0 ≤ 28 * (40 * n0 + 6) := by omega
theorem om_37bd887971 {n0 : Nat} : 8 + (2 + 11) + 0 ≤ 28 * (40 * n0 + 6) := by omega
theorem om_3b8fd30ab4 {x0 x1 x2 x3 x4 : Int} (h0 : 0 ≤ x0 ∧ x0 ≤ 15 * x1 + 2) (h1 : x2 = (x1) + 1) (h2 : x0 ≤ x3 ∧ x3 - 15 * x4 ≤ x0 - 15 * x2) (h3 : x4 < 1500) : 0 ≤ x3 ∧ x3 < 24000 := by omega
theorem om_1badcde1da {x0 x1 x2 x3 x4 : Int} (h0 : 0 ≤ x0 ∧ x0 ≤ 15 * x1 + 2) (h1 : x0 ≤ x2 ∧ x2 - 15 * x3 ≤ x0 - 15 * x4) : -2147483648 ≤ (x2) + 1 := by omega
theorem om_8472d5fa70 {x0 x1 x2 x3 x4 : Int} (h0 : 0 ≤ x0 ∧ x0 ≤ 15 * x1 + 2) (h1 : x2 = (x1) + 1) (h2 : x0 ≤ x3 ∧ x3 - 15 * x4 ≤ x0 - 15 * x2) (h3 : x4 < 1500) : (x3) + 1 < 2147483648 := by omega
theorem om_aa70640b3b {n0 : Nat} : 1 + 1 ≤ 40 * n0 + 6 := by omega
theorem om_949877a014 {n0 : Nat} : 8 + (1 + 11) + 20 ≤ 28 * (40 * n0 + 6) := by omega
theorem om_6539950522 {n0 : Nat} : 8 + (3 + 11) + 24 ≤ 28 * (40 * n0 + 6) := by omega
theorem om_80be57ce27 {x0 x1 x2 x3 x4 x5 : Int} (h0 : 0 ≤ x0 ∧ x0 ≤ 15 * x1 + 2) (h1 : x2 = (x1) + 1) (h2 : x0 ≤ x3 ∧ x3 - 15 * x4 ≤ x0 - 15 * x2) (h3 : x4 < 1500) (h4 : x5 = (x3) + 1) : 0 ≤ x5 ∧ x5 < 24000 := by omega
theorem om_261d73973d {x0 x1 x2 x3 x4 : Int} (h0 : 0 ≤ x0 ∧ x0 ≤ 15 * x1 + 2) (h1 : x0 ≤ x2 ∧ x2 - 15 * x3 ≤ x0 - 15 * x4) : -2147483648 ≤ ((x2) + 1) + 1 := by omega
theorem om_4b60af456f {x0 x1 x2 x3 x4 : Int} (h0 : 0 ≤ x0 ∧ x0 ≤ 15 * x1 + 2) (h1 : x2 = (x1) + 1) (h2 : x0 ≤ x3 ∧ x3 - 15 * x4 ≤ x0 - 15 * x2) (h3 : x4 < 1500) : ((x3) + 1) + 1 < 2147483648 := by omega
theorem om_651bdf9b58 {n0 : Nat} : 8 + (4 + 11) + 0 ≤ 28 * (40 * n0 + 6) := by omega
theorem om_5645e400a7 {x0 x1 x2 x3 x4 x5 : Int} (h0 : 0 ≤ x0 ∧ x0 ≤ 15 * x1 + 2) (h1 : x2 = (x1) + 1) (h2 : x0 ≤ x3 ∧ x3 - 15 * x4 ≤ x0 - 15 * x2) (h3 : x4 < 1500) (h4 : x5 = ((x3) + 1) + 1) : 0 ≤ x5 ∧ x5 < 24000 := by omega
theorem om_5daa7d2f5f {x0 x1 x2 x3 x4 : Int} (h0 : 0 ≤ x0 ∧ x0 ≤ 15 * x1 + 2) (h1 : x0 ≤ x2 ∧ x2 - 15 * x3 ≤ x0 - 15 * x4) : -2147483648 ≤ (((x2) + 1) + 1) + 1 := by omega
theorem om_bd30dbda21 {x0 x1 x2 x3 x4 : Int} (h0 : 0 ≤ x0 ∧ x0 ≤ 15 * x1 + 2) (h1 : x2 = (x1) + 1) (h2 : x0 ≤ x3 ∧ x3 - 15 * x4 ≤ x0 - 15 * x2) (h3 : x4 < 1500) : (((x3) + 1) + 1) + 1 < 2147483648 := by omega
theorem om_8d20f7b95f {x0 x1 x2 x3 x4 x5 : Int} (h0 : 0 ≤ x0 ∧ x0 ≤ 15 * x1 + 2) (h1 : x0 ≤ x2 ∧ x2 - 15 * x3 ≤ x0 - 15 * x4) (h2 : x5 = ((x2) + 1) + 1) : 0 ≤ x5 := by omega
theorem om_cbfb72aa41 {x0 x1 x2 x3 x4 : Int} {n5 : Nat} (h0 : x0 ≤ x1 ∧ x1 - 15 * x2 ≤ x0 - 15 * x3) (h1 : x4 = ((x1) + 1) + 1) (h2 : (n5 : Int) < x0) : (n5 : Int) < x4 := by omega
theorem om_b76455088a {x0 x1 x2 x3 x4 x5 : Int} (h0 : 0 ≤ x0 ∧ x0 ≤ 15 * x1 + 2) (h1 : x0 ≤ x2 ∧ x2 - 15 * x3 ≤ x0 - 15 * x4) (h2 : x5 = (x2) + 1) : 0 ≤ x5 := by omega
theorem om_f0a76fba5d {x0 x1 x2 x3 x4 : Int} {n5 : Nat} (h0 : x0 ≤ x1 ∧ x1 - 15 * x2 ≤ x0 - 15 * x3) (h1 : x4 = (x1) + 1) (h2 : (n5 : Int) < x0) : (n5 : Int) < x4 := by omega
theorem om_1ce1b92b31 {x0 x1 x2 x3 x4 : Int} (h0 : 0 ≤ x0 ∧ x0 ≤ 15 * x1 + 2) (h1 : x0 ≤ x2 ∧ x2 - 15 * x3 ≤ x0 - 15 * x4) : 0 ≤ x2 := by omega
theorem om_e81726c0b3 {x0 x1 x2 x3 : Int} {n4 : Nat} (h0 : x0 ≤ x1 ∧ x1 - 15 * x2 ≤ x0 - 15 * x3) (h1 : (n4 : Int) < x0) : (n4 : Int) < x1 := by omega
theorem om_0cd869a97b {x0 x1 x2 x3 x4 x5 : Int} (h0 : 0 ≤ x0 ∧ x0 ≤ 15 * x1 + 2) (h1 : x2 = (x1) + 1) (h2 : x0 ≤ x3 ∧ x3 - 15 * x4 ≤ x0 - 15 * x2) (h3 : x4 < 1500) (h4 : x5 = ((((x3) + 1) + 1) + 1)) : 0 ≤ x5 ∧ x5 < 24000 := by omega
theorem om_371ea79c8e {x0 x1 x2 x3 x4 x5 : Int} (h0 : 0 ≤ x0 ∧ x0 ≤ 15 * x1 + 2) (h1 : x0 ≤ x2 ∧ x2 - 15 * x3 ≤ x0 - 15 * x4) (h2 : x5 = ((((x2) + 1) + 1) + 1)) : -2147483648 ≤ (x5) + 1 := by omega
theorem om_a5099e9e0c {x0 x1 x2 x3 x4 x5 : Int} (h0 : 0 ≤ x0 ∧ x0 ≤ 15 * x1 + 2) (h1 : x2 = (x1) + 1) (h2 : x0 ≤ x3 ∧ x3 - 15 * x4 ≤ x0 - 15 * x2) (h3 : x4 < 1500) (h4 : x5 = ((((x3) + 1) + 1) + 1)) : (x5) + 1 < 2147483648 := by omega
theorem om_774675f908 {x0 x1 x2 x3 x4 x5 x6 : Int} (h0 : 0 ≤ x0 ∧ x0 ≤ 15 * x1 + 2) (h1 : x2 = (x1) + 1) (h2 : x0 ≤ x3 ∧ x3 - 15 * x4 ≤ x0 - 15 * x2) (h3 : x4 < 1500) (h4 : x5 = ((((x3) + 1) + 1) + 1)) (h5 : x6 = (x5) + 1) : 0 ≤ x6 ∧ x6 < 24000 := by omega
theorem om_7c53854108 {x0 x1 x2 x3 x4 x5 : Int} (h0 : 0 ≤ x0 ∧ x0 ≤ 15 * x1 + 2) (h1 : x0 ≤ x2 ∧ x2 - 15 * x3 ≤ x0 - 15 * x4) (h2 : x5 = ((((x2) + 1) + 1) + 1)) : -2147483648 ≤ ((x5) + 1) + 1 := by omega
theorem om_5525537482 {x0 x1 x2 x3 x4 x5 : Int} (h0 : 0 ≤ x0 ∧ x0 ≤ 15 * x1 + 2) (h1 : x2 = (x1) + 1) (h2 : x0 ≤ x3 ∧ x3 - 15 * x4 ≤ x0 - 15 * x2) (h3 : x4 < 1500) (h4 : x5 = ((((x3) + 1) + 1) + 1)) : ((x5) + 1) + 1 < 2147483648 := by omega
theorem om_04b3c4a7b8 {n0 : Nat} : 8 + (5 + 11) + 0 ≤ 28 * (40 * n0 + 6) := by omega
theorem om_00d98ce580 {x0 x1 x2 x3 x4 x5 x6 : Int} (h0 : 0 ≤ x0 ∧ x0 ≤ 15 * x1 + 2) (h1 : x2 = (x1) + 1) (h2 : x0 ≤ x3 ∧ x3 - 15 * x4 ≤ x0 - 15 * x2) (h3 : x4 < 1500) (h4 : x5 = ((((x3) + 1) + 1) + 1)) (h5 : x6 = ((x5) + 1) + 1) : 0 ≤ x6 ∧ x6 < 24000 := by omega
theorem om_c278b5c250 {x0 x1 x2 x3 x4 x5 : Int} (h0 : 0 ≤ x0 ∧ x0 ≤ 15 * x1 + 2) (h1 : x0 ≤ x2 ∧ x2 - 15 * x3 ≤ x0 - 15 * x4) (h2 : x5 = ((((x2) + 1) + 1) + 1)) : -2147483648 ≤ (((x5) + 1) + 1) + 1 := by omega
theorem om_b8e2984375 {x0 x1 x2 x3 x4 x5 : Int} (h0 : 0 ≤ x0 ∧ x0 ≤ 15 * x1 + 2) (h1 : x2 = (x1) + 1) (h2 : x0 ≤ x3 ∧ x3 - 15 * x4 ≤ x0 - 15 * x2) (h3 : x4 < 1500) (h4 : x5 = ((((x3) + 1) + 1) + 1)) : (((x5) + 1) + 1) + 1 < 2147483648 := by omega
theorem om_0b0f199a30 {x0 x1 x2 x3 x4 x5 x6 : Int} (h0 : 0 ≤ x0 ∧ x0 ≤ 15 * x1 + 2) (h1 : x2 = (x1) + 1) (h2 : x0 ≤ x3 ∧ x3 - 15 * x4 ≤ x0 - 15 * x2) (h3 : x4 < 1500) (h4 : x5 = ((((x3) + 1) + 1) + 1)) (h5 : x6 = (((x5) + 1) + 1) + 1) : 0 ≤ x6 ∧ x6 < 24000 := by omega
theorem om_bfe78f17be {x0 x1 x2 x3 x4 x5 : Int} (h0 : 0 ≤ x0 ∧ x0 ≤ 15 * x1 + 2) (h1 : x0 ≤ x2 ∧ x2 - 15 * x3 ≤ x0 - 15 * x4) (h2 : x5 = ((((x2) + 1) + 1) + 1)) : -2147483648 ≤ ((((x5) + 1) + 1) + 1) + 1 := by omega
theorem om_32b5a24995 {x0 x1 x2 x3 x4 x5 : Int} (h0 : 0 ≤ x0 ∧ x0 ≤ 15 * x1 + 2) (h1 : x2 = (x1) + 1) (h2 : x0 ≤ x3 ∧ x3 - 15 * x4 ≤ x0 - 15 * x2) (h3 : x4 < 1500) (h4 : x5 = ((((x3) + 1) + 1) + 1)) : ((((x5) + 1) + 1) + 1) + 1 < 2147483648 := by omega
theorem om_15d428c28c {x0 x1 x2 x3 x4 x5 x6 : Int} (h0 : 0 ≤ x0 ∧ x0 ≤ 15 * x1 + 2) (h1 : x0 ≤ x2 ∧ x2 - 15 * x3 ≤ x0 - 15 * x4) (h2 : x5 = ((((x2) + 1) + 1) + 1)) (h3 : x6 = (((x5) + 1) + 1) + 1) : 0 ≤ x6 := by omega
theorem om_bb204c6965 {x0 x1 x2 x3 x4 x5 : Int} {n6 : Nat} (h0 : x0 ≤ x1 ∧ x1 - 15 * x2 ≤ x0 - 15 * x3) (h1 : x4 = ((((x1) + 1) + 1) + 1)) (h2 : x5 = (((x4) + 1) + 1) + 1) (h3 : (n6 : Int) < x0) : (n6 : Int) < x5 := by omega
theorem om_af062171bf {x0 x1 x2 x3 x4 x5 x6 : Int} (h0 : 0 ≤ x0 ∧ x0 ≤ 15 * x1 + 2) (h1 : x0 ≤ x2 ∧ x2 - 15 * x3 ≤ x0 - 15 * x4) (h2 : x5 = ((((x2) + 1) + 1) + 1)) (h3 : x6 = ((x5) + 1) + 1) : 0 ≤ x6 := by omega
theorem om_3636e367f0 {x0 x1 x2 x3 x4 x5 : Int} {n6 : Nat} (h0 : x0 ≤ x1 ∧ x1 - 15 * x2 ≤ x0 - 15 * x3) (h1 : x4 = ((((x1) + 1) + 1) + 1)) (h2 : x5 = ((x4) + 1) + 1) (h3 : (n6 : Int) < x0) : (n6 : Int) < x5 := by omega
theorem om_6678f737ef {x0 x1 x2 x3 x4 x5 x6 : Int} (h0 : 0 ≤ x0 ∧ x0 ≤ 15 * x1 + 2) (h1 : x0 ≤ x2 ∧ x2 - 15 * x3 ≤ x0 - 15 * x4) (h2 : x5 = ((((x2) + 1) + 1) + 1)) (h3 : x6 = (x5) + 1) : 0 ≤ x6 := by omega
theorem om_04fd981ede {x0 x1 x2 x3 x4 x5 : Int} {n6 : Nat} (h0 : x0 ≤ x1 ∧ x1 - 15 * x2 ≤ x0 - 15 * x3) (h1 : x4 = ((((x1) + 1) + 1) + 1)) (h2 : x5 = (x4) + 1) (h3 : (n6 : Int) < x0) : (n6 : Int) < x5 := by omega
theorem om_39e61898d5 {x0 x1 x2 x3 x4 x5 : Int} (h0 : 0 ≤ x0 ∧ x0 ≤ 15 * x1 + 2) (h1 : x0 ≤ x2 ∧ x2 - 15 * x3 ≤ x0 - 15 * x4) (h2 : x5 = ((((x2) + 1) + 1) + 1)) : 0 ≤ x5 := by omega
theorem om_2e83e4f52c {x0 x1 x2 x3 x4 : Int} {n5 : Nat} (h0 : x0 ≤ x1 ∧ x1 - 15 * x2 ≤ x0 - 15 * x3) (h1 : x4 = ((((x1) + 1) + 1) + 1)) (h2 : (n5 : Int) < x0) : (n5 : Int) < x4 := by omega
theorem om_0b1fedd5b0 {x0 x1 x2 x3 x4 x5 x6 : Int} (h0 : 0 ≤ x0 ∧ x0 ≤ 15 * x1 + 0) (h1 : x2 = (x1) + 1) (h2 : x0 ≤ x3 ∧ x3 - 15 * x4 ≤ x0 - 15 * x2) (h3 : x4 < 1500) (h4 : x5 = x3) (h5 : x6 = x5) : 0 ≤ x6 ∧ x6 < 24000 := by omega
theorem om_b6bb9ac09d {x0 x1 x2 x3 x4 x5 x6 : Int} (h0 : 0 ≤ x0 ∧ x0 ≤ 15 * x1 + 0) (h1 : x0 ≤ x2 ∧ x2 - 15 * x3 ≤ x0 - 15 * x4) (h2 : x5 = x2) (h3 : x6 = x5) : -2147483648 ≤ (x6) + 1 := by omega
theorem om_f7b5e64402 {x0 x1 x2 x3 x4 x5 x6 : Int} (h0 : 0 ≤ x0 ∧ x0 ≤ 15 * x1 + 0) (h1 : x2 = (x1) + 1) (h2 : x0 ≤ x3 ∧ x3 - 15 * x4 ≤ x0 - 15 * x2) (h3 : x4 < 1500) (h4 : x5 = x3) (h5 : x6 = x5) : (x6) + 1 < 2147483648 := by omega
theorem om_f63aa30660 {x0 x1 x2 x3 x4 x5 x6 : Int} (h0 : 0 ≤ x0 ∧ x0 ≤ 15 * x1 + 2) (h1 : x2 = (x1) + 1) (h2 : x0 ≤ x3 ∧ x3 - 15 * x4 ≤ x0 - 15 * x2) (h3 : x4 < 1500) (h4 : x5 = ((((x3) + 1) + 1) + 1)) (h5 : x6 = (((((x5) + 1) + 1) + 1) + 1)) : 0 ≤ x6 ∧ x6 < 24000 := by omega
theorem om_84682e7ffb {x0 x1 x2 x3 x4 x5 x6 : Int} (h0 : 0 ≤ x0 ∧ x0 ≤ 15 * x1 + 2) (h1 : x0 ≤ x2 ∧ x2 - 15 * x3 ≤ x0 - 15 * x4) (h2 : x5 = ((((x2) + 1) + 1) + 1)) (h3 : x6 = (((((x5) + 1) + 1) + 1) + 1)) : -2147483648 ≤ (x6) + 1 := by omega
theorem om_26a5ec9423 {x0 x1 x2 x3 x4 x5 x6 : Int} (h0 : 0 ≤ x0 ∧ x0 ≤ 15 * x1 + 2) (h1 : x2 = (x1) + 1) (h2 : x0 ≤ x3 ∧ x3 - 15 * x4 ≤ x0 - 15 * x2) (h3 : x4 < 1500) (h4 : x5 = ((((x3) + 1) + 1) + 1)) (h5 : x6 = (((((x5) + 1) + 1) + 1) + 1)) : (x6) + 1 < 2147483648 := by omega
theorem om_3e587a17de {x0 x1 x2 x3 x4 x5 x6 : Int} (h0 : 0 ≤ x0 ∧ x0 ≤ 10 * x1 + 0) (h1 : x2 = (x1) + 1) (h2 : x0 ≤ x3 ∧ x3 - 10 * x4 ≤ x0 - 10 * x2) (h3 : x4 < 1500) (h4 : x5 = x3) (h5 : x6 = x5) : 0 ≤ x6 ∧ x6 < 16000 := by omega
theorem om_bc89bc7b20 {n0 : Nat} : 8 + (3 + 11) + 0 ≤ 28 * (40 * n0 + 6) := by omega
theorem om_7f7f5862b6 {x0 x1 x2 x3 x4 x5 x6 : Int} (h0 : 0 ≤ x0 ∧ x0 ≤ 10 * x1 + 0) (h1 : x0 ≤ x2 ∧ x2 - 10 * x3 ≤ x0 - 10 * x4) (h2 : x5 = x2) (h3 : x6 = x5) : -2147483648 ≤ (x6) + 1 := by omega
theorem om_2938052658 {x0 x1 x2 x3 x4 x5 x6 : Int} (h0 : 0 ≤ x0 ∧ x0 ≤ 10 * x1 + 0) (h1 : x2 = (x1) + 1) (h2 : x0 ≤ x3 ∧ x3 - 10 * x4 ≤ x0 - 10 * x2) (h3 : x4 < 1500) (h4 : x5 = x3) (h5 : x6 = x5) : (x6) + 1 < 2147483648 := by omega
theorem om_6465a24d53 {x0 x1 x2 x3 x4 x5 x6 : Int} (h0 : 0 ≤ x0 ∧ x0 ≤ 15 * x1 + 2) (h1 : x0 ≤ x2 ∧ x2 - 15 * x3 ≤ x0 - 15 * x4) (h2 : x5 = ((((x2) + 1) + 1) + 1)) (h3 : x6 = (((((x5) + 1) + 1) + 1) + 1)) : 0 ≤ x6 := by omega
theorem om_03de3ac16d {x0 x1 x2 x3 x4 x5 : Int} {n6 : Nat} (h0 : x0 ≤ x1 ∧ x1 - 15 * x2 ≤ x0 - 15 * x3) (h1 : x4 = ((((x1) + 1) + 1) + 1)) (h2 : x5 = (((((x4) + 1) + 1) + 1) + 1)) (h3 : (n6 : Int) < x0) : (n6 : Int) < x5 := by omega
theorem om_84b9671de1 {x0 x1 x2 x3 x4 x5 x6 : Int} (h0 : 0 ≤ x0 ∧ x0 ≤ 10 * x1 + 0) (h1 : x0 ≤ x2 ∧ x2 - 10 * x3 ≤ x0 - 10 * x4) (h2 : x5 = x2) (h3 : x6 = x5) : 0 ≤ x6 := by omega
theorem om_12d0209867 {x0 x1 x2 x3 x4 x5 : Int} {n6 : Nat} (h0 : x0 ≤ x1 ∧ x1 - 10 * x2 ≤ x0 - 10 * x3) (h1 : x4 = x1) (h2 : x5 = x4) (h3 : (n6 : Int) < x0) : (n6 : Int) < x5 := by omega
theorem om_f3a5da3be8 {x0 x1 x2 x3 x4 x5 : Int} (h0 : x0 = (x1) + 1) (h1 : x0 + 1 ≤ x2 ∧ x2 ≤ 1500) (h2 : x2 < 1500) (h3 : x3 = ((x2) + 1)) (h4 : x4 = x3) (h5 : x5 = x4) : x1 + 1 ≤ x5 ∧ x5 ≤ 1500 := by omega
theorem om_32294a9ce4 {x0 x1 : Int} (h0 : x0 ≠ x1) : x0 ≠ x1 := by omega
theorem om_26bddb01c3 {x0 x1 x2 x3 x4 x5 x6 x7 x8 x9 x10 : Int} (h0 : x0 = (x1) + 1) (h1 : x2 ≤ x3 ∧ x3 - 15 * x4 ≤ x2 - 15 * x0) (h2 : x5 = ((((x3) + 1) + 1) + 1)) (h3 : x6 = ((x4) + 1)) (h4 : x7 = (((((x5) + 1) + 1) + 1) + 1)) (h5 : x8 = x6) (h6 : x9 = ((x7) + 1)) (h7 : x10 = x8) : x2 ≤ x9 ∧ x9 - 15 * x10 ≤ x2 - 15 * x1 := by omega
theorem om_30edf64970 {x0 x1 x2 x3 x4 x5 x6 x7 x8 x9 x10 : Int} (h0 : x0 = (x1) + 1) (h1 : x2 ≤ x3 ∧ x3 - 10 * x4 ≤ x2 - 10 * x0) (h2 : x5 = x3) (h3 : x6 = ((x4) + 1)) (h4 : x7 = x5) (h5 : x8 = x6) (h6 : x9 = ((x7) + 1)) (h7 : x10 = x8) : x2 ≤ x9 ∧ x9 - 10 * x10 ≤ x2 - 10 * x1 := by omega
theorem om_ce7a5a4055 {x0 x1 x2 x3 x4 x5 x6 x7 x8 x9 x10 : Int} (h0 : x0 = (x1) + 1) (h1 : x2 ≤ x3 ∧ x3 - 15 * x4 ≤ x2 - 15 * x0) (h2 : x5 = x3) (h3 : x6 = ((x4) + 1)) (h4 : x7 = x5) (h5 : x8 = x6) (h6 : x9 = ((x7) + 1)) (h7 : x10 = x8) : x2 ≤ x9 ∧ x9 - 15 * x10 ≤ x2 - 15 * x1 := by omega
theorem om_a352363cdb {x0 x1 x2 x3 x4 x5 x6 x7 x8 x9 x10 : Int} (h0 : x0 = (x1) + 1) (h1 : x2 ≤ x3 ∧ x3 - 1 * x4 ≤ x2 - 1 * x0) (h2 : x5 = x3) (h3 : x6 = ((x4) + 1)) (h4 : x7 = x5) (h5 : x8 = x6) (h6 : x9 = x7) (h7 : x10 = x8) : x2 ≤ x9 ∧ x9 - 1 * x10 ≤ x2 - 1 * x1 := by omega
theorem om_24ac9cf41a {x0 x1 x2 x3 x4 x5 x6 x7 x8 x9 x10 : Int} (h0 : x0 = (x1) + 1) (h1 : x2 = x3 ∧ x4 = x0) (h2 : x5 = x2) (h3 : x6 = ((x4) - 1)) (h4 : x7 = x5) (h5 : x8 = x6) (h6 : x9 = x7) (h7 : x10 = x8) : x9 = x3 ∧ x10 = x1 := by omega
theorem om_b0e74c87bc {x0 x1 x2 x3 x4 : Int} (h0 : x0 ≤ x1 ∧ x1 ≤ 500) (h1 : x2 = x1) (h2 : x3 = x2) (h3 : x4 = x3) : x0 ≤ x4 ∧ x4 ≤ 500 := by omega
set_option maxHeartbeats 16000000 in
set_option maxRecDepth 100000 in
theorem c_m_index (l : Launch) (n : Nat) (ihE : ∀ m, n = m + 1 → Cx_expression l m) (dC : Nat → ClassId) (dI : Nat → Nat → Nat) (cI cB cZ cJ cR : ClassId) (tb : Nat → Nat) (sz : Nat) (ad : Nat → Nat) (N : Nat) (v : MS) (pa : Int32) (zn : 40 ≤ (v.1 0 48).toInt + (n : Int)) (zt : 0 ≤ (v.1 0 47).toInt ∧ (v.1 0 47).toInt ≤ 1500) (zop : 0 ≤ (v.1 0 48).toInt ∧ (v.1 0 48).toInt ≤ 40) (zkn : 0 ≤ (v.1 0 30).toInt ∧ (v.1 0 30).toInt ≤ 500) (zhi : 0 ≤ (v.1 0 33).toInt ∧ (v.1 0 33).toInt ≤ 500) (zs : 0 ≤ (v.1 0 32).toInt ∧ (v.1 0 30).toInt + (v.1 0 32).toInt ≤ 500) (zws : 0 ≤ (v.1 0 12).toInt ∧ (v.1 0 12).toInt ≤ 15 * (v.1 0 47).toInt + 2) (zos : 0 ≤ (v.1 0 15).toInt ∧ (v.1 0 15).toInt ≤ 10 * (v.1 0 47).toInt + 0) (zfs : 0 ≤ (v.1 0 43).toInt ∧ (v.1 0 43).toInt ≤ 15 * (v.1 0 47).toInt + 0) (zcs : 0 ≤ (v.1 0 39).toInt ∧ (v.1 0 39).toInt ≤ 1 * (v.1 0 47).toInt + 0) (zgl : 0 ≤ (v.1 0 27).toInt ∧ (v.1 0 27).toInt ≤ 60) (hT : TI v) (n29 : NI 29 v) (n23 : NI 23 v) (n35 : NI 35 v) (zg : 0 ≤ pa.toInt ∧ pa.toInt < 60) : vx_Met l yX13_index (Cond.code yX13_index cX13_index 3 none :: tw_W) ({ frames := 40 * n + 6, cells := 0, slots := 0, locals := 28 * (40 * n + 6) }) (pc_ (dC, dI) (tyS cI cB cZ cJ cR) tb (mW ad N cI cZ cJ v) sz [.ref (ad 0), .int pa]) (qv_ (dC, dI) (mW ad N cI cZ cJ v) sz (fun (u : MS) => FG [12, 15, 32, 33, 39, 43, 44, 45, 47, 48, 49, 50, 51] [0, 11, 13, 14, 35, 36, 37, 38, 40, 41, 42] v u ∧ ((v.1 0 47).toInt + 1 ≤ (u.1 0 47).toInt ∧ (u.1 0 47).toInt ≤ 1500) ∧ ((v.1 0 49).toInt ≠ (v.1 0 47).toInt) ∧ ((v.1 0 12).toInt ≤ (u.1 0 12).toInt ∧ (u.1 0 12).toInt - 15 * (u.1 0 47).toInt ≤ (v.1 0 12).toInt - 15 * (v.1 0 47).toInt) ∧ ((v.1 0 15).toInt ≤ (u.1 0 15).toInt ∧ (u.1 0 15).toInt - 10 * (u.1 0 47).toInt ≤ (v.1 0 15).toInt - 10 * (v.1 0 47).toInt) ∧ ((v.1 0 43).toInt ≤ (u.1 0 43).toInt ∧ (u.1 0 43).toInt - 15 * (u.1 0 47).toInt ≤ (v.1 0 43).toInt - 15 * (v.1 0 47).toInt) ∧ ((v.1 0 39).toInt ≤ (u.1 0 39).toInt ∧ (u.1 0 39).toInt - 1 * (u.1 0 47).toInt ≤ (v.1 0 39).toInt - 1 * (v.1 0 47).toInt) ∧ ((u.1 0 32).toInt = (v.1 0 32).toInt ∧ (u.1 0 48).toInt = (v.1 0 48).toInt) ∧ ((v.1 0 33).toInt ≤ (u.1 0 33).toInt ∧ (u.1 0 33).toInt ≤ 500) ∧ (∀ j : Nat, (j : Int) < (v.1 0 12).toInt → (u.1 11) j = (v.1 11) j) ∧ (∀ j : Nat, (j : Int) < (v.1 0 15).toInt → (u.1 13) j = (v.1 13) j) ∧ (∀ j : Nat, (j : Int) < (v.1 0 15).toInt → (u.1 14) j = (v.1 14) j) ∧ (NI 35 u)) (fun (u : MS) => (mW ad N cI cZ cJ u))) (qxm (dC, dI) (mW ad N cI cZ cJ v) sz (fun (u : MS) => (mW ad N cI cZ cJ u)) (fun (u : MS) => Fr v u)) 0 0 (va_A (mW ad N cI cZ cJ v) sz) := by
  refine vx_ofW (cc := cX13_index) (maxL := 3) (ret := none) (by decide) rfl ?_
  intro p e s m args below meth c s₁ B hml hnt hv
  obtain ⟨rfl, hsz, hP, hKK, hD0, hFx⟩ := hv
  have hK := hKK.1
  have hx := B.exec
  have hb := B.bytes
  have hr := B.returns
  have ht : ∀ w ∈ tw_W, w.before _ s = true := fun w h => atoms_spec (ws := Cond.code yX13_index cX13_index 3 none :: tw_W) B.pre w (List.mem_cons_of_mem _ h)
  have hown : s.vm.findClass RX13 = some m.cls := findClass_of_methodNamed B.named
  have hlocks := B.notSynchronized
  subst hsz
  unfold qv_ qxm
  have hD := hD0.self (sz := s.heap.size)
  generalize hAe : va_A (mW ad N cI cZ cJ v) s.heap.size = A at hD hFx ⊢
  have hA : ∀ q : Nat, s.heap.size ≤ q → A q := fun q h => by rw [← hAe]; exact Or.inr h
  have hS : va_S A s.heap s.heap [] := va_S.rf
  have hl := lv_entry ([.ref (ad 0), .int pa]) (n := 3) (Nat.le_of_ble_eq_true rfl)
  rw [lg_entry_eq]
  generalize (lg_sl ([.ref (ad 0), .int pa]) ++ List.replicate (3 - (lg_sl ([.ref (ad 0), .int pa])).length) Slot.unset).toArray = ls at hl ⊢
  have hl : lv_has ls 3 [(0, .ref (ad 0)), (1, .int pa)] := hl
  refine lv_aload_n hx hb dX13_index_0 rfl (lv_at hl 0 rfl) ?_
  refine lv_bipush (v := 91) hx hb dX13_index_1 (by decide) ?_
  refine cux_v (rx_V (n := 1) (As := [.int 91]) (rest := []) hx hb hml hown ht hKK hFx hP hD hS hA (c_m_open l dC dI cI cB cZ cJ cR tb s.heap.size ad N v (91 : Int32) (show 0 ≤ (v.1 0 47).toInt ∧ (v.1 0 47).toInt ≤ 1500 from (om_2fb699b811 zt zfs)) (show 0 ≤ (v.1 0 48).toInt ∧ (v.1 0 48).toInt ≤ 40 from (om_7eaf33e007 zop))) tw_78 tw_79 (by decide +kernel) rfl rfl ⟨show 3 + 1 ≤ 40 * n + 6 from om_c9931a82b5, show 8 + (2 + 11) + 62 ≤ 28 * (40 * n + 6) from om_207cd7ffe4⟩ (List.range (mW ad N cI cZ cJ v).length) (rg_map _) (mW_nd _ _ _ _ _ _) rfl rfl rfl rfl hl.1 rfl (Nat.le_of_ble_eq_true rfl) dX13_index_3 ⟨Nat.le_of_ble_eq_true rfl, Nat.le_of_ble_eq_true rfl⟩) hP hD hS hA (fun u9 ce9 q9 H locs hx9 hP hD hS hc9 hv9 hf9 => ?_) (fun u2 H locs hw1 hP hD hS => ?_)
  · exact vx_out (fun x h9 => (hnt x h9).elim) hlocks hc9 hv9 hf9 (fun t9 ht9 hv8 => ⟨u9, (FG.tr (FG.rf _) hx9), ⟨rfl, by rw [ht9]; exact hP, hD⟩, hS.F ht9⟩) hS.2.2 (Nat.le_refl _) (Nat.le_refl _)
  obtain ⟨rfl, a1, b1, c1⟩ := hw1
  have z4 : ((v.1 0 47) + (1 : Int32)).toInt = ((v.1 0 47).toInt) + 1 := add_z rfl (show (1 : Int32).toInt = 1 by decide) om_41768d81aa (om_4c41a33dcc zt)
  have z5 : ((v.1 0 48) + (1 : Int32)).toInt = ((v.1 0 48).toInt) + 1 := add_z rfl (show (1 : Int32).toInt = 1 by decide) (om_4349469ff4 zop) (om_40605d3eee zop)
  have hP : va_P (dC, dI) vwCl (mW ad N cI cZ cJ (wA (wA v 0 47 ((v.1 0 47) + (1 : Int32))) 0 48 ((v.1 0 48) + (1 : Int32)))) H := hP
  have hD : va_D A (mW ad N cI cZ cJ (wA (wA v 0 47 ((v.1 0 47) + (1 : Int32))) 0 48 ((v.1 0 48) + (1 : Int32)))) := hD
  refine W.widen (k := 0) (n := 0) (Nat.le_refl _) (Nat.le_refl _) ?_
  refine lv_aload_n hx hb dX13_index_6 rfl (lv_at hl 0 rfl) ?_
  obtain ⟨n6, hn7⟩ : ∃ m, n = m + 1 := ex_z (om_78b28660f8 zn b1)
  refine cux_v (rx_V (n := 0) (As := []) (rest := []) hx hb hml hown ht hKK hFx hP hD hS hA (ihE n6 hn7 dC dI cI cB cZ cJ cR tb H.size ad N (wA (wA v 0 47 ((v.1 0 47) + (1 : Int32))) 0 48 ((v.1 0 48) + (1 : Int32)))  (show 40 ≤ ((v.1 0 48) + (1 : Int32)).toInt + (n6 : Int) from (om_99fbe9b13d zn z5 hn7)) (show 0 ≤ ((v.1 0 47) + (1 : Int32)).toInt ∧ ((v.1 0 47) + (1 : Int32)).toInt ≤ 1500 from (om_546b696276 zfs z4 a1)) (show 0 ≤ ((v.1 0 48) + (1 : Int32)).toInt ∧ ((v.1 0 48) + (1 : Int32)).toInt ≤ 40 from (om_2692a2ca83 zop z5 b1)) (show 0 ≤ (v.1 0 30).toInt ∧ (v.1 0 30).toInt ≤ 500 from (om_9861e69da5 zkn)) (show 0 ≤ (v.1 0 33).toInt ∧ (v.1 0 33).toInt ≤ 500 from (om_9861e69da5 zhi)) (show 0 ≤ (v.1 0 32).toInt ∧ (v.1 0 30).toInt + (v.1 0 32).toInt ≤ 500 from (om_7c096b0019 zs)) (show 0 ≤ (v.1 0 12).toInt ∧ (v.1 0 12).toInt ≤ 15 * ((v.1 0 47) + (1 : Int32)).toInt + 2 from (om_8000a86782 zws z4)) (show 0 ≤ (v.1 0 15).toInt ∧ (v.1 0 15).toInt ≤ 10 * ((v.1 0 47) + (1 : Int32)).toInt + 0 from (om_58ddae9939 zos z4)) (show 0 ≤ (v.1 0 43).toInt ∧ (v.1 0 43).toInt ≤ 15 * ((v.1 0 47) + (1 : Int32)).toInt + 0 from (om_75a9aeff29 zfs z4)) (show 0 ≤ (v.1 0 39).toInt ∧ (v.1 0 39).toInt ≤ 1 * ((v.1 0 47) + (1 : Int32)).toInt + 0 from (om_682fa06fa2 zcs z4)) (show 0 ≤ (v.1 0 27).toInt ∧ (v.1 0 27).toInt ≤ 60 from (om_1d2c7ad648 zgl)) (FG.ti (fl := pfl) (al := pal) (FG.f (FG.f (FG.rf _) ((v.1 0 47) + (1 : Int32)) (by decide)) ((v.1 0 48) + (1 : Int32)) (by decide)) (by decide) (by decide) hT) (n29) (n23) (n35)) tw_80 tw_81 (by decide +kernel) rfl rfl ⟨show (40 * n6 + 36) + 1 ≤ 40 * n + 6 from (om_a8c331ff68 hn7), show 8 + (1 + 11) + 28 * (40 * n6 + 36) ≤ 28 * (40 * n + 6) from (om_93090b8001 hn7)⟩ (List.range (mW ad N cI cZ cJ (wA (wA v 0 47 ((v.1 0 47) + (1 : Int32))) 0 48 ((v.1 0 48) + (1 : Int32)))).length) (rg_map _) (mW_nd _ _ _ _ _ _) rfl rfl rfl rfl hl.1 rfl (Nat.le_of_ble_eq_true rfl) dX13_index_7 ⟨Nat.le_of_ble_eq_true rfl, Nat.le_of_ble_eq_true rfl⟩) hP hD hS hA (fun u9 ce9 q9 H locs hx9 hP hD hS hc9 hv9 hf9 => ?_) (fun u9 H locs hw8 hP hD hS => ?_)
  · exact vx_out (fun x h9 => (hnt x h9).elim) hlocks hc9 hv9 hf9 (fun t9 ht9 hv8 => ⟨u9, (FG.tr (FG.f (FG.f (FG.rf _) ((v.1 0 47) + (1 : Int32)) (by decide)) ((v.1 0 48) + (1 : Int32)) (by decide)) hx9), ⟨rfl, by rw [ht9]; exact hP, hD⟩, hS.F ht9⟩) hS.2.2 (Nat.le_refl _) (Nat.le_refl _)
  obtain ⟨fr8, pt8, pb8, pw8, po8, pf8, pk8, pp8, ph8, kc8, ko8, kg8, n358⟩ := hw8
  have pt8 : ((v.1 0 47) + (1 : Int32)).toInt + 1 ≤ (u9.1 0 47).toInt ∧ (u9.1 0 47).toInt ≤ 1500 := pt8
  have pb8 : (v.1 0 49).toInt ≠ ((v.1 0 47) + (1 : Int32)).toInt := pb8
  have pw8 : (v.1 0 12).toInt ≤ (u9.1 0 12).toInt ∧ (u9.1 0 12).toInt - 15 * (u9.1 0 47).toInt ≤ (v.1 0 12).toInt - 15 * ((v.1 0 47) + (1 : Int32)).toInt := pw8
  have po8 : (v.1 0 15).toInt ≤ (u9.1 0 15).toInt ∧ (u9.1 0 15).toInt - 10 * (u9.1 0 47).toInt ≤ (v.1 0 15).toInt - 10 * ((v.1 0 47) + (1 : Int32)).toInt := po8
  have pf8 : (v.1 0 43).toInt ≤ (u9.1 0 43).toInt ∧ (u9.1 0 43).toInt - 15 * (u9.1 0 47).toInt ≤ (v.1 0 43).toInt - 15 * ((v.1 0 47) + (1 : Int32)).toInt := pf8
  have pk8 : (v.1 0 39).toInt ≤ (u9.1 0 39).toInt ∧ (u9.1 0 39).toInt - 1 * (u9.1 0 47).toInt ≤ (v.1 0 39).toInt - 1 * ((v.1 0 47) + (1 : Int32)).toInt := pk8
  have pp8 : (u9.1 0 32).toInt = (v.1 0 32).toInt ∧ (u9.1 0 48).toInt = ((v.1 0 48) + (1 : Int32)).toInt := pp8
  have ph8 : (v.1 0 33).toInt ≤ (u9.1 0 33).toInt ∧ (u9.1 0 33).toInt ≤ 500 := ph8
  have kc8 : ∀ j : Nat, (j : Int) < (v.1 0 12).toInt → (u9.1 11) j = (v.1 11) j := kc8
  have ko8 : ∀ j : Nat, (j : Int) < (v.1 0 15).toInt → (u9.1 13) j = (v.1 13) j := ko8
  have kg8 : ∀ j : Nat, (j : Int) < (v.1 0 15).toInt → (u9.1 14) j = (v.1 14) j := kg8
  have n358 : NI 35 u9 := n358
  refine W.widen (k := 0) (n := 0) (Nat.le_refl _) (Nat.le_refl _) ?_
  refine lv_aload_n hx hb dX13_index_10 rfl (lv_at hl 0 rfl) ?_
  refine lv_bipush (v := 93) hx hb dX13_index_11 (by decide) ?_
  refine cux_v (rx_V (n := 1) (As := [.int 93]) (rest := []) hx hb hml hown ht hKK hFx hP hD hS hA (c_m_close l dC dI cI cB cZ cJ cR tb H.size ad N u9 (93 : Int32) (show 0 ≤ (u9.1 0 47).toInt ∧ (u9.1 0 47).toInt ≤ 1500 from (om_f51701028c zfs z4 pt8 pw8)) (show 0 ≤ (u9.1 0 48).toInt ∧ (u9.1 0 48).toInt ≤ 40 from (om_0da0b41fc9 zop z5 b1 pp8))) tw_82 tw_83 (by decide +kernel) rfl rfl ⟨show 3 + 1 ≤ 40 * n + 6 from om_c9931a82b5, show 8 + (2 + 11) + 64 ≤ 28 * (40 * n + 6) from om_de350190fe⟩ (List.range (mW ad N cI cZ cJ u9).length) (rg_map _) (mW_nd _ _ _ _ _ _) rfl rfl rfl rfl hl.1 rfl (Nat.le_of_ble_eq_true rfl) dX13_index_13 ⟨Nat.le_of_ble_eq_true rfl, Nat.le_of_ble_eq_true rfl⟩) hP hD hS hA (fun u9 ce9 q9 H locs hx9 hP hD hS hc9 hv9 hf9 => ?_) (fun u12 H locs hw11 hP hD hS => ?_)
  · exact vx_out (fun x h9 => (hnt x h9).elim) hlocks hc9 hv9 hf9 (fun t9 ht9 hv8 => ⟨u9, (FG.tr (FG.tr (FG.f (FG.f (FG.rf _) ((v.1 0 47) + (1 : Int32)) (by decide)) ((v.1 0 48) + (1 : Int32)) (by decide)) (FG.up fr8 (by decide) (by decide))) hx9), ⟨rfl, by rw [ht9]; exact hP, hD⟩, hS.F ht9⟩) hS.2.2 (Nat.le_refl _) (Nat.le_refl _)
  obtain ⟨rfl, a11, c11⟩ := hw11
  have z14 : ((u9.1 0 47) + (1 : Int32)).toInt = ((u9.1 0 47).toInt) + 1 := add_z rfl (show (1 : Int32).toInt = 1 by decide) (om_acb12d98f8 z4) (om_61706382c1 pt8)
  have z15 : ((u9.1 0 48) - (1 : Int32)).toInt = ((u9.1 0 48).toInt) - 1 := sub_z rfl (show (1 : Int32).toInt = 1 by decide) (om_5e2c23bb58 zop z5 pp8) (om_2fcd6173a7 z5 b1 pp8)
  have hP : va_P (dC, dI) vwCl (mW ad N cI cZ cJ (wA (wA u9 0 47 ((u9.1 0 47) + (1 : Int32))) 0 48 ((u9.1 0 48) - (1 : Int32)))) H := hP
  have hD : va_D A (mW ad N cI cZ cJ (wA (wA u9 0 47 ((u9.1 0 47) + (1 : Int32))) 0 48 ((u9.1 0 48) - (1 : Int32)))) := hD
  have a11 : (u9.1 0 47).toInt < 1500 := a11
  have c11 : (u9.1 0 49).toInt ≠ (u9.1 0 47).toInt := c11
  refine W.widen (k := 0) (n := 0) (Nat.le_refl _) (Nat.le_refl _) ?_
  refine lv_aload_n hx hb dX13_index_16 rfl (lv_at hl 0 rfl) ?_
  refine va_get (D := (dC, dI)) (ci := 16) (fs := mF ad (wA (wA u9 0 47 ((u9.1 0 47) + (1 : Int32))) 0 48 ((u9.1 0 48) - (1 : Int32)))) (v := .ref (ad 24)) (C := RX13) (T := TX13) (N := 124) hx hb ht itX13 hown hK hP 0 rfl rfl 24 (by decide) (ht _ tw_84) (fun _ h9 => h9) rfl dX13_index_17 ?_
  refine lv_iload_n hx hb dX13_index_20 rfl (lv_at hl 1 rfl) ?_
  refine va_iald (D := (dC, dI)) (f := (u9.1 24)) hx hb hK hP 18 0 rfl rfl (in_y (a := pa.toInt) (b := 60) rfl (om_6853c8734e zg) (om_00b21bb66e zg) rfl) dX13_index_21 ?_
  refine lv_istore_n (lv' := [(2, .int ((u9.1 24) pa.toNatClampNeg)), (0, .ref (ad 0)), (1, .int pa)]) hx hb dX13_index_22 rfl hl (by decide) rfl (fun ls hl => ?_)
  refine lv_aload_n hx hb dX13_index_23 rfl (lv_at hl 1 rfl) ?_
  refine lv_bipush (v := 6) hx hb dX13_index_24 (by decide) ?_
  refine lv_iload_n hx hb dX13_index_26 rfl (lv_at hl 0 rfl) ?_
  refine cu_s (mW_nd _ _ _ _ _ _) (rn_S (n := 1) (As := [.int ((u9.1 24) pa.toNatClampNeg)]) (rest := [.int 6, .ref (ad 0)]) hx hb hml hown ht hKK hFx hP hD hS hA (c_m_hi l dC dI cI cB cZ cJ cR tb H.size ((u9.1 24) pa.toNatClampNeg) ) tw_0 tw_1 (by decide +kernel) rfl rfl ⟨show 0 + 1 ≤ 40 * n + 6 from om_19dfed8989, show 8 + (1 + 11) + 0 ≤ 28 * (40 * n + 6) from om_213884e4e8⟩ [] rfl rfl rfl hl.1 rfl (Nat.le_of_ble_eq_true rfl) dX13_index_27 ⟨Nat.le_of_ble_eq_true rfl, Nat.le_of_ble_eq_true rfl⟩) hP hD hS hA (fun r18 H locs hw16 hP hD hS => ?_)
  refine W.widen (k := 0) (n := 0) (Nat.le_refl _) (Nat.le_refl _) ?_
  refine cu_s (mW_nd _ _ _ _ _ _) (rn_S (n := 2) (As := [.int 6, .int r18]) (rest := [.ref (ad 0)]) hx hb hml hown ht hKK hFx hP hD hS hA (c_m_lui l dC dI cI cB cZ cJ cR tb H.size (6 : Int32) r18 ) tw_61 tw_62 (by decide +kernel) rfl rfl ⟨show 0 + 1 ≤ 40 * n + 6 from om_19dfed8989, show 8 + (2 + 11) + 0 ≤ 28 * (40 * n + 6) from om_37bd887971⟩ [] rfl rfl rfl hl.1 rfl (Nat.le_of_ble_eq_true rfl) dX13_index_30 ⟨Nat.le_of_ble_eq_true rfl, Nat.le_of_ble_eq_true rfl⟩) hP hD hS hA (fun r21 H locs hw19 hP hD hS => ?_)
  refine W.widen (k := 0) (n := 0) (Nat.le_refl _) (Nat.le_refl _) ?_
  refine cu_i (rn_V (n := 1) (As := [.int r21]) (rest := []) hx hb hml hown ht hKK hFx hP hD hS hA (c_m_emit l dC dI cI cB cZ cJ cR tb H.size ad N (wA (wA u9 0 47 ((u9.1 0 47) + (1 : Int32))) 0 48 ((u9.1 0 48) - (1 : Int32))) r21 (show 0 ≤ (u9.1 0 12).toInt ∧ (u9.1 0 12).toInt < 24000 from (om_3b8fd30ab4 zws z4 pw8 a11))) tw_8 tw_9 (by decide +kernel) rfl rfl ⟨show 0 + 1 ≤ 40 * n + 6 from om_19dfed8989, show 8 + (2 + 11) + 0 ≤ 28 * (40 * n + 6) from om_37bd887971⟩ (List.range (mW ad N cI cZ cJ (wA (wA u9 0 47 ((u9.1 0 47) + (1 : Int32))) 0 48 ((u9.1 0 48) - (1 : Int32)))).length) (rg_map _) (mW_nd _ _ _ _ _ _) rfl rfl rfl rfl hl.1 rfl (Nat.le_of_ble_eq_true rfl) dX13_index_33 ⟨Nat.le_of_ble_eq_true rfl, Nat.le_of_ble_eq_true rfl⟩) hP hD hS hA (fun r24 u23 H locs hw22 hP hD hS => ?_)
  obtain ⟨rfl, rfl⟩ := hw22
  have z25 : ((u9.1 0 12) + (1 : Int32)).toInt = ((u9.1 0 12).toInt) + 1 := add_z rfl (show (1 : Int32).toInt = 1 by decide) (om_1badcde1da zws pw8) (om_8472d5fa70 zws z4 pw8 a11)
  have hP : va_P (dC, dI) vwCl (mW ad N cI cZ cJ (wA (wA (wA (wA u9 0 47 ((u9.1 0 47) + (1 : Int32))) 0 48 ((u9.1 0 48) - (1 : Int32))) 11 ((u9.1 0 12).toNatClampNeg) r21) 0 12 ((u9.1 0 12) + (1 : Int32)))) H := hP
  have hD : va_D A (mW ad N cI cZ cJ (wA (wA (wA (wA u9 0 47 ((u9.1 0 47) + (1 : Int32))) 0 48 ((u9.1 0 48) - (1 : Int32))) 11 ((u9.1 0 12).toNatClampNeg) r21) 0 12 ((u9.1 0 12) + (1 : Int32)))) := hD
  refine tp_i (y := (u9.1 0 12)) (rfl) ?_
  refine W.widen (k := 0) (n := 0) (Nat.le_refl _) (Nat.le_refl _) ?_
  refine lv_pop hx hb dX13_index_36 rfl ?_
  refine lv_aload_n hx hb dX13_index_37 rfl (lv_at hl 1 rfl) ?_
  refine lv_bipush (v := 6) hx hb dX13_index_38 (by decide) ?_
  refine lv_bipush (v := 6) hx hb dX13_index_40 (by decide) ?_
  refine lv_iload_n hx hb dX13_index_42 rfl (lv_at hl 0 rfl) ?_
  refine cu_s (mW_nd _ _ _ _ _ _) (rn_S (n := 1) (As := [.int ((u9.1 24) pa.toNatClampNeg)]) (rest := [.int 6, .int 6, .ref (ad 0)]) hx hb hml hown ht hKK hFx hP hD hS hA (c_m_lo l dC dI cI cB cZ cJ cR tb H.size ((u9.1 24) pa.toNatClampNeg) ) tw_63 tw_64 (by decide +kernel) rfl rfl ⟨show 1 + 1 ≤ 40 * n + 6 from om_aa70640b3b, show 8 + (1 + 11) + 20 ≤ 28 * (40 * n + 6) from om_949877a014⟩ [] rfl rfl rfl hl.1 rfl (Nat.le_of_ble_eq_true rfl) dX13_index_43 ⟨Nat.le_of_ble_eq_true rfl, Nat.le_of_ble_eq_true rfl⟩) hP hD hS hA (fun r28 H locs hw26 hP hD hS => ?_)
  refine W.widen (k := 0) (n := 0) (Nat.le_refl _) (Nat.le_refl _) ?_
  refine cu_s (mW_nd _ _ _ _ _ _) (rn_S (n := 3) (As := [.int 6, .int 6, .int r28]) (rest := [.ref (ad 0)]) hx hb hml hown ht hKK hFx hP hD hS hA (c_m_addi l dC dI cI cB cZ cJ cR tb H.size (6 : Int32) (6 : Int32) r28 ) tw_65 tw_66 (by decide +kernel) rfl rfl ⟨show 1 + 1 ≤ 40 * n + 6 from om_aa70640b3b, show 8 + (3 + 11) + 24 ≤ 28 * (40 * n + 6) from om_6539950522⟩ [] rfl rfl rfl hl.1 rfl (Nat.le_of_ble_eq_true rfl) dX13_index_46 ⟨Nat.le_of_ble_eq_true rfl, Nat.le_of_ble_eq_true rfl⟩) hP hD hS hA (fun r31 H locs hw29 hP hD hS => ?_)
  refine W.widen (k := 0) (n := 0) (Nat.le_refl _) (Nat.le_refl _) ?_
  refine cu_i (rn_V (n := 1) (As := [.int r31]) (rest := []) hx hb hml hown ht hKK hFx hP hD hS hA (c_m_emit l dC dI cI cB cZ cJ cR tb H.size ad N (wA (wA (wA (wA u9 0 47 ((u9.1 0 47) + (1 : Int32))) 0 48 ((u9.1 0 48) - (1 : Int32))) 11 ((u9.1 0 12).toNatClampNeg) r21) 0 12 ((u9.1 0 12) + (1 : Int32))) r31 (show 0 ≤ ((u9.1 0 12) + (1 : Int32)).toInt ∧ ((u9.1 0 12) + (1 : Int32)).toInt < 24000 from (om_80be57ce27 zws z4 pw8 a11 z25))) tw_8 tw_9 (by decide +kernel) rfl rfl ⟨show 0 + 1 ≤ 40 * n + 6 from om_19dfed8989, show 8 + (2 + 11) + 0 ≤ 28 * (40 * n + 6) from om_37bd887971⟩ (List.range (mW ad N cI cZ cJ (wA (wA (wA (wA u9 0 47 ((u9.1 0 47) + (1 : Int32))) 0 48 ((u9.1 0 48) - (1 : Int32))) 11 ((u9.1 0 12).toNatClampNeg) r21) 0 12 ((u9.1 0 12) + (1 : Int32)))).length) (rg_map _) (mW_nd _ _ _ _ _ _) rfl rfl rfl rfl hl.1 rfl (Nat.le_of_ble_eq_true rfl) dX13_index_49 ⟨Nat.le_of_ble_eq_true rfl, Nat.le_of_ble_eq_true rfl⟩) hP hD hS hA (fun r34 u33 H locs hw32 hP hD hS => ?_)
  obtain ⟨rfl, rfl⟩ := hw32
  have z35 : (((u9.1 0 12) + (1 : Int32)) + (1 : Int32)).toInt = (((u9.1 0 12).toInt) + 1) + 1 := add_z z25 (show (1 : Int32).toInt = 1 by decide) (om_261d73973d zws pw8) (om_4b60af456f zws z4 pw8 a11)
  have hP : va_P (dC, dI) vwCl (mW ad N cI cZ cJ (wA (wA (wA (wA (wA (wA u9 0 47 ((u9.1 0 47) + (1 : Int32))) 0 48 ((u9.1 0 48) - (1 : Int32))) 11 ((u9.1 0 12).toNatClampNeg) r21) 0 12 ((u9.1 0 12) + (1 : Int32))) 11 (((u9.1 0 12) + (1 : Int32)).toNatClampNeg) r31) 0 12 (((u9.1 0 12) + (1 : Int32)) + (1 : Int32)))) H := hP
  have hD : va_D A (mW ad N cI cZ cJ (wA (wA (wA (wA (wA (wA u9 0 47 ((u9.1 0 47) + (1 : Int32))) 0 48 ((u9.1 0 48) - (1 : Int32))) 11 ((u9.1 0 12).toNatClampNeg) r21) 0 12 ((u9.1 0 12) + (1 : Int32))) 11 (((u9.1 0 12) + (1 : Int32)).toNatClampNeg) r31) 0 12 (((u9.1 0 12) + (1 : Int32)) + (1 : Int32)))) := hD
  refine tp_i (y := ((u9.1 0 12) + (1 : Int32))) (rfl) ?_
  refine W.widen (k := 0) (n := 0) (Nat.le_refl _) (Nat.le_refl _) ?_
  refine lv_pop hx hb dX13_index_52 rfl ?_
  refine lv_aload_n hx hb dX13_index_53 rfl (lv_at hl 1 rfl) ?_
  refine lv_bipush (v := 6) hx hb dX13_index_54 (by decide) ?_
  refine lv_bipush (v := 10) hx hb dX13_index_56 (by decide) ?_
  refine lv_bipush (v := 6) hx hb dX13_index_58 (by decide) ?_
  refine lv_bipush (v := 12) hx hb dX13_index_60 (by decide) ?_
  refine cu_s (mW_nd _ _ _ _ _ _) (rn_S (n := 4) (As := [.int 6, .int 10, .int 6, .int 12]) (rest := [.ref (ad 0)]) hx hb hml hown ht hKK hFx hP hD hS hA (c_m_byB l dC dI cI cB cZ cJ cR tb H.size (6 : Int32) (10 : Int32) (6 : Int32) (12 : Int32) ) tw_85 tw_86 (by decide +kernel) rfl rfl ⟨show 0 + 1 ≤ 40 * n + 6 from om_19dfed8989, show 8 + (4 + 11) + 0 ≤ 28 * (40 * n + 6) from om_651bdf9b58⟩ [] rfl rfl rfl hl.1 rfl (Nat.le_of_ble_eq_true rfl) dX13_index_62 ⟨Nat.le_of_ble_eq_true rfl, Nat.le_of_ble_eq_true rfl⟩) hP hD hS hA (fun r38 H locs hw36 hP hD hS => ?_)
  refine W.widen (k := 0) (n := 0) (Nat.le_refl _) (Nat.le_refl _) ?_
  refine cu_i (rn_V (n := 1) (As := [.int r38]) (rest := []) hx hb hml hown ht hKK hFx hP hD hS hA (c_m_emit l dC dI cI cB cZ cJ cR tb H.size ad N (wA (wA (wA (wA (wA (wA u9 0 47 ((u9.1 0 47) + (1 : Int32))) 0 48 ((u9.1 0 48) - (1 : Int32))) 11 ((u9.1 0 12).toNatClampNeg) r21) 0 12 ((u9.1 0 12) + (1 : Int32))) 11 (((u9.1 0 12) + (1 : Int32)).toNatClampNeg) r31) 0 12 (((u9.1 0 12) + (1 : Int32)) + (1 : Int32))) r38 (show 0 ≤ (((u9.1 0 12) + (1 : Int32)) + (1 : Int32)).toInt ∧ (((u9.1 0 12) + (1 : Int32)) + (1 : Int32)).toInt < 24000 from (om_5645e400a7 zws z4 pw8 a11 z35))) tw_8 tw_9 (by decide +kernel) rfl rfl ⟨show 0 + 1 ≤ 40 * n + 6 from om_19dfed8989, show 8 + (2 + 11) + 0 ≤ 28 * (40 * n + 6) from om_37bd887971⟩ (List.range (mW ad N cI cZ cJ (wA (wA (wA (wA (wA (wA u9 0 47 ((u9.1 0 47) + (1 : Int32))) 0 48 ((u9.1 0 48) - (1 : Int32))) 11 ((u9.1 0 12).toNatClampNeg) r21) 0 12 ((u9.1 0 12) + (1 : Int32))) 11 (((u9.1 0 12) + (1 : Int32)).toNatClampNeg) r31) 0 12 (((u9.1 0 12) + (1 : Int32)) + (1 : Int32)))).length) (rg_map _) (mW_nd _ _ _ _ _ _) rfl rfl rfl rfl hl.1 rfl (Nat.le_of_ble_eq_true rfl) dX13_index_65 ⟨Nat.le_of_ble_eq_true rfl, Nat.le_of_ble_eq_true rfl⟩) hP hD hS hA (fun r41 u40 H locs hw39 hP hD hS => ?_)
  obtain ⟨rfl, rfl⟩ := hw39
  have z42 : ((((u9.1 0 12) + (1 : Int32)) + (1 : Int32)) + (1 : Int32)).toInt = ((((u9.1 0 12).toInt) + 1) + 1) + 1 := add_z z35 (show (1 : Int32).toInt = 1 by decide) (om_5daa7d2f5f zws pw8) (om_bd30dbda21 zws z4 pw8 a11)
  have hP : va_P (dC, dI) vwCl (mW ad N cI cZ cJ (wA (wA (wA (wA (wA (wA (wA (wA u9 0 47 ((u9.1 0 47) + (1 : Int32))) 0 48 ((u9.1 0 48) - (1 : Int32))) 11 ((u9.1 0 12).toNatClampNeg) r21) 0 12 ((u9.1 0 12) + (1 : Int32))) 11 (((u9.1 0 12) + (1 : Int32)).toNatClampNeg) r31) 0 12 (((u9.1 0 12) + (1 : Int32)) + (1 : Int32))) 11 ((((u9.1 0 12) + (1 : Int32)) + (1 : Int32)).toNatClampNeg) r38) 0 12 ((((u9.1 0 12) + (1 : Int32)) + (1 : Int32)) + (1 : Int32)))) H := hP
  have hD : va_D A (mW ad N cI cZ cJ (wA (wA (wA (wA (wA (wA (wA (wA u9 0 47 ((u9.1 0 47) + (1 : Int32))) 0 48 ((u9.1 0 48) - (1 : Int32))) 11 ((u9.1 0 12).toNatClampNeg) r21) 0 12 ((u9.1 0 12) + (1 : Int32))) 11 (((u9.1 0 12) + (1 : Int32)).toNatClampNeg) r31) 0 12 (((u9.1 0 12) + (1 : Int32)) + (1 : Int32))) 11 ((((u9.1 0 12) + (1 : Int32)) + (1 : Int32)).toNatClampNeg) r38) 0 12 ((((u9.1 0 12) + (1 : Int32)) + (1 : Int32)) + (1 : Int32)))) := hD
  refine tp_i (y := (((u9.1 0 12) + (1 : Int32)) + (1 : Int32))) (rfl) ?_
  refine W.widen (k := 0) (n := 0) (Nat.le_refl _) (Nat.le_refl _) ?_
  obtain ⟨u43, hu44⟩ : ∃ z, z = (wA (wA (wA (wA (wA (wA (wA (wA u9 0 47 ((u9.1 0 47) + (1 : Int32))) 0 48 ((u9.1 0 48) - (1 : Int32))) 11 ((u9.1 0 12).toNatClampNeg) r21) 0 12 ((u9.1 0 12) + (1 : Int32))) 11 (((u9.1 0 12) + (1 : Int32)).toNatClampNeg) r31) 0 12 (((u9.1 0 12) + (1 : Int32)) + (1 : Int32))) 11 ((((u9.1 0 12) + (1 : Int32)) + (1 : Int32)).toNatClampNeg) r38) 0 12 ((((u9.1 0 12) + (1 : Int32)) + (1 : Int32)) + (1 : Int32))) := ⟨_, rfl⟩
  have fr44 : FG [12, 47, 48] [0, 11] u9 u43 := by rw [hu44]; exact (FG.f (FG.a (FG.f (FG.a (FG.f (FG.a (FG.f (FG.f (FG.rf _) ((u9.1 0 47) + (1 : Int32)) (by decide)) ((u9.1 0 48) - (1 : Int32)) (by decide)) ((u9.1 0 12).toNatClampNeg) r21 (by decide) (by decide)) ((u9.1 0 12) + (1 : Int32)) (by decide)) (((u9.1 0 12) + (1 : Int32)).toNatClampNeg) r31 (by decide) (by decide)) (((u9.1 0 12) + (1 : Int32)) + (1 : Int32)) (by decide)) ((((u9.1 0 12) + (1 : Int32)) + (1 : Int32)).toNatClampNeg) r38 (by decide) (by decide)) ((((u9.1 0 12) + (1 : Int32)) + (1 : Int32)) + (1 : Int32)) (by decide))
  have kc44 : ∀ j : Nat, (j : Int) < (v.1 0 12).toInt → (u43.1 11) j = (v.1 11) j := by rw [hu44]; exact (fun (j9 : Nat) hj9 => (Eq.trans (pk_un3 (a := (((u9.1 0 12) + (1 : Int32)) + (1 : Int32)).toInt) rfl (om_8d20f7b95f zws pw8 z35) (om_cbfb72aa41 pw8 z35 hj9)) (Eq.trans (pk_un3 (a := ((u9.1 0 12) + (1 : Int32)).toInt) rfl (om_b76455088a zws pw8 z25) (om_f0a76fba5d pw8 z25 hj9)) (Eq.trans (pk_un3 (a := (u9.1 0 12).toInt) rfl (om_1ce1b92b31 zws pw8) (om_e81726c0b3 pw8 hj9)) (kc8 j9 (om_4fe904e9bf hj9))))))
  rw [← hu44] at hP hD
  refine lv_pop hx hb dX13_index_68 rfl ?_
  refine lv_aload_n hx hb dX13_index_69 rfl (lv_at hl 1 rfl) ?_
  refine lv_bipush (v := 17) hx hb dX13_index_70 (by decide) ?_
  refine lv_iconst (v := 0) hx hb dX13_index_72 (by decide) ?_
  refine lv_iconst (v := 3) hx hb dX13_index_73 (by decide) ?_
  refine cu_s (mW_nd _ _ _ _ _ _) (rn_S (n := 3) (As := [.int 17, .int 0, .int 3]) (rest := [.ref (ad 0)]) hx hb hml hown ht hKK hFx hP hD hS hA (c_m_addi l dC dI cI cB cZ cJ cR tb H.size (17 : Int32) (0 : Int32) (3 : Int32) ) tw_65 tw_66 (by decide +kernel) rfl rfl ⟨show 1 + 1 ≤ 40 * n + 6 from om_aa70640b3b, show 8 + (3 + 11) + 24 ≤ 28 * (40 * n + 6) from om_6539950522⟩ [] rfl rfl rfl hl.1 rfl (Nat.le_of_ble_eq_true rfl) dX13_index_74 ⟨Nat.le_of_ble_eq_true rfl, Nat.le_of_ble_eq_true rfl⟩) hP hD hS hA (fun r47 H locs hw45 hP hD hS => ?_)
  refine W.widen (k := 0) (n := 0) (Nat.le_refl _) (Nat.le_refl _) ?_
  have q48 : (u43.1 0 12).toInt = (((((u9.1 0 12).toInt) + 1) + 1) + 1) := by rw [hu44]; exact (show ((((u9.1 0 12) + (1 : Int32)) + (1 : Int32)) + (1 : Int32)).toInt = (((((u9.1 0 12).toInt) + 1) + 1) + 1) from z42)
  refine cu_i (rn_V (n := 1) (As := [.int r47]) (rest := []) hx hb hml hown ht hKK hFx hP hD hS hA (c_m_emit l dC dI cI cB cZ cJ cR tb H.size ad N u43 r47 (show 0 ≤ (u43.1 0 12).toInt ∧ (u43.1 0 12).toInt < 24000 from (om_0cd869a97b zws z4 pw8 a11 q48))) tw_8 tw_9 (by decide +kernel) rfl rfl ⟨show 0 + 1 ≤ 40 * n + 6 from om_19dfed8989, show 8 + (2 + 11) + 0 ≤ 28 * (40 * n + 6) from om_37bd887971⟩ (List.range (mW ad N cI cZ cJ u43).length) (rg_map _) (mW_nd _ _ _ _ _ _) rfl rfl rfl rfl hl.1 rfl (Nat.le_of_ble_eq_true rfl) dX13_index_77 ⟨Nat.le_of_ble_eq_true rfl, Nat.le_of_ble_eq_true rfl⟩) hP hD hS hA (fun r51 u50 H locs hw49 hP hD hS => ?_)
  obtain ⟨rfl, rfl⟩ := hw49
  have z52 : ((u43.1 0 12) + (1 : Int32)).toInt = ((u43.1 0 12).toInt) + 1 := add_z rfl (show (1 : Int32).toInt = 1 by decide) (om_371ea79c8e zws pw8 q48) (om_a5099e9e0c zws z4 pw8 a11 q48)
  have hP : va_P (dC, dI) vwCl (mW ad N cI cZ cJ (wA (wA u43 11 ((u43.1 0 12).toNatClampNeg) r47) 0 12 ((u43.1 0 12) + (1 : Int32)))) H := hP
  have hD : va_D A (mW ad N cI cZ cJ (wA (wA u43 11 ((u43.1 0 12).toNatClampNeg) r47) 0 12 ((u43.1 0 12) + (1 : Int32)))) := hD
  refine tp_i (y := (u43.1 0 12)) (rfl) ?_
  refine W.widen (k := 0) (n := 0) (Nat.le_refl _) (Nat.le_refl _) ?_
  refine lv_pop hx hb dX13_index_80 rfl ?_
  refine lv_aload_n hx hb dX13_index_81 rfl (lv_at hl 1 rfl) ?_
  refine lv_ldcw (v := 1048691) hx hb hown (ht _ tw_87) dX13_index_82 ?_
  refine cu_i (rn_V (n := 1) (As := [.int 1048691]) (rest := []) hx hb hml hown ht hKK hFx hP hD hS hA (c_m_emit l dC dI cI cB cZ cJ cR tb H.size ad N (wA (wA u43 11 ((u43.1 0 12).toNatClampNeg) r47) 0 12 ((u43.1 0 12) + (1 : Int32))) (1048691 : Int32) (show 0 ≤ ((u43.1 0 12) + (1 : Int32)).toInt ∧ ((u43.1 0 12) + (1 : Int32)).toInt < 24000 from (om_774675f908 zws z4 pw8 a11 q48 z52))) tw_8 tw_9 (by decide +kernel) rfl rfl ⟨show 0 + 1 ≤ 40 * n + 6 from om_19dfed8989, show 8 + (2 + 11) + 0 ≤ 28 * (40 * n + 6) from om_37bd887971⟩ (List.range (mW ad N cI cZ cJ (wA (wA u43 11 ((u43.1 0 12).toNatClampNeg) r47) 0 12 ((u43.1 0 12) + (1 : Int32)))).length) (rg_map _) (mW_nd _ _ _ _ _ _) rfl rfl rfl rfl hl.1 rfl (Nat.le_of_ble_eq_true rfl) dX13_index_85 ⟨Nat.le_of_ble_eq_true rfl, Nat.le_of_ble_eq_true rfl⟩) hP hD hS hA (fun r55 u54 H locs hw53 hP hD hS => ?_)
  obtain ⟨rfl, rfl⟩ := hw53
  have z56 : (((u43.1 0 12) + (1 : Int32)) + (1 : Int32)).toInt = (((u43.1 0 12).toInt) + 1) + 1 := add_z z52 (show (1 : Int32).toInt = 1 by decide) (om_7c53854108 zws pw8 q48) (om_5525537482 zws z4 pw8 a11 q48)
  have hP : va_P (dC, dI) vwCl (mW ad N cI cZ cJ (wA (wA (wA (wA u43 11 ((u43.1 0 12).toNatClampNeg) r47) 0 12 ((u43.1 0 12) + (1 : Int32))) 11 (((u43.1 0 12) + (1 : Int32)).toNatClampNeg) (1048691 : Int32)) 0 12 (((u43.1 0 12) + (1 : Int32)) + (1 : Int32)))) H := hP
  have hD : va_D A (mW ad N cI cZ cJ (wA (wA (wA (wA u43 11 ((u43.1 0 12).toNatClampNeg) r47) 0 12 ((u43.1 0 12) + (1 : Int32))) 11 (((u43.1 0 12) + (1 : Int32)).toNatClampNeg) (1048691 : Int32)) 0 12 (((u43.1 0 12) + (1 : Int32)) + (1 : Int32)))) := hD
  refine tp_i (y := ((u43.1 0 12) + (1 : Int32))) (rfl) ?_
  refine W.widen (k := 0) (n := 0) (Nat.le_refl _) (Nat.le_refl _) ?_
  refine lv_pop hx hb dX13_index_88 rfl ?_
  refine lv_aload_n hx hb dX13_index_89 rfl (lv_at hl 1 rfl) ?_
  refine lv_bipush (v := 19) hx hb dX13_index_90 (by decide) ?_
  refine lv_iconst (v := 1) hx hb dX13_index_92 (by decide) ?_
  refine lv_bipush (v := 10) hx hb dX13_index_93 (by decide) ?_
  refine lv_bipush (v := 10) hx hb dX13_index_95 (by decide) ?_
  refine lv_iconst (v := 2) hx hb dX13_index_97 (by decide) ?_
  refine cu_s (mW_nd _ _ _ _ _ _) (rn_S (n := 5) (As := [.int 19, .int 1, .int 10, .int 10, .int 2]) (rest := [.ref (ad 0)]) hx hb hml hown ht hKK hFx hP hD hS hA (c_m_byI l dC dI cI cB cZ cJ cR tb H.size (19 : Int32) (1 : Int32) (10 : Int32) (10 : Int32) (2 : Int32) ) tw_2 tw_3 (by decide +kernel) rfl rfl ⟨show 0 + 1 ≤ 40 * n + 6 from om_19dfed8989, show 8 + (5 + 11) + 0 ≤ 28 * (40 * n + 6) from om_04b3c4a7b8⟩ [] rfl rfl rfl hl.1 rfl (Nat.le_of_ble_eq_true rfl) dX13_index_98 ⟨Nat.le_of_ble_eq_true rfl, Nat.le_of_ble_eq_true rfl⟩) hP hD hS hA (fun r59 H locs hw57 hP hD hS => ?_)
  refine W.widen (k := 0) (n := 0) (Nat.le_refl _) (Nat.le_refl _) ?_
  refine cu_i (rn_V (n := 1) (As := [.int r59]) (rest := []) hx hb hml hown ht hKK hFx hP hD hS hA (c_m_emit l dC dI cI cB cZ cJ cR tb H.size ad N (wA (wA (wA (wA u43 11 ((u43.1 0 12).toNatClampNeg) r47) 0 12 ((u43.1 0 12) + (1 : Int32))) 11 (((u43.1 0 12) + (1 : Int32)).toNatClampNeg) (1048691 : Int32)) 0 12 (((u43.1 0 12) + (1 : Int32)) + (1 : Int32))) r59 (show 0 ≤ (((u43.1 0 12) + (1 : Int32)) + (1 : Int32)).toInt ∧ (((u43.1 0 12) + (1 : Int32)) + (1 : Int32)).toInt < 24000 from (om_00d98ce580 zws z4 pw8 a11 q48 z56))) tw_8 tw_9 (by decide +kernel) rfl rfl ⟨show 0 + 1 ≤ 40 * n + 6 from om_19dfed8989, show 8 + (2 + 11) + 0 ≤ 28 * (40 * n + 6) from om_37bd887971⟩ (List.range (mW ad N cI cZ cJ (wA (wA (wA (wA u43 11 ((u43.1 0 12).toNatClampNeg) r47) 0 12 ((u43.1 0 12) + (1 : Int32))) 11 (((u43.1 0 12) + (1 : Int32)).toNatClampNeg) (1048691 : Int32)) 0 12 (((u43.1 0 12) + (1 : Int32)) + (1 : Int32)))).length) (rg_map _) (mW_nd _ _ _ _ _ _) rfl rfl rfl rfl hl.1 rfl (Nat.le_of_ble_eq_true rfl) dX13_index_101 ⟨Nat.le_of_ble_eq_true rfl, Nat.le_of_ble_eq_true rfl⟩) hP hD hS hA (fun r62 u61 H locs hw60 hP hD hS => ?_)
  obtain ⟨rfl, rfl⟩ := hw60
  have z63 : ((((u43.1 0 12) + (1 : Int32)) + (1 : Int32)) + (1 : Int32)).toInt = ((((u43.1 0 12).toInt) + 1) + 1) + 1 := add_z z56 (show (1 : Int32).toInt = 1 by decide) (om_c278b5c250 zws pw8 q48) (om_b8e2984375 zws z4 pw8 a11 q48)
  have hP : va_P (dC, dI) vwCl (mW ad N cI cZ cJ (wA (wA (wA (wA (wA (wA u43 11 ((u43.1 0 12).toNatClampNeg) r47) 0 12 ((u43.1 0 12) + (1 : Int32))) 11 (((u43.1 0 12) + (1 : Int32)).toNatClampNeg) (1048691 : Int32)) 0 12 (((u43.1 0 12) + (1 : Int32)) + (1 : Int32))) 11 ((((u43.1 0 12) + (1 : Int32)) + (1 : Int32)).toNatClampNeg) r59) 0 12 ((((u43.1 0 12) + (1 : Int32)) + (1 : Int32)) + (1 : Int32)))) H := hP
  have hD : va_D A (mW ad N cI cZ cJ (wA (wA (wA (wA (wA (wA u43 11 ((u43.1 0 12).toNatClampNeg) r47) 0 12 ((u43.1 0 12) + (1 : Int32))) 11 (((u43.1 0 12) + (1 : Int32)).toNatClampNeg) (1048691 : Int32)) 0 12 (((u43.1 0 12) + (1 : Int32)) + (1 : Int32))) 11 ((((u43.1 0 12) + (1 : Int32)) + (1 : Int32)).toNatClampNeg) r59) 0 12 ((((u43.1 0 12) + (1 : Int32)) + (1 : Int32)) + (1 : Int32)))) := hD
  refine tp_i (y := (((u43.1 0 12) + (1 : Int32)) + (1 : Int32))) (rfl) ?_
  refine W.widen (k := 0) (n := 0) (Nat.le_refl _) (Nat.le_refl _) ?_
  refine lv_pop hx hb dX13_index_104 rfl ?_
  refine lv_aload_n hx hb dX13_index_105 rfl (lv_at hl 1 rfl) ?_
  refine lv_aload_n hx hb dX13_index_106 rfl (lv_at hl 1 rfl) ?_
  refine lv_bipush (v := 6) hx hb dX13_index_107 (by decide) ?_
  refine lv_iconst (v := 0) hx hb dX13_index_109 (by decide) ?_
  refine cu_s (mW_nd _ _ _ _ _ _) (rn_S (n := 2) (As := [.int 6, .int 0]) (rest := [.ref (ad 0), .ref (ad 0)]) hx hb hml hown ht hKK hFx hP hD hS hA (c_m_lui l dC dI cI cB cZ cJ cR tb H.size (6 : Int32) (0 : Int32) ) tw_61 tw_62 (by decide +kernel) rfl rfl ⟨show 0 + 1 ≤ 40 * n + 6 from om_19dfed8989, show 8 + (2 + 11) + 0 ≤ 28 * (40 * n + 6) from om_37bd887971⟩ [] rfl rfl rfl hl.1 rfl (Nat.le_of_ble_eq_true rfl) dX13_index_110 ⟨Nat.le_of_ble_eq_true rfl, Nat.le_of_ble_eq_true rfl⟩) hP hD hS hA (fun r66 H locs hw64 hP hD hS => ?_)
  refine W.widen (k := 0) (n := 0) (Nat.le_refl _) (Nat.le_refl _) ?_
  refine cu_i (rn_V (n := 1) (As := [.int r66]) (rest := [.ref (ad 0)]) hx hb hml hown ht hKK hFx hP hD hS hA (c_m_emit l dC dI cI cB cZ cJ cR tb H.size ad N (wA (wA (wA (wA (wA (wA u43 11 ((u43.1 0 12).toNatClampNeg) r47) 0 12 ((u43.1 0 12) + (1 : Int32))) 11 (((u43.1 0 12) + (1 : Int32)).toNatClampNeg) (1048691 : Int32)) 0 12 (((u43.1 0 12) + (1 : Int32)) + (1 : Int32))) 11 ((((u43.1 0 12) + (1 : Int32)) + (1 : Int32)).toNatClampNeg) r59) 0 12 ((((u43.1 0 12) + (1 : Int32)) + (1 : Int32)) + (1 : Int32))) r66 (show 0 ≤ ((((u43.1 0 12) + (1 : Int32)) + (1 : Int32)) + (1 : Int32)).toInt ∧ ((((u43.1 0 12) + (1 : Int32)) + (1 : Int32)) + (1 : Int32)).toInt < 24000 from (om_0b0f199a30 zws z4 pw8 a11 q48 z63))) tw_8 tw_9 (by decide +kernel) rfl rfl ⟨show 0 + 1 ≤ 40 * n + 6 from om_19dfed8989, show 8 + (2 + 11) + 0 ≤ 28 * (40 * n + 6) from om_37bd887971⟩ (List.range (mW ad N cI cZ cJ (wA (wA (wA (wA (wA (wA u43 11 ((u43.1 0 12).toNatClampNeg) r47) 0 12 ((u43.1 0 12) + (1 : Int32))) 11 (((u43.1 0 12) + (1 : Int32)).toNatClampNeg) (1048691 : Int32)) 0 12 (((u43.1 0 12) + (1 : Int32)) + (1 : Int32))) 11 ((((u43.1 0 12) + (1 : Int32)) + (1 : Int32)).toNatClampNeg) r59) 0 12 ((((u43.1 0 12) + (1 : Int32)) + (1 : Int32)) + (1 : Int32)))).length) (rg_map _) (mW_nd _ _ _ _ _ _) rfl rfl rfl rfl hl.1 rfl (Nat.le_of_ble_eq_true rfl) dX13_index_113 ⟨Nat.le_of_ble_eq_true rfl, Nat.le_of_ble_eq_true rfl⟩) hP hD hS hA (fun r69 u68 H locs hw67 hP hD hS => ?_)
  obtain ⟨rfl, rfl⟩ := hw67
  have z70 : (((((u43.1 0 12) + (1 : Int32)) + (1 : Int32)) + (1 : Int32)) + (1 : Int32)).toInt = (((((u43.1 0 12).toInt) + 1) + 1) + 1) + 1 := add_z z63 (show (1 : Int32).toInt = 1 by decide) (om_bfe78f17be zws pw8 q48) (om_32b5a24995 zws z4 pw8 a11 q48)
  have hP : va_P (dC, dI) vwCl (mW ad N cI cZ cJ (wA (wA (wA (wA (wA (wA (wA (wA u43 11 ((u43.1 0 12).toNatClampNeg) r47) 0 12 ((u43.1 0 12) + (1 : Int32))) 11 (((u43.1 0 12) + (1 : Int32)).toNatClampNeg) (1048691 : Int32)) 0 12 (((u43.1 0 12) + (1 : Int32)) + (1 : Int32))) 11 ((((u43.1 0 12) + (1 : Int32)) + (1 : Int32)).toNatClampNeg) r59) 0 12 ((((u43.1 0 12) + (1 : Int32)) + (1 : Int32)) + (1 : Int32))) 11 (((((u43.1 0 12) + (1 : Int32)) + (1 : Int32)) + (1 : Int32)).toNatClampNeg) r66) 0 12 (((((u43.1 0 12) + (1 : Int32)) + (1 : Int32)) + (1 : Int32)) + (1 : Int32)))) H := hP
  have hD : va_D A (mW ad N cI cZ cJ (wA (wA (wA (wA (wA (wA (wA (wA u43 11 ((u43.1 0 12).toNatClampNeg) r47) 0 12 ((u43.1 0 12) + (1 : Int32))) 11 (((u43.1 0 12) + (1 : Int32)).toNatClampNeg) (1048691 : Int32)) 0 12 (((u43.1 0 12) + (1 : Int32)) + (1 : Int32))) 11 ((((u43.1 0 12) + (1 : Int32)) + (1 : Int32)).toNatClampNeg) r59) 0 12 ((((u43.1 0 12) + (1 : Int32)) + (1 : Int32)) + (1 : Int32))) 11 (((((u43.1 0 12) + (1 : Int32)) + (1 : Int32)) + (1 : Int32)).toNatClampNeg) r66) 0 12 (((((u43.1 0 12) + (1 : Int32)) + (1 : Int32)) + (1 : Int32)) + (1 : Int32)))) := hD
  refine tp_i (y := ((((u43.1 0 12) + (1 : Int32)) + (1 : Int32)) + (1 : Int32))) (rfl) ?_
  refine W.widen (k := 0) (n := 0) (Nat.le_refl _) (Nat.le_refl _) ?_
  obtain ⟨u71, hu72⟩ : ∃ z, z = (wA (wA (wA (wA (wA (wA (wA (wA u43 11 ((u43.1 0 12).toNatClampNeg) r47) 0 12 ((u43.1 0 12) + (1 : Int32))) 11 (((u43.1 0 12) + (1 : Int32)).toNatClampNeg) (1048691 : Int32)) 0 12 (((u43.1 0 12) + (1 : Int32)) + (1 : Int32))) 11 ((((u43.1 0 12) + (1 : Int32)) + (1 : Int32)).toNatClampNeg) r59) 0 12 ((((u43.1 0 12) + (1 : Int32)) + (1 : Int32)) + (1 : Int32))) 11 (((((u43.1 0 12) + (1 : Int32)) + (1 : Int32)) + (1 : Int32)).toNatClampNeg) r66) 0 12 (((((u43.1 0 12) + (1 : Int32)) + (1 : Int32)) + (1 : Int32)) + (1 : Int32))) := ⟨_, rfl⟩
  have fr72 : FG [12] [0, 11] u43 u71 := by rw [hu72]; exact (FG.f (FG.a (FG.f (FG.a (FG.f (FG.a (FG.f (FG.a (FG.rf _) ((u43.1 0 12).toNatClampNeg) r47 (by decide) (by decide)) ((u43.1 0 12) + (1 : Int32)) (by decide)) (((u43.1 0 12) + (1 : Int32)).toNatClampNeg) (1048691 : Int32) (by decide) (by decide)) (((u43.1 0 12) + (1 : Int32)) + (1 : Int32)) (by decide)) ((((u43.1 0 12) + (1 : Int32)) + (1 : Int32)).toNatClampNeg) r59 (by decide) (by decide)) ((((u43.1 0 12) + (1 : Int32)) + (1 : Int32)) + (1 : Int32)) (by decide)) (((((u43.1 0 12) + (1 : Int32)) + (1 : Int32)) + (1 : Int32)).toNatClampNeg) r66 (by decide) (by decide)) (((((u43.1 0 12) + (1 : Int32)) + (1 : Int32)) + (1 : Int32)) + (1 : Int32)) (by decide))
  have kc72 : ∀ j : Nat, (j : Int) < (v.1 0 12).toInt → (u71.1 11) j = (v.1 11) j := by rw [hu72]; exact (fun (j9 : Nat) hj9 => (Eq.trans (pk_un3 (a := ((((u43.1 0 12) + (1 : Int32)) + (1 : Int32)) + (1 : Int32)).toInt) rfl (om_15d428c28c zws pw8 q48 z63) (om_bb204c6965 pw8 q48 z63 hj9)) (Eq.trans (pk_un3 (a := (((u43.1 0 12) + (1 : Int32)) + (1 : Int32)).toInt) rfl (om_af062171bf zws pw8 q48 z56) (om_3636e367f0 pw8 q48 z56 hj9)) (Eq.trans (pk_un3 (a := ((u43.1 0 12) + (1 : Int32)).toInt) rfl (om_6678f737ef zws pw8 q48 z52) (om_04fd981ede pw8 q48 z52 hj9)) (Eq.trans (pk_un3 (a := (u43.1 0 12).toInt) rfl (om_39e61898d5 zws pw8 q48) (om_2e83e4f52c pw8 q48 hj9)) (kc44 j9 hj9))))))
  rw [← hu72] at hP hD
  refine lv_iload_n hx hb dX13_index_116 rfl (lv_at hl 2 rfl) ?_
  refine lv_iconst (v := 0) hx hb dX13_index_117 (by decide) ?_
  have q73 : (u43.1 0 43).toInt = (u9.1 0 43).toInt := congrArg Int32.toInt (fr44.2.1 43 (by decide))
  have q74 : (u71.1 0 43).toInt = (u43.1 0 43).toInt := congrArg Int32.toInt (fr72.2.1 43 (by decide))
  refine cu_v (rn_V (n := 3) (As := [.int ((((u43.1 0 12) + (1 : Int32)) + (1 : Int32)) + (1 : Int32)), .int pa, .int 0]) (rest := []) hx hb hml hown ht hKK hFx hP hD hS hA (c_m_fix l dC dI cI cB cZ cJ cR tb H.size ad N u71 ((((u43.1 0 12) + (1 : Int32)) + (1 : Int32)) + (1 : Int32)) pa (0 : Int32) (show 0 ≤ (u71.1 0 43).toInt ∧ (u71.1 0 43).toInt < 24000 from (om_0b1fedd5b0 zfs z4 pf8 a11 q73 q74))) tw_69 tw_70 (by decide +kernel) rfl rfl ⟨show 0 + 1 ≤ 40 * n + 6 from om_19dfed8989, show 8 + (4 + 11) + 0 ≤ 28 * (40 * n + 6) from om_651bdf9b58⟩ (List.range (mW ad N cI cZ cJ u71).length) (rg_map _) (mW_nd _ _ _ _ _ _) rfl rfl rfl rfl hl.1 rfl (Nat.le_of_ble_eq_true rfl) dX13_index_118 ⟨Nat.le_of_ble_eq_true rfl, Nat.le_of_ble_eq_true rfl⟩) hP hD hS hA (fun u76 H locs hw75 hP hD hS => ?_)
  obtain rfl := hw75
  have z78 : ((u71.1 0 43) + (1 : Int32)).toInt = ((u71.1 0 43).toInt) + 1 := add_z rfl (show (1 : Int32).toInt = 1 by decide) (om_b6bb9ac09d zfs pf8 q73 q74) (om_f7b5e64402 zfs z4 pf8 a11 q73 q74)
  have hP : va_P (dC, dI) vwCl (mW ad N cI cZ cJ (wA (wA (wA (wA u71 40 ((u71.1 0 43).toNatClampNeg) ((((u43.1 0 12) + (1 : Int32)) + (1 : Int32)) + (1 : Int32))) 41 ((u71.1 0 43).toNatClampNeg) pa) 42 ((u71.1 0 43).toNatClampNeg) (0 : Int32)) 0 43 ((u71.1 0 43) + (1 : Int32)))) H := hP
  have hD : va_D A (mW ad N cI cZ cJ (wA (wA (wA (wA u71 40 ((u71.1 0 43).toNatClampNeg) ((((u43.1 0 12) + (1 : Int32)) + (1 : Int32)) + (1 : Int32))) 41 ((u71.1 0 43).toNatClampNeg) pa) 42 ((u71.1 0 43).toNatClampNeg) (0 : Int32)) 0 43 ((u71.1 0 43) + (1 : Int32)))) := hD
  refine W.widen (k := 0) (n := 0) (Nat.le_refl _) (Nat.le_refl _) ?_
  refine lv_aload_n hx hb dX13_index_121 rfl (lv_at hl 1 rfl) ?_
  refine lv_iconst (v := 0) hx hb dX13_index_122 (by decide) ?_
  refine lv_iconst (v := 0) hx hb dX13_index_123 (by decide) ?_
  refine lv_bipush (v := 10) hx hb dX13_index_124 (by decide) ?_
  refine lv_bipush (v := 10) hx hb dX13_index_126 (by decide) ?_
  refine lv_bipush (v := 6) hx hb dX13_index_128 (by decide) ?_
  refine cu_s (mW_nd _ _ _ _ _ _) (rn_S (n := 5) (As := [.int 0, .int 0, .int 10, .int 10, .int 6]) (rest := [.ref (ad 0)]) hx hb hml hown ht hKK hFx hP hD hS hA (c_m_byR l dC dI cI cB cZ cJ cR tb H.size (0 : Int32) (0 : Int32) (10 : Int32) (10 : Int32) (6 : Int32) ) tw_67 tw_68 (by decide +kernel) rfl rfl ⟨show 0 + 1 ≤ 40 * n + 6 from om_19dfed8989, show 8 + (5 + 11) + 0 ≤ 28 * (40 * n + 6) from om_04b3c4a7b8⟩ [] rfl rfl rfl hl.1 rfl (Nat.le_of_ble_eq_true rfl) dX13_index_130 ⟨Nat.le_of_ble_eq_true rfl, Nat.le_of_ble_eq_true rfl⟩) hP hD hS hA (fun r81 H locs hw79 hP hD hS => ?_)
  refine W.widen (k := 0) (n := 0) (Nat.le_refl _) (Nat.le_refl _) ?_
  have q82 : (u71.1 0 12).toInt = ((((((u43.1 0 12).toInt) + 1) + 1) + 1) + 1) := by rw [hu72]; exact (show (((((u43.1 0 12) + (1 : Int32)) + (1 : Int32)) + (1 : Int32)) + (1 : Int32)).toInt = ((((((u43.1 0 12).toInt) + 1) + 1) + 1) + 1) from z70)
  refine cu_i (rn_V (n := 1) (As := [.int r81]) (rest := []) hx hb hml hown ht hKK hFx hP hD hS hA (c_m_emit l dC dI cI cB cZ cJ cR tb H.size ad N (wA (wA (wA (wA u71 40 ((u71.1 0 43).toNatClampNeg) ((((u43.1 0 12) + (1 : Int32)) + (1 : Int32)) + (1 : Int32))) 41 ((u71.1 0 43).toNatClampNeg) pa) 42 ((u71.1 0 43).toNatClampNeg) (0 : Int32)) 0 43 ((u71.1 0 43) + (1 : Int32))) r81 (show 0 ≤ (u71.1 0 12).toInt ∧ (u71.1 0 12).toInt < 24000 from (om_f63aa30660 zws z4 pw8 a11 q48 q82))) tw_8 tw_9 (by decide +kernel) rfl rfl ⟨show 0 + 1 ≤ 40 * n + 6 from om_19dfed8989, show 8 + (2 + 11) + 0 ≤ 28 * (40 * n + 6) from om_37bd887971⟩ (List.range (mW ad N cI cZ cJ (wA (wA (wA (wA u71 40 ((u71.1 0 43).toNatClampNeg) ((((u43.1 0 12) + (1 : Int32)) + (1 : Int32)) + (1 : Int32))) 41 ((u71.1 0 43).toNatClampNeg) pa) 42 ((u71.1 0 43).toNatClampNeg) (0 : Int32)) 0 43 ((u71.1 0 43) + (1 : Int32)))).length) (rg_map _) (mW_nd _ _ _ _ _ _) rfl rfl rfl rfl hl.1 rfl (Nat.le_of_ble_eq_true rfl) dX13_index_133 ⟨Nat.le_of_ble_eq_true rfl, Nat.le_of_ble_eq_true rfl⟩) hP hD hS hA (fun r85 u84 H locs hw83 hP hD hS => ?_)
  obtain ⟨rfl, rfl⟩ := hw83
  have z86 : ((u71.1 0 12) + (1 : Int32)).toInt = ((u71.1 0 12).toInt) + 1 := add_z rfl (show (1 : Int32).toInt = 1 by decide) (om_84682e7ffb zws pw8 q48 q82) (om_26a5ec9423 zws z4 pw8 a11 q48 q82)
  have hP : va_P (dC, dI) vwCl (mW ad N cI cZ cJ (wA (wA (wA (wA (wA (wA u71 40 ((u71.1 0 43).toNatClampNeg) ((((u43.1 0 12) + (1 : Int32)) + (1 : Int32)) + (1 : Int32))) 41 ((u71.1 0 43).toNatClampNeg) pa) 42 ((u71.1 0 43).toNatClampNeg) (0 : Int32)) 0 43 ((u71.1 0 43) + (1 : Int32))) 11 ((u71.1 0 12).toNatClampNeg) r81) 0 12 ((u71.1 0 12) + (1 : Int32)))) H := hP
  have hD : va_D A (mW ad N cI cZ cJ (wA (wA (wA (wA (wA (wA u71 40 ((u71.1 0 43).toNatClampNeg) ((((u43.1 0 12) + (1 : Int32)) + (1 : Int32)) + (1 : Int32))) 41 ((u71.1 0 43).toNatClampNeg) pa) 42 ((u71.1 0 43).toNatClampNeg) (0 : Int32)) 0 43 ((u71.1 0 43) + (1 : Int32))) 11 ((u71.1 0 12).toNatClampNeg) r81) 0 12 ((u71.1 0 12) + (1 : Int32)))) := hD
  refine tp_i (y := (u71.1 0 12)) (rfl) ?_
  refine W.widen (k := 0) (n := 0) (Nat.le_refl _) (Nat.le_refl _) ?_
  refine lv_pop hx hb dX13_index_136 rfl ?_
  refine lv_aload_n hx hb dX13_index_137 rfl (lv_at hl 1 rfl) ?_
  refine lv_iconst (v := 5) hx hb dX13_index_138 (by decide) ?_
  refine lv_iload_n hx hb dX13_index_139 rfl (lv_at hl 2 rfl) ?_
  have q87 : (u43.1 0 15).toInt = (u9.1 0 15).toInt := congrArg Int32.toInt (fr44.2.1 15 (by decide))
  have q88 : (u71.1 0 15).toInt = (u43.1 0 15).toInt := congrArg Int32.toInt (fr72.2.1 15 (by decide))
  refine cu_i (rn_V (n := 2) (As := [.int 5, .int pa]) (rest := []) hx hb hml hown ht hKK hFx hP hD hS hA (c_m_say l dC dI cI cB cZ cJ cR tb H.size ad N (wA (wA (wA (wA (wA (wA u71 40 ((u71.1 0 43).toNatClampNeg) ((((u43.1 0 12) + (1 : Int32)) + (1 : Int32)) + (1 : Int32))) 41 ((u71.1 0 43).toNatClampNeg) pa) 42 ((u71.1 0 43).toNatClampNeg) (0 : Int32)) 0 43 ((u71.1 0 43) + (1 : Int32))) 11 ((u71.1 0 12).toNatClampNeg) r81) 0 12 ((u71.1 0 12) + (1 : Int32))) (5 : Int32) pa (show 0 ≤ (u71.1 0 15).toInt ∧ (u71.1 0 15).toInt < 16000 from (om_3e587a17de zos z4 po8 a11 q87 q88))) tw_59 tw_60 (by decide +kernel) rfl rfl ⟨show 0 + 1 ≤ 40 * n + 6 from om_19dfed8989, show 8 + (3 + 11) + 0 ≤ 28 * (40 * n + 6) from om_bc89bc7b20⟩ (List.range (mW ad N cI cZ cJ (wA (wA (wA (wA (wA (wA u71 40 ((u71.1 0 43).toNatClampNeg) ((((u43.1 0 12) + (1 : Int32)) + (1 : Int32)) + (1 : Int32))) 41 ((u71.1 0 43).toNatClampNeg) pa) 42 ((u71.1 0 43).toNatClampNeg) (0 : Int32)) 0 43 ((u71.1 0 43) + (1 : Int32))) 11 ((u71.1 0 12).toNatClampNeg) r81) 0 12 ((u71.1 0 12) + (1 : Int32)))).length) (rg_map _) (mW_nd _ _ _ _ _ _) rfl rfl rfl rfl hl.1 rfl (Nat.le_of_ble_eq_true rfl) dX13_index_140 ⟨Nat.le_of_ble_eq_true rfl, Nat.le_of_ble_eq_true rfl⟩) hP hD hS hA (fun r91 u90 H locs hw89 hP hD hS => ?_)
  obtain ⟨rfl, rfl⟩ := hw89
  have z92 : ((u71.1 0 15) + (1 : Int32)).toInt = ((u71.1 0 15).toInt) + 1 := add_z rfl (show (1 : Int32).toInt = 1 by decide) (om_7f7f5862b6 zos po8 q87 q88) (om_2938052658 zos z4 po8 a11 q87 q88)
  have hP : va_P (dC, dI) vwCl (mW ad N cI cZ cJ (wA (wA (wA (wA (wA (wA (wA (wA (wA u71 40 ((u71.1 0 43).toNatClampNeg) ((((u43.1 0 12) + (1 : Int32)) + (1 : Int32)) + (1 : Int32))) 41 ((u71.1 0 43).toNatClampNeg) pa) 42 ((u71.1 0 43).toNatClampNeg) (0 : Int32)) 0 43 ((u71.1 0 43) + (1 : Int32))) 11 ((u71.1 0 12).toNatClampNeg) r81) 0 12 ((u71.1 0 12) + (1 : Int32))) 13 ((u71.1 0 15).toNatClampNeg) (5 : Int32)) 14 ((u71.1 0 15).toNatClampNeg) pa) 0 15 ((u71.1 0 15) + (1 : Int32)))) H := hP
  have hD : va_D A (mW ad N cI cZ cJ (wA (wA (wA (wA (wA (wA (wA (wA (wA u71 40 ((u71.1 0 43).toNatClampNeg) ((((u43.1 0 12) + (1 : Int32)) + (1 : Int32)) + (1 : Int32))) 41 ((u71.1 0 43).toNatClampNeg) pa) 42 ((u71.1 0 43).toNatClampNeg) (0 : Int32)) 0 43 ((u71.1 0 43) + (1 : Int32))) 11 ((u71.1 0 12).toNatClampNeg) r81) 0 12 ((u71.1 0 12) + (1 : Int32))) 13 ((u71.1 0 15).toNatClampNeg) (5 : Int32)) 14 ((u71.1 0 15).toNatClampNeg) pa) 0 15 ((u71.1 0 15) + (1 : Int32)))) := hD
  refine tp_i (y := (u71.1 0 15)) (rfl) ?_
  refine W.widen (k := 0) (n := 0) (Nat.le_refl _) (Nat.le_refl _) ?_
  obtain ⟨u93, hu94⟩ : ∃ z, z = (wA (wA (wA (wA (wA (wA (wA (wA (wA u71 40 ((u71.1 0 43).toNatClampNeg) ((((u43.1 0 12) + (1 : Int32)) + (1 : Int32)) + (1 : Int32))) 41 ((u71.1 0 43).toNatClampNeg) pa) 42 ((u71.1 0 43).toNatClampNeg) (0 : Int32)) 0 43 ((u71.1 0 43) + (1 : Int32))) 11 ((u71.1 0 12).toNatClampNeg) r81) 0 12 ((u71.1 0 12) + (1 : Int32))) 13 ((u71.1 0 15).toNatClampNeg) (5 : Int32)) 14 ((u71.1 0 15).toNatClampNeg) pa) 0 15 ((u71.1 0 15) + (1 : Int32))) := ⟨_, rfl⟩
  have fr94 : FG [12, 15, 43] [0, 11, 13, 14, 40, 41, 42] u71 u93 := by rw [hu94]; exact (FG.f (FG.a (FG.a (FG.f (FG.a (FG.f (FG.a (FG.a (FG.a (FG.rf _) ((u71.1 0 43).toNatClampNeg) ((((u43.1 0 12) + (1 : Int32)) + (1 : Int32)) + (1 : Int32)) (by decide) (by decide)) ((u71.1 0 43).toNatClampNeg) pa (by decide) (by decide)) ((u71.1 0 43).toNatClampNeg) (0 : Int32) (by decide) (by decide)) ((u71.1 0 43) + (1 : Int32)) (by decide)) ((u71.1 0 12).toNatClampNeg) r81 (by decide) (by decide)) ((u71.1 0 12) + (1 : Int32)) (by decide)) ((u71.1 0 15).toNatClampNeg) (5 : Int32) (by decide) (by decide)) ((u71.1 0 15).toNatClampNeg) pa (by decide) (by decide)) ((u71.1 0 15) + (1 : Int32)) (by decide))
  have kc94 : ∀ j : Nat, (j : Int) < (v.1 0 12).toInt → (u93.1 11) j = (v.1 11) j := by rw [hu94]; exact (fun (j9 : Nat) hj9 => (Eq.trans (pk_un3 (a := (u71.1 0 12).toInt) rfl (om_6465a24d53 zws pw8 q48 q82) (om_03de3ac16d pw8 q48 q82 hj9)) (kc72 j9 hj9)))
  have ko94 : ∀ j : Nat, (j : Int) < (v.1 0 15).toInt → (u93.1 13) j = (v.1 13) j := by rw [hu94]; exact (fun (j9 : Nat) hj9 => (Eq.trans (pk_un3 (a := (u71.1 0 15).toInt) rfl (om_84b9671de1 zos po8 q87 q88) (om_12d0209867 po8 q87 q88 hj9)) (Eq.trans (congrFun (fr72.2.2 13 (by decide)) j9) (Eq.trans (congrFun (fr44.2.2 13 (by decide)) j9) (ko8 j9 (om_4fe904e9bf hj9))))))
  have kg94 : ∀ j : Nat, (j : Int) < (v.1 0 15).toInt → (u93.1 14) j = (v.1 14) j := by rw [hu94]; exact (fun (j9 : Nat) hj9 => (Eq.trans (pk_un3 (a := (u71.1 0 15).toInt) rfl (om_84b9671de1 zos po8 q87 q88) (om_12d0209867 po8 q87 q88 hj9)) (Eq.trans (congrFun (fr72.2.2 14 (by decide)) j9) (Eq.trans (congrFun (fr44.2.2 14 (by decide)) j9) (kg8 j9 (om_4fe904e9bf hj9))))))
  rw [← hu94] at hP hD
  refine lv_pop hx hb dX13_index_143 rfl ?_
  have q95 : (u43.1 0 47).toInt = (((u9.1 0 47).toInt) + 1) := by rw [hu44]; exact (show ((u9.1 0 47) + (1 : Int32)).toInt = (((u9.1 0 47).toInt) + 1) from z14)
  have q96 : (u71.1 0 47).toInt = (u43.1 0 47).toInt := congrArg Int32.toInt (fr72.2.1 47 (by decide))
  have q97 : (u93.1 0 47).toInt = (u71.1 0 47).toInt := congrArg Int32.toInt (fr94.2.1 47 (by decide))
  have q98 : (u93.1 0 12).toInt = (((u71.1 0 12).toInt) + 1) := by rw [hu94]; exact (show ((u71.1 0 12) + (1 : Int32)).toInt = (((u71.1 0 12).toInt) + 1) from z86)
  have q99 : (u93.1 0 15).toInt = (((u71.1 0 15).toInt) + 1) := by rw [hu94]; exact (show ((u71.1 0 15) + (1 : Int32)).toInt = (((u71.1 0 15).toInt) + 1) from z92)
  have q100 : (u93.1 0 43).toInt = (((u71.1 0 43).toInt) + 1) := by rw [hu94]; exact (show ((u71.1 0 43) + (1 : Int32)).toInt = (((u71.1 0 43).toInt) + 1) from z78)
  have q101 : (u43.1 0 39).toInt = (u9.1 0 39).toInt := congrArg Int32.toInt (fr44.2.1 39 (by decide))
  have q102 : (u71.1 0 39).toInt = (u43.1 0 39).toInt := congrArg Int32.toInt (fr72.2.1 39 (by decide))
  have q103 : (u93.1 0 39).toInt = (u71.1 0 39).toInt := congrArg Int32.toInt (fr94.2.1 39 (by decide))
  have q104 : (u43.1 0 32).toInt = (u9.1 0 32).toInt := congrArg Int32.toInt (fr44.2.1 32 (by decide))
  have q105 : (u43.1 0 48).toInt = (((u9.1 0 48).toInt) - 1) := by rw [hu44]; exact (show ((u9.1 0 48) - (1 : Int32)).toInt = (((u9.1 0 48).toInt) - 1) from z15)
  have q106 : (u71.1 0 32).toInt = (u43.1 0 32).toInt := congrArg Int32.toInt (fr72.2.1 32 (by decide))
  have q107 : (u71.1 0 48).toInt = (u43.1 0 48).toInt := congrArg Int32.toInt (fr72.2.1 48 (by decide))
  have q108 : (u93.1 0 32).toInt = (u71.1 0 32).toInt := congrArg Int32.toInt (fr94.2.1 32 (by decide))
  have q109 : (u93.1 0 48).toInt = (u71.1 0 48).toInt := congrArg Int32.toInt (fr94.2.1 48 (by decide))
  have q110 : (u43.1 0 33).toInt = (u9.1 0 33).toInt := congrArg Int32.toInt (fr44.2.1 33 (by decide))
  have q111 : (u71.1 0 33).toInt = (u43.1 0 33).toInt := congrArg Int32.toInt (fr72.2.1 33 (by decide))
  have q112 : (u93.1 0 33).toInt = (u71.1 0 33).toInt := congrArg Int32.toInt (fr94.2.1 33 (by decide))
  refine vx_ret ?_
  exact W.vret hx hb hr (fun t ht9 hW => ⟨⟨u93, rfl, ⟨(FG.tr (FG.tr (FG.tr (FG.tr (FG.f (FG.f (FG.rf _) ((v.1 0 47) + (1 : Int32)) (by decide)) ((v.1 0 48) + (1 : Int32)) (by decide)) (FG.up fr8 (by decide) (by decide))) (FG.up fr44 (by decide) (by decide))) (FG.up fr72 (by decide) (by decide))) (FG.up fr94 (by decide) (by decide))), (show (v.1 0 47).toInt + 1 ≤ (u93.1 0 47).toInt ∧ (u93.1 0 47).toInt ≤ 1500 from (om_f3a5da3be8 z4 pt8 a11 q95 q96 q97)), (show (v.1 0 49).toInt ≠ (v.1 0 47).toInt from (om_32294a9ce4 c1)), (show (v.1 0 12).toInt ≤ (u93.1 0 12).toInt ∧ (u93.1 0 12).toInt - 15 * (u93.1 0 47).toInt ≤ (v.1 0 12).toInt - 15 * (v.1 0 47).toInt from (om_26bddb01c3 z4 pw8 q48 q95 q82 q96 q98 q97)), (show (v.1 0 15).toInt ≤ (u93.1 0 15).toInt ∧ (u93.1 0 15).toInt - 10 * (u93.1 0 47).toInt ≤ (v.1 0 15).toInt - 10 * (v.1 0 47).toInt from (om_30edf64970 z4 po8 q87 q95 q88 q96 q99 q97)), (show (v.1 0 43).toInt ≤ (u93.1 0 43).toInt ∧ (u93.1 0 43).toInt - 15 * (u93.1 0 47).toInt ≤ (v.1 0 43).toInt - 15 * (v.1 0 47).toInt from (om_ce7a5a4055 z4 pf8 q73 q95 q74 q96 q100 q97)), (show (v.1 0 39).toInt ≤ (u93.1 0 39).toInt ∧ (u93.1 0 39).toInt - 1 * (u93.1 0 47).toInt ≤ (v.1 0 39).toInt - 1 * (v.1 0 47).toInt from (om_a352363cdb z4 pk8 q101 q95 q102 q96 q103 q97)), (show (u93.1 0 32).toInt = (v.1 0 32).toInt ∧ (u93.1 0 48).toInt = (v.1 0 48).toInt from (om_24ac9cf41a z5 pp8 q104 q105 q106 q107 q108 q109)), (show (v.1 0 33).toInt ≤ (u93.1 0 33).toInt ∧ (u93.1 0 33).toInt ≤ 500 from (om_b0e74c87bc ph8 q110 q111 q112)), (fun (j9 : Nat) hj9 => (kc94 j9 hj9)), (fun (j9 : Nat) hj9 => (ko94 j9 hj9)), (fun (j9 : Nat) hj9 => (kg94 j9 hj9)), (show NI 35 u93 from NI.fr (fl := [12, 15, 43]) (al := [0, 11, 13, 14, 40, 41, 42]) fr94 (by decide) (show NI 35 u71 from NI.fr (fl := [12]) (al := [0, 11]) fr72 (by decide) (show NI 35 u43 from NI.fr (fl := [12, 47, 48]) (al := [0, 11]) fr44 (by decide) n358)))⟩, by rw [ht9]; exact hP, hD⟩, hS.F ht9⟩) hS.2.2 dX13_index_144
