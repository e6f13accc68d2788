theorem dX13_index_0 : decode cX13_index 0 = .ok (.aload_n 0, 1) := by decide +kernel
theorem dX13_index_1 : decode cX13_index 1 = .ok (.bipush 91, 2) := by decide +kernel
theorem dX13_index_3 : decode cX13_index 3 = .ok (.invokevirtual 281, 3) := by decide +kernel
theorem tw_78 : (.code yX13_open cX13_open 2 none : Cond) ∈ tw_W := tw_in (by decide +kernel) (by decide +kernel)
theorem tw_79 : ∀ w ∈ ([.methodLink RX13 281 yX13_open, .instanceMethod yX13_open, .selects RX13 yX13_open yX13_open, .initialized RX13] : List Cond), w ∈ tw_W := tw_all (by decide +kernel)
theorem dX13_index_6 : decode cX13_index 6 = .ok (.aload_n 0, 1) := by decide +kernel
theorem dX13_index_7 : decode cX13_index 7 = .ok (.invokevirtual 284, 3) := by decide +kernel
theorem tw_80 : (.code yX13_expression cX13_expression 1 none : Cond) ∈ tw_W := tw_in (by decide +kernel) (by decide +kernel)
theorem tw_81 : ∀ w ∈ ([.methodLink RX13 284 yX13_expression, .instanceMethod yX13_expression, .selects RX13 yX13_expression yX13_expression, .initialized RX13] : List Cond), w ∈ tw_W := tw_all (by decide +kernel)
theorem dX13_index_10 : decode cX13_index 10 = .ok (.aload_n 0, 1) := by decide +kernel
theorem dX13_index_11 : decode cX13_index 11 = .ok (.bipush 93, 2) := by decide +kernel
theorem dX13_index_13 : decode cX13_index 13 = .ok (.invokevirtual 287, 3) := by decide +kernel
theorem tw_82 : (.code yX13_close cX13_close 2 none : Cond) ∈ tw_W := tw_in (by decide +kernel) (by decide +kernel)
theorem tw_83 : ∀ w ∈ ([.methodLink RX13 287 yX13_close, .instanceMethod yX13_close, .selects RX13 yX13_close yX13_close, .initialized RX13] : List Cond), w ∈ tw_W := tw_all (by decide +kernel)
theorem dX13_index_16 : decode cX13_index 16 = .ok (.aload_n 0, 1) := by decide +kernel
theorem dX13_index_17 : decode cX13_index 17 = .ok (.getfield 290, 3) := by decide +kernel
theorem tw_84 : (.fieldLink RX13 290 "PocketCompilerModel" "gMany" "[I" : Cond) ∈ tw_W := tw_in (by decide +kernel) (by decide +kernel)
theorem dX13_index_20 : decode cX13_index 20 = .ok (.iload_n 1, 1) := by decide +kernel
theorem dX13_index_21 : decode cX13_index 21 = .ok (.iaload, 1) := by decide +kernel
theorem dX13_index_22 : decode cX13_index 22 = .ok (.istore_n 2, 1) := by decide +kernel
theorem dX13_index_23 : decode cX13_index 23 = .ok (.aload_n 0, 1) := by decide +kernel
theorem dX13_index_24 : decode cX13_index 24 = .ok (.bipush 6, 2) := by decide +kernel
theorem dX13_index_26 : decode cX13_index 26 = .ok (.iload_n 2, 1) := by decide +kernel
theorem dX13_index_27 : decode cX13_index 27 = .ok (.invokestatic 94, 3) := by decide +kernel
theorem dX13_index_30 : decode cX13_index 30 = .ok (.invokestatic 223, 3) := by decide +kernel
theorem dX13_index_33 : decode cX13_index 33 = .ok (.invokevirtual 111, 3) := by decide +kernel
theorem dX13_index_36 : decode cX13_index 36 = .ok (.pop, 1) := by decide +kernel
theorem dX13_index_37 : decode cX13_index 37 = .ok (.aload_n 0, 1) := by decide +kernel
theorem dX13_index_38 : decode cX13_index 38 = .ok (.bipush 6, 2) := by decide +kernel
theorem dX13_index_40 : decode cX13_index 40 = .ok (.bipush 6, 2) := by decide +kernel
theorem dX13_index_42 : decode cX13_index 42 = .ok (.iload_n 2, 1) := by decide +kernel
theorem dX13_index_43 : decode cX13_index 43 = .ok (.invokestatic 226, 3) := by decide +kernel
theorem dX13_index_46 : decode cX13_index 46 = .ok (.invokestatic 219, 3) := by decide +kernel
theorem dX13_index_49 : decode cX13_index 49 = .ok (.invokevirtual 111, 3) := by decide +kernel
theorem dX13_index_52 : decode cX13_index 52 = .ok (.pop, 1) := by decide +kernel
theorem dX13_index_53 : decode cX13_index 53 = .ok (.aload_n 0, 1) := by decide +kernel
theorem dX13_index_54 : decode cX13_index 54 = .ok (.bipush 6, 2) := by decide +kernel
theorem dX13_index_56 : decode cX13_index 56 = .ok (.bipush 10, 2) := by decide +kernel
theorem dX13_index_58 : decode cX13_index 58 = .ok (.bipush 6, 2) := by decide +kernel
theorem dX13_index_60 : decode cX13_index 60 = .ok (.bipush 12, 2) := by decide +kernel
theorem dX13_index_62 : decode cX13_index 62 = .ok (.invokestatic 293, 3) := by decide +kernel
theorem tw_85 : (.code yX13_byB cX13_byB 4 (some .int) : Cond) ∈ tw_W := tw_in (by decide +kernel) (by decide +kernel)
theorem tw_86 : ∀ w ∈ ([.methodLink RX13 293 yX13_byB, .static yX13_byB, .initialized yX13_byB.cls] : List Cond), w ∈ tw_W := tw_all (by decide +kernel)
theorem dX13_index_65 : decode cX13_index 65 = .ok (.invokevirtual 111, 3) := by decide +kernel
theorem dX13_index_68 : decode cX13_index 68 = .ok (.pop, 1) := by decide +kernel
theorem dX13_index_69 : decode cX13_index 69 = .ok (.aload_n 0, 1) := by decide +kernel
theorem dX13_index_70 : decode cX13_index 70 = .ok (.bipush 17, 2) := by decide +kernel
theorem dX13_index_72 : decode cX13_index 72 = .ok (.iconst 0, 1) := by decide +kernel
theorem dX13_index_73 : decode cX13_index 73 = .ok (.iconst 3, 1) := by decide +kernel
theorem dX13_index_74 : decode cX13_index 74 = .ok (.invokestatic 219, 3) := by decide +kernel
theorem dX13_index_77 : decode cX13_index 77 = .ok (.invokevirtual 111, 3) := by decide +kernel
theorem dX13_index_80 : decode cX13_index 80 = .ok (.pop, 1) := by decide +kernel
theorem dX13_index_81 : decode cX13_index 81 = .ok (.aload_n 0, 1) := by decide +kernel
theorem dX13_index_82 : decode cX13_index 82 = .ok (.ldc_w 297, 3) := by decide +kernel
theorem tw_87 : (.constant RX13 297 (1048691) : Cond) ∈ tw_W := tw_in (by decide +kernel) (by decide +kernel)
theorem dX13_index_85 : decode cX13_index 85 = .ok (.invokevirtual 111, 3) := by decide +kernel
theorem dX13_index_88 : decode cX13_index 88 = .ok (.pop, 1) := by decide +kernel
theorem dX13_index_89 : decode cX13_index 89 = .ok (.aload_n 0, 1) := by decide +kernel
theorem dX13_index_90 : decode cX13_index 90 = .ok (.bipush 19, 2) := by decide +kernel
theorem dX13_index_92 : decode cX13_index 92 = .ok (.iconst 1, 1) := by decide +kernel
theorem dX13_index_93 : decode cX13_index 93 = .ok (.bipush 10, 2) := by decide +kernel
theorem dX13_index_95 : decode cX13_index 95 = .ok (.bipush 10, 2) := by decide +kernel
theorem dX13_index_97 : decode cX13_index 97 = .ok (.iconst 2, 1) := by decide +kernel
theorem dX13_index_98 : decode cX13_index 98 = .ok (.invokestatic 97, 3) := by decide +kernel
theorem dX13_index_101 : decode cX13_index 101 = .ok (.invokevirtual 111, 3) := by decide +kernel
theorem dX13_index_104 : decode cX13_index 104 = .ok (.pop, 1) := by decide +kernel
theorem dX13_index_105 : decode cX13_index 105 = .ok (.aload_n 0, 1) := by decide +kernel
theorem dX13_index_106 : decode cX13_index 106 = .ok (.aload_n 0, 1) := by decide +kernel
theorem dX13_index_107 : decode cX13_index 107 = .ok (.bipush 6, 2) := by decide +kernel
theorem dX13_index_109 : decode cX13_index 109 = .ok (.iconst 0, 1) := by decide +kernel
theorem dX13_index_110 : decode cX13_index 110 = .ok (.invokestatic 223, 3) := by decide +kernel
theorem dX13_index_113 : decode cX13_index 113 = .ok (.invokevirtual 111, 3) := by decide +kernel
theorem dX13_index_116 : decode cX13_index 116 = .ok (.iload_n 1, 1) := by decide +kernel
theorem dX13_index_117 : decode cX13_index 117 = .ok (.iconst 0, 1) := by decide +kernel
theorem dX13_index_118 : decode cX13_index 118 = .ok (.invokevirtual 216, 3) := by decide +kernel
theorem dX13_index_121 : decode cX13_index 121 = .ok (.aload_n 0, 1) := by decide +kernel
theorem dX13_index_122 : decode cX13_index 122 = .ok (.iconst 0, 1) := by decide +kernel
theorem dX13_index_123 : decode cX13_index 123 = .ok (.iconst 0, 1) := by decide +kernel
theorem dX13_index_124 : decode cX13_index 124 = .ok (.bipush 10, 2) := by decide +kernel
theorem dX13_index_126 : decode cX13_index 126 = .ok (.bipush 10, 2) := by decide +kernel
theorem dX13_index_128 : decode cX13_index 128 = .ok (.bipush 6, 2) := by decide +kernel
theorem dX13_index_130 : decode cX13_index 130 = .ok (.invokestatic 213, 3) := by decide +kernel
theorem dX13_index_133 : decode cX13_index 133 = .ok (.invokevirtual 111, 3) := by decide +kernel
theorem dX13_index_136 : decode cX13_index 136 = .ok (.pop, 1) := by decide +kernel
theorem dX13_index_137 : decode cX13_index 137 = .ok (.aload_n 0, 1) := by decide +kernel
theorem dX13_index_138 : decode cX13_index 138 = .ok (.iconst 5, 1) := by decide +kernel
theorem dX13_index_139 : decode cX13_index 139 = .ok (.iload_n 1, 1) := by decide +kernel
theorem dX13_index_140 : decode cX13_index 140 = .ok (.invokevirtual 210, 3) := by decide +kernel
theorem dX13_index_143 : decode cX13_index 143 = .ok (.pop, 1) := by decide +kernel
theorem dX13_index_144 : decode cX13_index 144 = .ok (.return_, 1) := by decide +kernel
def Cx_expression (l : Launch) (n : Nat) : Prop := ∀ (dC : Nat → ClassId) (dI : Nat → Nat → Nat) (cI cB cZ cJ cR : ClassId) (tb : Nat → Nat) (sz : Nat) (ad : Nat → Nat) (N : Nat) (v : MS)  (zn : 40 ≤ (v.1 0 48).toInt + (n : Int)) (zt : 0 ≤ (v.1 0 47).toInt ∧ (v.1 0 47).toInt ≤ 1500) (zop : 0 ≤ (v.1 0 48).toInt ∧ (v.1 0 48).toInt ≤ 40) (zkn : 0 ≤ (v.1 0 30).toInt ∧ (v.1 0 30).toInt ≤ 500) (zhi : 0 ≤ (v.1 0 33).toInt ∧ (v.1 0 33).toInt ≤ 500) (zs : 0 ≤ (v.1 0 32).toInt ∧ (v.1 0 30).toInt + (v.1 0 32).toInt ≤ (v.1 0 33).toInt) (zws : 0 ≤ (v.1 0 12).toInt ∧ (v.1 0 12).toInt ≤ 15 * (v.1 0 47).toInt + 2) (zos : 0 ≤ (v.1 0 15).toInt ∧ (v.1 0 15).toInt ≤ 10 * (v.1 0 47).toInt + 0) (zfs : 0 ≤ (v.1 0 43).toInt ∧ (v.1 0 43).toInt ≤ 15 * (v.1 0 47).toInt + 0) (zcs : 0 ≤ (v.1 0 39).toInt ∧ (v.1 0 39).toInt ≤ 1 * (v.1 0 47).toInt + 0) (zgl : 0 ≤ (v.1 0 27).toInt ∧ (v.1 0 27).toInt ≤ 60) (hT : TI v) (a29 : AR 29 0 1500 v) (a23 : AR 23 0 1500 v) (a35 : AR 35 0 1500 v) (a37 : AR 37 0 23999 v) (a38 : AR 38 0 15999 v) (a40 : AR 40 0 23999 v) (fx : FX v), vx_Met l yX13_expression (Cond.code yX13_expression cX13_expression 1 none :: tw_W) ({ frames := 40 * n + 36, cells := 0, slots := 0, locals := 28 * (40 * n + 36) }) (pc_ (dC, dI) (tyS cI cB cZ cJ cR) tb (mW ad N cI cZ cJ v) sz [.ref (ad 0)]) (qv_ (dC, dI) (mW ad N cI cZ cJ v) sz (fun (u : MS) => FG [12, 15, 32, 33, 39, 43, 44, 45, 47, 48, 49, 50, 51] [0, 11, 13, 14, 35, 36, 37, 38, 40, 41, 42] v u ∧ ((v.1 0 47).toInt + 1 ≤ (u.1 0 47).toInt ∧ (u.1 0 47).toInt ≤ 1500) ∧ ((v.1 0 49).toInt ≠ (v.1 0 47).toInt) ∧ ((v.1 0 12).toInt ≤ (u.1 0 12).toInt ∧ (u.1 0 12).toInt - 15 * (u.1 0 47).toInt ≤ (v.1 0 12).toInt - 15 * (v.1 0 47).toInt) ∧ ((v.1 0 15).toInt ≤ (u.1 0 15).toInt ∧ (u.1 0 15).toInt - 10 * (u.1 0 47).toInt ≤ (v.1 0 15).toInt - 10 * (v.1 0 47).toInt) ∧ ((v.1 0 43).toInt ≤ (u.1 0 43).toInt ∧ (u.1 0 43).toInt - 15 * (u.1 0 47).toInt ≤ (v.1 0 43).toInt - 15 * (v.1 0 47).toInt) ∧ ((v.1 0 39).toInt ≤ (u.1 0 39).toInt ∧ (u.1 0 39).toInt - 1 * (u.1 0 47).toInt ≤ (v.1 0 39).toInt - 1 * (v.1 0 47).toInt) ∧ ((u.1 0 32).toInt = (v.1 0 32).toInt ∧ (u.1 0 48).toInt = (v.1 0 48).toInt) ∧ ((v.1 0 33).toInt ≤ (u.1 0 33).toInt ∧ (u.1 0 33).toInt ≤ 500) ∧ (∀ j : Nat, (j : Int) < (v.1 0 12).toInt → (u.1 11) j = (v.1 11) j) ∧ (∀ j : Nat, (j : Int) < (v.1 0 15).toInt → (u.1 13) j = (v.1 13) j) ∧ (∀ j : Nat, (j : Int) < (v.1 0 15).toInt → (u.1 14) j = (v.1 14) j) ∧ (AR 35 0 1500 u) ∧ (AR 37 0 23999 u) ∧ (AR 38 0 15999 u) ∧ (AR 40 0 23999 u) ∧ (FX u)) (fun (u : MS) => (mW ad N cI cZ cJ u))) (qxm (dC, dI) (mW ad N cI cZ cJ v) sz (fun (u : MS) => (mW ad N cI cZ cJ u)) (fun (u : MS) => Fr v u)) 0 0 (va_A (mW ad N cI cZ cJ v) sz)
theorem om_2fb699b811 {x0 x1 : Int} (h0 : 0 ≤ x0 ∧ x0 ≤ 1500) (h1 : 0 ≤ x1 ∧ x1 ≤ 15 * x0 + 0) : 0 ≤ x0 ∧ x0 ≤ 1500 := by omega
theorem om_c9931a82b5 {n0 : Nat} : 3 + 1 ≤ 40 * n0 + 6 := by omega
theorem om_207cd7ffe4 {n0 : Nat} : 8 + (2 + 11) + 62 ≤ 28 * (40 * n0 + 6) := by omega
theorem om_3eca9b17a5 {x0 x1 : Int} (h0 : 0 ≤ x0 ∧ x0 ≤ 15 * x1 + 2) : -2147483648 ≤ (x1) + (1 : Int) := by omega
theorem om_78b28660f8 {x0 : Int} {n1 : Nat} (h0 : 40 ≤ x0 + (n1 : Int)) (h1 : x0 < 40) : 1 ≤ (n1 : Int) := by omega
theorem om_43cb5bce6b {x0 x2 : Int} {n1 n3 : Nat} (h0 : 40 ≤ x0 + (n1 : Int)) (h1 : x2 = (x0) + (1 : Int)) (h2 : n1 = n3 + 1) : 40 ≤ x2 + (n3 : Int) := by omega
theorem om_cae3a623a5 {x0 x1 x2 : Int} (h0 : 0 ≤ x0 ∧ x0 ≤ 15 * x1 + 0) (h1 : x2 = (x1) + (1 : Int)) (h2 : x1 < 1500) : 0 ≤ x2 ∧ x2 ≤ 1500 := by omega
theorem om_4c33377394 {x0 x1 : Int} (h0 : 0 ≤ x0 ∧ x0 ≤ 40) (h1 : x1 = (x0) + (1 : Int)) (h2 : x0 < 40) : 0 ≤ x1 ∧ x1 ≤ 40 := by omega
theorem om_9861e69da5 {x0 : Int} (h0 : 0 ≤ x0 ∧ x0 ≤ 500) : 0 ≤ x0 ∧ x0 ≤ 500 := by omega
theorem om_f541e4003c {x0 x1 x2 : Int} (h0 : 0 ≤ x0 ∧ x1 + x0 ≤ x2) : 0 ≤ x0 ∧ x1 + x0 ≤ x2 := by omega
theorem om_3894ab1223 {x0 x1 x2 : Int} (h0 : 0 ≤ x0 ∧ x0 ≤ 15 * x1 + 2) (h1 : x2 = (x1) + (1 : Int)) : 0 ≤ x0 ∧ x0 ≤ 15 * x2 + 2 := by omega
theorem om_9a74738aa2 {x0 x1 x2 : Int} (h0 : 0 ≤ x0 ∧ x0 ≤ 10 * x1 + 0) (h1 : x2 = (x1) + (1 : Int)) : 0 ≤ x0 ∧ x0 ≤ 10 * x2 + 0 := by omega
theorem om_434df26a0f {x0 x1 x2 : Int} (h0 : 0 ≤ x0 ∧ x0 ≤ 15 * x1 + 0) (h1 : x2 = (x1) + (1 : Int)) : 0 ≤ x0 ∧ x0 ≤ 15 * x2 + 0 := by omega
theorem om_3840c96ead {x0 x1 x2 : Int} (h0 : 0 ≤ x0 ∧ x0 ≤ 1 * x1 + 0) (h1 : x2 = (x1) + (1 : Int)) : 0 ≤ x0 ∧ x0 ≤ 1 * x2 + 0 := by omega
theorem om_1d2c7ad648 {x0 : Int} (h0 : 0 ≤ x0 ∧ x0 ≤ 60) : 0 ≤ x0 ∧ x0 ≤ 60 := by omega
theorem om_a8c331ff68 {n0 n1 : Nat} (h0 : n0 = n1 + 1) : (40 * n1 + 36) + 1 ≤ 40 * n0 + 6 := by omega
theorem om_93090b8001 {n0 n1 : Nat} (h0 : n0 = n1 + 1) : 8 + (1 + 11) + 28 * (40 * n1 + 36) ≤ 28 * (40 * n0 + 6) := by omega
theorem om_f8d5b5379a {x0 x1 x2 x3 x4 x5 : Int} (h0 : 0 ≤ x0 ∧ x0 ≤ 15 * x1 + 0) (h1 : x2 = (x1) + (1 : Int)) (h2 : x2 + 1 ≤ x3 ∧ x3 ≤ 1500) (h3 : x4 ≤ x5 ∧ x5 - 15 * x3 ≤ x4 - 15 * x2) : 0 ≤ x3 ∧ x3 ≤ 1500 := by omega
theorem om_53f619227e {x0 x1 x2 x3 x4 : Int} (h0 : 0 ≤ x0 ∧ x0 ≤ 40) (h1 : x1 = (x0) + (1 : Int)) (h2 : x0 < 40) (h3 : x2 = x3 ∧ x4 = x1) : 0 ≤ x4 ∧ x4 ≤ 40 := by omega
theorem om_de350190fe {n0 : Nat} : 8 + (2 + 11) + 64 ≤ 28 * (40 * n0 + 6) := by omega
theorem om_5ca5acb3cb {x0 x1 x2 x3 x4 : Int} (h0 : 0 ≤ x0 ∧ x0 ≤ 15 * x1 + 2) (h1 : x2 = (x1) + (1 : Int)) (h2 : x0 ≤ x3 ∧ x3 - 15 * x4 ≤ x0 - 15 * x2) : -2147483648 ≤ (x4) + (1 : Int) := by omega
theorem om_3c2140d515 {x0 x1 : Int} (h0 : x0 + 1 ≤ x1 ∧ x1 ≤ 1500) : (x1) + (1 : Int) < 2147483648 := by omega
theorem om_32962d0667 {x0 x1 x2 x3 x4 : Int} (h0 : 0 ≤ x0 ∧ x0 ≤ 40) (h1 : x1 = (x0) + (1 : Int)) (h2 : x2 = x3 ∧ x4 = x1) : -2147483648 ≤ (x4) - (1 : Int) := by omega
theorem om_d0370bb848 {x0 x1 x2 x3 x4 : Int} (h0 : x0 = (x1) + (1 : Int)) (h1 : x1 < 40) (h2 : x2 = x3 ∧ x4 = x0) : (x4) - (1 : Int) < 2147483648 := by omega
theorem om_6853c8734e {x0 : Int} (h0 : 0 ≤ x0 ∧ x0 < 60) : 0 ≤ x0 := by omega
theorem om_00b21bb66e {x0 : Int} (h0 : 0 ≤ x0 ∧ x0 < 60) : x0 < 60 := by omega
theorem om_19dfed8989 {n0 : Nat} : 0 + 1 ≤ 40 * n0 + 6 := by omega
theorem om_213884e4e8 {n0 : Nat} : 8 + (1 + 11) + 0 ≤ 28 * (40 * n0 + 6) := by omega
theorem om_37bd887971 {n0 : Nat} : 8 + (2 + 11) + 0 ≤ 28 * (40 * n0 + 6) := by omega
theorem om_55a8913a11 {x0 x1 x2 x3 x4 : Int} (h0 : 0 ≤ x0 ∧ x0 ≤ 15 * x1 + 2) (h1 : x2 = (x1) + (1 : Int)) (h2 : x0 ≤ x3 ∧ x3 - 15 * x4 ≤ x0 - 15 * x2) (h3 : x4 < 1500) : 0 ≤ x3 ∧ x3 < 24000 := by omega
theorem om_6ad47c49ef {x0 x1 x2 x3 x4 : Int} (h0 : 0 ≤ x0 ∧ x0 ≤ 15 * x1 + 2) (h1 : x0 ≤ x2 ∧ x2 - 15 * x3 ≤ x0 - 15 * x4) : -2147483648 ≤ (x2) + (1 : Int) := by omega
theorem om_63f64170b2 {x0 x1 x2 x3 x4 : Int} (h0 : 0 ≤ x0 ∧ x0 ≤ 15 * x1 + 2) (h1 : x2 = (x1) + (1 : Int)) (h2 : x0 ≤ x3 ∧ x3 - 15 * x4 ≤ x0 - 15 * x2) (h3 : x4 < 1500) : (x3) + (1 : Int) < 2147483648 := by omega
theorem om_aa70640b3b {n0 : Nat} : 1 + 1 ≤ 40 * n0 + 6 := by omega
theorem om_949877a014 {n0 : Nat} : 8 + (1 + 11) + 20 ≤ 28 * (40 * n0 + 6) := by omega
theorem om_6539950522 {n0 : Nat} : 8 + (3 + 11) + 24 ≤ 28 * (40 * n0 + 6) := by omega
theorem om_0ad2150744 {x0 x1 x2 x3 x4 x5 : Int} (h0 : 0 ≤ x0 ∧ x0 ≤ 15 * x1 + 2) (h1 : x2 = (x1) + (1 : Int)) (h2 : x0 ≤ x3 ∧ x3 - 15 * x4 ≤ x0 - 15 * x2) (h3 : x4 < 1500) (h4 : x5 = (x3) + (1 : Int)) : 0 ≤ x5 ∧ x5 < 24000 := by omega
theorem om_9f1d4b4767 {x0 x1 x2 x3 x4 : Int} (h0 : 0 ≤ x0 ∧ x0 ≤ 15 * x1 + 2) (h1 : x0 ≤ x2 ∧ x2 - 15 * x3 ≤ x0 - 15 * x4) : -2147483648 ≤ ((x2) + (1 : Int)) + (1 : Int) := by omega
theorem om_8075859d27 {x0 x1 x2 x3 x4 : Int} (h0 : 0 ≤ x0 ∧ x0 ≤ 15 * x1 + 2) (h1 : x2 = (x1) + (1 : Int)) (h2 : x0 ≤ x3 ∧ x3 - 15 * x4 ≤ x0 - 15 * x2) (h3 : x4 < 1500) : ((x3) + (1 : Int)) + (1 : Int) < 2147483648 := by omega
theorem om_651bdf9b58 {n0 : Nat} : 8 + (4 + 11) + 0 ≤ 28 * (40 * n0 + 6) := by omega
theorem om_9a920d7062 {x0 x1 x2 x3 x4 x5 : Int} (h0 : 0 ≤ x0 ∧ x0 ≤ 15 * x1 + 2) (h1 : x2 = (x1) + (1 : Int)) (h2 : x0 ≤ x3 ∧ x3 - 15 * x4 ≤ x0 - 15 * x2) (h3 : x4 < 1500) (h4 : x5 = ((x3) + (1 : Int)) + (1 : Int)) : 0 ≤ x5 ∧ x5 < 24000 := by omega
theorem om_e8ab5ca21e {x0 x1 x2 x3 x4 : Int} (h0 : 0 ≤ x0 ∧ x0 ≤ 15 * x1 + 2) (h1 : x0 ≤ x2 ∧ x2 - 15 * x3 ≤ x0 - 15 * x4) : -2147483648 ≤ (((x2) + (1 : Int)) + (1 : Int)) + (1 : Int) := by omega
theorem om_dc13ee2871 {x0 x1 x2 x3 x4 : Int} (h0 : 0 ≤ x0 ∧ x0 ≤ 15 * x1 + 2) (h1 : x2 = (x1) + (1 : Int)) (h2 : x0 ≤ x3 ∧ x3 - 15 * x4 ≤ x0 - 15 * x2) (h3 : x4 < 1500) : (((x3) + (1 : Int)) + (1 : Int)) + (1 : Int) < 2147483648 := by omega
theorem om_a9e3b64a24 {x0 x1 x2 x3 x4 x5 : Int} (h0 : 0 ≤ x0 ∧ x0 ≤ 15 * x1 + 2) (h1 : x0 ≤ x2 ∧ x2 - 15 * x3 ≤ x0 - 15 * x4) (h2 : x5 = ((x2) + (1 : Int)) + (1 : Int)) : 0 ≤ x5 := by omega
theorem om_5fefeb2cb4 {x0 x1 x2 x3 x4 : Int} {n5 : Nat} (h0 : x0 ≤ x1 ∧ x1 - 15 * x2 ≤ x0 - 15 * x3) (h1 : x4 = ((x1) + (1 : Int)) + (1 : Int)) (h2 : (n5 : Int) < x0) : (n5 : Int) < x4 := by omega
theorem om_4e148700c2 {x0 x1 x2 x3 x4 x5 : Int} (h0 : 0 ≤ x0 ∧ x0 ≤ 15 * x1 + 2) (h1 : x0 ≤ x2 ∧ x2 - 15 * x3 ≤ x0 - 15 * x4) (h2 : x5 = (x2) + (1 : Int)) : 0 ≤ x5 := by omega
theorem om_54b5b4d853 {x0 x1 x2 x3 x4 : Int} {n5 : Nat} (h0 : x0 ≤ x1 ∧ x1 - 15 * x2 ≤ x0 - 15 * x3) (h1 : x4 = (x1) + (1 : Int)) (h2 : (n5 : Int) < x0) : (n5 : Int) < x4 := by omega
theorem om_1ce1b92b31 {x0 x1 x2 x3 x4 : Int} (h0 : 0 ≤ x0 ∧ x0 ≤ 15 * x1 + 2) (h1 : x0 ≤ x2 ∧ x2 - 15 * x3 ≤ x0 - 15 * x4) : 0 ≤ x2 := by omega
theorem om_e81726c0b3 {x0 x1 x2 x3 : Int} {n4 : Nat} (h0 : x0 ≤ x1 ∧ x1 - 15 * x2 ≤ x0 - 15 * x3) (h1 : (n4 : Int) < x0) : (n4 : Int) < x1 := by omega
theorem om_34220ea4a8 {x0 x1 x2 x3 x4 x5 : Int} (h0 : 0 ≤ x0 ∧ x0 ≤ 15 * x1 + 2) (h1 : x2 = (x1) + (1 : Int)) (h2 : x0 ≤ x3 ∧ x3 - 15 * x4 ≤ x0 - 15 * x2) (h3 : x4 < 1500) (h4 : x5 = ((((x3) + (1 : Int)) + (1 : Int)) + (1 : Int))) : 0 ≤ x5 ∧ x5 < 24000 := by omega
theorem om_f9acfe2162 {x0 x1 x2 x3 x4 x5 : Int} (h0 : 0 ≤ x0 ∧ x0 ≤ 15 * x1 + 2) (h1 : x0 ≤ x2 ∧ x2 - 15 * x3 ≤ x0 - 15 * x4) (h2 : x5 = ((((x2) + (1 : Int)) + (1 : Int)) + (1 : Int))) : -2147483648 ≤ (x5) + (1 : Int) := by omega
theorem om_10e5695ea8 {x0 x1 x2 x3 x4 x5 : Int} (h0 : 0 ≤ x0 ∧ x0 ≤ 15 * x1 + 2) (h1 : x2 = (x1) + (1 : Int)) (h2 : x0 ≤ x3 ∧ x3 - 15 * x4 ≤ x0 - 15 * x2) (h3 : x4 < 1500) (h4 : x5 = ((((x3) + (1 : Int)) + (1 : Int)) + (1 : Int))) : (x5) + (1 : Int) < 2147483648 := by omega
theorem om_f522c75c8d {x0 x1 x2 x3 x4 x5 x6 : Int} (h0 : 0 ≤ x0 ∧ x0 ≤ 15 * x1 + 2) (h1 : x2 = (x1) + (1 : Int)) (h2 : x0 ≤ x3 ∧ x3 - 15 * x4 ≤ x0 - 15 * x2) (h3 : x4 < 1500) (h4 : x5 = ((((x3) + (1 : Int)) + (1 : Int)) + (1 : Int))) (h5 : x6 = (x5) + (1 : Int)) : 0 ≤ x6 ∧ x6 < 24000 := by omega
theorem om_583cf2a6ad {x0 x1 x2 x3 x4 x5 : Int} (h0 : 0 ≤ x0 ∧ x0 ≤ 15 * x1 + 2) (h1 : x0 ≤ x2 ∧ x2 - 15 * x3 ≤ x0 - 15 * x4) (h2 : x5 = ((((x2) + (1 : Int)) + (1 : Int)) + (1 : Int))) : -2147483648 ≤ ((x5) + (1 : Int)) + (1 : Int) := by omega
theorem om_a15d4e4e0c {x0 x1 x2 x3 x4 x5 : Int} (h0 : 0 ≤ x0 ∧ x0 ≤ 15 * x1 + 2) (h1 : x2 = (x1) + (1 : Int)) (h2 : x0 ≤ x3 ∧ x3 - 15 * x4 ≤ x0 - 15 * x2) (h3 : x4 < 1500) (h4 : x5 = ((((x3) + (1 : Int)) + (1 : Int)) + (1 : Int))) : ((x5) + (1 : Int)) + (1 : Int) < 2147483648 := by omega
theorem om_04b3c4a7b8 {n0 : Nat} : 8 + (5 + 11) + 0 ≤ 28 * (40 * n0 + 6) := by omega
theorem om_f21bae0533 {x0 x1 x2 x3 x4 x5 x6 : Int} (h0 : 0 ≤ x0 ∧ x0 ≤ 15 * x1 + 2) (h1 : x2 = (x1) + (1 : Int)) (h2 : x0 ≤ x3 ∧ x3 - 15 * x4 ≤ x0 - 15 * x2) (h3 : x4 < 1500) (h4 : x5 = ((((x3) + (1 : Int)) + (1 : Int)) + (1 : Int))) (h5 : x6 = ((x5) + (1 : Int)) + (1 : Int)) : 0 ≤ x6 ∧ x6 < 24000 := by omega
theorem om_0ac7380949 {x0 x1 x2 x3 x4 x5 : Int} (h0 : 0 ≤ x0 ∧ x0 ≤ 15 * x1 + 2) (h1 : x0 ≤ x2 ∧ x2 - 15 * x3 ≤ x0 - 15 * x4) (h2 : x5 = ((((x2) + (1 : Int)) + (1 : Int)) + (1 : Int))) : -2147483648 ≤ (((x5) + (1 : Int)) + (1 : Int)) + (1 : Int) := by omega
theorem om_4c88881151 {x0 x1 x2 x3 x4 x5 : Int} (h0 : 0 ≤ x0 ∧ x0 ≤ 15 * x1 + 2) (h1 : x2 = (x1) + (1 : Int)) (h2 : x0 ≤ x3 ∧ x3 - 15 * x4 ≤ x0 - 15 * x2) (h3 : x4 < 1500) (h4 : x5 = ((((x3) + (1 : Int)) + (1 : Int)) + (1 : Int))) : (((x5) + (1 : Int)) + (1 : Int)) + (1 : Int) < 2147483648 := by omega
theorem om_db1e806a22 {x0 x1 x2 x3 x4 x5 x6 : Int} (h0 : 0 ≤ x0 ∧ x0 ≤ 15 * x1 + 2) (h1 : x2 = (x1) + (1 : Int)) (h2 : x0 ≤ x3 ∧ x3 - 15 * x4 ≤ x0 - 15 * x2) (h3 : x4 < 1500) (h4 : x5 = ((((x3) + (1 : Int)) + (1 : Int)) + (1 : Int))) (h5 : x6 = (((x5) + (1 : Int)) + (1 : Int)) + (1 : Int)) : 0 ≤ x6 ∧ x6 < 24000 := by omega
theorem om_d2a46039b2 {x0 x1 x2 x3 x4 x5 : Int} (h0 : 0 ≤ x0 ∧ x0 ≤ 15 * x1 + 2) (h1 : x0 ≤ x2 ∧ x2 - 15 * x3 ≤ x0 - 15 * x4) (h2 : x5 = ((((x2) + (1 : Int)) + (1 : Int)) + (1 : Int))) : -2147483648 ≤ ((((x5) + (1 : Int)) + (1 : Int)) + (1 : Int)) + (1 : Int) := by omega
theorem om_00c6eca6ab {x0 x1 x2 x3 x4 x5 : Int} (h0 : 0 ≤ x0 ∧ x0 ≤ 15 * x1 + 2) (h1 : x2 = (x1) + (1 : Int)) (h2 : x0 ≤ x3 ∧ x3 - 15 * x4 ≤ x0 - 15 * x2) (h3 : x4 < 1500) (h4 : x5 = ((((x3) + (1 : Int)) + (1 : Int)) + (1 : Int))) : ((((x5) + (1 : Int)) + (1 : Int)) + (1 : Int)) + (1 : Int) < 2147483648 := by omega
theorem om_e8c72720c0 {x0 x1 x2 x3 x4 x5 x6 : Int} (h0 : 0 ≤ x0 ∧ x0 ≤ 15 * x1 + 2) (h1 : x0 ≤ x2 ∧ x2 - 15 * x3 ≤ x0 - 15 * x4) (h2 : x5 = ((((x2) + (1 : Int)) + (1 : Int)) + (1 : Int))) (h3 : x6 = (((x5) + (1 : Int)) + (1 : Int)) + (1 : Int)) : 0 ≤ x6 := by omega
theorem om_29792f7744 {x0 x1 x2 x3 x4 x5 : Int} {n6 : Nat} (h0 : x0 ≤ x1 ∧ x1 - 15 * x2 ≤ x0 - 15 * x3) (h1 : x4 = ((((x1) + (1 : Int)) + (1 : Int)) + (1 : Int))) (h2 : x5 = (((x4) + (1 : Int)) + (1 : Int)) + (1 : Int)) (h3 : (n6 : Int) < x0) : (n6 : Int) < x5 := by omega
theorem om_ebad088c82 {x0 x1 x2 x3 x4 x5 x6 : Int} (h0 : 0 ≤ x0 ∧ x0 ≤ 15 * x1 + 2) (h1 : x0 ≤ x2 ∧ x2 - 15 * x3 ≤ x0 - 15 * x4) (h2 : x5 = ((((x2) + (1 : Int)) + (1 : Int)) + (1 : Int))) (h3 : x6 = ((x5) + (1 : Int)) + (1 : Int)) : 0 ≤ x6 := by omega
theorem om_be0d97b031 {x0 x1 x2 x3 x4 x5 : Int} {n6 : Nat} (h0 : x0 ≤ x1 ∧ x1 - 15 * x2 ≤ x0 - 15 * x3) (h1 : x4 = ((((x1) + (1 : Int)) + (1 : Int)) + (1 : Int))) (h2 : x5 = ((x4) + (1 : Int)) + (1 : Int)) (h3 : (n6 : Int) < x0) : (n6 : Int) < x5 := by omega
theorem om_ac628ce86e {x0 x1 x2 x3 x4 x5 x6 : Int} (h0 : 0 ≤ x0 ∧ x0 ≤ 15 * x1 + 2) (h1 : x0 ≤ x2 ∧ x2 - 15 * x3 ≤ x0 - 15 * x4) (h2 : x5 = ((((x2) + (1 : Int)) + (1 : Int)) + (1 : Int))) (h3 : x6 = (x5) + (1 : Int)) : 0 ≤ x6 := by omega
theorem om_bdf3915dc3 {x0 x1 x2 x3 x4 x5 : Int} {n6 : Nat} (h0 : x0 ≤ x1 ∧ x1 - 15 * x2 ≤ x0 - 15 * x3) (h1 : x4 = ((((x1) + (1 : Int)) + (1 : Int)) + (1 : Int))) (h2 : x5 = (x4) + (1 : Int)) (h3 : (n6 : Int) < x0) : (n6 : Int) < x5 := by omega
theorem om_af94f26709 {x0 x1 x2 x3 x4 x5 : Int} (h0 : 0 ≤ x0 ∧ x0 ≤ 15 * x1 + 2) (h1 : x0 ≤ x2 ∧ x2 - 15 * x3 ≤ x0 - 15 * x4) (h2 : x5 = ((((x2) + (1 : Int)) + (1 : Int)) + (1 : Int))) : 0 ≤ x5 := by omega
theorem om_36ab1eaab8 {x0 x1 x2 x3 x4 : Int} {n5 : Nat} (h0 : x0 ≤ x1 ∧ x1 - 15 * x2 ≤ x0 - 15 * x3) (h1 : x4 = ((((x1) + (1 : Int)) + (1 : Int)) + (1 : Int))) (h2 : (n5 : Int) < x0) : (n5 : Int) < x4 := by omega
theorem om_7b6589e4e6 {x0 x1 x2 x3 x4 x5 x6 : Int} (h0 : 0 ≤ x0 ∧ x0 ≤ 15 * x1 + 0) (h1 : x2 = (x1) + (1 : Int)) (h2 : x0 ≤ x3 ∧ x3 - 15 * x4 ≤ x0 - 15 * x2) (h3 : x4 < 1500) (h4 : x5 = x3) (h5 : x6 = x5) : 0 ≤ x6 ∧ x6 < 24000 := by omega
theorem om_e0a1581cc0 {x0 : Int} (h0 : 0 ≤ x0 ∧ x0 < 60) : (0 : Int) = 5 ∨ (0 ≤ x0 ∧ x0 < 60) := by omega
theorem om_9ce3174a73 {x0 x1 x2 x3 x4 x5 x6 x7 : Int} (h0 : 0 ≤ x0 ∧ x0 ≤ 15 * x1 + 2) (h1 : x2 = (x1) + (1 : Int)) (h2 : x0 ≤ x3 ∧ x3 - 15 * x4 ≤ x0 - 15 * x2) (h3 : x4 < 1500) (h4 : x5 = ((((x3) + (1 : Int)) + (1 : Int)) + (1 : Int))) (h5 : x6 = (((((x5) + (1 : Int)) + (1 : Int)) + (1 : Int)) + (1 : Int))) (h6 : x7 = x6) : 0 ≤ x7 ∧ x7 < 24000 := by omega
theorem om_ea12253627 {x0 x1 x2 x3 x4 x5 x6 x7 : Int} (h0 : 0 ≤ x0 ∧ x0 ≤ 15 * x1 + 2) (h1 : x0 ≤ x2 ∧ x2 - 15 * x3 ≤ x0 - 15 * x4) (h2 : x5 = ((((x2) + (1 : Int)) + (1 : Int)) + (1 : Int))) (h3 : x6 = (((((x5) + (1 : Int)) + (1 : Int)) + (1 : Int)) + (1 : Int))) (h4 : x7 = x6) : -2147483648 ≤ (x7) + (1 : Int) := by omega
theorem om_123744ba8f {x0 x1 x2 x3 x4 x5 x6 x7 : Int} (h0 : 0 ≤ x0 ∧ x0 ≤ 15 * x1 + 2) (h1 : x2 = (x1) + (1 : Int)) (h2 : x0 ≤ x3 ∧ x3 - 15 * x4 ≤ x0 - 15 * x2) (h3 : x4 < 1500) (h4 : x5 = ((((x3) + (1 : Int)) + (1 : Int)) + (1 : Int))) (h5 : x6 = (((((x5) + (1 : Int)) + (1 : Int)) + (1 : Int)) + (1 : Int))) (h6 : x7 = x6) : (x7) + (1 : Int) < 2147483648 := by omega
theorem om_dba8f6d72f {x0 x1 x2 x3 x4 x5 x6 x7 : Int} (h0 : 0 ≤ x0 ∧ x0 ≤ 10 * x1 + 0) (h1 : x2 = (x1) + (1 : Int)) (h2 : x0 ≤ x3 ∧ x3 - 10 * x4 ≤ x0 - 10 * x2) (h3 : x4 < 1500) (h4 : x5 = x3) (h5 : x6 = x5) (h6 : x7 = x6) : 0 ≤ x7 ∧ x7 < 16000 := by omega
theorem om_bc89bc7b20 {n0 : Nat} : 8 + (3 + 11) + 0 ≤ 28 * (40 * n0 + 6) := by omega
theorem om_a76e04ab45 {x0 x1 x2 x3 x4 x5 x6 x7 : Int} (h0 : 0 ≤ x0 ∧ x0 ≤ 10 * x1 + 0) (h1 : x0 ≤ x2 ∧ x2 - 10 * x3 ≤ x0 - 10 * x4) (h2 : x5 = x2) (h3 : x6 = x5) (h4 : x7 = x6) : -2147483648 ≤ (x7) + (1 : Int) := by omega
theorem om_e032f44930 {x0 x1 x2 x3 x4 x5 x6 x7 : Int} (h0 : 0 ≤ x0 ∧ x0 ≤ 10 * x1 + 0) (h1 : x2 = (x1) + (1 : Int)) (h2 : x0 ≤ x3 ∧ x3 - 10 * x4 ≤ x0 - 10 * x2) (h3 : x4 < 1500) (h4 : x5 = x3) (h5 : x6 = x5) (h6 : x7 = x6) : (x7) + (1 : Int) < 2147483648 := by omega
theorem om_7f65da7768 {x0 x1 x2 x3 x4 x5 : Int} (h0 : x0 = (x1) + (1 : Int)) (h1 : x0 + 1 ≤ x2 ∧ x2 ≤ 1500) (h2 : x2 < 1500) (h3 : x3 = ((x2) + (1 : Int))) (h4 : x4 = x3) (h5 : x5 = x4) : x1 + 1 ≤ x5 ∧ x5 ≤ 1500 := by omega
theorem om_32294a9ce4 {x0 x1 : Int} (h0 : x0 ≠ x1) : x0 ≠ x1 := by omega
theorem om_33bcab5fda {x0 x1 x2 x3 x4 x5 x6 x7 x8 x9 x10 x11 : Int} (h0 : x0 = (x1) + (1 : Int)) (h1 : x2 ≤ x3 ∧ x3 - 15 * x4 ≤ x2 - 15 * x0) (h2 : x5 = ((((x3) + (1 : Int)) + (1 : Int)) + (1 : Int))) (h3 : x6 = ((x4) + (1 : Int))) (h4 : x7 = (((((x5) + (1 : Int)) + (1 : Int)) + (1 : Int)) + (1 : Int))) (h5 : x8 = x6) (h6 : x9 = x7) (h7 : x10 = x8) (h8 : x11 = (x9) + (1 : Int)) : x2 ≤ x11 ∧ x11 - 15 * x10 ≤ x2 - 15 * x1 := by omega
theorem om_3d5a8b4da6 {x0 x1 x2 x3 x4 x5 x6 x7 x8 x9 x10 x11 : Int} (h0 : x0 = (x1) + (1 : Int)) (h1 : x2 ≤ x3 ∧ x3 - 10 * x4 ≤ x2 - 10 * x0) (h2 : x5 = x3) (h3 : x6 = ((x4) + (1 : Int))) (h4 : x7 = x5) (h5 : x8 = x6) (h6 : x9 = x7) (h7 : x10 = x8) (h8 : x11 = (x9) + (1 : Int)) : x2 ≤ x11 ∧ x11 - 10 * x10 ≤ x2 - 10 * x1 := by omega
theorem om_54e385e759 {x0 x1 x2 x3 x4 x5 x6 x7 x8 x9 x10 : Int} (h0 : x0 = (x1) + (1 : Int)) (h1 : x2 ≤ x3 ∧ x3 - 15 * x4 ≤ x2 - 15 * x0) (h2 : x5 = x3) (h3 : x6 = ((x4) + (1 : Int))) (h4 : x7 = x5) (h5 : x8 = x6) (h6 : x9 = x8) (h7 : x10 = x7 + 1) : x2 ≤ x10 ∧ x10 - 15 * x9 ≤ x2 - 15 * x1 := by omega
theorem om_f6d1b5ce7c {x0 x1 x2 x3 x4 x5 x6 x7 x8 x9 x10 : Int} (h0 : x0 = (x1) + (1 : Int)) (h1 : x2 ≤ x3 ∧ x3 - 1 * x4 ≤ x2 - 1 * x0) (h2 : x5 = x3) (h3 : x6 = ((x4) + (1 : Int))) (h4 : x7 = x5) (h5 : x8 = x6) (h6 : x9 = x7) (h7 : x10 = x8) : x2 ≤ x9 ∧ x9 - 1 * x10 ≤ x2 - 1 * x1 := by omega
theorem om_993a5c9d24 {x0 x1 x2 x3 x4 x5 x6 x7 x8 x9 x10 : Int} (h0 : x0 = (x1) + (1 : Int)) (h1 : x2 = x3 ∧ x4 = x0) (h2 : x5 = x2) (h3 : x6 = ((x4) - (1 : Int))) (h4 : x7 = x5) (h5 : x8 = x6) (h6 : x9 = x7) (h7 : x10 = x8) : x9 = x3 ∧ x10 = x1 := by omega
theorem om_b0e74c87bc {x0 x1 x2 x3 x4 : Int} (h0 : x0 ≤ x1 ∧ x1 ≤ 500) (h1 : x2 = x1) (h2 : x3 = x2) (h3 : x4 = x3) : x0 ≤ x4 ∧ x4 ≤ 500 := by omega
theorem om_ceb3f4504c {x0 x1 x2 x3 x4 x5 x6 x7 : Int} (h0 : 0 ≤ x0 ∧ x0 ≤ 15 * x1 + 2) (h1 : x0 ≤ x2 ∧ x2 - 15 * x3 ≤ x0 - 15 * x4) (h2 : x5 = ((((x2) + (1 : Int)) + (1 : Int)) + (1 : Int))) (h3 : x6 = (((((x5) + (1 : Int)) + (1 : Int)) + (1 : Int)) + (1 : Int))) (h4 : x7 = x6) : 0 ≤ x7 := by omega
theorem om_8539edc2fa {x0 x1 x2 x3 x4 x5 x6 : Int} {n7 : Nat} (h0 : x0 ≤ x1 ∧ x1 - 15 * x2 ≤ x0 - 15 * x3) (h1 : x4 = ((((x1) + (1 : Int)) + (1 : Int)) + (1 : Int))) (h2 : x5 = (((((x4) + (1 : Int)) + (1 : Int)) + (1 : Int)) + (1 : Int))) (h3 : x6 = x5) (h4 : (n7 : Int) < x0) : (n7 : Int) < x6 := by omega
theorem om_3742090bda {x0 x1 x2 x3 x4 x5 x6 x7 : Int} (h0 : 0 ≤ x0 ∧ x0 ≤ 10 * x1 + 0) (h1 : x0 ≤ x2 ∧ x2 - 10 * x3 ≤ x0 - 10 * x4) (h2 : x5 = x2) (h3 : x6 = x5) (h4 : x7 = x6) : 0 ≤ x7 := by omega
theorem om_1dfa68f639 {x0 x1 x2 x3 x4 x5 x6 : Int} {n7 : Nat} (h0 : x0 ≤ x1 ∧ x1 - 10 * x2 ≤ x0 - 10 * x3) (h1 : x4 = x1) (h2 : x5 = x4) (h3 : x6 = x5) (h4 : (n7 : Int) < x0) : (n7 : Int) < x6 := by omega
set_option maxHeartbeats 16000000 in
set_option maxRecDepth 100000 in
theorem c_m_index (l : Launch) (n : Nat) (ihE : ∀ m, n = m + 1 → Cx_expression l m) (dC : Nat → ClassId) (dI : Nat → Nat → Nat) (cI cB cZ cJ cR : ClassId) (tb : Nat → Nat) (sz : Nat) (ad : Nat → Nat) (N : Nat) (v : MS) (pa : Int32) (zn : 40 ≤ (v.1 0 48).toInt + (n : Int)) (zt : 0 ≤ (v.1 0 47).toInt ∧ (v.1 0 47).toInt ≤ 1500) (zop : 0 ≤ (v.1 0 48).toInt ∧ (v.1 0 48).toInt ≤ 40) (zkn : 0 ≤ (v.1 0 30).toInt ∧ (v.1 0 30).toInt ≤ 500) (zhi : 0 ≤ (v.1 0 33).toInt ∧ (v.1 0 33).toInt ≤ 500) (zs : 0 ≤ (v.1 0 32).toInt ∧ (v.1 0 30).toInt + (v.1 0 32).toInt ≤ (v.1 0 33).toInt) (zws : 0 ≤ (v.1 0 12).toInt ∧ (v.1 0 12).toInt ≤ 15 * (v.1 0 47).toInt + 2) (zos : 0 ≤ (v.1 0 15).toInt ∧ (v.1 0 15).toInt ≤ 10 * (v.1 0 47).toInt + 0) (zfs : 0 ≤ (v.1 0 43).toInt ∧ (v.1 0 43).toInt ≤ 15 * (v.1 0 47).toInt + 0) (zcs : 0 ≤ (v.1 0 39).toInt ∧ (v.1 0 39).toInt ≤ 1 * (v.1 0 47).toInt + 0) (zgl : 0 ≤ (v.1 0 27).toInt ∧ (v.1 0 27).toInt ≤ 60) (hT : TI v) (a29 : AR 29 0 1500 v) (a23 : AR 23 0 1500 v) (a35 : AR 35 0 1500 v) (a37 : AR 37 0 23999 v) (a38 : AR 38 0 15999 v) (a40 : AR 40 0 23999 v) (fx : FX v) (zg : 0 ≤ pa.toInt ∧ pa.toInt < 60) : vx_Met l yX13_index (Cond.code yX13_index cX13_index 3 none :: tw_W) ({ frames := 40 * n + 6, cells := 0, slots := 0, locals := 28 * (40 * n + 6) }) (pc_ (dC, dI) (tyS cI cB cZ cJ cR) tb (mW ad N cI cZ cJ v) sz [.ref (ad 0), .int pa]) (qv_ (dC, dI) (mW ad N cI cZ cJ v) sz (fun (u : MS) => FG [12, 15, 32, 33, 39, 43, 44, 45, 47, 48, 49, 50, 51] [0, 11, 13, 14, 35, 36, 37, 38, 40, 41, 42] v u ∧ ((v.1 0 47).toInt + 1 ≤ (u.1 0 47).toInt ∧ (u.1 0 47).toInt ≤ 1500) ∧ ((v.1 0 49).toInt ≠ (v.1 0 47).toInt) ∧ ((v.1 0 12).toInt ≤ (u.1 0 12).toInt ∧ (u.1 0 12).toInt - 15 * (u.1 0 47).toInt ≤ (v.1 0 12).toInt - 15 * (v.1 0 47).toInt) ∧ ((v.1 0 15).toInt ≤ (u.1 0 15).toInt ∧ (u.1 0 15).toInt - 10 * (u.1 0 47).toInt ≤ (v.1 0 15).toInt - 10 * (v.1 0 47).toInt) ∧ ((v.1 0 43).toInt ≤ (u.1 0 43).toInt ∧ (u.1 0 43).toInt - 15 * (u.1 0 47).toInt ≤ (v.1 0 43).toInt - 15 * (v.1 0 47).toInt) ∧ ((v.1 0 39).toInt ≤ (u.1 0 39).toInt ∧ (u.1 0 39).toInt - 1 * (u.1 0 47).toInt ≤ (v.1 0 39).toInt - 1 * (v.1 0 47).toInt) ∧ ((u.1 0 32).toInt = (v.1 0 32).toInt ∧ (u.1 0 48).toInt = (v.1 0 48).toInt) ∧ ((v.1 0 33).toInt ≤ (u.1 0 33).toInt ∧ (u.1 0 33).toInt ≤ 500) ∧ (∀ j : Nat, (j : Int) < (v.1 0 12).toInt → (u.1 11) j = (v.1 11) j) ∧ (∀ j : Nat, (j : Int) < (v.1 0 15).toInt → (u.1 13) j = (v.1 13) j) ∧ (∀ j : Nat, (j : Int) < (v.1 0 15).toInt → (u.1 14) j = (v.1 14) j) ∧ (AR 35 0 1500 u) ∧ (AR 37 0 23999 u) ∧ (AR 38 0 15999 u) ∧ (AR 40 0 23999 u) ∧ (FX u)) (fun (u : MS) => (mW ad N cI cZ cJ u))) (qxm (dC, dI) (mW ad N cI cZ cJ v) sz (fun (u : MS) => (mW ad N cI cZ cJ u)) (fun (u : MS) => Fr v u)) 0 0 (va_A (mW ad N cI cZ cJ v) sz) := by
  refine vx_ofW (cc := cX13_index) (maxL := 3) (ret := none) (by decide) rfl ?_
  intro p e s m args below meth c s₁ B hml hnt hv
  obtain ⟨rfl, hsz, hP, hKK, hD0, hFx⟩ := hv
  have hK := hKK.1
  have hx := B.exec
  have hb := B.bytes
  have hr := B.returns
  have ht : ∀ w ∈ tw_W, w.before _ s = true := fun w h => atoms_spec (ws := Cond.code yX13_index cX13_index 3 none :: tw_W) B.pre w (List.mem_cons_of_mem _ h)
  have hown : s.vm.findClass RX13 = some m.cls := findClass_of_methodNamed B.named
  have hlocks := B.notSynchronized
  subst hsz
  unfold qv_ qxm
  have hD := hD0.self (sz := s.heap.size)
  generalize hAe : va_A (mW ad N cI cZ cJ v) s.heap.size = A at hD hFx ⊢
  have hA : ∀ q : Nat, s.heap.size ≤ q → A q := fun q h => by rw [← hAe]; exact Or.inr h
  have hS : va_S A s.heap s.heap [] := va_S.rf
  have hl := lv_entry ([.ref (ad 0), .int pa]) (n := 3) (Nat.le_of_ble_eq_true rfl)
  rw [lg_entry_eq]
  generalize (lg_sl ([.ref (ad 0), .int pa]) ++ List.replicate (3 - (lg_sl ([.ref (ad 0), .int pa])).length) Slot.unset).toArray = ls at hl ⊢
  have hl : lv_has ls 3 [(0, .ref (ad 0)), (1, .int pa)] := hl
  refine lv_aload_n hx hb dX13_index_0 rfl (lv_at hl 0 rfl) ?_
  refine lv_bipush (v := 91) hx hb dX13_index_1 (by decide) ?_
  refine cux_v (rx_V (n := 1) (As := [.int 91]) (rest := []) hx hb hml hown ht hKK hFx hP hD hS hA (c_m_open l dC dI cI cB cZ cJ cR tb s.heap.size ad N v (91 : Int32) (show 0 ≤ (v.1 0 47).toInt ∧ (v.1 0 47).toInt ≤ 1500 from (om_2fb699b811 zt zfs)) (show 0 ≤ (v.1 0 48).toInt ∧ (v.1 0 48).toInt ≤ 40 from (om_7eaf33e007 zop))) tw_78 tw_79 (by decide +kernel) rfl rfl ⟨show 3 + 1 ≤ 40 * n + 6 from om_c9931a82b5, show 8 + (2 + 11) + 62 ≤ 28 * (40 * n + 6) from om_207cd7ffe4⟩ (List.range (mW ad N cI cZ cJ v).length) (rg_map _) (mW_nd _ _ _ _ _ _) rfl rfl rfl rfl hl.1 rfl (Nat.le_of_ble_eq_true rfl) dX13_index_3 ⟨Nat.le_of_ble_eq_true rfl, Nat.le_of_ble_eq_true rfl⟩) hP hD hS hA (fun u9 ce9 q9 H locs hx9 hP hD hS hc9 hv9 hf9 => ?_) (fun u2 H locs hw1 hP hD hS => ?_)
  · exact vx_out (fun x h9 => (hnt x h9).elim) hlocks hc9 hv9 hf9 (fun t9 ht9 hv8 => ⟨u9, (FG.tr (FG.rf _) hx9), ⟨rfl, by rw [ht9]; exact hP, hD⟩, hS.F ht9⟩) hS.2.2 (Nat.le_refl _) (Nat.le_refl _)
  obtain ⟨rfl, a1, b1, c1⟩ := hw1
  have z4 : ((v.1 0 47) + (1 : Int32)).toInt = ((v.1 0 47).toInt) + (1 : Int) := add_z rfl (show (1 : Int32).toInt = (1 : Int) by decide) (om_3eca9b17a5 zws) (om_27eb55d06c zt)
  have z5 : ((v.1 0 48) + (1 : Int32)).toInt = ((v.1 0 48).toInt) + (1 : Int) := add_z rfl (show (1 : Int32).toInt = (1 : Int) by decide) (om_c2418a9965 zop) (om_defb2a7457 zop)
  have hP : va_P (dC, dI) vwCl (mW ad N cI cZ cJ (wA (wA v 0 47 ((v.1 0 47) + (1 : Int32))) 0 48 ((v.1 0 48) + (1 : Int32)))) H := hP
  have hD : va_D A (mW ad N cI cZ cJ (wA (wA v 0 47 ((v.1 0 47) + (1 : Int32))) 0 48 ((v.1 0 48) + (1 : Int32)))) := hD
  refine W.widen (k := 0) (n := 0) (Nat.le_refl _) (Nat.le_refl _) ?_
  refine lv_aload_n hx hb dX13_index_6 rfl (lv_at hl 0 rfl) ?_
  obtain ⟨n6, hn7⟩ : ∃ m, n = m + 1 := ex_z (om_78b28660f8 zn b1)
  refine cux_v (rx_V (n := 0) (As := []) (rest := []) hx hb hml hown ht hKK hFx hP hD hS hA (ihE n6 hn7 dC dI cI cB cZ cJ cR tb H.size ad N (wA (wA v 0 47 ((v.1 0 47) + (1 : Int32))) 0 48 ((v.1 0 48) + (1 : Int32)))  (show 40 ≤ ((v.1 0 48) + (1 : Int32)).toInt + (n6 : Int) from (om_43cb5bce6b zn z5 hn7)) (show 0 ≤ ((v.1 0 47) + (1 : Int32)).toInt ∧ ((v.1 0 47) + (1 : Int32)).toInt ≤ 1500 from (om_cae3a623a5 zfs z4 a1)) (show 0 ≤ ((v.1 0 48) + (1 : Int32)).toInt ∧ ((v.1 0 48) + (1 : Int32)).toInt ≤ 40 from (om_4c33377394 zop z5 b1)) (show 0 ≤ (v.1 0 30).toInt ∧ (v.1 0 30).toInt ≤ 500 from (om_9861e69da5 zkn)) (show 0 ≤ (v.1 0 33).toInt ∧ (v.1 0 33).toInt ≤ 500 from (om_9861e69da5 zhi)) (show 0 ≤ (v.1 0 32).toInt ∧ (v.1 0 30).toInt + (v.1 0 32).toInt ≤ (v.1 0 33).toInt from (om_f541e4003c zs)) (show 0 ≤ (v.1 0 12).toInt ∧ (v.1 0 12).toInt ≤ 15 * ((v.1 0 47) + (1 : Int32)).toInt + 2 from (om_3894ab1223 zws z4)) (show 0 ≤ (v.1 0 15).toInt ∧ (v.1 0 15).toInt ≤ 10 * ((v.1 0 47) + (1 : Int32)).toInt + 0 from (om_9a74738aa2 zos z4)) (show 0 ≤ (v.1 0 43).toInt ∧ (v.1 0 43).toInt ≤ 15 * ((v.1 0 47) + (1 : Int32)).toInt + 0 from (om_434df26a0f zfs z4)) (show 0 ≤ (v.1 0 39).toInt ∧ (v.1 0 39).toInt ≤ 1 * ((v.1 0 47) + (1 : Int32)).toInt + 0 from (om_3840c96ead zcs z4)) (show 0 ≤ (v.1 0 27).toInt ∧ (v.1 0 27).toInt ≤ 60 from (om_1d2c7ad648 zgl)) (show TI (wA (wA v 0 47 ((v.1 0 47) + (1 : Int32))) 0 48 ((v.1 0 48) + (1 : Int32))) from FG.ti (fl := pfl) (al := pal) (FG.f (FG.f (FG.rf _) ((v.1 0 47) + (1 : Int32)) (by decide)) ((v.1 0 48) + (1 : Int32)) (by decide)) (by decide) (by decide) hT) (show AR 29 0 1500 (wA (wA v 0 47 ((v.1 0 47) + (1 : Int32))) 0 48 ((v.1 0 48) + (1 : Int32))) from (AR.o (AR.o a29 (by decide)) (by decide))) (show AR 23 0 1500 (wA (wA v 0 47 ((v.1 0 47) + (1 : Int32))) 0 48 ((v.1 0 48) + (1 : Int32))) from (AR.o (AR.o a23 (by decide)) (by decide))) (show AR 35 0 1500 (wA (wA v 0 47 ((v.1 0 47) + (1 : Int32))) 0 48 ((v.1 0 48) + (1 : Int32))) from (AR.o (AR.o a35 (by decide)) (by decide))) (show AR 37 0 23999 (wA (wA v 0 47 ((v.1 0 47) + (1 : Int32))) 0 48 ((v.1 0 48) + (1 : Int32))) from (AR.o (AR.o a37 (by decide)) (by decide))) (show AR 38 0 15999 (wA (wA v 0 47 ((v.1 0 47) + (1 : Int32))) 0 48 ((v.1 0 48) + (1 : Int32))) from (AR.o (AR.o a38 (by decide)) (by decide))) (show AR 40 0 23999 (wA (wA v 0 47 ((v.1 0 47) + (1 : Int32))) 0 48 ((v.1 0 48) + (1 : Int32))) from (AR.o (AR.o a40 (by decide)) (by decide))) (show FX (wA (wA v 0 47 ((v.1 0 47) + (1 : Int32))) 0 48 ((v.1 0 48) + (1 : Int32))) from (FX.o (FX.o fx (by decide) (by decide)) (by decide) (by decide)))) tw_80 tw_81 (by decide +kernel) rfl rfl ⟨show (40 * n6 + 36) + 1 ≤ 40 * n + 6 from (om_a8c331ff68 hn7), show 8 + (1 + 11) + 28 * (40 * n6 + 36) ≤ 28 * (40 * n + 6) from (om_93090b8001 hn7)⟩ (List.range (mW ad N cI cZ cJ (wA (wA v 0 47 ((v.1 0 47) + (1 : Int32))) 0 48 ((v.1 0 48) + (1 : Int32)))).length) (rg_map _) (mW_nd _ _ _ _ _ _) rfl rfl rfl rfl hl.1 rfl (Nat.le_of_ble_eq_true rfl) dX13_index_7 ⟨Nat.le_of_ble_eq_true rfl, Nat.le_of_ble_eq_true rfl⟩) hP hD hS hA (fun u9 ce9 q9 H locs hx9 hP hD hS hc9 hv9 hf9 => ?_) (fun u9 H locs hw8 hP hD hS => ?_)
  · exact vx_out (fun x h9 => (hnt x h9).elim) hlocks hc9 hv9 hf9 (fun t9 ht9 hv8 => ⟨u9, (FG.tr (FG.f (FG.f (FG.rf _) ((v.1 0 47) + (1 : Int32)) (by decide)) ((v.1 0 48) + (1 : Int32)) (by decide)) hx9), ⟨rfl, by rw [ht9]; exact hP, hD⟩, hS.F ht9⟩) hS.2.2 (Nat.le_refl _) (Nat.le_refl _)
  obtain ⟨fr8, pt8, pb8, pw8, po8, pf8, pk8, pp8, ph8, kc8, ko8, kg8, a358, a378, a388, a408, fx8⟩ := hw8
  have pt8 : ((v.1 0 47) + (1 : Int32)).toInt + 1 ≤ (u9.1 0 47).toInt ∧ (u9.1 0 47).toInt ≤ 1500 := pt8
  have pb8 : (v.1 0 49).toInt ≠ ((v.1 0 47) + (1 : Int32)).toInt := pb8
  have pw8 : (v.1 0 12).toInt ≤ (u9.1 0 12).toInt ∧ (u9.1 0 12).toInt - 15 * (u9.1 0 47).toInt ≤ (v.1 0 12).toInt - 15 * ((v.1 0 47) + (1 : Int32)).toInt := pw8
  have po8 : (v.1 0 15).toInt ≤ (u9.1 0 15).toInt ∧ (u9.1 0 15).toInt - 10 * (u9.1 0 47).toInt ≤ (v.1 0 15).toInt - 10 * ((v.1 0 47) + (1 : Int32)).toInt := po8
  have pf8 : (v.1 0 43).toInt ≤ (u9.1 0 43).toInt ∧ (u9.1 0 43).toInt - 15 * (u9.1 0 47).toInt ≤ (v.1 0 43).toInt - 15 * ((v.1 0 47) + (1 : Int32)).toInt := pf8
  have pk8 : (v.1 0 39).toInt ≤ (u9.1 0 39).toInt ∧ (u9.1 0 39).toInt - 1 * (u9.1 0 47).toInt ≤ (v.1 0 39).toInt - 1 * ((v.1 0 47) + (1 : Int32)).toInt := pk8
  have pp8 : (u9.1 0 32).toInt = (v.1 0 32).toInt ∧ (u9.1 0 48).toInt = ((v.1 0 48) + (1 : Int32)).toInt := pp8
  have ph8 : (v.1 0 33).toInt ≤ (u9.1 0 33).toInt ∧ (u9.1 0 33).toInt ≤ 500 := ph8
  have kc8 : ∀ j : Nat, (j : Int) < (v.1 0 12).toInt → (u9.1 11) j = (v.1 11) j := kc8
  have ko8 : ∀ j : Nat, (j : Int) < (v.1 0 15).toInt → (u9.1 13) j = (v.1 13) j := ko8
  have kg8 : ∀ j : Nat, (j : Int) < (v.1 0 15).toInt → (u9.1 14) j = (v.1 14) j := kg8
  have a358 : AR 35 0 1500 u9 := a358
  have a378 : AR 37 0 23999 u9 := a378
  have a388 : AR 38 0 15999 u9 := a388
  have a408 : AR 40 0 23999 u9 := a408
  have fx8 : FX u9 := fx8
  refine W.widen (k := 0) (n := 0) (Nat.le_refl _) (Nat.le_refl _) ?_
  refine lv_aload_n hx hb dX13_index_10 rfl (lv_at hl 0 rfl) ?_
  refine lv_bipush (v := 93) hx hb dX13_index_11 (by decide) ?_
  refine cux_v (rx_V (n := 1) (As := [.int 93]) (rest := []) hx hb hml hown ht hKK hFx hP hD hS hA (c_m_close l dC dI cI cB cZ cJ cR tb H.size ad N u9 (93 : Int32) (show 0 ≤ (u9.1 0 47).toInt ∧ (u9.1 0 47).toInt ≤ 1500 from (om_f8d5b5379a zfs z4 pt8 pw8)) (show 0 ≤ (u9.1 0 48).toInt ∧ (u9.1 0 48).toInt ≤ 40 from (om_53f619227e zop z5 b1 pp8))) tw_82 tw_83 (by decide +kernel) rfl rfl ⟨show 3 + 1 ≤ 40 * n + 6 from om_c9931a82b5, show 8 + (2 + 11) + 64 ≤ 28 * (40 * n + 6) from om_de350190fe⟩ (List.range (mW ad N cI cZ cJ u9).length) (rg_map _) (mW_nd _ _ _ _ _ _) rfl rfl rfl rfl hl.1 rfl (Nat.le_of_ble_eq_true rfl) dX13_index_13 ⟨Nat.le_of_ble_eq_true rfl, Nat.le_of_ble_eq_true rfl⟩) hP hD hS hA (fun u9 ce9 q9 H locs hx9 hP hD hS hc9 hv9 hf9 => ?_) (fun u12 H locs hw11 hP hD hS => ?_)
  · exact vx_out (fun x h9 => (hnt x h9).elim) hlocks hc9 hv9 hf9 (fun t9 ht9 hv8 => ⟨u9, (FG.tr (FG.tr (FG.f (FG.f (FG.rf _) ((v.1 0 47) + (1 : Int32)) (by decide)) ((v.1 0 48) + (1 : Int32)) (by decide)) (FG.up fr8 (by decide) (by decide))) hx9), ⟨rfl, by rw [ht9]; exact hP, hD⟩, hS.F ht9⟩) hS.2.2 (Nat.le_refl _) (Nat.le_refl _)
  obtain ⟨rfl, a11, c11⟩ := hw11
  have z14 : ((u9.1 0 47) + (1 : Int32)).toInt = ((u9.1 0 47).toInt) + (1 : Int) := add_z rfl (show (1 : Int32).toInt = (1 : Int) by decide) (om_5ca5acb3cb zws z4 pw8) (om_3c2140d515 pt8)
  have z15 : ((u9.1 0 48) - (1 : Int32)).toInt = ((u9.1 0 48).toInt) - (1 : Int) := sub_z rfl (show (1 : Int32).toInt = (1 : Int) by decide) (om_32962d0667 zop z5 pp8) (om_d0370bb848 z5 b1 pp8)
  have hP : va_P (dC, dI) vwCl (mW ad N cI cZ cJ (wA (wA u9 0 47 ((u9.1 0 47) + (1 : Int32))) 0 48 ((u9.1 0 48) - (1 : Int32)))) H := hP
  have hD : va_D A (mW ad N cI cZ cJ (wA (wA u9 0 47 ((u9.1 0 47) + (1 : Int32))) 0 48 ((u9.1 0 48) - (1 : Int32)))) := hD
  have a11 : (u9.1 0 47).toInt < 1500 := a11
  have c11 : (u9.1 0 49).toInt ≠ (u9.1 0 47).toInt := c11
  refine W.widen (k := 0) (n := 0) (Nat.le_refl _) (Nat.le_refl _) ?_
  refine lv_aload_n hx hb dX13_index_16 rfl (lv_at hl 0 rfl) ?_
  refine va_get (D := (dC, dI)) (ci := 16) (fs := mF ad (wA (wA u9 0 47 ((u9.1 0 47) + (1 : Int32))) 0 48 ((u9.1 0 48) - (1 : Int32)))) (v := .ref (ad 24)) (C := RX13) (T := TX13) (N := 124) hx hb ht itX13 hown hK hP 0 rfl rfl 24 (by decide) (ht _ tw_84) (fun _ h9 => h9) rfl dX13_index_17 ?_
  refine lv_iload_n hx hb dX13_index_20 rfl (lv_at hl 1 rfl) ?_
  refine va_iald (D := (dC, dI)) (f := (u9.1 24)) hx hb hK hP 18 0 rfl rfl (in_y (a := pa.toInt) (b := 60) rfl (om_6853c8734e zg) (om_00b21bb66e zg) rfl) dX13_index_21 ?_
  refine lv_istore_n (lv' := [(2, .int ((u9.1 24) pa.toNatClampNeg)), (0, .ref (ad 0)), (1, .int pa)]) hx hb dX13_index_22 rfl hl (by decide) rfl (fun ls hl => ?_)
  refine lv_aload_n hx hb dX13_index_23 rfl (lv_at hl 1 rfl) ?_
  refine lv_bipush (v := 6) hx hb dX13_index_24 (by decide) ?_
  refine lv_iload_n hx hb dX13_index_26 rfl (lv_at hl 0 rfl) ?_
  refine cu_s (mW_nd _ _ _ _ _ _) (rn_S (n := 1) (As := [.int ((u9.1 24) pa.toNatClampNeg)]) (rest := [.int 6, .ref (ad 0)]) hx hb hml hown ht hKK hFx hP hD hS hA (c_m_hi l dC dI cI cB cZ cJ cR tb H.size ((u9.1 24) pa.toNatClampNeg) ) tw_0 tw_1 (by decide +kernel) rfl rfl ⟨show 0 + 1 ≤ 40 * n + 6 from om_19dfed8989, show 8 + (1 + 11) + 0 ≤ 28 * (40 * n + 6) from om_213884e4e8⟩ [] rfl rfl rfl hl.1 rfl (Nat.le_of_ble_eq_true rfl) dX13_index_27 ⟨Nat.le_of_ble_eq_true rfl, Nat.le_of_ble_eq_true rfl⟩) hP hD hS hA (fun r18 H locs hw16 hP hD hS => ?_)
  refine W.widen (k := 0) (n := 0) (Nat.le_refl _) (Nat.le_refl _) ?_
  refine cu_s (mW_nd _ _ _ _ _ _) (rn_S (n := 2) (As := [.int 6, .int r18]) (rest := [.ref (ad 0)]) hx hb hml hown ht hKK hFx hP hD hS hA (c_m_lui l dC dI cI cB cZ cJ cR tb H.size (6 : Int32) r18 ) tw_61 tw_62 (by decide +kernel) rfl rfl ⟨show 0 + 1 ≤ 40 * n + 6 from om_19dfed8989, show 8 + (2 + 11) + 0 ≤ 28 * (40 * n + 6) from om_37bd887971⟩ [] rfl rfl rfl hl.1 rfl (Nat.le_of_ble_eq_true rfl) dX13_index_30 ⟨Nat.le_of_ble_eq_true rfl, Nat.le_of_ble_eq_true rfl⟩) hP hD hS hA (fun r21 H locs hw19 hP hD hS => ?_)
  refine W.widen (k := 0) (n := 0) (Nat.le_refl _) (Nat.le_refl _) ?_
  refine cu_i (rn_V (n := 1) (As := [.int r21]) (rest := []) hx hb hml hown ht hKK hFx hP hD hS hA (c_m_emit l dC dI cI cB cZ cJ cR tb H.size ad N (wA (wA u9 0 47 ((u9.1 0 47) + (1 : Int32))) 0 48 ((u9.1 0 48) - (1 : Int32))) r21 (show 0 ≤ (u9.1 0 12).toInt ∧ (u9.1 0 12).toInt < 24000 from (om_55a8913a11 zws z4 pw8 a11))) tw_8 tw_9 (by decide +kernel) rfl rfl ⟨show 0 + 1 ≤ 40 * n + 6 from om_19dfed8989, show 8 + (2 + 11) + 0 ≤ 28 * (40 * n + 6) from om_37bd887971⟩ (List.range (mW ad N cI cZ cJ (wA (wA u9 0 47 ((u9.1 0 47) + (1 : Int32))) 0 48 ((u9.1 0 48) - (1 : Int32)))).length) (rg_map _) (mW_nd _ _ _ _ _ _) rfl rfl rfl rfl hl.1 rfl (Nat.le_of_ble_eq_true rfl) dX13_index_33 ⟨Nat.le_of_ble_eq_true rfl, Nat.le_of_ble_eq_true rfl⟩) hP hD hS hA (fun r24 u23 H locs hw22 hP hD hS => ?_)
  obtain ⟨rfl, rfl⟩ := hw22
  have z25 : ((u9.1 0 12) + (1 : Int32)).toInt = ((u9.1 0 12).toInt) + (1 : Int) := add_z rfl (show (1 : Int32).toInt = (1 : Int) by decide) (om_6ad47c49ef zws pw8) (om_63f64170b2 zws z4 pw8 a11)
  have hP : va_P (dC, dI) vwCl (mW ad N cI cZ cJ (wA (wA (wA (wA u9 0 47 ((u9.1 0 47) + (1 : Int32))) 0 48 ((u9.1 0 48) - (1 : Int32))) 11 ((u9.1 0 12).toNatClampNeg) r21) 0 12 ((u9.1 0 12) + (1 : Int32)))) H := hP
  have hD : va_D A (mW ad N cI cZ cJ (wA (wA (wA (wA u9 0 47 ((u9.1 0 47) + (1 : Int32))) 0 48 ((u9.1 0 48) - (1 : Int32))) 11 ((u9.1 0 12).toNatClampNeg) r21) 0 12 ((u9.1 0 12) + (1 : Int32)))) := hD
  refine tp_i (y := (u9.1 0 12)) (rfl) ?_
  refine W.widen (k := 0) (n := 0) (Nat.le_refl _) (Nat.le_refl _) ?_
  refine lv_pop hx hb dX13_index_36 rfl ?_
  refine lv_aload_n hx hb dX13_index_37 rfl (lv_at hl 1 rfl) ?_
  refine lv_bipush (v := 6) hx hb dX13_index_38 (by decide) ?_
  refine lv_bipush (v := 6) hx hb dX13_index_40 (by decide) ?_
  refine lv_iload_n hx hb dX13_index_42 rfl (lv_at hl 0 rfl) ?_
  refine cu_s (mW_nd _ _ _ _ _ _) (rn_S (n := 1) (As := [.int ((u9.1 24) pa.toNatClampNeg)]) (rest := [.int 6, .int 6, .ref (ad 0)]) hx hb hml hown ht hKK hFx hP hD hS hA (c_m_lo l dC dI cI cB cZ cJ cR tb H.size ((u9.1 24) pa.toNatClampNeg) ) tw_63 tw_64 (by decide +kernel) rfl rfl ⟨show 1 + 1 ≤ 40 * n + 6 from om_aa70640b3b, show 8 + (1 + 11) + 20 ≤ 28 * (40 * n + 6) from om_949877a014⟩ [] rfl rfl rfl hl.1 rfl (Nat.le_of_ble_eq_true rfl) dX13_index_43 ⟨Nat.le_of_ble_eq_true rfl, Nat.le_of_ble_eq_true rfl⟩) hP hD hS hA (fun r28 H locs hw26 hP hD hS => ?_)
  refine W.widen (k := 0) (n := 0) (Nat.le_refl _) (Nat.le_refl _) ?_
  refine cu_s (mW_nd _ _ _ _ _ _) (rn_S (n := 3) (As := [.int 6, .int 6, .int r28]) (rest := [.ref (ad 0)]) hx hb hml hown ht hKK hFx hP hD hS hA (c_m_addi l dC dI cI cB cZ cJ cR tb H.size (6 : Int32) (6 : Int32) r28 ) tw_65 tw_66 (by decide +kernel) rfl rfl ⟨show 1 + 1 ≤ 40 * n + 6 from om_aa70640b3b, show 8 + (3 + 11) + 24 ≤ 28 * (40 * n + 6) from om_6539950522⟩ [] rfl rfl rfl hl.1 rfl (Nat.le_of_ble_eq_true rfl) dX13_index_46 ⟨Nat.le_of_ble_eq_true rfl, Nat.le_of_ble_eq_true rfl⟩) hP hD hS hA (fun r31 H locs hw29 hP hD hS => ?_)
  refine W.widen (k := 0) (n := 0) (Nat.le_refl _) (Nat.le_refl _) ?_
  refine cu_i (rn_V (n := 1) (As := [.int r31]) (rest := []) hx hb hml hown ht hKK hFx hP hD hS hA (c_m_emit l dC dI cI cB cZ cJ cR tb H.size ad N (wA (wA (wA (wA u9 0 47 ((u9.1 0 47) + (1 : Int32))) 0 48 ((u9.1 0 48) - (1 : Int32))) 11 ((u9.1 0 12).toNatClampNeg) r21) 0 12 ((u9.1 0 12) + (1 : Int32))) r31 (show 0 ≤ ((u9.1 0 12) + (1 : Int32)).toInt ∧ ((u9.1 0 12) + (1 : Int32)).toInt < 24000 from (om_0ad2150744 zws z4 pw8 a11 z25))) tw_8 tw_9 (by decide +kernel) rfl rfl ⟨show 0 + 1 ≤ 40 * n + 6 from om_19dfed8989, show 8 + (2 + 11) + 0 ≤ 28 * (40 * n + 6) from om_37bd887971⟩ (List.range (mW ad N cI cZ cJ (wA (wA (wA (wA u9 0 47 ((u9.1 0 47) + (1 : Int32))) 0 48 ((u9.1 0 48) - (1 : Int32))) 11 ((u9.1 0 12).toNatClampNeg) r21) 0 12 ((u9.1 0 12) + (1 : Int32)))).length) (rg_map _) (mW_nd _ _ _ _ _ _) rfl rfl rfl rfl hl.1 rfl (Nat.le_of_ble_eq_true rfl) dX13_index_49 ⟨Nat.le_of_ble_eq_true rfl, Nat.le_of_ble_eq_true rfl⟩) hP hD hS hA (fun r34 u33 H locs hw32 hP hD hS => ?_)
  obtain ⟨rfl, rfl⟩ := hw32
  have z35 : (((u9.1 0 12) + (1 : Int32)) + (1 : Int32)).toInt = (((u9.1 0 12).toInt) + (1 : Int)) + (1 : Int) := add_z z25 (show (1 : Int32).toInt = (1 : Int) by decide) (om_9f1d4b4767 zws pw8) (om_8075859d27 zws z4 pw8 a11)
  have hP : va_P (dC, dI) vwCl (mW ad N cI cZ cJ (wA (wA (wA (wA (wA (wA u9 0 47 ((u9.1 0 47) + (1 : Int32))) 0 48 ((u9.1 0 48) - (1 : Int32))) 11 ((u9.1 0 12).toNatClampNeg) r21) 0 12 ((u9.1 0 12) + (1 : Int32))) 11 (((u9.1 0 12) + (1 : Int32)).toNatClampNeg) r31) 0 12 (((u9.1 0 12) + (1 : Int32)) + (1 : Int32)))) H := hP
  have hD : va_D A (mW ad N cI cZ cJ (wA (wA (wA (wA (wA (wA u9 0 47 ((u9.1 0 47) + (1 : Int32))) 0 48 ((u9.1 0 48) - (1 : Int32))) 11 ((u9.1 0 12).toNatClampNeg) r21) 0 12 ((u9.1 0 12) + (1 : Int32))) 11 (((u9.1 0 12) + (1 : Int32)).toNatClampNeg) r31) 0 12 (((u9.1 0 12) + (1 : Int32)) + (1 : Int32)))) := hD
  refine tp_i (y := ((u9.1 0 12) + (1 : Int32))) (rfl) ?_
  refine W.widen (k := 0) (n := 0) (Nat.le_refl _) (Nat.le_refl _) ?_
  refine lv_pop hx hb dX13_index_52 rfl ?_
  refine lv_aload_n hx hb dX13_index_53 rfl (lv_at hl 1 rfl) ?_
  refine lv_bipush (v := 6) hx hb dX13_index_54 (by decide) ?_
  refine lv_bipush (v := 10) hx hb dX13_index_56 (by decide) ?_
  refine lv_bipush (v := 6) hx hb dX13_index_58 (by decide) ?_
  refine lv_bipush (v := 12) hx hb dX13_index_60 (by decide) ?_
  refine cu_s (mW_nd _ _ _ _ _ _) (rn_S (n := 4) (As := [.int 6, .int 10, .int 6, .int 12]) (rest := [.ref (ad 0)]) hx hb hml hown ht hKK hFx hP hD hS hA (c_m_byB l dC dI cI cB cZ cJ cR tb H.size (6 : Int32) (10 : Int32) (6 : Int32) (12 : Int32) ) tw_85 tw_86 (by decide +kernel) rfl rfl ⟨show 0 + 1 ≤ 40 * n + 6 from om_19dfed8989, show 8 + (4 + 11) + 0 ≤ 28 * (40 * n + 6) from om_651bdf9b58⟩ [] rfl rfl rfl hl.1 rfl (Nat.le_of_ble_eq_true rfl) dX13_index_62 ⟨Nat.le_of_ble_eq_true rfl, Nat.le_of_ble_eq_true rfl⟩) hP hD hS hA (fun r38 H locs hw36 hP hD hS => ?_)
  refine W.widen (k := 0) (n := 0) (Nat.le_refl _) (Nat.le_refl _) ?_
  refine cu_i (rn_V (n := 1) (As := [.int r38]) (rest := []) hx hb hml hown ht hKK hFx hP hD hS hA (c_m_emit l dC dI cI cB cZ cJ cR tb H.size ad N (wA (wA (wA (wA (wA (wA u9 0 47 ((u9.1 0 47) + (1 : Int32))) 0 48 ((u9.1 0 48) - (1 : Int32))) 11 ((u9.1 0 12).toNatClampNeg) r21) 0 12 ((u9.1 0 12) + (1 : Int32))) 11 (((u9.1 0 12) + (1 : Int32)).toNatClampNeg) r31) 0 12 (((u9.1 0 12) + (1 : Int32)) + (1 : Int32))) r38 (show 0 ≤ (((u9.1 0 12) + (1 : Int32)) + (1 : Int32)).toInt ∧ (((u9.1 0 12) + (1 : Int32)) + (1 : Int32)).toInt < 24000 from (om_9a920d7062 zws z4 pw8 a11 z35))) tw_8 tw_9 (by decide +kernel) rfl rfl ⟨show 0 + 1 ≤ 40 * n + 6 from om_19dfed8989, show 8 + (2 + 11) + 0 ≤ 28 * (40 * n + 6) from om_37bd887971⟩ (List.range (mW ad N cI cZ cJ (wA (wA (wA (wA (wA (wA u9 0 47 ((u9.1 0 47) + (1 : Int32))) 0 48 ((u9.1 0 48) - (1 : Int32))) 11 ((u9.1 0 12).toNatClampNeg) r21) 0 12 ((u9.1 0 12) + (1 : Int32))) 11 (((u9.1 0 12) + (1 : Int32)).toNatClampNeg) r31) 0 12 (((u9.1 0 12) + (1 : Int32)) + (1 : Int32)))).length) (rg_map _) (mW_nd _ _ _ _ _ _) rfl rfl rfl rfl hl.1 rfl (Nat.le_of_ble_eq_true rfl) dX13_index_65 ⟨Nat.le_of_ble_eq_true rfl, Nat.le_of_ble_eq_true rfl⟩) hP hD hS hA (fun r41 u40 H locs hw39 hP hD hS => ?_)
  obtain ⟨rfl, rfl⟩ := hw39
  have z42 : ((((u9.1 0 12) + (1 : Int32)) + (1 : Int32)) + (1 : Int32)).toInt = ((((u9.1 0 12).toInt) + (1 : Int)) + (1 : Int)) + (1 : Int) := add_z z35 (show (1 : Int32).toInt = (1 : Int) by decide) (om_e8ab5ca21e zws pw8) (om_dc13ee2871 zws z4 pw8 a11)
  have hP : va_P (dC, dI) vwCl (mW ad N cI cZ cJ (wA (wA (wA (wA (wA (wA (wA (wA u9 0 47 ((u9.1 0 47) + (1 : Int32))) 0 48 ((u9.1 0 48) - (1 : Int32))) 11 ((u9.1 0 12).toNatClampNeg) r21) 0 12 ((u9.1 0 12) + (1 : Int32))) 11 (((u9.1 0 12) + (1 : Int32)).toNatClampNeg) r31) 0 12 (((u9.1 0 12) + (1 : Int32)) + (1 : Int32))) 11 ((((u9.1 0 12) + (1 : Int32)) + (1 : Int32)).toNatClampNeg) r38) 0 12 ((((u9.1 0 12) + (1 : Int32)) + (1 : Int32)) + (1 : Int32)))) H := hP
  have hD : va_D A (mW ad N cI cZ cJ (wA (wA (wA (wA (wA (wA (wA (wA u9 0 47 ((u9.1 0 47) + (1 : Int32))) 0 48 ((u9.1 0 48) - (1 : Int32))) 11 ((u9.1 0 12).toNatClampNeg) r21) 0 12 ((u9.1 0 12) + (1 : Int32))) 11 (((u9.1 0 12) + (1 : Int32)).toNatClampNeg) r31) 0 12 (((u9.1 0 12) + (1 : Int32)) + (1 : Int32))) 11 ((((u9.1 0 12) + (1 : Int32)) + (1 : Int32)).toNatClampNeg) r38) 0 12 ((((u9.1 0 12) + (1 : Int32)) + (1 : Int32)) + (1 : Int32)))) := hD
  refine tp_i (y := (((u9.1 0 12) + (1 : Int32)) + (1 : Int32))) (rfl) ?_
  refine W.widen (k := 0) (n := 0) (Nat.le_refl _) (Nat.le_refl _) ?_
  obtain ⟨u43, hu44⟩ : ∃ z, z = (wA (wA (wA (wA (wA (wA (wA (wA u9 0 47 ((u9.1 0 47) + (1 : Int32))) 0 48 ((u9.1 0 48) - (1 : Int32))) 11 ((u9.1 0 12).toNatClampNeg) r21) 0 12 ((u9.1 0 12) + (1 : Int32))) 11 (((u9.1 0 12) + (1 : Int32)).toNatClampNeg) r31) 0 12 (((u9.1 0 12) + (1 : Int32)) + (1 : Int32))) 11 ((((u9.1 0 12) + (1 : Int32)) + (1 : Int32)).toNatClampNeg) r38) 0 12 ((((u9.1 0 12) + (1 : Int32)) + (1 : Int32)) + (1 : Int32))) := ⟨_, rfl⟩
  have fr44 : FG [12, 47, 48] [0, 11] u9 u43 := by rw [hu44]; exact (FG.f (FG.a (FG.f (FG.a (FG.f (FG.a (FG.f (FG.f (FG.rf _) ((u9.1 0 47) + (1 : Int32)) (by decide)) ((u9.1 0 48) - (1 : Int32)) (by decide)) ((u9.1 0 12).toNatClampNeg) r21 (by decide) (by decide)) ((u9.1 0 12) + (1 : Int32)) (by decide)) (((u9.1 0 12) + (1 : Int32)).toNatClampNeg) r31 (by decide) (by decide)) (((u9.1 0 12) + (1 : Int32)) + (1 : Int32)) (by decide)) ((((u9.1 0 12) + (1 : Int32)) + (1 : Int32)).toNatClampNeg) r38 (by decide) (by decide)) ((((u9.1 0 12) + (1 : Int32)) + (1 : Int32)) + (1 : Int32)) (by decide))
  have kc44 : ∀ j : Nat, (j : Int) < (v.1 0 12).toInt → (u43.1 11) j = (v.1 11) j := by rw [hu44]; exact (fun (j9 : Nat) hj9 => (Eq.trans (pk_un3 (a := (((u9.1 0 12) + (1 : Int32)) + (1 : Int32)).toInt) rfl (om_a9e3b64a24 zws pw8 z35) (om_5fefeb2cb4 pw8 z35 hj9)) (Eq.trans (pk_un3 (a := ((u9.1 0 12) + (1 : Int32)).toInt) rfl (om_4e148700c2 zws pw8 z25) (om_54b5b4d853 pw8 z25 hj9)) (Eq.trans (pk_un3 (a := (u9.1 0 12).toInt) rfl (om_1ce1b92b31 zws pw8) (om_e81726c0b3 pw8 hj9)) (kc8 j9 (om_4fe904e9bf hj9))))))
  rw [← hu44] at hP hD
  refine lv_pop hx hb dX13_index_68 rfl ?_
  refine lv_aload_n hx hb dX13_index_69 rfl (lv_at hl 1 rfl) ?_
  refine lv_bipush (v := 17) hx hb dX13_index_70 (by decide) ?_
  refine lv_iconst (v := 0) hx hb dX13_index_72 (by decide) ?_
  refine lv_iconst (v := 3) hx hb dX13_index_73 (by decide) ?_
  refine cu_s (mW_nd _ _ _ _ _ _) (rn_S (n := 3) (As := [.int 17, .int 0, .int 3]) (rest := [.ref (ad 0)]) hx hb hml hown ht hKK hFx hP hD hS hA (c_m_addi l dC dI cI cB cZ cJ cR tb H.size (17 : Int32) (0 : Int32) (3 : Int32) ) tw_65 tw_66 (by decide +kernel) rfl rfl ⟨show 1 + 1 ≤ 40 * n + 6 from om_aa70640b3b, show 8 + (3 + 11) + 24 ≤ 28 * (40 * n + 6) from om_6539950522⟩ [] rfl rfl rfl hl.1 rfl (Nat.le_of_ble_eq_true rfl) dX13_index_74 ⟨Nat.le_of_ble_eq_true rfl, Nat.le_of_ble_eq_true rfl⟩) hP hD hS hA (fun r47 H locs hw45 hP hD hS => ?_)
  refine W.widen (k := 0) (n := 0) (Nat.le_refl _) (Nat.le_refl _) ?_
  have q48 : (u43.1 0 12).toInt = (((((u9.1 0 12).toInt) + (1 : Int)) + (1 : Int)) + (1 : Int)) := by rw [hu44]; exact (show ((((u9.1 0 12) + (1 : Int32)) + (1 : Int32)) + (1 : Int32)).toInt = (((((u9.1 0 12).toInt) + (1 : Int)) + (1 : Int)) + (1 : Int)) from z42)
  refine cu_i (rn_V (n := 1) (As := [.int r47]) (rest := []) hx hb hml hown ht hKK hFx hP hD hS hA (c_m_emit l dC dI cI cB cZ cJ cR tb H.size ad N u43 r47 (show 0 ≤ (u43.1 0 12).toInt ∧ (u43.1 0 12).toInt < 24000 from (om_34220ea4a8 zws z4 pw8 a11 q48))) tw_8 tw_9 (by decide +kernel) rfl rfl ⟨show 0 + 1 ≤ 40 * n + 6 from om_19dfed8989, show 8 + (2 + 11) + 0 ≤ 28 * (40 * n + 6) from om_37bd887971⟩ (List.range (mW ad N cI cZ cJ u43).length) (rg_map _) (mW_nd _ _ _ _ _ _) rfl rfl rfl rfl hl.1 rfl (Nat.le_of_ble_eq_true rfl) dX13_index_77 ⟨Nat.le_of_ble_eq_true rfl, Nat.le_of_ble_eq_true rfl⟩) hP hD hS hA (fun r51 u50 H locs hw49 hP hD hS => ?_)
  obtain ⟨rfl, rfl⟩ := hw49
  have z52 : ((u43.1 0 12) + (1 : Int32)).toInt = ((u43.1 0 12).toInt) + (1 : Int) := add_z rfl (show (1 : Int32).toInt = (1 : Int) by decide) (om_f9acfe2162 zws pw8 q48) (om_10e5695ea8 zws z4 pw8 a11 q48)
  have hP : va_P (dC, dI) vwCl (mW ad N cI cZ cJ (wA (wA u43 11 ((u43.1 0 12).toNatClampNeg) r47) 0 12 ((u43.1 0 12) + (1 : Int32)))) H := hP
  have hD : va_D A (mW ad N cI cZ cJ (wA (wA u43 11 ((u43.1 0 12).toNatClampNeg) r47) 0 12 ((u43.1 0 12) + (1 : Int32)))) := hD
  refine tp_i (y := (u43.1 0 12)) (rfl) ?_
  refine W.widen (k := 0) (n := 0) (Nat.le_refl _) (Nat.le_refl _) ?_
  refine lv_pop hx hb dX13_index_80 rfl ?_
  refine lv_aload_n hx hb dX13_index_81 rfl (lv_at hl 1 rfl) ?_
  refine lv_ldcw (v := 1048691) hx hb hown (ht _ tw_87) dX13_index_82 ?_
  refine cu_i (rn_V (n := 1) (As := [.int 1048691]) (rest := []) hx hb hml hown ht hKK hFx hP hD hS hA (c_m_emit l dC dI cI cB cZ cJ cR tb H.size ad N (wA (wA u43 11 ((u43.1 0 12).toNatClampNeg) r47) 0 12 ((u43.1 0 12) + (1 : Int32))) (1048691 : Int32) (show 0 ≤ ((u43.1 0 12) + (1 : Int32)).toInt ∧ ((u43.1 0 12) + (1 : Int32)).toInt < 24000 from (om_f522c75c8d zws z4 pw8 a11 q48 z52))) tw_8 tw_9 (by decide +kernel) rfl rfl ⟨show 0 + 1 ≤ 40 * n + 6 from om_19dfed8989, show 8 + (2 + 11) + 0 ≤ 28 * (40 * n + 6) from om_37bd887971⟩ (List.range (mW ad N cI cZ cJ (wA (wA u43 11 ((u43.1 0 12).toNatClampNeg) r47) 0 12 ((u43.1 0 12) + (1 : Int32)))).length) (rg_map _) (mW_nd _ _ _ _ _ _) rfl rfl rfl rfl hl.1 rfl (Nat.le_of_ble_eq_true rfl) dX13_index_85 ⟨Nat.le_of_ble_eq_true rfl, Nat.le_of_ble_eq_true rfl⟩) hP hD hS hA (fun r55 u54 H locs hw53 hP hD hS => ?_)
  obtain ⟨rfl, rfl⟩ := hw53
  have z56 : (((u43.1 0 12) + (1 : Int32)) + (1 : Int32)).toInt = (((u43.1 0 12).toInt) + (1 : Int)) + (1 : Int) := add_z z52 (show (1 : Int32).toInt = (1 : Int) by decide) (om_583cf2a6ad zws pw8 q48) (om_a15d4e4e0c zws z4 pw8 a11 q48)
  have hP : va_P (dC, dI) vwCl (mW ad N cI cZ cJ (wA (wA (wA (wA u43 11 ((u43.1 0 12).toNatClampNeg) r47) 0 12 ((u43.1 0 12) + (1 : Int32))) 11 (((u43.1 0 12) + (1 : Int32)).toNatClampNeg) (1048691 : Int32)) 0 12 (((u43.1 0 12) + (1 : Int32)) + (1 : Int32)))) H := hP
  have hD : va_D A (mW ad N cI cZ cJ (wA (wA (wA (wA u43 11 ((u43.1 0 12).toNatClampNeg) r47) 0 12 ((u43.1 0 12) + (1 : Int32))) 11 (((u43.1 0 12) + (1 : Int32)).toNatClampNeg) (1048691 : Int32)) 0 12 (((u43.1 0 12) + (1 : Int32)) + (1 : Int32)))) := hD
  refine tp_i (y := ((u43.1 0 12) + (1 : Int32))) (rfl) ?_
  refine W.widen (k := 0) (n := 0) (Nat.le_refl _) (Nat.le_refl _) ?_
  refine lv_pop hx hb dX13_index_88 rfl ?_
  refine lv_aload_n hx hb dX13_index_89 rfl (lv_at hl 1 rfl) ?_
  refine lv_bipush (v := 19) hx hb dX13_index_90 (by decide) ?_
  refine lv_iconst (v := 1) hx hb dX13_index_92 (by decide) ?_
  refine lv_bipush (v := 10) hx hb dX13_index_93 (by decide) ?_
  refine lv_bipush (v := 10) hx hb dX13_index_95 (by decide) ?_
  refine lv_iconst (v := 2) hx hb dX13_index_97 (by decide) ?_
  refine cu_s (mW_nd _ _ _ _ _ _) (rn_S (n := 5) (As := [.int 19, .int 1, .int 10, .int 10, .int 2]) (rest := [.ref (ad 0)]) hx hb hml hown ht hKK hFx hP hD hS hA (c_m_byI l dC dI cI cB cZ cJ cR tb H.size (19 : Int32) (1 : Int32) (10 : Int32) (10 : Int32) (2 : Int32) ) tw_2 tw_3 (by decide +kernel) rfl rfl ⟨show 0 + 1 ≤ 40 * n + 6 from om_19dfed8989, show 8 + (5 + 11) + 0 ≤ 28 * (40 * n + 6) from om_04b3c4a7b8⟩ [] rfl rfl rfl hl.1 rfl (Nat.le_of_ble_eq_true rfl) dX13_index_98 ⟨Nat.le_of_ble_eq_true rfl, Nat.le_of_ble_eq_true rfl⟩) hP hD hS hA (fun r59 H locs hw57 hP hD hS => ?_)
  refine W.widen (k := 0) (n := 0) (Nat.le_refl _) (Nat.le_refl _) ?_
  refine cu_i (rn_V (n := 1) (As := [.int r59]) (rest := []) hx hb hml hown ht hKK hFx hP hD hS hA (c_m_emit l dC dI cI cB cZ cJ cR tb H.size ad N (wA (wA (wA (wA u43 11 ((u43.1 0 12).toNatClampNeg) r47) 0 12 ((u43.1 0 12) + (1 : Int32))) 11 (((u43.1 0 12) + (1 : Int32)).toNatClampNeg) (1048691 : Int32)) 0 12 (((u43.1 0 12) + (1 : Int32)) + (1 : Int32))) r59 (show 0 ≤ (((u43.1 0 12) + (1 : Int32)) + (1 : Int32)).toInt ∧ (((u43.1 0 12) + (1 : Int32)) + (1 : Int32)).toInt < 24000 from (om_f21bae0533 zws z4 pw8 a11 q48 z56))) tw_8 tw_9 (by decide +kernel) rfl rfl ⟨show 0 + 1 ≤ 40 * n + 6 from om_19dfed8989, show 8 + (2 + 11) + 0 ≤ 28 * (40 * n + 6) from om_37bd887971⟩ (List.range (mW ad N cI cZ cJ (wA (wA (wA (wA u43 11 ((u43.1 0 12).toNatClampNeg) r47) 0 12 ((u43.1 0 12) + (1 : Int32))) 11 (((u43.1 0 12) + (1 : Int32)).toNatClampNeg) (1048691 : Int32)) 0 12 (((u43.1 0 12) + (1 : Int32)) + (1 : Int32)))).length) (rg_map _) (mW_nd _ _ _ _ _ _) rfl rfl rfl rfl hl.1 rfl (Nat.le_of_ble_eq_true rfl) dX13_index_101 ⟨Nat.le_of_ble_eq_true rfl, Nat.le_of_ble_eq_true rfl⟩) hP hD hS hA (fun r62 u61 H locs hw60 hP hD hS => ?_)
  obtain ⟨rfl, rfl⟩ := hw60
  have z63 : ((((u43.1 0 12) + (1 : Int32)) + (1 : Int32)) + (1 : Int32)).toInt = ((((u43.1 0 12).toInt) + (1 : Int)) + (1 : Int)) + (1 : Int) := add_z z56 (show (1 : Int32).toInt = (1 : Int) by decide) (om_0ac7380949 zws pw8 q48) (om_4c88881151 zws z4 pw8 a11 q48)
  have hP : va_P (dC, dI) vwCl (mW ad N cI cZ cJ (wA (wA (wA (wA (wA (wA u43 11 ((u43.1 0 12).toNatClampNeg) r47) 0 12 ((u43.1 0 12) + (1 : Int32))) 11 (((u43.1 0 12) + (1 : Int32)).toNatClampNeg) (1048691 : Int32)) 0 12 (((u43.1 0 12) + (1 : Int32)) + (1 : Int32))) 11 ((((u43.1 0 12) + (1 : Int32)) + (1 : Int32)).toNatClampNeg) r59) 0 12 ((((u43.1 0 12) + (1 : Int32)) + (1 : Int32)) + (1 : Int32)))) H := hP
  have hD : va_D A (mW ad N cI cZ cJ (wA (wA (wA (wA (wA (wA u43 11 ((u43.1 0 12).toNatClampNeg) r47) 0 12 ((u43.1 0 12) + (1 : Int32))) 11 (((u43.1 0 12) + (1 : Int32)).toNatClampNeg) (1048691 : Int32)) 0 12 (((u43.1 0 12) + (1 : Int32)) + (1 : Int32))) 11 ((((u43.1 0 12) + (1 : Int32)) + (1 : Int32)).toNatClampNeg) r59) 0 12 ((((u43.1 0 12) + (1 : Int32)) + (1 : Int32)) + (1 : Int32)))) := hD
  refine tp_i (y := (((u43.1 0 12) + (1 : Int32)) + (1 : Int32))) (rfl) ?_
  refine W.widen (k := 0) (n := 0) (Nat.le_refl _) (Nat.le_refl _) ?_
  refine lv_pop hx hb dX13_index_104 rfl ?_
  refine lv_aload_n hx hb dX13_index_105 rfl (lv_at hl 1 rfl) ?_
  refine lv_aload_n hx hb dX13_index_106 rfl (lv_at hl 1 rfl) ?_
  refine lv_bipush (v := 6) hx hb dX13_index_107 (by decide) ?_
  refine lv_iconst (v := 0) hx hb dX13_index_109 (by decide) ?_
  refine cu_s (mW_nd _ _ _ _ _ _) (rn_S (n := 2) (As := [.int 6, .int 0]) (rest := [.ref (ad 0), .ref (ad 0)]) hx hb hml hown ht hKK hFx hP hD hS hA (c_m_lui l dC dI cI cB cZ cJ cR tb H.size (6 : Int32) (0 : Int32) ) tw_61 tw_62 (by decide +kernel) rfl rfl ⟨show 0 + 1 ≤ 40 * n + 6 from om_19dfed8989, show 8 + (2 + 11) + 0 ≤ 28 * (40 * n + 6) from om_37bd887971⟩ [] rfl rfl rfl hl.1 rfl (Nat.le_of_ble_eq_true rfl) dX13_index_110 ⟨Nat.le_of_ble_eq_true rfl, Nat.le_of_ble_eq_true rfl⟩) hP hD hS hA (fun r66 H locs hw64 hP hD hS => ?_)
  refine W.widen (k := 0) (n := 0) (Nat.le_refl _) (Nat.le_refl _) ?_
  refine cu_i (rn_V (n := 1) (As := [.int r66]) (rest := [.ref (ad 0)]) hx hb hml hown ht hKK hFx hP hD hS hA (c_m_emit l dC dI cI cB cZ cJ cR tb H.size ad N (wA (wA (wA (wA (wA (wA u43 11 ((u43.1 0 12).toNatClampNeg) r47) 0 12 ((u43.1 0 12) + (1 : Int32))) 11 (((u43.1 0 12) + (1 : Int32)).toNatClampNeg) (1048691 : Int32)) 0 12 (((u43.1 0 12) + (1 : Int32)) + (1 : Int32))) 11 ((((u43.1 0 12) + (1 : Int32)) + (1 : Int32)).toNatClampNeg) r59) 0 12 ((((u43.1 0 12) + (1 : Int32)) + (1 : Int32)) + (1 : Int32))) r66 (show 0 ≤ ((((u43.1 0 12) + (1 : Int32)) + (1 : Int32)) + (1 : Int32)).toInt ∧ ((((u43.1 0 12) + (1 : Int32)) + (1 : Int32)) + (1 : Int32)).toInt < 24000 from (om_db1e806a22 zws z4 pw8 a11 q48 z63))) tw_8 tw_9 (by decide +kernel) rfl rfl ⟨show 0 + 1 ≤ 40 * n + 6 from om_19dfed8989, show 8 + (2 + 11) + 0 ≤ 28 * (40 * n + 6) from om_37bd887971⟩ (List.range (mW ad N cI cZ cJ (wA (wA (wA (wA (wA (wA u43 11 ((u43.1 0 12).toNatClampNeg) r47) 0 12 ((u43.1 0 12) + (1 : Int32))) 11 (((u43.1 0 12) + (1 : Int32)).toNatClampNeg) (1048691 : Int32)) 0 12 (((u43.1 0 12) + (1 : Int32)) + (1 : Int32))) 11 ((((u43.1 0 12) + (1 : Int32)) + (1 : Int32)).toNatClampNeg) r59) 0 12 ((((u43.1 0 12) + (1 : Int32)) + (1 : Int32)) + (1 : Int32)))).length) (rg_map _) (mW_nd _ _ _ _ _ _) rfl rfl rfl rfl hl.1 rfl (Nat.le_of_ble_eq_true rfl) dX13_index_113 ⟨Nat.le_of_ble_eq_true rfl, Nat.le_of_ble_eq_true rfl⟩) hP hD hS hA (fun r69 u68 H locs hw67 hP hD hS => ?_)
  obtain ⟨rfl, rfl⟩ := hw67
  have z70 : (((((u43.1 0 12) + (1 : Int32)) + (1 : Int32)) + (1 : Int32)) + (1 : Int32)).toInt = (((((u43.1 0 12).toInt) + (1 : Int)) + (1 : Int)) + (1 : Int)) + (1 : Int) := add_z z63 (show (1 : Int32).toInt = (1 : Int) by decide) (om_d2a46039b2 zws pw8 q48) (om_00c6eca6ab zws z4 pw8 a11 q48)
  have hP : va_P (dC, dI) vwCl (mW ad N cI cZ cJ (wA (wA (wA (wA (wA (wA (wA (wA u43 11 ((u43.1 0 12).toNatClampNeg) r47) 0 12 ((u43.1 0 12) + (1 : Int32))) 11 (((u43.1 0 12) + (1 : Int32)).toNatClampNeg) (1048691 : Int32)) 0 12 (((u43.1 0 12) + (1 : Int32)) + (1 : Int32))) 11 ((((u43.1 0 12) + (1 : Int32)) + (1 : Int32)).toNatClampNeg) r59) 0 12 ((((u43.1 0 12) + (1 : Int32)) + (1 : Int32)) + (1 : Int32))) 11 (((((u43.1 0 12) + (1 : Int32)) + (1 : Int32)) + (1 : Int32)).toNatClampNeg) r66) 0 12 (((((u43.1 0 12) + (1 : Int32)) + (1 : Int32)) + (1 : Int32)) + (1 : Int32)))) H := hP
  have hD : va_D A (mW ad N cI cZ cJ (wA (wA (wA (wA (wA (wA (wA (wA u43 11 ((u43.1 0 12).toNatClampNeg) r47) 0 12 ((u43.1 0 12) + (1 : Int32))) 11 (((u43.1 0 12) + (1 : Int32)).toNatClampNeg) (1048691 : Int32)) 0 12 (((u43.1 0 12) + (1 : Int32)) + (1 : Int32))) 11 ((((u43.1 0 12) + (1 : Int32)) + (1 : Int32)).toNatClampNeg) r59) 0 12 ((((u43.1 0 12) + (1 : Int32)) + (1 : Int32)) + (1 : Int32))) 11 (((((u43.1 0 12) + (1 : Int32)) + (1 : Int32)) + (1 : Int32)).toNatClampNeg) r66) 0 12 (((((u43.1 0 12) + (1 : Int32)) + (1 : Int32)) + (1 : Int32)) + (1 : Int32)))) := hD
  refine tp_i (y := ((((u43.1 0 12) + (1 : Int32)) + (1 : Int32)) + (1 : Int32))) (rfl) ?_
  refine W.widen (k := 0) (n := 0) (Nat.le_refl _) (Nat.le_refl _) ?_
  obtain ⟨u71, hu72⟩ : ∃ z, z = (wA (wA (wA (wA (wA (wA (wA (wA u43 11 ((u43.1 0 12).toNatClampNeg) r47) 0 12 ((u43.1 0 12) + (1 : Int32))) 11 (((u43.1 0 12) + (1 : Int32)).toNatClampNeg) (1048691 : Int32)) 0 12 (((u43.1 0 12) + (1 : Int32)) + (1 : Int32))) 11 ((((u43.1 0 12) + (1 : Int32)) + (1 : Int32)).toNatClampNeg) r59) 0 12 ((((u43.1 0 12) + (1 : Int32)) + (1 : Int32)) + (1 : Int32))) 11 (((((u43.1 0 12) + (1 : Int32)) + (1 : Int32)) + (1 : Int32)).toNatClampNeg) r66) 0 12 (((((u43.1 0 12) + (1 : Int32)) + (1 : Int32)) + (1 : Int32)) + (1 : Int32))) := ⟨_, rfl⟩
  have fr72 : FG [12] [0, 11] u43 u71 := by rw [hu72]; exact (FG.f (FG.a (FG.f (FG.a (FG.f (FG.a (FG.f (FG.a (FG.rf _) ((u43.1 0 12).toNatClampNeg) r47 (by decide) (by decide)) ((u43.1 0 12) + (1 : Int32)) (by decide)) (((u43.1 0 12) + (1 : Int32)).toNatClampNeg) (1048691 : Int32) (by decide) (by decide)) (((u43.1 0 12) + (1 : Int32)) + (1 : Int32)) (by decide)) ((((u43.1 0 12) + (1 : Int32)) + (1 : Int32)).toNatClampNeg) r59 (by decide) (by decide)) ((((u43.1 0 12) + (1 : Int32)) + (1 : Int32)) + (1 : Int32)) (by decide)) (((((u43.1 0 12) + (1 : Int32)) + (1 : Int32)) + (1 : Int32)).toNatClampNeg) r66 (by decide) (by decide)) (((((u43.1 0 12) + (1 : Int32)) + (1 : Int32)) + (1 : Int32)) + (1 : Int32)) (by decide))
  have kc72 : ∀ j : Nat, (j : Int) < (v.1 0 12).toInt → (u71.1 11) j = (v.1 11) j := by rw [hu72]; exact (fun (j9 : Nat) hj9 => (Eq.trans (pk_un3 (a := ((((u43.1 0 12) + (1 : Int32)) + (1 : Int32)) + (1 : Int32)).toInt) rfl (om_e8c72720c0 zws pw8 q48 z63) (om_29792f7744 pw8 q48 z63 hj9)) (Eq.trans (pk_un3 (a := (((u43.1 0 12) + (1 : Int32)) + (1 : Int32)).toInt) rfl (om_ebad088c82 zws pw8 q48 z56) (om_be0d97b031 pw8 q48 z56 hj9)) (Eq.trans (pk_un3 (a := ((u43.1 0 12) + (1 : Int32)).toInt) rfl (om_ac628ce86e zws pw8 q48 z52) (om_bdf3915dc3 pw8 q48 z52 hj9)) (Eq.trans (pk_un3 (a := (u43.1 0 12).toInt) rfl (om_af94f26709 zws pw8 q48) (om_36ab1eaab8 pw8 q48 hj9)) (kc44 j9 hj9))))))
  rw [← hu72] at hP hD
  refine lv_iload_n hx hb dX13_index_116 rfl (lv_at hl 2 rfl) ?_
  refine lv_iconst (v := 0) hx hb dX13_index_117 (by decide) ?_
  have q73 : (u43.1 0 43).toInt = (u9.1 0 43).toInt := congrArg Int32.toInt (fr44.2.1 43 (by decide))
  have q74 : (u71.1 0 43).toInt = (u43.1 0 43).toInt := congrArg Int32.toInt (fr72.2.1 43 (by decide))
  refine cu_v (rn_V (n := 3) (As := [.int ((((u43.1 0 12) + (1 : Int32)) + (1 : Int32)) + (1 : Int32)), .int pa, .int 0]) (rest := []) hx hb hml hown ht hKK hFx hP hD hS hA (c_m_fix l dC dI cI cB cZ cJ cR tb H.size ad N u71 ((((u43.1 0 12) + (1 : Int32)) + (1 : Int32)) + (1 : Int32)) pa (0 : Int32) (show 0 ≤ (u71.1 0 43).toInt ∧ (u71.1 0 43).toInt < 24000 from (om_7b6589e4e6 zfs z4 pf8 a11 q73 q74)) (show 0 ≤ ((((u43.1 0 12) + (1 : Int32)) + (1 : Int32)) + (1 : Int32)).toInt ∧ ((((u43.1 0 12) + (1 : Int32)) + (1 : Int32)) + (1 : Int32)).toInt < 24000 from (om_db1e806a22 zws z4 pw8 a11 q48 z63)) (show (0 : Int) = 5 ∨ (0 ≤ pa.toInt ∧ pa.toInt < 60) from (om_e0a1581cc0 zg)) (show AR 40 0 23999 u71 from (show AR 40 0 23999 u71 from AR.fr (fl := [12]) (al := [0, 11]) fr72 (by decide) (show AR 40 0 23999 u43 from AR.fr (fl := [12, 47, 48]) (al := [0, 11]) fr44 (by decide) a408))) (show FX u71 from (show FX u71 from FX.fr (fl := [12]) (al := [0, 11]) fr72 (by decide) (by decide) (show FX u43 from FX.fr (fl := [12, 47, 48]) (al := [0, 11]) fr44 (by decide) (by decide) fx8)))) tw_69 tw_70 (by decide +kernel) rfl rfl ⟨show 0 + 1 ≤ 40 * n + 6 from om_19dfed8989, show 8 + (4 + 11) + 0 ≤ 28 * (40 * n + 6) from om_651bdf9b58⟩ (List.range (mW ad N cI cZ cJ u71).length) (rg_map _) (mW_nd _ _ _ _ _ _) rfl rfl rfl rfl hl.1 rfl (Nat.le_of_ble_eq_true rfl) dX13_index_118 ⟨Nat.le_of_ble_eq_true rfl, Nat.le_of_ble_eq_true rfl⟩) hP hD hS hA (fun u76 H locs hw75 hP hD hS => ?_)
  obtain ⟨fr75, pf75, a4075, fx75⟩ := hw75
  have pf75 : (u76.1 0 43).toInt = (u71.1 0 43).toInt + 1 := pf75
  have a4075 : AR 40 0 23999 u76 := a4075
  have fx75 : FX u76 := fx75
  refine W.widen (k := 0) (n := 0) (Nat.le_refl _) (Nat.le_refl _) ?_
  refine lv_aload_n hx hb dX13_index_121 rfl (lv_at hl 1 rfl) ?_
  refine lv_iconst (v := 0) hx hb dX13_index_122 (by decide) ?_
  refine lv_iconst (v := 0) hx hb dX13_index_123 (by decide) ?_
  refine lv_bipush (v := 10) hx hb dX13_index_124 (by decide) ?_
  refine lv_bipush (v := 10) hx hb dX13_index_126 (by decide) ?_
  refine lv_bipush (v := 6) hx hb dX13_index_128 (by decide) ?_
  refine cu_s (mW_nd _ _ _ _ _ _) (rn_S (n := 5) (As := [.int 0, .int 0, .int 10, .int 10, .int 6]) (rest := [.ref (ad 0)]) hx hb hml hown ht hKK hFx hP hD hS hA (c_m_byR l dC dI cI cB cZ cJ cR tb H.size (0 : Int32) (0 : Int32) (10 : Int32) (10 : Int32) (6 : Int32) ) tw_67 tw_68 (by decide +kernel) rfl rfl ⟨show 0 + 1 ≤ 40 * n + 6 from om_19dfed8989, show 8 + (5 + 11) + 0 ≤ 28 * (40 * n + 6) from om_04b3c4a7b8⟩ [] rfl rfl rfl hl.1 rfl (Nat.le_of_ble_eq_true rfl) dX13_index_130 ⟨Nat.le_of_ble_eq_true rfl, Nat.le_of_ble_eq_true rfl⟩) hP hD hS hA (fun r80 H locs hw78 hP hD hS => ?_)
  refine W.widen (k := 0) (n := 0) (Nat.le_refl _) (Nat.le_refl _) ?_
  have q81 : (u71.1 0 12).toInt = ((((((u43.1 0 12).toInt) + (1 : Int)) + (1 : Int)) + (1 : Int)) + (1 : Int)) := by rw [hu72]; exact (show (((((u43.1 0 12) + (1 : Int32)) + (1 : Int32)) + (1 : Int32)) + (1 : Int32)).toInt = ((((((u43.1 0 12).toInt) + (1 : Int)) + (1 : Int)) + (1 : Int)) + (1 : Int)) from z70)
  have q82 : (u76.1 0 12).toInt = (u71.1 0 12).toInt := congrArg Int32.toInt ((fr75.2.1 12 (by decide)).trans (show u71.1 0 12 = (u71.1 0 12) by rfl))
  refine cu_i (rn_V (n := 1) (As := [.int r80]) (rest := []) hx hb hml hown ht hKK hFx hP hD hS hA (c_m_emit l dC dI cI cB cZ cJ cR tb H.size ad N u76 r80 (show 0 ≤ (u76.1 0 12).toInt ∧ (u76.1 0 12).toInt < 24000 from (om_9ce3174a73 zws z4 pw8 a11 q48 q81 q82))) tw_8 tw_9 (by decide +kernel) rfl rfl ⟨show 0 + 1 ≤ 40 * n + 6 from om_19dfed8989, show 8 + (2 + 11) + 0 ≤ 28 * (40 * n + 6) from om_37bd887971⟩ (List.range (mW ad N cI cZ cJ u76).length) (rg_map _) (mW_nd _ _ _ _ _ _) rfl rfl rfl rfl hl.1 rfl (Nat.le_of_ble_eq_true rfl) dX13_index_133 ⟨Nat.le_of_ble_eq_true rfl, Nat.le_of_ble_eq_true rfl⟩) hP hD hS hA (fun r85 u84 H locs hw83 hP hD hS => ?_)
  obtain ⟨rfl, rfl⟩ := hw83
  have z86 : ((u76.1 0 12) + (1 : Int32)).toInt = ((u76.1 0 12).toInt) + (1 : Int) := add_z rfl (show (1 : Int32).toInt = (1 : Int) by decide) (om_ea12253627 zws pw8 q48 q81 q82) (om_123744ba8f zws z4 pw8 a11 q48 q81 q82)
  have hP : va_P (dC, dI) vwCl (mW ad N cI cZ cJ (wA (wA u76 11 ((u76.1 0 12).toNatClampNeg) r80) 0 12 ((u76.1 0 12) + (1 : Int32)))) H := hP
  have hD : va_D A (mW ad N cI cZ cJ (wA (wA u76 11 ((u76.1 0 12).toNatClampNeg) r80) 0 12 ((u76.1 0 12) + (1 : Int32)))) := hD
  refine tp_i (y := (u76.1 0 12)) (rfl) ?_
  refine W.widen (k := 0) (n := 0) (Nat.le_refl _) (Nat.le_refl _) ?_
  refine lv_pop hx hb dX13_index_136 rfl ?_
  refine lv_aload_n hx hb dX13_index_137 rfl (lv_at hl 1 rfl) ?_
  refine lv_iconst (v := 5) hx hb dX13_index_138 (by decide) ?_
  refine lv_iload_n hx hb dX13_index_139 rfl (lv_at hl 2 rfl) ?_
  have q87 : (u43.1 0 15).toInt = (u9.1 0 15).toInt := congrArg Int32.toInt (fr44.2.1 15 (by decide))
  have q88 : (u71.1 0 15).toInt = (u43.1 0 15).toInt := congrArg Int32.toInt (fr72.2.1 15 (by decide))
  have q89 : (u76.1 0 15).toInt = (u71.1 0 15).toInt := congrArg Int32.toInt ((fr75.2.1 15 (by decide)).trans (show u71.1 0 15 = (u71.1 0 15) by rfl))
  refine cu_i (rn_V (n := 2) (As := [.int 5, .int pa]) (rest := []) hx hb hml hown ht hKK hFx hP hD hS hA (c_m_say l dC dI cI cB cZ cJ cR tb H.size ad N (wA (wA u76 11 ((u76.1 0 12).toNatClampNeg) r80) 0 12 ((u76.1 0 12) + (1 : Int32))) (5 : Int32) pa (show 0 ≤ (u76.1 0 15).toInt ∧ (u76.1 0 15).toInt < 16000 from (om_dba8f6d72f zos z4 po8 a11 q87 q88 q89))) tw_59 tw_60 (by decide +kernel) rfl rfl ⟨show 0 + 1 ≤ 40 * n + 6 from om_19dfed8989, show 8 + (3 + 11) + 0 ≤ 28 * (40 * n + 6) from om_bc89bc7b20⟩ (List.range (mW ad N cI cZ cJ (wA (wA u76 11 ((u76.1 0 12).toNatClampNeg) r80) 0 12 ((u76.1 0 12) + (1 : Int32)))).length) (rg_map _) (mW_nd _ _ _ _ _ _) rfl rfl rfl rfl hl.1 rfl (Nat.le_of_ble_eq_true rfl) dX13_index_140 ⟨Nat.le_of_ble_eq_true rfl, Nat.le_of_ble_eq_true rfl⟩) hP hD hS hA (fun r92 u91 H locs hw90 hP hD hS => ?_)
  obtain ⟨rfl, rfl⟩ := hw90
  have z93 : ((u76.1 0 15) + (1 : Int32)).toInt = ((u76.1 0 15).toInt) + (1 : Int) := add_z rfl (show (1 : Int32).toInt = (1 : Int) by decide) (om_a76e04ab45 zos po8 q87 q88 q89) (om_e032f44930 zos z4 po8 a11 q87 q88 q89)
  have hP : va_P (dC, dI) vwCl (mW ad N cI cZ cJ (wA (wA (wA (wA (wA u76 11 ((u76.1 0 12).toNatClampNeg) r80) 0 12 ((u76.1 0 12) + (1 : Int32))) 13 ((u76.1 0 15).toNatClampNeg) (5 : Int32)) 14 ((u76.1 0 15).toNatClampNeg) pa) 0 15 ((u76.1 0 15) + (1 : Int32)))) H := hP
  have hD : va_D A (mW ad N cI cZ cJ (wA (wA (wA (wA (wA u76 11 ((u76.1 0 12).toNatClampNeg) r80) 0 12 ((u76.1 0 12) + (1 : Int32))) 13 ((u76.1 0 15).toNatClampNeg) (5 : Int32)) 14 ((u76.1 0 15).toNatClampNeg) pa) 0 15 ((u76.1 0 15) + (1 : Int32)))) := hD
  refine tp_i (y := (u76.1 0 15)) (rfl) ?_
  refine W.widen (k := 0) (n := 0) (Nat.le_refl _) (Nat.le_refl _) ?_
  refine lv_pop hx hb dX13_index_143 rfl ?_
  have q94 : (u43.1 0 47).toInt = (((u9.1 0 47).toInt) + (1 : Int)) := by rw [hu44]; exact (show ((u9.1 0 47) + (1 : Int32)).toInt = (((u9.1 0 47).toInt) + (1 : Int)) from z14)
  have q95 : (u71.1 0 47).toInt = (u43.1 0 47).toInt := congrArg Int32.toInt (fr72.2.1 47 (by decide))
  have q96 : (u76.1 0 47).toInt = (u71.1 0 47).toInt := congrArg Int32.toInt ((fr75.2.1 47 (by decide)).trans (show u71.1 0 47 = (u71.1 0 47) by rfl))
  have q97 : (u43.1 0 39).toInt = (u9.1 0 39).toInt := congrArg Int32.toInt (fr44.2.1 39 (by decide))
  have q98 : (u71.1 0 39).toInt = (u43.1 0 39).toInt := congrArg Int32.toInt (fr72.2.1 39 (by decide))
  have q99 : (u76.1 0 39).toInt = (u71.1 0 39).toInt := congrArg Int32.toInt ((fr75.2.1 39 (by decide)).trans (show u71.1 0 39 = (u71.1 0 39) by rfl))
  have q100 : (u43.1 0 32).toInt = (u9.1 0 32).toInt := congrArg Int32.toInt (fr44.2.1 32 (by decide))
  have q101 : (u43.1 0 48).toInt = (((u9.1 0 48).toInt) - (1 : Int)) := by rw [hu44]; exact (show ((u9.1 0 48) - (1 : Int32)).toInt = (((u9.1 0 48).toInt) - (1 : Int)) from z15)
  have q102 : (u71.1 0 32).toInt = (u43.1 0 32).toInt := congrArg Int32.toInt (fr72.2.1 32 (by decide))
  have q103 : (u71.1 0 48).toInt = (u43.1 0 48).toInt := congrArg Int32.toInt (fr72.2.1 48 (by decide))
  have q104 : (u76.1 0 32).toInt = (u71.1 0 32).toInt := congrArg Int32.toInt ((fr75.2.1 32 (by decide)).trans (show u71.1 0 32 = (u71.1 0 32) by rfl))
  have q105 : (u76.1 0 48).toInt = (u71.1 0 48).toInt := congrArg Int32.toInt ((fr75.2.1 48 (by decide)).trans (show u71.1 0 48 = (u71.1 0 48) by rfl))
  have q106 : (u43.1 0 33).toInt = (u9.1 0 33).toInt := congrArg Int32.toInt (fr44.2.1 33 (by decide))
  have q107 : (u71.1 0 33).toInt = (u43.1 0 33).toInt := congrArg Int32.toInt (fr72.2.1 33 (by decide))
  have q108 : (u76.1 0 33).toInt = (u71.1 0 33).toInt := congrArg Int32.toInt ((fr75.2.1 33 (by decide)).trans (show u71.1 0 33 = (u71.1 0 33) by rfl))
  refine vx_ret ?_
  exact W.vret hx hb hr (fun t ht9 hW => ⟨⟨(wA (wA (wA (wA (wA u76 11 ((u76.1 0 12).toNatClampNeg) r80) 0 12 ((u76.1 0 12) + (1 : Int32))) 13 ((u76.1 0 15).toNatClampNeg) (5 : Int32)) 14 ((u76.1 0 15).toNatClampNeg) pa) 0 15 ((u76.1 0 15) + (1 : Int32))), rfl, ⟨(FG.f (FG.a (FG.a (FG.f (FG.a (FG.tr (FG.tr (FG.tr (FG.tr (FG.f (FG.f (FG.rf _) ((v.1 0 47) + (1 : Int32)) (by decide)) ((v.1 0 48) + (1 : Int32)) (by decide)) (FG.up fr8 (by decide) (by decide))) (FG.up fr44 (by decide) (by decide))) (FG.up fr72 (by decide) (by decide))) (FG.up fr75 (by decide) (by decide))) ((u76.1 0 12).toNatClampNeg) r80 (by decide) (by decide)) ((u76.1 0 12) + (1 : Int32)) (by decide)) ((u76.1 0 15).toNatClampNeg) (5 : Int32) (by decide) (by decide)) ((u76.1 0 15).toNatClampNeg) pa (by decide) (by decide)) ((u76.1 0 15) + (1 : Int32)) (by decide)), (show (v.1 0 47).toInt + 1 ≤ (u76.1 0 47).toInt ∧ (u76.1 0 47).toInt ≤ 1500 from (om_7f65da7768 z4 pt8 a11 q94 q95 q96)), (show (v.1 0 49).toInt ≠ (v.1 0 47).toInt from (om_32294a9ce4 c1)), (show (v.1 0 12).toInt ≤ ((u76.1 0 12) + (1 : Int32)).toInt ∧ ((u76.1 0 12) + (1 : Int32)).toInt - 15 * (u76.1 0 47).toInt ≤ (v.1 0 12).toInt - 15 * (v.1 0 47).toInt from (om_33bcab5fda z4 pw8 q48 q94 q81 q95 q82 q96 z86)), (show (v.1 0 15).toInt ≤ ((u76.1 0 15) + (1 : Int32)).toInt ∧ ((u76.1 0 15) + (1 : Int32)).toInt - 10 * (u76.1 0 47).toInt ≤ (v.1 0 15).toInt - 10 * (v.1 0 47).toInt from (om_3d5a8b4da6 z4 po8 q87 q94 q88 q95 q89 q96 z93)), (show (v.1 0 43).toInt ≤ (u76.1 0 43).toInt ∧ (u76.1 0 43).toInt - 15 * (u76.1 0 47).toInt ≤ (v.1 0 43).toInt - 15 * (v.1 0 47).toInt from (om_54e385e759 z4 pf8 q73 q94 q74 q95 q96 pf75)), (show (v.1 0 39).toInt ≤ (u76.1 0 39).toInt ∧ (u76.1 0 39).toInt - 1 * (u76.1 0 47).toInt ≤ (v.1 0 39).toInt - 1 * (v.1 0 47).toInt from (om_f6d1b5ce7c z4 pk8 q97 q94 q98 q95 q99 q96)), (show (u76.1 0 32).toInt = (v.1 0 32).toInt ∧ (u76.1 0 48).toInt = (v.1 0 48).toInt from (om_993a5c9d24 z5 pp8 q100 q101 q102 q103 q104 q105)), (show (v.1 0 33).toInt ≤ (u76.1 0 33).toInt ∧ (u76.1 0 33).toInt ≤ 500 from (om_b0e74c87bc ph8 q106 q107 q108)), (fun (j9 : Nat) hj9 => (Eq.trans (pk_un3 (a := (u76.1 0 12).toInt) rfl (om_ceb3f4504c zws pw8 q48 q81 q82) (om_8539edc2fa pw8 q48 q81 q82 hj9)) (Eq.trans (congrFun (fr75.2.2 11 (by decide)) j9) (kc72 j9 hj9)))), (fun (j9 : Nat) hj9 => (Eq.trans (pk_un3 (a := (u76.1 0 15).toInt) rfl (om_3742090bda zos po8 q87 q88 q89) (om_1dfa68f639 po8 q87 q88 q89 hj9)) (Eq.trans (congrFun (fr75.2.2 13 (by decide)) j9) (Eq.trans (congrFun (fr72.2.2 13 (by decide)) j9) (Eq.trans (congrFun (fr44.2.2 13 (by decide)) j9) (ko8 j9 (om_4fe904e9bf hj9))))))), (fun (j9 : Nat) hj9 => (Eq.trans (pk_un3 (a := (u76.1 0 15).toInt) rfl (om_3742090bda zos po8 q87 q88 q89) (om_1dfa68f639 po8 q87 q88 q89 hj9)) (Eq.trans (congrFun (fr75.2.2 14 (by decide)) j9) (Eq.trans (congrFun (fr72.2.2 14 (by decide)) j9) (Eq.trans (congrFun (fr44.2.2 14 (by decide)) j9) (kg8 j9 (om_4fe904e9bf hj9))))))), (AR.o (AR.o (AR.o (AR.o (AR.o (show AR 35 0 1500 u76 from AR.fr (fl := [43]) (al := [0, 40, 41, 42]) fr75 (by decide) (show AR 35 0 1500 u71 from AR.fr (fl := [12]) (al := [0, 11]) fr72 (by decide) (show AR 35 0 1500 u43 from AR.fr (fl := [12, 47, 48]) (al := [0, 11]) fr44 (by decide) a358))) (by decide)) (by decide)) (by decide)) (by decide)) (by decide)), (AR.o (AR.o (AR.o (AR.o (AR.o (show AR 37 0 23999 u76 from AR.fr (fl := [43]) (al := [0, 40, 41, 42]) fr75 (by decide) (show AR 37 0 23999 u71 from AR.fr (fl := [12]) (al := [0, 11]) fr72 (by decide) (show AR 37 0 23999 u43 from AR.fr (fl := [12, 47, 48]) (al := [0, 11]) fr44 (by decide) a378))) (by decide)) (by decide)) (by decide)) (by decide)) (by decide)), (AR.o (AR.o (AR.o (AR.o (AR.o (show AR 38 0 15999 u76 from AR.fr (fl := [43]) (al := [0, 40, 41, 42]) fr75 (by decide) (show AR 38 0 15999 u71 from AR.fr (fl := [12]) (al := [0, 11]) fr72 (by decide) (show AR 38 0 15999 u43 from AR.fr (fl := [12, 47, 48]) (al := [0, 11]) fr44 (by decide) a388))) (by decide)) (by decide)) (by decide)) (by decide)) (by decide)), (AR.o (AR.o (AR.o (AR.o (AR.o a4075 (by decide)) (by decide)) (by decide)) (by decide)) (by decide)), (FX.o (FX.o (FX.o (FX.o (FX.o fx75 (by decide) (by decide)) (by decide) (by decide)) (by decide) (by decide)) (by decide) (by decide)) (by decide) (by decide))⟩, by rw [ht9]; exact hP, hD⟩, hS.F ht9⟩) hS.2.2 dX13_index_144
