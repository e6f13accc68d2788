theorem dX13_index_0 : decode cX13_index 0 = .ok (.aload_n 0, 1) := by decide +kernel
theorem dX13_index_1 : decode cX13_index 1 = .ok (.bipush 91, 2) := by decide +kernel
theorem dX13_index_3 : decode cX13_index 3 = .ok (.invokevirtual 281, 3) := by decide +kernel
theorem tw_78 : (.code yX13_open cX13_open 2 none : Cond) ∈ tw_W := tw_in (by decide +kernel) (by decide +kernel)
theorem tw_79 : ∀ w ∈ ([.methodLink RX13 281 yX13_open, .instanceMethod yX13_open, .selects RX13 yX13_open yX13_open, .initialized RX13] : List Cond), w ∈ tw_W := tw_all (by decide +kernel)
theorem dX13_index_6 : decode cX13_index 6 = .ok (.aload_n 0, 1) := by decide +kernel
theorem dX13_index_7 : decode cX13_index 7 = .ok (.invokevirtual 284, 3) := by decide +kernel
theorem tw_80 : (.code yX13_expression cX13_expression 1 none : Cond) ∈ tw_W := tw_in (by decide +kernel) (by decide +kernel)
theorem tw_81 : ∀ w ∈ ([.methodLink RX13 284 yX13_expression, .instanceMethod yX13_expression, .selects RX13 yX13_expression yX13_expression, .initialized RX13] : List Cond), w ∈ tw_W := tw_all (by decide +kernel)
theorem dX13_index_10 : decode cX13_index 10 = .ok (.aload_n 0, 1) := by decide +kernel
theorem dX13_index_11 : decode cX13_index 11 = .ok (.bipush 93, 2) := by decide +kernel
theorem dX13_index_13 : decode cX13_index 13 = .ok (.invokevirtual 287, 3) := by decide +kernel
theorem tw_82 : (.code yX13_close cX13_close 2 none : Cond) ∈ tw_W := tw_in (by decide +kernel) (by decide +kernel)
theorem tw_83 : ∀ w ∈ ([.methodLink RX13 287 yX13_close, .instanceMethod yX13_close, .selects RX13 yX13_close yX13_close, .initialized RX13] : List Cond), w ∈ tw_W := tw_all (by decide +kernel)
theorem dX13_index_16 : decode cX13_index 16 = .ok (.aload_n 0, 1) := by decide +kernel
theorem dX13_index_17 : decode cX13_index 17 = .ok (.getfield 290, 3) := by decide +kernel
theorem tw_84 : (.fieldLink RX13 290 "PocketCompilerModel" "gMany" "[I" : Cond) ∈ tw_W := tw_in (by decide +kernel) (by decide +kernel)
theorem dX13_index_20 : decode cX13_index 20 = .ok (.iload_n 1, 1) := by decide +kernel
theorem dX13_index_21 : decode cX13_index 21 = .ok (.iaload, 1) := by decide +kernel
theorem dX13_index_22 : decode cX13_index 22 = .ok (.istore_n 2, 1) := by decide +kernel
theorem dX13_index_23 : decode cX13_index 23 = .ok (.aload_n 0, 1) := by decide +kernel
theorem dX13_index_24 : decode cX13_index 24 = .ok (.bipush 6, 2) := by decide +kernel
theorem dX13_index_26 : decode cX13_index 26 = .ok (.iload_n 2, 1) := by decide +kernel
theorem dX13_index_27 : decode cX13_index 27 = .ok (.invokestatic 94, 3) := by decide +kernel
theorem dX13_index_30 : decode cX13_index 30 = .ok (.invokestatic 223, 3) := by decide +kernel
theorem dX13_index_33 : decode cX13_index 33 = .ok (.invokevirtual 111, 3) := by decide +kernel
theorem dX13_index_36 : decode cX13_index 36 = .ok (.pop, 1) := by decide +kernel
theorem dX13_index_37 : decode cX13_index 37 = .ok (.aload_n 0, 1) := by decide +kernel
theorem dX13_index_38 : decode cX13_index 38 = .ok (.bipush 6, 2) := by decide +kernel
theorem dX13_index_40 : decode cX13_index 40 = .ok (.bipush 6, 2) := by decide +kernel
theorem dX13_index_42 : decode cX13_index 42 = .ok (.iload_n 2, 1) := by decide +kernel
theorem dX13_index_43 : decode cX13_index 43 = .ok (.invokestatic 226, 3) := by decide +kernel
theorem dX13_index_46 : decode cX13_index 46 = .ok (.invokestatic 219, 3) := by decide +kernel
theorem dX13_index_49 : decode cX13_index 49 = .ok (.invokevirtual 111, 3) := by decide +kernel
theorem dX13_index_52 : decode cX13_index 52 = .ok (.pop, 1) := by decide +kernel
theorem dX13_index_53 : decode cX13_index 53 = .ok (.aload_n 0, 1) := by decide +kernel
theorem dX13_index_54 : decode cX13_index 54 = .ok (.bipush 6, 2) := by decide +kernel
theorem dX13_index_56 : decode cX13_index 56 = .ok (.bipush 10, 2) := by decide +kernel
theorem dX13_index_58 : decode cX13_index 58 = .ok (.bipush 6, 2) := by decide +kernel
theorem dX13_index_60 : decode cX13_index 60 = .ok (.bipush 12, 2) := by decide +kernel
theorem dX13_index_62 : decode cX13_index 62 = .ok (.invokestatic 293, 3) := by decide +kernel
theorem tw_85 : (.code yX13_byB cX13_byB 4 (some .int) : Cond) ∈ tw_W := tw_in (by decide +kernel) (by decide +kernel)
theorem tw_86 : ∀ w ∈ ([.methodLink RX13 293 yX13_byB, .static yX13_byB, .initialized yX13_byB.cls] : List Cond), w ∈ tw_W := tw_all (by decide +kernel)
theorem dX13_index_65 : decode cX13_index 65 = .ok (.invokevirtual 111, 3) := by decide +kernel
theorem dX13_index_68 : decode cX13_index 68 = .ok (.pop, 1) := by decide +kernel
theorem dX13_index_69 : decode cX13_index 69 = .ok (.aload_n 0, 1) := by decide +kernel
theorem dX13_index_70 : decode cX13_index 70 = .ok (.bipush 17, 2) := by decide +kernel
theorem dX13_index_72 : decode cX13_index 72 = .ok (.iconst 0, 1) := by decide +kernel
theorem dX13_index_73 : decode cX13_index 73 = .ok (.iconst 3, 1) := by decide +kernel
theorem dX13_index_74 : decode cX13_index 74 = .ok (.invokestatic 219, 3) := by decide +kernel
theorem dX13_index_77 : decode cX13_index 77 = .ok (.invokevirtual 111, 3) := by decide +kernel
theorem dX13_index_80 : decode cX13_index 80 = .ok (.pop, 1) := by decide +kernel
theorem dX13_index_81 : decode cX13_index 81 = .ok (.aload_n 0, 1) := by decide +kernel
theorem dX13_index_82 : decode cX13_index 82 = .ok (.ldc_w 297, 3) := by decide +kernel
theorem tw_87 : (.constant RX13 297 (1048691) : Cond) ∈ tw_W := tw_in (by decide +kernel) (by decide +kernel)
theorem dX13_index_85 : decode cX13_index 85 = .ok (.invokevirtual 111, 3) := by decide +kernel
theorem dX13_index_88 : decode cX13_index 88 = .ok (.pop, 1) := by decide +kernel
theorem dX13_index_89 : decode cX13_index 89 = .ok (.aload_n 0, 1) := by decide +kernel
theorem dX13_index_90 : decode cX13_index 90 = .ok (.bipush 19, 2) := by decide +kernel
theorem dX13_index_92 : decode cX13_index 92 = .ok (.iconst 1, 1) := by decide +kernel
theorem dX13_index_93 : decode cX13_index 93 = .ok (.bipush 10, 2) := by decide +kernel
theorem dX13_index_95 : decode cX13_index 95 = .ok (.bipush 10, 2) := by decide +kernel
theorem dX13_index_97 : decode cX13_index 97 = .ok (.iconst 2, 1) := by decide +kernel
theorem dX13_index_98 : decode cX13_index 98 = .ok (.invokestatic 97, 3) := by decide +kernel
theorem dX13_index_101 : decode cX13_index 101 = .ok (.invokevirtual 111, 3) := by decide +kernel
theorem dX13_index_104 : decode cX13_index 104 = .ok (.pop, 1) := by decide +kernel
theorem dX13_index_105 : decode cX13_index 105 = .ok (.aload_n 0, 1) := by decide +kernel
theorem dX13_index_106 : decode cX13_index 106 = .ok (.aload_n 0, 1) := by decide +kernel
theorem dX13_index_107 : decode cX13_index 107 = .ok (.bipush 6, 2) := by decide +kernel
theorem dX13_index_109 : decode cX13_index 109 = .ok (.iconst 0, 1) := by decide +kernel
theorem dX13_index_110 : decode cX13_index 110 = .ok (.invokestatic 223, 3) := by decide +kernel
theorem dX13_index_113 : decode cX13_index 113 = .ok (.invokevirtual 111, 3) := by decide +kernel
theorem dX13_index_116 : decode cX13_index 116 = .ok (.iload_n 1, 1) := by decide +kernel
theorem dX13_index_117 : decode cX13_index 117 = .ok (.iconst 0, 1) := by decide +kernel
theorem dX13_index_118 : decode cX13_index 118 = .ok (.invokevirtual 216, 3) := by decide +kernel
theorem dX13_index_121 : decode cX13_index 121 = .ok (.aload_n 0, 1) := by decide +kernel
theorem dX13_index_122 : decode cX13_index 122 = .ok (.iconst 0, 1) := by decide +kernel
theorem dX13_index_123 : decode cX13_index 123 = .ok (.iconst 0, 1) := by decide +kernel
theorem dX13_index_124 : decode cX13_index 124 = .ok (.bipush 10, 2) := by decide +kernel
theorem dX13_index_126 : decode cX13_index 126 = .ok (.bipush 10, 2) := by decide +kernel
theorem dX13_index_128 : decode cX13_index 128 = .ok (.bipush 6, 2) := by decide +kernel
theorem dX13_index_130 : decode cX13_index 130 = .ok (.invokestatic 213, 3) := by decide +kernel
theorem dX13_index_133 : decode cX13_index 133 = .ok (.invokevirtual 111, 3) := by decide +kernel
theorem dX13_index_136 : decode cX13_index 136 = .ok (.pop, 1) := by decide +kernel
theorem dX13_index_137 : decode cX13_index 137 = .ok (.aload_n 0, 1) := by decide +kernel
theorem dX13_index_138 : decode cX13_index 138 = .ok (.iconst 5, 1) := by decide +kernel
theorem dX13_index_139 : decode cX13_index 139 = .ok (.iload_n 1, 1) := by decide +kernel
theorem dX13_index_140 : decode cX13_index 140 = .ok (.invokevirtual 210, 3) := by decide +kernel
theorem dX13_index_143 : decode cX13_index 143 = .ok (.pop, 1) := by decide +kernel
theorem dX13_index_144 : decode cX13_index 144 = .ok (.return_, 1) := by decide +kernel
def Cx_expression (l : Launch) (n : Nat) : Prop := ∀ (dC : Nat → ClassId) (dI : Nat → Nat → Nat) (cI cB cZ cJ cR : ClassId) (tb : Nat → Nat) (sz : Nat) (ad : Nat → Nat) (N : Nat) (v : MS)  (zn : 40 ≤ (v.1 0 48).toInt + (n : Int)) (zt : 0 ≤ (v.1 0 47).toInt ∧ (v.1 0 47).toInt ≤ 1500) (zop : 0 ≤ (v.1 0 48).toInt ∧ (v.1 0 48).toInt ≤ 40) (zkn : 0 ≤ (v.1 0 30).toInt ∧ (v.1 0 30).toInt ≤ 500) (zhi : 0 ≤ (v.1 0 33).toInt ∧ (v.1 0 33).toInt ≤ 500) (zs : 0 ≤ (v.1 0 32).toInt ∧ (v.1 0 30).toInt + (v.1 0 32).toInt ≤ (v.1 0 33).toInt) (zws : 0 ≤ (v.1 0 12).toInt ∧ (v.1 0 12).toInt ≤ 15 * (v.1 0 47).toInt + 2) (zos : 0 ≤ (v.1 0 15).toInt ∧ (v.1 0 15).toInt ≤ 10 * (v.1 0 47).toInt + 0) (zfs : 0 ≤ (v.1 0 43).toInt ∧ (v.1 0 43).toInt ≤ 15 * (v.1 0 47).toInt + 0) (zcs : 0 ≤ (v.1 0 39).toInt ∧ (v.1 0 39).toInt ≤ 1 * (v.1 0 47).toInt + 0) (zgl : 0 ≤ (v.1 0 27).toInt ∧ (v.1 0 27).toInt ≤ 60) (hT : TI v) (a29 : AR 29 0 1500 v) (a23 : AR 23 0 1500 v) (a35 : AR 35 0 1500 v) (a37 : AR 37 0 23999 v) (a38 : AR 38 0 15999 v) (a40 : AR 40 0 23999 v) (fx : FX v) (gf : GF v), vx_Met l yX13_expression (Cond.code yX13_expression cX13_expression 1 none :: tw_W) ({ frames := 40 * n + 36, cells := 0, slots := 0, locals := 28 * (40 * n + 36) }) (pc_ (dC, dI) (tyS cI cB cZ cJ cR) tb (mW ad N cI cZ cJ v) sz [.ref (ad 0)]) (qv_ (dC, dI) (mW ad N cI cZ cJ v) sz (fun (u : MS) => FG [12, 15, 32, 33, 39, 43, 44, 45, 47, 48, 49, 50, 51] [0, 11, 13, 14, 35, 36, 37, 38, 40, 41, 42] v u ∧ ((v.1 0 47).toInt + 1 ≤ (u.1 0 47).toInt ∧ (u.1 0 47).toInt ≤ 1500) ∧ ((v.1 0 49).toInt ≠ (v.1 0 47).toInt) ∧ ((v.1 0 12).toInt ≤ (u.1 0 12).toInt ∧ (u.1 0 12).toInt - 15 * (u.1 0 47).toInt ≤ (v.1 0 12).toInt - 15 * (v.1 0 47).toInt) ∧ ((v.1 0 15).toInt ≤ (u.1 0 15).toInt ∧ (u.1 0 15).toInt - 10 * (u.1 0 47).toInt ≤ (v.1 0 15).toInt - 10 * (v.1 0 47).toInt) ∧ ((v.1 0 43).toInt ≤ (u.1 0 43).toInt ∧ (u.1 0 43).toInt - 15 * (u.1 0 47).toInt ≤ (v.1 0 43).toInt - 15 * (v.1 0 47).toInt) ∧ ((v.1 0 39).toInt ≤ (u.1 0 39).toInt ∧ (u.1 0 39).toInt - 1 * (u.1 0 47).toInt ≤ (v.1 0 39).toInt - 1 * (v.1 0 47).toInt) ∧ ((u.1 0 32).toInt = (v.1 0 32).toInt ∧ (u.1 0 48).toInt = (v.1 0 48).toInt) ∧ ((v.1 0 33).toInt ≤ (u.1 0 33).toInt ∧ (u.1 0 33).toInt ≤ 500) ∧ (∀ j : Nat, (j : Int) < (v.1 0 12).toInt → (u.1 11) j = (v.1 11) j) ∧ (∀ j : Nat, (j : Int) < (v.1 0 15).toInt → (u.1 13) j = (v.1 13) j) ∧ (∀ j : Nat, (j : Int) < (v.1 0 15).toInt → (u.1 14) j = (v.1 14) j) ∧ (∀ j : Nat, (j : Int) < (v.1 0 39).toInt → (u.1 36) j = (v.1 36) j) ∧ (∀ j : Nat, (j : Int) < (v.1 0 39).toInt → (u.1 38) j = (v.1 38) j) ∧ (AR 35 0 1500 u) ∧ (AR 37 0 23999 u) ∧ (AR 38 0 15999 u) ∧ (AR 40 0 23999 u) ∧ (FX u) ∧ (IV v → IV u) ∧ (SGE (v.1 0 30).toInt (v.1 0 28).toInt (v.1 0 27).toInt (u.1 13) (u.1 14) (u.1 36) (u.1 38) (v.1 0 15).toNatClampNeg (u.1 0 15).toNatClampNeg (v.1 0 39).toNatClampNeg (u.1 0 39).toNatClampNeg [] [false] (1 + (u.1 0 33).toInt - (v.1 0 30).toInt - (v.1 0 32).toInt) [])) (fun (u : MS) => (mW ad N cI cZ cJ u))) (qxm (dC, dI) (mW ad N cI cZ cJ v) sz (fun (u : MS) => (mW ad N cI cZ cJ u)) (fun (u : MS) => Fr v u ∧ (IV v → IV u))) 0 0 (va_A (mW ad N cI cZ cJ v) sz)
theorem om_89d2241185 {x0 x1 x2 : Int} (h0 : 0 ≤ x0 ∧ x1 + x0 ≤ x2) : (0 : Int) ≤ 1 + x2 - x1 - x0 := by omega
theorem om_c9931a82b5 {n0 : Nat} : 3 + 1 ≤ 40 * n0 + 6 := by omega
theorem om_207cd7ffe4 {n0 : Nat} : 8 + (2 + 11) + 62 ≤ 28 * (40 * n0 + 6) := by omega
theorem om_a8c331ff68 {n0 n1 : Nat} (h0 : n0 = n1 + 1) : (40 * n1 + 36) + 1 ≤ 40 * n0 + 6 := by omega
theorem om_93090b8001 {n0 n1 : Nat} (h0 : n0 = n1 + 1) : 8 + (1 + 11) + 28 * (40 * n1 + 36) ≤ 28 * (40 * n0 + 6) := by omega
theorem om_de350190fe {n0 : Nat} : 8 + (2 + 11) + 64 ≤ 28 * (40 * n0 + 6) := by omega
theorem om_67c5e46d7f {x0 x1 : Int} (h0 : 0 ≤ x0 ∧ x0 < x1) : 0 ≤ x0 := by omega
theorem om_f61daeb73e {x0 x1 : Int} (h0 : 0 ≤ x0 ∧ x0 ≤ 60) (h1 : 0 ≤ x1 ∧ x1 < x0) : x1 < 60 := by omega
theorem om_19dfed8989 {n0 : Nat} : 0 + 1 ≤ 40 * n0 + 6 := by omega
theorem om_213884e4e8 {n0 : Nat} : 8 + (1 + 11) + 0 ≤ 28 * (40 * n0 + 6) := by omega
theorem om_37bd887971 {n0 : Nat} : 8 + (2 + 11) + 0 ≤ 28 * (40 * n0 + 6) := by omega
theorem om_aa70640b3b {n0 : Nat} : 1 + 1 ≤ 40 * n0 + 6 := by omega
theorem om_949877a014 {n0 : Nat} : 8 + (1 + 11) + 20 ≤ 28 * (40 * n0 + 6) := by omega
theorem om_6539950522 {n0 : Nat} : 8 + (3 + 11) + 24 ≤ 28 * (40 * n0 + 6) := by omega
theorem om_651bdf9b58 {n0 : Nat} : 8 + (4 + 11) + 0 ≤ 28 * (40 * n0 + 6) := by omega
theorem om_4fe904e9bf {x1 : Int} {n0 : Nat} (h0 : (n0 : Int) < x1) : (n0 : Int) < x1 := by omega
theorem om_04b3c4a7b8 {n0 : Nat} : 8 + (5 + 11) + 0 ≤ 28 * (40 * n0 + 6) := by omega
theorem om_08f72e7594 {x0 x1 : Int} (h0 : 0 ≤ x0 ∧ x0 ≤ 60) (h1 : 0 ≤ x1 ∧ x1 < x0) : (0 : Int) = 5 ∨ (0 ≤ x1 ∧ x1 < 60) := by omega
theorem om_bc89bc7b20 {n0 : Nat} : 8 + (3 + 11) + 0 ≤ 28 * (40 * n0 + 6) := by omega
theorem om_2bbcc72df9 {x0 x1 : Int} (h0 : 0 ≤ x0 ∧ x0 < x1) : 0 ≤ x0 ∧ x0 < x1 := by omega
theorem om_f5e1919ea2 {x0 x1 x2 x3 x4 x5 : Int} (h0 : x0 = x1) (h1 : x2 = x0) (h2 : x3 = x2) : 1 + x1 - x4 - x5 ≤ 1 + x3 - x4 - x5 := by omega
theorem om_e96b194f74 {x0 x1 x2 : Int} : 1 + x0 - x1 - x2 ≤ 1 + x0 - x1 - x2 := by omega
set_option maxHeartbeats 16000000 in
set_option maxRecDepth 100000 in
theorem c_m_index (l : Launch) (n : Nat) (ihE : ∀ m, n = m + 1 → Cx_expression l m) (dC : Nat → ClassId) (dI : Nat → Nat → Nat) (cI cB cZ cJ cR : ClassId) (tb : Nat → Nat) (sz : Nat) (ad : Nat → Nat) (N : Nat) (v : MS) (pa : Int32) (zn : 40 ≤ (v.1 0 48).toInt + (n : Int)) (zt : 0 ≤ (v.1 0 47).toInt ∧ (v.1 0 47).toInt ≤ 1500) (zop : 0 ≤ (v.1 0 48).toInt ∧ (v.1 0 48).toInt ≤ 40) (zkn : 0 ≤ (v.1 0 30).toInt ∧ (v.1 0 30).toInt ≤ 500) (zhi : 0 ≤ (v.1 0 33).toInt ∧ (v.1 0 33).toInt ≤ 500) (zs : 0 ≤ (v.1 0 32).toInt ∧ (v.1 0 30).toInt + (v.1 0 32).toInt ≤ (v.1 0 33).toInt) (zws : 0 ≤ (v.1 0 12).toInt ∧ (v.1 0 12).toInt ≤ 15 * (v.1 0 47).toInt + 2) (zos : 0 ≤ (v.1 0 15).toInt ∧ (v.1 0 15).toInt ≤ 10 * (v.1 0 47).toInt + 0) (zfs : 0 ≤ (v.1 0 43).toInt ∧ (v.1 0 43).toInt ≤ 15 * (v.1 0 47).toInt + 0) (zcs : 0 ≤ (v.1 0 39).toInt ∧ (v.1 0 39).toInt ≤ 1 * (v.1 0 47).toInt + 0) (zgl : 0 ≤ (v.1 0 27).toInt ∧ (v.1 0 27).toInt ≤ 60) (hT : TI v) (a29 : AR 29 0 1500 v) (a23 : AR 23 0 1500 v) (a35 : AR 35 0 1500 v) (a37 : AR 37 0 23999 v) (a38 : AR 38 0 15999 v) (a40 : AR 40 0 23999 v) (fx : FX v) (gf : GF v) (zg : 0 ≤ pa.toInt ∧ pa.toInt < (v.1 0 27).toInt) : vx_Met l yX13_index (Cond.code yX13_index cX13_index 3 none :: tw_W) ({ frames := 40 * n + 6, cells := 0, slots := 0, locals := 28 * (40 * n + 6) }) (pc_ (dC, dI) (tyS cI cB cZ cJ cR) tb (mW ad N cI cZ cJ v) sz [.ref (ad 0), .int pa]) (qv_ (dC, dI) (mW ad N cI cZ cJ v) sz (fun (u : MS) => FG [12, 15, 32, 33, 39, 43, 44, 45, 47, 48, 49, 50, 51] [0, 11, 13, 14, 35, 36, 37, 38, 40, 41, 42] v u ∧ ((v.1 0 47).toInt + 1 ≤ (u.1 0 47).toInt ∧ (u.1 0 47).toInt ≤ 1500) ∧ ((v.1 0 49).toInt ≠ (v.1 0 47).toInt) ∧ ((v.1 0 12).toInt ≤ (u.1 0 12).toInt ∧ (u.1 0 12).toInt - 15 * (u.1 0 47).toInt ≤ (v.1 0 12).toInt - 15 * (v.1 0 47).toInt) ∧ ((v.1 0 15).toInt ≤ (u.1 0 15).toInt ∧ (u.1 0 15).toInt - 10 * (u.1 0 47).toInt ≤ (v.1 0 15).toInt - 10 * (v.1 0 47).toInt) ∧ ((v.1 0 43).toInt ≤ (u.1 0 43).toInt ∧ (u.1 0 43).toInt - 15 * (u.1 0 47).toInt ≤ (v.1 0 43).toInt - 15 * (v.1 0 47).toInt) ∧ ((v.1 0 39).toInt ≤ (u.1 0 39).toInt ∧ (u.1 0 39).toInt - 1 * (u.1 0 47).toInt ≤ (v.1 0 39).toInt - 1 * (v.1 0 47).toInt) ∧ ((u.1 0 32).toInt = (v.1 0 32).toInt ∧ (u.1 0 48).toInt = (v.1 0 48).toInt) ∧ ((v.1 0 33).toInt ≤ (u.1 0 33).toInt ∧ (u.1 0 33).toInt ≤ 500) ∧ (∀ j : Nat, (j : Int) < (v.1 0 12).toInt → (u.1 11) j = (v.1 11) j) ∧ (∀ j : Nat, (j : Int) < (v.1 0 15).toInt → (u.1 13) j = (v.1 13) j) ∧ (∀ j : Nat, (j : Int) < (v.1 0 15).toInt → (u.1 14) j = (v.1 14) j) ∧ (∀ j : Nat, (j : Int) < (v.1 0 39).toInt → (u.1 36) j = (v.1 36) j) ∧ (∀ j : Nat, (j : Int) < (v.1 0 39).toInt → (u.1 38) j = (v.1 38) j) ∧ (AR 35 0 1500 u) ∧ (AR 37 0 23999 u) ∧ (AR 38 0 15999 u) ∧ (AR 40 0 23999 u) ∧ (FX u) ∧ (IV v → IV u) ∧ (SGE (v.1 0 30).toInt (v.1 0 28).toInt (v.1 0 27).toInt (u.1 13) (u.1 14) (u.1 36) (u.1 38) (v.1 0 15).toNatClampNeg (u.1 0 15).toNatClampNeg (v.1 0 39).toNatClampNeg (u.1 0 39).toNatClampNeg [] [true] (1 + (u.1 0 33).toInt - (v.1 0 30).toInt - (v.1 0 32).toInt) [])) (fun (u : MS) => (mW ad N cI cZ cJ u))) (qxm (dC, dI) (mW ad N cI cZ cJ v) sz (fun (u : MS) => (mW ad N cI cZ cJ u)) (fun (u : MS) => Fr v u ∧ (IV v → IV u))) 0 0 (va_A (mW ad N cI cZ cJ v) sz) := by
  refine vx_ofW (cc := cX13_index) (maxL := 3) (ret := none) (by decide) rfl ?_
  intro p e s m args below meth c s₁ B hml hnt hv
  obtain ⟨rfl, hsz, hP, hKK, hD0, hFx⟩ := hv
  have hK := hKK.1
  have hx := B.exec
  have hb := B.bytes
  have hr := B.returns
  have ht : ∀ w ∈ tw_W, w.before _ s = true := fun w h => atoms_spec (ws := Cond.code yX13_index cX13_index 3 none :: tw_W) B.pre w (List.mem_cons_of_mem _ h)
  have hown : s.vm.findClass RX13 = some m.cls := findClass_of_methodNamed B.named
  have hlocks := B.notSynchronized
  subst hsz
  unfold qv_ qxm
  have hD := hD0.self (sz := s.heap.size)
  generalize hAe : va_A (mW ad N cI cZ cJ v) s.heap.size = A at hD hFx ⊢
  have hA : ∀ q : Nat, s.heap.size ≤ q → A q := fun q h => by rw [← hAe]; exact Or.inr h
  have hS : va_S A s.heap s.heap [] := va_S.rf
  have hl := lv_entry ([.ref (ad 0), .int pa]) (n := 3) (Nat.le_of_ble_eq_true rfl)
  rw [lg_entry_eq]
  generalize (lg_sl ([.ref (ad 0), .int pa]) ++ List.replicate (3 - (lg_sl ([.ref (ad 0), .int pa])).length) Slot.unset).toArray = ls at hl ⊢
  have hl : lv_has ls 3 [(0, .ref (ad 0)), (1, .int pa)] := hl
  have sg1 : SGE (v.1 0 30).toInt (v.1 0 28).toInt (v.1 0 27).toInt (v.1 13) (v.1 14) (v.1 36) (v.1 38) (v.1 0 15).toNatClampNeg (v.1 0 15).toNatClampNeg (v.1 0 39).toNatClampNeg (v.1 0 39).toNatClampNeg [] [] (1 + (v.1 0 33).toInt - (v.1 0 30).toInt - (v.1 0 32).toInt) [] := SGE.nil rfl (lenle (0 : Int) (by decide) (om_89d2241185 zs))
  refine lv_aload_n hx hb dX13_index_0 rfl (lv_at hl 0 rfl) ?_
  refine lv_bipush (v := 91) hx hb dX13_index_1 (by decide) ?_
  refine cux_v (rx_V (n := 1) (As := [.int 91]) (rest := []) hx hb hml hown ht hKK hFx hP hD hS hA (c_m_open l dC dI cI cB cZ cJ cR tb s.heap.size ad N v (91 : Int32) (show 0 ≤ ((v.1 0 47)).toInt ∧ ((v.1 0 47)).toInt ≤ 1500 from (by omega)) (show 0 ≤ ((v.1 0 48)).toInt ∧ ((v.1 0 48)).toInt ≤ 40 from (by omega))) tw_78 tw_79 (by decide +kernel) rfl rfl ⟨show 3 + 1 ≤ 40 * n + 6 from om_c9931a82b5, show 8 + (2 + 11) + 62 ≤ 28 * (40 * n + 6) from om_207cd7ffe4⟩ (List.range (mW ad N cI cZ cJ v).length) (rg_map _) (mW_nd _ _ _ _ _ _) rfl rfl rfl rfl hl.1 rfl (Nat.le_of_ble_eq_true rfl) dX13_index_3 ⟨Nat.le_of_ble_eq_true rfl, Nat.le_of_ble_eq_true rfl⟩) hP hD hS hA (fun u9 ce9 q9 H locs hx9 hP hD hS hc9 hv9 hf9 => ?_) (fun u3 H locs hw2 hP hD hS => ?_)
  · exact vx_out (fun x h9 => (hnt x h9).elim) hlocks hc9 hv9 hf9 (fun t9 ht9 hv8 => ⟨u9, ⟨FG.tr (FG.rf _) hx9.1, fun hiv => hx9.2 hiv⟩, ⟨rfl, by rw [ht9]; exact hP, hD⟩, hS.F ht9⟩) hS.2.2 (Nat.le_refl _) (Nat.le_refl _)
  obtain ⟨rfl, a2, b2, c2⟩ := hw2
  have hP : va_P (dC, dI) vwCl (mW ad N cI cZ cJ (wA (wA v 0 47 (((v.1 0 47)) + (1 : Int32))) 0 48 (((v.1 0 48)) + (1 : Int32)))) H := hP
  have hD : va_D A (mW ad N cI cZ cJ (wA (wA v 0 47 (((v.1 0 47)) + (1 : Int32))) 0 48 (((v.1 0 48)) + (1 : Int32)))) := hD
  refine W.widen (k := 0) (n := 0) (Nat.le_refl _) (Nat.le_refl _) ?_
  refine lv_aload_n hx hb dX13_index_6 rfl (lv_at hl 0 rfl) ?_
  obtain ⟨n5, hn6⟩ : ∃ m, n = m + 1 := ex_z (by omega)
  refine cux_v (rx_V (n := 0) (As := []) (rest := []) hx hb hml hown ht hKK hFx hP hD hS hA (ihE n5 hn6 dC dI cI cB cZ cJ cR tb H.size ad N (wA (wA v 0 47 (((v.1 0 47)) + (1 : Int32))) 0 48 (((v.1 0 48)) + (1 : Int32)))  (show 40 ≤ ((((((v.1 0 48)) + (1 : Int32)))) + (1 : Int32)).toInt + (n5 : Int) from (by omega)) (show 0 ≤ ((((((v.1 0 47)) + (1 : Int32)))) + (1 : Int32)).toInt ∧ ((((((v.1 0 47)) + (1 : Int32)))) + (1 : Int32)).toInt ≤ 1500 from (by omega)) (show 0 ≤ ((((((v.1 0 48)) + (1 : Int32)))) + (1 : Int32)).toInt ∧ ((((((v.1 0 48)) + (1 : Int32)))) + (1 : Int32)).toInt ≤ 40 from (by omega)) (show 0 ≤ ((v.1 0 30)).toInt ∧ ((v.1 0 30)).toInt ≤ 500 from (by omega)) (show 0 ≤ ((v.1 0 33)).toInt ∧ ((v.1 0 33)).toInt ≤ 500 from (by omega)) (show 0 ≤ ((v.1 0 32)).toInt ∧ ((v.1 0 30)).toInt + ((v.1 0 32)).toInt ≤ ((v.1 0 33)).toInt from (by omega)) (show 0 ≤ ((v.1 0 12)).toInt ∧ ((v.1 0 12)).toInt ≤ 15 * ((((((v.1 0 47)) + (1 : Int32)))) + (1 : Int32)).toInt + 2 from (by omega)) (show 0 ≤ ((v.1 0 15)).toInt ∧ ((v.1 0 15)).toInt ≤ 10 * ((((((v.1 0 47)) + (1 : Int32)))) + (1 : Int32)).toInt + 0 from (by omega)) (show 0 ≤ ((v.1 0 43)).toInt ∧ ((v.1 0 43)).toInt ≤ 15 * ((((((v.1 0 47)) + (1 : Int32)))) + (1 : Int32)).toInt + 0 from (by omega)) (show 0 ≤ ((v.1 0 39)).toInt ∧ ((v.1 0 39)).toInt ≤ 1 * ((((((v.1 0 47)) + (1 : Int32)))) + (1 : Int32)).toInt + 0 from (by omega)) (show 0 ≤ ((v.1 0 27)).toInt ∧ ((v.1 0 27)).toInt ≤ 60 from (by omega)) (show TI (wA (wA v 0 47 (((v.1 0 47)) + (1 : Int32))) 0 48 (((v.1 0 48)) + (1 : Int32))) from FG.ti (fl := pfl) (al := pal) (FG.f (FG.f (FG.rf _) (((v.1 0 47)) + (1 : Int32)) (by decide)) (((v.1 0 48)) + (1 : Int32)) (by decide)) (by decide) (by decide) hT) (show AR 29 0 1500 (wA (wA v 0 47 (((v.1 0 47)) + (1 : Int32))) 0 48 (((v.1 0 48)) + (1 : Int32))) from (AR.o (AR.o a29 (by decide)) (by decide))) (show AR 23 0 1500 (wA (wA v 0 47 (((v.1 0 47)) + (1 : Int32))) 0 48 (((v.1 0 48)) + (1 : Int32))) from (AR.o (AR.o a23 (by decide)) (by decide))) (show AR 35 0 1500 (wA (wA v 0 47 (((v.1 0 47)) + (1 : Int32))) 0 48 (((v.1 0 48)) + (1 : Int32))) from (AR.o (AR.o a35 (by decide)) (by decide))) (show AR 37 0 23999 (wA (wA v 0 47 (((v.1 0 47)) + (1 : Int32))) 0 48 (((v.1 0 48)) + (1 : Int32))) from (AR.o (AR.o a37 (by decide)) (by decide))) (show AR 38 0 15999 (wA (wA v 0 47 (((v.1 0 47)) + (1 : Int32))) 0 48 (((v.1 0 48)) + (1 : Int32))) from (AR.o (AR.o a38 (by decide)) (by decide))) (show AR 40 0 23999 (wA (wA v 0 47 (((v.1 0 47)) + (1 : Int32))) 0 48 (((v.1 0 48)) + (1 : Int32))) from (AR.o (AR.o a40 (by decide)) (by decide))) (show FX (wA (wA v 0 47 (((v.1 0 47)) + (1 : Int32))) 0 48 (((v.1 0 48)) + (1 : Int32))) from (FX.o (FX.o fx (by decide) (by decide)) (by decide) (by decide))) (show GF (wA (wA v 0 47 (((v.1 0 47)) + (1 : Int32))) 0 48 (((v.1 0 48)) + (1 : Int32))) from (GF.of (GF.of gf (by decide)) (by decide)))) tw_80 tw_81 (by decide +kernel) rfl rfl ⟨show (40 * n5 + 36) + 1 ≤ 40 * n + 6 from (om_a8c331ff68 hn6), show 8 + (1 + 11) + 28 * (40 * n5 + 36) ≤ 28 * (40 * n + 6) from (om_93090b8001 hn6)⟩ (List.range (mW ad N cI cZ cJ (wA (wA v 0 47 (((v.1 0 47)) + (1 : Int32))) 0 48 (((v.1 0 48)) + (1 : Int32)))).length) (rg_map _) (mW_nd _ _ _ _ _ _) rfl rfl rfl rfl hl.1 rfl (Nat.le_of_ble_eq_true rfl) dX13_index_7 ⟨Nat.le_of_ble_eq_true rfl, Nat.le_of_ble_eq_true rfl⟩) hP hD hS hA (fun u9 ce9 q9 H locs hx9 hP hD hS hc9 hv9 hf9 => ?_) (fun u8 H locs hw7 hP hD hS => ?_)
  · exact vx_out (fun x h9 => (hnt x h9).elim) hlocks hc9 hv9 hf9 (fun t9 ht9 hv8 => ⟨u9, ⟨FG.tr (FG.f (FG.f (FG.rf _) (((v.1 0 47)) + (1 : Int32)) (by decide)) (((v.1 0 48)) + (1 : Int32)) (by decide)) hx9.1, fun hiv => hx9.2 (IV.o (IV.o hiv (by decide)) (by decide))⟩, ⟨rfl, by rw [ht9]; exact hP, hD⟩, hS.F ht9⟩) hS.2.2 (Nat.le_refl _) (Nat.le_refl _)
  obtain ⟨fr7, pt7, pb7, pw7, po7, pf7, pk7, pp7, ph7, kc7, ko7, kg7, k367, k387, a357, a377, a387, a407, fx7, iv7, sg7⟩ := hw7
  have pt7 : ((((((v.1 0 47)) + (1 : Int32)))) + (1 : Int32)).toInt + 1 ≤ (u8.1 0 47).toInt ∧ (u8.1 0 47).toInt ≤ 1500 := pt7
  have pb7 : ((v.1 0 49)).toInt ≠ ((((((v.1 0 47)) + (1 : Int32)))) + (1 : Int32)).toInt := pb7
  have pw7 : ((v.1 0 12)).toInt ≤ (u8.1 0 12).toInt ∧ (u8.1 0 12).toInt - 15 * (u8.1 0 47).toInt ≤ ((v.1 0 12)).toInt - 15 * ((((((v.1 0 47)) + (1 : Int32)))) + (1 : Int32)).toInt := pw7
  have po7 : ((v.1 0 15)).toInt ≤ (u8.1 0 15).toInt ∧ (u8.1 0 15).toInt - 10 * (u8.1 0 47).toInt ≤ ((v.1 0 15)).toInt - 10 * ((((((v.1 0 47)) + (1 : Int32)))) + (1 : Int32)).toInt := po7
  have pf7 : ((v.1 0 43)).toInt ≤ (u8.1 0 43).toInt ∧ (u8.1 0 43).toInt - 15 * (u8.1 0 47).toInt ≤ ((v.1 0 43)).toInt - 15 * ((((((v.1 0 47)) + (1 : Int32)))) + (1 : Int32)).toInt := pf7
  have pk7 : ((v.1 0 39)).toInt ≤ (u8.1 0 39).toInt ∧ (u8.1 0 39).toInt - 1 * (u8.1 0 47).toInt ≤ ((v.1 0 39)).toInt - 1 * ((((((v.1 0 47)) + (1 : Int32)))) + (1 : Int32)).toInt := pk7
  have pp7 : (u8.1 0 32).toInt = ((v.1 0 32)).toInt ∧ (u8.1 0 48).toInt = ((((((v.1 0 48)) + (1 : Int32)))) + (1 : Int32)).toInt := pp7
  have ph7 : ((v.1 0 33)).toInt ≤ (u8.1 0 33).toInt ∧ (u8.1 0 33).toInt ≤ 500 := ph7
  have kc7 : ∀ j : Nat, (j : Int) < ((v.1 0 12)).toInt → (u8.1 11) j = (v.1 11) j := kc7
  have ko7 : ∀ j : Nat, (j : Int) < ((v.1 0 15)).toInt → (u8.1 13) j = (v.1 13) j := ko7
  have kg7 : ∀ j : Nat, (j : Int) < ((v.1 0 15)).toInt → (u8.1 14) j = (v.1 14) j := kg7
  have k367 : ∀ j : Nat, (j : Int) < ((v.1 0 39)).toInt → (u8.1 36) j = (v.1 36) j := k367
  have k387 : ∀ j : Nat, (j : Int) < ((v.1 0 39)).toInt → (u8.1 38) j = (v.1 38) j := k387
  have a357 : AR 35 0 1500 u8 := a357
  have a377 : AR 37 0 23999 u8 := a377
  have a387 : AR 38 0 15999 u8 := a387
  have a407 : AR 40 0 23999 u8 := a407
  have fx7 : FX u8 := fx7
  have iv7 : IV (wA (wA v 0 47 (((v.1 0 47)) + (1 : Int32))) 0 48 (((v.1 0 48)) + (1 : Int32))) → IV u8 := iv7
  have sg7 : SGE ((v.1 0 30)).toInt ((v.1 0 28)).toInt ((v.1 0 27)).toInt (u8.1 13) (u8.1 14) (u8.1 36) (u8.1 38) ((v.1 0 15)).toNatClampNeg (u8.1 0 15).toNatClampNeg ((v.1 0 39)).toNatClampNeg (u8.1 0 39).toNatClampNeg [] [false] (1 + (u8.1 0 33).toInt - ((v.1 0 30)).toInt - ((v.1 0 32)).toInt) [] := sg7
  have sg10 : SGE (v.1 0 30).toInt (v.1 0 28).toInt (v.1 0 27).toInt (u8.1 13) (u8.1 14) (u8.1 36) (u8.1 38) (v.1 0 15).toNatClampNeg (u8.1 0 15).toNatClampNeg (v.1 0 39).toNatClampNeg (u8.1 0 39).toNatClampNeg [] [false] (1 + (u8.1 0 33).toInt - (v.1 0 30).toInt - (v.1 0 32).toInt) [] := SGE.cat [] (SGE.to sg1 (kzN ko7) (kzN kg7) (fun j9 _ h9 => kzN k367 j9 h9) (fun j9 _ h9 => kzN k387 j9 h9) rfl rfl (Int.le_refl _)) (SGE.par sg7 rfl rfl rfl) rfl rfl (show 1 + (v.1 0 33).toInt - (v.1 0 30).toInt - (v.1 0 32).toInt ≤ 1 + (u8.1 0 33).toInt - (v.1 0 30).toInt - (v.1 0 32).toInt from (by omega)) (cat_le (by decide) (by omega))
  refine W.widen (k := 0) (n := 0) (Nat.le_refl _) (Nat.le_refl _) ?_
  refine lv_aload_n hx hb dX13_index_10 rfl (lv_at hl 0 rfl) ?_
  refine lv_bipush (v := 93) hx hb dX13_index_11 (by decide) ?_
  refine cux_v (rx_V (n := 1) (As := [.int 93]) (rest := []) hx hb hml hown ht hKK hFx hP hD hS hA (c_m_close l dC dI cI cB cZ cJ cR tb H.size ad N u8 (93 : Int32) (show 0 ≤ (u8.1 0 47).toInt ∧ (u8.1 0 47).toInt ≤ 1500 from (by omega)) (show 0 ≤ (u8.1 0 48).toInt ∧ (u8.1 0 48).toInt ≤ 40 from (by omega))) tw_82 tw_83 (by decide +kernel) rfl rfl ⟨show 3 + 1 ≤ 40 * n + 6 from om_c9931a82b5, show 8 + (2 + 11) + 64 ≤ 28 * (40 * n + 6) from om_de350190fe⟩ (List.range (mW ad N cI cZ cJ u8).length) (rg_map _) (mW_nd _ _ _ _ _ _) rfl rfl rfl rfl hl.1 rfl (Nat.le_of_ble_eq_true rfl) dX13_index_13 ⟨Nat.le_of_ble_eq_true rfl, Nat.le_of_ble_eq_true rfl⟩) hP hD hS hA (fun u9 ce9 q9 H locs hx9 hP hD hS hc9 hv9 hf9 => ?_) (fun u12 H locs hw11 hP hD hS => ?_)
  · exact vx_out (fun x h9 => (hnt x h9).elim) hlocks hc9 hv9 hf9 (fun t9 ht9 hv8 => ⟨u9, ⟨FG.tr (FG.tr (FG.f (FG.f (FG.rf _) (((v.1 0 47)) + (1 : Int32)) (by decide)) (((v.1 0 48)) + (1 : Int32)) (by decide)) (FG.up fr7 (by decide) (by decide))) hx9.1, fun hiv => hx9.2 (iv7 (IV.o (IV.o hiv (by decide)) (by decide)))⟩, ⟨rfl, by rw [ht9]; exact hP, hD⟩, hS.F ht9⟩) hS.2.2 (Nat.le_refl _) (Nat.le_refl _)
  obtain ⟨rfl, a11, c11⟩ := hw11
  have hP : va_P (dC, dI) vwCl (mW ad N cI cZ cJ (wA (wA u8 0 47 ((u8.1 0 47) + (1 : Int32))) 0 48 ((u8.1 0 48) - (1 : Int32)))) H := hP
  have hD : va_D A (mW ad N cI cZ cJ (wA (wA u8 0 47 ((u8.1 0 47) + (1 : Int32))) 0 48 ((u8.1 0 48) - (1 : Int32)))) := hD
  have a11 : (u8.1 0 47).toInt < 1500 := a11
  have c11 : (u8.1 0 49).toInt ≠ (u8.1 0 47).toInt := c11
  refine W.widen (k := 0) (n := 0) (Nat.le_refl _) (Nat.le_refl _) ?_
  refine lv_aload_n hx hb dX13_index_16 rfl (lv_at hl 0 rfl) ?_
  refine va_get (D := (dC, dI)) (ci := 16) (fs := mF ad (wA (wA u8 0 47 ((u8.1 0 47) + (1 : Int32))) 0 48 ((u8.1 0 48) - (1 : Int32)))) (v := .ref (ad 24)) (C := RX13) (T := TX13) (N := 124) hx hb ht itX13 hown hK hP 0 rfl rfl 24 (by decide) (ht _ tw_84) (fun _ h9 => h9) rfl dX13_index_17 ?_
  refine lv_iload_n hx hb dX13_index_20 rfl (lv_at hl 1 rfl) ?_
  refine va_iald (D := (dC, dI)) (f := (u8.1 24)) hx hb hK hP 18 0 rfl rfl (in_y (a := pa.toInt) (b := 60) rfl (om_67c5e46d7f zg) (om_f61daeb73e zgl zg) rfl) dX13_index_21 ?_
  refine lv_istore_n (lv' := [(2, .int ((u8.1 24) pa.toNatClampNeg)), (0, .ref (ad 0)), (1, .int pa)]) hx hb dX13_index_22 rfl hl (by decide) rfl (fun ls hl => ?_)
  refine lv_aload_n hx hb dX13_index_23 rfl (lv_at hl 1 rfl) ?_
  refine lv_bipush (v := 6) hx hb dX13_index_24 (by decide) ?_
  refine lv_iload_n hx hb dX13_index_26 rfl (lv_at hl 0 rfl) ?_
  refine cu_s (mW_nd _ _ _ _ _ _) (rn_S (n := 1) (As := [.int ((u8.1 24) pa.toNatClampNeg)]) (rest := [.int 6, .ref (ad 0)]) hx hb hml hown ht hKK hFx hP hD hS hA (c_m_hi l dC dI cI cB cZ cJ cR tb H.size ((u8.1 24) pa.toNatClampNeg) ) tw_0 tw_1 (by decide +kernel) rfl rfl ⟨show 0 + 1 ≤ 40 * n + 6 from om_19dfed8989, show 8 + (1 + 11) + 0 ≤ 28 * (40 * n + 6) from om_213884e4e8⟩ [] rfl rfl rfl hl.1 rfl (Nat.le_of_ble_eq_true rfl) dX13_index_27 ⟨Nat.le_of_ble_eq_true rfl, Nat.le_of_ble_eq_true rfl⟩) hP hD hS hA (fun r16 H locs hw14 hP hD hS => ?_)
  refine W.widen (k := 0) (n := 0) (Nat.le_refl _) (Nat.le_refl _) ?_
  refine cu_s (mW_nd _ _ _ _ _ _) (rn_S (n := 2) (As := [.int 6, .int r16]) (rest := [.ref (ad 0)]) hx hb hml hown ht hKK hFx hP hD hS hA (c_m_lui l dC dI cI cB cZ cJ cR tb H.size (6 : Int32) r16 ) tw_61 tw_62 (by decide +kernel) rfl rfl ⟨show 0 + 1 ≤ 40 * n + 6 from om_19dfed8989, show 8 + (2 + 11) + 0 ≤ 28 * (40 * n + 6) from om_37bd887971⟩ [] rfl rfl rfl hl.1 rfl (Nat.le_of_ble_eq_true rfl) dX13_index_30 ⟨Nat.le_of_ble_eq_true rfl, Nat.le_of_ble_eq_true rfl⟩) hP hD hS hA (fun r19 H locs hw17 hP hD hS => ?_)
  refine W.widen (k := 0) (n := 0) (Nat.le_refl _) (Nat.le_refl _) ?_
  refine cu_i (rn_V (n := 1) (As := [.int r19]) (rest := []) hx hb hml hown ht hKK hFx hP hD hS hA (c_m_emit l dC dI cI cB cZ cJ cR tb H.size ad N (wA (wA u8 0 47 ((u8.1 0 47) + (1 : Int32))) 0 48 ((u8.1 0 48) - (1 : Int32))) r19 (show 0 ≤ (u8.1 0 12).toInt ∧ (u8.1 0 12).toInt < 24000 from (by omega))) tw_8 tw_9 (by decide +kernel) rfl rfl ⟨show 0 + 1 ≤ 40 * n + 6 from om_19dfed8989, show 8 + (2 + 11) + 0 ≤ 28 * (40 * n + 6) from om_37bd887971⟩ (List.range (mW ad N cI cZ cJ (wA (wA u8 0 47 ((u8.1 0 47) + (1 : Int32))) 0 48 ((u8.1 0 48) - (1 : Int32)))).length) (rg_map _) (mW_nd _ _ _ _ _ _) rfl rfl rfl rfl hl.1 rfl (Nat.le_of_ble_eq_true rfl) dX13_index_33 ⟨Nat.le_of_ble_eq_true rfl, Nat.le_of_ble_eq_true rfl⟩) hP hD hS hA (fun r22 u21 H locs hw20 hP hD hS => ?_)
  obtain ⟨rfl, rfl⟩ := hw20
  have hP : va_P (dC, dI) vwCl (mW ad N cI cZ cJ (wA (wA (wA (wA u8 0 47 ((u8.1 0 47) + (1 : Int32))) 0 48 ((u8.1 0 48) - (1 : Int32))) 11 ((u8.1 0 12).toNatClampNeg) r19) 0 12 ((u8.1 0 12) + (1 : Int32)))) H := hP
  have hD : va_D A (mW ad N cI cZ cJ (wA (wA (wA (wA u8 0 47 ((u8.1 0 47) + (1 : Int32))) 0 48 ((u8.1 0 48) - (1 : Int32))) 11 ((u8.1 0 12).toNatClampNeg) r19) 0 12 ((u8.1 0 12) + (1 : Int32)))) := hD
  refine tp_i (y := (u8.1 0 12)) (rfl) ?_
  refine W.widen (k := 0) (n := 0) (Nat.le_refl _) (Nat.le_refl _) ?_
  refine lv_pop hx hb dX13_index_36 rfl ?_
  refine lv_aload_n hx hb dX13_index_37 rfl (lv_at hl 1 rfl) ?_
  refine lv_bipush (v := 6) hx hb dX13_index_38 (by decide) ?_
  refine lv_bipush (v := 6) hx hb dX13_index_40 (by decide) ?_
  refine lv_iload_n hx hb dX13_index_42 rfl (lv_at hl 0 rfl) ?_
  refine cu_s (mW_nd _ _ _ _ _ _) (rn_S (n := 1) (As := [.int ((u8.1 24) pa.toNatClampNeg)]) (rest := [.int 6, .int 6, .ref (ad 0)]) hx hb hml hown ht hKK hFx hP hD hS hA (c_m_lo l dC dI cI cB cZ cJ cR tb H.size ((u8.1 24) pa.toNatClampNeg) ) tw_63 tw_64 (by decide +kernel) rfl rfl ⟨show 1 + 1 ≤ 40 * n + 6 from om_aa70640b3b, show 8 + (1 + 11) + 20 ≤ 28 * (40 * n + 6) from om_949877a014⟩ [] rfl rfl rfl hl.1 rfl (Nat.le_of_ble_eq_true rfl) dX13_index_43 ⟨Nat.le_of_ble_eq_true rfl, Nat.le_of_ble_eq_true rfl⟩) hP hD hS hA (fun r25 H locs hw23 hP hD hS => ?_)
  refine W.widen (k := 0) (n := 0) (Nat.le_refl _) (Nat.le_refl _) ?_
  refine cu_s (mW_nd _ _ _ _ _ _) (rn_S (n := 3) (As := [.int 6, .int 6, .int r25]) (rest := [.ref (ad 0)]) hx hb hml hown ht hKK hFx hP hD hS hA (c_m_addi l dC dI cI cB cZ cJ cR tb H.size (6 : Int32) (6 : Int32) r25 ) tw_65 tw_66 (by decide +kernel) rfl rfl ⟨show 1 + 1 ≤ 40 * n + 6 from om_aa70640b3b, show 8 + (3 + 11) + 24 ≤ 28 * (40 * n + 6) from om_6539950522⟩ [] rfl rfl rfl hl.1 rfl (Nat.le_of_ble_eq_true rfl) dX13_index_46 ⟨Nat.le_of_ble_eq_true rfl, Nat.le_of_ble_eq_true rfl⟩) hP hD hS hA (fun r28 H locs hw26 hP hD hS => ?_)
  refine W.widen (k := 0) (n := 0) (Nat.le_refl _) (Nat.le_refl _) ?_
  refine cu_i (rn_V (n := 1) (As := [.int r28]) (rest := []) hx hb hml hown ht hKK hFx hP hD hS hA (c_m_emit l dC dI cI cB cZ cJ cR tb H.size ad N (wA (wA (wA (wA u8 0 47 ((u8.1 0 47) + (1 : Int32))) 0 48 ((u8.1 0 48) - (1 : Int32))) 11 ((u8.1 0 12).toNatClampNeg) r19) 0 12 ((u8.1 0 12) + (1 : Int32))) r28 (show 0 ≤ ((u8.1 0 12) + (1 : Int32)).toInt ∧ ((u8.1 0 12) + (1 : Int32)).toInt < 24000 from (by omega))) tw_8 tw_9 (by decide +kernel) rfl rfl ⟨show 0 + 1 ≤ 40 * n + 6 from om_19dfed8989, show 8 + (2 + 11) + 0 ≤ 28 * (40 * n + 6) from om_37bd887971⟩ (List.range (mW ad N cI cZ cJ (wA (wA (wA (wA u8 0 47 ((u8.1 0 47) + (1 : Int32))) 0 48 ((u8.1 0 48) - (1 : Int32))) 11 ((u8.1 0 12).toNatClampNeg) r19) 0 12 ((u8.1 0 12) + (1 : Int32)))).length) (rg_map _) (mW_nd _ _ _ _ _ _) rfl rfl rfl rfl hl.1 rfl (Nat.le_of_ble_eq_true rfl) dX13_index_49 ⟨Nat.le_of_ble_eq_true rfl, Nat.le_of_ble_eq_true rfl⟩) hP hD hS hA (fun r31 u30 H locs hw29 hP hD hS => ?_)
  obtain ⟨rfl, rfl⟩ := hw29
  have hP : va_P (dC, dI) vwCl (mW ad N cI cZ cJ (wA (wA (wA (wA (wA (wA u8 0 47 ((u8.1 0 47) + (1 : Int32))) 0 48 ((u8.1 0 48) - (1 : Int32))) 11 ((u8.1 0 12).toNatClampNeg) r19) 0 12 ((u8.1 0 12) + (1 : Int32))) 11 (((u8.1 0 12) + (1 : Int32)).toNatClampNeg) r28) 0 12 (((u8.1 0 12) + (1 : Int32)) + (1 : Int32)))) H := hP
  have hD : va_D A (mW ad N cI cZ cJ (wA (wA (wA (wA (wA (wA u8 0 47 ((u8.1 0 47) + (1 : Int32))) 0 48 ((u8.1 0 48) - (1 : Int32))) 11 ((u8.1 0 12).toNatClampNeg) r19) 0 12 ((u8.1 0 12) + (1 : Int32))) 11 (((u8.1 0 12) + (1 : Int32)).toNatClampNeg) r28) 0 12 (((u8.1 0 12) + (1 : Int32)) + (1 : Int32)))) := hD
  refine tp_i (y := ((u8.1 0 12) + (1 : Int32))) (rfl) ?_
  refine W.widen (k := 0) (n := 0) (Nat.le_refl _) (Nat.le_refl _) ?_
  refine lv_pop hx hb dX13_index_52 rfl ?_
  refine lv_aload_n hx hb dX13_index_53 rfl (lv_at hl 1 rfl) ?_
  refine lv_bipush (v := 6) hx hb dX13_index_54 (by decide) ?_
  refine lv_bipush (v := 10) hx hb dX13_index_56 (by decide) ?_
  refine lv_bipush (v := 6) hx hb dX13_index_58 (by decide) ?_
  refine lv_bipush (v := 12) hx hb dX13_index_60 (by decide) ?_
  refine cu_s (mW_nd _ _ _ _ _ _) (rn_S (n := 4) (As := [.int 6, .int 10, .int 6, .int 12]) (rest := [.ref (ad 0)]) hx hb hml hown ht hKK hFx hP hD hS hA (c_m_byB l dC dI cI cB cZ cJ cR tb H.size (6 : Int32) (10 : Int32) (6 : Int32) (12 : Int32) ) tw_85 tw_86 (by decide +kernel) rfl rfl ⟨show 0 + 1 ≤ 40 * n + 6 from om_19dfed8989, show 8 + (4 + 11) + 0 ≤ 28 * (40 * n + 6) from om_651bdf9b58⟩ [] rfl rfl rfl hl.1 rfl (Nat.le_of_ble_eq_true rfl) dX13_index_62 ⟨Nat.le_of_ble_eq_true rfl, Nat.le_of_ble_eq_true rfl⟩) hP hD hS hA (fun r34 H locs hw32 hP hD hS => ?_)
  refine W.widen (k := 0) (n := 0) (Nat.le_refl _) (Nat.le_refl _) ?_
  refine cu_i (rn_V (n := 1) (As := [.int r34]) (rest := []) hx hb hml hown ht hKK hFx hP hD hS hA (c_m_emit l dC dI cI cB cZ cJ cR tb H.size ad N (wA (wA (wA (wA (wA (wA u8 0 47 ((u8.1 0 47) + (1 : Int32))) 0 48 ((u8.1 0 48) - (1 : Int32))) 11 ((u8.1 0 12).toNatClampNeg) r19) 0 12 ((u8.1 0 12) + (1 : Int32))) 11 (((u8.1 0 12) + (1 : Int32)).toNatClampNeg) r28) 0 12 (((u8.1 0 12) + (1 : Int32)) + (1 : Int32))) r34 (show 0 ≤ (((u8.1 0 12) + (1 : Int32)) + (1 : Int32)).toInt ∧ (((u8.1 0 12) + (1 : Int32)) + (1 : Int32)).toInt < 24000 from (by omega))) tw_8 tw_9 (by decide +kernel) rfl rfl ⟨show 0 + 1 ≤ 40 * n + 6 from om_19dfed8989, show 8 + (2 + 11) + 0 ≤ 28 * (40 * n + 6) from om_37bd887971⟩ (List.range (mW ad N cI cZ cJ (wA (wA (wA (wA (wA (wA u8 0 47 ((u8.1 0 47) + (1 : Int32))) 0 48 ((u8.1 0 48) - (1 : Int32))) 11 ((u8.1 0 12).toNatClampNeg) r19) 0 12 ((u8.1 0 12) + (1 : Int32))) 11 (((u8.1 0 12) + (1 : Int32)).toNatClampNeg) r28) 0 12 (((u8.1 0 12) + (1 : Int32)) + (1 : Int32)))).length) (rg_map _) (mW_nd _ _ _ _ _ _) rfl rfl rfl rfl hl.1 rfl (Nat.le_of_ble_eq_true rfl) dX13_index_65 ⟨Nat.le_of_ble_eq_true rfl, Nat.le_of_ble_eq_true rfl⟩) hP hD hS hA (fun r37 u36 H locs hw35 hP hD hS => ?_)
  obtain ⟨rfl, rfl⟩ := hw35
  have hP : va_P (dC, dI) vwCl (mW ad N cI cZ cJ (wA (wA (wA (wA (wA (wA (wA (wA u8 0 47 ((u8.1 0 47) + (1 : Int32))) 0 48 ((u8.1 0 48) - (1 : Int32))) 11 ((u8.1 0 12).toNatClampNeg) r19) 0 12 ((u8.1 0 12) + (1 : Int32))) 11 (((u8.1 0 12) + (1 : Int32)).toNatClampNeg) r28) 0 12 (((u8.1 0 12) + (1 : Int32)) + (1 : Int32))) 11 ((((u8.1 0 12) + (1 : Int32)) + (1 : Int32)).toNatClampNeg) r34) 0 12 ((((u8.1 0 12) + (1 : Int32)) + (1 : Int32)) + (1 : Int32)))) H := hP
  have hD : va_D A (mW ad N cI cZ cJ (wA (wA (wA (wA (wA (wA (wA (wA u8 0 47 ((u8.1 0 47) + (1 : Int32))) 0 48 ((u8.1 0 48) - (1 : Int32))) 11 ((u8.1 0 12).toNatClampNeg) r19) 0 12 ((u8.1 0 12) + (1 : Int32))) 11 (((u8.1 0 12) + (1 : Int32)).toNatClampNeg) r28) 0 12 (((u8.1 0 12) + (1 : Int32)) + (1 : Int32))) 11 ((((u8.1 0 12) + (1 : Int32)) + (1 : Int32)).toNatClampNeg) r34) 0 12 ((((u8.1 0 12) + (1 : Int32)) + (1 : Int32)) + (1 : Int32)))) := hD
  refine tp_i (y := (((u8.1 0 12) + (1 : Int32)) + (1 : Int32))) (rfl) ?_
  refine W.widen (k := 0) (n := 0) (Nat.le_refl _) (Nat.le_refl _) ?_
  obtain ⟨u38, hu39⟩ : ∃ z, z = (wA (wA (wA (wA (wA (wA (wA (wA u8 0 47 ((u8.1 0 47) + (1 : Int32))) 0 48 ((u8.1 0 48) - (1 : Int32))) 11 ((u8.1 0 12).toNatClampNeg) r19) 0 12 ((u8.1 0 12) + (1 : Int32))) 11 (((u8.1 0 12) + (1 : Int32)).toNatClampNeg) r28) 0 12 (((u8.1 0 12) + (1 : Int32)) + (1 : Int32))) 11 ((((u8.1 0 12) + (1 : Int32)) + (1 : Int32)).toNatClampNeg) r34) 0 12 ((((u8.1 0 12) + (1 : Int32)) + (1 : Int32)) + (1 : Int32))) := ⟨_, rfl⟩
  have fr39 : FG [12, 47, 48] [0, 11] u8 u38 := by rw [hu39]; exact (FG.f (FG.a (FG.f (FG.a (FG.f (FG.a (FG.f (FG.f (FG.rf _) ((u8.1 0 47) + (1 : Int32)) (by decide)) ((u8.1 0 48) - (1 : Int32)) (by decide)) ((u8.1 0 12).toNatClampNeg) r19 (by decide) (by decide)) ((u8.1 0 12) + (1 : Int32)) (by decide)) (((u8.1 0 12) + (1 : Int32)).toNatClampNeg) r28 (by decide) (by decide)) (((u8.1 0 12) + (1 : Int32)) + (1 : Int32)) (by decide)) ((((u8.1 0 12) + (1 : Int32)) + (1 : Int32)).toNatClampNeg) r34 (by decide) (by decide)) ((((u8.1 0 12) + (1 : Int32)) + (1 : Int32)) + (1 : Int32)) (by decide))
  have kc39 : ∀ j : Nat, (j : Int) < (v.1 0 12).toInt → (u38.1 11) j = (v.1 11) j := by rw [hu39]; exact (fun (j9 : Nat) hj9 => (Eq.trans (pk_un3 (a := (((u8.1 0 12) + (1 : Int32)) + (1 : Int32)).toInt) rfl (by omega) (by omega)) (Eq.trans (pk_un3 (a := ((u8.1 0 12) + (1 : Int32)).toInt) rfl (by omega) (by omega)) (Eq.trans (pk_un3 (a := (u8.1 0 12).toInt) rfl (by omega) (by omega)) (kc7 j9 (om_4fe904e9bf hj9))))))
  rw [← hu39] at hP hD
  have sg40 : SGE (v.1 0 30).toInt (v.1 0 28).toInt (v.1 0 27).toInt (u38.1 13) (u38.1 14) (u38.1 36) (u38.1 38) (v.1 0 15).toNatClampNeg (u38.1 0 15).toNatClampNeg (v.1 0 39).toNatClampNeg (u38.1 0 39).toNatClampNeg [] [false] (1 + (u8.1 0 33).toInt - (v.1 0 30).toInt - (v.1 0 32).toInt) [] := by rw [hu39]; exact sg10
  refine lv_pop hx hb dX13_index_68 rfl ?_
  refine lv_aload_n hx hb dX13_index_69 rfl (lv_at hl 1 rfl) ?_
  refine lv_bipush (v := 17) hx hb dX13_index_70 (by decide) ?_
  refine lv_iconst (v := 0) hx hb dX13_index_72 (by decide) ?_
  refine lv_iconst (v := 3) hx hb dX13_index_73 (by decide) ?_
  refine cu_s (mW_nd _ _ _ _ _ _) (rn_S (n := 3) (As := [.int 17, .int 0, .int 3]) (rest := [.ref (ad 0)]) hx hb hml hown ht hKK hFx hP hD hS hA (c_m_addi l dC dI cI cB cZ cJ cR tb H.size (17 : Int32) (0 : Int32) (3 : Int32) ) tw_65 tw_66 (by decide +kernel) rfl rfl ⟨show 1 + 1 ≤ 40 * n + 6 from om_aa70640b3b, show 8 + (3 + 11) + 24 ≤ 28 * (40 * n + 6) from om_6539950522⟩ [] rfl rfl rfl hl.1 rfl (Nat.le_of_ble_eq_true rfl) dX13_index_74 ⟨Nat.le_of_ble_eq_true rfl, Nat.le_of_ble_eq_true rfl⟩) hP hD hS hA (fun r43 H locs hw41 hP hD hS => ?_)
  refine W.widen (k := 0) (n := 0) (Nat.le_refl _) (Nat.le_refl _) ?_
  refine cu_i (rn_V (n := 1) (As := [.int r43]) (rest := []) hx hb hml hown ht hKK hFx hP hD hS hA (c_m_emit l dC dI cI cB cZ cJ cR tb H.size ad N u38 r43 (show 0 ≤ (u38.1 0 12).toInt ∧ (u38.1 0 12).toInt < 24000 from (by omega))) tw_8 tw_9 (by decide +kernel) rfl rfl ⟨show 0 + 1 ≤ 40 * n + 6 from om_19dfed8989, show 8 + (2 + 11) + 0 ≤ 28 * (40 * n + 6) from om_37bd887971⟩ (List.range (mW ad N cI cZ cJ u38).length) (rg_map _) (mW_nd _ _ _ _ _ _) rfl rfl rfl rfl hl.1 rfl (Nat.le_of_ble_eq_true rfl) dX13_index_77 ⟨Nat.le_of_ble_eq_true rfl, Nat.le_of_ble_eq_true rfl⟩) hP hD hS hA (fun r46 u45 H locs hw44 hP hD hS => ?_)
  obtain ⟨rfl, rfl⟩ := hw44
  have hP : va_P (dC, dI) vwCl (mW ad N cI cZ cJ (wA (wA u38 11 ((u38.1 0 12).toNatClampNeg) r43) 0 12 ((u38.1 0 12) + (1 : Int32)))) H := hP
  have hD : va_D A (mW ad N cI cZ cJ (wA (wA u38 11 ((u38.1 0 12).toNatClampNeg) r43) 0 12 ((u38.1 0 12) + (1 : Int32)))) := hD
  refine tp_i (y := (u38.1 0 12)) (rfl) ?_
  refine W.widen (k := 0) (n := 0) (Nat.le_refl _) (Nat.le_refl _) ?_
  refine lv_pop hx hb dX13_index_80 rfl ?_
  refine lv_aload_n hx hb dX13_index_81 rfl (lv_at hl 1 rfl) ?_
  refine lv_ldcw (v := 1048691) hx hb hown (ht _ tw_87) dX13_index_82 ?_
  refine cu_i (rn_V (n := 1) (As := [.int 1048691]) (rest := []) hx hb hml hown ht hKK hFx hP hD hS hA (c_m_emit l dC dI cI cB cZ cJ cR tb H.size ad N (wA (wA u38 11 ((u38.1 0 12).toNatClampNeg) r43) 0 12 ((u38.1 0 12) + (1 : Int32))) (1048691 : Int32) (show 0 ≤ ((u38.1 0 12) + (1 : Int32)).toInt ∧ ((u38.1 0 12) + (1 : Int32)).toInt < 24000 from (by omega))) tw_8 tw_9 (by decide +kernel) rfl rfl ⟨show 0 + 1 ≤ 40 * n + 6 from om_19dfed8989, show 8 + (2 + 11) + 0 ≤ 28 * (40 * n + 6) from om_37bd887971⟩ (List.range (mW ad N cI cZ cJ (wA (wA u38 11 ((u38.1 0 12).toNatClampNeg) r43) 0 12 ((u38.1 0 12) + (1 : Int32)))).length) (rg_map _) (mW_nd _ _ _ _ _ _) rfl rfl rfl rfl hl.1 rfl (Nat.le_of_ble_eq_true rfl) dX13_index_85 ⟨Nat.le_of_ble_eq_true rfl, Nat.le_of_ble_eq_true rfl⟩) hP hD hS hA (fun r49 u48 H locs hw47 hP hD hS => ?_)
  obtain ⟨rfl, rfl⟩ := hw47
  have hP : va_P (dC, dI) vwCl (mW ad N cI cZ cJ (wA (wA (wA (wA u38 11 ((u38.1 0 12).toNatClampNeg) r43) 0 12 ((u38.1 0 12) + (1 : Int32))) 11 (((u38.1 0 12) + (1 : Int32)).toNatClampNeg) (1048691 : Int32)) 0 12 (((u38.1 0 12) + (1 : Int32)) + (1 : Int32)))) H := hP
  have hD : va_D A (mW ad N cI cZ cJ (wA (wA (wA (wA u38 11 ((u38.1 0 12).toNatClampNeg) r43) 0 12 ((u38.1 0 12) + (1 : Int32))) 11 (((u38.1 0 12) + (1 : Int32)).toNatClampNeg) (1048691 : Int32)) 0 12 (((u38.1 0 12) + (1 : Int32)) + (1 : Int32)))) := hD
  refine tp_i (y := ((u38.1 0 12) + (1 : Int32))) (rfl) ?_
  refine W.widen (k := 0) (n := 0) (Nat.le_refl _) (Nat.le_refl _) ?_
  refine lv_pop hx hb dX13_index_88 rfl ?_
  refine lv_aload_n hx hb dX13_index_89 rfl (lv_at hl 1 rfl) ?_
  refine lv_bipush (v := 19) hx hb dX13_index_90 (by decide) ?_
  refine lv_iconst (v := 1) hx hb dX13_index_92 (by decide) ?_
  refine lv_bipush (v := 10) hx hb dX13_index_93 (by decide) ?_
  refine lv_bipush (v := 10) hx hb dX13_index_95 (by decide) ?_
  refine lv_iconst (v := 2) hx hb dX13_index_97 (by decide) ?_
  refine cu_s (mW_nd _ _ _ _ _ _) (rn_S (n := 5) (As := [.int 19, .int 1, .int 10, .int 10, .int 2]) (rest := [.ref (ad 0)]) hx hb hml hown ht hKK hFx hP hD hS hA (c_m_byI l dC dI cI cB cZ cJ cR tb H.size (19 : Int32) (1 : Int32) (10 : Int32) (10 : Int32) (2 : Int32) ) tw_2 tw_3 (by decide +kernel) rfl rfl ⟨show 0 + 1 ≤ 40 * n + 6 from om_19dfed8989, show 8 + (5 + 11) + 0 ≤ 28 * (40 * n + 6) from om_04b3c4a7b8⟩ [] rfl rfl rfl hl.1 rfl (Nat.le_of_ble_eq_true rfl) dX13_index_98 ⟨Nat.le_of_ble_eq_true rfl, Nat.le_of_ble_eq_true rfl⟩) hP hD hS hA (fun r52 H locs hw50 hP hD hS => ?_)
  refine W.widen (k := 0) (n := 0) (Nat.le_refl _) (Nat.le_refl _) ?_
  refine cu_i (rn_V (n := 1) (As := [.int r52]) (rest := []) hx hb hml hown ht hKK hFx hP hD hS hA (c_m_emit l dC dI cI cB cZ cJ cR tb H.size ad N (wA (wA (wA (wA u38 11 ((u38.1 0 12).toNatClampNeg) r43) 0 12 ((u38.1 0 12) + (1 : Int32))) 11 (((u38.1 0 12) + (1 : Int32)).toNatClampNeg) (1048691 : Int32)) 0 12 (((u38.1 0 12) + (1 : Int32)) + (1 : Int32))) r52 (show 0 ≤ (((u38.1 0 12) + (1 : Int32)) + (1 : Int32)).toInt ∧ (((u38.1 0 12) + (1 : Int32)) + (1 : Int32)).toInt < 24000 from (by omega))) tw_8 tw_9 (by decide +kernel) rfl rfl ⟨show 0 + 1 ≤ 40 * n + 6 from om_19dfed8989, show 8 + (2 + 11) + 0 ≤ 28 * (40 * n + 6) from om_37bd887971⟩ (List.range (mW ad N cI cZ cJ (wA (wA (wA (wA u38 11 ((u38.1 0 12).toNatClampNeg) r43) 0 12 ((u38.1 0 12) + (1 : Int32))) 11 (((u38.1 0 12) + (1 : Int32)).toNatClampNeg) (1048691 : Int32)) 0 12 (((u38.1 0 12) + (1 : Int32)) + (1 : Int32)))).length) (rg_map _) (mW_nd _ _ _ _ _ _) rfl rfl rfl rfl hl.1 rfl (Nat.le_of_ble_eq_true rfl) dX13_index_101 ⟨Nat.le_of_ble_eq_true rfl, Nat.le_of_ble_eq_true rfl⟩) hP hD hS hA (fun r55 u54 H locs hw53 hP hD hS => ?_)
  obtain ⟨rfl, rfl⟩ := hw53
  have hP : va_P (dC, dI) vwCl (mW ad N cI cZ cJ (wA (wA (wA (wA (wA (wA u38 11 ((u38.1 0 12).toNatClampNeg) r43) 0 12 ((u38.1 0 12) + (1 : Int32))) 11 (((u38.1 0 12) + (1 : Int32)).toNatClampNeg) (1048691 : Int32)) 0 12 (((u38.1 0 12) + (1 : Int32)) + (1 : Int32))) 11 ((((u38.1 0 12) + (1 : Int32)) + (1 : Int32)).toNatClampNeg) r52) 0 12 ((((u38.1 0 12) + (1 : Int32)) + (1 : Int32)) + (1 : Int32)))) H := hP
  have hD : va_D A (mW ad N cI cZ cJ (wA (wA (wA (wA (wA (wA u38 11 ((u38.1 0 12).toNatClampNeg) r43) 0 12 ((u38.1 0 12) + (1 : Int32))) 11 (((u38.1 0 12) + (1 : Int32)).toNatClampNeg) (1048691 : Int32)) 0 12 (((u38.1 0 12) + (1 : Int32)) + (1 : Int32))) 11 ((((u38.1 0 12) + (1 : Int32)) + (1 : Int32)).toNatClampNeg) r52) 0 12 ((((u38.1 0 12) + (1 : Int32)) + (1 : Int32)) + (1 : Int32)))) := hD
  refine tp_i (y := (((u38.1 0 12) + (1 : Int32)) + (1 : Int32))) (rfl) ?_
  refine W.widen (k := 0) (n := 0) (Nat.le_refl _) (Nat.le_refl _) ?_
  refine lv_pop hx hb dX13_index_104 rfl ?_
  refine lv_aload_n hx hb dX13_index_105 rfl (lv_at hl 1 rfl) ?_
  refine lv_aload_n hx hb dX13_index_106 rfl (lv_at hl 1 rfl) ?_
  refine lv_bipush (v := 6) hx hb dX13_index_107 (by decide) ?_
  refine lv_iconst (v := 0) hx hb dX13_index_109 (by decide) ?_
  refine cu_s (mW_nd _ _ _ _ _ _) (rn_S (n := 2) (As := [.int 6, .int 0]) (rest := [.ref (ad 0), .ref (ad 0)]) hx hb hml hown ht hKK hFx hP hD hS hA (c_m_lui l dC dI cI cB cZ cJ cR tb H.size (6 : Int32) (0 : Int32) ) tw_61 tw_62 (by decide +kernel) rfl rfl ⟨show 0 + 1 ≤ 40 * n + 6 from om_19dfed8989, show 8 + (2 + 11) + 0 ≤ 28 * (40 * n + 6) from om_37bd887971⟩ [] rfl rfl rfl hl.1 rfl (Nat.le_of_ble_eq_true rfl) dX13_index_110 ⟨Nat.le_of_ble_eq_true rfl, Nat.le_of_ble_eq_true rfl⟩) hP hD hS hA (fun r58 H locs hw56 hP hD hS => ?_)
  refine W.widen (k := 0) (n := 0) (Nat.le_refl _) (Nat.le_refl _) ?_
  refine cu_i (rn_V (n := 1) (As := [.int r58]) (rest := [.ref (ad 0)]) hx hb hml hown ht hKK hFx hP hD hS hA (c_m_emit l dC dI cI cB cZ cJ cR tb H.size ad N (wA (wA (wA (wA (wA (wA u38 11 ((u38.1 0 12).toNatClampNeg) r43) 0 12 ((u38.1 0 12) + (1 : Int32))) 11 (((u38.1 0 12) + (1 : Int32)).toNatClampNeg) (1048691 : Int32)) 0 12 (((u38.1 0 12) + (1 : Int32)) + (1 : Int32))) 11 ((((u38.1 0 12) + (1 : Int32)) + (1 : Int32)).toNatClampNeg) r52) 0 12 ((((u38.1 0 12) + (1 : Int32)) + (1 : Int32)) + (1 : Int32))) r58 (show 0 ≤ ((((u38.1 0 12) + (1 : Int32)) + (1 : Int32)) + (1 : Int32)).toInt ∧ ((((u38.1 0 12) + (1 : Int32)) + (1 : Int32)) + (1 : Int32)).toInt < 24000 from (by omega))) tw_8 tw_9 (by decide +kernel) rfl rfl ⟨show 0 + 1 ≤ 40 * n + 6 from om_19dfed8989, show 8 + (2 + 11) + 0 ≤ 28 * (40 * n + 6) from om_37bd887971⟩ (List.range (mW ad N cI cZ cJ (wA (wA (wA (wA (wA (wA u38 11 ((u38.1 0 12).toNatClampNeg) r43) 0 12 ((u38.1 0 12) + (1 : Int32))) 11 (((u38.1 0 12) + (1 : Int32)).toNatClampNeg) (1048691 : Int32)) 0 12 (((u38.1 0 12) + (1 : Int32)) + (1 : Int32))) 11 ((((u38.1 0 12) + (1 : Int32)) + (1 : Int32)).toNatClampNeg) r52) 0 12 ((((u38.1 0 12) + (1 : Int32)) + (1 : Int32)) + (1 : Int32)))).length) (rg_map _) (mW_nd _ _ _ _ _ _) rfl rfl rfl rfl hl.1 rfl (Nat.le_of_ble_eq_true rfl) dX13_index_113 ⟨Nat.le_of_ble_eq_true rfl, Nat.le_of_ble_eq_true rfl⟩) hP hD hS hA (fun r61 u60 H locs hw59 hP hD hS => ?_)
  obtain ⟨rfl, rfl⟩ := hw59
  have hP : va_P (dC, dI) vwCl (mW ad N cI cZ cJ (wA (wA (wA (wA (wA (wA (wA (wA u38 11 ((u38.1 0 12).toNatClampNeg) r43) 0 12 ((u38.1 0 12) + (1 : Int32))) 11 (((u38.1 0 12) + (1 : Int32)).toNatClampNeg) (1048691 : Int32)) 0 12 (((u38.1 0 12) + (1 : Int32)) + (1 : Int32))) 11 ((((u38.1 0 12) + (1 : Int32)) + (1 : Int32)).toNatClampNeg) r52) 0 12 ((((u38.1 0 12) + (1 : Int32)) + (1 : Int32)) + (1 : Int32))) 11 (((((u38.1 0 12) + (1 : Int32)) + (1 : Int32)) + (1 : Int32)).toNatClampNeg) r58) 0 12 (((((u38.1 0 12) + (1 : Int32)) + (1 : Int32)) + (1 : Int32)) + (1 : Int32)))) H := hP
  have hD : va_D A (mW ad N cI cZ cJ (wA (wA (wA (wA (wA (wA (wA (wA u38 11 ((u38.1 0 12).toNatClampNeg) r43) 0 12 ((u38.1 0 12) + (1 : Int32))) 11 (((u38.1 0 12) + (1 : Int32)).toNatClampNeg) (1048691 : Int32)) 0 12 (((u38.1 0 12) + (1 : Int32)) + (1 : Int32))) 11 ((((u38.1 0 12) + (1 : Int32)) + (1 : Int32)).toNatClampNeg) r52) 0 12 ((((u38.1 0 12) + (1 : Int32)) + (1 : Int32)) + (1 : Int32))) 11 (((((u38.1 0 12) + (1 : Int32)) + (1 : Int32)) + (1 : Int32)).toNatClampNeg) r58) 0 12 (((((u38.1 0 12) + (1 : Int32)) + (1 : Int32)) + (1 : Int32)) + (1 : Int32)))) := hD
  refine tp_i (y := ((((u38.1 0 12) + (1 : Int32)) + (1 : Int32)) + (1 : Int32))) (rfl) ?_
  refine W.widen (k := 0) (n := 0) (Nat.le_refl _) (Nat.le_refl _) ?_
  obtain ⟨u62, hu63⟩ : ∃ z, z = (wA (wA (wA (wA (wA (wA (wA (wA u38 11 ((u38.1 0 12).toNatClampNeg) r43) 0 12 ((u38.1 0 12) + (1 : Int32))) 11 (((u38.1 0 12) + (1 : Int32)).toNatClampNeg) (1048691 : Int32)) 0 12 (((u38.1 0 12) + (1 : Int32)) + (1 : Int32))) 11 ((((u38.1 0 12) + (1 : Int32)) + (1 : Int32)).toNatClampNeg) r52) 0 12 ((((u38.1 0 12) + (1 : Int32)) + (1 : Int32)) + (1 : Int32))) 11 (((((u38.1 0 12) + (1 : Int32)) + (1 : Int32)) + (1 : Int32)).toNatClampNeg) r58) 0 12 (((((u38.1 0 12) + (1 : Int32)) + (1 : Int32)) + (1 : Int32)) + (1 : Int32))) := ⟨_, rfl⟩
  have fr63 : FG [12] [0, 11] u38 u62 := by rw [hu63]; exact (FG.f (FG.a (FG.f (FG.a (FG.f (FG.a (FG.f (FG.a (FG.rf _) ((u38.1 0 12).toNatClampNeg) r43 (by decide) (by decide)) ((u38.1 0 12) + (1 : Int32)) (by decide)) (((u38.1 0 12) + (1 : Int32)).toNatClampNeg) (1048691 : Int32) (by decide) (by decide)) (((u38.1 0 12) + (1 : Int32)) + (1 : Int32)) (by decide)) ((((u38.1 0 12) + (1 : Int32)) + (1 : Int32)).toNatClampNeg) r52 (by decide) (by decide)) ((((u38.1 0 12) + (1 : Int32)) + (1 : Int32)) + (1 : Int32)) (by decide)) (((((u38.1 0 12) + (1 : Int32)) + (1 : Int32)) + (1 : Int32)).toNatClampNeg) r58 (by decide) (by decide)) (((((u38.1 0 12) + (1 : Int32)) + (1 : Int32)) + (1 : Int32)) + (1 : Int32)) (by decide))
  have kc63 : ∀ j : Nat, (j : Int) < (v.1 0 12).toInt → (u62.1 11) j = (v.1 11) j := by rw [hu63]; exact (fun (j9 : Nat) hj9 => (Eq.trans (pk_un3 (a := ((((u38.1 0 12) + (1 : Int32)) + (1 : Int32)) + (1 : Int32)).toInt) rfl (by omega) (by omega)) (Eq.trans (pk_un3 (a := (((u38.1 0 12) + (1 : Int32)) + (1 : Int32)).toInt) rfl (by omega) (by omega)) (Eq.trans (pk_un3 (a := ((u38.1 0 12) + (1 : Int32)).toInt) rfl (by omega) (by omega)) (Eq.trans (pk_un3 (a := (u38.1 0 12).toInt) rfl (by omega) (by omega)) (kc39 j9 hj9))))))
  rw [← hu63] at hP hD
  have sg64 : SGE (v.1 0 30).toInt (v.1 0 28).toInt (v.1 0 27).toInt (u62.1 13) (u62.1 14) (u62.1 36) (u62.1 38) (v.1 0 15).toNatClampNeg (u62.1 0 15).toNatClampNeg (v.1 0 39).toNatClampNeg (u62.1 0 39).toNatClampNeg [] [false] (1 + (u8.1 0 33).toInt - (v.1 0 30).toInt - (v.1 0 32).toInt) [] := by rw [hu63]; exact sg40
  refine lv_iload_n hx hb dX13_index_116 rfl (lv_at hl 2 rfl) ?_
  refine lv_iconst (v := 0) hx hb dX13_index_117 (by decide) ?_
  refine cu_v (rn_V (n := 3) (As := [.int ((((u38.1 0 12) + (1 : Int32)) + (1 : Int32)) + (1 : Int32)), .int pa, .int 0]) (rest := []) hx hb hml hown ht hKK hFx hP hD hS hA (c_m_fix l dC dI cI cB cZ cJ cR tb H.size ad N u62 ((((u38.1 0 12) + (1 : Int32)) + (1 : Int32)) + (1 : Int32)) pa (0 : Int32) (show 0 ≤ (u62.1 0 43).toInt ∧ (u62.1 0 43).toInt < 24000 from (by omega)) (show 0 ≤ ((((u38.1 0 12) + (1 : Int32)) + (1 : Int32)) + (1 : Int32)).toInt ∧ ((((u38.1 0 12) + (1 : Int32)) + (1 : Int32)) + (1 : Int32)).toInt < 24000 from (by omega)) (show (0 : Int) = 5 ∨ (0 ≤ pa.toInt ∧ pa.toInt < 60) from (om_08f72e7594 zgl zg)) (show AR 40 0 23999 u62 from (show AR 40 0 23999 u62 from AR.fr (fl := [12]) (al := [0, 11]) fr63 (by decide) (show AR 40 0 23999 u38 from AR.fr (fl := [12, 47, 48]) (al := [0, 11]) fr39 (by decide) a407))) (show FX u62 from (show FX u62 from FX.fr (fl := [12]) (al := [0, 11]) fr63 (by decide) (by decide) (show FX u38 from FX.fr (fl := [12, 47, 48]) (al := [0, 11]) fr39 (by decide) (by decide) fx7)))) tw_69 tw_70 (by decide +kernel) rfl rfl ⟨show 0 + 1 ≤ 40 * n + 6 from om_19dfed8989, show 8 + (4 + 11) + 0 ≤ 28 * (40 * n + 6) from om_651bdf9b58⟩ (List.range (mW ad N cI cZ cJ u62).length) (rg_map _) (mW_nd _ _ _ _ _ _) rfl rfl rfl rfl hl.1 rfl (Nat.le_of_ble_eq_true rfl) dX13_index_118 ⟨Nat.le_of_ble_eq_true rfl, Nat.le_of_ble_eq_true rfl⟩) hP hD hS hA (fun u66 H locs hw65 hP hD hS => ?_)
  obtain ⟨fr65, pf65, a4065, fx65, iv65⟩ := hw65
  have pf65 : (u66.1 0 43).toInt = (u62.1 0 43).toInt + 1 := pf65
  have a4065 : AR 40 0 23999 u66 := a4065
  have fx65 : FX u66 := fx65
  have iv65 : IV u62 → IV u66 := iv65
  have sg68 : SGE (v.1 0 30).toInt (v.1 0 28).toInt (v.1 0 27).toInt (u66.1 13) (u66.1 14) (u66.1 36) (u66.1 38) (v.1 0 15).toNatClampNeg (u66.1 0 15).toNatClampNeg (v.1 0 39).toNatClampNeg (u66.1 0 39).toNatClampNeg [] [false] (1 + (u8.1 0 33).toInt - (v.1 0 30).toInt - (v.1 0 32).toInt) [] := SGE.to sg64 (fun j9 _ => congrFun (fr65.2.2 13 (by decide)) j9) (fun j9 _ => congrFun (fr65.2.2 14 (by decide)) j9) (fun j9 _ _ => congrFun (fr65.2.2 36 (by decide)) j9) (fun j9 _ _ => congrFun (fr65.2.2 38 (by decide)) j9) (congrArg Int32.toNatClampNeg (fr65.2.1 15 (by decide))) (congrArg Int32.toNatClampNeg (fr65.2.1 39 (by decide))) (Int.le_refl _)
  refine W.widen (k := 0) (n := 0) (Nat.le_refl _) (Nat.le_refl _) ?_
  refine lv_aload_n hx hb dX13_index_121 rfl (lv_at hl 1 rfl) ?_
  refine lv_iconst (v := 0) hx hb dX13_index_122 (by decide) ?_
  refine lv_iconst (v := 0) hx hb dX13_index_123 (by decide) ?_
  refine lv_bipush (v := 10) hx hb dX13_index_124 (by decide) ?_
  refine lv_bipush (v := 10) hx hb dX13_index_126 (by decide) ?_
  refine lv_bipush (v := 6) hx hb dX13_index_128 (by decide) ?_
  refine cu_s (mW_nd _ _ _ _ _ _) (rn_S (n := 5) (As := [.int 0, .int 0, .int 10, .int 10, .int 6]) (rest := [.ref (ad 0)]) hx hb hml hown ht hKK hFx hP hD hS hA (c_m_byR l dC dI cI cB cZ cJ cR tb H.size (0 : Int32) (0 : Int32) (10 : Int32) (10 : Int32) (6 : Int32) ) tw_67 tw_68 (by decide +kernel) rfl rfl ⟨show 0 + 1 ≤ 40 * n + 6 from om_19dfed8989, show 8 + (5 + 11) + 0 ≤ 28 * (40 * n + 6) from om_04b3c4a7b8⟩ [] rfl rfl rfl hl.1 rfl (Nat.le_of_ble_eq_true rfl) dX13_index_130 ⟨Nat.le_of_ble_eq_true rfl, Nat.le_of_ble_eq_true rfl⟩) hP hD hS hA (fun r71 H locs hw69 hP hD hS => ?_)
  refine W.widen (k := 0) (n := 0) (Nat.le_refl _) (Nat.le_refl _) ?_
  refine cu_i (rn_V (n := 1) (As := [.int r71]) (rest := []) hx hb hml hown ht hKK hFx hP hD hS hA (c_m_emit l dC dI cI cB cZ cJ cR tb H.size ad N u66 r71 (show 0 ≤ (u66.1 0 12).toInt ∧ (u66.1 0 12).toInt < 24000 from (by omega))) tw_8 tw_9 (by decide +kernel) rfl rfl ⟨show 0 + 1 ≤ 40 * n + 6 from om_19dfed8989, show 8 + (2 + 11) + 0 ≤ 28 * (40 * n + 6) from om_37bd887971⟩ (List.range (mW ad N cI cZ cJ u66).length) (rg_map _) (mW_nd _ _ _ _ _ _) rfl rfl rfl rfl hl.1 rfl (Nat.le_of_ble_eq_true rfl) dX13_index_133 ⟨Nat.le_of_ble_eq_true rfl, Nat.le_of_ble_eq_true rfl⟩) hP hD hS hA (fun r74 u73 H locs hw72 hP hD hS => ?_)
  obtain ⟨rfl, rfl⟩ := hw72
  have hP : va_P (dC, dI) vwCl (mW ad N cI cZ cJ (wA (wA u66 11 ((u66.1 0 12).toNatClampNeg) r71) 0 12 ((u66.1 0 12) + (1 : Int32)))) H := hP
  have hD : va_D A (mW ad N cI cZ cJ (wA (wA u66 11 ((u66.1 0 12).toNatClampNeg) r71) 0 12 ((u66.1 0 12) + (1 : Int32)))) := hD
  refine tp_i (y := (u66.1 0 12)) (rfl) ?_
  refine W.widen (k := 0) (n := 0) (Nat.le_refl _) (Nat.le_refl _) ?_
  refine lv_pop hx hb dX13_index_136 rfl ?_
  refine lv_aload_n hx hb dX13_index_137 rfl (lv_at hl 1 rfl) ?_
  refine lv_iconst (v := 5) hx hb dX13_index_138 (by decide) ?_
  refine lv_iload_n hx hb dX13_index_139 rfl (lv_at hl 2 rfl) ?_
  refine cu_i (rn_V (n := 2) (As := [.int 5, .int pa]) (rest := []) hx hb hml hown ht hKK hFx hP hD hS hA (c_m_say l dC dI cI cB cZ cJ cR tb H.size ad N (wA (wA u66 11 ((u66.1 0 12).toNatClampNeg) r71) 0 12 ((u66.1 0 12) + (1 : Int32))) (5 : Int32) pa (show 0 ≤ (u66.1 0 15).toInt ∧ (u66.1 0 15).toInt < 16000 from (by omega))) tw_59 tw_60 (by decide +kernel) rfl rfl ⟨show 0 + 1 ≤ 40 * n + 6 from om_19dfed8989, show 8 + (3 + 11) + 0 ≤ 28 * (40 * n + 6) from om_bc89bc7b20⟩ (List.range (mW ad N cI cZ cJ (wA (wA u66 11 ((u66.1 0 12).toNatClampNeg) r71) 0 12 ((u66.1 0 12) + (1 : Int32)))).length) (rg_map _) (mW_nd _ _ _ _ _ _) rfl rfl rfl rfl hl.1 rfl (Nat.le_of_ble_eq_true rfl) dX13_index_140 ⟨Nat.le_of_ble_eq_true rfl, Nat.le_of_ble_eq_true rfl⟩) hP hD hS hA (fun r77 u76 H locs hw75 hP hD hS => ?_)
  obtain ⟨rfl, rfl⟩ := hw75
  have hP : va_P (dC, dI) vwCl (mW ad N cI cZ cJ (wA (wA (wA (wA (wA u66 11 ((u66.1 0 12).toNatClampNeg) r71) 0 12 ((u66.1 0 12) + (1 : Int32))) 13 ((u66.1 0 15).toNatClampNeg) (5 : Int32)) 14 ((u66.1 0 15).toNatClampNeg) pa) 0 15 ((u66.1 0 15) + (1 : Int32)))) H := hP
  have hD : va_D A (mW ad N cI cZ cJ (wA (wA (wA (wA (wA u66 11 ((u66.1 0 12).toNatClampNeg) r71) 0 12 ((u66.1 0 12) + (1 : Int32))) 13 ((u66.1 0 15).toNatClampNeg) (5 : Int32)) 14 ((u66.1 0 15).toNatClampNeg) pa) 0 15 ((u66.1 0 15) + (1 : Int32)))) := hD
  refine tp_i (y := (u66.1 0 15)) (rfl) ?_
  have q78 : (u38.1 0 33).toInt = (u8.1 0 33).toInt := congrArg Int32.toInt (fr39.2.1 33 (by decide))
  have q79 : (u62.1 0 33).toInt = (u38.1 0 33).toInt := congrArg Int32.toInt (fr63.2.1 33 (by decide))
  have q80 : (u66.1 0 33).toInt = (u62.1 0 33).toInt := congrArg Int32.toInt ((fr65.2.1 33 (by decide)).trans (show u62.1 0 33 = (u62.1 0 33) by rfl))
  have sg81 : SGE (v.1 0 30).toInt (v.1 0 28).toInt (v.1 0 27).toInt (upd (u66.1 13) ((u66.1 0 15).toNatClampNeg) (5 : Int32)) (upd (u66.1 14) ((u66.1 0 15).toNatClampNeg) pa) (u66.1 36) (u66.1 38) (v.1 0 15).toNatClampNeg ((u66.1 0 15) + (1 : Int32)).toNatClampNeg (v.1 0 39).toNatClampNeg (u66.1 0 39).toNatClampNeg [] [true] (1 + (u66.1 0 33).toInt - (v.1 0 30).toInt - (v.1 0 32).toInt) [] := SGE.say1 (x := (u66.1 0 15)) (y := ((u66.1 0 15) + (1 : Int32))) sg68 (show 0 ≤ (u66.1 0 15).toInt from (by omega)) (show ((u66.1 0 15) + (1 : Int32)).toInt = (u66.1 0 15).toInt + 1 from (by omega)) (show 1 + (u8.1 0 33).toInt - (v.1 0 30).toInt - (v.1 0 32).toInt ≤ 1 + (u66.1 0 33).toInt - (v.1 0 30).toInt - (v.1 0 32).toInt from (om_f5e1919ea2 q78 q79 q80)) (lenle (1 : Int) (by decide) (by omega)) (ft_place (by decide) (show 0 ≤ pa.toInt ∧ pa.toInt < (v.1 0 27).toInt from (om_2bbcc72df9 zg))) (by decide) (by decide)
  refine W.widen (k := 0) (n := 0) (Nat.le_refl _) (Nat.le_refl _) ?_
  refine lv_pop hx hb dX13_index_143 rfl ?_
  refine vx_ret ?_
  exact W.vret hx hb hr (fun t ht9 hW => ⟨⟨(wA (wA (wA (wA (wA u66 11 ((u66.1 0 12).toNatClampNeg) r71) 0 12 ((u66.1 0 12) + (1 : Int32))) 13 ((u66.1 0 15).toNatClampNeg) (5 : Int32)) 14 ((u66.1 0 15).toNatClampNeg) pa) 0 15 ((u66.1 0 15) + (1 : Int32))), rfl, ⟨(FG.f (FG.a (FG.a (FG.f (FG.a (FG.tr (FG.tr (FG.tr (FG.tr (FG.f (FG.f (FG.rf _) (((v.1 0 47)) + (1 : Int32)) (by decide)) (((v.1 0 48)) + (1 : Int32)) (by decide)) (FG.up fr7 (by decide) (by decide))) (FG.up fr39 (by decide) (by decide))) (FG.up fr63 (by decide) (by decide))) (FG.up fr65 (by decide) (by decide))) ((u66.1 0 12).toNatClampNeg) r71 (by decide) (by decide)) ((u66.1 0 12) + (1 : Int32)) (by decide)) ((u66.1 0 15).toNatClampNeg) (5 : Int32) (by decide) (by decide)) ((u66.1 0 15).toNatClampNeg) pa (by decide) (by decide)) ((u66.1 0 15) + (1 : Int32)) (by decide)), (show (v.1 0 47).toInt + 1 ≤ (u66.1 0 47).toInt ∧ (u66.1 0 47).toInt ≤ 1500 from (by omega)), (show (v.1 0 49).toInt ≠ (v.1 0 47).toInt from (by omega)), (show (v.1 0 12).toInt ≤ ((u66.1 0 12) + (1 : Int32)).toInt ∧ ((u66.1 0 12) + (1 : Int32)).toInt - 15 * (u66.1 0 47).toInt ≤ (v.1 0 12).toInt - 15 * (v.1 0 47).toInt from (by omega)), (show (v.1 0 15).toInt ≤ ((u66.1 0 15) + (1 : Int32)).toInt ∧ ((u66.1 0 15) + (1 : Int32)).toInt - 10 * (u66.1 0 47).toInt ≤ (v.1 0 15).toInt - 10 * (v.1 0 47).toInt from (by omega)), (show (v.1 0 43).toInt ≤ (u66.1 0 43).toInt ∧ (u66.1 0 43).toInt - 15 * (u66.1 0 47).toInt ≤ (v.1 0 43).toInt - 15 * (v.1 0 47).toInt from (by omega)), (show (v.1 0 39).toInt ≤ (u66.1 0 39).toInt ∧ (u66.1 0 39).toInt - 1 * (u66.1 0 47).toInt ≤ (v.1 0 39).toInt - 1 * (v.1 0 47).toInt from (by omega)), (show (u66.1 0 32).toInt = (v.1 0 32).toInt ∧ (u66.1 0 48).toInt = (v.1 0 48).toInt from (by omega)), (show (v.1 0 33).toInt ≤ (u66.1 0 33).toInt ∧ (u66.1 0 33).toInt ≤ 500 from (by omega)), (fun (j9 : Nat) hj9 => (Eq.trans (pk_un3 (a := (u66.1 0 12).toInt) rfl (by omega) (by omega)) (Eq.trans (congrFun (fr65.2.2 11 (by decide)) j9) (kc63 j9 hj9)))), (fun (j9 : Nat) hj9 => (Eq.trans (pk_un3 (a := (u66.1 0 15).toInt) rfl (by omega) (by omega)) (Eq.trans (congrFun (fr65.2.2 13 (by decide)) j9) (Eq.trans (congrFun (fr63.2.2 13 (by decide)) j9) (Eq.trans (congrFun (fr39.2.2 13 (by decide)) j9) (ko7 j9 (om_4fe904e9bf hj9))))))), (fun (j9 : Nat) hj9 => (Eq.trans (pk_un3 (a := (u66.1 0 15).toInt) rfl (by omega) (by omega)) (Eq.trans (congrFun (fr65.2.2 14 (by decide)) j9) (Eq.trans (congrFun (fr63.2.2 14 (by decide)) j9) (Eq.trans (congrFun (fr39.2.2 14 (by decide)) j9) (kg7 j9 (om_4fe904e9bf hj9))))))), (fun (j9 : Nat) hj9 => (Eq.trans (congrFun (fr65.2.2 36 (by decide)) j9) (Eq.trans (congrFun (fr63.2.2 36 (by decide)) j9) (Eq.trans (congrFun (fr39.2.2 36 (by decide)) j9) (k367 j9 (om_4fe904e9bf hj9)))))), (fun (j9 : Nat) hj9 => (Eq.trans (congrFun (fr65.2.2 38 (by decide)) j9) (Eq.trans (congrFun (fr63.2.2 38 (by decide)) j9) (Eq.trans (congrFun (fr39.2.2 38 (by decide)) j9) (k387 j9 (om_4fe904e9bf hj9)))))), (AR.o (AR.o (AR.o (AR.o (AR.o (show AR 35 0 1500 u66 from AR.fr (fl := [43]) (al := [0, 40, 41, 42]) fr65 (by decide) (show AR 35 0 1500 u62 from AR.fr (fl := [12]) (al := [0, 11]) fr63 (by decide) (show AR 35 0 1500 u38 from AR.fr (fl := [12, 47, 48]) (al := [0, 11]) fr39 (by decide) a357))) (by decide)) (by decide)) (by decide)) (by decide)) (by decide)), (AR.o (AR.o (AR.o (AR.o (AR.o (show AR 37 0 23999 u66 from AR.fr (fl := [43]) (al := [0, 40, 41, 42]) fr65 (by decide) (show AR 37 0 23999 u62 from AR.fr (fl := [12]) (al := [0, 11]) fr63 (by decide) (show AR 37 0 23999 u38 from AR.fr (fl := [12, 47, 48]) (al := [0, 11]) fr39 (by decide) a377))) (by decide)) (by decide)) (by decide)) (by decide)) (by decide)), (AR.o (AR.o (AR.o (AR.o (AR.o (show AR 38 0 15999 u66 from AR.fr (fl := [43]) (al := [0, 40, 41, 42]) fr65 (by decide) (show AR 38 0 15999 u62 from AR.fr (fl := [12]) (al := [0, 11]) fr63 (by decide) (show AR 38 0 15999 u38 from AR.fr (fl := [12, 47, 48]) (al := [0, 11]) fr39 (by decide) a387))) (by decide)) (by decide)) (by decide)) (by decide)) (by decide)), (AR.o (AR.o (AR.o (AR.o (AR.o a4065 (by decide)) (by decide)) (by decide)) (by decide)) (by decide)), (FX.o (FX.o (FX.o (FX.o (FX.o fx65 (by decide) (by decide)) (by decide) (by decide)) (by decide) (by decide)) (by decide) (by decide)) (by decide) (by decide)), (fun hiv => (IV.o (IV.o (IV.o (IV.o (IV.o (iv65 (IV.fr (fl := [12]) (al := [0, 11]) fr63 (by decide) (IV.fr (fl := [12, 47, 48]) (al := [0, 11]) fr39 (by decide) (iv7 (IV.o (IV.o hiv (by decide)) (by decide)))))) (by decide)) (by decide)) (by decide)) (by decide)) (by decide))), (SGE.mono (SGE.setB sg81 rfl) (show 1 + (u66.1 0 33).toInt - (v.1 0 30).toInt - (v.1 0 32).toInt ≤ 1 + (u66.1 0 33).toInt - (v.1 0 30).toInt - (v.1 0 32).toInt from om_e96b194f74))⟩, by rw [ht9]; exact hP, hD⟩, hS.F ht9⟩) hS.2.2 dX13_index_144
