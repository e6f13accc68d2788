theorem dX13_choice_0 : decode cX13_choice 0 = .ok (.aload_n 0, 1) := by decide +kernel
theorem dX13_choice_1 : decode cX13_choice 1 = .ok (.iconst 1, 1) := by decide +kernel
theorem dX13_choice_2 : decode cX13_choice 2 = .ok (.iload_n 1, 1) := by decide +kernel
theorem dX13_choice_3 : decode cX13_choice 3 = .ok (.invokevirtual 310, 3) := by decide +kernel
theorem dX13_choice_6 : decode cX13_choice 6 = .ok (.aload_n 0, 1) := by decide +kernel
theorem dX13_choice_7 : decode cX13_choice 7 = .ok (.bipush 63, 2) := by decide +kernel
theorem dX13_choice_9 : decode cX13_choice 9 = .ok (.invokevirtual 158, 3) := by decide +kernel
theorem dX13_choice_12 : decode cX13_choice 12 = .ok (.ifCond .ne 4, 3) := by decide +kernel
theorem dX13_choice_16 : decode cX13_choice 16 = .ok (.aload_n 0, 1) := by decide +kernel
theorem dX13_choice_17 : decode cX13_choice 17 = .ok (.invokevirtual 165, 3) := by decide +kernel
theorem dX13_choice_20 : decode cX13_choice 20 = .ok (.aload_n 0, 1) := by decide +kernel
theorem dX13_choice_21 : decode cX13_choice 21 = .ok (.iconst 1, 1) := by decide +kernel
theorem dX13_choice_22 : decode cX13_choice 22 = .ok (.bipush 10, 2) := by decide +kernel
theorem dX13_choice_24 : decode cX13_choice 24 = .ok (.iconst 0, 1) := by decide +kernel
theorem dX13_choice_25 : decode cX13_choice 25 = .ok (.bipush 8, 2) := by decide +kernel
theorem dX13_choice_27 : decode cX13_choice 27 = .ok (.invokestatic 293, 3) := by decide +kernel
theorem dX13_choice_30 : decode cX13_choice 30 = .ok (.invokevirtual 111, 3) := by decide +kernel
theorem dX13_choice_33 : decode cX13_choice 33 = .ok (.pop, 1) := by decide +kernel
theorem dX13_choice_34 : decode cX13_choice 34 = .ok (.aload_n 0, 1) := by decide +kernel
theorem dX13_choice_35 : decode cX13_choice 35 = .ok (.iconst (-1), 1) := by decide +kernel
theorem dX13_choice_36 : decode cX13_choice 36 = .ok (.invokevirtual 314, 3) := by decide +kernel
theorem dX13_choice_39 : decode cX13_choice 39 = .ok (.istore_n 2, 1) := by decide +kernel
theorem dX13_choice_40 : decode cX13_choice 40 = .ok (.aload_n 0, 1) := by decide +kernel
theorem dX13_choice_41 : decode cX13_choice 41 = .ok (.bipush 10, 2) := by decide +kernel
theorem dX13_choice_43 : decode cX13_choice 43 = .ok (.iconst 0, 1) := by decide +kernel
theorem dX13_choice_44 : decode cX13_choice 44 = .ok (.invokevirtual 210, 3) := by decide +kernel
theorem dX13_choice_47 : decode cX13_choice 47 = .ok (.istore_n 3, 1) := by decide +kernel
theorem dX13_choice_48 : decode cX13_choice 48 = .ok (.aload_n 0, 1) := by decide +kernel
theorem dX13_choice_49 : decode cX13_choice 49 = .ok (.invokevirtual 284, 3) := by decide +kernel
theorem dX13_choice_52 : decode cX13_choice 52 = .ok (.aload_n 0, 1) := by decide +kernel
theorem dX13_choice_53 : decode cX13_choice 53 = .ok (.bipush 58, 2) := by decide +kernel
theorem dX13_choice_55 : decode cX13_choice 55 = .ok (.invokevirtual 168, 3) := by decide +kernel
theorem dX13_choice_58 : decode cX13_choice 58 = .ok (.aload_n 0, 1) := by decide +kernel
theorem dX13_choice_59 : decode cX13_choice 59 = .ok (.iconst (-1), 1) := by decide +kernel
theorem dX13_choice_60 : decode cX13_choice 60 = .ok (.invokevirtual 314, 3) := by decide +kernel
theorem dX13_choice_63 : decode cX13_choice 63 = .ok (.istore 4, 2) := by decide +kernel
theorem dX13_choice_65 : decode cX13_choice 65 = .ok (.aload_n 0, 1) := by decide +kernel
theorem dX13_choice_66 : decode cX13_choice 66 = .ok (.bipush 12, 2) := by decide +kernel
theorem dX13_choice_68 : decode cX13_choice 68 = .ok (.iconst 0, 1) := by decide +kernel
theorem dX13_choice_69 : decode cX13_choice 69 = .ok (.invokevirtual 210, 3) := by decide +kernel
theorem dX13_choice_72 : decode cX13_choice 72 = .ok (.istore 5, 2) := by decide +kernel
theorem dX13_choice_74 : decode cX13_choice 74 = .ok (.aload_n 0, 1) := by decide +kernel
theorem dX13_choice_75 : decode cX13_choice 75 = .ok (.iload_n 2, 1) := by decide +kernel
theorem dX13_choice_76 : decode cX13_choice 76 = .ok (.iconst 0, 1) := by decide +kernel
theorem dX13_choice_77 : decode cX13_choice 77 = .ok (.aload_n 0, 1) := by decide +kernel
theorem dX13_choice_78 : decode cX13_choice 78 = .ok (.getfield 104, 3) := by decide +kernel
theorem dX13_choice_81 : decode cX13_choice 81 = .ok (.invokevirtual 114, 3) := by decide +kernel
theorem dX13_choice_84 : decode cX13_choice 84 = .ok (.aload_n 0, 1) := by decide +kernel
theorem dX13_choice_85 : decode cX13_choice 85 = .ok (.getfield 124, 3) := by decide +kernel
theorem dX13_choice_88 : decode cX13_choice 88 = .ok (.iload_n 3, 1) := by decide +kernel
theorem dX13_choice_89 : decode cX13_choice 89 = .ok (.aload_n 0, 1) := by decide +kernel
theorem dX13_choice_90 : decode cX13_choice 90 = .ok (.getfield 121, 3) := by decide +kernel
theorem dX13_choice_93 : decode cX13_choice 93 = .ok (.iastore, 1) := by decide +kernel
theorem dX13_choice_94 : decode cX13_choice 94 = .ok (.aload_n 0, 1) := by decide +kernel
theorem dX13_choice_95 : decode cX13_choice 95 = .ok (.iconst 0, 1) := by decide +kernel
theorem dX13_choice_96 : decode cX13_choice 96 = .ok (.invokevirtual 243, 3) := by decide +kernel
theorem tw_132 : (.code yX13_choice cX13_choice 6 none : Cond) ∈ tw_W := tw_in (by decide +kernel) (by decide +kernel)
theorem tw_133 : ∀ w ∈ ([.methodLink RX13 243 yX13_choice, .instanceMethod yX13_choice, .selects RX13 yX13_choice yX13_choice, .initialized RX13] : List Cond), w ∈ tw_W := tw_all (by decide +kernel)
theorem dX13_choice_99 : decode cX13_choice 99 = .ok (.aload_n 0, 1) := by decide +kernel
theorem dX13_choice_100 : decode cX13_choice 100 = .ok (.iload 4, 2) := by decide +kernel
theorem dX13_choice_102 : decode cX13_choice 102 = .ok (.iconst 0, 1) := by decide +kernel
theorem dX13_choice_103 : decode cX13_choice 103 = .ok (.aload_n 0, 1) := by decide +kernel
theorem dX13_choice_104 : decode cX13_choice 104 = .ok (.getfield 104, 3) := by decide +kernel
theorem dX13_choice_107 : decode cX13_choice 107 = .ok (.invokevirtual 114, 3) := by decide +kernel
theorem dX13_choice_110 : decode cX13_choice 110 = .ok (.aload_n 0, 1) := by decide +kernel
theorem dX13_choice_111 : decode cX13_choice 111 = .ok (.getfield 124, 3) := by decide +kernel
theorem dX13_choice_114 : decode cX13_choice 114 = .ok (.iload 5, 2) := by decide +kernel
theorem dX13_choice_116 : decode cX13_choice 116 = .ok (.aload_n 0, 1) := by decide +kernel
theorem dX13_choice_117 : decode cX13_choice 117 = .ok (.getfield 121, 3) := by decide +kernel
theorem dX13_choice_120 : decode cX13_choice 120 = .ok (.iastore, 1) := by decide +kernel
theorem dX13_choice_121 : decode cX13_choice 121 = .ok (.aload_n 0, 1) := by decide +kernel
theorem dX13_choice_122 : decode cX13_choice 122 = .ok (.dup, 1) := by decide +kernel
theorem dX13_choice_123 : decode cX13_choice 123 = .ok (.getfield 151, 3) := by decide +kernel
theorem dX13_choice_126 : decode cX13_choice 126 = .ok (.iconst 1, 1) := by decide +kernel
theorem dX13_choice_127 : decode cX13_choice 127 = .ok (.isub, 1) := by decide +kernel
theorem dX13_choice_128 : decode cX13_choice 128 = .ok (.putfield 151, 3) := by decide +kernel
theorem dX13_choice_131 : decode cX13_choice 131 = .ok (.return_, 1) := by decide +kernel
theorem dX13_choice_15 : decode cX13_choice 15 = .ok (.return_, 1) := by decide +kernel
theorem dX13_named_103 : decode cX13_named 103 = .ok (.aload_n 0, 1) := by decide +kernel
theorem dX13_named_104 : decode cX13_named 104 = .ok (.invokevirtual 258, 3) := by decide +kernel
theorem tw_134 : (.code yX13_setting cX13_setting 5 (some .int) : Cond) ∈ tw_W := tw_in (by decide +kernel) (by decide +kernel)
theorem tw_135 : ∀ w ∈ ([.methodLink RX13 258 yX13_setting, .instanceMethod yX13_setting, .selects RX13 yX13_setting yX13_setting, .initialized RX13] : List Cond), w ∈ tw_W := tw_all (by decide +kernel)
theorem dX13_named_107 : decode cX13_named 107 = .ok (.goto 4, 3) := by decide +kernel
theorem dX13_named_177 : decode cX13_named 177 = .ok (.aload_n 0, 1) := by decide +kernel
theorem dX13_named_178 : decode cX13_named 178 = .ok (.iconst 1, 1) := by decide +kernel
theorem dX13_named_179 : decode cX13_named 179 = .ok (.invokevirtual 243, 3) := by decide +kernel
theorem dX13_named_119 : decode cX13_named 119 = .ok (.aload_n 0, 1) := by decide +kernel
theorem dX13_named_120 : decode cX13_named 120 = .ok (.iload 4, 2) := by decide +kernel
theorem dX13_named_122 : decode cX13_named 122 = .ok (.iload 5, 2) := by decide +kernel
theorem dX13_named_124 : decode cX13_named 124 = .ok (.iload_n 3, 1) := by decide +kernel
theorem dX13_named_125 : decode cX13_named 125 = .ok (.iload 6, 2) := by decide +kernel
theorem dX13_named_127 : decode cX13_named 127 = .ok (.invokevirtual 261, 3) := by decide +kernel
theorem tw_136 : (.code yX13_sets cX13_sets 8 none : Cond) ∈ tw_W := tw_in (by decide +kernel) (by decide +kernel)
theorem tw_137 : ∀ w ∈ ([.methodLink RX13 261 yX13_sets, .instanceMethod yX13_sets, .selects RX13 yX13_sets yX13_sets, .initialized RX13] : List Cond), w ∈ tw_W := tw_all (by decide +kernel)
theorem dX13_named_130 : decode cX13_named 130 = .ok (.return_, 1) := by decide +kernel
theorem dX13_expression_0 : decode cX13_expression 0 = .ok (.aload_n 0, 1) := by decide +kernel
theorem dX13_expression_1 : decode cX13_expression 1 = .ok (.getfield 41, 3) := by decide +kernel
theorem dX13_expression_4 : decode cX13_expression 4 = .ok (.aload_n 0, 1) := by decide +kernel
theorem dX13_expression_5 : decode cX13_expression 5 = .ok (.getfield 137, 3) := by decide +kernel
theorem dX13_expression_8 : decode cX13_expression 8 = .ok (.iaload, 1) := by decide +kernel
theorem dX13_expression_9 : decode cX13_expression 9 = .ok (.iconst 2, 1) := by decide +kernel
theorem dX13_expression_10 : decode cX13_expression 10 = .ok (.if_icmp .ne 24, 3) := by decide +kernel
theorem dX13_expression_34 : decode cX13_expression 34 = .ok (.aload_n 0, 1) := by decide +kernel
theorem dX13_expression_35 : decode cX13_expression 35 = .ok (.iconst 0, 1) := by decide +kernel
theorem dX13_expression_36 : decode cX13_expression 36 = .ok (.invokevirtual 243, 3) := by decide +kernel
theorem dX13_expression_39 : decode cX13_expression 39 = .ok (.return_, 1) := by decide +kernel
theorem dX13_expression_13 : decode cX13_expression 13 = .ok (.aload_n 0, 1) := by decide +kernel
theorem dX13_expression_14 : decode cX13_expression 14 = .ok (.aload_n 0, 1) := by decide +kernel
theorem dX13_expression_15 : decode cX13_expression 15 = .ok (.getfield 137, 3) := by decide +kernel
theorem dX13_expression_18 : decode cX13_expression 18 = .ok (.iconst 1, 1) := by decide +kernel
theorem dX13_expression_19 : decode cX13_expression 19 = .ok (.iadd, 1) := by decide +kernel
theorem dX13_expression_20 : decode cX13_expression 20 = .ok (.bipush 40, 2) := by decide +kernel
theorem dX13_expression_22 : decode cX13_expression 22 = .ok (.invokevirtual 144, 3) := by decide +kernel
theorem dX13_expression_25 : decode cX13_expression 25 = .ok (.ifCond .ne 9, 3) := by decide +kernel
theorem dX13_expression_28 : decode cX13_expression 28 = .ok (.aload_n 0, 1) := by decide +kernel
theorem dX13_expression_29 : decode cX13_expression 29 = .ok (.iconst 1, 1) := by decide +kernel
theorem dX13_expression_30 : decode cX13_expression 30 = .ok (.invokevirtual 239, 3) := by decide +kernel
theorem dX13_expression_33 : decode cX13_expression 33 = .ok (.return_, 1) := by decide +kernel
def Cx_choice (l : Launch) (n : Nat) : Prop := ∀ (dC : Nat → ClassId) (dI : Nat → Nat → Nat) (cI cB cZ cJ cR : ClassId) (tb : Nat → Nat) (sz : Nat) (ad : Nat → Nat) (N : Nat) (v : MS) (pa : Int32) (zn : 40 ≤ (v.1 0 48).toInt + (n : Int)) (zt : 0 ≤ (v.1 0 47).toInt ∧ (v.1 0 47).toInt ≤ 1500) (zop : 0 ≤ (v.1 0 48).toInt ∧ (v.1 0 48).toInt ≤ 40) (zkn : 0 ≤ (v.1 0 30).toInt ∧ (v.1 0 30).toInt ≤ 500) (zhi : 0 ≤ (v.1 0 33).toInt ∧ (v.1 0 33).toInt ≤ 500) (zs : 0 ≤ (v.1 0 32).toInt ∧ (v.1 0 30).toInt + (v.1 0 32).toInt ≤ (v.1 0 33).toInt) (zws : 0 ≤ (v.1 0 12).toInt ∧ (v.1 0 12).toInt ≤ 15 * (v.1 0 47).toInt + 2) (zos : 0 ≤ (v.1 0 15).toInt ∧ (v.1 0 15).toInt ≤ 10 * (v.1 0 47).toInt + 0) (zfs : 0 ≤ (v.1 0 43).toInt ∧ (v.1 0 43).toInt ≤ 15 * (v.1 0 47).toInt + 0) (zcs : 0 ≤ (v.1 0 39).toInt ∧ (v.1 0 39).toInt ≤ 1 * (v.1 0 47).toInt + 0) (zgl : 0 ≤ (v.1 0 27).toInt ∧ (v.1 0 27).toInt ≤ 60) (hT : TI v) (a29 : AR 29 0 1500 v) (a23 : AR 23 0 1500 v) (a35 : AR 35 0 1500 v) (a37 : AR 37 0 23999 v) (a38 : AR 38 0 15999 v) (a40 : AR 40 0 23999 v) (fx : FX v), vx_Met l yX13_choice (Cond.code yX13_choice cX13_choice 6 none :: tw_W) ({ frames := 40 * n + 32, cells := 0, slots := 0, locals := 28 * (40 * n + 32) }) (pc_ (dC, dI) (tyS cI cB cZ cJ cR) tb (mW ad N cI cZ cJ v) sz [.ref (ad 0), .int pa]) (qv_ (dC, dI) (mW ad N cI cZ cJ v) sz (fun (u : MS) => FG [12, 15, 32, 33, 39, 43, 44, 45, 47, 48, 49, 50, 51] [0, 11, 13, 14, 35, 36, 37, 38, 40, 41, 42] v u ∧ ((v.1 0 47).toInt + 0 ≤ (u.1 0 47).toInt ∧ (u.1 0 47).toInt ≤ 1500) ∧ (pa.toInt ≠ 0 ∨ ((v.1 0 47).toInt + 1 ≤ (u.1 0 47).toInt ∧ (v.1 0 49).toInt ≠ (v.1 0 47).toInt)) ∧ ((v.1 0 12).toInt ≤ (u.1 0 12).toInt ∧ (u.1 0 12).toInt - 15 * (u.1 0 47).toInt ≤ (v.1 0 12).toInt - 15 * (v.1 0 47).toInt) ∧ ((v.1 0 15).toInt ≤ (u.1 0 15).toInt ∧ (u.1 0 15).toInt - 10 * (u.1 0 47).toInt ≤ (v.1 0 15).toInt - 10 * (v.1 0 47).toInt) ∧ ((v.1 0 43).toInt ≤ (u.1 0 43).toInt ∧ (u.1 0 43).toInt - 15 * (u.1 0 47).toInt ≤ (v.1 0 43).toInt - 15 * (v.1 0 47).toInt) ∧ ((v.1 0 39).toInt ≤ (u.1 0 39).toInt ∧ (u.1 0 39).toInt - 1 * (u.1 0 47).toInt ≤ (v.1 0 39).toInt - 1 * (v.1 0 47).toInt) ∧ ((u.1 0 32).toInt = (v.1 0 32).toInt ∧ (u.1 0 48).toInt = (v.1 0 48).toInt) ∧ ((v.1 0 33).toInt ≤ (u.1 0 33).toInt ∧ (u.1 0 33).toInt ≤ 500) ∧ (∀ j : Nat, (j : Int) < (v.1 0 12).toInt → (u.1 11) j = (v.1 11) j) ∧ (∀ j : Nat, (j : Int) < (v.1 0 15).toInt → (u.1 13) j = (v.1 13) j) ∧ (∀ j : Nat, (j : Int) < (v.1 0 15).toInt → (u.1 14) j = (v.1 14) j) ∧ (AR 35 0 1500 u) ∧ (AR 37 0 23999 u) ∧ (AR 38 0 15999 u) ∧ (AR 40 0 23999 u) ∧ (FX u)) (fun (u : MS) => (mW ad N cI cZ cJ u))) (qxm (dC, dI) (mW ad N cI cZ cJ v) sz (fun (u : MS) => (mW ad N cI cZ cJ u)) (fun (u : MS) => Fr v u)) 0 0 (va_A (mW ad N cI cZ cJ v) sz)
theorem om_2ac0da4c36 : 1 ≤ (1 : Int) ∧ (1 : Int) ≤ 12 ∧ 11 ≤ (1 : Int) + (10 : Int) := by omega
theorem om_ce128b9fc5 {n0 : Nat} : (40 * n0 + 10 + 2 * 10) + 1 ≤ 40 * n0 + 32 := by omega
theorem om_aaa4eb1422 {n0 : Nat} : 8 + (6 + 11) + 28 * (40 * n0 + 10 + 2 * 10) ≤ 28 * (40 * n0 + 32) := by omega
theorem om_5ce856c17b {n0 : Nat} : 1 + 1 ≤ 40 * n0 + 32 := by omega
theorem om_b5ade8f251 {n0 : Nat} : 8 + (2 + 11) + 22 ≤ 28 * (40 * n0 + 32) := by omega
theorem om_ac1e853792 {n0 : Nat} : 2 + 1 ≤ 40 * n0 + 32 := by omega
theorem om_5dc62e6231 {n0 : Nat} : 8 + (1 + 11) + 42 ≤ 28 * (40 * n0 + 32) := by omega
theorem om_3aaf71f2f8 {x0 x1 x2 x3 : Int} (h0 : 0 ≤ x0 ∧ x0 ≤ 40) (h1 : x1 = x2 ∧ x3 = x0) : -2147483648 ≤ (x3) + (1 : Int) := by omega
theorem om_b34818bad1 {x0 x1 x2 x3 : Int} (h0 : 0 ≤ x0 ∧ x0 ≤ 40) (h1 : x1 = x2 ∧ x3 = x0) : (x3) + (1 : Int) < 2147483648 := by omega
theorem om_2bb39494e2 {n0 : Nat} : 0 + 1 ≤ 40 * n0 + 32 := by omega
theorem om_98b62a18e2 {n0 : Nat} : 8 + (4 + 11) + 0 ≤ 28 * (40 * n0 + 32) := by omega
theorem om_c4dc9a3ac6 {x0 x1 x2 x3 : Int} (h0 : 0 ≤ x0 ∧ x0 ≤ 15 * x1 + 2) (h1 : x0 ≤ x2 ∧ x2 - 15 * x3 ≤ x0 - 15 * x1) (h2 : x3 < 1500) : 0 ≤ x2 ∧ x2 < 24000 := by omega
theorem om_208ebadd6b {n0 : Nat} : 8 + (2 + 11) + 0 ≤ 28 * (40 * n0 + 32) := by omega
theorem om_1105522bbc {x0 x1 x2 x3 : Int} (h0 : 0 ≤ x0 ∧ x0 ≤ 15 * x1 + 2) (h1 : x0 ≤ x2 ∧ x2 - 15 * x3 ≤ x0 - 15 * x1) : -2147483648 ≤ (x2) + (1 : Int) := by omega
theorem om_71ea040dc4 {x0 x1 x2 x3 : Int} (h0 : 0 ≤ x0 ∧ x0 ≤ 15 * x1 + 2) (h1 : x0 ≤ x2 ∧ x2 - 15 * x3 ≤ x0 - 15 * x1) (h2 : x3 < 1500) : (x2) + (1 : Int) < 2147483648 := by omega
theorem om_82df244092 {x0 x1 x2 x3 x4 : Int} (h0 : 0 ≤ x0 ∧ x0 ≤ 15 * x1 + 2) (h1 : x0 ≤ x2 ∧ x2 - 15 * x3 ≤ x0 - 15 * x1) (h2 : x3 < 1500) (h3 : x4 = (x2) + (1 : Int)) : 0 ≤ x4 ∧ x4 < 24000 := by omega
theorem om_29d6c17595 {n0 : Nat} : 8 + (2 + 11) + 21 ≤ 28 * (40 * n0 + 32) := by omega
theorem om_6ab58f1ed3 {x0 x1 x2 x3 : Int} (h0 : 0 ≤ x0 ∧ x0 ≤ 15 * x1 + 2) (h1 : x0 ≤ x2 ∧ x2 - 15 * x3 ≤ x0 - 15 * x1) : -2147483648 ≤ ((x2) + (1 : Int)) + (1 : Int) := by omega
theorem om_3bf1c3a5a4 {x0 x1 x2 x3 : Int} (h0 : 0 ≤ x0 ∧ x0 ≤ 15 * x1 + 2) (h1 : x0 ≤ x2 ∧ x2 - 15 * x3 ≤ x0 - 15 * x1) (h2 : x3 < 1500) : ((x2) + (1 : Int)) + (1 : Int) < 2147483648 := by omega
theorem om_d7a84c6be3 {x0 x1 x2 x3 : Int} (h0 : 0 ≤ x0 ∧ x0 ≤ 10 * x1 + 0) (h1 : x0 ≤ x2 ∧ x2 - 10 * x3 ≤ x0 - 10 * x1) (h2 : x3 < 1500) : 0 ≤ x2 ∧ x2 < 16000 := by omega
theorem om_c9af1bf868 {n0 : Nat} : 8 + (3 + 11) + 0 ≤ 28 * (40 * n0 + 32) := by omega
theorem om_6d3a24e83f {x0 x1 x2 x3 : Int} (h0 : 0 ≤ x0 ∧ x0 ≤ 10 * x1 + 0) (h1 : x0 ≤ x2 ∧ x2 - 10 * x3 ≤ x0 - 10 * x1) : -2147483648 ≤ (x2) + (1 : Int) := by omega
theorem om_424ab40917 {x0 x1 x2 x3 : Int} (h0 : 0 ≤ x0 ∧ x0 ≤ 10 * x1 + 0) (h1 : x0 ≤ x2 ∧ x2 - 10 * x3 ≤ x0 - 10 * x1) (h2 : x3 < 1500) : (x2) + (1 : Int) < 2147483648 := by omega
theorem om_d6189fe104 {x0 x1 x2 x3 x4 : Int} (h0 : 0 ≤ x0 ∧ x0 ≤ 15 * x1 + 2) (h1 : x0 ≤ x2 ∧ x2 - 15 * x3 ≤ x0 - 15 * x1) (h2 : x4 = (x2) + (1 : Int)) : 0 ≤ x4 := by omega
theorem om_d92ff23961 {x0 x1 x2 x3 : Int} (h0 : 0 ≤ x0 ∧ x0 ≤ 15 * x1 + 2) (h1 : x0 ≤ x2 ∧ x2 - 15 * x3 ≤ x0 - 15 * x1) : 0 ≤ x2 := by omega
theorem om_64fdcab68b {x0 x1 x2 x3 : Int} (h0 : 0 ≤ x0 ∧ x0 ≤ 10 * x1 + 0) (h1 : x0 ≤ x2 ∧ x2 - 10 * x3 ≤ x0 - 10 * x1) : 0 ≤ x2 := by omega
theorem om_603e620d20 {x0 x2 x3 x4 : Int} {n1 : Nat} (h0 : 40 ≤ x0 + (n1 : Int)) (h1 : x2 = x3 ∧ x4 = x0) (h2 : x4 < 40) : 1 ≤ (n1 : Int) := by omega
theorem om_f521bbe340 {x0 x2 x3 x4 x5 : Int} {n1 n6 : Nat} (h0 : 40 ≤ x0 + (n1 : Int)) (h1 : x2 = x3 ∧ x4 = x0) (h2 : x5 = ((x4) + (1 : Int))) (h3 : n1 = n6 + 1) : 40 ≤ x5 + (n6 : Int) := by omega
theorem om_dbb4acc0fd {x0 x1 x2 x3 x4 x5 : Int} (h0 : 0 ≤ x0 ∧ x0 ≤ 15 * x1 + 0) (h1 : x2 ≤ x3 ∧ x3 - 15 * x4 ≤ x2 - 15 * x1) (h2 : x4 < 1500) (h3 : x5 = ((x4) + (1 : Int))) : 0 ≤ x5 ∧ x5 ≤ 1500 := by omega
theorem om_bdb8fa83c4 {x0 x1 x2 x3 x4 : Int} (h0 : 0 ≤ x0 ∧ x0 ≤ 40) (h1 : x1 = x2 ∧ x3 = x0) (h2 : x3 < 40) (h3 : x4 = ((x3) + (1 : Int))) : 0 ≤ x4 ∧ x4 ≤ 40 := by omega
theorem om_99c3a18084 {x0 x1 x2 x3 x4 x5 x6 x7 x8 x9 x10 : Int} (h0 : 0 ≤ x0 ∧ x1 + x0 ≤ x2) (h1 : x3 = x1) (h2 : x4 = x0 ∧ x5 = x6) (h3 : x2 ≤ x7 ∧ x7 ≤ 500) (h4 : x8 = x3) (h5 : x9 = x4) (h6 : x10 = x7) : 0 ≤ x9 ∧ x8 + x9 ≤ x10 := by omega
theorem om_85066833fe {x0 x1 x2 x3 x4 x5 : Int} (h0 : 0 ≤ x0 ∧ x0 ≤ 15 * x1 + 2) (h1 : x0 ≤ x2 ∧ x2 - 15 * x3 ≤ x0 - 15 * x1) (h2 : x4 = (((x2) + (1 : Int)) + (1 : Int))) (h3 : x5 = ((x3) + (1 : Int))) : 0 ≤ x4 ∧ x4 ≤ 15 * x5 + 2 := by omega
theorem om_406d5bdc40 {x0 x1 x2 x3 x4 x5 : Int} (h0 : 0 ≤ x0 ∧ x0 ≤ 10 * x1 + 0) (h1 : x0 ≤ x2 ∧ x2 - 10 * x3 ≤ x0 - 10 * x1) (h2 : x4 = ((x2) + (1 : Int))) (h3 : x5 = ((x3) + (1 : Int))) : 0 ≤ x4 ∧ x4 ≤ 10 * x5 + 0 := by omega
theorem om_fe7f88ac95 {x0 x1 x2 x3 x4 x5 : Int} (h0 : 0 ≤ x0 ∧ x0 ≤ 15 * x1 + 0) (h1 : x0 ≤ x2 ∧ x2 - 15 * x3 ≤ x0 - 15 * x1) (h2 : x4 = x2) (h3 : x5 = ((x3) + (1 : Int))) : 0 ≤ x4 ∧ x4 ≤ 15 * x5 + 0 := by omega
theorem om_8166826c4a {x0 x1 x2 x3 x4 x5 : Int} (h0 : 0 ≤ x0 ∧ x0 ≤ 1 * x1 + 0) (h1 : x0 ≤ x2 ∧ x2 - 1 * x3 ≤ x0 - 1 * x1) (h2 : x4 = x2) (h3 : x5 = ((x3) + (1 : Int))) : 0 ≤ x4 ∧ x4 ≤ 1 * x5 + 0 := by omega
theorem om_3d92ce95b5 {n0 n1 : Nat} (h0 : n0 = n1 + 1) : (40 * n1 + 36) + 1 ≤ 40 * n0 + 32 := by omega
theorem om_3adb627b3c {n0 n1 : Nat} (h0 : n0 = n1 + 1) : 8 + (1 + 11) + 28 * (40 * n1 + 36) ≤ 28 * (40 * n0 + 32) := by omega
theorem om_c6c5b1893f {x0 x1 x2 x3 x4 x5 x6 x7 x8 : Int} (h0 : 0 ≤ x0 ∧ x0 ≤ 15 * x1 + 0) (h1 : x2 ≤ x3 ∧ x3 - 15 * x4 ≤ x2 - 15 * x1) (h2 : x5 = ((x4) + (1 : Int))) (h3 : x5 + 1 ≤ x6 ∧ x6 ≤ 1500) (h4 : x7 ≤ x8 ∧ x8 - 15 * x6 ≤ x7 - 15 * x5) : 0 ≤ x6 ∧ x6 ≤ 1500 := by omega
theorem om_faf744916c {n0 : Nat} : 8 + (2 + 11) + 43 ≤ 28 * (40 * n0 + 32) := by omega
theorem om_766574127b {x0 x1 x2 x3 x4 x5 x6 x7 : Int} (h0 : 0 ≤ x0 ∧ x0 ≤ 15 * x1 + 2) (h1 : x0 ≤ x2 ∧ x2 - 15 * x3 ≤ x0 - 15 * x1) (h2 : x4 = ((x3) + (1 : Int))) (h3 : x5 ≤ x6 ∧ x6 - 15 * x7 ≤ x5 - 15 * x4) : -2147483648 ≤ (x7) + (1 : Int) := by omega
theorem om_411d8a6130 {x0 x1 x2 x3 x4 x5 x6 x7 : Int} (h0 : 0 ≤ x0 ∧ x0 ≤ 15 * x1 + 2) (h1 : x0 ≤ x2 ∧ x2 - 15 * x3 ≤ x0 - 15 * x1) (h2 : x4 = (((x2) + (1 : Int)) + (1 : Int))) (h3 : x5 = ((x3) + (1 : Int))) (h4 : x4 ≤ x6 ∧ x6 - 15 * x7 ≤ x4 - 15 * x5) (h5 : x7 < 1500) : 0 ≤ x6 ∧ x6 < 24000 := by omega
theorem om_36c8457dfb {x0 x1 x2 x3 x4 x5 x6 x7 : Int} (h0 : 0 ≤ x0 ∧ x0 ≤ 15 * x1 + 2) (h1 : x0 ≤ x2 ∧ x2 - 15 * x3 ≤ x0 - 15 * x1) (h2 : x4 = (((x2) + (1 : Int)) + (1 : Int))) (h3 : x4 ≤ x5 ∧ x5 - 15 * x6 ≤ x4 - 15 * x7) : -2147483648 ≤ (x5) + (1 : Int) := by omega
theorem om_e102b8e607 {x0 x1 x2 x3 x4 x5 x6 x7 : Int} (h0 : 0 ≤ x0 ∧ x0 ≤ 15 * x1 + 2) (h1 : x0 ≤ x2 ∧ x2 - 15 * x3 ≤ x0 - 15 * x1) (h2 : x4 = (((x2) + (1 : Int)) + (1 : Int))) (h3 : x5 = ((x3) + (1 : Int))) (h4 : x4 ≤ x6 ∧ x6 - 15 * x7 ≤ x4 - 15 * x5) (h5 : x7 < 1500) : (x6) + (1 : Int) < 2147483648 := by omega
theorem om_a37518a405 {x0 x1 x2 x3 x4 x5 x6 x7 : Int} (h0 : 0 ≤ x0 ∧ x0 ≤ 10 * x1 + 0) (h1 : x0 ≤ x2 ∧ x2 - 10 * x3 ≤ x0 - 10 * x1) (h2 : x4 = ((x2) + (1 : Int))) (h3 : x5 = ((x3) + (1 : Int))) (h4 : x4 ≤ x6 ∧ x6 - 10 * x7 ≤ x4 - 10 * x5) (h5 : x7 < 1500) : 0 ≤ x6 ∧ x6 < 16000 := by omega
theorem om_2e1b4a010f {x0 x1 x2 x3 x4 x5 x6 x7 : Int} (h0 : 0 ≤ x0 ∧ x0 ≤ 10 * x1 + 0) (h1 : x0 ≤ x2 ∧ x2 - 10 * x3 ≤ x0 - 10 * x1) (h2 : x4 = ((x2) + (1 : Int))) (h3 : x4 ≤ x5 ∧ x5 - 10 * x6 ≤ x4 - 10 * x7) : -2147483648 ≤ (x5) + (1 : Int) := by omega
theorem om_de602dc411 {x0 x1 x2 x3 x4 x5 x6 x7 : Int} (h0 : 0 ≤ x0 ∧ x0 ≤ 10 * x1 + 0) (h1 : x0 ≤ x2 ∧ x2 - 10 * x3 ≤ x0 - 10 * x1) (h2 : x4 = ((x2) + (1 : Int))) (h3 : x5 = ((x3) + (1 : Int))) (h4 : x4 ≤ x6 ∧ x6 - 10 * x7 ≤ x4 - 10 * x5) (h5 : x7 < 1500) : (x6) + (1 : Int) < 2147483648 := by omega
theorem om_5c81210f4c {n0 : Nat} : 8 + (4 + 11) + 21 ≤ 28 * (40 * n0 + 32) := by omega
theorem om_11b5b95650 {x0 x1 x2 x3 x4 x5 x6 x7 : Int} (h0 : 0 ≤ x0 ∧ x0 ≤ 15 * x1 + 2) (h1 : x0 ≤ x2 ∧ x2 - 15 * x3 ≤ x0 - 15 * x1) (h2 : x4 = (((x2) + (1 : Int)) + (1 : Int))) (h3 : x4 ≤ x5 ∧ x5 - 15 * x6 ≤ x4 - 15 * x7) : 0 ≤ x5 := by omega
theorem om_2ba797da8c {x0 x1 x2 x3 x4 x5 x6 x7 : Int} {n8 : Nat} (h0 : x0 ≤ x1 ∧ x1 - 15 * x2 ≤ x0 - 15 * x3) (h1 : x4 = (((x1) + (1 : Int)) + (1 : Int))) (h2 : x4 ≤ x5 ∧ x5 - 15 * x6 ≤ x4 - 15 * x7) (h3 : (n8 : Int) < x0) : (n8 : Int) < x5 := by omega
theorem om_ec35cc6c83 {x0 x1 x2 x3 x4 : Int} {n5 : Nat} (h0 : x0 ≤ x1 ∧ x1 - 15 * x2 ≤ x0 - 15 * x3) (h1 : x4 = (((x1) + (1 : Int)) + (1 : Int))) (h2 : (n5 : Int) < x0) : (n5 : Int) < x4 := by omega
theorem om_fb2ee2ae02 {x0 x1 x2 x3 x4 x5 x6 x7 : Int} (h0 : 0 ≤ x0 ∧ x0 ≤ 10 * x1 + 0) (h1 : x0 ≤ x2 ∧ x2 - 10 * x3 ≤ x0 - 10 * x1) (h2 : x4 = ((x2) + (1 : Int))) (h3 : x4 ≤ x5 ∧ x5 - 10 * x6 ≤ x4 - 10 * x7) : 0 ≤ x5 := by omega
theorem om_74373070f9 {x0 x1 x2 x3 x4 x5 x6 x7 : Int} {n8 : Nat} (h0 : x0 ≤ x1 ∧ x1 - 10 * x2 ≤ x0 - 10 * x3) (h1 : x4 = ((x1) + (1 : Int))) (h2 : x4 ≤ x5 ∧ x5 - 10 * x6 ≤ x4 - 10 * x7) (h3 : (n8 : Int) < x0) : (n8 : Int) < x5 := by omega
theorem om_43af15ebbb {x0 x1 x2 x3 x4 : Int} {n5 : Nat} (h0 : x0 ≤ x1 ∧ x1 - 10 * x2 ≤ x0 - 10 * x3) (h1 : x4 = ((x1) + (1 : Int))) (h2 : (n5 : Int) < x0) : (n5 : Int) < x4 := by omega
theorem om_470152f5ba {x0 x1 x2 x3 : Int} (h0 : 0 ≤ x0 ∧ x0 ≤ 10 * x1 + 0) (h1 : x0 ≤ x2 ∧ x2 - 10 * x3 ≤ x0 - 10 * x1) (h2 : x3 < 1500) : x2 < 16000 := by omega
theorem om_bce5f2fb63 {n0 n1 : Nat} (h0 : n0 = n1 + 1) : 1 ≤ (n0 : Int) := by omega
theorem om_56cd31fe58 {x0 x2 x3 x4 x5 x6 x7 x8 x9 : Int} {n1 n10 : Nat} (h0 : 40 ≤ x0 + (n1 : Int)) (h1 : x2 = x3 ∧ x4 = x0) (h2 : x5 = ((x4) + (1 : Int))) (h3 : x6 = x7 ∧ x8 = x5) (h4 : x9 = x8) (h5 : n1 = n10 + 1) : 40 ≤ x9 + (n10 : Int) := by omega
theorem om_f1f7d949c2 {x0 x1 x2 x3 x4 x5 x6 x7 x8 x9 : Int} (h0 : 0 ≤ x0 ∧ x0 ≤ 15 * x1 + 0) (h1 : x2 ≤ x3 ∧ x3 - 15 * x4 ≤ x2 - 15 * x1) (h2 : x5 = ((x4) + (1 : Int))) (h3 : x6 ≤ x7 ∧ x7 - 15 * x8 ≤ x6 - 15 * x5) (h4 : x8 < 1500) (h5 : x9 = ((x8) + (1 : Int))) : 0 ≤ x9 ∧ x9 ≤ 1500 := by omega
theorem om_833f3aaaac {x0 x1 x2 x3 x4 x5 x6 x7 x8 : Int} (h0 : 0 ≤ x0 ∧ x0 ≤ 40) (h1 : x1 = x2 ∧ x3 = x0) (h2 : x3 < 40) (h3 : x4 = ((x3) + (1 : Int))) (h4 : x5 = x6 ∧ x7 = x4) (h5 : x8 = x7) : 0 ≤ x8 ∧ x8 ≤ 40 := by omega
theorem om_c7a2cb3b98 {x0 x1 x2 x3 x4 : Int} (h0 : 0 ≤ x0 ∧ x0 ≤ 500) (h1 : x0 ≤ x1 ∧ x1 ≤ 500) (h2 : x2 = x1) (h3 : x2 ≤ x3 ∧ x3 ≤ 500) (h4 : x4 = x3) : 0 ≤ x4 ∧ x4 ≤ 500 := by omega
theorem om_3ed5ac99c4 {x0 x1 x2 x3 x4 x5 x6 x7 x8 x9 x10 x11 x12 x13 x14 x15 x16 x17 x18 : Int} (h0 : 0 ≤ x0 ∧ x1 + x0 ≤ x2) (h1 : x3 = x1) (h2 : x4 = x0 ∧ x5 = x6) (h3 : x2 ≤ x7 ∧ x7 ≤ 500) (h4 : x8 = x3) (h5 : x9 = x4) (h6 : x10 = x7) (h7 : x11 = x8) (h8 : x12 = x9 ∧ x13 = x14) (h9 : x10 ≤ x15 ∧ x15 ≤ 500) (h10 : x16 = x11) (h11 : x17 = x12) (h12 : x18 = x15) : 0 ≤ x17 ∧ x16 + x17 ≤ x18 := by omega
theorem om_7306ff97ee {x0 x1 x2 x3 x4 x5 x6 x7 x8 x9 : Int} (h0 : 0 ≤ x0 ∧ x0 ≤ 15 * x1 + 2) (h1 : x0 ≤ x2 ∧ x2 - 15 * x3 ≤ x0 - 15 * x1) (h2 : x4 = (((x2) + (1 : Int)) + (1 : Int))) (h3 : x5 = ((x3) + (1 : Int))) (h4 : x4 ≤ x6 ∧ x6 - 15 * x7 ≤ x4 - 15 * x5) (h5 : x8 = ((x6) + (1 : Int))) (h6 : x9 = ((x7) + (1 : Int))) : 0 ≤ x8 ∧ x8 ≤ 15 * x9 + 2 := by omega
theorem om_77fbe6b781 {x0 x1 x2 x3 x4 x5 x6 x7 x8 x9 : Int} (h0 : 0 ≤ x0 ∧ x0 ≤ 10 * x1 + 0) (h1 : x0 ≤ x2 ∧ x2 - 10 * x3 ≤ x0 - 10 * x1) (h2 : x4 = ((x2) + (1 : Int))) (h3 : x5 = ((x3) + (1 : Int))) (h4 : x4 ≤ x6 ∧ x6 - 10 * x7 ≤ x4 - 10 * x5) (h5 : x8 = ((x6) + (1 : Int))) (h6 : x9 = ((x7) + (1 : Int))) : 0 ≤ x8 ∧ x8 ≤ 10 * x9 + 0 := by omega
theorem om_704b89e829 {x0 x1 x2 x3 x4 x5 x6 x7 x8 x9 : Int} (h0 : 0 ≤ x0 ∧ x0 ≤ 15 * x1 + 0) (h1 : x0 ≤ x2 ∧ x2 - 15 * x3 ≤ x0 - 15 * x1) (h2 : x4 = x2) (h3 : x5 = ((x3) + (1 : Int))) (h4 : x4 ≤ x6 ∧ x6 - 15 * x7 ≤ x4 - 15 * x5) (h5 : x8 = x6) (h6 : x9 = ((x7) + (1 : Int))) : 0 ≤ x8 ∧ x8 ≤ 15 * x9 + 0 := by omega
theorem om_fe081b818f {x0 x1 x2 x3 x4 x5 x6 x7 x8 x9 : Int} (h0 : 0 ≤ x0 ∧ x0 ≤ 1 * x1 + 0) (h1 : x0 ≤ x2 ∧ x2 - 1 * x3 ≤ x0 - 1 * x1) (h2 : x4 = x2) (h3 : x5 = ((x3) + (1 : Int))) (h4 : x4 ≤ x6 ∧ x6 - 1 * x7 ≤ x4 - 1 * x5) (h5 : x8 = x6) (h6 : x9 = ((x7) + (1 : Int))) : 0 ≤ x8 ∧ x8 ≤ 1 * x9 + 0 := by omega
theorem om_e8099a1658 {n0 n1 : Nat} (h0 : n0 = n1 + 1) : (40 * n1 + 32) + 1 ≤ 40 * n0 + 32 := by omega
theorem om_514c099c57 {n0 n1 : Nat} (h0 : n0 = n1 + 1) : 8 + (6 + 11) + 28 * (40 * n1 + 32) ≤ 28 * (40 * n0 + 32) := by omega
theorem om_b9e1b4e46f {x0 x1 x2 x3 x4 x5 x6 x7 : Int} (h0 : 0 ≤ x0 ∧ x0 ≤ 10 * x1 + 0) (h1 : x0 ≤ x2 ∧ x2 - 10 * x3 ≤ x0 - 10 * x1) (h2 : x4 = ((x2) + (1 : Int))) (h3 : x5 = ((x3) + (1 : Int))) (h4 : x4 ≤ x6 ∧ x6 - 10 * x7 ≤ x4 - 10 * x5) (h5 : x7 < 1500) : x6 < 16000 := by omega
theorem om_8ec5b94df5 {x0 x1 x2 x3 x4 x5 x6 x7 x8 x9 x10 x11 : Int} (h0 : 0 ≤ x0 ∧ x0 ≤ 40) (h1 : x1 = x2 ∧ x3 = x0) (h2 : x4 = ((x3) + (1 : Int))) (h3 : x5 = x6 ∧ x7 = x4) (h4 : x8 = x7) (h5 : x9 = x10 ∧ x11 = x8) : -2147483648 ≤ (x11) - (1 : Int) := by omega
theorem om_4dd439132c {x0 x1 x2 x3 x4 x5 x6 x7 x8 : Int} (h0 : x0 < 40) (h1 : x1 = ((x0) + (1 : Int))) (h2 : x2 = x3 ∧ x4 = x1) (h3 : x5 = x4) (h4 : x6 = x7 ∧ x8 = x5) : (x8) - (1 : Int) < 2147483648 := by omega
theorem om_510871f2a8 {x0 x1 x2 x3 x4 x5 x6 x7 x8 x9 x10 x11 : Int} (h0 : x0 ≤ x1 ∧ x1 - 15 * x2 ≤ x0 - 15 * x3) (h1 : x4 = ((x2) + (1 : Int))) (h2 : x5 ≤ x6 ∧ x6 - 15 * x7 ≤ x5 - 15 * x4) (h3 : x8 = ((x7) + (1 : Int))) (h4 : x8 + 0 ≤ x9 ∧ x9 ≤ 1500) (h5 : x10 ≤ x11 ∧ x11 - 15 * x9 ≤ x10 - 15 * x8) : x3 + 0 ≤ x9 ∧ x9 ≤ 1500 := by omega
theorem om_bfbfef860c {x0 x1 x2 x3 x4 x5 x6 x7 x8 x9 x10 x11 : Int} (h0 : x0 ≠ 0 ∨ (x1 + 1 ≤ x2 ∧ x3 ≠ x1)) (h1 : x4 ≤ x5 ∧ x5 - 15 * x2 ≤ x4 - 15 * x1) (h2 : x6 = ((x2) + (1 : Int))) (h3 : x6 + 1 ≤ x7 ∧ x7 ≤ 1500) (h4 : x8 = ((x7) + (1 : Int))) (h5 : x9 ≤ x10 ∧ x10 - 15 * x11 ≤ x9 - 15 * x8) : x0 ≠ 0 ∨ (x1 + 1 ≤ x11 ∧ x3 ≠ x1) := by omega
theorem om_800df19407 {x0 x1 x2 x3 x4 x5 x6 x7 x8 x9 x10 x11 : Int} (h0 : x0 ≤ x1 ∧ x1 - 15 * x2 ≤ x0 - 15 * x3) (h1 : x4 = (((x1) + (1 : Int)) + (1 : Int))) (h2 : x5 = ((x2) + (1 : Int))) (h3 : x4 ≤ x6 ∧ x6 - 15 * x7 ≤ x4 - 15 * x5) (h4 : x8 = ((x6) + (1 : Int))) (h5 : x9 = ((x7) + (1 : Int))) (h6 : x8 ≤ x10 ∧ x10 - 15 * x11 ≤ x8 - 15 * x9) : x0 ≤ x10 ∧ x10 - 15 * x11 ≤ x0 - 15 * x3 := by omega
theorem om_27f0bcb4b5 {x0 x1 x2 x3 x4 x5 x6 x7 x8 x9 x10 x11 : Int} (h0 : x0 ≤ x1 ∧ x1 - 10 * x2 ≤ x0 - 10 * x3) (h1 : x4 = ((x1) + (1 : Int))) (h2 : x5 = ((x2) + (1 : Int))) (h3 : x4 ≤ x6 ∧ x6 - 10 * x7 ≤ x4 - 10 * x5) (h4 : x8 = ((x6) + (1 : Int))) (h5 : x9 = ((x7) + (1 : Int))) (h6 : x8 ≤ x10 ∧ x10 - 10 * x11 ≤ x8 - 10 * x9) : x0 ≤ x10 ∧ x10 - 10 * x11 ≤ x0 - 10 * x3 := by omega
theorem om_c4eac94ad9 {x0 x1 x2 x3 x4 x5 x6 x7 x8 x9 x10 x11 : Int} (h0 : x0 ≤ x1 ∧ x1 - 15 * x2 ≤ x0 - 15 * x3) (h1 : x4 = x1) (h2 : x5 = ((x2) + (1 : Int))) (h3 : x4 ≤ x6 ∧ x6 - 15 * x7 ≤ x4 - 15 * x5) (h4 : x8 = x6) (h5 : x9 = ((x7) + (1 : Int))) (h6 : x8 ≤ x10 ∧ x10 - 15 * x11 ≤ x8 - 15 * x9) : x0 ≤ x10 ∧ x10 - 15 * x11 ≤ x0 - 15 * x3 := by omega
theorem om_9ade6bd3cc {x0 x1 x2 x3 x4 x5 x6 x7 x8 x9 x10 x11 : Int} (h0 : x0 ≤ x1 ∧ x1 - 1 * x2 ≤ x0 - 1 * x3) (h1 : x4 = x1) (h2 : x5 = ((x2) + (1 : Int))) (h3 : x4 ≤ x6 ∧ x6 - 1 * x7 ≤ x4 - 1 * x5) (h4 : x8 = x6) (h5 : x9 = ((x7) + (1 : Int))) (h6 : x8 ≤ x10 ∧ x10 - 1 * x11 ≤ x8 - 1 * x9) : x0 ≤ x10 ∧ x10 - 1 * x11 ≤ x0 - 1 * x3 := by omega
theorem om_8c13340bd7 {x0 x1 x2 x3 x4 x5 x6 x7 x8 x9 x10 x11 x12 : Int} (h0 : x0 = x1 ∧ x2 = x3) (h1 : x4 = x0) (h2 : x5 = ((x2) + (1 : Int))) (h3 : x6 = x4 ∧ x7 = x5) (h4 : x8 = x6) (h5 : x9 = x7) (h6 : x10 = x8 ∧ x11 = x9) (h7 : x12 = (x11) - (1 : Int)) : x10 = x1 ∧ x12 = x3 := by omega
theorem om_3feabe0028 {x0 x1 x2 x3 x4 x5 : Int} (h0 : x0 ≤ x1 ∧ x1 ≤ 500) (h1 : x2 = x1) (h2 : x2 ≤ x3 ∧ x3 ≤ 500) (h3 : x4 = x3) (h4 : x4 ≤ x5 ∧ x5 ≤ 500) : x0 ≤ x5 ∧ x5 ≤ 500 := by omega
theorem om_3809a830b4 {x0 x1 x2 x3 x4 x5 x6 x7 x8 : Int} {n9 : Nat} (h0 : x0 ≤ x1 ∧ x1 - 15 * x2 ≤ x0 - 15 * x3) (h1 : x4 = (((x1) + (1 : Int)) + (1 : Int))) (h2 : x4 ≤ x5 ∧ x5 - 15 * x6 ≤ x4 - 15 * x7) (h3 : x8 = ((x5) + (1 : Int))) (h4 : (n9 : Int) < x0) : (n9 : Int) < x8 := by omega
theorem om_a9ea260df7 {x0 x1 x2 x3 x4 x5 x6 x7 x8 : Int} {n9 : Nat} (h0 : x0 ≤ x1 ∧ x1 - 10 * x2 ≤ x0 - 10 * x3) (h1 : x4 = ((x1) + (1 : Int))) (h2 : x4 ≤ x5 ∧ x5 - 10 * x6 ≤ x4 - 10 * x7) (h3 : x8 = ((x5) + (1 : Int))) (h4 : (n9 : Int) < x0) : (n9 : Int) < x8 := by omega
theorem om_f635e31d47 {x0 x1 x2 x3 : Int} (h0 : x0 ≠ 0 ∨ (x1 + 1 ≤ x2 ∧ x3 ≠ x1)) : x0 ≠ 0 ∨ (x1 + 1 ≤ x2 ∧ x3 ≠ x1) := by omega
set_option maxHeartbeats 16000000 in
set_option maxRecDepth 100000 in
theorem c_m_choice (l : Launch) (n : Nat) (ihE : ∀ m, n = m + 1 → Cx_expression l m) (ihC : ∀ m, n = m + 1 → Cx_choice l m) (J : Cx_joined l n 10) (dC : Nat → ClassId) (dI : Nat → Nat → Nat) (cI cB cZ cJ cR : ClassId) (tb : Nat → Nat) (sz : Nat) (ad : Nat → Nat) (N : Nat) (v : MS) (pa : Int32) (zn : 40 ≤ (v.1 0 48).toInt + (n : Int)) (zt : 0 ≤ (v.1 0 47).toInt ∧ (v.1 0 47).toInt ≤ 1500) (zop : 0 ≤ (v.1 0 48).toInt ∧ (v.1 0 48).toInt ≤ 40) (zkn : 0 ≤ (v.1 0 30).toInt ∧ (v.1 0 30).toInt ≤ 500) (zhi : 0 ≤ (v.1 0 33).toInt ∧ (v.1 0 33).toInt ≤ 500) (zs : 0 ≤ (v.1 0 32).toInt ∧ (v.1 0 30).toInt + (v.1 0 32).toInt ≤ (v.1 0 33).toInt) (zws : 0 ≤ (v.1 0 12).toInt ∧ (v.1 0 12).toInt ≤ 15 * (v.1 0 47).toInt + 2) (zos : 0 ≤ (v.1 0 15).toInt ∧ (v.1 0 15).toInt ≤ 10 * (v.1 0 47).toInt + 0) (zfs : 0 ≤ (v.1 0 43).toInt ∧ (v.1 0 43).toInt ≤ 15 * (v.1 0 47).toInt + 0) (zcs : 0 ≤ (v.1 0 39).toInt ∧ (v.1 0 39).toInt ≤ 1 * (v.1 0 47).toInt + 0) (zgl : 0 ≤ (v.1 0 27).toInt ∧ (v.1 0 27).toInt ≤ 60) (hT : TI v) (a29 : AR 29 0 1500 v) (a23 : AR 23 0 1500 v) (a35 : AR 35 0 1500 v) (a37 : AR 37 0 23999 v) (a38 : AR 38 0 15999 v) (a40 : AR 40 0 23999 v) (fx : FX v) : vx_Met l yX13_choice (Cond.code yX13_choice cX13_choice 6 none :: tw_W) ({ frames := 40 * n + 32, cells := 0, slots := 0, locals := 28 * (40 * n + 32) }) (pc_ (dC, dI) (tyS cI cB cZ cJ cR) tb (mW ad N cI cZ cJ v) sz [.ref (ad 0), .int pa]) (qv_ (dC, dI) (mW ad N cI cZ cJ v) sz (fun (u : MS) => FG [12, 15, 32, 33, 39, 43, 44, 45, 47, 48, 49, 50, 51] [0, 11, 13, 14, 35, 36, 37, 38, 40, 41, 42] v u ∧ ((v.1 0 47).toInt + 0 ≤ (u.1 0 47).toInt ∧ (u.1 0 47).toInt ≤ 1500) ∧ (pa.toInt ≠ 0 ∨ ((v.1 0 47).toInt + 1 ≤ (u.1 0 47).toInt ∧ (v.1 0 49).toInt ≠ (v.1 0 47).toInt)) ∧ ((v.1 0 12).toInt ≤ (u.1 0 12).toInt ∧ (u.1 0 12).toInt - 15 * (u.1 0 47).toInt ≤ (v.1 0 12).toInt - 15 * (v.1 0 47).toInt) ∧ ((v.1 0 15).toInt ≤ (u.1 0 15).toInt ∧ (u.1 0 15).toInt - 10 * (u.1 0 47).toInt ≤ (v.1 0 15).toInt - 10 * (v.1 0 47).toInt) ∧ ((v.1 0 43).toInt ≤ (u.1 0 43).toInt ∧ (u.1 0 43).toInt - 15 * (u.1 0 47).toInt ≤ (v.1 0 43).toInt - 15 * (v.1 0 47).toInt) ∧ ((v.1 0 39).toInt ≤ (u.1 0 39).toInt ∧ (u.1 0 39).toInt - 1 * (u.1 0 47).toInt ≤ (v.1 0 39).toInt - 1 * (v.1 0 47).toInt) ∧ ((u.1 0 32).toInt = (v.1 0 32).toInt ∧ (u.1 0 48).toInt = (v.1 0 48).toInt) ∧ ((v.1 0 33).toInt ≤ (u.1 0 33).toInt ∧ (u.1 0 33).toInt ≤ 500) ∧ (∀ j : Nat, (j : Int) < (v.1 0 12).toInt → (u.1 11) j = (v.1 11) j) ∧ (∀ j : Nat, (j : Int) < (v.1 0 15).toInt → (u.1 13) j = (v.1 13) j) ∧ (∀ j : Nat, (j : Int) < (v.1 0 15).toInt → (u.1 14) j = (v.1 14) j) ∧ (AR 35 0 1500 u) ∧ (AR 37 0 23999 u) ∧ (AR 38 0 15999 u) ∧ (AR 40 0 23999 u) ∧ (FX u)) (fun (u : MS) => (mW ad N cI cZ cJ u))) (qxm (dC, dI) (mW ad N cI cZ cJ v) sz (fun (u : MS) => (mW ad N cI cZ cJ u)) (fun (u : MS) => Fr v u)) 0 0 (va_A (mW ad N cI cZ cJ v) sz) := by
  refine vx_ofW (cc := cX13_choice) (maxL := 6) (ret := none) (by decide) rfl ?_
  intro p e s m args below meth c s₁ B hml hnt hv
  obtain ⟨rfl, hsz, hP, hKK, hD0, hFx⟩ := hv
  have hK := hKK.1
  have hx := B.exec
  have hb := B.bytes
  have hr := B.returns
  have ht : ∀ w ∈ tw_W, w.before _ s = true := fun w h => atoms_spec (ws := Cond.code yX13_choice cX13_choice 6 none :: tw_W) B.pre w (List.mem_cons_of_mem _ h)
  have hown : s.vm.findClass RX13 = some m.cls := findClass_of_methodNamed B.named
  have hlocks := B.notSynchronized
  subst hsz
  unfold qv_ qxm
  have hD := hD0.self (sz := s.heap.size)
  generalize hAe : va_A (mW ad N cI cZ cJ v) s.heap.size = A at hD hFx ⊢
  have hA : ∀ q : Nat, s.heap.size ≤ q → A q := fun q h => by rw [← hAe]; exact Or.inr h
  have hS : va_S A s.heap s.heap [] := va_S.rf
  have hl := lv_entry ([.ref (ad 0), .int pa]) (n := 6) (Nat.le_of_ble_eq_true rfl)
  rw [lg_entry_eq]
  generalize (lg_sl ([.ref (ad 0), .int pa]) ++ List.replicate (6 - (lg_sl ([.ref (ad 0), .int pa])).length) Slot.unset).toArray = ls at hl ⊢
  have hl : lv_has ls 6 [(0, .ref (ad 0)), (1, .int pa)] := hl
  refine lv_aload_n hx hb dX13_choice_0 rfl (lv_at hl 0 rfl) ?_
  refine lv_iconst (v := 1) hx hb dX13_choice_1 (by decide) ?_
  refine lv_iload_n hx hb dX13_choice_2 rfl (lv_at hl 1 rfl) ?_
  refine cux_v (rx_V (n := 2) (As := [.int 1, .int pa]) (rest := []) hx hb hml hown ht hKK hFx hP hD hS hA (J dC dI cI cB cZ cJ cR tb s.heap.size ad N v (1 : Int32) pa (show 40 ≤ (v.1 0 48).toInt + (n : Int) from (om_a9150ae9b6 zn)) (show 0 ≤ (v.1 0 47).toInt ∧ (v.1 0 47).toInt ≤ 1500 from (om_2fb699b811 zt zfs)) (show 0 ≤ (v.1 0 48).toInt ∧ (v.1 0 48).toInt ≤ 40 from (om_7eaf33e007 zop)) (show 0 ≤ (v.1 0 30).toInt ∧ (v.1 0 30).toInt ≤ 500 from (om_9861e69da5 zkn)) (show 0 ≤ (v.1 0 33).toInt ∧ (v.1 0 33).toInt ≤ 500 from (om_9861e69da5 zhi)) (show 0 ≤ (v.1 0 32).toInt ∧ (v.1 0 30).toInt + (v.1 0 32).toInt ≤ (v.1 0 33).toInt from (om_f541e4003c zs)) (show 0 ≤ (v.1 0 12).toInt ∧ (v.1 0 12).toInt ≤ 15 * (v.1 0 47).toInt + 2 from (om_0093b55d27 zws)) (show 0 ≤ (v.1 0 15).toInt ∧ (v.1 0 15).toInt ≤ 10 * (v.1 0 47).toInt + 0 from (om_f99dd47f94 zos)) (show 0 ≤ (v.1 0 43).toInt ∧ (v.1 0 43).toInt ≤ 15 * (v.1 0 47).toInt + 0 from (om_116b0ae668 zfs)) (show 0 ≤ (v.1 0 39).toInt ∧ (v.1 0 39).toInt ≤ 1 * (v.1 0 47).toInt + 0 from (om_081ea48693 zcs)) (show 0 ≤ (v.1 0 27).toInt ∧ (v.1 0 27).toInt ≤ 60 from (om_1d2c7ad648 zgl)) (show TI v from FG.ti (fl := pfl) (al := pal) (FG.rf _) (by decide) (by decide) hT) (show AR 29 0 1500 v from a29) (show AR 23 0 1500 v from a23) (show AR 35 0 1500 v from a35) (show AR 37 0 23999 v from a37) (show AR 38 0 15999 v from a38) (show AR 40 0 23999 v from a40) (show FX v from fx) (show 1 ≤ (1 : Int) ∧ (1 : Int) ≤ 12 ∧ 11 ≤ (1 : Int) + (10 : Int) from om_2ac0da4c36)) tw_124 tw_125 (by decide +kernel) rfl rfl ⟨show (40 * n + 10 + 2 * 10) + 1 ≤ 40 * n + 32 from om_ce128b9fc5, show 8 + (6 + 11) + 28 * (40 * n + 10 + 2 * 10) ≤ 28 * (40 * n + 32) from om_aaa4eb1422⟩ (List.range (mW ad N cI cZ cJ v).length) (rg_map _) (mW_nd _ _ _ _ _ _) rfl rfl rfl rfl hl.1 rfl (Nat.le_of_ble_eq_true rfl) dX13_choice_3 ⟨Nat.le_of_ble_eq_true rfl, Nat.le_of_ble_eq_true rfl⟩) hP hD hS hA (fun u9 ce9 q9 H locs hx9 hP hD hS hc9 hv9 hf9 => ?_) (fun u2 H locs hw1 hP hD hS => ?_)
  · exact vx_out (fun x h9 => (hnt x h9).elim) hlocks hc9 hv9 hf9 (fun t9 ht9 hv8 => ⟨u9, (FG.tr (FG.rf _) hx9), ⟨rfl, by rw [ht9]; exact hP, hD⟩, hS.F ht9⟩) hS.2.2 (Nat.le_refl _) (Nat.le_refl _)
  obtain ⟨fr1, pt1, pb1, pw1, po1, pf1, pk1, pp1, ph1, kc1, ko1, kg1, a351, a371, a381, a401, fx1⟩ := hw1
  refine W.widen (k := 0) (n := 0) (Nat.le_refl _) (Nat.le_refl _) ?_
  refine lv_aload_n hx hb dX13_choice_6 rfl (lv_at hl 0 rfl) ?_
  refine lv_bipush (v := 63) hx hb dX13_choice_7 (by decide) ?_
  refine cu_i (rn_V (n := 1) (As := [.int 63]) (rest := []) hx hb hml hown ht hKK hFx hP hD hS hA (c_m_is l dC dI cI cB cZ cJ cR tb H.size ad N u2 (63 : Int32) (show 0 ≤ (u2.1 0 47).toInt ∧ (u2.1 0 47).toInt ≤ 1500 from (om_dedf438ac0 zfs pt1 pw1))) tw_34 tw_35 (by decide +kernel) rfl rfl ⟨show 1 + 1 ≤ 40 * n + 32 from om_5ce856c17b, show 8 + (2 + 11) + 22 ≤ 28 * (40 * n + 32) from om_b5ade8f251⟩ (List.range (mW ad N cI cZ cJ u2).length) (rg_map _) (mW_nd _ _ _ _ _ _) rfl rfl rfl rfl hl.1 rfl (Nat.le_of_ble_eq_true rfl) dX13_choice_9 ⟨Nat.le_of_ble_eq_true rfl, Nat.le_of_ble_eq_true rfl⟩) hP hD hS hA (fun r6 u5 H locs hw4 hP hD hS => ?_)
  obtain ⟨rfl, b4, e4⟩ := hw4
  have b4 : (r6 = 0 ∨ r6 = 1) := b4
  have e4 : 0 ≤ r6.toInt ∧ r6.toInt ≤ 1 := e4
  refine W.widen (k := 0) (n := 0) (Nat.le_refl _) (Nat.le_refl _) ?_
  refine lv_if_ne (tgt := 16) hx hb dX13_choice_12 (by decide) (fun h7 => ?_) (fun h7 => ?_)
  · have z8 : r6.toInt ≠ (0 : Int) := ne_z rfl (show (0 : Int32).toInt = (0 : Int) by decide) h7
    refine lv_aload_n hx hb dX13_choice_16 rfl (lv_at hl 0 rfl) ?_
    refine cux_v (rx_V (n := 0) (As := []) (rest := []) hx hb hml hown ht hKK hFx hP hD hS hA (c_m_opens l dC dI cI cB cZ cJ cR tb H.size ad N u2  (show 0 ≤ (u2.1 0 47).toInt ∧ (u2.1 0 47).toInt ≤ 1500 from (om_dedf438ac0 zfs pt1 pw1)) (show 0 ≤ (u2.1 0 48).toInt ∧ (u2.1 0 48).toInt ≤ 40 from (om_e097fd8e1d zop pp1))) tw_38 tw_39 (by decide +kernel) rfl rfl ⟨show 2 + 1 ≤ 40 * n + 32 from om_ac1e853792, show 8 + (1 + 11) + 42 ≤ 28 * (40 * n + 32) from om_5dc62e6231⟩ (List.range (mW ad N cI cZ cJ u2).length) (rg_map _) (mW_nd _ _ _ _ _ _) rfl rfl rfl rfl hl.1 rfl (Nat.le_of_ble_eq_true rfl) dX13_choice_17 ⟨Nat.le_of_ble_eq_true rfl, Nat.le_of_ble_eq_true rfl⟩) hP hD hS hA (fun u9 ce9 q9 H locs hx9 hP hD hS hc9 hv9 hf9 => ?_) (fun u10 H locs hw9 hP hD hS => ?_)
    · exact vx_out (fun x h9 => (hnt x h9).elim) hlocks hc9 hv9 hf9 (fun t9 ht9 hv8 => ⟨u9, (FG.tr (FG.tr (FG.rf _) (FG.up fr1 (by decide) (by decide))) hx9), ⟨rfl, by rw [ht9]; exact hP, hD⟩, hS.F ht9⟩) hS.2.2 (Nat.le_refl _) (Nat.le_refl _)
    obtain ⟨rfl, a9, b9, c9⟩ := hw9
    have z12 : ((u2.1 0 47) + (1 : Int32)).toInt = ((u2.1 0 47).toInt) + (1 : Int) := add_z rfl (show (1 : Int32).toInt = (1 : Int) by decide) (om_a68c7d7d08 zws pw1) (om_62fdc63c28 pt1)
    have z13 : ((u2.1 0 48) + (1 : Int32)).toInt = ((u2.1 0 48).toInt) + (1 : Int) := add_z rfl (show (1 : Int32).toInt = (1 : Int) by decide) (om_3aaf71f2f8 zop pp1) (om_b34818bad1 zop pp1)
    have hP : va_P (dC, dI) vwCl (mW ad N cI cZ cJ (wA (wA u2 0 47 ((u2.1 0 47) + (1 : Int32))) 0 48 ((u2.1 0 48) + (1 : Int32)))) H := hP
    have hD : va_D A (mW ad N cI cZ cJ (wA (wA u2 0 47 ((u2.1 0 47) + (1 : Int32))) 0 48 ((u2.1 0 48) + (1 : Int32)))) := hD
    have a9 : (u2.1 0 47).toInt < 1500 := a9
    have b9 : (u2.1 0 48).toInt < 40 := b9
    have c9 : (u2.1 0 49).toInt ≠ (u2.1 0 47).toInt := c9
    refine W.widen (k := 0) (n := 0) (Nat.le_refl _) (Nat.le_refl _) ?_
    refine lv_aload_n hx hb dX13_choice_20 rfl (lv_at hl 0 rfl) ?_
    refine lv_iconst (v := 1) hx hb dX13_choice_21 (by decide) ?_
    refine lv_bipush (v := 10) hx hb dX13_choice_22 (by decide) ?_
    refine lv_iconst (v := 0) hx hb dX13_choice_24 (by decide) ?_
    refine lv_bipush (v := 8) hx hb dX13_choice_25 (by decide) ?_
    refine cu_s (mW_nd _ _ _ _ _ _) (rn_S (n := 4) (As := [.int 1, .int 10, .int 0, .int 8]) (rest := [.ref (ad 0)]) hx hb hml hown ht hKK hFx hP hD hS hA (c_m_byB l dC dI cI cB cZ cJ cR tb H.size (1 : Int32) (10 : Int32) (0 : Int32) (8 : Int32) ) tw_85 tw_86 (by decide +kernel) rfl rfl ⟨show 0 + 1 ≤ 40 * n + 32 from om_2bb39494e2, show 8 + (4 + 11) + 0 ≤ 28 * (40 * n + 32) from om_98b62a18e2⟩ [] rfl rfl rfl hl.1 rfl (Nat.le_of_ble_eq_true rfl) dX13_choice_27 ⟨Nat.le_of_ble_eq_true rfl, Nat.le_of_ble_eq_true rfl⟩) hP hD hS hA (fun r16 H locs hw14 hP hD hS => ?_)
    refine W.widen (k := 0) (n := 0) (Nat.le_refl _) (Nat.le_refl _) ?_
    refine cu_i (rn_V (n := 1) (As := [.int r16]) (rest := []) hx hb hml hown ht hKK hFx hP hD hS hA (c_m_emit l dC dI cI cB cZ cJ cR tb H.size ad N (wA (wA u2 0 47 ((u2.1 0 47) + (1 : Int32))) 0 48 ((u2.1 0 48) + (1 : Int32))) r16 (show 0 ≤ (u2.1 0 12).toInt ∧ (u2.1 0 12).toInt < 24000 from (om_c4dc9a3ac6 zws pw1 a9))) tw_8 tw_9 (by decide +kernel) rfl rfl ⟨show 0 + 1 ≤ 40 * n + 32 from om_2bb39494e2, show 8 + (2 + 11) + 0 ≤ 28 * (40 * n + 32) from om_208ebadd6b⟩ (List.range (mW ad N cI cZ cJ (wA (wA u2 0 47 ((u2.1 0 47) + (1 : Int32))) 0 48 ((u2.1 0 48) + (1 : Int32)))).length) (rg_map _) (mW_nd _ _ _ _ _ _) rfl rfl rfl rfl hl.1 rfl (Nat.le_of_ble_eq_true rfl) dX13_choice_30 ⟨Nat.le_of_ble_eq_true rfl, Nat.le_of_ble_eq_true rfl⟩) hP hD hS hA (fun r19 u18 H locs hw17 hP hD hS => ?_)
    obtain ⟨rfl, rfl⟩ := hw17
    have z20 : ((u2.1 0 12) + (1 : Int32)).toInt = ((u2.1 0 12).toInt) + (1 : Int) := add_z rfl (show (1 : Int32).toInt = (1 : Int) by decide) (om_1105522bbc zws pw1) (om_71ea040dc4 zws pw1 a9)
    have hP : va_P (dC, dI) vwCl (mW ad N cI cZ cJ (wA (wA (wA (wA u2 0 47 ((u2.1 0 47) + (1 : Int32))) 0 48 ((u2.1 0 48) + (1 : Int32))) 11 ((u2.1 0 12).toNatClampNeg) r16) 0 12 ((u2.1 0 12) + (1 : Int32)))) H := hP
    have hD : va_D A (mW ad N cI cZ cJ (wA (wA (wA (wA u2 0 47 ((u2.1 0 47) + (1 : Int32))) 0 48 ((u2.1 0 48) + (1 : Int32))) 11 ((u2.1 0 12).toNatClampNeg) r16) 0 12 ((u2.1 0 12) + (1 : Int32)))) := hD
    refine tp_i (y := (u2.1 0 12)) (rfl) ?_
    refine W.widen (k := 0) (n := 0) (Nat.le_refl _) (Nat.le_refl _) ?_
    refine lv_pop hx hb dX13_choice_33 rfl ?_
    refine lv_aload_n hx hb dX13_choice_34 rfl (lv_at hl 0 rfl) ?_
    refine lv_iconst (v := -1) hx hb dX13_choice_35 (by decide) ?_
    refine cu_i (rn_V (n := 1) (As := [.int (-1)]) (rest := []) hx hb hml hown ht hKK hFx hP hD hS hA (c_m_wait l dC dI cI cB cZ cJ cR tb H.size ad N (wA (wA (wA (wA u2 0 47 ((u2.1 0 47) + (1 : Int32))) 0 48 ((u2.1 0 48) + (1 : Int32))) 11 ((u2.1 0 12).toNatClampNeg) r16) 0 12 ((u2.1 0 12) + (1 : Int32))) (-1 : Int32) (show 0 ≤ ((u2.1 0 12) + (1 : Int32)).toInt ∧ ((u2.1 0 12) + (1 : Int32)).toInt < 24000 from (om_82df244092 zws pw1 a9 z20))) tw_122 tw_123 (by decide +kernel) rfl rfl ⟨show 1 + 1 ≤ 40 * n + 32 from om_5ce856c17b, show 8 + (2 + 11) + 21 ≤ 28 * (40 * n + 32) from om_29d6c17595⟩ (List.range (mW ad N cI cZ cJ (wA (wA (wA (wA u2 0 47 ((u2.1 0 47) + (1 : Int32))) 0 48 ((u2.1 0 48) + (1 : Int32))) 11 ((u2.1 0 12).toNatClampNeg) r16) 0 12 ((u2.1 0 12) + (1 : Int32)))).length) (rg_map _) (mW_nd _ _ _ _ _ _) rfl rfl rfl rfl hl.1 rfl (Nat.le_of_ble_eq_true rfl) dX13_choice_36 ⟨Nat.le_of_ble_eq_true rfl, Nat.le_of_ble_eq_true rfl⟩) hP hD hS hA (fun r23 u22 H locs hw21 hP hD hS => ?_)
    obtain ⟨rfl, rfl⟩ := hw21
    have z24 : (((u2.1 0 12) + (1 : Int32)) + (1 : Int32)).toInt = (((u2.1 0 12).toInt) + (1 : Int)) + (1 : Int) := add_z z20 (show (1 : Int32).toInt = (1 : Int) by decide) (om_6ab58f1ed3 zws pw1) (om_3bf1c3a5a4 zws pw1 a9)
    have hP : va_P (dC, dI) vwCl (mW ad N cI cZ cJ (wA (wA (wA (wA (wA (wA u2 0 47 ((u2.1 0 47) + (1 : Int32))) 0 48 ((u2.1 0 48) + (1 : Int32))) 11 ((u2.1 0 12).toNatClampNeg) r16) 0 12 ((u2.1 0 12) + (1 : Int32))) 11 (((u2.1 0 12) + (1 : Int32)).toNatClampNeg) (-1 : Int32)) 0 12 (((u2.1 0 12) + (1 : Int32)) + (1 : Int32)))) H := hP
    have hD : va_D A (mW ad N cI cZ cJ (wA (wA (wA (wA (wA (wA u2 0 47 ((u2.1 0 47) + (1 : Int32))) 0 48 ((u2.1 0 48) + (1 : Int32))) 11 ((u2.1 0 12).toNatClampNeg) r16) 0 12 ((u2.1 0 12) + (1 : Int32))) 11 (((u2.1 0 12) + (1 : Int32)).toNatClampNeg) (-1 : Int32)) 0 12 (((u2.1 0 12) + (1 : Int32)) + (1 : Int32)))) := hD
    refine tp_i (y := ((u2.1 0 12) + (1 : Int32))) (rfl) ?_
    refine W.widen (k := 0) (n := 0) (Nat.le_refl _) (Nat.le_refl _) ?_
    refine lv_istore_n (lv' := [(2, .int ((u2.1 0 12) + (1 : Int32))), (0, .ref (ad 0)), (1, .int pa)]) hx hb dX13_choice_39 rfl hl (by decide) rfl (fun ls hl => ?_)
    refine lv_aload_n hx hb dX13_choice_40 rfl (lv_at hl 1 rfl) ?_
    refine lv_bipush (v := 10) hx hb dX13_choice_41 (by decide) ?_
    refine lv_iconst (v := 0) hx hb dX13_choice_43 (by decide) ?_
    refine cu_i (rn_V (n := 2) (As := [.int 10, .int 0]) (rest := []) hx hb hml hown ht hKK hFx hP hD hS hA (c_m_say l dC dI cI cB cZ cJ cR tb H.size ad N (wA (wA (wA (wA (wA (wA u2 0 47 ((u2.1 0 47) + (1 : Int32))) 0 48 ((u2.1 0 48) + (1 : Int32))) 11 ((u2.1 0 12).toNatClampNeg) r16) 0 12 ((u2.1 0 12) + (1 : Int32))) 11 (((u2.1 0 12) + (1 : Int32)).toNatClampNeg) (-1 : Int32)) 0 12 (((u2.1 0 12) + (1 : Int32)) + (1 : Int32))) (10 : Int32) (0 : Int32) (show 0 ≤ (u2.1 0 15).toInt ∧ (u2.1 0 15).toInt < 16000 from (om_d7a84c6be3 zos po1 a9))) tw_59 tw_60 (by decide +kernel) rfl rfl ⟨show 0 + 1 ≤ 40 * n + 32 from om_2bb39494e2, show 8 + (3 + 11) + 0 ≤ 28 * (40 * n + 32) from om_c9af1bf868⟩ (List.range (mW ad N cI cZ cJ (wA (wA (wA (wA (wA (wA u2 0 47 ((u2.1 0 47) + (1 : Int32))) 0 48 ((u2.1 0 48) + (1 : Int32))) 11 ((u2.1 0 12).toNatClampNeg) r16) 0 12 ((u2.1 0 12) + (1 : Int32))) 11 (((u2.1 0 12) + (1 : Int32)).toNatClampNeg) (-1 : Int32)) 0 12 (((u2.1 0 12) + (1 : Int32)) + (1 : Int32)))).length) (rg_map _) (mW_nd _ _ _ _ _ _) rfl rfl rfl rfl hl.1 rfl (Nat.le_of_ble_eq_true rfl) dX13_choice_44 ⟨Nat.le_of_ble_eq_true rfl, Nat.le_of_ble_eq_true rfl⟩) hP hD hS hA (fun r27 u26 H locs hw25 hP hD hS => ?_)
    obtain ⟨rfl, rfl⟩ := hw25
    have z28 : ((u2.1 0 15) + (1 : Int32)).toInt = ((u2.1 0 15).toInt) + (1 : Int) := add_z rfl (show (1 : Int32).toInt = (1 : Int) by decide) (om_6d3a24e83f zos po1) (om_424ab40917 zos po1 a9)
    have hP : va_P (dC, dI) vwCl (mW ad N cI cZ cJ (wA (wA (wA (wA (wA (wA (wA (wA (wA u2 0 47 ((u2.1 0 47) + (1 : Int32))) 0 48 ((u2.1 0 48) + (1 : Int32))) 11 ((u2.1 0 12).toNatClampNeg) r16) 0 12 ((u2.1 0 12) + (1 : Int32))) 11 (((u2.1 0 12) + (1 : Int32)).toNatClampNeg) (-1 : Int32)) 0 12 (((u2.1 0 12) + (1 : Int32)) + (1 : Int32))) 13 ((u2.1 0 15).toNatClampNeg) (10 : Int32)) 14 ((u2.1 0 15).toNatClampNeg) (0 : Int32)) 0 15 ((u2.1 0 15) + (1 : Int32)))) H := hP
    have hD : va_D A (mW ad N cI cZ cJ (wA (wA (wA (wA (wA (wA (wA (wA (wA u2 0 47 ((u2.1 0 47) + (1 : Int32))) 0 48 ((u2.1 0 48) + (1 : Int32))) 11 ((u2.1 0 12).toNatClampNeg) r16) 0 12 ((u2.1 0 12) + (1 : Int32))) 11 (((u2.1 0 12) + (1 : Int32)).toNatClampNeg) (-1 : Int32)) 0 12 (((u2.1 0 12) + (1 : Int32)) + (1 : Int32))) 13 ((u2.1 0 15).toNatClampNeg) (10 : Int32)) 14 ((u2.1 0 15).toNatClampNeg) (0 : Int32)) 0 15 ((u2.1 0 15) + (1 : Int32)))) := hD
    refine tp_i (y := (u2.1 0 15)) (rfl) ?_
    refine W.widen (k := 0) (n := 0) (Nat.le_refl _) (Nat.le_refl _) ?_
    obtain ⟨u29, hu30⟩ : ∃ z, z = (wA (wA (wA (wA (wA (wA (wA (wA (wA u2 0 47 ((u2.1 0 47) + (1 : Int32))) 0 48 ((u2.1 0 48) + (1 : Int32))) 11 ((u2.1 0 12).toNatClampNeg) r16) 0 12 ((u2.1 0 12) + (1 : Int32))) 11 (((u2.1 0 12) + (1 : Int32)).toNatClampNeg) (-1 : Int32)) 0 12 (((u2.1 0 12) + (1 : Int32)) + (1 : Int32))) 13 ((u2.1 0 15).toNatClampNeg) (10 : Int32)) 14 ((u2.1 0 15).toNatClampNeg) (0 : Int32)) 0 15 ((u2.1 0 15) + (1 : Int32))) := ⟨_, rfl⟩
    have fr30 : FG [12, 15, 47, 48] [0, 11, 13, 14] u2 u29 := by rw [hu30]; exact (FG.f (FG.a (FG.a (FG.f (FG.a (FG.f (FG.a (FG.f (FG.f (FG.rf _) ((u2.1 0 47) + (1 : Int32)) (by decide)) ((u2.1 0 48) + (1 : Int32)) (by decide)) ((u2.1 0 12).toNatClampNeg) r16 (by decide) (by decide)) ((u2.1 0 12) + (1 : Int32)) (by decide)) (((u2.1 0 12) + (1 : Int32)).toNatClampNeg) (-1 : Int32) (by decide) (by decide)) (((u2.1 0 12) + (1 : Int32)) + (1 : Int32)) (by decide)) ((u2.1 0 15).toNatClampNeg) (10 : Int32) (by decide) (by decide)) ((u2.1 0 15).toNatClampNeg) (0 : Int32) (by decide) (by decide)) ((u2.1 0 15) + (1 : Int32)) (by decide))
    have kc30 : ∀ j : Nat, (j : Int) < (v.1 0 12).toInt → (u29.1 11) j = (v.1 11) j := by rw [hu30]; exact (fun (j9 : Nat) hj9 => (Eq.trans (pk_un3 (a := ((u2.1 0 12) + (1 : Int32)).toInt) rfl (om_d6189fe104 zws pw1 z20) (om_54b5b4d853 pw1 z20 hj9)) (Eq.trans (pk_un3 (a := (u2.1 0 12).toInt) rfl (om_d92ff23961 zws pw1) (om_e81726c0b3 pw1 hj9)) (kc1 j9 (om_4fe904e9bf hj9)))))
    have ko30 : ∀ j : Nat, (j : Int) < (v.1 0 15).toInt → (u29.1 13) j = (v.1 13) j := by rw [hu30]; exact (fun (j9 : Nat) hj9 => (Eq.trans (pk_un3 (a := (u2.1 0 15).toInt) rfl (om_64fdcab68b zos po1) (om_24f6a8216f po1 hj9)) (ko1 j9 (om_4fe904e9bf hj9))))
    have kg30 : ∀ j : Nat, (j : Int) < (v.1 0 15).toInt → (u29.1 14) j = (v.1 14) j := by rw [hu30]; exact (fun (j9 : Nat) hj9 => (Eq.trans (pk_un3 (a := (u2.1 0 15).toInt) rfl (om_64fdcab68b zos po1) (om_24f6a8216f po1 hj9)) (kg1 j9 (om_4fe904e9bf hj9))))
    rw [← hu30] at hP hD
    refine lv_istore_n (lv' := [(3, .int (u2.1 0 15)), (2, .int ((u2.1 0 12) + (1 : Int32))), (0, .ref (ad 0)), (1, .int pa)]) hx hb dX13_choice_47 rfl hl (by decide) rfl (fun ls hl => ?_)
    refine lv_aload_n hx hb dX13_choice_48 rfl (lv_at hl 2 rfl) ?_
    obtain ⟨n31, hn32⟩ : ∃ m, n = m + 1 := ex_z (om_603e620d20 zn pp1 b9)
    have q33 : (u29.1 0 48).toInt = (((u2.1 0 48).toInt) + (1 : Int)) := by rw [hu30]; exact (show ((u2.1 0 48) + (1 : Int32)).toInt = (((u2.1 0 48).toInt) + (1 : Int)) from z13)
    have q34 : (u29.1 0 47).toInt = (((u2.1 0 47).toInt) + (1 : Int)) := by rw [hu30]; exact (show ((u2.1 0 47) + (1 : Int32)).toInt = (((u2.1 0 47).toInt) + (1 : Int)) from z12)
    have q35 : (u2.1 0 30).toInt = (v.1 0 30).toInt := congrArg Int32.toInt ((fr1.2.1 30 (by decide)).trans (show v.1 0 30 = (v.1 0 30) by rfl))
    have q36 : (u29.1 0 30).toInt = (u2.1 0 30).toInt := congrArg Int32.toInt (fr30.2.1 30 (by decide))
    have q37 : (u29.1 0 33).toInt = (u2.1 0 33).toInt := congrArg Int32.toInt (fr30.2.1 33 (by decide))
    have q38 : (u29.1 0 32).toInt = (u2.1 0 32).toInt := congrArg Int32.toInt (fr30.2.1 32 (by decide))
    have q39 : (u29.1 0 12).toInt = ((((u2.1 0 12).toInt) + (1 : Int)) + (1 : Int)) := by rw [hu30]; exact (show (((u2.1 0 12) + (1 : Int32)) + (1 : Int32)).toInt = ((((u2.1 0 12).toInt) + (1 : Int)) + (1 : Int)) from z24)
    have q40 : (u29.1 0 15).toInt = (((u2.1 0 15).toInt) + (1 : Int)) := by rw [hu30]; exact (show ((u2.1 0 15) + (1 : Int32)).toInt = (((u2.1 0 15).toInt) + (1 : Int)) from z28)
    have q41 : (u29.1 0 43).toInt = (u2.1 0 43).toInt := congrArg Int32.toInt (fr30.2.1 43 (by decide))
    have q42 : (u29.1 0 39).toInt = (u2.1 0 39).toInt := congrArg Int32.toInt (fr30.2.1 39 (by decide))
    have q43 : (u2.1 0 27).toInt = (v.1 0 27).toInt := congrArg Int32.toInt ((fr1.2.1 27 (by decide)).trans (show v.1 0 27 = (v.1 0 27) by rfl))
    have q44 : (u29.1 0 27).toInt = (u2.1 0 27).toInt := congrArg Int32.toInt (fr30.2.1 27 (by decide))
    refine cux_v (rx_V (n := 0) (As := []) (rest := []) hx hb hml hown ht hKK hFx hP hD hS hA (ihE n31 hn32 dC dI cI cB cZ cJ cR tb H.size ad N u29  (show 40 ≤ (u29.1 0 48).toInt + (n31 : Int) from (om_f521bbe340 zn pp1 q33 hn32)) (show 0 ≤ (u29.1 0 47).toInt ∧ (u29.1 0 47).toInt ≤ 1500 from (om_dbb4acc0fd zfs pw1 a9 q34)) (show 0 ≤ (u29.1 0 48).toInt ∧ (u29.1 0 48).toInt ≤ 40 from (om_bdb8fa83c4 zop pp1 b9 q33)) (show 0 ≤ (u29.1 0 30).toInt ∧ (u29.1 0 30).toInt ≤ 500 from (om_8a5975ec21 zkn q35 q36)) (show 0 ≤ (u29.1 0 33).toInt ∧ (u29.1 0 33).toInt ≤ 500 from (om_ed1d2e34eb zhi ph1 q37)) (show 0 ≤ (u29.1 0 32).toInt ∧ (u29.1 0 30).toInt + (u29.1 0 32).toInt ≤ (u29.1 0 33).toInt from (om_99c3a18084 zs q35 pp1 ph1 q36 q38 q37)) (show 0 ≤ (u29.1 0 12).toInt ∧ (u29.1 0 12).toInt ≤ 15 * (u29.1 0 47).toInt + 2 from (om_85066833fe zws pw1 q39 q34)) (show 0 ≤ (u29.1 0 15).toInt ∧ (u29.1 0 15).toInt ≤ 10 * (u29.1 0 47).toInt + 0 from (om_406d5bdc40 zos po1 q40 q34)) (show 0 ≤ (u29.1 0 43).toInt ∧ (u29.1 0 43).toInt ≤ 15 * (u29.1 0 47).toInt + 0 from (om_fe7f88ac95 zfs pf1 q41 q34)) (show 0 ≤ (u29.1 0 39).toInt ∧ (u29.1 0 39).toInt ≤ 1 * (u29.1 0 47).toInt + 0 from (om_8166826c4a zcs pk1 q42 q34)) (show 0 ≤ (u29.1 0 27).toInt ∧ (u29.1 0 27).toInt ≤ 60 from (om_439c5576c5 zgl q43 q44)) (show TI u29 from FG.ti (fl := pfl) (al := pal) (FG.tr (FG.tr (FG.rf _) (FG.up fr1 (by decide) (by decide))) (FG.up fr30 (by decide) (by decide))) (by decide) (by decide) hT) (show AR 29 0 1500 u29 from (show AR 29 0 1500 u29 from AR.fr (fl := [12, 15, 47, 48]) (al := [0, 11, 13, 14]) fr30 (by decide) (show AR 29 0 1500 u2 from AR.fr (fl := [12, 15, 32, 33, 39, 43, 44, 45, 47, 48, 49, 50, 51]) (al := [0, 11, 13, 14, 35, 36, 37, 38, 40, 41, 42]) fr1 (by decide) a29))) (show AR 23 0 1500 u29 from (show AR 23 0 1500 u29 from AR.fr (fl := [12, 15, 47, 48]) (al := [0, 11, 13, 14]) fr30 (by decide) (show AR 23 0 1500 u2 from AR.fr (fl := [12, 15, 32, 33, 39, 43, 44, 45, 47, 48, 49, 50, 51]) (al := [0, 11, 13, 14, 35, 36, 37, 38, 40, 41, 42]) fr1 (by decide) a23))) (show AR 35 0 1500 u29 from (show AR 35 0 1500 u29 from AR.fr (fl := [12, 15, 47, 48]) (al := [0, 11, 13, 14]) fr30 (by decide) a351)) (show AR 37 0 23999 u29 from (show AR 37 0 23999 u29 from AR.fr (fl := [12, 15, 47, 48]) (al := [0, 11, 13, 14]) fr30 (by decide) a371)) (show AR 38 0 15999 u29 from (show AR 38 0 15999 u29 from AR.fr (fl := [12, 15, 47, 48]) (al := [0, 11, 13, 14]) fr30 (by decide) a381)) (show AR 40 0 23999 u29 from (show AR 40 0 23999 u29 from AR.fr (fl := [12, 15, 47, 48]) (al := [0, 11, 13, 14]) fr30 (by decide) a401)) (show FX u29 from (show FX u29 from FX.fr (fl := [12, 15, 47, 48]) (al := [0, 11, 13, 14]) fr30 (by decide) (by decide) fx1))) tw_80 tw_81 (by decide +kernel) rfl rfl ⟨show (40 * n31 + 36) + 1 ≤ 40 * n + 32 from (om_3d92ce95b5 hn32), show 8 + (1 + 11) + 28 * (40 * n31 + 36) ≤ 28 * (40 * n + 32) from (om_3adb627b3c hn32)⟩ (List.range (mW ad N cI cZ cJ u29).length) (rg_map _) (mW_nd _ _ _ _ _ _) rfl rfl rfl rfl hl.1 rfl (Nat.le_of_ble_eq_true rfl) dX13_choice_49 ⟨Nat.le_of_ble_eq_true rfl, Nat.le_of_ble_eq_true rfl⟩) hP hD hS hA (fun u9 ce9 q9 H locs hx9 hP hD hS hc9 hv9 hf9 => ?_) (fun u46 H locs hw45 hP hD hS => ?_)
    · exact vx_out (fun x h9 => (hnt x h9).elim) hlocks hc9 hv9 hf9 (fun t9 ht9 hv8 => ⟨u9, (FG.tr (FG.tr (FG.tr (FG.rf _) (FG.up fr1 (by decide) (by decide))) (FG.up fr30 (by decide) (by decide))) hx9), ⟨rfl, by rw [ht9]; exact hP, hD⟩, hS.F ht9⟩) hS.2.2 (Nat.le_refl _) (Nat.le_refl _)
    obtain ⟨fr45, pt45, pb45, pw45, po45, pf45, pk45, pp45, ph45, kc45, ko45, kg45, a3545, a3745, a3845, a4045, fx45⟩ := hw45
    have pt45 : (u29.1 0 47).toInt + 1 ≤ (u46.1 0 47).toInt ∧ (u46.1 0 47).toInt ≤ 1500 := pt45
    have pb45 : (u29.1 0 49).toInt ≠ (u29.1 0 47).toInt := pb45
    have pw45 : (u29.1 0 12).toInt ≤ (u46.1 0 12).toInt ∧ (u46.1 0 12).toInt - 15 * (u46.1 0 47).toInt ≤ (u29.1 0 12).toInt - 15 * (u29.1 0 47).toInt := pw45
    have po45 : (u29.1 0 15).toInt ≤ (u46.1 0 15).toInt ∧ (u46.1 0 15).toInt - 10 * (u46.1 0 47).toInt ≤ (u29.1 0 15).toInt - 10 * (u29.1 0 47).toInt := po45
    have pf45 : (u29.1 0 43).toInt ≤ (u46.1 0 43).toInt ∧ (u46.1 0 43).toInt - 15 * (u46.1 0 47).toInt ≤ (u29.1 0 43).toInt - 15 * (u29.1 0 47).toInt := pf45
    have pk45 : (u29.1 0 39).toInt ≤ (u46.1 0 39).toInt ∧ (u46.1 0 39).toInt - 1 * (u46.1 0 47).toInt ≤ (u29.1 0 39).toInt - 1 * (u29.1 0 47).toInt := pk45
    have pp45 : (u46.1 0 32).toInt = (u29.1 0 32).toInt ∧ (u46.1 0 48).toInt = (u29.1 0 48).toInt := pp45
    have ph45 : (u29.1 0 33).toInt ≤ (u46.1 0 33).toInt ∧ (u46.1 0 33).toInt ≤ 500 := ph45
    have kc45 : ∀ j : Nat, (j : Int) < (u29.1 0 12).toInt → (u46.1 11) j = (u29.1 11) j := kc45
    have ko45 : ∀ j : Nat, (j : Int) < (u29.1 0 15).toInt → (u46.1 13) j = (u29.1 13) j := ko45
    have kg45 : ∀ j : Nat, (j : Int) < (u29.1 0 15).toInt → (u46.1 14) j = (u29.1 14) j := kg45
    have a3545 : AR 35 0 1500 u46 := a3545
    have a3745 : AR 37 0 23999 u46 := a3745
    have a3845 : AR 38 0 15999 u46 := a3845
    have a4045 : AR 40 0 23999 u46 := a4045
    have fx45 : FX u46 := fx45
    refine W.widen (k := 0) (n := 0) (Nat.le_refl _) (Nat.le_refl _) ?_
    refine lv_aload_n hx hb dX13_choice_52 rfl (lv_at hl 2 rfl) ?_
    refine lv_bipush (v := 58) hx hb dX13_choice_53 (by decide) ?_
    refine cux_v (rx_V (n := 1) (As := [.int 58]) (rest := []) hx hb hml hown ht hKK hFx hP hD hS hA (c_m_need l dC dI cI cB cZ cJ cR tb H.size ad N u46 (58 : Int32) (show 0 ≤ (u46.1 0 47).toInt ∧ (u46.1 0 47).toInt ≤ 1500 from (om_c6c5b1893f zfs pw1 q34 pt45 pw45))) tw_40 tw_41 (by decide +kernel) rfl rfl ⟨show 2 + 1 ≤ 40 * n + 32 from om_ac1e853792, show 8 + (2 + 11) + 43 ≤ 28 * (40 * n + 32) from om_faf744916c⟩ (List.range (mW ad N cI cZ cJ u46).length) (rg_map _) (mW_nd _ _ _ _ _ _) rfl rfl rfl rfl hl.1 rfl (Nat.le_of_ble_eq_true rfl) dX13_choice_55 ⟨Nat.le_of_ble_eq_true rfl, Nat.le_of_ble_eq_true rfl⟩) hP hD hS hA (fun u9 ce9 q9 H locs hx9 hP hD hS hc9 hv9 hf9 => ?_) (fun u49 H locs hw48 hP hD hS => ?_)
    · exact vx_out (fun x h9 => (hnt x h9).elim) hlocks hc9 hv9 hf9 (fun t9 ht9 hv8 => ⟨u9, (FG.tr (FG.tr (FG.tr (FG.tr (FG.rf _) (FG.up fr1 (by decide) (by decide))) (FG.up fr30 (by decide) (by decide))) (FG.up fr45 (by decide) (by decide))) hx9), ⟨rfl, by rw [ht9]; exact hP, hD⟩, hS.F ht9⟩) hS.2.2 (Nat.le_refl _) (Nat.le_refl _)
    obtain ⟨rfl, a48, c48⟩ := hw48
    have z51 : ((u46.1 0 47) + (1 : Int32)).toInt = ((u46.1 0 47).toInt) + (1 : Int) := add_z rfl (show (1 : Int32).toInt = (1 : Int) by decide) (om_766574127b zws pw1 q34 pw45) (om_3c2140d515 pt45)
    have hP : va_P (dC, dI) vwCl (mW ad N cI cZ cJ (wA u46 0 47 ((u46.1 0 47) + (1 : Int32)))) H := hP
    have hD : va_D A (mW ad N cI cZ cJ (wA u46 0 47 ((u46.1 0 47) + (1 : Int32)))) := hD
    have a48 : (u46.1 0 47).toInt < 1500 := a48
    have c48 : (u46.1 0 49).toInt ≠ (u46.1 0 47).toInt := c48
    refine W.widen (k := 0) (n := 0) (Nat.le_refl _) (Nat.le_refl _) ?_
    refine lv_aload_n hx hb dX13_choice_58 rfl (lv_at hl 2 rfl) ?_
    refine lv_iconst (v := -1) hx hb dX13_choice_59 (by decide) ?_
    refine cu_i (rn_V (n := 1) (As := [.int (-1)]) (rest := []) hx hb hml hown ht hKK hFx hP hD hS hA (c_m_wait l dC dI cI cB cZ cJ cR tb H.size ad N (wA u46 0 47 ((u46.1 0 47) + (1 : Int32))) (-1 : Int32) (show 0 ≤ (u46.1 0 12).toInt ∧ (u46.1 0 12).toInt < 24000 from (om_411d8a6130 zws pw1 q39 q34 pw45 a48))) tw_122 tw_123 (by decide +kernel) rfl rfl ⟨show 1 + 1 ≤ 40 * n + 32 from om_5ce856c17b, show 8 + (2 + 11) + 21 ≤ 28 * (40 * n + 32) from om_29d6c17595⟩ (List.range (mW ad N cI cZ cJ (wA u46 0 47 ((u46.1 0 47) + (1 : Int32)))).length) (rg_map _) (mW_nd _ _ _ _ _ _) rfl rfl rfl rfl hl.1 rfl (Nat.le_of_ble_eq_true rfl) dX13_choice_60 ⟨Nat.le_of_ble_eq_true rfl, Nat.le_of_ble_eq_true rfl⟩) hP hD hS hA (fun r54 u53 H locs hw52 hP hD hS => ?_)
    obtain ⟨rfl, rfl⟩ := hw52
    have z55 : ((u46.1 0 12) + (1 : Int32)).toInt = ((u46.1 0 12).toInt) + (1 : Int) := add_z rfl (show (1 : Int32).toInt = (1 : Int) by decide) (om_36c8457dfb zws pw1 q39 pw45) (om_e102b8e607 zws pw1 q39 q34 pw45 a48)
    have hP : va_P (dC, dI) vwCl (mW ad N cI cZ cJ (wA (wA (wA u46 0 47 ((u46.1 0 47) + (1 : Int32))) 11 ((u46.1 0 12).toNatClampNeg) (-1 : Int32)) 0 12 ((u46.1 0 12) + (1 : Int32)))) H := hP
    have hD : va_D A (mW ad N cI cZ cJ (wA (wA (wA u46 0 47 ((u46.1 0 47) + (1 : Int32))) 11 ((u46.1 0 12).toNatClampNeg) (-1 : Int32)) 0 12 ((u46.1 0 12) + (1 : Int32)))) := hD
    refine tp_i (y := (u46.1 0 12)) (rfl) ?_
    refine W.widen (k := 0) (n := 0) (Nat.le_refl _) (Nat.le_refl _) ?_
    refine lv_istore (lv' := [(4, .int (u46.1 0 12)), (3, .int (u2.1 0 15)), (2, .int ((u2.1 0 12) + (1 : Int32))), (0, .ref (ad 0)), (1, .int pa)]) hx hb dX13_choice_63 hl (by decide) rfl (fun ls hl => ?_)
    refine lv_aload_n hx hb dX13_choice_65 rfl (lv_at hl 3 rfl) ?_
    refine lv_bipush (v := 12) hx hb dX13_choice_66 (by decide) ?_
    refine lv_iconst (v := 0) hx hb dX13_choice_68 (by decide) ?_
    refine cu_i (rn_V (n := 2) (As := [.int 12, .int 0]) (rest := []) hx hb hml hown ht hKK hFx hP hD hS hA (c_m_say l dC dI cI cB cZ cJ cR tb H.size ad N (wA (wA (wA u46 0 47 ((u46.1 0 47) + (1 : Int32))) 11 ((u46.1 0 12).toNatClampNeg) (-1 : Int32)) 0 12 ((u46.1 0 12) + (1 : Int32))) (12 : Int32) (0 : Int32) (show 0 ≤ (u46.1 0 15).toInt ∧ (u46.1 0 15).toInt < 16000 from (om_a37518a405 zos po1 q40 q34 po45 a48))) tw_59 tw_60 (by decide +kernel) rfl rfl ⟨show 0 + 1 ≤ 40 * n + 32 from om_2bb39494e2, show 8 + (3 + 11) + 0 ≤ 28 * (40 * n + 32) from om_c9af1bf868⟩ (List.range (mW ad N cI cZ cJ (wA (wA (wA u46 0 47 ((u46.1 0 47) + (1 : Int32))) 11 ((u46.1 0 12).toNatClampNeg) (-1 : Int32)) 0 12 ((u46.1 0 12) + (1 : Int32)))).length) (rg_map _) (mW_nd _ _ _ _ _ _) rfl rfl rfl rfl hl.1 rfl (Nat.le_of_ble_eq_true rfl) dX13_choice_69 ⟨Nat.le_of_ble_eq_true rfl, Nat.le_of_ble_eq_true rfl⟩) hP hD hS hA (fun r58 u57 H locs hw56 hP hD hS => ?_)
    obtain ⟨rfl, rfl⟩ := hw56
    have z59 : ((u46.1 0 15) + (1 : Int32)).toInt = ((u46.1 0 15).toInt) + (1 : Int) := add_z rfl (show (1 : Int32).toInt = (1 : Int) by decide) (om_2e1b4a010f zos po1 q40 po45) (om_de602dc411 zos po1 q40 q34 po45 a48)
    have hP : va_P (dC, dI) vwCl (mW ad N cI cZ cJ (wA (wA (wA (wA (wA (wA u46 0 47 ((u46.1 0 47) + (1 : Int32))) 11 ((u46.1 0 12).toNatClampNeg) (-1 : Int32)) 0 12 ((u46.1 0 12) + (1 : Int32))) 13 ((u46.1 0 15).toNatClampNeg) (12 : Int32)) 14 ((u46.1 0 15).toNatClampNeg) (0 : Int32)) 0 15 ((u46.1 0 15) + (1 : Int32)))) H := hP
    have hD : va_D A (mW ad N cI cZ cJ (wA (wA (wA (wA (wA (wA u46 0 47 ((u46.1 0 47) + (1 : Int32))) 11 ((u46.1 0 12).toNatClampNeg) (-1 : Int32)) 0 12 ((u46.1 0 12) + (1 : Int32))) 13 ((u46.1 0 15).toNatClampNeg) (12 : Int32)) 14 ((u46.1 0 15).toNatClampNeg) (0 : Int32)) 0 15 ((u46.1 0 15) + (1 : Int32)))) := hD
    refine tp_i (y := (u46.1 0 15)) (rfl) ?_
    refine W.widen (k := 0) (n := 0) (Nat.le_refl _) (Nat.le_refl _) ?_
    refine lv_istore (lv' := [(5, .int (u46.1 0 15)), (4, .int (u46.1 0 12)), (3, .int (u2.1 0 15)), (2, .int ((u2.1 0 12) + (1 : Int32))), (0, .ref (ad 0)), (1, .int pa)]) hx hb dX13_choice_72 hl (by decide) rfl (fun ls hl => ?_)
    refine lv_aload_n hx hb dX13_choice_74 rfl (lv_at hl 4 rfl) ?_
    refine lv_iload_n hx hb dX13_choice_75 rfl (lv_at hl 3 rfl) ?_
    refine lv_iconst (v := 0) hx hb dX13_choice_76 (by decide) ?_
    refine lv_aload_n hx hb dX13_choice_77 rfl (lv_at hl 4 rfl) ?_
    refine va_get (D := (dC, dI)) (ci := 16) (fs := mF ad (wA (wA (wA (wA (wA (wA u46 0 47 ((u46.1 0 47) + (1 : Int32))) 11 ((u46.1 0 12).toNatClampNeg) (-1 : Int32)) 0 12 ((u46.1 0 12) + (1 : Int32))) 13 ((u46.1 0 15).toNatClampNeg) (12 : Int32)) 14 ((u46.1 0 15).toNatClampNeg) (0 : Int32)) 0 15 ((u46.1 0 15) + (1 : Int32)))) (v := .int ((u46.1 0 12) + (1 : Int32))) (C := RX13) (T := TX13) (N := 124) hx hb ht itX13 hown hK hP 0 rfl rfl 12 (by decide) (ht _ tw_7) (fun _ h9 => h9) rfl dX13_choice_78 ?_
    refine cu_v (rn_V (n := 3) (As := [.int ((u2.1 0 12) + (1 : Int32)), .int 0, .int ((u46.1 0 12) + (1 : Int32))]) (rest := []) hx hb hml hown ht hKK hFx hP hD hS hA (c_m_jump l dC dI cI cB cZ cJ cR tb H.size ad N (wA (wA (wA (wA (wA (wA u46 0 47 ((u46.1 0 47) + (1 : Int32))) 11 ((u46.1 0 12).toNatClampNeg) (-1 : Int32)) 0 12 ((u46.1 0 12) + (1 : Int32))) 13 ((u46.1 0 15).toNatClampNeg) (12 : Int32)) 14 ((u46.1 0 15).toNatClampNeg) (0 : Int32)) 0 15 ((u46.1 0 15) + (1 : Int32))) ((u2.1 0 12) + (1 : Int32)) (0 : Int32) ((u46.1 0 12) + (1 : Int32)) (show 0 ≤ ((u2.1 0 12) + (1 : Int32)).toInt ∧ ((u2.1 0 12) + (1 : Int32)).toInt < 24000 from (om_82df244092 zws pw1 a9 z20))) tw_126 tw_127 (by decide +kernel) rfl rfl ⟨show 1 + 1 ≤ 40 * n + 32 from om_5ce856c17b, show 8 + (4 + 11) + 21 ≤ 28 * (40 * n + 32) from om_5c81210f4c⟩ (List.range (mW ad N cI cZ cJ (wA (wA (wA (wA (wA (wA u46 0 47 ((u46.1 0 47) + (1 : Int32))) 11 ((u46.1 0 12).toNatClampNeg) (-1 : Int32)) 0 12 ((u46.1 0 12) + (1 : Int32))) 13 ((u46.1 0 15).toNatClampNeg) (12 : Int32)) 14 ((u46.1 0 15).toNatClampNeg) (0 : Int32)) 0 15 ((u46.1 0 15) + (1 : Int32)))).length) (rg_map _) (mW_nd _ _ _ _ _ _) rfl rfl rfl rfl hl.1 rfl (Nat.le_of_ble_eq_true rfl) dX13_choice_81 ⟨Nat.le_of_ble_eq_true rfl, Nat.le_of_ble_eq_true rfl⟩) hP hD hS hA (fun u61 H locs hw60 hP hD hS => ?_)
    obtain ⟨x63, rfl⟩ := hw60
    have hP : va_P (dC, dI) vwCl (mW ad N cI cZ cJ (wA (wA (wA (wA (wA (wA (wA u46 0 47 ((u46.1 0 47) + (1 : Int32))) 11 ((u46.1 0 12).toNatClampNeg) (-1 : Int32)) 0 12 ((u46.1 0 12) + (1 : Int32))) 13 ((u46.1 0 15).toNatClampNeg) (12 : Int32)) 14 ((u46.1 0 15).toNatClampNeg) (0 : Int32)) 0 15 ((u46.1 0 15) + (1 : Int32))) 11 (((u2.1 0 12) + (1 : Int32)).toNatClampNeg) x63)) H := hP
    have hD : va_D A (mW ad N cI cZ cJ (wA (wA (wA (wA (wA (wA (wA u46 0 47 ((u46.1 0 47) + (1 : Int32))) 11 ((u46.1 0 12).toNatClampNeg) (-1 : Int32)) 0 12 ((u46.1 0 12) + (1 : Int32))) 13 ((u46.1 0 15).toNatClampNeg) (12 : Int32)) 14 ((u46.1 0 15).toNatClampNeg) (0 : Int32)) 0 15 ((u46.1 0 15) + (1 : Int32))) 11 (((u2.1 0 12) + (1 : Int32)).toNatClampNeg) x63)) := hD
    refine W.widen (k := 0) (n := 0) (Nat.le_refl _) (Nat.le_refl _) ?_
    obtain ⟨u64, hu65⟩ : ∃ z, z = (wA (wA (wA (wA (wA (wA (wA u46 0 47 ((u46.1 0 47) + (1 : Int32))) 11 ((u46.1 0 12).toNatClampNeg) (-1 : Int32)) 0 12 ((u46.1 0 12) + (1 : Int32))) 13 ((u46.1 0 15).toNatClampNeg) (12 : Int32)) 14 ((u46.1 0 15).toNatClampNeg) (0 : Int32)) 0 15 ((u46.1 0 15) + (1 : Int32))) 11 (((u2.1 0 12) + (1 : Int32)).toNatClampNeg) x63) := ⟨_, rfl⟩
    have fr65 : FG [12, 15, 47] [0, 11, 13, 14] u46 u64 := by rw [hu65]; exact (FG.a (FG.f (FG.a (FG.a (FG.f (FG.a (FG.f (FG.rf _) ((u46.1 0 47) + (1 : Int32)) (by decide)) ((u46.1 0 12).toNatClampNeg) (-1 : Int32) (by decide) (by decide)) ((u46.1 0 12) + (1 : Int32)) (by decide)) ((u46.1 0 15).toNatClampNeg) (12 : Int32) (by decide) (by decide)) ((u46.1 0 15).toNatClampNeg) (0 : Int32) (by decide) (by decide)) ((u46.1 0 15) + (1 : Int32)) (by decide)) (((u2.1 0 12) + (1 : Int32)).toNatClampNeg) x63 (by decide) (by decide))
    have kc65 : ∀ j : Nat, (j : Int) < (v.1 0 12).toInt → (u64.1 11) j = (v.1 11) j := by rw [hu65]; exact (fun (j9 : Nat) hj9 => (Eq.trans (pk_un3 (a := ((u2.1 0 12) + (1 : Int32)).toInt) rfl (om_d6189fe104 zws pw1 z20) (om_54b5b4d853 pw1 z20 hj9)) (Eq.trans (pk_un3 (a := (u46.1 0 12).toInt) rfl (om_11b5b95650 zws pw1 q39 pw45) (om_2ba797da8c pw1 q39 pw45 hj9)) (Eq.trans (kc45 j9 (om_ec35cc6c83 pw1 q39 hj9)) (kc30 j9 hj9)))))
    have ko65 : ∀ j : Nat, (j : Int) < (v.1 0 15).toInt → (u64.1 13) j = (v.1 13) j := by rw [hu65]; exact (fun (j9 : Nat) hj9 => (Eq.trans (pk_un3 (a := (u46.1 0 15).toInt) rfl (om_fb2ee2ae02 zos po1 q40 po45) (om_74373070f9 po1 q40 po45 hj9)) (Eq.trans (ko45 j9 (om_43af15ebbb po1 q40 hj9)) (ko30 j9 hj9))))
    have kg65 : ∀ j : Nat, (j : Int) < (v.1 0 15).toInt → (u64.1 14) j = (v.1 14) j := by rw [hu65]; exact (fun (j9 : Nat) hj9 => (Eq.trans (pk_un3 (a := (u46.1 0 15).toInt) rfl (om_fb2ee2ae02 zos po1 q40 po45) (om_74373070f9 po1 q40 po45 hj9)) (Eq.trans (kg45 j9 (om_43af15ebbb po1 q40 hj9)) (kg30 j9 hj9))))
    rw [← hu65] at hP hD
    refine lv_aload_n hx hb dX13_choice_84 rfl (lv_at hl 4 rfl) ?_
    refine va_get (D := (dC, dI)) (ci := 16) (fs := mF ad u64) (v := .ref (ad 14)) (C := RX13) (T := TX13) (N := 124) hx hb ht itX13 hown hK hP 0 rfl rfl 14 (by decide) (ht _ tw_12) (fun _ h9 => h9) rfl dX13_choice_85 ?_
    refine lv_iload_n hx hb dX13_choice_88 rfl (lv_at hl 2 rfl) ?_
    refine lv_aload_n hx hb dX13_choice_89 rfl (lv_at hl 4 rfl) ?_
    refine va_get (D := (dC, dI)) (ci := 16) (fs := mF ad u64) (v := .int (u64.1 0 15)) (C := RX13) (T := TX13) (N := 124) hx hb ht itX13 hown hK hP 0 rfl rfl 15 (by decide) (ht _ tw_11) (fun _ h9 => h9) rfl dX13_choice_90 ?_
    refine va_iast (D := (dC, dI)) (f := (u64.1 14)) hx hb hK hP hD hS 10 0 rfl rfl (in_y (a := (u2.1 0 15).toInt) (b := 16000) rfl (om_64fdcab68b zos po1) (om_470152f5ba zos po1 a9) rfl) dX13_choice_93 (fun H locs hP hD hS => ?_)
    have hP := cP_ (ma_14 ad N cI cZ cJ u64 ((u2.1 0 15).toNatClampNeg) (u64.1 0 15)) hP
    have hD := cD_ (ma_14 ad N cI cZ cJ u64 ((u2.1 0 15).toNatClampNeg) (u64.1 0 15)) hD
    refine lv_aload_n hx hb dX13_choice_94 rfl (lv_at hl 4 rfl) ?_
    refine lv_iconst (v := 0) hx hb dX13_choice_95 (by decide) ?_
    obtain ⟨n66, hn67⟩ : ∃ m, n = m + 1 := ex_z (om_bce5f2fb63 hn32)
    have q68 : (u64.1 0 48).toInt = (u46.1 0 48).toInt := congrArg Int32.toInt (fr65.2.1 48 (by decide))
    have q69 : (u64.1 0 47).toInt = (((u46.1 0 47).toInt) + (1 : Int)) := by rw [hu65]; exact (show ((u46.1 0 47) + (1 : Int32)).toInt = (((u46.1 0 47).toInt) + (1 : Int)) from z51)
    have q70 : (u46.1 0 30).toInt = (u29.1 0 30).toInt := congrArg Int32.toInt ((fr45.2.1 30 (by decide)).trans (show u29.1 0 30 = (u29.1 0 30) by rfl))
    have q71 : (u64.1 0 30).toInt = (u46.1 0 30).toInt := congrArg Int32.toInt (fr65.2.1 30 (by decide))
    have q72 : (u64.1 0 33).toInt = (u46.1 0 33).toInt := congrArg Int32.toInt (fr65.2.1 33 (by decide))
    have q73 : (u64.1 0 32).toInt = (u46.1 0 32).toInt := congrArg Int32.toInt (fr65.2.1 32 (by decide))
    have q74 : (u64.1 0 12).toInt = (((u46.1 0 12).toInt) + (1 : Int)) := by rw [hu65]; exact (show ((u46.1 0 12) + (1 : Int32)).toInt = (((u46.1 0 12).toInt) + (1 : Int)) from z55)
    have q75 : (u64.1 0 15).toInt = (((u46.1 0 15).toInt) + (1 : Int)) := by rw [hu65]; exact (show ((u46.1 0 15) + (1 : Int32)).toInt = (((u46.1 0 15).toInt) + (1 : Int)) from z59)
    have q76 : (u64.1 0 43).toInt = (u46.1 0 43).toInt := congrArg Int32.toInt (fr65.2.1 43 (by decide))
    have q77 : (u64.1 0 39).toInt = (u46.1 0 39).toInt := congrArg Int32.toInt (fr65.2.1 39 (by decide))
    have q78 : (u46.1 0 27).toInt = (u29.1 0 27).toInt := congrArg Int32.toInt ((fr45.2.1 27 (by decide)).trans (show u29.1 0 27 = (u29.1 0 27) by rfl))
    have q79 : (u64.1 0 27).toInt = (u46.1 0 27).toInt := congrArg Int32.toInt (fr65.2.1 27 (by decide))
    refine cux_v (rx_V (n := 1) (As := [.int 0]) (rest := []) hx hb hml hown ht hKK hFx hP hD hS hA (ihC n66 hn67 dC dI cI cB cZ cJ cR tb H.size ad N (wA u64 14 ((u2.1 0 15).toNatClampNeg) (u64.1 0 15)) (0 : Int32) (show 40 ≤ (u64.1 0 48).toInt + (n66 : Int) from (om_56cd31fe58 zn pp1 q33 pp45 q68 hn67)) (show 0 ≤ (u64.1 0 47).toInt ∧ (u64.1 0 47).toInt ≤ 1500 from (om_f1f7d949c2 zfs pw1 q34 pw45 a48 q69)) (show 0 ≤ (u64.1 0 48).toInt ∧ (u64.1 0 48).toInt ≤ 40 from (om_833f3aaaac zop pp1 b9 q33 pp45 q68)) (show 0 ≤ (u64.1 0 30).toInt ∧ (u64.1 0 30).toInt ≤ 500 from (om_31e0c91fb9 zkn q35 q36 q70 q71)) (show 0 ≤ (u64.1 0 33).toInt ∧ (u64.1 0 33).toInt ≤ 500 from (om_c7a2cb3b98 zhi ph1 q37 ph45 q72)) (show 0 ≤ (u64.1 0 32).toInt ∧ (u64.1 0 30).toInt + (u64.1 0 32).toInt ≤ (u64.1 0 33).toInt from (om_3ed5ac99c4 zs q35 pp1 ph1 q36 q38 q37 q70 pp45 ph45 q71 q73 q72)) (show 0 ≤ (u64.1 0 12).toInt ∧ (u64.1 0 12).toInt ≤ 15 * (u64.1 0 47).toInt + 2 from (om_7306ff97ee zws pw1 q39 q34 pw45 q74 q69)) (show 0 ≤ (u64.1 0 15).toInt ∧ (u64.1 0 15).toInt ≤ 10 * (u64.1 0 47).toInt + 0 from (om_77fbe6b781 zos po1 q40 q34 po45 q75 q69)) (show 0 ≤ (u64.1 0 43).toInt ∧ (u64.1 0 43).toInt ≤ 15 * (u64.1 0 47).toInt + 0 from (om_704b89e829 zfs pf1 q41 q34 pf45 q76 q69)) (show 0 ≤ (u64.1 0 39).toInt ∧ (u64.1 0 39).toInt ≤ 1 * (u64.1 0 47).toInt + 0 from (om_fe081b818f zcs pk1 q42 q34 pk45 q77 q69)) (show 0 ≤ (u64.1 0 27).toInt ∧ (u64.1 0 27).toInt ≤ 60 from (om_36df6ebd11 zgl q43 q44 q78 q79)) (show TI (wA u64 14 ((u2.1 0 15).toNatClampNeg) (u64.1 0 15)) from FG.ti (fl := pfl) (al := pal) (FG.a (FG.tr (FG.tr (FG.tr (FG.tr (FG.rf _) (FG.up fr1 (by decide) (by decide))) (FG.up fr30 (by decide) (by decide))) (FG.up fr45 (by decide) (by decide))) (FG.up fr65 (by decide) (by decide))) ((u2.1 0 15).toNatClampNeg) (u64.1 0 15) (by decide) (by decide)) (by decide) (by decide) hT) (show AR 29 0 1500 (wA u64 14 ((u2.1 0 15).toNatClampNeg) (u64.1 0 15)) from (AR.o (show AR 29 0 1500 u64 from AR.fr (fl := [12, 15, 47]) (al := [0, 11, 13, 14]) fr65 (by decide) (show AR 29 0 1500 u46 from AR.fr (fl := [12, 15, 32, 33, 39, 43, 44, 45, 47, 48, 49, 50, 51]) (al := [0, 11, 13, 14, 35, 36, 37, 38, 40, 41, 42]) fr45 (by decide) (show AR 29 0 1500 u29 from AR.fr (fl := [12, 15, 47, 48]) (al := [0, 11, 13, 14]) fr30 (by decide) (show AR 29 0 1500 u2 from AR.fr (fl := [12, 15, 32, 33, 39, 43, 44, 45, 47, 48, 49, 50, 51]) (al := [0, 11, 13, 14, 35, 36, 37, 38, 40, 41, 42]) fr1 (by decide) a29)))) (by decide))) (show AR 23 0 1500 (wA u64 14 ((u2.1 0 15).toNatClampNeg) (u64.1 0 15)) from (AR.o (show AR 23 0 1500 u64 from AR.fr (fl := [12, 15, 47]) (al := [0, 11, 13, 14]) fr65 (by decide) (show AR 23 0 1500 u46 from AR.fr (fl := [12, 15, 32, 33, 39, 43, 44, 45, 47, 48, 49, 50, 51]) (al := [0, 11, 13, 14, 35, 36, 37, 38, 40, 41, 42]) fr45 (by decide) (show AR 23 0 1500 u29 from AR.fr (fl := [12, 15, 47, 48]) (al := [0, 11, 13, 14]) fr30 (by decide) (show AR 23 0 1500 u2 from AR.fr (fl := [12, 15, 32, 33, 39, 43, 44, 45, 47, 48, 49, 50, 51]) (al := [0, 11, 13, 14, 35, 36, 37, 38, 40, 41, 42]) fr1 (by decide) a23)))) (by decide))) (show AR 35 0 1500 (wA u64 14 ((u2.1 0 15).toNatClampNeg) (u64.1 0 15)) from (AR.o (show AR 35 0 1500 u64 from AR.fr (fl := [12, 15, 47]) (al := [0, 11, 13, 14]) fr65 (by decide) a3545) (by decide))) (show AR 37 0 23999 (wA u64 14 ((u2.1 0 15).toNatClampNeg) (u64.1 0 15)) from (AR.o (show AR 37 0 23999 u64 from AR.fr (fl := [12, 15, 47]) (al := [0, 11, 13, 14]) fr65 (by decide) a3745) (by decide))) (show AR 38 0 15999 (wA u64 14 ((u2.1 0 15).toNatClampNeg) (u64.1 0 15)) from (AR.o (show AR 38 0 15999 u64 from AR.fr (fl := [12, 15, 47]) (al := [0, 11, 13, 14]) fr65 (by decide) a3845) (by decide))) (show AR 40 0 23999 (wA u64 14 ((u2.1 0 15).toNatClampNeg) (u64.1 0 15)) from (AR.o (show AR 40 0 23999 u64 from AR.fr (fl := [12, 15, 47]) (al := [0, 11, 13, 14]) fr65 (by decide) a4045) (by decide))) (show FX (wA u64 14 ((u2.1 0 15).toNatClampNeg) (u64.1 0 15)) from (FX.o (show FX u64 from FX.fr (fl := [12, 15, 47]) (al := [0, 11, 13, 14]) fr65 (by decide) (by decide) fx45) (by decide) (by decide)))) tw_132 tw_133 (by decide +kernel) rfl rfl ⟨show (40 * n66 + 32) + 1 ≤ 40 * n + 32 from (om_e8099a1658 hn67), show 8 + (6 + 11) + 28 * (40 * n66 + 32) ≤ 28 * (40 * n + 32) from (om_514c099c57 hn67)⟩ (List.range (mW ad N cI cZ cJ (wA u64 14 ((u2.1 0 15).toNatClampNeg) (u64.1 0 15))).length) (rg_map _) (mW_nd _ _ _ _ _ _) rfl rfl rfl rfl hl.1 rfl (Nat.le_of_ble_eq_true rfl) dX13_choice_96 ⟨Nat.le_of_ble_eq_true rfl, Nat.le_of_ble_eq_true rfl⟩) hP hD hS hA (fun u9 ce9 q9 H locs hx9 hP hD hS hc9 hv9 hf9 => ?_) (fun u81 H locs hw80 hP hD hS => ?_)
    · exact vx_out (fun x h9 => (hnt x h9).elim) hlocks hc9 hv9 hf9 (fun t9 ht9 hv8 => ⟨u9, (FG.tr (FG.a (FG.tr (FG.tr (FG.tr (FG.tr (FG.rf _) (FG.up fr1 (by decide) (by decide))) (FG.up fr30 (by decide) (by decide))) (FG.up fr45 (by decide) (by decide))) (FG.up fr65 (by decide) (by decide))) ((u2.1 0 15).toNatClampNeg) (u64.1 0 15) (by decide) (by decide)) hx9), ⟨rfl, by rw [ht9]; exact hP, hD⟩, hS.F ht9⟩) hS.2.2 (Nat.le_refl _) (Nat.le_refl _)
    obtain ⟨fr80, pt80, pb80, pw80, po80, pf80, pk80, pp80, ph80, kc80, ko80, kg80, a3580, a3780, a3880, a4080, fx80⟩ := hw80
    have pt80 : (u64.1 0 47).toInt + 0 ≤ (u81.1 0 47).toInt ∧ (u81.1 0 47).toInt ≤ 1500 := pt80
    have pb80 : (0 : Int) ≠ 0 ∨ ((u64.1 0 47).toInt + 1 ≤ (u81.1 0 47).toInt ∧ (u64.1 0 49).toInt ≠ (u64.1 0 47).toInt) := pb80
    have pw80 : (u64.1 0 12).toInt ≤ (u81.1 0 12).toInt ∧ (u81.1 0 12).toInt - 15 * (u81.1 0 47).toInt ≤ (u64.1 0 12).toInt - 15 * (u64.1 0 47).toInt := pw80
    have po80 : (u64.1 0 15).toInt ≤ (u81.1 0 15).toInt ∧ (u81.1 0 15).toInt - 10 * (u81.1 0 47).toInt ≤ (u64.1 0 15).toInt - 10 * (u64.1 0 47).toInt := po80
    have pf80 : (u64.1 0 43).toInt ≤ (u81.1 0 43).toInt ∧ (u81.1 0 43).toInt - 15 * (u81.1 0 47).toInt ≤ (u64.1 0 43).toInt - 15 * (u64.1 0 47).toInt := pf80
    have pk80 : (u64.1 0 39).toInt ≤ (u81.1 0 39).toInt ∧ (u81.1 0 39).toInt - 1 * (u81.1 0 47).toInt ≤ (u64.1 0 39).toInt - 1 * (u64.1 0 47).toInt := pk80
    have pp80 : (u81.1 0 32).toInt = (u64.1 0 32).toInt ∧ (u81.1 0 48).toInt = (u64.1 0 48).toInt := pp80
    have ph80 : (u64.1 0 33).toInt ≤ (u81.1 0 33).toInt ∧ (u81.1 0 33).toInt ≤ 500 := ph80
    have kc80 : ∀ j : Nat, (j : Int) < (u64.1 0 12).toInt → (u81.1 11) j = (u64.1 11) j := kc80
    have ko80 : ∀ j : Nat, (j : Int) < (u64.1 0 15).toInt → (u81.1 13) j = (u64.1 13) j := ko80
    have kg80 : ∀ j : Nat, (j : Int) < (u64.1 0 15).toInt → (u81.1 14) j = (upd (u64.1 14) ((u2.1 0 15).toNatClampNeg) (u64.1 0 15)) j := kg80
    have a3580 : AR 35 0 1500 u81 := a3580
    have a3780 : AR 37 0 23999 u81 := a3780
    have a3880 : AR 38 0 15999 u81 := a3880
    have a4080 : AR 40 0 23999 u81 := a4080
    have fx80 : FX u81 := fx80
    refine W.widen (k := 0) (n := 0) (Nat.le_refl _) (Nat.le_refl _) ?_
    refine lv_aload_n hx hb dX13_choice_99 rfl (lv_at hl 4 rfl) ?_
    refine lv_iload hx hb dX13_choice_100 (lv_at hl 1 rfl) ?_
    refine lv_iconst (v := 0) hx hb dX13_choice_102 (by decide) ?_
    refine lv_aload_n hx hb dX13_choice_103 rfl (lv_at hl 4 rfl) ?_
    refine va_get (D := (dC, dI)) (ci := 16) (fs := mF ad u81) (v := .int (u81.1 0 12)) (C := RX13) (T := TX13) (N := 124) hx hb ht itX13 hown hK hP 0 rfl rfl 12 (by decide) (ht _ tw_7) (fun _ h9 => h9) rfl dX13_choice_104 ?_
    refine cu_v (rn_V (n := 3) (As := [.int (u46.1 0 12), .int 0, .int (u81.1 0 12)]) (rest := []) hx hb hml hown ht hKK hFx hP hD hS hA (c_m_jump l dC dI cI cB cZ cJ cR tb H.size ad N u81 (u46.1 0 12) (0 : Int32) (u81.1 0 12) (show 0 ≤ (u46.1 0 12).toInt ∧ (u46.1 0 12).toInt < 24000 from (om_411d8a6130 zws pw1 q39 q34 pw45 a48))) tw_126 tw_127 (by decide +kernel) rfl rfl ⟨show 1 + 1 ≤ 40 * n + 32 from om_5ce856c17b, show 8 + (4 + 11) + 21 ≤ 28 * (40 * n + 32) from om_5c81210f4c⟩ (List.range (mW ad N cI cZ cJ u81).length) (rg_map _) (mW_nd _ _ _ _ _ _) rfl rfl rfl rfl hl.1 rfl (Nat.le_of_ble_eq_true rfl) dX13_choice_107 ⟨Nat.le_of_ble_eq_true rfl, Nat.le_of_ble_eq_true rfl⟩) hP hD hS hA (fun u84 H locs hw83 hP hD hS => ?_)
    obtain ⟨x86, rfl⟩ := hw83
    have hP : va_P (dC, dI) vwCl (mW ad N cI cZ cJ (wA u81 11 ((u46.1 0 12).toNatClampNeg) x86)) H := hP
    have hD : va_D A (mW ad N cI cZ cJ (wA u81 11 ((u46.1 0 12).toNatClampNeg) x86)) := hD
    refine W.widen (k := 0) (n := 0) (Nat.le_refl _) (Nat.le_refl _) ?_
    refine lv_aload_n hx hb dX13_choice_110 rfl (lv_at hl 4 rfl) ?_
    refine va_get (D := (dC, dI)) (ci := 16) (fs := mF ad (wA u81 11 ((u46.1 0 12).toNatClampNeg) x86)) (v := .ref (ad 14)) (C := RX13) (T := TX13) (N := 124) hx hb ht itX13 hown hK hP 0 rfl rfl 14 (by decide) (ht _ tw_12) (fun _ h9 => h9) rfl dX13_choice_111 ?_
    refine lv_iload hx hb dX13_choice_114 (lv_at hl 0 rfl) ?_
    refine lv_aload_n hx hb dX13_choice_116 rfl (lv_at hl 4 rfl) ?_
    refine va_get (D := (dC, dI)) (ci := 16) (fs := mF ad (wA u81 11 ((u46.1 0 12).toNatClampNeg) x86)) (v := .int (u81.1 0 15)) (C := RX13) (T := TX13) (N := 124) hx hb ht itX13 hown hK hP 0 rfl rfl 15 (by decide) (ht _ tw_11) (fun _ h9 => h9) rfl dX13_choice_117 ?_
    refine va_iast (D := (dC, dI)) (f := (u81.1 14)) hx hb hK hP hD hS 10 0 rfl rfl (in_y (a := (u46.1 0 15).toInt) (b := 16000) rfl (om_fb2ee2ae02 zos po1 q40 po45) (om_b9e1b4e46f zos po1 q40 q34 po45 a48) rfl) dX13_choice_120 (fun H locs hP hD hS => ?_)
    have hP := cP_ (ma_14 ad N cI cZ cJ (wA u81 11 ((u46.1 0 12).toNatClampNeg) x86) ((u46.1 0 15).toNatClampNeg) (u81.1 0 15)) hP
    have hD := cD_ (ma_14 ad N cI cZ cJ (wA u81 11 ((u46.1 0 12).toNatClampNeg) x86) ((u46.1 0 15).toNatClampNeg) (u81.1 0 15)) hD
    refine lv_aload_n hx hb dX13_choice_121 rfl (lv_at hl 4 rfl) ?_
    refine lv_dup hx hb dX13_choice_122 rfl ?_
    refine va_get (D := (dC, dI)) (ci := 16) (fs := mF ad (wA (wA u81 11 ((u46.1 0 12).toNatClampNeg) x86) 14 ((u46.1 0 15).toNatClampNeg) (u81.1 0 15))) (v := .int (u81.1 0 48)) (C := RX13) (T := TX13) (N := 124) hx hb ht itX13 hown hK hP 0 rfl rfl 48 (by decide) (ht _ tw_31) (fun _ h9 => h9) rfl dX13_choice_123 ?_
    refine lv_iconst (v := 1) hx hb dX13_choice_126 (by decide) ?_
    refine lv_isub hx hb dX13_choice_127 ?_
    have z87 : ((u81.1 0 48) - (1 : Int32)).toInt = ((u81.1 0 48).toInt) - (1 : Int) := sub_z rfl (show (1 : Int32).toInt = (1 : Int) by decide) (om_8ec5b94df5 zop pp1 q33 pp45 q68 pp80) (om_4dd439132c b9 q33 pp45 q68 pp80)
    refine va_put (D := (dC, dI)) (ci := 16) (fs := mF ad (wA (wA u81 11 ((u46.1 0 12).toNatClampNeg) x86) 14 ((u46.1 0 15).toNatClampNeg) (u81.1 0 15))) (v := .int ((u81.1 0 48) - (1 : Int32))) (ty := .int) (C := RX13) (T := TX13) (N := 124) hx hb ht itX13 tyX13 tyX13_ok nmX13 hown hK hP hD hS 0 rfl rfl 48 (by decide) (ht _ tw_31) (fun _ h9 => h9) rfl (by decide +kernel) rfl rfl (Nat.le_of_ble_eq_true rfl) dX13_choice_128 (fun H locs hP hD hS => ?_)
    have hP := cP_ (mw_48 ad N cI cZ cJ (wA (wA u81 11 ((u46.1 0 12).toNatClampNeg) x86) 14 ((u46.1 0 15).toNatClampNeg) (u81.1 0 15)) ((u81.1 0 48) - (1 : Int32))) hP
    have hD := cD_ (mw_48 ad N cI cZ cJ (wA (wA u81 11 ((u46.1 0 12).toNatClampNeg) x86) 14 ((u46.1 0 15).toNatClampNeg) (u81.1 0 15)) ((u81.1 0 48) - (1 : Int32))) hD
    refine vx_ret ?_
    exact W.vret hx hb hr (fun t ht9 hW => ⟨⟨(wA (wA (wA u81 11 ((u46.1 0 12).toNatClampNeg) x86) 14 ((u46.1 0 15).toNatClampNeg) (u81.1 0 15)) 0 48 ((u81.1 0 48) - (1 : Int32))), rfl, ⟨(FG.f (FG.a (FG.a (FG.tr (FG.a (FG.tr (FG.tr (FG.tr (FG.tr (FG.rf _) (FG.up fr1 (by decide) (by decide))) (FG.up fr30 (by decide) (by decide))) (FG.up fr45 (by decide) (by decide))) (FG.up fr65 (by decide) (by decide))) ((u2.1 0 15).toNatClampNeg) (u64.1 0 15) (by decide) (by decide)) (FG.up fr80 (by decide) (by decide))) ((u46.1 0 12).toNatClampNeg) x86 (by decide) (by decide)) ((u46.1 0 15).toNatClampNeg) (u81.1 0 15) (by decide) (by decide)) ((u81.1 0 48) - (1 : Int32)) (by decide)), (show (v.1 0 47).toInt + 0 ≤ (u81.1 0 47).toInt ∧ (u81.1 0 47).toInt ≤ 1500 from (om_510871f2a8 pw1 q34 pw45 q69 pt80 pw80)), (show pa.toInt ≠ 0 ∨ ((v.1 0 47).toInt + 1 ≤ (u81.1 0 47).toInt ∧ (v.1 0 49).toInt ≠ (v.1 0 47).toInt) from (om_bfbfef860c pb1 pw1 q34 pt45 q69 pw80)), (show (v.1 0 12).toInt ≤ (u81.1 0 12).toInt ∧ (u81.1 0 12).toInt - 15 * (u81.1 0 47).toInt ≤ (v.1 0 12).toInt - 15 * (v.1 0 47).toInt from (om_800df19407 pw1 q39 q34 pw45 q74 q69 pw80)), (show (v.1 0 15).toInt ≤ (u81.1 0 15).toInt ∧ (u81.1 0 15).toInt - 10 * (u81.1 0 47).toInt ≤ (v.1 0 15).toInt - 10 * (v.1 0 47).toInt from (om_27f0bcb4b5 po1 q40 q34 po45 q75 q69 po80)), (show (v.1 0 43).toInt ≤ (u81.1 0 43).toInt ∧ (u81.1 0 43).toInt - 15 * (u81.1 0 47).toInt ≤ (v.1 0 43).toInt - 15 * (v.1 0 47).toInt from (om_c4eac94ad9 pf1 q41 q34 pf45 q76 q69 pf80)), (show (v.1 0 39).toInt ≤ (u81.1 0 39).toInt ∧ (u81.1 0 39).toInt - 1 * (u81.1 0 47).toInt ≤ (v.1 0 39).toInt - 1 * (v.1 0 47).toInt from (om_9ade6bd3cc pk1 q42 q34 pk45 q77 q69 pk80)), (show (u81.1 0 32).toInt = (v.1 0 32).toInt ∧ ((u81.1 0 48) - (1 : Int32)).toInt = (v.1 0 48).toInt from (om_8c13340bd7 pp1 q38 q33 pp45 q73 q68 pp80 z87)), (show (v.1 0 33).toInt ≤ (u81.1 0 33).toInt ∧ (u81.1 0 33).toInt ≤ 500 from (om_3feabe0028 ph1 q37 ph45 q72 ph80)), (fun (j9 : Nat) hj9 => (Eq.trans (pk_un3 (a := (u46.1 0 12).toInt) rfl (om_11b5b95650 zws pw1 q39 pw45) (om_2ba797da8c pw1 q39 pw45 hj9)) (Eq.trans (kc80 j9 (om_3809a830b4 pw1 q39 pw45 q74 hj9)) (kc65 j9 hj9)))), (fun (j9 : Nat) hj9 => (Eq.trans (ko80 j9 (om_a9ea260df7 po1 q40 po45 q75 hj9)) (ko65 j9 hj9))), (fun (j9 : Nat) hj9 => (Eq.trans (pk_un3 (a := (u46.1 0 15).toInt) rfl (om_fb2ee2ae02 zos po1 q40 po45) (om_74373070f9 po1 q40 po45 hj9)) (Eq.trans (kg80 j9 (om_a9ea260df7 po1 q40 po45 q75 hj9)) (Eq.trans (pk_un3 (a := (u2.1 0 15).toInt) rfl (om_64fdcab68b zos po1) (om_24f6a8216f po1 hj9)) (kg65 j9 hj9))))), (AR.o (AR.o (AR.o a3580 (by decide)) (by decide)) (by decide)), (AR.o (AR.o (AR.o a3780 (by decide)) (by decide)) (by decide)), (AR.o (AR.o (AR.o a3880 (by decide)) (by decide)) (by decide)), (AR.o (AR.o (AR.o a4080 (by decide)) (by decide)) (by decide)), (FX.o (FX.o (FX.o fx80 (by decide) (by decide)) (by decide) (by decide)) (by decide) (by decide))⟩, by rw [ht9]; exact hP, hD⟩, hS.F ht9⟩) hS.2.2 dX13_choice_131
  · have z88 : r6.toInt = (0 : Int) := eq_z rfl (show (0 : Int32).toInt = (0 : Int) by decide) h7
    refine vx_ret ?_
    exact W.vret hx hb hr (fun t ht9 hW => ⟨⟨u2, rfl, ⟨(FG.tr (FG.rf _) (FG.up fr1 (by decide) (by decide))), (show (v.1 0 47).toInt + 0 ≤ (u2.1 0 47).toInt ∧ (u2.1 0 47).toInt ≤ 1500 from (om_3e1db30e1f pt1 pw1)), (show pa.toInt ≠ 0 ∨ ((v.1 0 47).toInt + 1 ≤ (u2.1 0 47).toInt ∧ (v.1 0 49).toInt ≠ (v.1 0 47).toInt) from (om_f635e31d47 pb1)), (show (v.1 0 12).toInt ≤ (u2.1 0 12).toInt ∧ (u2.1 0 12).toInt - 15 * (u2.1 0 47).toInt ≤ (v.1 0 12).toInt - 15 * (v.1 0 47).toInt from (om_bd8d9916e4 pw1)), (show (v.1 0 15).toInt ≤ (u2.1 0 15).toInt ∧ (u2.1 0 15).toInt - 10 * (u2.1 0 47).toInt ≤ (v.1 0 15).toInt - 10 * (v.1 0 47).toInt from (om_75227e8328 po1)), (show (v.1 0 43).toInt ≤ (u2.1 0 43).toInt ∧ (u2.1 0 43).toInt - 15 * (u2.1 0 47).toInt ≤ (v.1 0 43).toInt - 15 * (v.1 0 47).toInt from (om_bd8d9916e4 pf1)), (show (v.1 0 39).toInt ≤ (u2.1 0 39).toInt ∧ (u2.1 0 39).toInt - 1 * (u2.1 0 47).toInt ≤ (v.1 0 39).toInt - 1 * (v.1 0 47).toInt from (om_da0fc15040 pk1)), (show (u2.1 0 32).toInt = (v.1 0 32).toInt ∧ (u2.1 0 48).toInt = (v.1 0 48).toInt from (om_d31db81a70 pp1)), (show (v.1 0 33).toInt ≤ (u2.1 0 33).toInt ∧ (u2.1 0 33).toInt ≤ 500 from (om_6bc0cea141 ph1)), (fun (j9 : Nat) hj9 => (kc1 j9 (om_4fe904e9bf hj9))), (fun (j9 : Nat) hj9 => (ko1 j9 (om_4fe904e9bf hj9))), (fun (j9 : Nat) hj9 => (kg1 j9 (om_4fe904e9bf hj9))), a351, a371, a381, a401, fx1⟩, by rw [ht9]; exact hP, hD⟩, hS.F ht9⟩) hS.2.2 dX13_choice_15
theorem om_5cf133fb1a {n0 : Nat} : 0 + 1 ≤ 40 * n0 + 34 := by omega
theorem om_c7f93e786a {n0 : Nat} : 8 + (3 + 11) + 0 ≤ 28 * (40 * n0 + 34) := by omega
theorem om_14b467d488 {n0 : Nat} : 1 + 1 ≤ 40 * n0 + 34 := by omega
theorem om_6d481cb588 {n0 : Nat} : 8 + (3 + 11) + 25 ≤ 28 * (40 * n0 + 34) := by omega
theorem om_badc1e0683 {n0 : Nat} : 8 + (1 + 11) + 22 ≤ 28 * (40 * n0 + 34) := by omega
theorem om_4cd92eee88 {n0 : Nat} : 8 + (5 + 11) + 0 ≤ 28 * (40 * n0 + 34) := by omega
theorem om_bb50b3edd6 {n0 : Nat} : 2 + 1 ≤ 40 * n0 + 34 := by omega
theorem om_46959abb0f {n0 : Nat} : 8 + (3 + 11) + 46 ≤ 28 * (40 * n0 + 34) := by omega
theorem om_6a079402de {x0 x1 x2 x3 : Int} (h0 : 0 ≤ x0 ∧ x0 ≤ 15 * x1 + 0) (h1 : x2 = (x1) + (1 : Int)) (h2 : x1 < 1500) (h3 : x3 = x2) : 0 ≤ x3 ∧ x3 ≤ 1500 := by omega
theorem om_4760f428bf {x0 x1 x2 : Int} (h0 : 0 ≤ x0 ∧ x0 ≤ 500) (h1 : x1 < x0) (h2 : (0 : Int) ≤ x1) (h3 : x2 = x0) : 0 ≤ x2 ∧ x2 ≤ 500 := by omega
theorem om_4a9357e2e4 {x0 x1 x2 x3 x4 : Int} (h0 : 0 ≤ x0 ∧ x0 ≤ 15 * x1 + 2) (h1 : x2 = (x1) + (1 : Int)) (h2 : x3 = x2) (h3 : x0 ≤ x4 ∧ x4 ≤ x0 + 2) : 0 ≤ x4 ∧ x4 ≤ 15 * x3 + 2 := by omega
theorem om_fbf8387a17 {x0 x1 x2 x3 x4 : Int} (h0 : 0 ≤ x0 ∧ x0 ≤ 10 * x1 + 0) (h1 : x2 = (x1) + (1 : Int)) (h2 : x3 = x2) (h3 : x4 = x0 + 1) : 0 ≤ x4 ∧ x4 ≤ 10 * x3 + 0 := by omega
theorem om_8638aeaf59 {x0 x1 x2 x3 x4 : Int} (h0 : 0 ≤ x0 ∧ x0 ≤ 15 * x1 + 0) (h1 : x2 = (x1) + (1 : Int)) (h2 : x3 = x2) (h3 : x0 ≤ x4 ∧ x4 ≤ x0 + 2) : 0 ≤ x4 ∧ x4 ≤ 15 * x3 + 0 := by omega
theorem om_88f9a97f8f {x0 x1 x2 x3 x4 : Int} (h0 : 0 ≤ x0 ∧ x0 ≤ 1 * x1 + 0) (h1 : x2 = (x1) + (1 : Int)) (h2 : x3 = x0) (h3 : x4 = x2) : 0 ≤ x3 ∧ x3 ≤ 1 * x4 + 0 := by omega
theorem om_ab8103c111 {n0 : Nat} : (40 * n0 + 32) + 1 ≤ 40 * n0 + 34 := by omega
theorem om_6878702d79 {n0 : Nat} : 8 + (6 + 11) + 28 * (40 * n0 + 32) ≤ 28 * (40 * n0 + 34) := by omega
theorem om_21619e531b {x0 x1 x2 x3 x4 x5 : Int} (h0 : x0 = (x1) + (1 : Int)) (h1 : x2 = x0) (h2 : x2 + 0 ≤ x3 ∧ x3 ≤ 1500) (h3 : x4 ≤ x5 ∧ x5 - 15 * x3 ≤ x4 - 15 * x2) : x1 + 1 ≤ x3 ∧ x3 ≤ 1500 := by omega
theorem om_f486215844 {x0 x1 x2 x3 x4 x5 x6 : Int} (h0 : x0 = (x1) + (1 : Int)) (h1 : x2 = x0) (h2 : x3 ≤ x4 ∧ x4 ≤ x3 + 2) (h3 : x4 ≤ x5 ∧ x5 - 15 * x6 ≤ x4 - 15 * x2) : x3 ≤ x5 ∧ x5 - 15 * x6 ≤ x3 - 15 * x1 := by omega
theorem om_8929dd867f {x0 x1 x2 x3 x4 x5 x6 : Int} (h0 : x0 = (x1) + (1 : Int)) (h1 : x2 = x0) (h2 : x3 = x4 + 1) (h3 : x3 ≤ x5 ∧ x5 - 10 * x6 ≤ x3 - 10 * x2) : x4 ≤ x5 ∧ x5 - 10 * x6 ≤ x4 - 10 * x1 := by omega
theorem om_f3c98af892 {x0 x1 x2 x3 x4 x5 x6 : Int} (h0 : x0 = (x1) + (1 : Int)) (h1 : x2 = x3) (h2 : x4 = x0) (h3 : x2 ≤ x5 ∧ x5 - 1 * x6 ≤ x2 - 1 * x4) : x3 ≤ x5 ∧ x5 - 1 * x6 ≤ x3 - 1 * x1 := by omega
theorem om_652ed4059d {x0 x1 x2 x3 x4 x5 : Int} (h0 : x0 = x1) (h1 : x2 = x3) (h2 : x4 = x0 ∧ x5 = x2) : x4 = x1 ∧ x5 = x3 := by omega
theorem om_4b1e795cae {x0 x1 x2 : Int} (h0 : x0 = x1) (h1 : x0 ≤ x2 ∧ x2 ≤ 500) : x1 ≤ x2 ∧ x2 ≤ 500 := by omega
theorem om_40b81d0cb2 {x0 x1 : Int} {n2 : Nat} (h0 : x0 ≤ x1 ∧ x1 ≤ x0 + 2) (h1 : (n2 : Int) < x0) : (n2 : Int) < x1 := by omega
theorem om_8fd7ee0f12 {x0 x1 : Int} {n2 : Nat} (h0 : x0 = x1 + 1) (h1 : (n2 : Int) < x1) : (n2 : Int) < x0 := by omega
theorem om_fac23582e0 {x0 x1 : Int} (h0 : 0 ≤ x0 ∧ x0 ≤ 500) (h1 : x1 < x0) (h2 : (0 : Int) ≤ x1) : 0 ≤ x0 ∧ x0 ≤ 500 := by omega
theorem om_5fbf91f44c {x0 : Int} (h0 : 0 ≤ x0 ∧ x0 ≤ 1) (h1 : x0 = (0 : Int)) : x0 = 0 ∨ (0 ≤ (-1 : Int) ∧ (-1 : Int) < 60) := by omega
theorem om_a15f5e5edd {n0 : Nat} : (40 * n0 + 6) + 1 ≤ 40 * n0 + 34 := by omega
theorem om_790e9980ac {n0 : Nat} : 8 + (8 + 11) + 28 * (40 * n0 + 6) ≤ 28 * (40 * n0 + 34) := by omega
theorem om_34f665105e {x0 x1 x2 x3 x4 : Int} (h0 : x0 = (x1) + (1 : Int)) (h1 : x2 ≤ x3 ∧ x3 - 10 * x4 ≤ x2 - 10 * x0) : x2 ≤ x3 ∧ x3 - 10 * x4 ≤ x2 - 10 * x1 := by omega
theorem om_537aa373c5 {x0 x1 x2 : Int} (h0 : 0 ≤ x0 ∧ x0 ≤ 60) (h1 : x1 < x0) (h2 : (0 : Int) ≤ x1) (h3 : x2 = x0) : 0 ≤ x2 ∧ x2 ≤ 60 := by omega
theorem om_1dc7d09a23 {x0 x1 : Int} (h0 : 0 ≤ x0 ∧ x0 ≤ 1) (h1 : x0 = (0 : Int)) : x0 = 0 ∨ (0 ≤ x1 ∧ x1 < 60) := by omega
theorem om_5fd72e6265 {n0 : Nat} : 8 + (3 + 11) + 28 * (40 * n0 + 6) ≤ 28 * (40 * n0 + 34) := by omega
theorem om_738d4fde4a {n0 : Nat} : 8 + (3 + 11) + 24 ≤ 28 * (40 * n0 + 34) := by omega
theorem om_343857e7d0 {n0 : Nat} : 8 + (2 + 11) + 0 ≤ 28 * (40 * n0 + 34) := by omega
theorem om_56026331fb {n0 : Nat} : 8 + (4 + 11) + 0 ≤ 28 * (40 * n0 + 34) := by omega
theorem om_f64e3e0d80 {x0 x2 x3 x4 x5 : Int} {n1 : Nat} (h0 : 40 ≤ x0 + (n1 : Int)) (h1 : x2 = x3 ∧ x4 = x0) (h2 : x5 = x4) : 40 ≤ x5 + (n1 : Int) := by omega
theorem om_2a7633839f {x0 x1 x2 x3 x4 : Int} (h0 : 0 ≤ x0 ∧ x0 ≤ 15 * x1 + 0) (h1 : x2 = (x1) + (1 : Int)) (h2 : x2 + 1 ≤ x3 ∧ x3 ≤ 1500) (h3 : x4 = x3) : 0 ≤ x4 ∧ x4 ≤ 1500 := by omega
theorem om_8102633c67 {x0 x1 x2 x3 x4 : Int} (h0 : 0 ≤ x0 ∧ x0 ≤ 40) (h1 : x1 = x2 ∧ x3 = x0) (h2 : x4 = x3) : 0 ≤ x4 ∧ x4 ≤ 40 := by omega
theorem om_aa5773994b {x0 x1 x2 x3 x4 x5 x6 x7 : Int} (h0 : 0 ≤ x0 ∧ x0 ≤ 15 * x1 + 2) (h1 : x2 = (x1) + (1 : Int)) (h2 : x0 ≤ x3 ∧ x3 - 15 * x4 ≤ x0 - 15 * x2) (h3 : x5 = (x3) + (1 : Int)) (h4 : x6 = x5) (h5 : x7 = x4) : 0 ≤ x6 ∧ x6 ≤ 15 * x7 + 2 := by omega
theorem om_51bfc3af59 {x0 x1 x2 x3 x4 x5 x6 x7 : Int} (h0 : 0 ≤ x0 ∧ x0 ≤ 10 * x1 + 0) (h1 : x2 = (x1) + (1 : Int)) (h2 : x0 ≤ x3 ∧ x3 - 10 * x4 ≤ x0 - 10 * x2) (h3 : x5 = x3) (h4 : x6 = x4) (h5 : x7 = (x5) + (1 : Int)) : 0 ≤ x7 ∧ x7 ≤ 10 * x6 + 0 := by omega
theorem om_1f92c0e818 {x0 x1 x2 x3 x4 x5 x6 : Int} (h0 : 0 ≤ x0 ∧ x0 ≤ 15 * x1 + 0) (h1 : x2 = (x1) + (1 : Int)) (h2 : x0 ≤ x3 ∧ x3 - 15 * x4 ≤ x0 - 15 * x2) (h3 : x5 = x4) (h4 : x6 = x3 + 1) : 0 ≤ x6 ∧ x6 ≤ 15 * x5 + 0 := by omega
theorem om_5e36a23b6f {x0 x1 x2 x3 x4 x5 x6 : Int} (h0 : 0 ≤ x0 ∧ x0 ≤ 1 * x1 + 0) (h1 : x2 = (x1) + (1 : Int)) (h2 : x0 ≤ x3 ∧ x3 - 1 * x4 ≤ x0 - 1 * x2) (h3 : x5 = x3) (h4 : x6 = x4) : 0 ≤ x5 ∧ x5 ≤ 1 * x6 + 0 := by omega
theorem om_19af076d1a {x0 x1 x2 x3 : Int} (h0 : 0 ≤ x0 ∧ x0 ≤ 60) (h1 : x1 < x0) (h2 : (0 : Int) ≤ x1) (h3 : x2 = x0) (h4 : x3 = x2) : 0 ≤ x3 ∧ x3 ≤ 60 := by omega
theorem om_fce9d01e45 {x0 x1 x2 x3 x4 x5 x6 : Int} (h0 : x0 = (x1) + (1 : Int)) (h1 : x0 + 1 ≤ x2 ∧ x2 ≤ 1500) (h2 : x3 = x2) (h3 : x3 + 0 ≤ x4 ∧ x4 ≤ 1500) (h4 : x5 ≤ x6 ∧ x6 - 15 * x4 ≤ x5 - 15 * x3) : x1 + 1 ≤ x4 ∧ x4 ≤ 1500 := by omega
theorem om_0160935842 {x0 x1 x2 x3 x4 x5 x6 x7 x8 x9 : Int} (h0 : x0 = (x1) + (1 : Int)) (h1 : x2 ≤ x3 ∧ x3 - 15 * x4 ≤ x2 - 15 * x0) (h2 : x5 = (x3) + (1 : Int)) (h3 : x6 = x5) (h4 : x7 = x4) (h5 : x6 ≤ x8 ∧ x8 - 15 * x9 ≤ x6 - 15 * x7) : x2 ≤ x8 ∧ x8 - 15 * x9 ≤ x2 - 15 * x1 := by omega
theorem om_05e2e1d686 {x0 x1 x2 x3 x4 x5 x6 x7 x8 x9 : Int} (h0 : x0 = (x1) + (1 : Int)) (h1 : x2 ≤ x3 ∧ x3 - 10 * x4 ≤ x2 - 10 * x0) (h2 : x5 = x3) (h3 : x6 = x4) (h4 : x7 = (x5) + (1 : Int)) (h5 : x7 ≤ x8 ∧ x8 - 10 * x9 ≤ x7 - 10 * x6) : x2 ≤ x8 ∧ x8 - 10 * x9 ≤ x2 - 10 * x1 := by omega
theorem om_96595f386d {x0 x1 x2 x3 x4 x5 x6 x7 x8 : Int} (h0 : x0 = (x1) + (1 : Int)) (h1 : x2 ≤ x3 ∧ x3 - 15 * x4 ≤ x2 - 15 * x0) (h2 : x5 = x4) (h3 : x6 = x3 + 1) (h4 : x6 ≤ x7 ∧ x7 - 15 * x8 ≤ x6 - 15 * x5) : x2 ≤ x7 ∧ x7 - 15 * x8 ≤ x2 - 15 * x1 := by omega
theorem om_5a7b74c40b {x0 x1 x2 x3 x4 x5 x6 x7 x8 : Int} (h0 : x0 = (x1) + (1 : Int)) (h1 : x2 ≤ x3 ∧ x3 - 1 * x4 ≤ x2 - 1 * x0) (h2 : x5 = x3) (h3 : x6 = x4) (h4 : x5 ≤ x7 ∧ x7 - 1 * x8 ≤ x5 - 1 * x6) : x2 ≤ x7 ∧ x7 - 1 * x8 ≤ x2 - 1 * x1 := by omega
theorem om_095c2b5dd3 {x0 x1 x2 x3 x4 x5 x6 x7 : Int} (h0 : x0 = x1 ∧ x2 = x3) (h1 : x4 = x0) (h2 : x5 = x2) (h3 : x6 = x4 ∧ x7 = x5) : x6 = x1 ∧ x7 = x3 := by omega
theorem om_c3f78aa130 {x0 x1 x2 x3 : Int} (h0 : x0 ≤ x1 ∧ x1 ≤ 500) (h1 : x2 = x1) (h2 : x2 ≤ x3 ∧ x3 ≤ 500) : x0 ≤ x3 ∧ x3 ≤ 500 := by omega
theorem om_f02d7fcdb4 {x0 x1 x2 x3 x4 x5 : Int} {n6 : Nat} (h0 : x0 ≤ x1 ∧ x1 - 15 * x2 ≤ x0 - 15 * x3) (h1 : x4 = (x1) + (1 : Int)) (h2 : x5 = x4) (h3 : (n6 : Int) < x0) : (n6 : Int) < x5 := by omega
theorem om_c43cae243c {x0 x1 x2 x3 x4 x5 : Int} {n6 : Nat} (h0 : x0 ≤ x1 ∧ x1 - 10 * x2 ≤ x0 - 10 * x3) (h1 : x4 = x1) (h2 : x5 = (x4) + (1 : Int)) (h3 : (n6 : Int) < x0) : (n6 : Int) < x5 := by omega
theorem om_264c288ace {x0 x1 x2 x3 x4 x5 x6 x7 : Int} (h0 : 0 ≤ x0 ∧ x1 + x0 ≤ x2) (h1 : x3 = x1) (h2 : x4 = x0 ∧ x5 = x6) (h3 : x2 ≤ x7 ∧ x7 ≤ 500) : 0 ≤ x4 ∧ x3 + x4 ≤ x7 := by omega
theorem om_09c5dcff5a {x0 x1 x2 x3 x4 : Int} (h0 : 0 ≤ x0 ∧ x0 ≤ 15 * x1 + 2) (h1 : x2 = (x1) + (1 : Int)) (h2 : x0 ≤ x3 ∧ x3 - 15 * x4 ≤ x0 - 15 * x2) : 0 ≤ x3 ∧ x3 ≤ 15 * x4 + 2 := by omega
theorem om_6f6533c9fe {x0 x1 x2 x3 x4 : Int} (h0 : 0 ≤ x0 ∧ x0 ≤ 10 * x1 + 0) (h1 : x2 = (x1) + (1 : Int)) (h2 : x0 ≤ x3 ∧ x3 - 10 * x4 ≤ x0 - 10 * x2) : 0 ≤ x3 ∧ x3 ≤ 10 * x4 + 0 := by omega
theorem om_987b2d8869 {x0 x1 x2 x3 x4 : Int} (h0 : 0 ≤ x0 ∧ x0 ≤ 15 * x1 + 0) (h1 : x2 = (x1) + (1 : Int)) (h2 : x0 ≤ x3 ∧ x3 - 15 * x4 ≤ x0 - 15 * x2) : 0 ≤ x3 ∧ x3 ≤ 15 * x4 + 0 := by omega
theorem om_99e6b168a8 {x0 x1 x2 x3 x4 : Int} (h0 : 0 ≤ x0 ∧ x0 ≤ 1 * x1 + 0) (h1 : x2 = (x1) + (1 : Int)) (h2 : x0 ≤ x3 ∧ x3 - 1 * x4 ≤ x0 - 1 * x2) : 0 ≤ x3 ∧ x3 ≤ 1 * x4 + 0 := by omega
theorem om_41bfbc6aba {x0 x1 x2 : Int} (h0 : 0 ≤ x0 ∧ x0 ≤ 60) (h1 : x1 < x0) (h2 : (0 : Int) ≤ x1) : x2 = 0 ∨ (0 ≤ x1 ∧ x1 < 60) := by omega
theorem om_1d8ba1df2e {x0 x1 x2 x3 : Int} (h0 : x0 = (x1) + (1 : Int)) (h1 : x0 + 1 ≤ x2 ∧ x2 ≤ 1500) (h2 : x2 + 1 ≤ x3 ∧ x3 ≤ 1500) : x1 + 1 ≤ x3 ∧ x3 ≤ 1500 := by omega
theorem om_b832e5d7ba {x0 x1 x2 x3 x4 x5 x6 : Int} (h0 : x0 = (x1) + (1 : Int)) (h1 : x2 ≤ x3 ∧ x3 - 15 * x4 ≤ x2 - 15 * x0) (h2 : x3 ≤ x5 ∧ x5 - 15 * x6 ≤ x3 - 15 * x4) : x2 ≤ x5 ∧ x5 - 15 * x6 ≤ x2 - 15 * x1 := by omega
theorem om_f9b45ec185 {x0 x1 x2 x3 x4 x5 x6 : Int} (h0 : x0 = (x1) + (1 : Int)) (h1 : x2 ≤ x3 ∧ x3 - 10 * x4 ≤ x2 - 10 * x0) (h2 : x3 ≤ x5 ∧ x5 - 10 * x6 ≤ x3 - 10 * x4) : x2 ≤ x5 ∧ x5 - 10 * x6 ≤ x2 - 10 * x1 := by omega
theorem om_fe53acaec3 {x0 x1 x2 x3 x4 x5 x6 : Int} (h0 : x0 = (x1) + (1 : Int)) (h1 : x2 ≤ x3 ∧ x3 - 1 * x4 ≤ x2 - 1 * x0) (h2 : x3 ≤ x5 ∧ x5 - 1 * x6 ≤ x3 - 1 * x4) : x2 ≤ x5 ∧ x5 - 1 * x6 ≤ x2 - 1 * x1 := by omega
set_option maxHeartbeats 16000000 in
set_option maxRecDepth 100000 in
theorem c_m_named1 (l : Launch) (n : Nat) (ihE : ∀ m, n = m + 1 → Cx_expression l m) (C : Cx_choice l n) (dC : Nat → ClassId) (dI : Nat → Nat → Nat) (cI cB cZ cJ cR : ClassId) (tb : Nat → Nat) (sz : Nat) (ad : Nat → Nat) (N : Nat) (v : MS)  (zn : 40 ≤ (v.1 0 48).toInt + (n : Int)) (zt : 0 ≤ (v.1 0 47).toInt ∧ (v.1 0 47).toInt ≤ 1500) (zop : 0 ≤ (v.1 0 48).toInt ∧ (v.1 0 48).toInt ≤ 40) (zkn : 0 ≤ (v.1 0 30).toInt ∧ (v.1 0 30).toInt ≤ 500) (zhi : 0 ≤ (v.1 0 33).toInt ∧ (v.1 0 33).toInt ≤ 500) (zs : 0 ≤ (v.1 0 32).toInt ∧ (v.1 0 30).toInt + (v.1 0 32).toInt ≤ (v.1 0 33).toInt) (zws : 0 ≤ (v.1 0 12).toInt ∧ (v.1 0 12).toInt ≤ 15 * (v.1 0 47).toInt + 2) (zos : 0 ≤ (v.1 0 15).toInt ∧ (v.1 0 15).toInt ≤ 10 * (v.1 0 47).toInt + 0) (zfs : 0 ≤ (v.1 0 43).toInt ∧ (v.1 0 43).toInt ≤ 15 * (v.1 0 47).toInt + 0) (zcs : 0 ≤ (v.1 0 39).toInt ∧ (v.1 0 39).toInt ≤ 1 * (v.1 0 47).toInt + 0) (zgl : 0 ≤ (v.1 0 27).toInt ∧ (v.1 0 27).toInt ≤ 60) (hT : TI v) (a29 : AR 29 0 1500 v) (a23 : AR 23 0 1500 v) (a35 : AR 35 0 1500 v) (a37 : AR 37 0 23999 v) (a38 : AR 38 0 15999 v) (a40 : AR 40 0 23999 v) (fx : FX v) : vx_Met l yX13_named (Cond.code yX13_named cX13_named 7 none :: tw_W) ({ frames := 40 * n + 34, cells := 0, slots := 0, locals := 28 * (40 * n + 34) }) (pc_ (dC, dI) (tyS cI cB cZ cJ cR) tb (mW ad N cI cZ cJ v) sz [.ref (ad 0), .int 1]) (qv_ (dC, dI) (mW ad N cI cZ cJ v) sz (fun (u : MS) => FG [12, 15, 32, 33, 39, 43, 44, 45, 47, 48, 49, 50, 51] [0, 11, 13, 14, 35, 36, 37, 38, 40, 41, 42] v u ∧ ((v.1 0 47).toInt + 1 ≤ (u.1 0 47).toInt ∧ (u.1 0 47).toInt ≤ 1500) ∧ ((v.1 0 49).toInt ≠ (v.1 0 47).toInt) ∧ ((v.1 0 12).toInt ≤ (u.1 0 12).toInt ∧ (u.1 0 12).toInt - 15 * (u.1 0 47).toInt ≤ (v.1 0 12).toInt - 15 * (v.1 0 47).toInt) ∧ ((v.1 0 15).toInt ≤ (u.1 0 15).toInt ∧ (u.1 0 15).toInt - 10 * (u.1 0 47).toInt ≤ (v.1 0 15).toInt - 10 * (v.1 0 47).toInt) ∧ ((v.1 0 43).toInt ≤ (u.1 0 43).toInt ∧ (u.1 0 43).toInt - 15 * (u.1 0 47).toInt ≤ (v.1 0 43).toInt - 15 * (v.1 0 47).toInt) ∧ ((v.1 0 39).toInt ≤ (u.1 0 39).toInt ∧ (u.1 0 39).toInt - 1 * (u.1 0 47).toInt ≤ (v.1 0 39).toInt - 1 * (v.1 0 47).toInt) ∧ ((u.1 0 32).toInt = (v.1 0 32).toInt ∧ (u.1 0 48).toInt = (v.1 0 48).toInt) ∧ ((v.1 0 33).toInt ≤ (u.1 0 33).toInt ∧ (u.1 0 33).toInt ≤ 500) ∧ (∀ j : Nat, (j : Int) < (v.1 0 12).toInt → (u.1 11) j = (v.1 11) j) ∧ (∀ j : Nat, (j : Int) < (v.1 0 15).toInt → (u.1 13) j = (v.1 13) j) ∧ (∀ j : Nat, (j : Int) < (v.1 0 15).toInt → (u.1 14) j = (v.1 14) j) ∧ (AR 35 0 1500 u) ∧ (AR 37 0 23999 u) ∧ (AR 38 0 15999 u) ∧ (AR 40 0 23999 u) ∧ (FX u)) (fun (u : MS) => (mW ad N cI cZ cJ u))) (qxm (dC, dI) (mW ad N cI cZ cJ v) sz (fun (u : MS) => (mW ad N cI cZ cJ u)) (fun (u : MS) => Fr v u)) 0 0 (va_A (mW ad N cI cZ cJ v) sz) := by
  refine vx_ofW (cc := cX13_named) (maxL := 7) (ret := none) (by decide) rfl ?_
  intro p e s m args below meth c s₁ B hml hnt hv
  obtain ⟨rfl, hsz, hP, hKK, hD0, hFx⟩ := hv
  have hK := hKK.1
  have hx := B.exec
  have hb := B.bytes
  have hr := B.returns
  have ht : ∀ w ∈ tw_W, w.before _ s = true := fun w h => atoms_spec (ws := Cond.code yX13_named cX13_named 7 none :: tw_W) B.pre w (List.mem_cons_of_mem _ h)
  have hown : s.vm.findClass RX13 = some m.cls := findClass_of_methodNamed B.named
  have hlocks := B.notSynchronized
  subst hsz
  unfold qv_ qxm
  have hD := hD0.self (sz := s.heap.size)
  generalize hAe : va_A (mW ad N cI cZ cJ v) s.heap.size = A at hD hFx ⊢
  have hA : ∀ q : Nat, s.heap.size ≤ q → A q := fun q h => by rw [← hAe]; exact Or.inr h
  have hS : va_S A s.heap s.heap [] := va_S.rf
  have hl := lv_entry ([.ref (ad 0), .int 1]) (n := 7) (Nat.le_of_ble_eq_true rfl)
  rw [lg_entry_eq]
  generalize (lg_sl ([.ref (ad 0), .int 1]) ++ List.replicate (7 - (lg_sl ([.ref (ad 0), .int 1])).length) Slot.unset).toArray = ls at hl ⊢
  have hl : lv_has ls 7 [(0, .ref (ad 0)), (1, .int 1)] := hl
  refine lv_aload_n hx hb dX13_named_0 rfl (lv_at hl 0 rfl) ?_
  refine va_get (D := (dC, dI)) (ci := 16) (fs := mF ad v) (v := .int (v.1 0 47)) (C := RX13) (T := TX13) (N := 124) hx hb ht itX13 hown hK hP 0 rfl rfl 47 (by decide) (ht _ tw_24) (fun _ h9 => h9) rfl dX13_named_1 ?_
  refine lv_istore_n (lv' := [(2, .int (v.1 0 47)), (0, .ref (ad 0)), (1, .int 1)]) hx hb dX13_named_4 rfl hl (by decide) rfl (fun ls hl => ?_)
  refine lv_aload_n hx hb dX13_named_5 rfl (lv_at hl 1 rfl) ?_
  refine lv_aload_n hx hb dX13_named_6 rfl (lv_at hl 1 rfl) ?_
  refine va_get (D := (dC, dI)) (ci := 16) (fs := mF ad v) (v := .int (v.1 0 47)) (C := RX13) (T := TX13) (N := 124) hx hb ht itX13 hown hK hP 0 rfl rfl 47 (by decide) (ht _ tw_24) (fun _ h9 => h9) rfl dX13_named_7 ?_
  refine lv_iconst (v := 1) hx hb dX13_named_10 (by decide) ?_
  refine lv_iadd hx hb dX13_named_11 ?_
  have z1 : ((v.1 0 47) + (1 : Int32)).toInt = ((v.1 0 47).toInt) + (1 : Int) := add_z rfl (show (1 : Int32).toInt = (1 : Int) by decide) (om_3eca9b17a5 zws) (om_27eb55d06c zt)
  refine lv_bipush (v := 91) hx hb dX13_named_12 (by decide) ?_
  refine cu_i (rn_V (n := 2) (As := [.int ((v.1 0 47) + (1 : Int32)), .int 91]) (rest := []) hx hb hml hown ht hKK hFx hP hD hS hA (c_m_isSign l dC dI cI cB cZ cJ cR tb s.heap.size ad N v ((v.1 0 47) + (1 : Int32)) (91 : Int32) (show 0 ≤ ((v.1 0 47) + (1 : Int32)).toInt ∧ ((v.1 0 47) + (1 : Int32)).toInt < 4002 from (om_6662b95370 zt zfs z1))) tw_28 tw_29 (by decide +kernel) rfl rfl ⟨show 0 + 1 ≤ 40 * n + 34 from om_5cf133fb1a, show 8 + (3 + 11) + 0 ≤ 28 * (40 * n + 34) from om_c7f93e786a⟩ (List.range (mW ad N cI cZ cJ v).length) (rg_map _) (mW_nd _ _ _ _ _ _) rfl rfl rfl rfl hl.1 rfl (Nat.le_of_ble_eq_true rfl) dX13_named_14 ⟨Nat.le_of_ble_eq_true rfl, Nat.le_of_ble_eq_true rfl⟩) hP hD hS hA (fun r4 u3 H locs hw2 hP hD hS => ?_)
  obtain ⟨rfl, b2, e2⟩ := hw2
  refine W.widen (k := 0) (n := 0) (Nat.le_refl _) (Nat.le_refl _) ?_
  refine lv_istore_n (lv' := [(3, .int r4), (2, .int (v.1 0 47)), (0, .ref (ad 0)), (1, .int 1)]) hx hb dX13_named_17 rfl hl (by decide) rfl (fun ls hl => ?_)
  refine lv_aload_n hx hb dX13_named_18 rfl (lv_at hl 2 rfl) ?_
  refine lv_iload_n hx hb dX13_named_19 rfl (lv_at hl 1 rfl) ?_
  refine cu_i (rn_V (n := 1) (As := [.int (v.1 0 47)]) (rest := []) hx hb hml hown ht hKK hFx hP hD hS hA (c_m_local l dC dI cI cB cZ cJ cR tb H.size ad N v (v.1 0 47) (show 0 ≤ (v.1 0 47).toInt ∧ (v.1 0 47).toInt < 4002 from (om_d0702dcce3 zt zfs)) (show 0 ≤ (v.1 0 30).toInt ∧ (v.1 0 30).toInt ≤ 501 from (om_3af6ab4c7d zkn)) (show TI v from FG.ti (fl := pfl) (al := pal) (FG.rf _) (by decide) (by decide) hT) (show AR 29 0 1500 v from a29)) tw_98 tw_99 (by decide +kernel) rfl rfl ⟨show 1 + 1 ≤ 40 * n + 34 from om_14b467d488, show 8 + (3 + 11) + 25 ≤ 28 * (40 * n + 34) from om_6d481cb588⟩ (List.range (mW ad N cI cZ cJ v).length) (rg_map _) (mW_nd _ _ _ _ _ _) rfl rfl rfl rfl hl.1 rfl (Nat.le_of_ble_eq_true rfl) dX13_named_20 ⟨Nat.le_of_ble_eq_true rfl, Nat.le_of_ble_eq_true rfl⟩) hP hD hS hA (fun r7 u6 H locs hw5 hP hD hS => ?_)
  obtain ⟨rfl, a5, b5⟩ := hw5
  refine W.widen (k := 0) (n := 0) (Nat.le_refl _) (Nat.le_refl _) ?_
  refine lv_istore (lv' := [(4, .int r7), (3, .int r4), (2, .int (v.1 0 47)), (0, .ref (ad 0)), (1, .int 1)]) hx hb dX13_named_23 hl (by decide) rfl (fun ls hl => ?_)
  refine lv_iload hx hb dX13_named_25 (lv_at hl 0 rfl) ?_
  refine lv_if_ge (tgt := 38) hx hb dX13_named_27 (by decide) (fun h8 => ?_) (fun h8 => ?_)
  · have z9 : (0 : Int) ≤ r7.toInt := le_z (show (0 : Int32).toInt = (0 : Int) by decide) rfl h8
    refine lv_iconst (v := -1) hx hb dX13_named_38 (by decide) ?_
    refine lv_istore (lv' := [(5, .int (-1)), (4, .int r7), (3, .int r4), (2, .int (v.1 0 47)), (0, .ref (ad 0)), (1, .int 1)]) hx hb dX13_named_39 hl (by decide) rfl (fun ls hl => ?_)
    refine lv_iload hx hb dX13_named_41 (lv_at hl 1 rfl) ?_
    refine lv_if_ge (tgt := 51) hx hb dX13_named_43 (by decide) (fun h10 => ?_) (fun h10 => ?_)
    · have z11 : (0 : Int) ≤ r7.toInt := le_z (show (0 : Int32).toInt = (0 : Int) by decide) rfl h10
      refine lv_iload_n hx hb dX13_named_51 rfl (lv_at hl 2 rfl) ?_
      refine lv_iload hx hb dX13_named_52 (lv_at hl 1 rfl) ?_
      refine lv_if_ge (tgt := 71) hx hb dX13_named_54 (by decide) (fun h12 => ?_) (fun h12 => ?_)
      · have z13 : (0 : Int) ≤ r7.toInt := le_z (show (0 : Int32).toInt = (0 : Int) by decide) rfl h12
        refine lv_iconst (v := 0) hx hb dX13_named_71 (by decide) ?_
        refine lv_icmp_eq (tgt := 85) hx hb dX13_named_72 (by decide) (fun h14 => ?_) (fun h14 => ?_)
        · have z15 : r4.toInt = (0 : Int) := eq_z rfl (show (0 : Int32).toInt = (0 : Int) by decide) h14
          refine lv_aload_n hx hb dX13_named_85 rfl (lv_at hl 4 rfl) ?_
          refine cux_v (rx_V (n := 0) (As := []) (rest := []) hx hb hml hown ht hKK hFx hP hD hS hA (c_m_take l dC dI cI cB cZ cJ cR tb H.size ad N v  (show 0 ≤ (v.1 0 47).toInt ∧ (v.1 0 47).toInt ≤ 1500 from (om_2fb699b811 zt zfs))) tw_32 tw_33 (by decide +kernel) rfl rfl ⟨show 1 + 1 ≤ 40 * n + 34 from om_14b467d488, show 8 + (1 + 11) + 22 ≤ 28 * (40 * n + 34) from om_badc1e0683⟩ (List.range (mW ad N cI cZ cJ v).length) (rg_map _) (mW_nd _ _ _ _ _ _) rfl rfl rfl rfl hl.1 rfl (Nat.le_of_ble_eq_true rfl) dX13_named_86 ⟨Nat.le_of_ble_eq_true rfl, Nat.le_of_ble_eq_true rfl⟩) hP hD hS hA (fun u9 ce9 q9 H locs hx9 hP hD hS hc9 hv9 hf9 => ?_) (fun u17 H locs hw16 hP hD hS => ?_)
          · exact vx_out (fun x h9 => (hnt x h9).elim) hlocks hc9 hv9 hf9 (fun t9 ht9 hv8 => ⟨u9, (FG.tr (FG.rf _) hx9), ⟨rfl, by rw [ht9]; exact hP, hD⟩, hS.F ht9⟩) hS.2.2 (Nat.le_refl _) (Nat.le_refl _)
          obtain ⟨rfl, a16, b16⟩ := hw16
          have z19 : ((v.1 0 47) + (1 : Int32)).toInt = ((v.1 0 47).toInt) + (1 : Int) := add_z rfl (show (1 : Int32).toInt = (1 : Int) by decide) (om_3eca9b17a5 zws) (om_27eb55d06c zt)
          have hP : va_P (dC, dI) vwCl (mW ad N cI cZ cJ (wA v 0 47 ((v.1 0 47) + (1 : Int32)))) H := hP
          have hD : va_D A (mW ad N cI cZ cJ (wA v 0 47 ((v.1 0 47) + (1 : Int32)))) := hD
          refine W.widen (k := 0) (n := 0) (Nat.le_refl _) (Nat.le_refl _) ?_
          refine lv_iload_n hx hb dX13_named_89 rfl (lv_at hl 2 rfl) ?_
          refine lv_if_eq (tgt := 99) hx hb dX13_named_90 (by decide) (fun h20 => ?_) (fun h20 => ?_)
          · have z21 : r4.toInt = (0 : Int) := eq_z rfl (show (0 : Int32).toInt = (0 : Int) by decide) h20
            refine lv_iload_n hx hb dX13_named_99 rfl (lv_at hl 5 rfl) ?_
            refine lv_if_eq (tgt := 110) hx hb dX13_named_100 (by decide) (fun k22 => absurd k22 (by decide)) (fun _ => ?_)
            refine lv_aload_n hx hb dX13_named_103 rfl (lv_at hl 4 rfl) ?_
            refine cu_i (rn_V (n := 0) (As := []) (rest := []) hx hb hml hown ht hKK hFx hP hD hS hA (c_m_setting l dC dI cI cB cZ cJ cR tb H.size ad N (wA v 0 47 ((v.1 0 47) + (1 : Int32)))  (show 0 ≤ ((v.1 0 47) + (1 : Int32)).toInt ∧ ((v.1 0 47) + (1 : Int32)).toInt ≤ 1500 from (om_cae3a623a5 zfs z1 a16))) tw_134 tw_135 (by decide +kernel) rfl rfl ⟨show 0 + 1 ≤ 40 * n + 34 from om_5cf133fb1a, show 8 + (5 + 11) + 0 ≤ 28 * (40 * n + 34) from om_4cd92eee88⟩ (List.range (mW ad N cI cZ cJ (wA v 0 47 ((v.1 0 47) + (1 : Int32)))).length) (rg_map _) (mW_nd _ _ _ _ _ _) rfl rfl rfl rfl hl.1 rfl (Nat.le_of_ble_eq_true rfl) dX13_named_104 ⟨Nat.le_of_ble_eq_true rfl, Nat.le_of_ble_eq_true rfl⟩) hP hD hS hA (fun r25 u24 H locs hw23 hP hD hS => ?_)
            obtain rfl := hw23
            refine W.widen (k := 0) (n := 0) (Nat.le_refl _) (Nat.le_refl _) ?_
            refine lv_goto (tgt := 111) hx hb dX13_named_107 (by decide) ?_
            refine lv_istore (lv' := [(6, .int r25), (5, .int (-1)), (4, .int r7), (3, .int r4), (2, .int (v.1 0 47)), (0, .ref (ad 0)), (1, .int 1)]) hx hb dX13_named_111 hl (by decide) rfl (fun ls hl => ?_)
            refine lv_iload hx hb dX13_named_113 (lv_at hl 0 rfl) ?_
            refine lv_iconst (v := -1) hx hb dX13_named_115 (by decide) ?_
            refine lv_icmp_eq (tgt := 131) hx hb dX13_named_116 (by decide) (fun h26 => ?_) (fun h26 => ?_)
            · have z27 : r25.toInt = (-1 : Int) := eq_z rfl (show ((-1) : Int32).toInt = (-1 : Int) by decide) h26
              refine lv_iload_n hx hb dX13_named_131 rfl (lv_at hl 3 rfl) ?_
              refine lv_if_eq (tgt := 165) hx hb dX13_named_132 (by decide) (fun h28 => ?_) (fun h28 => ?_)
              · have z29 : r4.toInt = (0 : Int) := eq_z rfl (show (0 : Int32).toInt = (0 : Int) by decide) h28
                refine lv_aload_n hx hb dX13_named_165 rfl (lv_at hl 5 rfl) ?_
                refine lv_iload hx hb dX13_named_166 (lv_at hl 2 rfl) ?_
                refine lv_iload hx hb dX13_named_168 (lv_at hl 1 rfl) ?_
                refine cu_v (rn_V (n := 2) (As := [.int r7, .int (-1)]) (rest := []) hx hb hml hown ht hKK hFx hP hD hS hA (c_m_fetch l dC dI cI cB cZ cJ cR tb H.size ad N (wA v 0 47 ((v.1 0 47) + (1 : Int32))) r7 (-1 : Int32) (show 0 ≤ (v.1 0 12).toInt ∧ (v.1 0 12).toInt ≤ 23980 from (om_2fbbc6575c zws a16)) (show 0 ≤ (v.1 0 15).toInt ∧ (v.1 0 15).toInt ≤ 15980 from (om_1b8bc4dd59 zos a16)) (show 0 ≤ (v.1 0 43).toInt ∧ (v.1 0 43).toInt ≤ 23980 from (om_a8374448b3 zfs a16)) (show 0 ≤ r7.toInt ∨ (0 ≤ (-1 : Int) ∧ (-1 : Int) < 60) from (om_d224ea9f9d z9)) (show AR 40 0 23999 (wA v 0 47 ((v.1 0 47) + (1 : Int32))) from (AR.o a40 (by decide))) (show FX (wA v 0 47 ((v.1 0 47) + (1 : Int32))) from (FX.o fx (by decide) (by decide)))) tw_92 tw_93 (by decide +kernel) rfl rfl ⟨show 2 + 1 ≤ 40 * n + 34 from om_bb50b3edd6, show 8 + (3 + 11) + 46 ≤ 28 * (40 * n + 34) from om_46959abb0f⟩ (List.range (mW ad N cI cZ cJ (wA v 0 47 ((v.1 0 47) + (1 : Int32)))).length) (rg_map _) (mW_nd _ _ _ _ _ _) rfl rfl rfl rfl hl.1 rfl (Nat.le_of_ble_eq_true rfl) dX13_named_170 ⟨Nat.le_of_ble_eq_true rfl, Nat.le_of_ble_eq_true rfl⟩) hP hD hS hA (fun u31 H locs hw30 hP hD hS => ?_)
                obtain ⟨fr30, pw30, po30, pf30, kc30, ko30, kg30, a4030, fx30⟩ := hw30
                have pw30 : (v.1 0 12).toInt ≤ (u31.1 0 12).toInt ∧ (u31.1 0 12).toInt ≤ (v.1 0 12).toInt + 2 := pw30
                have po30 : (u31.1 0 15).toInt = (v.1 0 15).toInt + 1 := po30
                have pf30 : (v.1 0 43).toInt ≤ (u31.1 0 43).toInt ∧ (u31.1 0 43).toInt ≤ (v.1 0 43).toInt + 2 := pf30
                have kc30 : ∀ j : Nat, (j : Int) < (v.1 0 12).toInt → (u31.1 11) j = (v.1 11) j := kc30
                have ko30 : ∀ j : Nat, (j : Int) < (v.1 0 15).toInt → (u31.1 13) j = (v.1 13) j := ko30
                have kg30 : ∀ j : Nat, (j : Int) < (v.1 0 15).toInt → (u31.1 14) j = (v.1 14) j := kg30
                have a4030 : AR 40 0 23999 u31 := a4030
                have fx30 : FX u31 := fx30
                refine W.widen (k := 0) (n := 0) (Nat.le_refl _) (Nat.le_refl _) ?_
                refine lv_iload_n hx hb dX13_named_173 rfl (lv_at hl 6 rfl) ?_
                refine lv_if_eq (tgt := 182) hx hb dX13_named_174 (by decide) (fun k33 => absurd k33 (by decide)) (fun _ => ?_)
                refine lv_aload_n hx hb dX13_named_177 rfl (lv_at hl 5 rfl) ?_
                refine lv_iconst (v := 1) hx hb dX13_named_178 (by decide) ?_
                have q34 : (u31.1 0 48).toInt = (v.1 0 48).toInt := congrArg Int32.toInt ((fr30.2.1 48 (by decide)).trans (show (wA v 0 47 ((v.1 0 47) + (1 : Int32))).1 0 48 = (v.1 0 48) by rfl))
                have q35 : (u31.1 0 47).toInt = ((v.1 0 47) + (1 : Int32)).toInt := congrArg Int32.toInt ((fr30.2.1 47 (by decide)).trans (show (wA v 0 47 ((v.1 0 47) + (1 : Int32))).1 0 47 = ((v.1 0 47) + (1 : Int32)) by rfl))
                have q36 : (u31.1 0 30).toInt = (v.1 0 30).toInt := congrArg Int32.toInt ((fr30.2.1 30 (by decide)).trans (show (wA v 0 47 ((v.1 0 47) + (1 : Int32))).1 0 30 = (v.1 0 30) by rfl))
                have q37 : (u31.1 0 33).toInt = (v.1 0 33).toInt := congrArg Int32.toInt ((fr30.2.1 33 (by decide)).trans (show (wA v 0 47 ((v.1 0 47) + (1 : Int32))).1 0 33 = (v.1 0 33) by rfl))
                have q38 : (u31.1 0 32).toInt = (v.1 0 32).toInt := congrArg Int32.toInt ((fr30.2.1 32 (by decide)).trans (show (wA v 0 47 ((v.1 0 47) + (1 : Int32))).1 0 32 = (v.1 0 32) by rfl))
                have q39 : (u31.1 0 39).toInt = (v.1 0 39).toInt := congrArg Int32.toInt ((fr30.2.1 39 (by decide)).trans (show (wA v 0 47 ((v.1 0 47) + (1 : Int32))).1 0 39 = (v.1 0 39) by rfl))
                have q40 : (u31.1 0 27).toInt = (v.1 0 27).toInt := congrArg Int32.toInt ((fr30.2.1 27 (by decide)).trans (show (wA v 0 47 ((v.1 0 47) + (1 : Int32))).1 0 27 = (v.1 0 27) by rfl))
                refine cux_v (rx_V (n := 1) (As := [.int 1]) (rest := []) hx hb hml hown ht hKK hFx hP hD hS hA (C dC dI cI cB cZ cJ cR tb H.size ad N u31 (1 : Int32) (show 40 ≤ (u31.1 0 48).toInt + (n : Int) from (om_2d3a9cf1da zn q34)) (show 0 ≤ (u31.1 0 47).toInt ∧ (u31.1 0 47).toInt ≤ 1500 from (om_6a079402de zfs z1 a16 q35)) (show 0 ≤ (u31.1 0 48).toInt ∧ (u31.1 0 48).toInt ≤ 40 from (om_99e115f631 zop q34)) (show 0 ≤ (u31.1 0 30).toInt ∧ (u31.1 0 30).toInt ≤ 500 from (om_4760f428bf zkn b5 z9 q36)) (show 0 ≤ (u31.1 0 33).toInt ∧ (u31.1 0 33).toInt ≤ 500 from (om_f8376ff89c zhi q37)) (show 0 ≤ (u31.1 0 32).toInt ∧ (u31.1 0 30).toInt + (u31.1 0 32).toInt ≤ (u31.1 0 33).toInt from (om_2af3a22bf6 zs q36 q38 q37)) (show 0 ≤ (u31.1 0 12).toInt ∧ (u31.1 0 12).toInt ≤ 15 * (u31.1 0 47).toInt + 2 from (om_4a9357e2e4 zws z1 q35 pw30)) (show 0 ≤ (u31.1 0 15).toInt ∧ (u31.1 0 15).toInt ≤ 10 * (u31.1 0 47).toInt + 0 from (om_fbf8387a17 zos z1 q35 po30)) (show 0 ≤ (u31.1 0 43).toInt ∧ (u31.1 0 43).toInt ≤ 15 * (u31.1 0 47).toInt + 0 from (om_8638aeaf59 zfs z1 q35 pf30)) (show 0 ≤ (u31.1 0 39).toInt ∧ (u31.1 0 39).toInt ≤ 1 * (u31.1 0 47).toInt + 0 from (om_88f9a97f8f zcs z1 q39 q35)) (show 0 ≤ (u31.1 0 27).toInt ∧ (u31.1 0 27).toInt ≤ 60 from (om_385c0d8cae zgl q40)) (show TI u31 from FG.ti (fl := pfl) (al := pal) (FG.tr (FG.f (FG.rf _) ((v.1 0 47) + (1 : Int32)) (by decide)) (FG.up fr30 (by decide) (by decide))) (by decide) (by decide) hT) (show AR 29 0 1500 u31 from (show AR 29 0 1500 u31 from AR.fr (fl := [12, 15, 43]) (al := [0, 11, 13, 14, 40, 41, 42]) fr30 (by decide) (AR.o a29 (by decide)))) (show AR 23 0 1500 u31 from (show AR 23 0 1500 u31 from AR.fr (fl := [12, 15, 43]) (al := [0, 11, 13, 14, 40, 41, 42]) fr30 (by decide) (AR.o a23 (by decide)))) (show AR 35 0 1500 u31 from (show AR 35 0 1500 u31 from AR.fr (fl := [12, 15, 43]) (al := [0, 11, 13, 14, 40, 41, 42]) fr30 (by decide) (AR.o a35 (by decide)))) (show AR 37 0 23999 u31 from (show AR 37 0 23999 u31 from AR.fr (fl := [12, 15, 43]) (al := [0, 11, 13, 14, 40, 41, 42]) fr30 (by decide) (AR.o a37 (by decide)))) (show AR 38 0 15999 u31 from (show AR 38 0 15999 u31 from AR.fr (fl := [12, 15, 43]) (al := [0, 11, 13, 14, 40, 41, 42]) fr30 (by decide) (AR.o a38 (by decide)))) (show AR 40 0 23999 u31 from a4030) (show FX u31 from fx30)) tw_132 tw_133 (by decide +kernel) rfl rfl ⟨show (40 * n + 32) + 1 ≤ 40 * n + 34 from om_ab8103c111, show 8 + (6 + 11) + 28 * (40 * n + 32) ≤ 28 * (40 * n + 34) from om_6878702d79⟩ (List.range (mW ad N cI cZ cJ u31).length) (rg_map _) (mW_nd _ _ _ _ _ _) rfl rfl rfl rfl hl.1 rfl (Nat.le_of_ble_eq_true rfl) dX13_named_179 ⟨Nat.le_of_ble_eq_true rfl, Nat.le_of_ble_eq_true rfl⟩) hP hD hS hA (fun u9 ce9 q9 H locs hx9 hP hD hS hc9 hv9 hf9 => ?_) (fun u42 H locs hw41 hP hD hS => ?_)
                · exact vx_out (fun x h9 => (hnt x h9).elim) hlocks hc9 hv9 hf9 (fun t9 ht9 hv8 => ⟨u9, (FG.tr (FG.tr (FG.f (FG.rf _) ((v.1 0 47) + (1 : Int32)) (by decide)) (FG.up fr30 (by decide) (by decide))) hx9), ⟨rfl, by rw [ht9]; exact hP, hD⟩, hS.F ht9⟩) hS.2.2 (Nat.le_refl _) (Nat.le_refl _)
                obtain ⟨fr41, pt41, pb41, pw41, po41, pf41, pk41, pp41, ph41, kc41, ko41, kg41, a3541, a3741, a3841, a4041, fx41⟩ := hw41
                have pt41 : (u31.1 0 47).toInt + 0 ≤ (u42.1 0 47).toInt ∧ (u42.1 0 47).toInt ≤ 1500 := pt41
                have pb41 : (1 : Int) ≠ 0 ∨ ((u31.1 0 47).toInt + 1 ≤ (u42.1 0 47).toInt ∧ (u31.1 0 49).toInt ≠ (u31.1 0 47).toInt) := pb41
                have pw41 : (u31.1 0 12).toInt ≤ (u42.1 0 12).toInt ∧ (u42.1 0 12).toInt - 15 * (u42.1 0 47).toInt ≤ (u31.1 0 12).toInt - 15 * (u31.1 0 47).toInt := pw41
                have po41 : (u31.1 0 15).toInt ≤ (u42.1 0 15).toInt ∧ (u42.1 0 15).toInt - 10 * (u42.1 0 47).toInt ≤ (u31.1 0 15).toInt - 10 * (u31.1 0 47).toInt := po41
                have pf41 : (u31.1 0 43).toInt ≤ (u42.1 0 43).toInt ∧ (u42.1 0 43).toInt - 15 * (u42.1 0 47).toInt ≤ (u31.1 0 43).toInt - 15 * (u31.1 0 47).toInt := pf41
                have pk41 : (u31.1 0 39).toInt ≤ (u42.1 0 39).toInt ∧ (u42.1 0 39).toInt - 1 * (u42.1 0 47).toInt ≤ (u31.1 0 39).toInt - 1 * (u31.1 0 47).toInt := pk41
                have pp41 : (u42.1 0 32).toInt = (u31.1 0 32).toInt ∧ (u42.1 0 48).toInt = (u31.1 0 48).toInt := pp41
                have ph41 : (u31.1 0 33).toInt ≤ (u42.1 0 33).toInt ∧ (u42.1 0 33).toInt ≤ 500 := ph41
                have kc41 : ∀ j : Nat, (j : Int) < (u31.1 0 12).toInt → (u42.1 11) j = (u31.1 11) j := kc41
                have ko41 : ∀ j : Nat, (j : Int) < (u31.1 0 15).toInt → (u42.1 13) j = (u31.1 13) j := ko41
                have kg41 : ∀ j : Nat, (j : Int) < (u31.1 0 15).toInt → (u42.1 14) j = (u31.1 14) j := kg41
                have a3541 : AR 35 0 1500 u42 := a3541
                have a3741 : AR 37 0 23999 u42 := a3741
                have a3841 : AR 38 0 15999 u42 := a3841
                have a4041 : AR 40 0 23999 u42 := a4041
                have fx41 : FX u42 := fx41
                refine W.widen (k := 0) (n := 0) (Nat.le_refl _) (Nat.le_refl _) ?_
                refine vx_ret ?_
                exact W.vret hx hb hr (fun t ht9 hW => ⟨⟨u42, rfl, ⟨(FG.tr (FG.tr (FG.f (FG.rf _) ((v.1 0 47) + (1 : Int32)) (by decide)) (FG.up fr30 (by decide) (by decide))) (FG.up fr41 (by decide) (by decide))), (show (v.1 0 47).toInt + 1 ≤ (u42.1 0 47).toInt ∧ (u42.1 0 47).toInt ≤ 1500 from (om_21619e531b z1 q35 pt41 pw41)), (show (v.1 0 49).toInt ≠ (v.1 0 47).toInt from (om_32294a9ce4 b16)), (show (v.1 0 12).toInt ≤ (u42.1 0 12).toInt ∧ (u42.1 0 12).toInt - 15 * (u42.1 0 47).toInt ≤ (v.1 0 12).toInt - 15 * (v.1 0 47).toInt from (om_f486215844 z1 q35 pw30 pw41)), (show (v.1 0 15).toInt ≤ (u42.1 0 15).toInt ∧ (u42.1 0 15).toInt - 10 * (u42.1 0 47).toInt ≤ (v.1 0 15).toInt - 10 * (v.1 0 47).toInt from (om_8929dd867f z1 q35 po30 po41)), (show (v.1 0 43).toInt ≤ (u42.1 0 43).toInt ∧ (u42.1 0 43).toInt - 15 * (u42.1 0 47).toInt ≤ (v.1 0 43).toInt - 15 * (v.1 0 47).toInt from (om_f486215844 z1 q35 pf30 pf41)), (show (v.1 0 39).toInt ≤ (u42.1 0 39).toInt ∧ (u42.1 0 39).toInt - 1 * (u42.1 0 47).toInt ≤ (v.1 0 39).toInt - 1 * (v.1 0 47).toInt from (om_f3c98af892 z1 q39 q35 pk41)), (show (u42.1 0 32).toInt = (v.1 0 32).toInt ∧ (u42.1 0 48).toInt = (v.1 0 48).toInt from (om_652ed4059d q38 q34 pp41)), (show (v.1 0 33).toInt ≤ (u42.1 0 33).toInt ∧ (u42.1 0 33).toInt ≤ 500 from (om_4b1e795cae q37 ph41)), (fun (j9 : Nat) hj9 => (Eq.trans (kc41 j9 (om_40b81d0cb2 pw30 hj9)) (kc30 j9 (om_4fe904e9bf hj9)))), (fun (j9 : Nat) hj9 => (Eq.trans (ko41 j9 (om_8fd7ee0f12 po30 hj9)) (ko30 j9 (om_4fe904e9bf hj9)))), (fun (j9 : Nat) hj9 => (Eq.trans (kg41 j9 (om_8fd7ee0f12 po30 hj9)) (kg30 j9 (om_4fe904e9bf hj9)))), a3541, a3741, a3841, a4041, fx41⟩, by rw [ht9]; exact hP, hD⟩, hS.F ht9⟩) hS.2.2 dX13_named_182
              · have z44 : r4.toInt ≠ (0 : Int) := ne_z rfl (show (0 : Int32).toInt = (0 : Int) by decide) h28
                exact False.elim (om_b66186cd65 e2 z15 z44)
            · have z45 : r25.toInt ≠ (-1 : Int) := ne_z rfl (show ((-1) : Int32).toInt = (-1 : Int) by decide) h26
              refine lv_aload_n hx hb dX13_named_119 rfl (lv_at hl 5 rfl) ?_
              refine lv_iload hx hb dX13_named_120 (lv_at hl 2 rfl) ?_
              refine lv_iload hx hb dX13_named_122 (lv_at hl 1 rfl) ?_
              refine lv_iload_n hx hb dX13_named_124 rfl (lv_at hl 3 rfl) ?_
              refine lv_iload hx hb dX13_named_125 (lv_at hl 0 rfl) ?_
              refine cux_v (rx_V (n := 4) (As := [.int r7, .int (-1), .int r4, .int r25]) (rest := []) hx hb hml hown ht hKK hFx hP hD hS hA (c_m_sets l n ihE dC dI cI cB cZ cJ cR tb H.size ad N (wA v 0 47 ((v.1 0 47) + (1 : Int32))) r7 (-1 : Int32) r4 r25 (show 40 ≤ (v.1 0 48).toInt + (n : Int) from (om_a9150ae9b6 zn)) (show 0 ≤ ((v.1 0 47) + (1 : Int32)).toInt ∧ ((v.1 0 47) + (1 : Int32)).toInt ≤ 1500 from (om_cae3a623a5 zfs z1 a16)) (show 0 ≤ (v.1 0 48).toInt ∧ (v.1 0 48).toInt ≤ 40 from (om_7eaf33e007 zop)) (show 0 ≤ (v.1 0 30).toInt ∧ (v.1 0 30).toInt ≤ 500 from (om_fac23582e0 zkn b5 z9)) (show 0 ≤ (v.1 0 33).toInt ∧ (v.1 0 33).toInt ≤ 500 from (om_9861e69da5 zhi)) (show 0 ≤ (v.1 0 32).toInt ∧ (v.1 0 30).toInt + (v.1 0 32).toInt ≤ (v.1 0 33).toInt from (om_f541e4003c zs)) (show 0 ≤ (v.1 0 12).toInt ∧ (v.1 0 12).toInt ≤ 15 * ((v.1 0 47) + (1 : Int32)).toInt + 2 from (om_3894ab1223 zws z1)) (show 0 ≤ (v.1 0 15).toInt ∧ (v.1 0 15).toInt ≤ 10 * ((v.1 0 47) + (1 : Int32)).toInt + 0 from (om_9a74738aa2 zos z1)) (show 0 ≤ (v.1 0 43).toInt ∧ (v.1 0 43).toInt ≤ 15 * ((v.1 0 47) + (1 : Int32)).toInt + 0 from (om_434df26a0f zfs z1)) (show 0 ≤ (v.1 0 39).toInt ∧ (v.1 0 39).toInt ≤ 1 * ((v.1 0 47) + (1 : Int32)).toInt + 0 from (om_3840c96ead zcs z1)) (show 0 ≤ (v.1 0 27).toInt ∧ (v.1 0 27).toInt ≤ 60 from (om_1d2c7ad648 zgl)) (show TI (wA v 0 47 ((v.1 0 47) + (1 : Int32))) from FG.ti (fl := pfl) (al := pal) (FG.f (FG.rf _) ((v.1 0 47) + (1 : Int32)) (by decide)) (by decide) (by decide) hT) (show AR 29 0 1500 (wA v 0 47 ((v.1 0 47) + (1 : Int32))) from (AR.o a29 (by decide))) (show AR 23 0 1500 (wA v 0 47 ((v.1 0 47) + (1 : Int32))) from (AR.o a23 (by decide))) (show AR 35 0 1500 (wA v 0 47 ((v.1 0 47) + (1 : Int32))) from (AR.o a35 (by decide))) (show AR 37 0 23999 (wA v 0 47 ((v.1 0 47) + (1 : Int32))) from (AR.o a37 (by decide))) (show AR 38 0 15999 (wA v 0 47 ((v.1 0 47) + (1 : Int32))) from (AR.o a38 (by decide))) (show AR 40 0 23999 (wA v 0 47 ((v.1 0 47) + (1 : Int32))) from (AR.o a40 (by decide))) (show FX (wA v 0 47 ((v.1 0 47) + (1 : Int32))) from (FX.o fx (by decide) (by decide))) (show 0 ≤ r7.toInt ∨ (0 ≤ (-1 : Int) ∧ (-1 : Int) < 60) from (om_d224ea9f9d z9)) (show r4.toInt = 0 ∨ (0 ≤ (-1 : Int) ∧ (-1 : Int) < 60) from (om_5fbf91f44c e2 z15))) tw_136 tw_137 (by decide +kernel) rfl rfl ⟨show (40 * n + 6) + 1 ≤ 40 * n + 34 from om_a15f5e5edd, show 8 + (8 + 11) + 28 * (40 * n + 6) ≤ 28 * (40 * n + 34) from om_790e9980ac⟩ (List.range (mW ad N cI cZ cJ (wA v 0 47 ((v.1 0 47) + (1 : Int32)))).length) (rg_map _) (mW_nd _ _ _ _ _ _) rfl rfl rfl rfl hl.1 rfl (Nat.le_of_ble_eq_true rfl) dX13_named_127 ⟨Nat.le_of_ble_eq_true rfl, Nat.le_of_ble_eq_true rfl⟩) hP hD hS hA (fun u9 ce9 q9 H locs hx9 hP hD hS hc9 hv9 hf9 => ?_) (fun u47 H locs hw46 hP hD hS => ?_)
              · exact vx_out (fun x h9 => (hnt x h9).elim) hlocks hc9 hv9 hf9 (fun t9 ht9 hv8 => ⟨u9, (FG.tr (FG.f (FG.rf _) ((v.1 0 47) + (1 : Int32)) (by decide)) hx9), ⟨rfl, by rw [ht9]; exact hP, hD⟩, hS.F ht9⟩) hS.2.2 (Nat.le_refl _) (Nat.le_refl _)
              obtain ⟨fr46, pt46, pb46, pw46, po46, pf46, pk46, pp46, ph46, kc46, ko46, kg46, a3546, a3746, a3846, a4046, fx46⟩ := hw46
              have pt46 : ((v.1 0 47) + (1 : Int32)).toInt + 1 ≤ (u47.1 0 47).toInt ∧ (u47.1 0 47).toInt ≤ 1500 := pt46
              have pb46 : (v.1 0 49).toInt ≠ ((v.1 0 47) + (1 : Int32)).toInt := pb46
              have pw46 : (v.1 0 12).toInt ≤ (u47.1 0 12).toInt ∧ (u47.1 0 12).toInt - 15 * (u47.1 0 47).toInt ≤ (v.1 0 12).toInt - 15 * ((v.1 0 47) + (1 : Int32)).toInt := pw46
              have po46 : (v.1 0 15).toInt ≤ (u47.1 0 15).toInt ∧ (u47.1 0 15).toInt - 10 * (u47.1 0 47).toInt ≤ (v.1 0 15).toInt - 10 * ((v.1 0 47) + (1 : Int32)).toInt := po46
              have pf46 : (v.1 0 43).toInt ≤ (u47.1 0 43).toInt ∧ (u47.1 0 43).toInt - 15 * (u47.1 0 47).toInt ≤ (v.1 0 43).toInt - 15 * ((v.1 0 47) + (1 : Int32)).toInt := pf46
              have pk46 : (v.1 0 39).toInt ≤ (u47.1 0 39).toInt ∧ (u47.1 0 39).toInt - 1 * (u47.1 0 47).toInt ≤ (v.1 0 39).toInt - 1 * ((v.1 0 47) + (1 : Int32)).toInt := pk46
              have pp46 : (u47.1 0 32).toInt = (v.1 0 32).toInt ∧ (u47.1 0 48).toInt = (v.1 0 48).toInt := pp46
              have ph46 : (v.1 0 33).toInt ≤ (u47.1 0 33).toInt ∧ (u47.1 0 33).toInt ≤ 500 := ph46
              have kc46 : ∀ j : Nat, (j : Int) < (v.1 0 12).toInt → (u47.1 11) j = (v.1 11) j := kc46
              have ko46 : ∀ j : Nat, (j : Int) < (v.1 0 15).toInt → (u47.1 13) j = (v.1 13) j := ko46
              have kg46 : ∀ j : Nat, (j : Int) < (v.1 0 15).toInt → (u47.1 14) j = (v.1 14) j := kg46
              have a3546 : AR 35 0 1500 u47 := a3546
              have a3746 : AR 37 0 23999 u47 := a3746
              have a3846 : AR 38 0 15999 u47 := a3846
              have a4046 : AR 40 0 23999 u47 := a4046
              have fx46 : FX u47 := fx46
              refine W.widen (k := 0) (n := 0) (Nat.le_refl _) (Nat.le_refl _) ?_
              refine vx_ret ?_
              exact W.vret hx hb hr (fun t ht9 hW => ⟨⟨u47, rfl, ⟨(FG.tr (FG.f (FG.rf _) ((v.1 0 47) + (1 : Int32)) (by decide)) (FG.up fr46 (by decide) (by decide))), (show (v.1 0 47).toInt + 1 ≤ (u47.1 0 47).toInt ∧ (u47.1 0 47).toInt ≤ 1500 from (om_ff8aa832bb z1 pt46)), (show (v.1 0 49).toInt ≠ (v.1 0 47).toInt from (om_32294a9ce4 b16)), (show (v.1 0 12).toInt ≤ (u47.1 0 12).toInt ∧ (u47.1 0 12).toInt - 15 * (u47.1 0 47).toInt ≤ (v.1 0 12).toInt - 15 * (v.1 0 47).toInt from (om_48209a9386 z1 pw46)), (show (v.1 0 15).toInt ≤ (u47.1 0 15).toInt ∧ (u47.1 0 15).toInt - 10 * (u47.1 0 47).toInt ≤ (v.1 0 15).toInt - 10 * (v.1 0 47).toInt from (om_34f665105e z1 po46)), (show (v.1 0 43).toInt ≤ (u47.1 0 43).toInt ∧ (u47.1 0 43).toInt - 15 * (u47.1 0 47).toInt ≤ (v.1 0 43).toInt - 15 * (v.1 0 47).toInt from (om_48209a9386 z1 pf46)), (show (v.1 0 39).toInt ≤ (u47.1 0 39).toInt ∧ (u47.1 0 39).toInt - 1 * (u47.1 0 47).toInt ≤ (v.1 0 39).toInt - 1 * (v.1 0 47).toInt from (om_df731194be z1 pk46)), (show (u47.1 0 32).toInt = (v.1 0 32).toInt ∧ (u47.1 0 48).toInt = (v.1 0 48).toInt from (om_d31db81a70 pp46)), (show (v.1 0 33).toInt ≤ (u47.1 0 33).toInt ∧ (u47.1 0 33).toInt ≤ 500 from (om_6bc0cea141 ph46)), (fun (j9 : Nat) hj9 => (kc46 j9 (om_4fe904e9bf hj9))), (fun (j9 : Nat) hj9 => (ko46 j9 (om_4fe904e9bf hj9))), (fun (j9 : Nat) hj9 => (kg46 j9 (om_4fe904e9bf hj9))), a3546, a3746, a3846, a4046, fx46⟩, by rw [ht9]; exact hP, hD⟩, hS.F ht9⟩) hS.2.2 dX13_named_130
          · have z49 : r4.toInt ≠ (0 : Int) := ne_z rfl (show (0 : Int32).toInt = (0 : Int) by decide) h20
            exact False.elim (om_b66186cd65 e2 z15 z49)
        · have z50 : r4.toInt ≠ (0 : Int) := ne_z rfl (show (0 : Int32).toInt = (0 : Int) by decide) h14
          refine lv_aload_n hx hb dX13_named_75 rfl (lv_at hl 4 rfl) ?_
          refine lv_iconst (v := 3) hx hb dX13_named_76 (by decide) ?_
          refine lv_aload_n hx hb dX13_named_77 rfl (lv_at hl 4 rfl) ?_
          refine va_get (D := (dC, dI)) (ci := 16) (fs := mF ad v) (v := .int (v.1 0 47)) (C := RX13) (T := TX13) (N := 124) hx hb ht itX13 hown hK hP 0 rfl rfl 47 (by decide) (ht _ tw_24) (fun _ h9 => h9) rfl dX13_named_78 ?_
          refine cu_r (rn_V (n := 2) (As := [.int 3, .int (v.1 0 47)]) (rest := []) hx hb hml hown ht hKK hFx hP hD hS hA (c_m_fail l dC dI cI cB cZ cJ cR tb H.size ad N v (3 : Int32) (v.1 0 47) (show 0 ≤ (v.1 0 47).toInt ∧ (v.1 0 47).toInt < 4002 from (om_d0702dcce3 zt zfs))) tw_25 tw_26 (by decide +kernel) rfl rfl ⟨show 0 + 1 ≤ 40 * n + 34 from om_5cf133fb1a, show 8 + (3 + 11) + 0 ≤ 28 * (40 * n + 34) from om_c7f93e786a⟩ (List.range (mW ad N cI cZ cJ v).length) (rg_map _) (mW_nd _ _ _ _ _ _) rfl rfl rfl rfl hl.1 rfl (Nat.le_of_ble_eq_true rfl) dX13_named_81 ⟨Nat.le_of_ble_eq_true rfl, Nat.le_of_ble_eq_true rfl⟩) hP hD hS hA (fun u52 H locs hw51 hP hD hS => ?_)
          obtain rfl := hw51
          have hP : va_P (dC, dI) vwCl (mW ad N cI cZ cJ (wA (wA v 0 50 (3 : Int32)) 0 51 ((v.1 7) (v.1 0 47).toNatClampNeg))) H := hP
          have hD : va_D A (mW ad N cI cZ cJ (wA (wA v 0 50 (3 : Int32)) 0 51 ((v.1 7) (v.1 0 47).toNatClampNeg))) := hD
          refine W.widen (k := 0) (n := 0) (Nat.le_refl _) (Nat.le_refl _) ?_
          obtain ⟨ce9, hc9, hv9, hf9⟩ := halt_at hK hP
          refine um_athrow hx hb dX13_named_84 ?_
          exact vx_out (fun x h9 => (hnt x h9).elim) hlocks hc9 hv9 hf9 (fun t9 ht9 hv8 => ⟨(wA (wA v 0 50 (3 : Int32)) 0 51 ((v.1 7) (v.1 0 47).toNatClampNeg)), (FG.f (FG.f (FG.rf _) (3 : Int32) (by decide)) ((v.1 7) (v.1 0 47).toNatClampNeg) (by decide)), ⟨rfl, by rw [ht9]; exact hP, hD⟩, hS.F ht9⟩) hS.2.2 (Nat.le_refl _) (Nat.le_refl _)
      · have z54 : r7.toInt < (0 : Int) := nle_z (show (0 : Int32).toInt = (0 : Int) by decide) rfl h12
        exact False.elim (om_5829cebf50 z9 z54)
    · have z55 : r7.toInt < (0 : Int) := nle_z (show (0 : Int32).toInt = (0 : Int) by decide) rfl h10
      exact False.elim (om_5829cebf50 z9 z55)
  · have z56 : r7.toInt < (0 : Int) := nle_z (show (0 : Int32).toInt = (0 : Int) by decide) rfl h8
    refine lv_aload_n hx hb dX13_named_30 rfl (lv_at hl 3 rfl) ?_
    refine lv_iload_n hx hb dX13_named_31 rfl (lv_at hl 2 rfl) ?_
    refine cu_i (rn_V (n := 1) (As := [.int (v.1 0 47)]) (rest := []) hx hb hml hown ht hKK hFx hP hD hS hA (c_m_globalOf l dC dI cI cB cZ cJ cR tb H.size ad N v (v.1 0 47) (show 0 ≤ (v.1 0 47).toInt ∧ (v.1 0 47).toInt < 4002 from (om_d0702dcce3 zt zfs)) (show 0 ≤ (v.1 0 27).toInt ∧ (v.1 0 27).toInt ≤ 60 from (om_1d2c7ad648 zgl)) (show TI v from FG.ti (fl := pfl) (al := pal) (FG.rf _) (by decide) (by decide) hT) (show AR 23 0 1500 v from a23)) tw_100 tw_101 (by decide +kernel) rfl rfl ⟨show 1 + 1 ≤ 40 * n + 34 from om_14b467d488, show 8 + (3 + 11) + 25 ≤ 28 * (40 * n + 34) from om_6d481cb588⟩ (List.range (mW ad N cI cZ cJ v).length) (rg_map _) (mW_nd _ _ _ _ _ _) rfl rfl rfl rfl hl.1 rfl (Nat.le_of_ble_eq_true rfl) dX13_named_32 ⟨Nat.le_of_ble_eq_true rfl, Nat.le_of_ble_eq_true rfl⟩) hP hD hS hA (fun r59 u58 H locs hw57 hP hD hS => ?_)
    obtain ⟨rfl, a57, b57⟩ := hw57
    refine W.widen (k := 0) (n := 0) (Nat.le_refl _) (Nat.le_refl _) ?_
    refine lv_goto (tgt := 39) hx hb dX13_named_35 (by decide) ?_
    refine lv_istore (lv' := [(5, .int r59), (4, .int r7), (3, .int r4), (2, .int (v.1 0 47)), (0, .ref (ad 0)), (1, .int 1)]) hx hb dX13_named_39 hl (by decide) rfl (fun ls hl => ?_)
    refine lv_iload hx hb dX13_named_41 (lv_at hl 1 rfl) ?_
    refine lv_if_ge (tgt := 51) hx hb dX13_named_43 (by decide) (fun h60 => ?_) (fun h60 => ?_)
    · have z61 : (0 : Int) ≤ r7.toInt := le_z (show (0 : Int32).toInt = (0 : Int) by decide) rfl h60
      exact False.elim (om_228557f1cf z56 z61)
    · have z62 : r7.toInt < (0 : Int) := nle_z (show (0 : Int32).toInt = (0 : Int) by decide) rfl h60
      refine lv_iload hx hb dX13_named_46 (lv_at hl 0 rfl) ?_
      refine lv_if_lt (tgt := 75) hx hb dX13_named_48 (by decide) (fun h63 => ?_) (fun h63 => ?_)
      · have z64 : r59.toInt < (0 : Int) := lt_z rfl (show (0 : Int32).toInt = (0 : Int) by decide) h63
        refine lv_aload_n hx hb dX13_named_75 rfl (lv_at hl 4 rfl) ?_
        refine lv_iconst (v := 3) hx hb dX13_named_76 (by decide) ?_
        refine lv_aload_n hx hb dX13_named_77 rfl (lv_at hl 4 rfl) ?_
        refine va_get (D := (dC, dI)) (ci := 16) (fs := mF ad v) (v := .int (v.1 0 47)) (C := RX13) (T := TX13) (N := 124) hx hb ht itX13 hown hK hP 0 rfl rfl 47 (by decide) (ht _ tw_24) (fun _ h9 => h9) rfl dX13_named_78 ?_
        refine cu_r (rn_V (n := 2) (As := [.int 3, .int (v.1 0 47)]) (rest := []) hx hb hml hown ht hKK hFx hP hD hS hA (c_m_fail l dC dI cI cB cZ cJ cR tb H.size ad N v (3 : Int32) (v.1 0 47) (show 0 ≤ (v.1 0 47).toInt ∧ (v.1 0 47).toInt < 4002 from (om_d0702dcce3 zt zfs))) tw_25 tw_26 (by decide +kernel) rfl rfl ⟨show 0 + 1 ≤ 40 * n + 34 from om_5cf133fb1a, show 8 + (3 + 11) + 0 ≤ 28 * (40 * n + 34) from om_c7f93e786a⟩ (List.range (mW ad N cI cZ cJ v).length) (rg_map _) (mW_nd _ _ _ _ _ _) rfl rfl rfl rfl hl.1 rfl (Nat.le_of_ble_eq_true rfl) dX13_named_81 ⟨Nat.le_of_ble_eq_true rfl, Nat.le_of_ble_eq_true rfl⟩) hP hD hS hA (fun u66 H locs hw65 hP hD hS => ?_)
        obtain rfl := hw65
        have hP : va_P (dC, dI) vwCl (mW ad N cI cZ cJ (wA (wA v 0 50 (3 : Int32)) 0 51 ((v.1 7) (v.1 0 47).toNatClampNeg))) H := hP
        have hD : va_D A (mW ad N cI cZ cJ (wA (wA v 0 50 (3 : Int32)) 0 51 ((v.1 7) (v.1 0 47).toNatClampNeg))) := hD
        refine W.widen (k := 0) (n := 0) (Nat.le_refl _) (Nat.le_refl _) ?_
        obtain ⟨ce9, hc9, hv9, hf9⟩ := halt_at hK hP
        refine um_athrow hx hb dX13_named_84 ?_
        exact vx_out (fun x h9 => (hnt x h9).elim) hlocks hc9 hv9 hf9 (fun t9 ht9 hv8 => ⟨(wA (wA v 0 50 (3 : Int32)) 0 51 ((v.1 7) (v.1 0 47).toNatClampNeg)), (FG.f (FG.f (FG.rf _) (3 : Int32) (by decide)) ((v.1 7) (v.1 0 47).toNatClampNeg) (by decide)), ⟨rfl, by rw [ht9]; exact hP, hD⟩, hS.F ht9⟩) hS.2.2 (Nat.le_refl _) (Nat.le_refl _)
      · have z68 : (0 : Int) ≤ r59.toInt := nlt_z rfl (show (0 : Int32).toInt = (0 : Int) by decide) h63
        refine lv_iload_n hx hb dX13_named_51 rfl (lv_at hl 2 rfl) ?_
        refine lv_iload hx hb dX13_named_52 (lv_at hl 1 rfl) ?_
        refine lv_if_ge (tgt := 71) hx hb dX13_named_54 (by decide) (fun h69 => ?_) (fun h69 => ?_)
        · have z70 : (0 : Int) ≤ r7.toInt := le_z (show (0 : Int32).toInt = (0 : Int) by decide) rfl h69
          exact False.elim (om_228557f1cf z56 z70)
        · have z71 : r7.toInt < (0 : Int) := nle_z (show (0 : Int32).toInt = (0 : Int) by decide) rfl h69
          refine lv_aload_n hx hb dX13_named_57 rfl (lv_at hl 4 rfl) ?_
          refine va_get (D := (dC, dI)) (ci := 16) (fs := mF ad v) (v := .ref (ad 26)) (C := RX13) (T := TX13) (N := 124) hx hb ht itX13 hown hK hP 0 rfl rfl 26 (by decide) (ht _ tw_102) (fun _ h9 => h9) rfl dX13_named_58 ?_
          refine lv_iload hx hb dX13_named_61 (lv_at hl 0 rfl) ?_
          refine va_zald (D := (dC, dI)) (f := (v.1 26)) hx hb hK hP 20 2 rfl rfl (in_y (a := r59.toInt) (b := 60) rfl (om_51058f7f87 z68) (om_f30fc6227d zgl b57) rfl) dX13_named_63 ?_
          refine lv_if_eq (tgt := 71) hx hb dX13_named_64 (by decide) (fun h72 => ?_) (fun h72 => ?_)
          · have z73 : ((v.1 26) r59.toNatClampNeg).toInt = (0 : Int) := eq_z rfl (show (0 : Int32).toInt = (0 : Int) by decide) h72
            refine lv_iconst (v := 0) hx hb dX13_named_71 (by decide) ?_
            refine lv_icmp_eq (tgt := 85) hx hb dX13_named_72 (by decide) (fun h74 => ?_) (fun h74 => ?_)
            · have z75 : r4.toInt = (0 : Int) := eq_z rfl (show (0 : Int32).toInt = (0 : Int) by decide) h74
              refine lv_aload_n hx hb dX13_named_85 rfl (lv_at hl 4 rfl) ?_
              refine cux_v (rx_V (n := 0) (As := []) (rest := []) hx hb hml hown ht hKK hFx hP hD hS hA (c_m_take l dC dI cI cB cZ cJ cR tb H.size ad N v  (show 0 ≤ (v.1 0 47).toInt ∧ (v.1 0 47).toInt ≤ 1500 from (om_2fb699b811 zt zfs))) tw_32 tw_33 (by decide +kernel) rfl rfl ⟨show 1 + 1 ≤ 40 * n + 34 from om_14b467d488, show 8 + (1 + 11) + 22 ≤ 28 * (40 * n + 34) from om_badc1e0683⟩ (List.range (mW ad N cI cZ cJ v).length) (rg_map _) (mW_nd _ _ _ _ _ _) rfl rfl rfl rfl hl.1 rfl (Nat.le_of_ble_eq_true rfl) dX13_named_86 ⟨Nat.le_of_ble_eq_true rfl, Nat.le_of_ble_eq_true rfl⟩) hP hD hS hA (fun u9 ce9 q9 H locs hx9 hP hD hS hc9 hv9 hf9 => ?_) (fun u77 H locs hw76 hP hD hS => ?_)
              · exact vx_out (fun x h9 => (hnt x h9).elim) hlocks hc9 hv9 hf9 (fun t9 ht9 hv8 => ⟨u9, (FG.tr (FG.rf _) hx9), ⟨rfl, by rw [ht9]; exact hP, hD⟩, hS.F ht9⟩) hS.2.2 (Nat.le_refl _) (Nat.le_refl _)
              obtain ⟨rfl, a76, b76⟩ := hw76
              have z79 : ((v.1 0 47) + (1 : Int32)).toInt = ((v.1 0 47).toInt) + (1 : Int) := add_z rfl (show (1 : Int32).toInt = (1 : Int) by decide) (om_3eca9b17a5 zws) (om_27eb55d06c zt)
              have hP : va_P (dC, dI) vwCl (mW ad N cI cZ cJ (wA v 0 47 ((v.1 0 47) + (1 : Int32)))) H := hP
              have hD : va_D A (mW ad N cI cZ cJ (wA v 0 47 ((v.1 0 47) + (1 : Int32)))) := hD
              refine W.widen (k := 0) (n := 0) (Nat.le_refl _) (Nat.le_refl _) ?_
              refine lv_iload_n hx hb dX13_named_89 rfl (lv_at hl 2 rfl) ?_
              refine lv_if_eq (tgt := 99) hx hb dX13_named_90 (by decide) (fun h80 => ?_) (fun h80 => ?_)
              · have z81 : r4.toInt = (0 : Int) := eq_z rfl (show (0 : Int32).toInt = (0 : Int) by decide) h80
                refine lv_iload_n hx hb dX13_named_99 rfl (lv_at hl 5 rfl) ?_
                refine lv_if_eq (tgt := 110) hx hb dX13_named_100 (by decide) (fun k82 => absurd k82 (by decide)) (fun _ => ?_)
                refine lv_aload_n hx hb dX13_named_103 rfl (lv_at hl 4 rfl) ?_
                refine cu_i (rn_V (n := 0) (As := []) (rest := []) hx hb hml hown ht hKK hFx hP hD hS hA (c_m_setting l dC dI cI cB cZ cJ cR tb H.size ad N (wA v 0 47 ((v.1 0 47) + (1 : Int32)))  (show 0 ≤ ((v.1 0 47) + (1 : Int32)).toInt ∧ ((v.1 0 47) + (1 : Int32)).toInt ≤ 1500 from (om_cae3a623a5 zfs z1 a76))) tw_134 tw_135 (by decide +kernel) rfl rfl ⟨show 0 + 1 ≤ 40 * n + 34 from om_5cf133fb1a, show 8 + (5 + 11) + 0 ≤ 28 * (40 * n + 34) from om_4cd92eee88⟩ (List.range (mW ad N cI cZ cJ (wA v 0 47 ((v.1 0 47) + (1 : Int32)))).length) (rg_map _) (mW_nd _ _ _ _ _ _) rfl rfl rfl rfl hl.1 rfl (Nat.le_of_ble_eq_true rfl) dX13_named_104 ⟨Nat.le_of_ble_eq_true rfl, Nat.le_of_ble_eq_true rfl⟩) hP hD hS hA (fun r85 u84 H locs hw83 hP hD hS => ?_)
                obtain rfl := hw83
                refine W.widen (k := 0) (n := 0) (Nat.le_refl _) (Nat.le_refl _) ?_
                refine lv_goto (tgt := 111) hx hb dX13_named_107 (by decide) ?_
                refine lv_istore (lv' := [(6, .int r85), (5, .int r59), (4, .int r7), (3, .int r4), (2, .int (v.1 0 47)), (0, .ref (ad 0)), (1, .int 1)]) hx hb dX13_named_111 hl (by decide) rfl (fun ls hl => ?_)
                refine lv_iload hx hb dX13_named_113 (lv_at hl 0 rfl) ?_
                refine lv_iconst (v := -1) hx hb dX13_named_115 (by decide) ?_
                refine lv_icmp_eq (tgt := 131) hx hb dX13_named_116 (by decide) (fun h86 => ?_) (fun h86 => ?_)
                · have z87 : r85.toInt = (-1 : Int) := eq_z rfl (show ((-1) : Int32).toInt = (-1 : Int) by decide) h86
                  refine lv_iload_n hx hb dX13_named_131 rfl (lv_at hl 3 rfl) ?_
                  refine lv_if_eq (tgt := 165) hx hb dX13_named_132 (by decide) (fun h88 => ?_) (fun h88 => ?_)
                  · have z89 : r4.toInt = (0 : Int) := eq_z rfl (show (0 : Int32).toInt = (0 : Int) by decide) h88
                    refine lv_aload_n hx hb dX13_named_165 rfl (lv_at hl 5 rfl) ?_
                    refine lv_iload hx hb dX13_named_166 (lv_at hl 2 rfl) ?_
                    refine lv_iload hx hb dX13_named_168 (lv_at hl 1 rfl) ?_
                    refine cu_v (rn_V (n := 2) (As := [.int r7, .int r59]) (rest := []) hx hb hml hown ht hKK hFx hP hD hS hA (c_m_fetch l dC dI cI cB cZ cJ cR tb H.size ad N (wA v 0 47 ((v.1 0 47) + (1 : Int32))) r7 r59 (show 0 ≤ (v.1 0 12).toInt ∧ (v.1 0 12).toInt ≤ 23980 from (om_2fbbc6575c zws a76)) (show 0 ≤ (v.1 0 15).toInt ∧ (v.1 0 15).toInt ≤ 15980 from (om_1b8bc4dd59 zos a76)) (show 0 ≤ (v.1 0 43).toInt ∧ (v.1 0 43).toInt ≤ 23980 from (om_a8374448b3 zfs a76)) (show 0 ≤ r7.toInt ∨ (0 ≤ r59.toInt ∧ r59.toInt < 60) from (om_4dab3b75cd zgl b57 z68)) (show AR 40 0 23999 (wA v 0 47 ((v.1 0 47) + (1 : Int32))) from (AR.o a40 (by decide))) (show FX (wA v 0 47 ((v.1 0 47) + (1 : Int32))) from (FX.o fx (by decide) (by decide)))) tw_92 tw_93 (by decide +kernel) rfl rfl ⟨show 2 + 1 ≤ 40 * n + 34 from om_bb50b3edd6, show 8 + (3 + 11) + 46 ≤ 28 * (40 * n + 34) from om_46959abb0f⟩ (List.range (mW ad N cI cZ cJ (wA v 0 47 ((v.1 0 47) + (1 : Int32)))).length) (rg_map _) (mW_nd _ _ _ _ _ _) rfl rfl rfl rfl hl.1 rfl (Nat.le_of_ble_eq_true rfl) dX13_named_170 ⟨Nat.le_of_ble_eq_true rfl, Nat.le_of_ble_eq_true rfl⟩) hP hD hS hA (fun u91 H locs hw90 hP hD hS => ?_)
                    obtain ⟨fr90, pw90, po90, pf90, kc90, ko90, kg90, a4090, fx90⟩ := hw90
                    have pw90 : (v.1 0 12).toInt ≤ (u91.1 0 12).toInt ∧ (u91.1 0 12).toInt ≤ (v.1 0 12).toInt + 2 := pw90
                    have po90 : (u91.1 0 15).toInt = (v.1 0 15).toInt + 1 := po90
                    have pf90 : (v.1 0 43).toInt ≤ (u91.1 0 43).toInt ∧ (u91.1 0 43).toInt ≤ (v.1 0 43).toInt + 2 := pf90
                    have kc90 : ∀ j : Nat, (j : Int) < (v.1 0 12).toInt → (u91.1 11) j = (v.1 11) j := kc90
                    have ko90 : ∀ j : Nat, (j : Int) < (v.1 0 15).toInt → (u91.1 13) j = (v.1 13) j := ko90
                    have kg90 : ∀ j : Nat, (j : Int) < (v.1 0 15).toInt → (u91.1 14) j = (v.1 14) j := kg90
                    have a4090 : AR 40 0 23999 u91 := a4090
                    have fx90 : FX u91 := fx90
                    refine W.widen (k := 0) (n := 0) (Nat.le_refl _) (Nat.le_refl _) ?_
                    refine lv_iload_n hx hb dX13_named_173 rfl (lv_at hl 6 rfl) ?_
                    refine lv_if_eq (tgt := 182) hx hb dX13_named_174 (by decide) (fun k93 => absurd k93 (by decide)) (fun _ => ?_)
                    refine lv_aload_n hx hb dX13_named_177 rfl (lv_at hl 5 rfl) ?_
                    refine lv_iconst (v := 1) hx hb dX13_named_178 (by decide) ?_
                    have q94 : (u91.1 0 48).toInt = (v.1 0 48).toInt := congrArg Int32.toInt ((fr90.2.1 48 (by decide)).trans (show (wA v 0 47 ((v.1 0 47) + (1 : Int32))).1 0 48 = (v.1 0 48) by rfl))
                    have q95 : (u91.1 0 47).toInt = ((v.1 0 47) + (1 : Int32)).toInt := congrArg Int32.toInt ((fr90.2.1 47 (by decide)).trans (show (wA v 0 47 ((v.1 0 47) + (1 : Int32))).1 0 47 = ((v.1 0 47) + (1 : Int32)) by rfl))
                    have q96 : (u91.1 0 30).toInt = (v.1 0 30).toInt := congrArg Int32.toInt ((fr90.2.1 30 (by decide)).trans (show (wA v 0 47 ((v.1 0 47) + (1 : Int32))).1 0 30 = (v.1 0 30) by rfl))
                    have q97 : (u91.1 0 33).toInt = (v.1 0 33).toInt := congrArg Int32.toInt ((fr90.2.1 33 (by decide)).trans (show (wA v 0 47 ((v.1 0 47) + (1 : Int32))).1 0 33 = (v.1 0 33) by rfl))
                    have q98 : (u91.1 0 32).toInt = (v.1 0 32).toInt := congrArg Int32.toInt ((fr90.2.1 32 (by decide)).trans (show (wA v 0 47 ((v.1 0 47) + (1 : Int32))).1 0 32 = (v.1 0 32) by rfl))
                    have q99 : (u91.1 0 39).toInt = (v.1 0 39).toInt := congrArg Int32.toInt ((fr90.2.1 39 (by decide)).trans (show (wA v 0 47 ((v.1 0 47) + (1 : Int32))).1 0 39 = (v.1 0 39) by rfl))
                    have q100 : (u91.1 0 27).toInt = (v.1 0 27).toInt := congrArg Int32.toInt ((fr90.2.1 27 (by decide)).trans (show (wA v 0 47 ((v.1 0 47) + (1 : Int32))).1 0 27 = (v.1 0 27) by rfl))
                    refine cux_v (rx_V (n := 1) (As := [.int 1]) (rest := []) hx hb hml hown ht hKK hFx hP hD hS hA (C dC dI cI cB cZ cJ cR tb H.size ad N u91 (1 : Int32) (show 40 ≤ (u91.1 0 48).toInt + (n : Int) from (om_2d3a9cf1da zn q94)) (show 0 ≤ (u91.1 0 47).toInt ∧ (u91.1 0 47).toInt ≤ 1500 from (om_6a079402de zfs z1 a76 q95)) (show 0 ≤ (u91.1 0 48).toInt ∧ (u91.1 0 48).toInt ≤ 40 from (om_99e115f631 zop q94)) (show 0 ≤ (u91.1 0 30).toInt ∧ (u91.1 0 30).toInt ≤ 500 from (om_f8376ff89c zkn q96)) (show 0 ≤ (u91.1 0 33).toInt ∧ (u91.1 0 33).toInt ≤ 500 from (om_f8376ff89c zhi q97)) (show 0 ≤ (u91.1 0 32).toInt ∧ (u91.1 0 30).toInt + (u91.1 0 32).toInt ≤ (u91.1 0 33).toInt from (om_2af3a22bf6 zs q96 q98 q97)) (show 0 ≤ (u91.1 0 12).toInt ∧ (u91.1 0 12).toInt ≤ 15 * (u91.1 0 47).toInt + 2 from (om_4a9357e2e4 zws z1 q95 pw90)) (show 0 ≤ (u91.1 0 15).toInt ∧ (u91.1 0 15).toInt ≤ 10 * (u91.1 0 47).toInt + 0 from (om_fbf8387a17 zos z1 q95 po90)) (show 0 ≤ (u91.1 0 43).toInt ∧ (u91.1 0 43).toInt ≤ 15 * (u91.1 0 47).toInt + 0 from (om_8638aeaf59 zfs z1 q95 pf90)) (show 0 ≤ (u91.1 0 39).toInt ∧ (u91.1 0 39).toInt ≤ 1 * (u91.1 0 47).toInt + 0 from (om_88f9a97f8f zcs z1 q99 q95)) (show 0 ≤ (u91.1 0 27).toInt ∧ (u91.1 0 27).toInt ≤ 60 from (om_537aa373c5 zgl b57 z68 q100)) (show TI u91 from FG.ti (fl := pfl) (al := pal) (FG.tr (FG.f (FG.rf _) ((v.1 0 47) + (1 : Int32)) (by decide)) (FG.up fr90 (by decide) (by decide))) (by decide) (by decide) hT) (show AR 29 0 1500 u91 from (show AR 29 0 1500 u91 from AR.fr (fl := [12, 15, 43]) (al := [0, 11, 13, 14, 40, 41, 42]) fr90 (by decide) (AR.o a29 (by decide)))) (show AR 23 0 1500 u91 from (show AR 23 0 1500 u91 from AR.fr (fl := [12, 15, 43]) (al := [0, 11, 13, 14, 40, 41, 42]) fr90 (by decide) (AR.o a23 (by decide)))) (show AR 35 0 1500 u91 from (show AR 35 0 1500 u91 from AR.fr (fl := [12, 15, 43]) (al := [0, 11, 13, 14, 40, 41, 42]) fr90 (by decide) (AR.o a35 (by decide)))) (show AR 37 0 23999 u91 from (show AR 37 0 23999 u91 from AR.fr (fl := [12, 15, 43]) (al := [0, 11, 13, 14, 40, 41, 42]) fr90 (by decide) (AR.o a37 (by decide)))) (show AR 38 0 15999 u91 from (show AR 38 0 15999 u91 from AR.fr (fl := [12, 15, 43]) (al := [0, 11, 13, 14, 40, 41, 42]) fr90 (by decide) (AR.o a38 (by decide)))) (show AR 40 0 23999 u91 from a4090) (show FX u91 from fx90)) tw_132 tw_133 (by decide +kernel) rfl rfl ⟨show (40 * n + 32) + 1 ≤ 40 * n + 34 from om_ab8103c111, show 8 + (6 + 11) + 28 * (40 * n + 32) ≤ 28 * (40 * n + 34) from om_6878702d79⟩ (List.range (mW ad N cI cZ cJ u91).length) (rg_map _) (mW_nd _ _ _ _ _ _) rfl rfl rfl rfl hl.1 rfl (Nat.le_of_ble_eq_true rfl) dX13_named_179 ⟨Nat.le_of_ble_eq_true rfl, Nat.le_of_ble_eq_true rfl⟩) hP hD hS hA (fun u9 ce9 q9 H locs hx9 hP hD hS hc9 hv9 hf9 => ?_) (fun u102 H locs hw101 hP hD hS => ?_)
                    · exact vx_out (fun x h9 => (hnt x h9).elim) hlocks hc9 hv9 hf9 (fun t9 ht9 hv8 => ⟨u9, (FG.tr (FG.tr (FG.f (FG.rf _) ((v.1 0 47) + (1 : Int32)) (by decide)) (FG.up fr90 (by decide) (by decide))) hx9), ⟨rfl, by rw [ht9]; exact hP, hD⟩, hS.F ht9⟩) hS.2.2 (Nat.le_refl _) (Nat.le_refl _)
                    obtain ⟨fr101, pt101, pb101, pw101, po101, pf101, pk101, pp101, ph101, kc101, ko101, kg101, a35101, a37101, a38101, a40101, fx101⟩ := hw101
                    have pt101 : (u91.1 0 47).toInt + 0 ≤ (u102.1 0 47).toInt ∧ (u102.1 0 47).toInt ≤ 1500 := pt101
                    have pb101 : (1 : Int) ≠ 0 ∨ ((u91.1 0 47).toInt + 1 ≤ (u102.1 0 47).toInt ∧ (u91.1 0 49).toInt ≠ (u91.1 0 47).toInt) := pb101
                    have pw101 : (u91.1 0 12).toInt ≤ (u102.1 0 12).toInt ∧ (u102.1 0 12).toInt - 15 * (u102.1 0 47).toInt ≤ (u91.1 0 12).toInt - 15 * (u91.1 0 47).toInt := pw101
                    have po101 : (u91.1 0 15).toInt ≤ (u102.1 0 15).toInt ∧ (u102.1 0 15).toInt - 10 * (u102.1 0 47).toInt ≤ (u91.1 0 15).toInt - 10 * (u91.1 0 47).toInt := po101
                    have pf101 : (u91.1 0 43).toInt ≤ (u102.1 0 43).toInt ∧ (u102.1 0 43).toInt - 15 * (u102.1 0 47).toInt ≤ (u91.1 0 43).toInt - 15 * (u91.1 0 47).toInt := pf101
                    have pk101 : (u91.1 0 39).toInt ≤ (u102.1 0 39).toInt ∧ (u102.1 0 39).toInt - 1 * (u102.1 0 47).toInt ≤ (u91.1 0 39).toInt - 1 * (u91.1 0 47).toInt := pk101
                    have pp101 : (u102.1 0 32).toInt = (u91.1 0 32).toInt ∧ (u102.1 0 48).toInt = (u91.1 0 48).toInt := pp101
                    have ph101 : (u91.1 0 33).toInt ≤ (u102.1 0 33).toInt ∧ (u102.1 0 33).toInt ≤ 500 := ph101
                    have kc101 : ∀ j : Nat, (j : Int) < (u91.1 0 12).toInt → (u102.1 11) j = (u91.1 11) j := kc101
                    have ko101 : ∀ j : Nat, (j : Int) < (u91.1 0 15).toInt → (u102.1 13) j = (u91.1 13) j := ko101
                    have kg101 : ∀ j : Nat, (j : Int) < (u91.1 0 15).toInt → (u102.1 14) j = (u91.1 14) j := kg101
                    have a35101 : AR 35 0 1500 u102 := a35101
                    have a37101 : AR 37 0 23999 u102 := a37101
                    have a38101 : AR 38 0 15999 u102 := a38101
                    have a40101 : AR 40 0 23999 u102 := a40101
                    have fx101 : FX u102 := fx101
                    refine W.widen (k := 0) (n := 0) (Nat.le_refl _) (Nat.le_refl _) ?_
                    refine vx_ret ?_
                    exact W.vret hx hb hr (fun t ht9 hW => ⟨⟨u102, rfl, ⟨(FG.tr (FG.tr (FG.f (FG.rf _) ((v.1 0 47) + (1 : Int32)) (by decide)) (FG.up fr90 (by decide) (by decide))) (FG.up fr101 (by decide) (by decide))), (show (v.1 0 47).toInt + 1 ≤ (u102.1 0 47).toInt ∧ (u102.1 0 47).toInt ≤ 1500 from (om_21619e531b z1 q95 pt101 pw101)), (show (v.1 0 49).toInt ≠ (v.1 0 47).toInt from (om_32294a9ce4 b76)), (show (v.1 0 12).toInt ≤ (u102.1 0 12).toInt ∧ (u102.1 0 12).toInt - 15 * (u102.1 0 47).toInt ≤ (v.1 0 12).toInt - 15 * (v.1 0 47).toInt from (om_f486215844 z1 q95 pw90 pw101)), (show (v.1 0 15).toInt ≤ (u102.1 0 15).toInt ∧ (u102.1 0 15).toInt - 10 * (u102.1 0 47).toInt ≤ (v.1 0 15).toInt - 10 * (v.1 0 47).toInt from (om_8929dd867f z1 q95 po90 po101)), (show (v.1 0 43).toInt ≤ (u102.1 0 43).toInt ∧ (u102.1 0 43).toInt - 15 * (u102.1 0 47).toInt ≤ (v.1 0 43).toInt - 15 * (v.1 0 47).toInt from (om_f486215844 z1 q95 pf90 pf101)), (show (v.1 0 39).toInt ≤ (u102.1 0 39).toInt ∧ (u102.1 0 39).toInt - 1 * (u102.1 0 47).toInt ≤ (v.1 0 39).toInt - 1 * (v.1 0 47).toInt from (om_f3c98af892 z1 q99 q95 pk101)), (show (u102.1 0 32).toInt = (v.1 0 32).toInt ∧ (u102.1 0 48).toInt = (v.1 0 48).toInt from (om_652ed4059d q98 q94 pp101)), (show (v.1 0 33).toInt ≤ (u102.1 0 33).toInt ∧ (u102.1 0 33).toInt ≤ 500 from (om_4b1e795cae q97 ph101)), (fun (j9 : Nat) hj9 => (Eq.trans (kc101 j9 (om_40b81d0cb2 pw90 hj9)) (kc90 j9 (om_4fe904e9bf hj9)))), (fun (j9 : Nat) hj9 => (Eq.trans (ko101 j9 (om_8fd7ee0f12 po90 hj9)) (ko90 j9 (om_4fe904e9bf hj9)))), (fun (j9 : Nat) hj9 => (Eq.trans (kg101 j9 (om_8fd7ee0f12 po90 hj9)) (kg90 j9 (om_4fe904e9bf hj9)))), a35101, a37101, a38101, a40101, fx101⟩, by rw [ht9]; exact hP, hD⟩, hS.F ht9⟩) hS.2.2 dX13_named_182
                  · have z104 : r4.toInt ≠ (0 : Int) := ne_z rfl (show (0 : Int32).toInt = (0 : Int) by decide) h88
                    exact False.elim (om_b66186cd65 e2 z75 z104)
                · have z105 : r85.toInt ≠ (-1 : Int) := ne_z rfl (show ((-1) : Int32).toInt = (-1 : Int) by decide) h86
                  refine lv_aload_n hx hb dX13_named_119 rfl (lv_at hl 5 rfl) ?_
                  refine lv_iload hx hb dX13_named_120 (lv_at hl 2 rfl) ?_
                  refine lv_iload hx hb dX13_named_122 (lv_at hl 1 rfl) ?_
                  refine lv_iload_n hx hb dX13_named_124 rfl (lv_at hl 3 rfl) ?_
                  refine lv_iload hx hb dX13_named_125 (lv_at hl 0 rfl) ?_
                  refine cux_v (rx_V (n := 4) (As := [.int r7, .int r59, .int r4, .int r85]) (rest := []) hx hb hml hown ht hKK hFx hP hD hS hA (c_m_sets l n ihE dC dI cI cB cZ cJ cR tb H.size ad N (wA v 0 47 ((v.1 0 47) + (1 : Int32))) r7 r59 r4 r85 (show 40 ≤ (v.1 0 48).toInt + (n : Int) from (om_a9150ae9b6 zn)) (show 0 ≤ ((v.1 0 47) + (1 : Int32)).toInt ∧ ((v.1 0 47) + (1 : Int32)).toInt ≤ 1500 from (om_cae3a623a5 zfs z1 a76)) (show 0 ≤ (v.1 0 48).toInt ∧ (v.1 0 48).toInt ≤ 40 from (om_7eaf33e007 zop)) (show 0 ≤ (v.1 0 30).toInt ∧ (v.1 0 30).toInt ≤ 500 from (om_9861e69da5 zkn)) (show 0 ≤ (v.1 0 33).toInt ∧ (v.1 0 33).toInt ≤ 500 from (om_9861e69da5 zhi)) (show 0 ≤ (v.1 0 32).toInt ∧ (v.1 0 30).toInt + (v.1 0 32).toInt ≤ (v.1 0 33).toInt from (om_f541e4003c zs)) (show 0 ≤ (v.1 0 12).toInt ∧ (v.1 0 12).toInt ≤ 15 * ((v.1 0 47) + (1 : Int32)).toInt + 2 from (om_3894ab1223 zws z1)) (show 0 ≤ (v.1 0 15).toInt ∧ (v.1 0 15).toInt ≤ 10 * ((v.1 0 47) + (1 : Int32)).toInt + 0 from (om_9a74738aa2 zos z1)) (show 0 ≤ (v.1 0 43).toInt ∧ (v.1 0 43).toInt ≤ 15 * ((v.1 0 47) + (1 : Int32)).toInt + 0 from (om_434df26a0f zfs z1)) (show 0 ≤ (v.1 0 39).toInt ∧ (v.1 0 39).toInt ≤ 1 * ((v.1 0 47) + (1 : Int32)).toInt + 0 from (om_3840c96ead zcs z1)) (show 0 ≤ (v.1 0 27).toInt ∧ (v.1 0 27).toInt ≤ 60 from (om_86b09c9bac zgl b57 z68)) (show TI (wA v 0 47 ((v.1 0 47) + (1 : Int32))) from FG.ti (fl := pfl) (al := pal) (FG.f (FG.rf _) ((v.1 0 47) + (1 : Int32)) (by decide)) (by decide) (by decide) hT) (show AR 29 0 1500 (wA v 0 47 ((v.1 0 47) + (1 : Int32))) from (AR.o a29 (by decide))) (show AR 23 0 1500 (wA v 0 47 ((v.1 0 47) + (1 : Int32))) from (AR.o a23 (by decide))) (show AR 35 0 1500 (wA v 0 47 ((v.1 0 47) + (1 : Int32))) from (AR.o a35 (by decide))) (show AR 37 0 23999 (wA v 0 47 ((v.1 0 47) + (1 : Int32))) from (AR.o a37 (by decide))) (show AR 38 0 15999 (wA v 0 47 ((v.1 0 47) + (1 : Int32))) from (AR.o a38 (by decide))) (show AR 40 0 23999 (wA v 0 47 ((v.1 0 47) + (1 : Int32))) from (AR.o a40 (by decide))) (show FX (wA v 0 47 ((v.1 0 47) + (1 : Int32))) from (FX.o fx (by decide) (by decide))) (show 0 ≤ r7.toInt ∨ (0 ≤ r59.toInt ∧ r59.toInt < 60) from (om_4dab3b75cd zgl b57 z68)) (show r4.toInt = 0 ∨ (0 ≤ r59.toInt ∧ r59.toInt < 60) from (om_1dc7d09a23 e2 z75))) tw_136 tw_137 (by decide +kernel) rfl rfl ⟨show (40 * n + 6) + 1 ≤ 40 * n + 34 from om_a15f5e5edd, show 8 + (8 + 11) + 28 * (40 * n + 6) ≤ 28 * (40 * n + 34) from om_790e9980ac⟩ (List.range (mW ad N cI cZ cJ (wA v 0 47 ((v.1 0 47) + (1 : Int32)))).length) (rg_map _) (mW_nd _ _ _ _ _ _) rfl rfl rfl rfl hl.1 rfl (Nat.le_of_ble_eq_true rfl) dX13_named_127 ⟨Nat.le_of_ble_eq_true rfl, Nat.le_of_ble_eq_true rfl⟩) hP hD hS hA (fun u9 ce9 q9 H locs hx9 hP hD hS hc9 hv9 hf9 => ?_) (fun u107 H locs hw106 hP hD hS => ?_)
                  · exact vx_out (fun x h9 => (hnt x h9).elim) hlocks hc9 hv9 hf9 (fun t9 ht9 hv8 => ⟨u9, (FG.tr (FG.f (FG.rf _) ((v.1 0 47) + (1 : Int32)) (by decide)) hx9), ⟨rfl, by rw [ht9]; exact hP, hD⟩, hS.F ht9⟩) hS.2.2 (Nat.le_refl _) (Nat.le_refl _)
                  obtain ⟨fr106, pt106, pb106, pw106, po106, pf106, pk106, pp106, ph106, kc106, ko106, kg106, a35106, a37106, a38106, a40106, fx106⟩ := hw106
                  have pt106 : ((v.1 0 47) + (1 : Int32)).toInt + 1 ≤ (u107.1 0 47).toInt ∧ (u107.1 0 47).toInt ≤ 1500 := pt106
                  have pb106 : (v.1 0 49).toInt ≠ ((v.1 0 47) + (1 : Int32)).toInt := pb106
                  have pw106 : (v.1 0 12).toInt ≤ (u107.1 0 12).toInt ∧ (u107.1 0 12).toInt - 15 * (u107.1 0 47).toInt ≤ (v.1 0 12).toInt - 15 * ((v.1 0 47) + (1 : Int32)).toInt := pw106
                  have po106 : (v.1 0 15).toInt ≤ (u107.1 0 15).toInt ∧ (u107.1 0 15).toInt - 10 * (u107.1 0 47).toInt ≤ (v.1 0 15).toInt - 10 * ((v.1 0 47) + (1 : Int32)).toInt := po106
                  have pf106 : (v.1 0 43).toInt ≤ (u107.1 0 43).toInt ∧ (u107.1 0 43).toInt - 15 * (u107.1 0 47).toInt ≤ (v.1 0 43).toInt - 15 * ((v.1 0 47) + (1 : Int32)).toInt := pf106
                  have pk106 : (v.1 0 39).toInt ≤ (u107.1 0 39).toInt ∧ (u107.1 0 39).toInt - 1 * (u107.1 0 47).toInt ≤ (v.1 0 39).toInt - 1 * ((v.1 0 47) + (1 : Int32)).toInt := pk106
                  have pp106 : (u107.1 0 32).toInt = (v.1 0 32).toInt ∧ (u107.1 0 48).toInt = (v.1 0 48).toInt := pp106
                  have ph106 : (v.1 0 33).toInt ≤ (u107.1 0 33).toInt ∧ (u107.1 0 33).toInt ≤ 500 := ph106
                  have kc106 : ∀ j : Nat, (j : Int) < (v.1 0 12).toInt → (u107.1 11) j = (v.1 11) j := kc106
                  have ko106 : ∀ j : Nat, (j : Int) < (v.1 0 15).toInt → (u107.1 13) j = (v.1 13) j := ko106
                  have kg106 : ∀ j : Nat, (j : Int) < (v.1 0 15).toInt → (u107.1 14) j = (v.1 14) j := kg106
                  have a35106 : AR 35 0 1500 u107 := a35106
                  have a37106 : AR 37 0 23999 u107 := a37106
                  have a38106 : AR 38 0 15999 u107 := a38106
                  have a40106 : AR 40 0 23999 u107 := a40106
                  have fx106 : FX u107 := fx106
                  refine W.widen (k := 0) (n := 0) (Nat.le_refl _) (Nat.le_refl _) ?_
                  refine vx_ret ?_
                  exact W.vret hx hb hr (fun t ht9 hW => ⟨⟨u107, rfl, ⟨(FG.tr (FG.f (FG.rf _) ((v.1 0 47) + (1 : Int32)) (by decide)) (FG.up fr106 (by decide) (by decide))), (show (v.1 0 47).toInt + 1 ≤ (u107.1 0 47).toInt ∧ (u107.1 0 47).toInt ≤ 1500 from (om_ff8aa832bb z1 pt106)), (show (v.1 0 49).toInt ≠ (v.1 0 47).toInt from (om_32294a9ce4 b76)), (show (v.1 0 12).toInt ≤ (u107.1 0 12).toInt ∧ (u107.1 0 12).toInt - 15 * (u107.1 0 47).toInt ≤ (v.1 0 12).toInt - 15 * (v.1 0 47).toInt from (om_48209a9386 z1 pw106)), (show (v.1 0 15).toInt ≤ (u107.1 0 15).toInt ∧ (u107.1 0 15).toInt - 10 * (u107.1 0 47).toInt ≤ (v.1 0 15).toInt - 10 * (v.1 0 47).toInt from (om_34f665105e z1 po106)), (show (v.1 0 43).toInt ≤ (u107.1 0 43).toInt ∧ (u107.1 0 43).toInt - 15 * (u107.1 0 47).toInt ≤ (v.1 0 43).toInt - 15 * (v.1 0 47).toInt from (om_48209a9386 z1 pf106)), (show (v.1 0 39).toInt ≤ (u107.1 0 39).toInt ∧ (u107.1 0 39).toInt - 1 * (u107.1 0 47).toInt ≤ (v.1 0 39).toInt - 1 * (v.1 0 47).toInt from (om_df731194be z1 pk106)), (show (u107.1 0 32).toInt = (v.1 0 32).toInt ∧ (u107.1 0 48).toInt = (v.1 0 48).toInt from (om_d31db81a70 pp106)), (show (v.1 0 33).toInt ≤ (u107.1 0 33).toInt ∧ (u107.1 0 33).toInt ≤ 500 from (om_6bc0cea141 ph106)), (fun (j9 : Nat) hj9 => (kc106 j9 (om_4fe904e9bf hj9))), (fun (j9 : Nat) hj9 => (ko106 j9 (om_4fe904e9bf hj9))), (fun (j9 : Nat) hj9 => (kg106 j9 (om_4fe904e9bf hj9))), a35106, a37106, a38106, a40106, fx106⟩, by rw [ht9]; exact hP, hD⟩, hS.F ht9⟩) hS.2.2 dX13_named_130
              · have z109 : r4.toInt ≠ (0 : Int) := ne_z rfl (show (0 : Int32).toInt = (0 : Int) by decide) h80
                exact False.elim (om_b66186cd65 e2 z75 z109)
            · have z110 : r4.toInt ≠ (0 : Int) := ne_z rfl (show (0 : Int32).toInt = (0 : Int) by decide) h74
              refine lv_aload_n hx hb dX13_named_75 rfl (lv_at hl 4 rfl) ?_
              refine lv_iconst (v := 3) hx hb dX13_named_76 (by decide) ?_
              refine lv_aload_n hx hb dX13_named_77 rfl (lv_at hl 4 rfl) ?_
              refine va_get (D := (dC, dI)) (ci := 16) (fs := mF ad v) (v := .int (v.1 0 47)) (C := RX13) (T := TX13) (N := 124) hx hb ht itX13 hown hK hP 0 rfl rfl 47 (by decide) (ht _ tw_24) (fun _ h9 => h9) rfl dX13_named_78 ?_
              refine cu_r (rn_V (n := 2) (As := [.int 3, .int (v.1 0 47)]) (rest := []) hx hb hml hown ht hKK hFx hP hD hS hA (c_m_fail l dC dI cI cB cZ cJ cR tb H.size ad N v (3 : Int32) (v.1 0 47) (show 0 ≤ (v.1 0 47).toInt ∧ (v.1 0 47).toInt < 4002 from (om_d0702dcce3 zt zfs))) tw_25 tw_26 (by decide +kernel) rfl rfl ⟨show 0 + 1 ≤ 40 * n + 34 from om_5cf133fb1a, show 8 + (3 + 11) + 0 ≤ 28 * (40 * n + 34) from om_c7f93e786a⟩ (List.range (mW ad N cI cZ cJ v).length) (rg_map _) (mW_nd _ _ _ _ _ _) rfl rfl rfl rfl hl.1 rfl (Nat.le_of_ble_eq_true rfl) dX13_named_81 ⟨Nat.le_of_ble_eq_true rfl, Nat.le_of_ble_eq_true rfl⟩) hP hD hS hA (fun u112 H locs hw111 hP hD hS => ?_)
              obtain rfl := hw111
              have hP : va_P (dC, dI) vwCl (mW ad N cI cZ cJ (wA (wA v 0 50 (3 : Int32)) 0 51 ((v.1 7) (v.1 0 47).toNatClampNeg))) H := hP
              have hD : va_D A (mW ad N cI cZ cJ (wA (wA v 0 50 (3 : Int32)) 0 51 ((v.1 7) (v.1 0 47).toNatClampNeg))) := hD
              refine W.widen (k := 0) (n := 0) (Nat.le_refl _) (Nat.le_refl _) ?_
              obtain ⟨ce9, hc9, hv9, hf9⟩ := halt_at hK hP
              refine um_athrow hx hb dX13_named_84 ?_
              exact vx_out (fun x h9 => (hnt x h9).elim) hlocks hc9 hv9 hf9 (fun t9 ht9 hv8 => ⟨(wA (wA v 0 50 (3 : Int32)) 0 51 ((v.1 7) (v.1 0 47).toNatClampNeg)), (FG.f (FG.f (FG.rf _) (3 : Int32) (by decide)) ((v.1 7) (v.1 0 47).toNatClampNeg) (by decide)), ⟨rfl, by rw [ht9]; exact hP, hD⟩, hS.F ht9⟩) hS.2.2 (Nat.le_refl _) (Nat.le_refl _)
          · have z114 : ((v.1 26) r59.toNatClampNeg).toInt ≠ (0 : Int) := ne_z rfl (show (0 : Int32).toInt = (0 : Int) by decide) h72
            refine lv_iconst (v := 1) hx hb dX13_named_67 (by decide) ?_
            refine lv_goto (tgt := 72) hx hb dX13_named_68 (by decide) ?_
            refine lv_icmp_eq (tgt := 85) hx hb dX13_named_72 (by decide) (fun h115 => ?_) (fun h115 => ?_)
            · have z116 : r4.toInt = (1 : Int) := eq_z rfl (show (1 : Int32).toInt = (1 : Int) by decide) h115
              refine lv_aload_n hx hb dX13_named_85 rfl (lv_at hl 4 rfl) ?_
              refine cux_v (rx_V (n := 0) (As := []) (rest := []) hx hb hml hown ht hKK hFx hP hD hS hA (c_m_take l dC dI cI cB cZ cJ cR tb H.size ad N v  (show 0 ≤ (v.1 0 47).toInt ∧ (v.1 0 47).toInt ≤ 1500 from (om_2fb699b811 zt zfs))) tw_32 tw_33 (by decide +kernel) rfl rfl ⟨show 1 + 1 ≤ 40 * n + 34 from om_14b467d488, show 8 + (1 + 11) + 22 ≤ 28 * (40 * n + 34) from om_badc1e0683⟩ (List.range (mW ad N cI cZ cJ v).length) (rg_map _) (mW_nd _ _ _ _ _ _) rfl rfl rfl rfl hl.1 rfl (Nat.le_of_ble_eq_true rfl) dX13_named_86 ⟨Nat.le_of_ble_eq_true rfl, Nat.le_of_ble_eq_true rfl⟩) hP hD hS hA (fun u9 ce9 q9 H locs hx9 hP hD hS hc9 hv9 hf9 => ?_) (fun u118 H locs hw117 hP hD hS => ?_)
              · exact vx_out (fun x h9 => (hnt x h9).elim) hlocks hc9 hv9 hf9 (fun t9 ht9 hv8 => ⟨u9, (FG.tr (FG.rf _) hx9), ⟨rfl, by rw [ht9]; exact hP, hD⟩, hS.F ht9⟩) hS.2.2 (Nat.le_refl _) (Nat.le_refl _)
              obtain ⟨rfl, a117, b117⟩ := hw117
              have z120 : ((v.1 0 47) + (1 : Int32)).toInt = ((v.1 0 47).toInt) + (1 : Int) := add_z rfl (show (1 : Int32).toInt = (1 : Int) by decide) (om_3eca9b17a5 zws) (om_27eb55d06c zt)
              have hP : va_P (dC, dI) vwCl (mW ad N cI cZ cJ (wA v 0 47 ((v.1 0 47) + (1 : Int32)))) H := hP
              have hD : va_D A (mW ad N cI cZ cJ (wA v 0 47 ((v.1 0 47) + (1 : Int32)))) := hD
              refine W.widen (k := 0) (n := 0) (Nat.le_refl _) (Nat.le_refl _) ?_
              refine lv_iload_n hx hb dX13_named_89 rfl (lv_at hl 2 rfl) ?_
              refine lv_if_eq (tgt := 99) hx hb dX13_named_90 (by decide) (fun h121 => ?_) (fun h121 => ?_)
              · have z122 : r4.toInt = (0 : Int) := eq_z rfl (show (0 : Int32).toInt = (0 : Int) by decide) h121
                exact False.elim (om_9d476c3a78 z116 z122)
              · have z123 : r4.toInt ≠ (0 : Int) := ne_z rfl (show (0 : Int32).toInt = (0 : Int) by decide) h121
                refine lv_aload_n hx hb dX13_named_93 rfl (lv_at hl 4 rfl) ?_
                refine lv_iload hx hb dX13_named_94 (lv_at hl 0 rfl) ?_
                refine cux_v (rx_V (n := 1) (As := [.int r59]) (rest := []) hx hb hml hown ht hKK hFx hP hD hS hA (c_m_index l n ihE dC dI cI cB cZ cJ cR tb H.size ad N (wA v 0 47 ((v.1 0 47) + (1 : Int32))) r59 (show 40 ≤ (v.1 0 48).toInt + (n : Int) from (om_a9150ae9b6 zn)) (show 0 ≤ ((v.1 0 47) + (1 : Int32)).toInt ∧ ((v.1 0 47) + (1 : Int32)).toInt ≤ 1500 from (om_cae3a623a5 zfs z1 a117)) (show 0 ≤ (v.1 0 48).toInt ∧ (v.1 0 48).toInt ≤ 40 from (om_7eaf33e007 zop)) (show 0 ≤ (v.1 0 30).toInt ∧ (v.1 0 30).toInt ≤ 500 from (om_9861e69da5 zkn)) (show 0 ≤ (v.1 0 33).toInt ∧ (v.1 0 33).toInt ≤ 500 from (om_9861e69da5 zhi)) (show 0 ≤ (v.1 0 32).toInt ∧ (v.1 0 30).toInt + (v.1 0 32).toInt ≤ (v.1 0 33).toInt from (om_f541e4003c zs)) (show 0 ≤ (v.1 0 12).toInt ∧ (v.1 0 12).toInt ≤ 15 * ((v.1 0 47) + (1 : Int32)).toInt + 2 from (om_3894ab1223 zws z1)) (show 0 ≤ (v.1 0 15).toInt ∧ (v.1 0 15).toInt ≤ 10 * ((v.1 0 47) + (1 : Int32)).toInt + 0 from (om_9a74738aa2 zos z1)) (show 0 ≤ (v.1 0 43).toInt ∧ (v.1 0 43).toInt ≤ 15 * ((v.1 0 47) + (1 : Int32)).toInt + 0 from (om_434df26a0f zfs z1)) (show 0 ≤ (v.1 0 39).toInt ∧ (v.1 0 39).toInt ≤ 1 * ((v.1 0 47) + (1 : Int32)).toInt + 0 from (om_3840c96ead zcs z1)) (show 0 ≤ (v.1 0 27).toInt ∧ (v.1 0 27).toInt ≤ 60 from (om_86b09c9bac zgl b57 z68)) (show TI (wA v 0 47 ((v.1 0 47) + (1 : Int32))) from FG.ti (fl := pfl) (al := pal) (FG.f (FG.rf _) ((v.1 0 47) + (1 : Int32)) (by decide)) (by decide) (by decide) hT) (show AR 29 0 1500 (wA v 0 47 ((v.1 0 47) + (1 : Int32))) from (AR.o a29 (by decide))) (show AR 23 0 1500 (wA v 0 47 ((v.1 0 47) + (1 : Int32))) from (AR.o a23 (by decide))) (show AR 35 0 1500 (wA v 0 47 ((v.1 0 47) + (1 : Int32))) from (AR.o a35 (by decide))) (show AR 37 0 23999 (wA v 0 47 ((v.1 0 47) + (1 : Int32))) from (AR.o a37 (by decide))) (show AR 38 0 15999 (wA v 0 47 ((v.1 0 47) + (1 : Int32))) from (AR.o a38 (by decide))) (show AR 40 0 23999 (wA v 0 47 ((v.1 0 47) + (1 : Int32))) from (AR.o a40 (by decide))) (show FX (wA v 0 47 ((v.1 0 47) + (1 : Int32))) from (FX.o fx (by decide) (by decide))) (show 0 ≤ r59.toInt ∧ r59.toInt < 60 from (om_2c1e94745d zgl b57 z68))) tw_103 tw_104 (by decide +kernel) rfl rfl ⟨show (40 * n + 6) + 1 ≤ 40 * n + 34 from om_a15f5e5edd, show 8 + (3 + 11) + 28 * (40 * n + 6) ≤ 28 * (40 * n + 34) from om_5fd72e6265⟩ (List.range (mW ad N cI cZ cJ (wA v 0 47 ((v.1 0 47) + (1 : Int32)))).length) (rg_map _) (mW_nd _ _ _ _ _ _) rfl rfl rfl rfl hl.1 rfl (Nat.le_of_ble_eq_true rfl) dX13_named_96 ⟨Nat.le_of_ble_eq_true rfl, Nat.le_of_ble_eq_true rfl⟩) hP hD hS hA (fun u9 ce9 q9 H locs hx9 hP hD hS hc9 hv9 hf9 => ?_) (fun u125 H locs hw124 hP hD hS => ?_)
                · exact vx_out (fun x h9 => (hnt x h9).elim) hlocks hc9 hv9 hf9 (fun t9 ht9 hv8 => ⟨u9, (FG.tr (FG.f (FG.rf _) ((v.1 0 47) + (1 : Int32)) (by decide)) hx9), ⟨rfl, by rw [ht9]; exact hP, hD⟩, hS.F ht9⟩) hS.2.2 (Nat.le_refl _) (Nat.le_refl _)
                obtain ⟨fr124, pt124, pb124, pw124, po124, pf124, pk124, pp124, ph124, kc124, ko124, kg124, a35124, a37124, a38124, a40124, fx124⟩ := hw124
                have pt124 : ((v.1 0 47) + (1 : Int32)).toInt + 1 ≤ (u125.1 0 47).toInt ∧ (u125.1 0 47).toInt ≤ 1500 := pt124
                have pb124 : (v.1 0 49).toInt ≠ ((v.1 0 47) + (1 : Int32)).toInt := pb124
                have pw124 : (v.1 0 12).toInt ≤ (u125.1 0 12).toInt ∧ (u125.1 0 12).toInt - 15 * (u125.1 0 47).toInt ≤ (v.1 0 12).toInt - 15 * ((v.1 0 47) + (1 : Int32)).toInt := pw124
                have po124 : (v.1 0 15).toInt ≤ (u125.1 0 15).toInt ∧ (u125.1 0 15).toInt - 10 * (u125.1 0 47).toInt ≤ (v.1 0 15).toInt - 10 * ((v.1 0 47) + (1 : Int32)).toInt := po124
                have pf124 : (v.1 0 43).toInt ≤ (u125.1 0 43).toInt ∧ (u125.1 0 43).toInt - 15 * (u125.1 0 47).toInt ≤ (v.1 0 43).toInt - 15 * ((v.1 0 47) + (1 : Int32)).toInt := pf124
                have pk124 : (v.1 0 39).toInt ≤ (u125.1 0 39).toInt ∧ (u125.1 0 39).toInt - 1 * (u125.1 0 47).toInt ≤ (v.1 0 39).toInt - 1 * ((v.1 0 47) + (1 : Int32)).toInt := pk124
                have pp124 : (u125.1 0 32).toInt = (v.1 0 32).toInt ∧ (u125.1 0 48).toInt = (v.1 0 48).toInt := pp124
                have ph124 : (v.1 0 33).toInt ≤ (u125.1 0 33).toInt ∧ (u125.1 0 33).toInt ≤ 500 := ph124
                have kc124 : ∀ j : Nat, (j : Int) < (v.1 0 12).toInt → (u125.1 11) j = (v.1 11) j := kc124
                have ko124 : ∀ j : Nat, (j : Int) < (v.1 0 15).toInt → (u125.1 13) j = (v.1 13) j := ko124
                have kg124 : ∀ j : Nat, (j : Int) < (v.1 0 15).toInt → (u125.1 14) j = (v.1 14) j := kg124
                have a35124 : AR 35 0 1500 u125 := a35124
                have a37124 : AR 37 0 23999 u125 := a37124
                have a38124 : AR 38 0 15999 u125 := a38124
                have a40124 : AR 40 0 23999 u125 := a40124
                have fx124 : FX u125 := fx124
                refine W.widen (k := 0) (n := 0) (Nat.le_refl _) (Nat.le_refl _) ?_
                refine lv_iload_n hx hb dX13_named_99 rfl (lv_at hl 5 rfl) ?_
                refine lv_if_eq (tgt := 110) hx hb dX13_named_100 (by decide) (fun k127 => absurd k127 (by decide)) (fun _ => ?_)
                refine lv_aload_n hx hb dX13_named_103 rfl (lv_at hl 4 rfl) ?_
                refine cu_i (rn_V (n := 0) (As := []) (rest := []) hx hb hml hown ht hKK hFx hP hD hS hA (c_m_setting l dC dI cI cB cZ cJ cR tb H.size ad N u125  (show 0 ≤ (u125.1 0 47).toInt ∧ (u125.1 0 47).toInt ≤ 1500 from (om_f8d5b5379a zfs z1 pt124 pw124))) tw_134 tw_135 (by decide +kernel) rfl rfl ⟨show 0 + 1 ≤ 40 * n + 34 from om_5cf133fb1a, show 8 + (5 + 11) + 0 ≤ 28 * (40 * n + 34) from om_4cd92eee88⟩ (List.range (mW ad N cI cZ cJ u125).length) (rg_map _) (mW_nd _ _ _ _ _ _) rfl rfl rfl rfl hl.1 rfl (Nat.le_of_ble_eq_true rfl) dX13_named_104 ⟨Nat.le_of_ble_eq_true rfl, Nat.le_of_ble_eq_true rfl⟩) hP hD hS hA (fun r130 u129 H locs hw128 hP hD hS => ?_)
                obtain rfl := hw128
                refine W.widen (k := 0) (n := 0) (Nat.le_refl _) (Nat.le_refl _) ?_
                refine lv_goto (tgt := 111) hx hb dX13_named_107 (by decide) ?_
                refine lv_istore (lv' := [(6, .int r130), (5, .int r59), (4, .int r7), (3, .int r4), (2, .int (v.1 0 47)), (0, .ref (ad 0)), (1, .int 1)]) hx hb dX13_named_111 hl (by decide) rfl (fun ls hl => ?_)
                refine lv_iload hx hb dX13_named_113 (lv_at hl 0 rfl) ?_
                refine lv_iconst (v := -1) hx hb dX13_named_115 (by decide) ?_
                refine lv_icmp_eq (tgt := 131) hx hb dX13_named_116 (by decide) (fun h131 => ?_) (fun h131 => ?_)
                · have z132 : r130.toInt = (-1 : Int) := eq_z rfl (show ((-1) : Int32).toInt = (-1 : Int) by decide) h131
                  refine lv_iload_n hx hb dX13_named_131 rfl (lv_at hl 3 rfl) ?_
                  refine lv_if_eq (tgt := 165) hx hb dX13_named_132 (by decide) (fun h133 => ?_) (fun h133 => ?_)
                  · have z134 : r4.toInt = (0 : Int) := eq_z rfl (show (0 : Int32).toInt = (0 : Int) by decide) h133
                    exact False.elim (om_9d476c3a78 z116 z134)
                  · have z135 : r4.toInt ≠ (0 : Int) := ne_z rfl (show (0 : Int32).toInt = (0 : Int) by decide) h133
                    refine lv_aload_n hx hb dX13_named_135 rfl (lv_at hl 5 rfl) ?_
                    refine lv_aload_n hx hb dX13_named_136 rfl (lv_at hl 5 rfl) ?_
                    refine lv_bipush (v := 10) hx hb dX13_named_137 (by decide) ?_
                    refine lv_iconst (v := 0) hx hb dX13_named_139 (by decide) ?_
                    refine lv_bipush (v := 10) hx hb dX13_named_140 (by decide) ?_
                    refine cu_s (mW_nd _ _ _ _ _ _) (rn_S (n := 3) (As := [.int 10, .int 0, .int 10]) (rest := [.ref (ad 0), .ref (ad 0)]) hx hb hml hown ht hKK hFx hP hD hS hA (c_m_lw l dC dI cI cB cZ cJ cR tb H.size (10 : Int32) (0 : Int32) (10 : Int32) ) tw_71 tw_72 (by decide +kernel) rfl rfl ⟨show 1 + 1 ≤ 40 * n + 34 from om_14b467d488, show 8 + (3 + 11) + 24 ≤ 28 * (40 * n + 34) from om_738d4fde4a⟩ [] rfl rfl rfl hl.1 rfl (Nat.le_of_ble_eq_true rfl) dX13_named_142 ⟨Nat.le_of_ble_eq_true rfl, Nat.le_of_ble_eq_true rfl⟩) hP hD hS hA (fun r138 H locs hw136 hP hD hS => ?_)
                    refine W.widen (k := 0) (n := 0) (Nat.le_refl _) (Nat.le_refl _) ?_
                    refine cu_i (rn_V (n := 1) (As := [.int r138]) (rest := [.ref (ad 0)]) hx hb hml hown ht hKK hFx hP hD hS hA (c_m_emit l dC dI cI cB cZ cJ cR tb H.size ad N u125 r138 (show 0 ≤ (u125.1 0 12).toInt ∧ (u125.1 0 12).toInt < 24000 from (om_6ad570a484 zws z1 pt124 pw124))) tw_8 tw_9 (by decide +kernel) rfl rfl ⟨show 0 + 1 ≤ 40 * n + 34 from om_5cf133fb1a, show 8 + (2 + 11) + 0 ≤ 28 * (40 * n + 34) from om_343857e7d0⟩ (List.range (mW ad N cI cZ cJ u125).length) (rg_map _) (mW_nd _ _ _ _ _ _) rfl rfl rfl rfl hl.1 rfl (Nat.le_of_ble_eq_true rfl) dX13_named_145 ⟨Nat.le_of_ble_eq_true rfl, Nat.le_of_ble_eq_true rfl⟩) hP hD hS hA (fun r141 u140 H locs hw139 hP hD hS => ?_)
                    obtain ⟨rfl, rfl⟩ := hw139
                    have z142 : ((u125.1 0 12) + (1 : Int32)).toInt = ((u125.1 0 12).toInt) + (1 : Int) := add_z rfl (show (1 : Int32).toInt = (1 : Int) by decide) (om_6ad47c49ef zws pw124) (om_99b5e8925f zws z1 pt124 pw124)
                    have hP : va_P (dC, dI) vwCl (mW ad N cI cZ cJ (wA (wA u125 11 ((u125.1 0 12).toNatClampNeg) r138) 0 12 ((u125.1 0 12) + (1 : Int32)))) H := hP
                    have hD : va_D A (mW ad N cI cZ cJ (wA (wA u125 11 ((u125.1 0 12).toNatClampNeg) r138) 0 12 ((u125.1 0 12) + (1 : Int32)))) := hD
                    refine tp_i (y := (u125.1 0 12)) (rfl) ?_
                    refine W.widen (k := 0) (n := 0) (Nat.le_refl _) (Nat.le_refl _) ?_
                    refine lv_iload hx hb dX13_named_148 (lv_at hl 1 rfl) ?_
                    refine lv_iconst (v := 1) hx hb dX13_named_150 (by decide) ?_
                    refine cu_v (rn_V (n := 3) (As := [.int (u125.1 0 12), .int r59, .int 1]) (rest := []) hx hb hml hown ht hKK hFx hP hD hS hA (c_m_fix l dC dI cI cB cZ cJ cR tb H.size ad N (wA (wA u125 11 ((u125.1 0 12).toNatClampNeg) r138) 0 12 ((u125.1 0 12) + (1 : Int32))) (u125.1 0 12) r59 (1 : Int32) (show 0 ≤ (u125.1 0 43).toInt ∧ (u125.1 0 43).toInt < 24000 from (om_57da220a2c zfs z1 pt124 pf124)) (show 0 ≤ (u125.1 0 12).toInt ∧ (u125.1 0 12).toInt < 24000 from (om_6ad570a484 zws z1 pt124 pw124)) (show (1 : Int) = 5 ∨ (0 ≤ r59.toInt ∧ r59.toInt < 60) from (om_8d07b0f4c4 zgl b57 z68)) (show AR 40 0 23999 (wA (wA u125 11 ((u125.1 0 12).toNatClampNeg) r138) 0 12 ((u125.1 0 12) + (1 : Int32))) from (AR.o (AR.o a40124 (by decide)) (by decide))) (show FX (wA (wA u125 11 ((u125.1 0 12).toNatClampNeg) r138) 0 12 ((u125.1 0 12) + (1 : Int32))) from (FX.o (FX.o fx124 (by decide) (by decide)) (by decide) (by decide)))) tw_69 tw_70 (by decide +kernel) rfl rfl ⟨show 0 + 1 ≤ 40 * n + 34 from om_5cf133fb1a, show 8 + (4 + 11) + 0 ≤ 28 * (40 * n + 34) from om_56026331fb⟩ (List.range (mW ad N cI cZ cJ (wA (wA u125 11 ((u125.1 0 12).toNatClampNeg) r138) 0 12 ((u125.1 0 12) + (1 : Int32)))).length) (rg_map _) (mW_nd _ _ _ _ _ _) rfl rfl rfl rfl hl.1 rfl (Nat.le_of_ble_eq_true rfl) dX13_named_151 ⟨Nat.le_of_ble_eq_true rfl, Nat.le_of_ble_eq_true rfl⟩) hP hD hS hA (fun u144 H locs hw143 hP hD hS => ?_)
                    obtain ⟨fr143, pf143, a40143, fx143⟩ := hw143
                    have pf143 : (u144.1 0 43).toInt = (u125.1 0 43).toInt + 1 := pf143
                    have a40143 : AR 40 0 23999 u144 := a40143
                    have fx143 : FX u144 := fx143
                    refine W.widen (k := 0) (n := 0) (Nat.le_refl _) (Nat.le_refl _) ?_
                    refine lv_aload_n hx hb dX13_named_154 rfl (lv_at hl 5 rfl) ?_
                    refine lv_bipush (v := 6) hx hb dX13_named_155 (by decide) ?_
                    refine lv_iconst (v := 0) hx hb dX13_named_157 (by decide) ?_
                    have q146 : (u144.1 0 15).toInt = (u125.1 0 15).toInt := congrArg Int32.toInt ((fr143.2.1 15 (by decide)).trans (show (wA (wA u125 11 ((u125.1 0 12).toNatClampNeg) r138) 0 12 ((u125.1 0 12) + (1 : Int32))).1 0 15 = (u125.1 0 15) by rfl))
                    refine cu_i (rn_V (n := 2) (As := [.int 6, .int 0]) (rest := []) hx hb hml hown ht hKK hFx hP hD hS hA (c_m_say l dC dI cI cB cZ cJ cR tb H.size ad N u144 (6 : Int32) (0 : Int32) (show 0 ≤ (u144.1 0 15).toInt ∧ (u144.1 0 15).toInt < 16000 from (om_d973dfe1cb zos z1 pt124 po124 q146))) tw_59 tw_60 (by decide +kernel) rfl rfl ⟨show 0 + 1 ≤ 40 * n + 34 from om_5cf133fb1a, show 8 + (3 + 11) + 0 ≤ 28 * (40 * n + 34) from om_c7f93e786a⟩ (List.range (mW ad N cI cZ cJ u144).length) (rg_map _) (mW_nd _ _ _ _ _ _) rfl rfl rfl rfl hl.1 rfl (Nat.le_of_ble_eq_true rfl) dX13_named_158 ⟨Nat.le_of_ble_eq_true rfl, Nat.le_of_ble_eq_true rfl⟩) hP hD hS hA (fun r149 u148 H locs hw147 hP hD hS => ?_)
                    obtain ⟨rfl, rfl⟩ := hw147
                    have z150 : ((u144.1 0 15) + (1 : Int32)).toInt = ((u144.1 0 15).toInt) + (1 : Int) := add_z rfl (show (1 : Int32).toInt = (1 : Int) by decide) (om_92b6fe5fa9 zos po124 q146) (om_366562be03 zos z1 pt124 po124 q146)
                    have hP : va_P (dC, dI) vwCl (mW ad N cI cZ cJ (wA (wA (wA u144 13 ((u144.1 0 15).toNatClampNeg) (6 : Int32)) 14 ((u144.1 0 15).toNatClampNeg) (0 : Int32)) 0 15 ((u144.1 0 15) + (1 : Int32)))) H := hP
                    have hD : va_D A (mW ad N cI cZ cJ (wA (wA (wA u144 13 ((u144.1 0 15).toNatClampNeg) (6 : Int32)) 14 ((u144.1 0 15).toNatClampNeg) (0 : Int32)) 0 15 ((u144.1 0 15) + (1 : Int32)))) := hD
                    refine tp_i (y := (u144.1 0 15)) (rfl) ?_
                    refine W.widen (k := 0) (n := 0) (Nat.le_refl _) (Nat.le_refl _) ?_
                    refine lv_pop hx hb dX13_named_161 rfl ?_
                    refine lv_goto (tgt := 173) hx hb dX13_named_162 (by decide) ?_
                    refine lv_iload_n hx hb dX13_named_173 rfl (lv_at hl 6 rfl) ?_
                    refine lv_if_eq (tgt := 182) hx hb dX13_named_174 (by decide) (fun k151 => absurd k151 (by decide)) (fun _ => ?_)
                    refine lv_aload_n hx hb dX13_named_177 rfl (lv_at hl 5 rfl) ?_
                    refine lv_iconst (v := 1) hx hb dX13_named_178 (by decide) ?_
                    have q152 : (u144.1 0 48).toInt = (u125.1 0 48).toInt := congrArg Int32.toInt ((fr143.2.1 48 (by decide)).trans (show (wA (wA u125 11 ((u125.1 0 12).toNatClampNeg) r138) 0 12 ((u125.1 0 12) + (1 : Int32))).1 0 48 = (u125.1 0 48) by rfl))
                    have q153 : (u144.1 0 47).toInt = (u125.1 0 47).toInt := congrArg Int32.toInt ((fr143.2.1 47 (by decide)).trans (show (wA (wA u125 11 ((u125.1 0 12).toNatClampNeg) r138) 0 12 ((u125.1 0 12) + (1 : Int32))).1 0 47 = (u125.1 0 47) by rfl))
                    have q154 : (u125.1 0 30).toInt = (v.1 0 30).toInt := congrArg Int32.toInt ((fr124.2.1 30 (by decide)).trans (show (wA v 0 47 ((v.1 0 47) + (1 : Int32))).1 0 30 = (v.1 0 30) by rfl))
                    have q155 : (u144.1 0 30).toInt = (u125.1 0 30).toInt := congrArg Int32.toInt ((fr143.2.1 30 (by decide)).trans (show (wA (wA u125 11 ((u125.1 0 12).toNatClampNeg) r138) 0 12 ((u125.1 0 12) + (1 : Int32))).1 0 30 = (u125.1 0 30) by rfl))
                    have q156 : (u144.1 0 33).toInt = (u125.1 0 33).toInt := congrArg Int32.toInt ((fr143.2.1 33 (by decide)).trans (show (wA (wA u125 11 ((u125.1 0 12).toNatClampNeg) r138) 0 12 ((u125.1 0 12) + (1 : Int32))).1 0 33 = (u125.1 0 33) by rfl))
                    have q157 : (u144.1 0 32).toInt = (u125.1 0 32).toInt := congrArg Int32.toInt ((fr143.2.1 32 (by decide)).trans (show (wA (wA u125 11 ((u125.1 0 12).toNatClampNeg) r138) 0 12 ((u125.1 0 12) + (1 : Int32))).1 0 32 = (u125.1 0 32) by rfl))
                    have q158 : (u144.1 0 12).toInt = ((u125.1 0 12) + (1 : Int32)).toInt := congrArg Int32.toInt ((fr143.2.1 12 (by decide)).trans (show (wA (wA u125 11 ((u125.1 0 12).toNatClampNeg) r138) 0 12 ((u125.1 0 12) + (1 : Int32))).1 0 12 = ((u125.1 0 12) + (1 : Int32)) by rfl))
                    have q159 : (u144.1 0 39).toInt = (u125.1 0 39).toInt := congrArg Int32.toInt ((fr143.2.1 39 (by decide)).trans (show (wA (wA u125 11 ((u125.1 0 12).toNatClampNeg) r138) 0 12 ((u125.1 0 12) + (1 : Int32))).1 0 39 = (u125.1 0 39) by rfl))
                    have q160 : (u125.1 0 27).toInt = (v.1 0 27).toInt := congrArg Int32.toInt ((fr124.2.1 27 (by decide)).trans (show (wA v 0 47 ((v.1 0 47) + (1 : Int32))).1 0 27 = (v.1 0 27) by rfl))
                    have q161 : (u144.1 0 27).toInt = (u125.1 0 27).toInt := congrArg Int32.toInt ((fr143.2.1 27 (by decide)).trans (show (wA (wA u125 11 ((u125.1 0 12).toNatClampNeg) r138) 0 12 ((u125.1 0 12) + (1 : Int32))).1 0 27 = (u125.1 0 27) by rfl))
                    refine cux_v (rx_V (n := 1) (As := [.int 1]) (rest := []) hx hb hml hown ht hKK hFx hP hD hS hA (C dC dI cI cB cZ cJ cR tb H.size ad N (wA (wA (wA u144 13 ((u144.1 0 15).toNatClampNeg) (6 : Int32)) 14 ((u144.1 0 15).toNatClampNeg) (0 : Int32)) 0 15 ((u144.1 0 15) + (1 : Int32))) (1 : Int32) (show 40 ≤ (u144.1 0 48).toInt + (n : Int) from (om_f64e3e0d80 zn pp124 q152)) (show 0 ≤ (u144.1 0 47).toInt ∧ (u144.1 0 47).toInt ≤ 1500 from (om_2a7633839f zfs z1 pt124 q153)) (show 0 ≤ (u144.1 0 48).toInt ∧ (u144.1 0 48).toInt ≤ 40 from (om_8102633c67 zop pp124 q152)) (show 0 ≤ (u144.1 0 30).toInt ∧ (u144.1 0 30).toInt ≤ 500 from (om_8a5975ec21 zkn q154 q155)) (show 0 ≤ (u144.1 0 33).toInt ∧ (u144.1 0 33).toInt ≤ 500 from (om_ed1d2e34eb zhi ph124 q156)) (show 0 ≤ (u144.1 0 32).toInt ∧ (u144.1 0 30).toInt + (u144.1 0 32).toInt ≤ (u144.1 0 33).toInt from (om_99c3a18084 zs q154 pp124 ph124 q155 q157 q156)) (show 0 ≤ (u144.1 0 12).toInt ∧ (u144.1 0 12).toInt ≤ 15 * (u144.1 0 47).toInt + 2 from (om_aa5773994b zws z1 pw124 z142 q158 q153)) (show 0 ≤ ((u144.1 0 15) + (1 : Int32)).toInt ∧ ((u144.1 0 15) + (1 : Int32)).toInt ≤ 10 * (u144.1 0 47).toInt + 0 from (om_51bfc3af59 zos z1 po124 q146 q153 z150)) (show 0 ≤ (u144.1 0 43).toInt ∧ (u144.1 0 43).toInt ≤ 15 * (u144.1 0 47).toInt + 0 from (om_1f92c0e818 zfs z1 pf124 q153 pf143)) (show 0 ≤ (u144.1 0 39).toInt ∧ (u144.1 0 39).toInt ≤ 1 * (u144.1 0 47).toInt + 0 from (om_5e36a23b6f zcs z1 pk124 q159 q153)) (show 0 ≤ (u144.1 0 27).toInt ∧ (u144.1 0 27).toInt ≤ 60 from (om_19af076d1a zgl b57 z68 q160 q161)) (show TI (wA (wA (wA u144 13 ((u144.1 0 15).toNatClampNeg) (6 : Int32)) 14 ((u144.1 0 15).toNatClampNeg) (0 : Int32)) 0 15 ((u144.1 0 15) + (1 : Int32))) from FG.ti (fl := pfl) (al := pal) (FG.f (FG.a (FG.a (FG.tr (FG.f (FG.a (FG.tr (FG.f (FG.rf _) ((v.1 0 47) + (1 : Int32)) (by decide)) (FG.up fr124 (by decide) (by decide))) ((u125.1 0 12).toNatClampNeg) r138 (by decide) (by decide)) ((u125.1 0 12) + (1 : Int32)) (by decide)) (FG.up fr143 (by decide) (by decide))) ((u144.1 0 15).toNatClampNeg) (6 : Int32) (by decide) (by decide)) ((u144.1 0 15).toNatClampNeg) (0 : Int32) (by decide) (by decide)) ((u144.1 0 15) + (1 : Int32)) (by decide)) (by decide) (by decide) hT) (show AR 29 0 1500 (wA (wA (wA u144 13 ((u144.1 0 15).toNatClampNeg) (6 : Int32)) 14 ((u144.1 0 15).toNatClampNeg) (0 : Int32)) 0 15 ((u144.1 0 15) + (1 : Int32))) from (AR.o (AR.o (AR.o (show AR 29 0 1500 u144 from AR.fr (fl := [43]) (al := [0, 40, 41, 42]) fr143 (by decide) (AR.o (AR.o (show AR 29 0 1500 u125 from AR.fr (fl := [12, 15, 32, 33, 39, 43, 44, 45, 47, 48, 49, 50, 51]) (al := [0, 11, 13, 14, 35, 36, 37, 38, 40, 41, 42]) fr124 (by decide) (AR.o a29 (by decide))) (by decide)) (by decide))) (by decide)) (by decide)) (by decide))) (show AR 23 0 1500 (wA (wA (wA u144 13 ((u144.1 0 15).toNatClampNeg) (6 : Int32)) 14 ((u144.1 0 15).toNatClampNeg) (0 : Int32)) 0 15 ((u144.1 0 15) + (1 : Int32))) from (AR.o (AR.o (AR.o (show AR 23 0 1500 u144 from AR.fr (fl := [43]) (al := [0, 40, 41, 42]) fr143 (by decide) (AR.o (AR.o (show AR 23 0 1500 u125 from AR.fr (fl := [12, 15, 32, 33, 39, 43, 44, 45, 47, 48, 49, 50, 51]) (al := [0, 11, 13, 14, 35, 36, 37, 38, 40, 41, 42]) fr124 (by decide) (AR.o a23 (by decide))) (by decide)) (by decide))) (by decide)) (by decide)) (by decide))) (show AR 35 0 1500 (wA (wA (wA u144 13 ((u144.1 0 15).toNatClampNeg) (6 : Int32)) 14 ((u144.1 0 15).toNatClampNeg) (0 : Int32)) 0 15 ((u144.1 0 15) + (1 : Int32))) from (AR.o (AR.o (AR.o (show AR 35 0 1500 u144 from AR.fr (fl := [43]) (al := [0, 40, 41, 42]) fr143 (by decide) (AR.o (AR.o a35124 (by decide)) (by decide))) (by decide)) (by decide)) (by decide))) (show AR 37 0 23999 (wA (wA (wA u144 13 ((u144.1 0 15).toNatClampNeg) (6 : Int32)) 14 ((u144.1 0 15).toNatClampNeg) (0 : Int32)) 0 15 ((u144.1 0 15) + (1 : Int32))) from (AR.o (AR.o (AR.o (show AR 37 0 23999 u144 from AR.fr (fl := [43]) (al := [0, 40, 41, 42]) fr143 (by decide) (AR.o (AR.o a37124 (by decide)) (by decide))) (by decide)) (by decide)) (by decide))) (show AR 38 0 15999 (wA (wA (wA u144 13 ((u144.1 0 15).toNatClampNeg) (6 : Int32)) 14 ((u144.1 0 15).toNatClampNeg) (0 : Int32)) 0 15 ((u144.1 0 15) + (1 : Int32))) from (AR.o (AR.o (AR.o (show AR 38 0 15999 u144 from AR.fr (fl := [43]) (al := [0, 40, 41, 42]) fr143 (by decide) (AR.o (AR.o a38124 (by decide)) (by decide))) (by decide)) (by decide)) (by decide))) (show AR 40 0 23999 (wA (wA (wA u144 13 ((u144.1 0 15).toNatClampNeg) (6 : Int32)) 14 ((u144.1 0 15).toNatClampNeg) (0 : Int32)) 0 15 ((u144.1 0 15) + (1 : Int32))) from (AR.o (AR.o (AR.o a40143 (by decide)) (by decide)) (by decide))) (show FX (wA (wA (wA u144 13 ((u144.1 0 15).toNatClampNeg) (6 : Int32)) 14 ((u144.1 0 15).toNatClampNeg) (0 : Int32)) 0 15 ((u144.1 0 15) + (1 : Int32))) from (FX.o (FX.o (FX.o fx143 (by decide) (by decide)) (by decide) (by decide)) (by decide) (by decide)))) tw_132 tw_133 (by decide +kernel) rfl rfl ⟨show (40 * n + 32) + 1 ≤ 40 * n + 34 from om_ab8103c111, show 8 + (6 + 11) + 28 * (40 * n + 32) ≤ 28 * (40 * n + 34) from om_6878702d79⟩ (List.range (mW ad N cI cZ cJ (wA (wA (wA u144 13 ((u144.1 0 15).toNatClampNeg) (6 : Int32)) 14 ((u144.1 0 15).toNatClampNeg) (0 : Int32)) 0 15 ((u144.1 0 15) + (1 : Int32)))).length) (rg_map _) (mW_nd _ _ _ _ _ _) rfl rfl rfl rfl hl.1 rfl (Nat.le_of_ble_eq_true rfl) dX13_named_179 ⟨Nat.le_of_ble_eq_true rfl, Nat.le_of_ble_eq_true rfl⟩) hP hD hS hA (fun u9 ce9 q9 H locs hx9 hP hD hS hc9 hv9 hf9 => ?_) (fun u163 H locs hw162 hP hD hS => ?_)
                    · exact vx_out (fun x h9 => (hnt x h9).elim) hlocks hc9 hv9 hf9 (fun t9 ht9 hv8 => ⟨u9, (FG.tr (FG.f (FG.a (FG.a (FG.tr (FG.f (FG.a (FG.tr (FG.f (FG.rf _) ((v.1 0 47) + (1 : Int32)) (by decide)) (FG.up fr124 (by decide) (by decide))) ((u125.1 0 12).toNatClampNeg) r138 (by decide) (by decide)) ((u125.1 0 12) + (1 : Int32)) (by decide)) (FG.up fr143 (by decide) (by decide))) ((u144.1 0 15).toNatClampNeg) (6 : Int32) (by decide) (by decide)) ((u144.1 0 15).toNatClampNeg) (0 : Int32) (by decide) (by decide)) ((u144.1 0 15) + (1 : Int32)) (by decide)) hx9), ⟨rfl, by rw [ht9]; exact hP, hD⟩, hS.F ht9⟩) hS.2.2 (Nat.le_refl _) (Nat.le_refl _)
                    obtain ⟨fr162, pt162, pb162, pw162, po162, pf162, pk162, pp162, ph162, kc162, ko162, kg162, a35162, a37162, a38162, a40162, fx162⟩ := hw162
                    have pt162 : (u144.1 0 47).toInt + 0 ≤ (u163.1 0 47).toInt ∧ (u163.1 0 47).toInt ≤ 1500 := pt162
                    have pb162 : (1 : Int) ≠ 0 ∨ ((u144.1 0 47).toInt + 1 ≤ (u163.1 0 47).toInt ∧ (u144.1 0 49).toInt ≠ (u144.1 0 47).toInt) := pb162
                    have pw162 : (u144.1 0 12).toInt ≤ (u163.1 0 12).toInt ∧ (u163.1 0 12).toInt - 15 * (u163.1 0 47).toInt ≤ (u144.1 0 12).toInt - 15 * (u144.1 0 47).toInt := pw162
                    have po162 : ((u144.1 0 15) + (1 : Int32)).toInt ≤ (u163.1 0 15).toInt ∧ (u163.1 0 15).toInt - 10 * (u163.1 0 47).toInt ≤ ((u144.1 0 15) + (1 : Int32)).toInt - 10 * (u144.1 0 47).toInt := po162
                    have pf162 : (u144.1 0 43).toInt ≤ (u163.1 0 43).toInt ∧ (u163.1 0 43).toInt - 15 * (u163.1 0 47).toInt ≤ (u144.1 0 43).toInt - 15 * (u144.1 0 47).toInt := pf162
                    have pk162 : (u144.1 0 39).toInt ≤ (u163.1 0 39).toInt ∧ (u163.1 0 39).toInt - 1 * (u163.1 0 47).toInt ≤ (u144.1 0 39).toInt - 1 * (u144.1 0 47).toInt := pk162
                    have pp162 : (u163.1 0 32).toInt = (u144.1 0 32).toInt ∧ (u163.1 0 48).toInt = (u144.1 0 48).toInt := pp162
                    have ph162 : (u144.1 0 33).toInt ≤ (u163.1 0 33).toInt ∧ (u163.1 0 33).toInt ≤ 500 := ph162
                    have kc162 : ∀ j : Nat, (j : Int) < (u144.1 0 12).toInt → (u163.1 11) j = (u144.1 11) j := kc162
                    have ko162 : ∀ j : Nat, (j : Int) < ((u144.1 0 15) + (1 : Int32)).toInt → (u163.1 13) j = (upd (u144.1 13) ((u144.1 0 15).toNatClampNeg) (6 : Int32)) j := ko162
                    have kg162 : ∀ j : Nat, (j : Int) < ((u144.1 0 15) + (1 : Int32)).toInt → (u163.1 14) j = (upd (u144.1 14) ((u144.1 0 15).toNatClampNeg) (0 : Int32)) j := kg162
                    have a35162 : AR 35 0 1500 u163 := a35162
                    have a37162 : AR 37 0 23999 u163 := a37162
                    have a38162 : AR 38 0 15999 u163 := a38162
                    have a40162 : AR 40 0 23999 u163 := a40162
                    have fx162 : FX u163 := fx162
                    refine W.widen (k := 0) (n := 0) (Nat.le_refl _) (Nat.le_refl _) ?_
                    refine vx_ret ?_
                    exact W.vret hx hb hr (fun t ht9 hW => ⟨⟨u163, rfl, ⟨(FG.tr (FG.f (FG.a (FG.a (FG.tr (FG.f (FG.a (FG.tr (FG.f (FG.rf _) ((v.1 0 47) + (1 : Int32)) (by decide)) (FG.up fr124 (by decide) (by decide))) ((u125.1 0 12).toNatClampNeg) r138 (by decide) (by decide)) ((u125.1 0 12) + (1 : Int32)) (by decide)) (FG.up fr143 (by decide) (by decide))) ((u144.1 0 15).toNatClampNeg) (6 : Int32) (by decide) (by decide)) ((u144.1 0 15).toNatClampNeg) (0 : Int32) (by decide) (by decide)) ((u144.1 0 15) + (1 : Int32)) (by decide)) (FG.up fr162 (by decide) (by decide))), (show (v.1 0 47).toInt + 1 ≤ (u163.1 0 47).toInt ∧ (u163.1 0 47).toInt ≤ 1500 from (om_fce9d01e45 z1 pt124 q153 pt162 pw162)), (show (v.1 0 49).toInt ≠ (v.1 0 47).toInt from (om_32294a9ce4 b117)), (show (v.1 0 12).toInt ≤ (u163.1 0 12).toInt ∧ (u163.1 0 12).toInt - 15 * (u163.1 0 47).toInt ≤ (v.1 0 12).toInt - 15 * (v.1 0 47).toInt from (om_0160935842 z1 pw124 z142 q158 q153 pw162)), (show (v.1 0 15).toInt ≤ (u163.1 0 15).toInt ∧ (u163.1 0 15).toInt - 10 * (u163.1 0 47).toInt ≤ (v.1 0 15).toInt - 10 * (v.1 0 47).toInt from (om_05e2e1d686 z1 po124 q146 q153 z150 po162)), (show (v.1 0 43).toInt ≤ (u163.1 0 43).toInt ∧ (u163.1 0 43).toInt - 15 * (u163.1 0 47).toInt ≤ (v.1 0 43).toInt - 15 * (v.1 0 47).toInt from (om_96595f386d z1 pf124 q153 pf143 pf162)), (show (v.1 0 39).toInt ≤ (u163.1 0 39).toInt ∧ (u163.1 0 39).toInt - 1 * (u163.1 0 47).toInt ≤ (v.1 0 39).toInt - 1 * (v.1 0 47).toInt from (om_5a7b74c40b z1 pk124 q159 q153 pk162)), (show (u163.1 0 32).toInt = (v.1 0 32).toInt ∧ (u163.1 0 48).toInt = (v.1 0 48).toInt from (om_095c2b5dd3 pp124 q157 q152 pp162)), (show (v.1 0 33).toInt ≤ (u163.1 0 33).toInt ∧ (u163.1 0 33).toInt ≤ 500 from (om_c3f78aa130 ph124 q156 ph162)), (fun (j9 : Nat) hj9 => (Eq.trans (kc162 j9 (om_f02d7fcdb4 pw124 z142 q158 hj9)) (Eq.trans (congrFun (fr143.2.2 11 (by decide)) j9) (Eq.trans (pk_un3 (a := (u125.1 0 12).toInt) rfl (om_1ce1b92b31 zws pw124) (om_e81726c0b3 pw124 hj9)) (kc124 j9 (om_4fe904e9bf hj9)))))), (fun (j9 : Nat) hj9 => (Eq.trans (ko162 j9 (om_c43cae243c po124 q146 z150 hj9)) (Eq.trans (pk_un3 (a := (u144.1 0 15).toInt) rfl (om_b01590be12 zos po124 q146) (om_32d84a698c po124 q146 hj9)) (Eq.trans (congrFun (fr143.2.2 13 (by decide)) j9) (ko124 j9 (om_4fe904e9bf hj9)))))), (fun (j9 : Nat) hj9 => (Eq.trans (kg162 j9 (om_c43cae243c po124 q146 z150 hj9)) (Eq.trans (pk_un3 (a := (u144.1 0 15).toInt) rfl (om_b01590be12 zos po124 q146) (om_32d84a698c po124 q146 hj9)) (Eq.trans (congrFun (fr143.2.2 14 (by decide)) j9) (kg124 j9 (om_4fe904e9bf hj9)))))), a35162, a37162, a38162, a40162, fx162⟩, by rw [ht9]; exact hP, hD⟩, hS.F ht9⟩) hS.2.2 dX13_named_182
                · have z165 : r130.toInt ≠ (-1 : Int) := ne_z rfl (show ((-1) : Int32).toInt = (-1 : Int) by decide) h131
                  refine lv_aload_n hx hb dX13_named_119 rfl (lv_at hl 5 rfl) ?_
                  refine lv_iload hx hb dX13_named_120 (lv_at hl 2 rfl) ?_
                  refine lv_iload hx hb dX13_named_122 (lv_at hl 1 rfl) ?_
                  refine lv_iload_n hx hb dX13_named_124 rfl (lv_at hl 3 rfl) ?_
                  refine lv_iload hx hb dX13_named_125 (lv_at hl 0 rfl) ?_
                  have q166 : (u125.1 0 30).toInt = (v.1 0 30).toInt := congrArg Int32.toInt ((fr124.2.1 30 (by decide)).trans (show (wA v 0 47 ((v.1 0 47) + (1 : Int32))).1 0 30 = (v.1 0 30) by rfl))
                  have q167 : (u125.1 0 27).toInt = (v.1 0 27).toInt := congrArg Int32.toInt ((fr124.2.1 27 (by decide)).trans (show (wA v 0 47 ((v.1 0 47) + (1 : Int32))).1 0 27 = (v.1 0 27) by rfl))
                  refine cux_v (rx_V (n := 4) (As := [.int r7, .int r59, .int r4, .int r130]) (rest := []) hx hb hml hown ht hKK hFx hP hD hS hA (c_m_sets l n ihE dC dI cI cB cZ cJ cR tb H.size ad N u125 r7 r59 r4 r130 (show 40 ≤ (u125.1 0 48).toInt + (n : Int) from (om_608ad05e27 zn pp124)) (show 0 ≤ (u125.1 0 47).toInt ∧ (u125.1 0 47).toInt ≤ 1500 from (om_f8d5b5379a zfs z1 pt124 pw124)) (show 0 ≤ (u125.1 0 48).toInt ∧ (u125.1 0 48).toInt ≤ 40 from (om_e097fd8e1d zop pp124)) (show 0 ≤ (u125.1 0 30).toInt ∧ (u125.1 0 30).toInt ≤ 500 from (om_f8376ff89c zkn q166)) (show 0 ≤ (u125.1 0 33).toInt ∧ (u125.1 0 33).toInt ≤ 500 from (om_cc8e83f451 zhi ph124)) (show 0 ≤ (u125.1 0 32).toInt ∧ (u125.1 0 30).toInt + (u125.1 0 32).toInt ≤ (u125.1 0 33).toInt from (om_264c288ace zs q166 pp124 ph124)) (show 0 ≤ (u125.1 0 12).toInt ∧ (u125.1 0 12).toInt ≤ 15 * (u125.1 0 47).toInt + 2 from (om_09c5dcff5a zws z1 pw124)) (show 0 ≤ (u125.1 0 15).toInt ∧ (u125.1 0 15).toInt ≤ 10 * (u125.1 0 47).toInt + 0 from (om_6f6533c9fe zos z1 po124)) (show 0 ≤ (u125.1 0 43).toInt ∧ (u125.1 0 43).toInt ≤ 15 * (u125.1 0 47).toInt + 0 from (om_987b2d8869 zfs z1 pf124)) (show 0 ≤ (u125.1 0 39).toInt ∧ (u125.1 0 39).toInt ≤ 1 * (u125.1 0 47).toInt + 0 from (om_99e6b168a8 zcs z1 pk124)) (show 0 ≤ (u125.1 0 27).toInt ∧ (u125.1 0 27).toInt ≤ 60 from (om_537aa373c5 zgl b57 z68 q167)) (show TI u125 from FG.ti (fl := pfl) (al := pal) (FG.tr (FG.f (FG.rf _) ((v.1 0 47) + (1 : Int32)) (by decide)) (FG.up fr124 (by decide) (by decide))) (by decide) (by decide) hT) (show AR 29 0 1500 u125 from (show AR 29 0 1500 u125 from AR.fr (fl := [12, 15, 32, 33, 39, 43, 44, 45, 47, 48, 49, 50, 51]) (al := [0, 11, 13, 14, 35, 36, 37, 38, 40, 41, 42]) fr124 (by decide) (AR.o a29 (by decide)))) (show AR 23 0 1500 u125 from (show AR 23 0 1500 u125 from AR.fr (fl := [12, 15, 32, 33, 39, 43, 44, 45, 47, 48, 49, 50, 51]) (al := [0, 11, 13, 14, 35, 36, 37, 38, 40, 41, 42]) fr124 (by decide) (AR.o a23 (by decide)))) (show AR 35 0 1500 u125 from a35124) (show AR 37 0 23999 u125 from a37124) (show AR 38 0 15999 u125 from a38124) (show AR 40 0 23999 u125 from a40124) (show FX u125 from fx124) (show 0 ≤ r7.toInt ∨ (0 ≤ r59.toInt ∧ r59.toInt < 60) from (om_4dab3b75cd zgl b57 z68)) (show r4.toInt = 0 ∨ (0 ≤ r59.toInt ∧ r59.toInt < 60) from (om_41bfbc6aba zgl b57 z68))) tw_136 tw_137 (by decide +kernel) rfl rfl ⟨show (40 * n + 6) + 1 ≤ 40 * n + 34 from om_a15f5e5edd, show 8 + (8 + 11) + 28 * (40 * n + 6) ≤ 28 * (40 * n + 34) from om_790e9980ac⟩ (List.range (mW ad N cI cZ cJ u125).length) (rg_map _) (mW_nd _ _ _ _ _ _) rfl rfl rfl rfl hl.1 rfl (Nat.le_of_ble_eq_true rfl) dX13_named_127 ⟨Nat.le_of_ble_eq_true rfl, Nat.le_of_ble_eq_true rfl⟩) hP hD hS hA (fun u9 ce9 q9 H locs hx9 hP hD hS hc9 hv9 hf9 => ?_) (fun u169 H locs hw168 hP hD hS => ?_)
                  · exact vx_out (fun x h9 => (hnt x h9).elim) hlocks hc9 hv9 hf9 (fun t9 ht9 hv8 => ⟨u9, (FG.tr (FG.tr (FG.f (FG.rf _) ((v.1 0 47) + (1 : Int32)) (by decide)) (FG.up fr124 (by decide) (by decide))) hx9), ⟨rfl, by rw [ht9]; exact hP, hD⟩, hS.F ht9⟩) hS.2.2 (Nat.le_refl _) (Nat.le_refl _)
                  obtain ⟨fr168, pt168, pb168, pw168, po168, pf168, pk168, pp168, ph168, kc168, ko168, kg168, a35168, a37168, a38168, a40168, fx168⟩ := hw168
                  have pt168 : (u125.1 0 47).toInt + 1 ≤ (u169.1 0 47).toInt ∧ (u169.1 0 47).toInt ≤ 1500 := pt168
                  have pb168 : (u125.1 0 49).toInt ≠ (u125.1 0 47).toInt := pb168
                  have pw168 : (u125.1 0 12).toInt ≤ (u169.1 0 12).toInt ∧ (u169.1 0 12).toInt - 15 * (u169.1 0 47).toInt ≤ (u125.1 0 12).toInt - 15 * (u125.1 0 47).toInt := pw168
                  have po168 : (u125.1 0 15).toInt ≤ (u169.1 0 15).toInt ∧ (u169.1 0 15).toInt - 10 * (u169.1 0 47).toInt ≤ (u125.1 0 15).toInt - 10 * (u125.1 0 47).toInt := po168
                  have pf168 : (u125.1 0 43).toInt ≤ (u169.1 0 43).toInt ∧ (u169.1 0 43).toInt - 15 * (u169.1 0 47).toInt ≤ (u125.1 0 43).toInt - 15 * (u125.1 0 47).toInt := pf168
                  have pk168 : (u125.1 0 39).toInt ≤ (u169.1 0 39).toInt ∧ (u169.1 0 39).toInt - 1 * (u169.1 0 47).toInt ≤ (u125.1 0 39).toInt - 1 * (u125.1 0 47).toInt := pk168
                  have pp168 : (u169.1 0 32).toInt = (u125.1 0 32).toInt ∧ (u169.1 0 48).toInt = (u125.1 0 48).toInt := pp168
                  have ph168 : (u125.1 0 33).toInt ≤ (u169.1 0 33).toInt ∧ (u169.1 0 33).toInt ≤ 500 := ph168
                  have kc168 : ∀ j : Nat, (j : Int) < (u125.1 0 12).toInt → (u169.1 11) j = (u125.1 11) j := kc168
                  have ko168 : ∀ j : Nat, (j : Int) < (u125.1 0 15).toInt → (u169.1 13) j = (u125.1 13) j := ko168
                  have kg168 : ∀ j : Nat, (j : Int) < (u125.1 0 15).toInt → (u169.1 14) j = (u125.1 14) j := kg168
                  have a35168 : AR 35 0 1500 u169 := a35168
                  have a37168 : AR 37 0 23999 u169 := a37168
                  have a38168 : AR 38 0 15999 u169 := a38168
                  have a40168 : AR 40 0 23999 u169 := a40168
                  have fx168 : FX u169 := fx168
                  refine W.widen (k := 0) (n := 0) (Nat.le_refl _) (Nat.le_refl _) ?_
                  refine vx_ret ?_
                  exact W.vret hx hb hr (fun t ht9 hW => ⟨⟨u169, rfl, ⟨(FG.tr (FG.tr (FG.f (FG.rf _) ((v.1 0 47) + (1 : Int32)) (by decide)) (FG.up fr124 (by decide) (by decide))) (FG.up fr168 (by decide) (by decide))), (show (v.1 0 47).toInt + 1 ≤ (u169.1 0 47).toInt ∧ (u169.1 0 47).toInt ≤ 1500 from (om_1d8ba1df2e z1 pt124 pt168)), (show (v.1 0 49).toInt ≠ (v.1 0 47).toInt from (om_32294a9ce4 b117)), (show (v.1 0 12).toInt ≤ (u169.1 0 12).toInt ∧ (u169.1 0 12).toInt - 15 * (u169.1 0 47).toInt ≤ (v.1 0 12).toInt - 15 * (v.1 0 47).toInt from (om_b832e5d7ba z1 pw124 pw168)), (show (v.1 0 15).toInt ≤ (u169.1 0 15).toInt ∧ (u169.1 0 15).toInt - 10 * (u169.1 0 47).toInt ≤ (v.1 0 15).toInt - 10 * (v.1 0 47).toInt from (om_f9b45ec185 z1 po124 po168)), (show (v.1 0 43).toInt ≤ (u169.1 0 43).toInt ∧ (u169.1 0 43).toInt - 15 * (u169.1 0 47).toInt ≤ (v.1 0 43).toInt - 15 * (v.1 0 47).toInt from (om_b832e5d7ba z1 pf124 pf168)), (show (v.1 0 39).toInt ≤ (u169.1 0 39).toInt ∧ (u169.1 0 39).toInt - 1 * (u169.1 0 47).toInt ≤ (v.1 0 39).toInt - 1 * (v.1 0 47).toInt from (om_fe53acaec3 z1 pk124 pk168)), (show (u169.1 0 32).toInt = (v.1 0 32).toInt ∧ (u169.1 0 48).toInt = (v.1 0 48).toInt from (om_0c294573e3 pp124 pp168)), (show (v.1 0 33).toInt ≤ (u169.1 0 33).toInt ∧ (u169.1 0 33).toInt ≤ 500 from (om_121fab16d5 ph124 ph168)), (fun (j9 : Nat) hj9 => (Eq.trans (kc168 j9 (om_e81726c0b3 pw124 hj9)) (kc124 j9 (om_4fe904e9bf hj9)))), (fun (j9 : Nat) hj9 => (Eq.trans (ko168 j9 (om_24f6a8216f po124 hj9)) (ko124 j9 (om_4fe904e9bf hj9)))), (fun (j9 : Nat) hj9 => (Eq.trans (kg168 j9 (om_24f6a8216f po124 hj9)) (kg124 j9 (om_4fe904e9bf hj9)))), a35168, a37168, a38168, a40168, fx168⟩, by rw [ht9]; exact hP, hD⟩, hS.F ht9⟩) hS.2.2 dX13_named_130
            · have z171 : r4.toInt ≠ (1 : Int) := ne_z rfl (show (1 : Int32).toInt = (1 : Int) by decide) h115
              refine lv_aload_n hx hb dX13_named_75 rfl (lv_at hl 4 rfl) ?_
              refine lv_iconst (v := 3) hx hb dX13_named_76 (by decide) ?_
              refine lv_aload_n hx hb dX13_named_77 rfl (lv_at hl 4 rfl) ?_
              refine va_get (D := (dC, dI)) (ci := 16) (fs := mF ad v) (v := .int (v.1 0 47)) (C := RX13) (T := TX13) (N := 124) hx hb ht itX13 hown hK hP 0 rfl rfl 47 (by decide) (ht _ tw_24) (fun _ h9 => h9) rfl dX13_named_78 ?_
              refine cu_r (rn_V (n := 2) (As := [.int 3, .int (v.1 0 47)]) (rest := []) hx hb hml hown ht hKK hFx hP hD hS hA (c_m_fail l dC dI cI cB cZ cJ cR tb H.size ad N v (3 : Int32) (v.1 0 47) (show 0 ≤ (v.1 0 47).toInt ∧ (v.1 0 47).toInt < 4002 from (om_d0702dcce3 zt zfs))) tw_25 tw_26 (by decide +kernel) rfl rfl ⟨show 0 + 1 ≤ 40 * n + 34 from om_5cf133fb1a, show 8 + (3 + 11) + 0 ≤ 28 * (40 * n + 34) from om_c7f93e786a⟩ (List.range (mW ad N cI cZ cJ v).length) (rg_map _) (mW_nd _ _ _ _ _ _) rfl rfl rfl rfl hl.1 rfl (Nat.le_of_ble_eq_true rfl) dX13_named_81 ⟨Nat.le_of_ble_eq_true rfl, Nat.le_of_ble_eq_true rfl⟩) hP hD hS hA (fun u173 H locs hw172 hP hD hS => ?_)
              obtain rfl := hw172
              have hP : va_P (dC, dI) vwCl (mW ad N cI cZ cJ (wA (wA v 0 50 (3 : Int32)) 0 51 ((v.1 7) (v.1 0 47).toNatClampNeg))) H := hP
              have hD : va_D A (mW ad N cI cZ cJ (wA (wA v 0 50 (3 : Int32)) 0 51 ((v.1 7) (v.1 0 47).toNatClampNeg))) := hD
              refine W.widen (k := 0) (n := 0) (Nat.le_refl _) (Nat.le_refl _) ?_
              obtain ⟨ce9, hc9, hv9, hf9⟩ := halt_at hK hP
              refine um_athrow hx hb dX13_named_84 ?_
              exact vx_out (fun x h9 => (hnt x h9).elim) hlocks hc9 hv9 hf9 (fun t9 ht9 hv8 => ⟨(wA (wA v 0 50 (3 : Int32)) 0 51 ((v.1 7) (v.1 0 47).toNatClampNeg)), (FG.f (FG.f (FG.rf _) (3 : Int32) (by decide)) ((v.1 7) (v.1 0 47).toNatClampNeg) (by decide)), ⟨rfl, by rw [ht9]; exact hP, hD⟩, hS.F ht9⟩) hS.2.2 (Nat.le_refl _) (Nat.le_refl _)
theorem om_abdd9f269c {n0 : Nat} : (40 * n0 + 32) + 1 ≤ 40 * n0 + 36 := by omega
theorem om_01dd4a18cf {n0 : Nat} : 8 + (6 + 11) + 28 * (40 * n0 + 32) ≤ 28 * (40 * n0 + 36) := by omega
theorem om_2fca827bee {x0 x1 x2 : Int} (h0 : x0 + 0 ≤ x1 ∧ x1 ≤ 1500) (h1 : (0 : Int) ≠ 0 ∨ (x0 + 1 ≤ x1 ∧ x2 ≠ x0)) : x0 + 1 ≤ x1 ∧ x1 ≤ 1500 := by omega
theorem om_9f349edd0c {x0 x1 x2 : Int} (h0 : (0 : Int) ≠ 0 ∨ (x0 + 1 ≤ x1 ∧ x2 ≠ x0)) : x2 ≠ x0 := by omega
theorem om_29b9a70588 {n0 : Nat} : 0 + 1 ≤ 40 * n0 + 36 := by omega
theorem om_e35a242119 {n0 : Nat} : 8 + (3 + 11) + 0 ≤ 28 * (40 * n0 + 36) := by omega
theorem om_12584aca34 {n0 : Nat} : (40 * n0 + 34) + 1 ≤ 40 * n0 + 36 := by omega
theorem om_84a24dae0d {n0 : Nat} : 8 + (7 + 11) + 28 * (40 * n0 + 34) ≤ 28 * (40 * n0 + 36) := by omega
set_option maxHeartbeats 16000000 in
set_option maxRecDepth 100000 in
theorem c_m_expression (l : Launch) (n : Nat) (ihE : ∀ m, n = m + 1 → Cx_expression l m) (C : Cx_choice l n) (dC : Nat → ClassId) (dI : Nat → Nat → Nat) (cI cB cZ cJ cR : ClassId) (tb : Nat → Nat) (sz : Nat) (ad : Nat → Nat) (N : Nat) (v : MS)  (zn : 40 ≤ (v.1 0 48).toInt + (n : Int)) (zt : 0 ≤ (v.1 0 47).toInt ∧ (v.1 0 47).toInt ≤ 1500) (zop : 0 ≤ (v.1 0 48).toInt ∧ (v.1 0 48).toInt ≤ 40) (zkn : 0 ≤ (v.1 0 30).toInt ∧ (v.1 0 30).toInt ≤ 500) (zhi : 0 ≤ (v.1 0 33).toInt ∧ (v.1 0 33).toInt ≤ 500) (zs : 0 ≤ (v.1 0 32).toInt ∧ (v.1 0 30).toInt + (v.1 0 32).toInt ≤ (v.1 0 33).toInt) (zws : 0 ≤ (v.1 0 12).toInt ∧ (v.1 0 12).toInt ≤ 15 * (v.1 0 47).toInt + 2) (zos : 0 ≤ (v.1 0 15).toInt ∧ (v.1 0 15).toInt ≤ 10 * (v.1 0 47).toInt + 0) (zfs : 0 ≤ (v.1 0 43).toInt ∧ (v.1 0 43).toInt ≤ 15 * (v.1 0 47).toInt + 0) (zcs : 0 ≤ (v.1 0 39).toInt ∧ (v.1 0 39).toInt ≤ 1 * (v.1 0 47).toInt + 0) (zgl : 0 ≤ (v.1 0 27).toInt ∧ (v.1 0 27).toInt ≤ 60) (hT : TI v) (a29 : AR 29 0 1500 v) (a23 : AR 23 0 1500 v) (a35 : AR 35 0 1500 v) (a37 : AR 37 0 23999 v) (a38 : AR 38 0 15999 v) (a40 : AR 40 0 23999 v) (fx : FX v) : vx_Met l yX13_expression (Cond.code yX13_expression cX13_expression 1 none :: tw_W) ({ frames := 40 * n + 36, cells := 0, slots := 0, locals := 28 * (40 * n + 36) }) (pc_ (dC, dI) (tyS cI cB cZ cJ cR) tb (mW ad N cI cZ cJ v) sz [.ref (ad 0)]) (qv_ (dC, dI) (mW ad N cI cZ cJ v) sz (fun (u : MS) => FG [12, 15, 32, 33, 39, 43, 44, 45, 47, 48, 49, 50, 51] [0, 11, 13, 14, 35, 36, 37, 38, 40, 41, 42] v u ∧ ((v.1 0 47).toInt + 1 ≤ (u.1 0 47).toInt ∧ (u.1 0 47).toInt ≤ 1500) ∧ ((v.1 0 49).toInt ≠ (v.1 0 47).toInt) ∧ ((v.1 0 12).toInt ≤ (u.1 0 12).toInt ∧ (u.1 0 12).toInt - 15 * (u.1 0 47).toInt ≤ (v.1 0 12).toInt - 15 * (v.1 0 47).toInt) ∧ ((v.1 0 15).toInt ≤ (u.1 0 15).toInt ∧ (u.1 0 15).toInt - 10 * (u.1 0 47).toInt ≤ (v.1 0 15).toInt - 10 * (v.1 0 47).toInt) ∧ ((v.1 0 43).toInt ≤ (u.1 0 43).toInt ∧ (u.1 0 43).toInt - 15 * (u.1 0 47).toInt ≤ (v.1 0 43).toInt - 15 * (v.1 0 47).toInt) ∧ ((v.1 0 39).toInt ≤ (u.1 0 39).toInt ∧ (u.1 0 39).toInt - 1 * (u.1 0 47).toInt ≤ (v.1 0 39).toInt - 1 * (v.1 0 47).toInt) ∧ ((u.1 0 32).toInt = (v.1 0 32).toInt ∧ (u.1 0 48).toInt = (v.1 0 48).toInt) ∧ ((v.1 0 33).toInt ≤ (u.1 0 33).toInt ∧ (u.1 0 33).toInt ≤ 500) ∧ (∀ j : Nat, (j : Int) < (v.1 0 12).toInt → (u.1 11) j = (v.1 11) j) ∧ (∀ j : Nat, (j : Int) < (v.1 0 15).toInt → (u.1 13) j = (v.1 13) j) ∧ (∀ j : Nat, (j : Int) < (v.1 0 15).toInt → (u.1 14) j = (v.1 14) j) ∧ (AR 35 0 1500 u) ∧ (AR 37 0 23999 u) ∧ (AR 38 0 15999 u) ∧ (AR 40 0 23999 u) ∧ (FX u)) (fun (u : MS) => (mW ad N cI cZ cJ u))) (qxm (dC, dI) (mW ad N cI cZ cJ v) sz (fun (u : MS) => (mW ad N cI cZ cJ u)) (fun (u : MS) => Fr v u)) 0 0 (va_A (mW ad N cI cZ cJ v) sz) := by
  refine vx_ofW (cc := cX13_expression) (maxL := 1) (ret := none) (by decide) rfl ?_
  intro p e s m args below meth c s₁ B hml hnt hv
  obtain ⟨rfl, hsz, hP, hKK, hD0, hFx⟩ := hv
  have hK := hKK.1
  have hx := B.exec
  have hb := B.bytes
  have hr := B.returns
  have ht : ∀ w ∈ tw_W, w.before _ s = true := fun w h => atoms_spec (ws := Cond.code yX13_expression cX13_expression 1 none :: tw_W) B.pre w (List.mem_cons_of_mem _ h)
  have hown : s.vm.findClass RX13 = some m.cls := findClass_of_methodNamed B.named
  have hlocks := B.notSynchronized
  subst hsz
  unfold qv_ qxm
  have hD := hD0.self (sz := s.heap.size)
  generalize hAe : va_A (mW ad N cI cZ cJ v) s.heap.size = A at hD hFx ⊢
  have hA : ∀ q : Nat, s.heap.size ≤ q → A q := fun q h => by rw [← hAe]; exact Or.inr h
  have hS : va_S A s.heap s.heap [] := va_S.rf
  have hl := lv_entry ([.ref (ad 0)]) (n := 1) (Nat.le_of_ble_eq_true rfl)
  rw [lg_entry_eq]
  generalize (lg_sl ([.ref (ad 0)]) ++ List.replicate (1 - (lg_sl ([.ref (ad 0)])).length) Slot.unset).toArray = ls at hl ⊢
  have hl : lv_has ls 1 [(0, .ref (ad 0))] := hl
  refine lv_aload_n hx hb dX13_expression_0 rfl (lv_at hl 0 rfl) ?_
  refine va_get (D := (dC, dI)) (ci := 16) (fs := mF ad v) (v := .ref (ad 6)) (C := RX13) (T := TX13) (N := 124) hx hb ht itX13 hown hK hP 0 rfl rfl 6 (by decide) (ht _ tw_23) (fun _ h9 => h9) rfl dX13_expression_1 ?_
  refine lv_aload_n hx hb dX13_expression_4 rfl (lv_at hl 0 rfl) ?_
  refine va_get (D := (dC, dI)) (ci := 16) (fs := mF ad v) (v := .int (v.1 0 47)) (C := RX13) (T := TX13) (N := 124) hx hb ht itX13 hown hK hP 0 rfl rfl 47 (by decide) (ht _ tw_24) (fun _ h9 => h9) rfl dX13_expression_5 ?_
  refine va_iald (D := (dC, dI)) (f := (v.1 6)) hx hb hK hP 3 0 rfl rfl (in_y (a := (v.1 0 47).toInt) (b := 4002) rfl (om_e33521859d zfs) (om_449eb7e9bb zt) rfl) dX13_expression_8 ?_
  refine lv_iconst (v := 2) hx hb dX13_expression_9 (by decide) ?_
  refine lv_icmp_ne (tgt := 34) hx hb dX13_expression_10 (by decide) (fun h1 => ?_) (fun h1 => ?_)
  · have z2 : ((v.1 6) (v.1 0 47).toNatClampNeg).toInt ≠ (2 : Int) := ne_z rfl (show (2 : Int32).toInt = (2 : Int) by decide) h1
    refine lv_aload_n hx hb dX13_expression_34 rfl (lv_at hl 0 rfl) ?_
    refine lv_iconst (v := 0) hx hb dX13_expression_35 (by decide) ?_
    refine cux_v (rx_V (n := 1) (As := [.int 0]) (rest := []) hx hb hml hown ht hKK hFx hP hD hS hA (C dC dI cI cB cZ cJ cR tb s.heap.size ad N v (0 : Int32) (show 40 ≤ (v.1 0 48).toInt + (n : Int) from (om_a9150ae9b6 zn)) (show 0 ≤ (v.1 0 47).toInt ∧ (v.1 0 47).toInt ≤ 1500 from (om_2fb699b811 zt zfs)) (show 0 ≤ (v.1 0 48).toInt ∧ (v.1 0 48).toInt ≤ 40 from (om_7eaf33e007 zop)) (show 0 ≤ (v.1 0 30).toInt ∧ (v.1 0 30).toInt ≤ 500 from (om_9861e69da5 zkn)) (show 0 ≤ (v.1 0 33).toInt ∧ (v.1 0 33).toInt ≤ 500 from (om_9861e69da5 zhi)) (show 0 ≤ (v.1 0 32).toInt ∧ (v.1 0 30).toInt + (v.1 0 32).toInt ≤ (v.1 0 33).toInt from (om_f541e4003c zs)) (show 0 ≤ (v.1 0 12).toInt ∧ (v.1 0 12).toInt ≤ 15 * (v.1 0 47).toInt + 2 from (om_0093b55d27 zws)) (show 0 ≤ (v.1 0 15).toInt ∧ (v.1 0 15).toInt ≤ 10 * (v.1 0 47).toInt + 0 from (om_f99dd47f94 zos)) (show 0 ≤ (v.1 0 43).toInt ∧ (v.1 0 43).toInt ≤ 15 * (v.1 0 47).toInt + 0 from (om_116b0ae668 zfs)) (show 0 ≤ (v.1 0 39).toInt ∧ (v.1 0 39).toInt ≤ 1 * (v.1 0 47).toInt + 0 from (om_081ea48693 zcs)) (show 0 ≤ (v.1 0 27).toInt ∧ (v.1 0 27).toInt ≤ 60 from (om_1d2c7ad648 zgl)) (show TI v from FG.ti (fl := pfl) (al := pal) (FG.rf _) (by decide) (by decide) hT) (show AR 29 0 1500 v from a29) (show AR 23 0 1500 v from a23) (show AR 35 0 1500 v from a35) (show AR 37 0 23999 v from a37) (show AR 38 0 15999 v from a38) (show AR 40 0 23999 v from a40) (show FX v from fx)) tw_132 tw_133 (by decide +kernel) rfl rfl ⟨show (40 * n + 32) + 1 ≤ 40 * n + 36 from om_abdd9f269c, show 8 + (6 + 11) + 28 * (40 * n + 32) ≤ 28 * (40 * n + 36) from om_01dd4a18cf⟩ (List.range (mW ad N cI cZ cJ v).length) (rg_map _) (mW_nd _ _ _ _ _ _) rfl rfl rfl rfl hl.1 rfl (Nat.le_of_ble_eq_true rfl) dX13_expression_36 ⟨Nat.le_of_ble_eq_true rfl, Nat.le_of_ble_eq_true rfl⟩) hP hD hS hA (fun u9 ce9 q9 H locs hx9 hP hD hS hc9 hv9 hf9 => ?_) (fun u4 H locs hw3 hP hD hS => ?_)
    · exact vx_out (fun x h9 => (hnt x h9).elim) hlocks hc9 hv9 hf9 (fun t9 ht9 hv8 => ⟨u9, (FG.tr (FG.rf _) hx9), ⟨rfl, by rw [ht9]; exact hP, hD⟩, hS.F ht9⟩) hS.2.2 (Nat.le_refl _) (Nat.le_refl _)
    obtain ⟨fr3, pt3, pb3, pw3, po3, pf3, pk3, pp3, ph3, kc3, ko3, kg3, a353, a373, a383, a403, fx3⟩ := hw3
    have pb3 : (0 : Int) ≠ 0 ∨ ((v.1 0 47).toInt + 1 ≤ (u4.1 0 47).toInt ∧ (v.1 0 49).toInt ≠ (v.1 0 47).toInt) := pb3
    refine W.widen (k := 0) (n := 0) (Nat.le_refl _) (Nat.le_refl _) ?_
    refine vx_ret ?_
    exact W.vret hx hb hr (fun t ht9 hW => ⟨⟨u4, rfl, ⟨(FG.tr (FG.rf _) (FG.up fr3 (by decide) (by decide))), (show (v.1 0 47).toInt + 1 ≤ (u4.1 0 47).toInt ∧ (u4.1 0 47).toInt ≤ 1500 from (om_2fca827bee pt3 pb3)), (show (v.1 0 49).toInt ≠ (v.1 0 47).toInt from (om_9f349edd0c pb3)), (show (v.1 0 12).toInt ≤ (u4.1 0 12).toInt ∧ (u4.1 0 12).toInt - 15 * (u4.1 0 47).toInt ≤ (v.1 0 12).toInt - 15 * (v.1 0 47).toInt from (om_bd8d9916e4 pw3)), (show (v.1 0 15).toInt ≤ (u4.1 0 15).toInt ∧ (u4.1 0 15).toInt - 10 * (u4.1 0 47).toInt ≤ (v.1 0 15).toInt - 10 * (v.1 0 47).toInt from (om_75227e8328 po3)), (show (v.1 0 43).toInt ≤ (u4.1 0 43).toInt ∧ (u4.1 0 43).toInt - 15 * (u4.1 0 47).toInt ≤ (v.1 0 43).toInt - 15 * (v.1 0 47).toInt from (om_bd8d9916e4 pf3)), (show (v.1 0 39).toInt ≤ (u4.1 0 39).toInt ∧ (u4.1 0 39).toInt - 1 * (u4.1 0 47).toInt ≤ (v.1 0 39).toInt - 1 * (v.1 0 47).toInt from (om_da0fc15040 pk3)), (show (u4.1 0 32).toInt = (v.1 0 32).toInt ∧ (u4.1 0 48).toInt = (v.1 0 48).toInt from (om_d31db81a70 pp3)), (show (v.1 0 33).toInt ≤ (u4.1 0 33).toInt ∧ (u4.1 0 33).toInt ≤ 500 from (om_6bc0cea141 ph3)), (fun (j9 : Nat) hj9 => (kc3 j9 (om_4fe904e9bf hj9))), (fun (j9 : Nat) hj9 => (ko3 j9 (om_4fe904e9bf hj9))), (fun (j9 : Nat) hj9 => (kg3 j9 (om_4fe904e9bf hj9))), a353, a373, a383, a403, fx3⟩, by rw [ht9]; exact hP, hD⟩, hS.F ht9⟩) hS.2.2 dX13_expression_39
  · have z6 : ((v.1 6) (v.1 0 47).toNatClampNeg).toInt = (2 : Int) := eq_z rfl (show (2 : Int32).toInt = (2 : Int) by decide) h1
    refine lv_aload_n hx hb dX13_expression_13 rfl (lv_at hl 0 rfl) ?_
    refine lv_aload_n hx hb dX13_expression_14 rfl (lv_at hl 0 rfl) ?_
    refine va_get (D := (dC, dI)) (ci := 16) (fs := mF ad v) (v := .int (v.1 0 47)) (C := RX13) (T := TX13) (N := 124) hx hb ht itX13 hown hK hP 0 rfl rfl 47 (by decide) (ht _ tw_24) (fun _ h9 => h9) rfl dX13_expression_15 ?_
    refine lv_iconst (v := 1) hx hb dX13_expression_18 (by decide) ?_
    refine lv_iadd hx hb dX13_expression_19 ?_
    have z7 : ((v.1 0 47) + (1 : Int32)).toInt = ((v.1 0 47).toInt) + (1 : Int) := add_z rfl (show (1 : Int32).toInt = (1 : Int) by decide) (om_3eca9b17a5 zws) (om_27eb55d06c zt)
    refine lv_bipush (v := 40) hx hb dX13_expression_20 (by decide) ?_
    refine cu_i (rn_V (n := 2) (As := [.int ((v.1 0 47) + (1 : Int32)), .int 40]) (rest := []) hx hb hml hown ht hKK hFx hP hD hS hA (c_m_isSign l dC dI cI cB cZ cJ cR tb s.heap.size ad N v ((v.1 0 47) + (1 : Int32)) (40 : Int32) (show 0 ≤ ((v.1 0 47) + (1 : Int32)).toInt ∧ ((v.1 0 47) + (1 : Int32)).toInt < 4002 from (om_6662b95370 zt zfs z7))) tw_28 tw_29 (by decide +kernel) rfl rfl ⟨show 0 + 1 ≤ 40 * n + 36 from om_29b9a70588, show 8 + (3 + 11) + 0 ≤ 28 * (40 * n + 36) from om_e35a242119⟩ (List.range (mW ad N cI cZ cJ v).length) (rg_map _) (mW_nd _ _ _ _ _ _) rfl rfl rfl rfl hl.1 rfl (Nat.le_of_ble_eq_true rfl) dX13_expression_22 ⟨Nat.le_of_ble_eq_true rfl, Nat.le_of_ble_eq_true rfl⟩) hP hD hS hA (fun r10 u9 H locs hw8 hP hD hS => ?_)
    obtain ⟨rfl, b8, e8⟩ := hw8
    refine W.widen (k := 0) (n := 0) (Nat.le_refl _) (Nat.le_refl _) ?_
    refine lv_if_ne (tgt := 34) hx hb dX13_expression_25 (by decide) (fun h11 => ?_) (fun h11 => ?_)
    · have z12 : r10.toInt ≠ (0 : Int) := ne_z rfl (show (0 : Int32).toInt = (0 : Int) by decide) h11
      refine lv_aload_n hx hb dX13_expression_34 rfl (lv_at hl 0 rfl) ?_
      refine lv_iconst (v := 0) hx hb dX13_expression_35 (by decide) ?_
      refine cux_v (rx_V (n := 1) (As := [.int 0]) (rest := []) hx hb hml hown ht hKK hFx hP hD hS hA (C dC dI cI cB cZ cJ cR tb H.size ad N v (0 : Int32) (show 40 ≤ (v.1 0 48).toInt + (n : Int) from (om_a9150ae9b6 zn)) (show 0 ≤ (v.1 0 47).toInt ∧ (v.1 0 47).toInt ≤ 1500 from (om_2fb699b811 zt zfs)) (show 0 ≤ (v.1 0 48).toInt ∧ (v.1 0 48).toInt ≤ 40 from (om_7eaf33e007 zop)) (show 0 ≤ (v.1 0 30).toInt ∧ (v.1 0 30).toInt ≤ 500 from (om_9861e69da5 zkn)) (show 0 ≤ (v.1 0 33).toInt ∧ (v.1 0 33).toInt ≤ 500 from (om_9861e69da5 zhi)) (show 0 ≤ (v.1 0 32).toInt ∧ (v.1 0 30).toInt + (v.1 0 32).toInt ≤ (v.1 0 33).toInt from (om_f541e4003c zs)) (show 0 ≤ (v.1 0 12).toInt ∧ (v.1 0 12).toInt ≤ 15 * (v.1 0 47).toInt + 2 from (om_0093b55d27 zws)) (show 0 ≤ (v.1 0 15).toInt ∧ (v.1 0 15).toInt ≤ 10 * (v.1 0 47).toInt + 0 from (om_f99dd47f94 zos)) (show 0 ≤ (v.1 0 43).toInt ∧ (v.1 0 43).toInt ≤ 15 * (v.1 0 47).toInt + 0 from (om_116b0ae668 zfs)) (show 0 ≤ (v.1 0 39).toInt ∧ (v.1 0 39).toInt ≤ 1 * (v.1 0 47).toInt + 0 from (om_081ea48693 zcs)) (show 0 ≤ (v.1 0 27).toInt ∧ (v.1 0 27).toInt ≤ 60 from (om_1d2c7ad648 zgl)) (show TI v from FG.ti (fl := pfl) (al := pal) (FG.rf _) (by decide) (by decide) hT) (show AR 29 0 1500 v from a29) (show AR 23 0 1500 v from a23) (show AR 35 0 1500 v from a35) (show AR 37 0 23999 v from a37) (show AR 38 0 15999 v from a38) (show AR 40 0 23999 v from a40) (show FX v from fx)) tw_132 tw_133 (by decide +kernel) rfl rfl ⟨show (40 * n + 32) + 1 ≤ 40 * n + 36 from om_abdd9f269c, show 8 + (6 + 11) + 28 * (40 * n + 32) ≤ 28 * (40 * n + 36) from om_01dd4a18cf⟩ (List.range (mW ad N cI cZ cJ v).length) (rg_map _) (mW_nd _ _ _ _ _ _) rfl rfl rfl rfl hl.1 rfl (Nat.le_of_ble_eq_true rfl) dX13_expression_36 ⟨Nat.le_of_ble_eq_true rfl, Nat.le_of_ble_eq_true rfl⟩) hP hD hS hA (fun u9 ce9 q9 H locs hx9 hP hD hS hc9 hv9 hf9 => ?_) (fun u14 H locs hw13 hP hD hS => ?_)
      · exact vx_out (fun x h9 => (hnt x h9).elim) hlocks hc9 hv9 hf9 (fun t9 ht9 hv8 => ⟨u9, (FG.tr (FG.rf _) hx9), ⟨rfl, by rw [ht9]; exact hP, hD⟩, hS.F ht9⟩) hS.2.2 (Nat.le_refl _) (Nat.le_refl _)
      obtain ⟨fr13, pt13, pb13, pw13, po13, pf13, pk13, pp13, ph13, kc13, ko13, kg13, a3513, a3713, a3813, a4013, fx13⟩ := hw13
      have pb13 : (0 : Int) ≠ 0 ∨ ((v.1 0 47).toInt + 1 ≤ (u14.1 0 47).toInt ∧ (v.1 0 49).toInt ≠ (v.1 0 47).toInt) := pb13
      refine W.widen (k := 0) (n := 0) (Nat.le_refl _) (Nat.le_refl _) ?_
      refine vx_ret ?_
      exact W.vret hx hb hr (fun t ht9 hW => ⟨⟨u14, rfl, ⟨(FG.tr (FG.rf _) (FG.up fr13 (by decide) (by decide))), (show (v.1 0 47).toInt + 1 ≤ (u14.1 0 47).toInt ∧ (u14.1 0 47).toInt ≤ 1500 from (om_2fca827bee pt13 pb13)), (show (v.1 0 49).toInt ≠ (v.1 0 47).toInt from (om_9f349edd0c pb13)), (show (v.1 0 12).toInt ≤ (u14.1 0 12).toInt ∧ (u14.1 0 12).toInt - 15 * (u14.1 0 47).toInt ≤ (v.1 0 12).toInt - 15 * (v.1 0 47).toInt from (om_bd8d9916e4 pw13)), (show (v.1 0 15).toInt ≤ (u14.1 0 15).toInt ∧ (u14.1 0 15).toInt - 10 * (u14.1 0 47).toInt ≤ (v.1 0 15).toInt - 10 * (v.1 0 47).toInt from (om_75227e8328 po13)), (show (v.1 0 43).toInt ≤ (u14.1 0 43).toInt ∧ (u14.1 0 43).toInt - 15 * (u14.1 0 47).toInt ≤ (v.1 0 43).toInt - 15 * (v.1 0 47).toInt from (om_bd8d9916e4 pf13)), (show (v.1 0 39).toInt ≤ (u14.1 0 39).toInt ∧ (u14.1 0 39).toInt - 1 * (u14.1 0 47).toInt ≤ (v.1 0 39).toInt - 1 * (v.1 0 47).toInt from (om_da0fc15040 pk13)), (show (u14.1 0 32).toInt = (v.1 0 32).toInt ∧ (u14.1 0 48).toInt = (v.1 0 48).toInt from (om_d31db81a70 pp13)), (show (v.1 0 33).toInt ≤ (u14.1 0 33).toInt ∧ (u14.1 0 33).toInt ≤ 500 from (om_6bc0cea141 ph13)), (fun (j9 : Nat) hj9 => (kc13 j9 (om_4fe904e9bf hj9))), (fun (j9 : Nat) hj9 => (ko13 j9 (om_4fe904e9bf hj9))), (fun (j9 : Nat) hj9 => (kg13 j9 (om_4fe904e9bf hj9))), a3513, a3713, a3813, a4013, fx13⟩, by rw [ht9]; exact hP, hD⟩, hS.F ht9⟩) hS.2.2 dX13_expression_39
    · have z16 : r10.toInt = (0 : Int) := eq_z rfl (show (0 : Int32).toInt = (0 : Int) by decide) h11
      refine lv_aload_n hx hb dX13_expression_28 rfl (lv_at hl 0 rfl) ?_
      refine lv_iconst (v := 1) hx hb dX13_expression_29 (by decide) ?_
      refine cux_v (rx_V (n := 1) (As := [.int 1]) (rest := []) hx hb hml hown ht hKK hFx hP hD hS hA (c_m_named1 l n ihE C dC dI cI cB cZ cJ cR tb H.size ad N v  (show 40 ≤ (v.1 0 48).toInt + (n : Int) from (om_a9150ae9b6 zn)) (show 0 ≤ (v.1 0 47).toInt ∧ (v.1 0 47).toInt ≤ 1500 from (om_2fb699b811 zt zfs)) (show 0 ≤ (v.1 0 48).toInt ∧ (v.1 0 48).toInt ≤ 40 from (om_7eaf33e007 zop)) (show 0 ≤ (v.1 0 30).toInt ∧ (v.1 0 30).toInt ≤ 500 from (om_9861e69da5 zkn)) (show 0 ≤ (v.1 0 33).toInt ∧ (v.1 0 33).toInt ≤ 500 from (om_9861e69da5 zhi)) (show 0 ≤ (v.1 0 32).toInt ∧ (v.1 0 30).toInt + (v.1 0 32).toInt ≤ (v.1 0 33).toInt from (om_f541e4003c zs)) (show 0 ≤ (v.1 0 12).toInt ∧ (v.1 0 12).toInt ≤ 15 * (v.1 0 47).toInt + 2 from (om_0093b55d27 zws)) (show 0 ≤ (v.1 0 15).toInt ∧ (v.1 0 15).toInt ≤ 10 * (v.1 0 47).toInt + 0 from (om_f99dd47f94 zos)) (show 0 ≤ (v.1 0 43).toInt ∧ (v.1 0 43).toInt ≤ 15 * (v.1 0 47).toInt + 0 from (om_116b0ae668 zfs)) (show 0 ≤ (v.1 0 39).toInt ∧ (v.1 0 39).toInt ≤ 1 * (v.1 0 47).toInt + 0 from (om_081ea48693 zcs)) (show 0 ≤ (v.1 0 27).toInt ∧ (v.1 0 27).toInt ≤ 60 from (om_1d2c7ad648 zgl)) (show TI v from FG.ti (fl := pfl) (al := pal) (FG.rf _) (by decide) (by decide) hT) (show AR 29 0 1500 v from a29) (show AR 23 0 1500 v from a23) (show AR 35 0 1500 v from a35) (show AR 37 0 23999 v from a37) (show AR 38 0 15999 v from a38) (show AR 40 0 23999 v from a40) (show FX v from fx)) tw_118 tw_119 (by decide +kernel) rfl rfl ⟨show (40 * n + 34) + 1 ≤ 40 * n + 36 from om_12584aca34, show 8 + (7 + 11) + 28 * (40 * n + 34) ≤ 28 * (40 * n + 36) from om_84a24dae0d⟩ (List.range (mW ad N cI cZ cJ v).length) (rg_map _) (mW_nd _ _ _ _ _ _) rfl rfl rfl rfl hl.1 rfl (Nat.le_of_ble_eq_true rfl) dX13_expression_30 ⟨Nat.le_of_ble_eq_true rfl, Nat.le_of_ble_eq_true rfl⟩) hP hD hS hA (fun u9 ce9 q9 H locs hx9 hP hD hS hc9 hv9 hf9 => ?_) (fun u18 H locs hw17 hP hD hS => ?_)
      · exact vx_out (fun x h9 => (hnt x h9).elim) hlocks hc9 hv9 hf9 (fun t9 ht9 hv8 => ⟨u9, (FG.tr (FG.rf _) hx9), ⟨rfl, by rw [ht9]; exact hP, hD⟩, hS.F ht9⟩) hS.2.2 (Nat.le_refl _) (Nat.le_refl _)
      obtain ⟨fr17, pt17, pb17, pw17, po17, pf17, pk17, pp17, ph17, kc17, ko17, kg17, a3517, a3717, a3817, a4017, fx17⟩ := hw17
      refine W.widen (k := 0) (n := 0) (Nat.le_refl _) (Nat.le_refl _) ?_
      refine vx_ret ?_
      exact W.vret hx hb hr (fun t ht9 hW => ⟨⟨u18, rfl, ⟨(FG.tr (FG.rf _) (FG.up fr17 (by decide) (by decide))), (show (v.1 0 47).toInt + 1 ≤ (u18.1 0 47).toInt ∧ (u18.1 0 47).toInt ≤ 1500 from (om_d90a70a533 pt17)), (show (v.1 0 49).toInt ≠ (v.1 0 47).toInt from (om_32294a9ce4 pb17)), (show (v.1 0 12).toInt ≤ (u18.1 0 12).toInt ∧ (u18.1 0 12).toInt - 15 * (u18.1 0 47).toInt ≤ (v.1 0 12).toInt - 15 * (v.1 0 47).toInt from (om_bd8d9916e4 pw17)), (show (v.1 0 15).toInt ≤ (u18.1 0 15).toInt ∧ (u18.1 0 15).toInt - 10 * (u18.1 0 47).toInt ≤ (v.1 0 15).toInt - 10 * (v.1 0 47).toInt from (om_75227e8328 po17)), (show (v.1 0 43).toInt ≤ (u18.1 0 43).toInt ∧ (u18.1 0 43).toInt - 15 * (u18.1 0 47).toInt ≤ (v.1 0 43).toInt - 15 * (v.1 0 47).toInt from (om_bd8d9916e4 pf17)), (show (v.1 0 39).toInt ≤ (u18.1 0 39).toInt ∧ (u18.1 0 39).toInt - 1 * (u18.1 0 47).toInt ≤ (v.1 0 39).toInt - 1 * (v.1 0 47).toInt from (om_da0fc15040 pk17)), (show (u18.1 0 32).toInt = (v.1 0 32).toInt ∧ (u18.1 0 48).toInt = (v.1 0 48).toInt from (om_d31db81a70 pp17)), (show (v.1 0 33).toInt ≤ (u18.1 0 33).toInt ∧ (u18.1 0 33).toInt ≤ 500 from (om_6bc0cea141 ph17)), (fun (j9 : Nat) hj9 => (kc17 j9 (om_4fe904e9bf hj9))), (fun (j9 : Nat) hj9 => (ko17 j9 (om_4fe904e9bf hj9))), (fun (j9 : Nat) hj9 => (kg17 j9 (om_4fe904e9bf hj9))), a3517, a3717, a3817, a4017, fx17⟩, by rw [ht9]; exact hP, hD⟩, hS.F ht9⟩) hS.2.2 dX13_expression_33
theorem cx_all (l : Launch) : ∀ n, Cx_expression l n ∧ Cx_operand l n ∧ Cx_choice l n := by
  intro n
  induction n with
  | zero =>
    have ihE : ∀ m, 0 = m + 1 → Cx_expression l m := fun m h => by omega
    have ihO : ∀ m, 0 = m + 1 → Cx_operand l m := fun m h => by omega
    have ihC : ∀ m, 0 = m + 1 → Cx_choice l m := fun m h => by omega
    have O : Cx_operand l 0 := c_m_operand l 0 ihE ihO
    have J : ∀ kk, Cx_joined l 0 kk := fun kk => by
      induction kk with
      | zero => exact c_m_joined l 0 0 O (fun m h => by omega)
      | succ k ih => exact c_m_joined l 0 (k + 1) O (fun m h => (show k = m by omega) ▸ ih)
    have C : Cx_choice l 0 := c_m_choice l 0 ihE ihC (J 10)
    exact ⟨c_m_expression l 0 ihE C, O, C⟩
  | succ n ih =>
    have ihE : ∀ m, n + 1 = m + 1 → Cx_expression l m := fun m h => (show n = m by omega) ▸ ih.1
    have ihO : ∀ m, n + 1 = m + 1 → Cx_operand l m := fun m h => (show n = m by omega) ▸ ih.2.1
    have ihC : ∀ m, n + 1 = m + 1 → Cx_choice l m := fun m h => (show n = m by omega) ▸ ih.2.2
    have O : Cx_operand l (n + 1) := c_m_operand l (n + 1) ihE ihO
    have J : ∀ kk, Cx_joined l (n + 1) kk := fun kk => by
      induction kk with
      | zero => exact c_m_joined l (n + 1) 0 O (fun m h => by omega)
      | succ k ih => exact c_m_joined l (n + 1) (k + 1) O (fun m h => (show k = m by omega) ▸ ih)
    have C : Cx_choice l (n + 1) := c_m_choice l (n + 1) ihE ihC (J 10)
    exact ⟨c_m_expression l (n + 1) ihE C, O, C⟩
