theorem dX13_choice_0 : decode cX13_choice 0 = .ok (.aload_n 0, 1) := by decide +kernel
theorem dX13_choice_1 : decode cX13_choice 1 = .ok (.iconst 1, 1) := by decide +kernel
theorem dX13_choice_2 : decode cX13_choice 2 = .ok (.iload_n 1, 1) := by decide +kernel
theorem dX13_choice_3 : decode cX13_choice 3 = .ok (.invokevirtual 310, 3) := by decide +kernel
theorem dX13_choice_6 : decode cX13_choice 6 = .ok (.aload_n 0, 1) := by decide +kernel
theorem dX13_choice_7 : decode cX13_choice 7 = .ok (.bipush 63, 2) := by decide +kernel
theorem dX13_choice_9 : decode cX13_choice 9 = .ok (.invokevirtual 158, 3) := by decide +kernel
theorem dX13_choice_12 : decode cX13_choice 12 = .ok (.ifCond .ne 4, 3) := by decide +kernel
theorem dX13_choice_16 : decode cX13_choice 16 = .ok (.aload_n 0, 1) := by decide +kernel
theorem dX13_choice_17 : decode cX13_choice 17 = .ok (.invokevirtual 165, 3) := by decide +kernel
theorem dX13_choice_20 : decode cX13_choice 20 = .ok (.aload_n 0, 1) := by decide +kernel
theorem dX13_choice_21 : decode cX13_choice 21 = .ok (.iconst 1, 1) := by decide +kernel
theorem dX13_choice_22 : decode cX13_choice 22 = .ok (.bipush 10, 2) := by decide +kernel
theorem dX13_choice_24 : decode cX13_choice 24 = .ok (.iconst 0, 1) := by decide +kernel
theorem dX13_choice_25 : decode cX13_choice 25 = .ok (.bipush 8, 2) := by decide +kernel
theorem dX13_choice_27 : decode cX13_choice 27 = .ok (.invokestatic 293, 3) := by decide +kernel
theorem dX13_choice_30 : decode cX13_choice 30 = .ok (.invokevirtual 111, 3) := by decide +kernel
theorem dX13_choice_33 : decode cX13_choice 33 = .ok (.pop, 1) := by decide +kernel
theorem dX13_choice_34 : decode cX13_choice 34 = .ok (.aload_n 0, 1) := by decide +kernel
theorem dX13_choice_35 : decode cX13_choice 35 = .ok (.iconst (-1), 1) := by decide +kernel
theorem dX13_choice_36 : decode cX13_choice 36 = .ok (.invokevirtual 314, 3) := by decide +kernel
theorem dX13_choice_39 : decode cX13_choice 39 = .ok (.istore_n 2, 1) := by decide +kernel
theorem dX13_choice_40 : decode cX13_choice 40 = .ok (.aload_n 0, 1) := by decide +kernel
theorem dX13_choice_41 : decode cX13_choice 41 = .ok (.bipush 10, 2) := by decide +kernel
theorem dX13_choice_43 : decode cX13_choice 43 = .ok (.iconst 0, 1) := by decide +kernel
theorem dX13_choice_44 : decode cX13_choice 44 = .ok (.invokevirtual 210, 3) := by decide +kernel
theorem dX13_choice_47 : decode cX13_choice 47 = .ok (.istore_n 3, 1) := by decide +kernel
theorem dX13_choice_48 : decode cX13_choice 48 = .ok (.aload_n 0, 1) := by decide +kernel
theorem dX13_choice_49 : decode cX13_choice 49 = .ok (.invokevirtual 284, 3) := by decide +kernel
theorem dX13_choice_52 : decode cX13_choice 52 = .ok (.aload_n 0, 1) := by decide +kernel
theorem dX13_choice_53 : decode cX13_choice 53 = .ok (.bipush 58, 2) := by decide +kernel
theorem dX13_choice_55 : decode cX13_choice 55 = .ok (.invokevirtual 168, 3) := by decide +kernel
theorem dX13_choice_58 : decode cX13_choice 58 = .ok (.aload_n 0, 1) := by decide +kernel
theorem dX13_choice_59 : decode cX13_choice 59 = .ok (.iconst (-1), 1) := by decide +kernel
theorem dX13_choice_60 : decode cX13_choice 60 = .ok (.invokevirtual 314, 3) := by decide +kernel
theorem dX13_choice_63 : decode cX13_choice 63 = .ok (.istore 4, 2) := by decide +kernel
theorem dX13_choice_65 : decode cX13_choice 65 = .ok (.aload_n 0, 1) := by decide +kernel
theorem dX13_choice_66 : decode cX13_choice 66 = .ok (.bipush 12, 2) := by decide +kernel
theorem dX13_choice_68 : decode cX13_choice 68 = .ok (.iconst 0, 1) := by decide +kernel
theorem dX13_choice_69 : decode cX13_choice 69 = .ok (.invokevirtual 210, 3) := by decide +kernel
theorem dX13_choice_72 : decode cX13_choice 72 = .ok (.istore 5, 2) := by decide +kernel
theorem dX13_choice_74 : decode cX13_choice 74 = .ok (.aload_n 0, 1) := by decide +kernel
theorem dX13_choice_75 : decode cX13_choice 75 = .ok (.iload_n 2, 1) := by decide +kernel
theorem dX13_choice_76 : decode cX13_choice 76 = .ok (.iconst 0, 1) := by decide +kernel
theorem dX13_choice_77 : decode cX13_choice 77 = .ok (.aload_n 0, 1) := by decide +kernel
theorem dX13_choice_78 : decode cX13_choice 78 = .ok (.getfield 104, 3) := by decide +kernel
theorem dX13_choice_81 : decode cX13_choice 81 = .ok (.invokevirtual 114, 3) := by decide +kernel
theorem dX13_choice_84 : decode cX13_choice 84 = .ok (.aload_n 0, 1) := by decide +kernel
theorem dX13_choice_85 : decode cX13_choice 85 = .ok (.getfield 124, 3) := by decide +kernel
theorem dX13_choice_88 : decode cX13_choice 88 = .ok (.iload_n 3, 1) := by decide +kernel
theorem dX13_choice_89 : decode cX13_choice 89 = .ok (.aload_n 0, 1) := by decide +kernel
theorem dX13_choice_90 : decode cX13_choice 90 = .ok (.getfield 121, 3) := by decide +kernel
theorem dX13_choice_93 : decode cX13_choice 93 = .ok (.iastore, 1) := by decide +kernel
theorem dX13_choice_94 : decode cX13_choice 94 = .ok (.aload_n 0, 1) := by decide +kernel
theorem dX13_choice_95 : decode cX13_choice 95 = .ok (.iconst 0, 1) := by decide +kernel
theorem dX13_choice_96 : decode cX13_choice 96 = .ok (.invokevirtual 243, 3) := by decide +kernel
theorem tw_132 : (.code yX13_choice cX13_choice 6 none : Cond) ∈ tw_W := tw_in (by decide +kernel) (by decide +kernel)
theorem tw_133 : ∀ w ∈ ([.methodLink RX13 243 yX13_choice, .instanceMethod yX13_choice, .selects RX13 yX13_choice yX13_choice, .initialized RX13] : List Cond), w ∈ tw_W := tw_all (by decide +kernel)
theorem dX13_choice_99 : decode cX13_choice 99 = .ok (.aload_n 0, 1) := by decide +kernel
theorem dX13_choice_100 : decode cX13_choice 100 = .ok (.iload 4, 2) := by decide +kernel
theorem dX13_choice_102 : decode cX13_choice 102 = .ok (.iconst 0, 1) := by decide +kernel
theorem dX13_choice_103 : decode cX13_choice 103 = .ok (.aload_n 0, 1) := by decide +kernel
theorem dX13_choice_104 : decode cX13_choice 104 = .ok (.getfield 104, 3) := by decide +kernel
theorem dX13_choice_107 : decode cX13_choice 107 = .ok (.invokevirtual 114, 3) := by decide +kernel
theorem dX13_choice_110 : decode cX13_choice 110 = .ok (.aload_n 0, 1) := by decide +kernel
theorem dX13_choice_111 : decode cX13_choice 111 = .ok (.getfield 124, 3) := by decide +kernel
theorem dX13_choice_114 : decode cX13_choice 114 = .ok (.iload 5, 2) := by decide +kernel
theorem dX13_choice_116 : decode cX13_choice 116 = .ok (.aload_n 0, 1) := by decide +kernel
theorem dX13_choice_117 : decode cX13_choice 117 = .ok (.getfield 121, 3) := by decide +kernel
theorem dX13_choice_120 : decode cX13_choice 120 = .ok (.iastore, 1) := by decide +kernel
theorem dX13_choice_121 : decode cX13_choice 121 = .ok (.aload_n 0, 1) := by decide +kernel
theorem dX13_choice_122 : decode cX13_choice 122 = .ok (.dup, 1) := by decide +kernel
theorem dX13_choice_123 : decode cX13_choice 123 = .ok (.getfield 151, 3) := by decide +kernel
theorem dX13_choice_126 : decode cX13_choice 126 = .ok (.iconst 1, 1) := by decide +kernel
theorem dX13_choice_127 : decode cX13_choice 127 = .ok (.isub, 1) := by decide +kernel
theorem dX13_choice_128 : decode cX13_choice 128 = .ok (.putfield 151, 3) := by decide +kernel
theorem dX13_choice_131 : decode cX13_choice 131 = .ok (.return_, 1) := by decide +kernel
theorem dX13_choice_15 : decode cX13_choice 15 = .ok (.return_, 1) := by decide +kernel
theorem dX13_named_103 : decode cX13_named 103 = .ok (.aload_n 0, 1) := by decide +kernel
theorem dX13_named_104 : decode cX13_named 104 = .ok (.invokevirtual 258, 3) := by decide +kernel
theorem tw_134 : (.code yX13_setting cX13_setting 5 (some .int) : Cond) ∈ tw_W := tw_in (by decide +kernel) (by decide +kernel)
theorem tw_135 : ∀ w ∈ ([.methodLink RX13 258 yX13_setting, .instanceMethod yX13_setting, .selects RX13 yX13_setting yX13_setting, .initialized RX13] : List Cond), w ∈ tw_W := tw_all (by decide +kernel)
theorem dX13_named_107 : decode cX13_named 107 = .ok (.goto 4, 3) := by decide +kernel
theorem dX13_named_177 : decode cX13_named 177 = .ok (.aload_n 0, 1) := by decide +kernel
theorem dX13_named_178 : decode cX13_named 178 = .ok (.iconst 1, 1) := by decide +kernel
theorem dX13_named_179 : decode cX13_named 179 = .ok (.invokevirtual 243, 3) := by decide +kernel
theorem dX13_named_119 : decode cX13_named 119 = .ok (.aload_n 0, 1) := by decide +kernel
theorem dX13_named_120 : decode cX13_named 120 = .ok (.iload 4, 2) := by decide +kernel
theorem dX13_named_122 : decode cX13_named 122 = .ok (.iload 5, 2) := by decide +kernel
theorem dX13_named_124 : decode cX13_named 124 = .ok (.iload_n 3, 1) := by decide +kernel
theorem dX13_named_125 : decode cX13_named 125 = .ok (.iload 6, 2) := by decide +kernel
theorem dX13_named_127 : decode cX13_named 127 = .ok (.invokevirtual 261, 3) := by decide +kernel
theorem tw_136 : (.code yX13_sets cX13_sets 8 none : Cond) ∈ tw_W := tw_in (by decide +kernel) (by decide +kernel)
theorem tw_137 : ∀ w ∈ ([.methodLink RX13 261 yX13_sets, .instanceMethod yX13_sets, .selects RX13 yX13_sets yX13_sets, .initialized RX13] : List Cond), w ∈ tw_W := tw_all (by decide +kernel)
theorem dX13_named_130 : decode cX13_named 130 = .ok (.return_, 1) := by decide +kernel
theorem dX13_expression_0 : decode cX13_expression 0 = .ok (.aload_n 0, 1) := by decide +kernel
theorem dX13_expression_1 : decode cX13_expression 1 = .ok (.getfield 41, 3) := by decide +kernel
theorem dX13_expression_4 : decode cX13_expression 4 = .ok (.aload_n 0, 1) := by decide +kernel
theorem dX13_expression_5 : decode cX13_expression 5 = .ok (.getfield 137, 3) := by decide +kernel
theorem dX13_expression_8 : decode cX13_expression 8 = .ok (.iaload, 1) := by decide +kernel
theorem dX13_expression_9 : decode cX13_expression 9 = .ok (.iconst 2, 1) := by decide +kernel
theorem dX13_expression_10 : decode cX13_expression 10 = .ok (.if_icmp .ne 24, 3) := by decide +kernel
theorem dX13_expression_34 : decode cX13_expression 34 = .ok (.aload_n 0, 1) := by decide +kernel
theorem dX13_expression_35 : decode cX13_expression 35 = .ok (.iconst 0, 1) := by decide +kernel
theorem dX13_expression_36 : decode cX13_expression 36 = .ok (.invokevirtual 243, 3) := by decide +kernel
theorem dX13_expression_39 : decode cX13_expression 39 = .ok (.return_, 1) := by decide +kernel
theorem dX13_expression_13 : decode cX13_expression 13 = .ok (.aload_n 0, 1) := by decide +kernel
theorem dX13_expression_14 : decode cX13_expression 14 = .ok (.aload_n 0, 1) := by decide +kernel
theorem dX13_expression_15 : decode cX13_expression 15 = .ok (.getfield 137, 3) := by decide +kernel
theorem dX13_expression_18 : decode cX13_expression 18 = .ok (.iconst 1, 1) := by decide +kernel
theorem dX13_expression_19 : decode cX13_expression 19 = .ok (.iadd, 1) := by decide +kernel
theorem dX13_expression_20 : decode cX13_expression 20 = .ok (.bipush 40, 2) := by decide +kernel
theorem dX13_expression_22 : decode cX13_expression 22 = .ok (.invokevirtual 144, 3) := by decide +kernel
theorem dX13_expression_25 : decode cX13_expression 25 = .ok (.ifCond .ne 9, 3) := by decide +kernel
theorem dX13_expression_28 : decode cX13_expression 28 = .ok (.aload_n 0, 1) := by decide +kernel
theorem dX13_expression_29 : decode cX13_expression 29 = .ok (.iconst 1, 1) := by decide +kernel
theorem dX13_expression_30 : decode cX13_expression 30 = .ok (.invokevirtual 239, 3) := by decide +kernel
theorem dX13_expression_33 : decode cX13_expression 33 = .ok (.return_, 1) := by decide +kernel
def Cx_choice (l : Launch) (n : Nat) : Prop := ∀ (dC : Nat → ClassId) (dI : Nat → Nat → Nat) (cI cB cZ cJ cR : ClassId) (tb : Nat → Nat) (sz : Nat) (ad : Nat → Nat) (N : Nat) (v : MS) (pa : Int32) (zn : 40 ≤ (v.1 0 48).toInt + (n : Int)) (zt : 0 ≤ (v.1 0 47).toInt ∧ (v.1 0 47).toInt ≤ 1500) (zop : 0 ≤ (v.1 0 48).toInt ∧ (v.1 0 48).toInt ≤ 40) (zkn : 0 ≤ (v.1 0 30).toInt ∧ (v.1 0 30).toInt ≤ 500) (zhi : 0 ≤ (v.1 0 33).toInt ∧ (v.1 0 33).toInt ≤ 500) (zs : 0 ≤ (v.1 0 32).toInt ∧ (v.1 0 30).toInt + (v.1 0 32).toInt ≤ 500) (zws : 0 ≤ (v.1 0 12).toInt ∧ (v.1 0 12).toInt ≤ 15 * (v.1 0 47).toInt + 2) (zos : 0 ≤ (v.1 0 15).toInt ∧ (v.1 0 15).toInt ≤ 10 * (v.1 0 47).toInt + 0) (zfs : 0 ≤ (v.1 0 43).toInt ∧ (v.1 0 43).toInt ≤ 15 * (v.1 0 47).toInt + 0) (zcs : 0 ≤ (v.1 0 39).toInt ∧ (v.1 0 39).toInt ≤ 1 * (v.1 0 47).toInt + 0) (zgl : 0 ≤ (v.1 0 27).toInt ∧ (v.1 0 27).toInt ≤ 60) (hT : TI v) (n29 : NI 29 v) (n23 : NI 23 v) (n35 : NI 35 v), vx_Met l yX13_choice (Cond.code yX13_choice cX13_choice 6 none :: tw_W) ({ frames := 40 * n + 32, cells := 0, slots := 0, locals := 28 * (40 * n + 32) }) (pc_ (dC, dI) (tyS cI cB cZ cJ cR) tb (mW ad N cI cZ cJ v) sz [.ref (ad 0), .int pa]) (qv_ (dC, dI) (mW ad N cI cZ cJ v) sz (fun (u : MS) => FG [12, 15, 32, 33, 39, 43, 44, 45, 47, 48, 49, 50, 51] [0, 11, 13, 14, 35, 36, 37, 38, 40, 41, 42] v u ∧ ((v.1 0 47).toInt + 0 ≤ (u.1 0 47).toInt ∧ (u.1 0 47).toInt ≤ 1500) ∧ (pa.toInt ≠ 0 ∨ ((v.1 0 47).toInt + 1 ≤ (u.1 0 47).toInt ∧ (v.1 0 49).toInt ≠ (v.1 0 47).toInt)) ∧ ((v.1 0 12).toInt ≤ (u.1 0 12).toInt ∧ (u.1 0 12).toInt - 15 * (u.1 0 47).toInt ≤ (v.1 0 12).toInt - 15 * (v.1 0 47).toInt) ∧ ((v.1 0 15).toInt ≤ (u.1 0 15).toInt ∧ (u.1 0 15).toInt - 10 * (u.1 0 47).toInt ≤ (v.1 0 15).toInt - 10 * (v.1 0 47).toInt) ∧ ((v.1 0 43).toInt ≤ (u.1 0 43).toInt ∧ (u.1 0 43).toInt - 15 * (u.1 0 47).toInt ≤ (v.1 0 43).toInt - 15 * (v.1 0 47).toInt) ∧ ((v.1 0 39).toInt ≤ (u.1 0 39).toInt ∧ (u.1 0 39).toInt - 1 * (u.1 0 47).toInt ≤ (v.1 0 39).toInt - 1 * (v.1 0 47).toInt) ∧ ((u.1 0 32).toInt = (v.1 0 32).toInt ∧ (u.1 0 48).toInt = (v.1 0 48).toInt) ∧ ((v.1 0 33).toInt ≤ (u.1 0 33).toInt ∧ (u.1 0 33).toInt ≤ 500) ∧ (∀ j : Nat, (j : Int) < (v.1 0 12).toInt → (u.1 11) j = (v.1 11) j) ∧ (∀ j : Nat, (j : Int) < (v.1 0 15).toInt → (u.1 13) j = (v.1 13) j) ∧ (∀ j : Nat, (j : Int) < (v.1 0 15).toInt → (u.1 14) j = (v.1 14) j) ∧ (NI 35 u)) (fun (u : MS) => (mW ad N cI cZ cJ u))) (qxm (dC, dI) (mW ad N cI cZ cJ v) sz (fun (u : MS) => (mW ad N cI cZ cJ u)) (fun (u : MS) => Fr v u)) 0 0 (va_A (mW ad N cI cZ cJ v) sz)
set_option maxHeartbeats 16000000 in
set_option maxRecDepth 100000 in
theorem c_m_choice (l : Launch) (n : Nat) (ihE : ∀ m, n = m + 1 → Cx_expression l m) (ihC : ∀ m, n = m + 1 → Cx_choice l m) (J : Cx_joined l n 10) (dC : Nat → ClassId) (dI : Nat → Nat → Nat) (cI cB cZ cJ cR : ClassId) (tb : Nat → Nat) (sz : Nat) (ad : Nat → Nat) (N : Nat) (v : MS) (pa : Int32) (zn : 40 ≤ (v.1 0 48).toInt + (n : Int)) (zt : 0 ≤ (v.1 0 47).toInt ∧ (v.1 0 47).toInt ≤ 1500) (zop : 0 ≤ (v.1 0 48).toInt ∧ (v.1 0 48).toInt ≤ 40) (zkn : 0 ≤ (v.1 0 30).toInt ∧ (v.1 0 30).toInt ≤ 500) (zhi : 0 ≤ (v.1 0 33).toInt ∧ (v.1 0 33).toInt ≤ 500) (zs : 0 ≤ (v.1 0 32).toInt ∧ (v.1 0 30).toInt + (v.1 0 32).toInt ≤ 500) (zws : 0 ≤ (v.1 0 12).toInt ∧ (v.1 0 12).toInt ≤ 15 * (v.1 0 47).toInt + 2) (zos : 0 ≤ (v.1 0 15).toInt ∧ (v.1 0 15).toInt ≤ 10 * (v.1 0 47).toInt + 0) (zfs : 0 ≤ (v.1 0 43).toInt ∧ (v.1 0 43).toInt ≤ 15 * (v.1 0 47).toInt + 0) (zcs : 0 ≤ (v.1 0 39).toInt ∧ (v.1 0 39).toInt ≤ 1 * (v.1 0 47).toInt + 0) (zgl : 0 ≤ (v.1 0 27).toInt ∧ (v.1 0 27).toInt ≤ 60) (hT : TI v) (n29 : NI 29 v) (n23 : NI 23 v) (n35 : NI 35 v) : vx_Met l yX13_choice (Cond.code yX13_choice cX13_choice 6 none :: tw_W) ({ frames := 40 * n + 32, cells := 0, slots := 0, locals := 28 * (40 * n + 32) }) (pc_ (dC, dI) (tyS cI cB cZ cJ cR) tb (mW ad N cI cZ cJ v) sz [.ref (ad 0), .int pa]) (qv_ (dC, dI) (mW ad N cI cZ cJ v) sz (fun (u : MS) => FG [12, 15, 32, 33, 39, 43, 44, 45, 47, 48, 49, 50, 51] [0, 11, 13, 14, 35, 36, 37, 38, 40, 41, 42] v u ∧ ((v.1 0 47).toInt + 0 ≤ (u.1 0 47).toInt ∧ (u.1 0 47).toInt ≤ 1500) ∧ (pa.toInt ≠ 0 ∨ ((v.1 0 47).toInt + 1 ≤ (u.1 0 47).toInt ∧ (v.1 0 49).toInt ≠ (v.1 0 47).toInt)) ∧ ((v.1 0 12).toInt ≤ (u.1 0 12).toInt ∧ (u.1 0 12).toInt - 15 * (u.1 0 47).toInt ≤ (v.1 0 12).toInt - 15 * (v.1 0 47).toInt) ∧ ((v.1 0 15).toInt ≤ (u.1 0 15).toInt ∧ (u.1 0 15).toInt - 10 * (u.1 0 47).toInt ≤ (v.1 0 15).toInt - 10 * (v.1 0 47).toInt) ∧ ((v.1 0 43).toInt ≤ (u.1 0 43).toInt ∧ (u.1 0 43).toInt - 15 * (u.1 0 47).toInt ≤ (v.1 0 43).toInt - 15 * (v.1 0 47).toInt) ∧ ((v.1 0 39).toInt ≤ (u.1 0 39).toInt ∧ (u.1 0 39).toInt - 1 * (u.1 0 47).toInt ≤ (v.1 0 39).toInt - 1 * (v.1 0 47).toInt) ∧ ((u.1 0 32).toInt = (v.1 0 32).toInt ∧ (u.1 0 48).toInt = (v.1 0 48).toInt) ∧ ((v.1 0 33).toInt ≤ (u.1 0 33).toInt ∧ (u.1 0 33).toInt ≤ 500) ∧ (∀ j : Nat, (j : Int) < (v.1 0 12).toInt → (u.1 11) j = (v.1 11) j) ∧ (∀ j : Nat, (j : Int) < (v.1 0 15).toInt → (u.1 13) j = (v.1 13) j) ∧ (∀ j : Nat, (j : Int) < (v.1 0 15).toInt → (u.1 14) j = (v.1 14) j) ∧ (NI 35 u)) (fun (u : MS) => (mW ad N cI cZ cJ u))) (qxm (dC, dI) (mW ad N cI cZ cJ v) sz (fun (u : MS) => (mW ad N cI cZ cJ u)) (fun (u : MS) => Fr v u)) 0 0 (va_A (mW ad N cI cZ cJ v) sz) := by
  refine vx_ofW (cc := cX13_choice) (maxL := 6) (ret := none) (by decide) rfl ?_
  intro p e s m args below meth c s₁ B hml hnt hv
  obtain ⟨rfl, hsz, hP, hKK, hD0, hFx⟩ := hv
  have hK := hKK.1
  have hx := B.exec
  have hb := B.bytes
  have hr := B.returns
  have ht : ∀ w ∈ tw_W, w.before _ s = true := fun w h => atoms_spec (ws := Cond.code yX13_choice cX13_choice 6 none :: tw_W) B.pre w (List.mem_cons_of_mem _ h)
  have hown : s.vm.findClass RX13 = some m.cls := findClass_of_methodNamed B.named
  have hlocks := B.notSynchronized
  subst hsz
  unfold qv_ qxm
  have hD := hD0.self (sz := s.heap.size)
  generalize hAe : va_A (mW ad N cI cZ cJ v) s.heap.size = A at hD hFx ⊢
  have hA : ∀ q : Nat, s.heap.size ≤ q → A q := fun q h => by rw [← hAe]; exact Or.inr h
  have hS : va_S A s.heap s.heap [] := va_S.rf
  have hl := lv_entry ([.ref (ad 0), .int pa]) (n := 6) (Nat.le_of_ble_eq_true rfl)
  rw [lg_entry_eq]
  generalize (lg_sl ([.ref (ad 0), .int pa]) ++ List.replicate (6 - (lg_sl ([.ref (ad 0), .int pa])).length) Slot.unset).toArray = ls at hl ⊢
  have hl : lv_has ls 6 [(0, .ref (ad 0)), (1, .int pa)] := hl
  refine lv_aload_n hx hb dX13_choice_0 rfl (lv_at hl 0 rfl) ?_
  refine lv_iconst (v := 1) hx hb dX13_choice_1 (by decide) ?_
  refine lv_iload_n hx hb dX13_choice_2 rfl (lv_at hl 1 rfl) ?_
  refine cux_v (rx_V (n := 2) (As := [.int 1, .int pa]) (rest := []) hx hb hml hown ht hKK hFx hP hD hS hA (J dC dI cI cB cZ cJ cR tb s.heap.size ad N v (1 : Int32) pa (show 40 ≤ (v.1 0 48).toInt + (n : Int) by omega) (show 0 ≤ (v.1 0 47).toInt ∧ (v.1 0 47).toInt ≤ 1500 by omega) (show 0 ≤ (v.1 0 48).toInt ∧ (v.1 0 48).toInt ≤ 40 by omega) (show 0 ≤ (v.1 0 30).toInt ∧ (v.1 0 30).toInt ≤ 500 by omega) (show 0 ≤ (v.1 0 33).toInt ∧ (v.1 0 33).toInt ≤ 500 by omega) (show 0 ≤ (v.1 0 32).toInt ∧ (v.1 0 30).toInt + (v.1 0 32).toInt ≤ 500 by omega) (show 0 ≤ (v.1 0 12).toInt ∧ (v.1 0 12).toInt ≤ 15 * (v.1 0 47).toInt + 2 by omega) (show 0 ≤ (v.1 0 15).toInt ∧ (v.1 0 15).toInt ≤ 10 * (v.1 0 47).toInt + 0 by omega) (show 0 ≤ (v.1 0 43).toInt ∧ (v.1 0 43).toInt ≤ 15 * (v.1 0 47).toInt + 0 by omega) (show 0 ≤ (v.1 0 39).toInt ∧ (v.1 0 39).toInt ≤ 1 * (v.1 0 47).toInt + 0 by omega) (show 0 ≤ (v.1 0 27).toInt ∧ (v.1 0 27).toInt ≤ 60 by omega) (FG.ti (fl := pfl) (al := pal) (FG.rf _) (by decide) (by decide) hT) (n29) (n23) (n35) (show 1 ≤ 1 ∧ 1 ≤ 12 ∧ 11 ≤ 1 + (10 : Int) by omega)) tw_124 tw_125 (by decide +kernel) rfl rfl ⟨by show (40 * n + 10 + 2 * 10) + 1 ≤ 40 * n + 32; omega, by show 8 + (6 + 11) + 28 * (40 * n + 10 + 2 * 10) ≤ 28 * (40 * n + 32); omega⟩ (List.range (mW ad N cI cZ cJ v).length) (rg_map _) (mW_nd _ _ _ _ _ _) rfl rfl rfl rfl hl.1 rfl (Nat.le_of_ble_eq_true rfl) dX13_choice_3 ⟨Nat.le_of_ble_eq_true rfl, Nat.le_of_ble_eq_true rfl⟩) hP hD hS hA (fun u9 ce9 q9 H locs hx9 hP hD hS hc9 hv9 hf9 => ?_) (fun u2 H locs hw1 hP hD hS => ?_)
  · exact vx_out (fun x h9 => (hnt x h9).elim) hlocks hc9 hv9 hf9 (fun t9 ht9 hv8 => ⟨u9, (FG.tr (FG.rf _) hx9), ⟨rfl, by rw [ht9]; exact hP, hD⟩, hS.F ht9⟩) hS.2.2 (by omega) (by omega)
  obtain ⟨fr1, pt1, pb1, pw1, po1, pf1, pk1, pp1, ph1, kc1, ko1, kg1, n351⟩ := hw1
  have q1_2 : (u2.1 0 2).toInt = (v.1 0 2).toInt := congrArg Int32.toInt ((fr1.2.1 2 (by decide)).trans (show v.1 0 2 = (v.1 0 2) by rfl))
  have q1_4 : (u2.1 0 4).toInt = (v.1 0 4).toInt := congrArg Int32.toInt ((fr1.2.1 4 (by decide)).trans (show v.1 0 4 = (v.1 0 4) by rfl))
  have q1_5 : (u2.1 0 5).toInt = (v.1 0 5).toInt := congrArg Int32.toInt ((fr1.2.1 5 (by decide)).trans (show v.1 0 5 = (v.1 0 5) by rfl))
  have q1_22 : (u2.1 0 22).toInt = (v.1 0 22).toInt := congrArg Int32.toInt ((fr1.2.1 22 (by decide)).trans (show v.1 0 22 = (v.1 0 22) by rfl))
  have q1_27 : (u2.1 0 27).toInt = (v.1 0 27).toInt := congrArg Int32.toInt ((fr1.2.1 27 (by decide)).trans (show v.1 0 27 = (v.1 0 27) by rfl))
  have q1_28 : (u2.1 0 28).toInt = (v.1 0 28).toInt := congrArg Int32.toInt ((fr1.2.1 28 (by decide)).trans (show v.1 0 28 = (v.1 0 28) by rfl))
  have q1_30 : (u2.1 0 30).toInt = (v.1 0 30).toInt := congrArg Int32.toInt ((fr1.2.1 30 (by decide)).trans (show v.1 0 30 = (v.1 0 30) by rfl))
  have q1_31 : (u2.1 0 31).toInt = (v.1 0 31).toInt := congrArg Int32.toInt ((fr1.2.1 31 (by decide)).trans (show v.1 0 31 = (v.1 0 31) by rfl))
  have q1_34 : (u2.1 0 34).toInt = (v.1 0 34).toInt := congrArg Int32.toInt ((fr1.2.1 34 (by decide)).trans (show v.1 0 34 = (v.1 0 34) by rfl))
  have q1_52 : (u2.1 0 52).toInt = (v.1 0 52).toInt := congrArg Int32.toInt ((fr1.2.1 52 (by decide)).trans (show v.1 0 52 = (v.1 0 52) by rfl))
  refine W.widen (k := 0) (n := 0) (by omega) (by omega) ?_
  refine lv_aload_n hx hb dX13_choice_6 rfl (lv_at hl 0 rfl) ?_
  refine lv_bipush (v := 63) hx hb dX13_choice_7 (by decide) ?_
  refine cu_i (rn_V (n := 1) (As := [.int 63]) (rest := []) hx hb hml hown ht hKK hFx hP hD hS hA (c_m_is l dC dI cI cB cZ cJ cR tb H.size ad N u2 (63 : Int32) (show 0 ≤ (u2.1 0 47).toInt ∧ (u2.1 0 47).toInt ≤ 1500 by omega)) tw_34 tw_35 (by decide +kernel) rfl rfl ⟨by show 1 + 1 ≤ 40 * n + 32; omega, by show 8 + (2 + 11) + 22 ≤ 28 * (40 * n + 32); omega⟩ (List.range (mW ad N cI cZ cJ u2).length) (rg_map _) (mW_nd _ _ _ _ _ _) rfl rfl rfl rfl hl.1 rfl (Nat.le_of_ble_eq_true rfl) dX13_choice_9 ⟨Nat.le_of_ble_eq_true rfl, Nat.le_of_ble_eq_true rfl⟩) hP hD hS hA (fun r6 u5 H locs hw4 hP hD hS => ?_)
  obtain ⟨rfl, b4⟩ := hw4
  have b4 : (r6 = 0 ∨ r6 = 1) := b4
  refine W.widen (k := 0) (n := 0) (by omega) (by omega) ?_
  refine lv_if_ne (tgt := 16) hx hb dX13_choice_12 (by decide) (fun h7 => ?_) (fun h7 => ?_)
  · have z8 : r6.toInt ≠ 0 := ne_z rfl (show (0 : Int32).toInt = 0 by decide) h7
    refine lv_aload_n hx hb dX13_choice_16 rfl (lv_at hl 0 rfl) ?_
    refine cux_v (rx_V (n := 0) (As := []) (rest := []) hx hb hml hown ht hKK hFx hP hD hS hA (c_m_opens l dC dI cI cB cZ cJ cR tb H.size ad N u2  (show 0 ≤ (u2.1 0 47).toInt ∧ (u2.1 0 47).toInt ≤ 1500 by omega) (show 0 ≤ (u2.1 0 48).toInt ∧ (u2.1 0 48).toInt ≤ 40 by omega)) tw_38 tw_39 (by decide +kernel) rfl rfl ⟨by show 2 + 1 ≤ 40 * n + 32; omega, by show 8 + (1 + 11) + 42 ≤ 28 * (40 * n + 32); omega⟩ (List.range (mW ad N cI cZ cJ u2).length) (rg_map _) (mW_nd _ _ _ _ _ _) rfl rfl rfl rfl hl.1 rfl (Nat.le_of_ble_eq_true rfl) dX13_choice_17 ⟨Nat.le_of_ble_eq_true rfl, Nat.le_of_ble_eq_true rfl⟩) hP hD hS hA (fun u9 ce9 q9 H locs hx9 hP hD hS hc9 hv9 hf9 => ?_) (fun u10 H locs hw9 hP hD hS => ?_)
    · exact vx_out (fun x h9 => (hnt x h9).elim) hlocks hc9 hv9 hf9 (fun t9 ht9 hv8 => ⟨u9, (FG.tr (FG.tr (FG.rf _) (FG.up fr1 (by decide) (by decide))) hx9), ⟨rfl, by rw [ht9]; exact hP, hD⟩, hS.F ht9⟩) hS.2.2 (by omega) (by omega)
    obtain ⟨rfl, a9, b9, c9⟩ := hw9
    have z12 : ((u2.1 0 47) + (1 : Int32)).toInt = (u2.1 0 47).toInt + 1 := add_z rfl (show (1 : Int32).toInt = 1 by decide) (by omega) (by omega)
    have z13 : ((u2.1 0 48) + (1 : Int32)).toInt = (u2.1 0 48).toInt + 1 := add_z rfl (show (1 : Int32).toInt = 1 by decide) (by omega) (by omega)
    have hP : va_P (dC, dI) vwCl (mW ad N cI cZ cJ (wA (wA u2 0 47 ((u2.1 0 47) + (1 : Int32))) 0 48 ((u2.1 0 48) + (1 : Int32)))) H := hP
    have hD : va_D A (mW ad N cI cZ cJ (wA (wA u2 0 47 ((u2.1 0 47) + (1 : Int32))) 0 48 ((u2.1 0 48) + (1 : Int32)))) := hD
    have a9 : (u2.1 0 47).toInt < 1500 := a9
    have b9 : (u2.1 0 48).toInt < 40 := b9
    have c9 : (u2.1 0 49).toInt ≠ (u2.1 0 47).toInt := c9
    refine W.widen (k := 0) (n := 0) (by omega) (by omega) ?_
    refine lv_aload_n hx hb dX13_choice_20 rfl (lv_at hl 0 rfl) ?_
    refine lv_iconst (v := 1) hx hb dX13_choice_21 (by decide) ?_
    refine lv_bipush (v := 10) hx hb dX13_choice_22 (by decide) ?_
    refine lv_iconst (v := 0) hx hb dX13_choice_24 (by decide) ?_
    refine lv_bipush (v := 8) hx hb dX13_choice_25 (by decide) ?_
    refine cu_s (mW_nd _ _ _ _ _ _) (rn_S (n := 4) (As := [.int 1, .int 10, .int 0, .int 8]) (rest := [.ref (ad 0)]) hx hb hml hown ht hKK hFx hP hD hS hA (c_m_byB l dC dI cI cB cZ cJ cR tb H.size (1 : Int32) (10 : Int32) (0 : Int32) (8 : Int32) ) tw_85 tw_86 (by decide +kernel) rfl rfl ⟨by show 0 + 1 ≤ 40 * n + 32; omega, by show 8 + (4 + 11) + 0 ≤ 28 * (40 * n + 32); omega⟩ [] rfl rfl rfl hl.1 rfl (Nat.le_of_ble_eq_true rfl) dX13_choice_27 ⟨Nat.le_of_ble_eq_true rfl, Nat.le_of_ble_eq_true rfl⟩) hP hD hS hA (fun r16 H locs hw14 hP hD hS => ?_)
    refine W.widen (k := 0) (n := 0) (by omega) (by omega) ?_
    refine cu_i (rn_V (n := 1) (As := [.int r16]) (rest := []) hx hb hml hown ht hKK hFx hP hD hS hA (c_m_emit l dC dI cI cB cZ cJ cR tb H.size ad N (wA (wA u2 0 47 ((u2.1 0 47) + (1 : Int32))) 0 48 ((u2.1 0 48) + (1 : Int32))) r16 (show 0 ≤ (u2.1 0 12).toInt ∧ (u2.1 0 12).toInt < 24000 by omega)) tw_8 tw_9 (by decide +kernel) rfl rfl ⟨by show 0 + 1 ≤ 40 * n + 32; omega, by show 8 + (2 + 11) + 0 ≤ 28 * (40 * n + 32); omega⟩ (List.range (mW ad N cI cZ cJ (wA (wA u2 0 47 ((u2.1 0 47) + (1 : Int32))) 0 48 ((u2.1 0 48) + (1 : Int32)))).length) (rg_map _) (mW_nd _ _ _ _ _ _) rfl rfl rfl rfl hl.1 rfl (Nat.le_of_ble_eq_true rfl) dX13_choice_30 ⟨Nat.le_of_ble_eq_true rfl, Nat.le_of_ble_eq_true rfl⟩) hP hD hS hA (fun r19 u18 H locs hw17 hP hD hS => ?_)
    obtain ⟨rfl, rfl⟩ := hw17
    have z20 : ((u2.1 0 12) + (1 : Int32)).toInt = (u2.1 0 12).toInt + 1 := add_z rfl (show (1 : Int32).toInt = 1 by decide) (by omega) (by omega)
    have hP : va_P (dC, dI) vwCl (mW ad N cI cZ cJ (wA (wA (wA (wA u2 0 47 ((u2.1 0 47) + (1 : Int32))) 0 48 ((u2.1 0 48) + (1 : Int32))) 11 ((u2.1 0 12).toNatClampNeg) r16) 0 12 ((u2.1 0 12) + (1 : Int32)))) H := hP
    have hD : va_D A (mW ad N cI cZ cJ (wA (wA (wA (wA u2 0 47 ((u2.1 0 47) + (1 : Int32))) 0 48 ((u2.1 0 48) + (1 : Int32))) 11 ((u2.1 0 12).toNatClampNeg) r16) 0 12 ((u2.1 0 12) + (1 : Int32)))) := hD
    refine tp_i (y := (u2.1 0 12)) (rfl) ?_
    refine W.widen (k := 0) (n := 0) (by omega) (by omega) ?_
    refine lv_pop hx hb dX13_choice_33 rfl ?_
    refine lv_aload_n hx hb dX13_choice_34 rfl (lv_at hl 0 rfl) ?_
    refine lv_iconst (v := -1) hx hb dX13_choice_35 (by decide) ?_
    refine cu_i (rn_V (n := 1) (As := [.int (-1)]) (rest := []) hx hb hml hown ht hKK hFx hP hD hS hA (c_m_wait l dC dI cI cB cZ cJ cR tb H.size ad N (wA (wA (wA (wA u2 0 47 ((u2.1 0 47) + (1 : Int32))) 0 48 ((u2.1 0 48) + (1 : Int32))) 11 ((u2.1 0 12).toNatClampNeg) r16) 0 12 ((u2.1 0 12) + (1 : Int32))) (-1 : Int32) (show 0 ≤ ((u2.1 0 12) + (1 : Int32)).toInt ∧ ((u2.1 0 12) + (1 : Int32)).toInt < 24000 by omega)) tw_122 tw_123 (by decide +kernel) rfl rfl ⟨by show 1 + 1 ≤ 40 * n + 32; omega, by show 8 + (2 + 11) + 21 ≤ 28 * (40 * n + 32); omega⟩ (List.range (mW ad N cI cZ cJ (wA (wA (wA (wA u2 0 47 ((u2.1 0 47) + (1 : Int32))) 0 48 ((u2.1 0 48) + (1 : Int32))) 11 ((u2.1 0 12).toNatClampNeg) r16) 0 12 ((u2.1 0 12) + (1 : Int32)))).length) (rg_map _) (mW_nd _ _ _ _ _ _) rfl rfl rfl rfl hl.1 rfl (Nat.le_of_ble_eq_true rfl) dX13_choice_36 ⟨Nat.le_of_ble_eq_true rfl, Nat.le_of_ble_eq_true rfl⟩) hP hD hS hA (fun r23 u22 H locs hw21 hP hD hS => ?_)
    obtain ⟨rfl, rfl⟩ := hw21
    have z24 : (((u2.1 0 12) + (1 : Int32)) + (1 : Int32)).toInt = ((u2.1 0 12).toInt + 1) + 1 := add_z z20 (show (1 : Int32).toInt = 1 by decide) (by omega) (by omega)
    have hP : va_P (dC, dI) vwCl (mW ad N cI cZ cJ (wA (wA (wA (wA (wA (wA u2 0 47 ((u2.1 0 47) + (1 : Int32))) 0 48 ((u2.1 0 48) + (1 : Int32))) 11 ((u2.1 0 12).toNatClampNeg) r16) 0 12 ((u2.1 0 12) + (1 : Int32))) 11 (((u2.1 0 12) + (1 : Int32)).toNatClampNeg) (-1 : Int32)) 0 12 (((u2.1 0 12) + (1 : Int32)) + (1 : Int32)))) H := hP
    have hD : va_D A (mW ad N cI cZ cJ (wA (wA (wA (wA (wA (wA u2 0 47 ((u2.1 0 47) + (1 : Int32))) 0 48 ((u2.1 0 48) + (1 : Int32))) 11 ((u2.1 0 12).toNatClampNeg) r16) 0 12 ((u2.1 0 12) + (1 : Int32))) 11 (((u2.1 0 12) + (1 : Int32)).toNatClampNeg) (-1 : Int32)) 0 12 (((u2.1 0 12) + (1 : Int32)) + (1 : Int32)))) := hD
    refine tp_i (y := ((u2.1 0 12) + (1 : Int32))) (rfl) ?_
    refine W.widen (k := 0) (n := 0) (by omega) (by omega) ?_
    refine lv_istore_n (lv' := [(2, .int ((u2.1 0 12) + (1 : Int32))), (0, .ref (ad 0)), (1, .int pa)]) hx hb dX13_choice_39 rfl hl (by decide) rfl (fun ls hl => ?_)
    refine lv_aload_n hx hb dX13_choice_40 rfl (lv_at hl 1 rfl) ?_
    refine lv_bipush (v := 10) hx hb dX13_choice_41 (by decide) ?_
    refine lv_iconst (v := 0) hx hb dX13_choice_43 (by decide) ?_
    refine cu_i (rn_V (n := 2) (As := [.int 10, .int 0]) (rest := []) hx hb hml hown ht hKK hFx hP hD hS hA (c_m_say l dC dI cI cB cZ cJ cR tb H.size ad N (wA (wA (wA (wA (wA (wA u2 0 47 ((u2.1 0 47) + (1 : Int32))) 0 48 ((u2.1 0 48) + (1 : Int32))) 11 ((u2.1 0 12).toNatClampNeg) r16) 0 12 ((u2.1 0 12) + (1 : Int32))) 11 (((u2.1 0 12) + (1 : Int32)).toNatClampNeg) (-1 : Int32)) 0 12 (((u2.1 0 12) + (1 : Int32)) + (1 : Int32))) (10 : Int32) (0 : Int32) (show 0 ≤ (u2.1 0 15).toInt ∧ (u2.1 0 15).toInt < 16000 by omega)) tw_59 tw_60 (by decide +kernel) rfl rfl ⟨by show 0 + 1 ≤ 40 * n + 32; omega, by show 8 + (3 + 11) + 0 ≤ 28 * (40 * n + 32); omega⟩ (List.range (mW ad N cI cZ cJ (wA (wA (wA (wA (wA (wA u2 0 47 ((u2.1 0 47) + (1 : Int32))) 0 48 ((u2.1 0 48) + (1 : Int32))) 11 ((u2.1 0 12).toNatClampNeg) r16) 0 12 ((u2.1 0 12) + (1 : Int32))) 11 (((u2.1 0 12) + (1 : Int32)).toNatClampNeg) (-1 : Int32)) 0 12 (((u2.1 0 12) + (1 : Int32)) + (1 : Int32)))).length) (rg_map _) (mW_nd _ _ _ _ _ _) rfl rfl rfl rfl hl.1 rfl (Nat.le_of_ble_eq_true rfl) dX13_choice_44 ⟨Nat.le_of_ble_eq_true rfl, Nat.le_of_ble_eq_true rfl⟩) hP hD hS hA (fun r27 u26 H locs hw25 hP hD hS => ?_)
    obtain ⟨rfl, rfl⟩ := hw25
    have z28 : ((u2.1 0 15) + (1 : Int32)).toInt = (u2.1 0 15).toInt + 1 := add_z rfl (show (1 : Int32).toInt = 1 by decide) (by omega) (by omega)
    have hP : va_P (dC, dI) vwCl (mW ad N cI cZ cJ (wA (wA (wA (wA (wA (wA (wA (wA (wA u2 0 47 ((u2.1 0 47) + (1 : Int32))) 0 48 ((u2.1 0 48) + (1 : Int32))) 11 ((u2.1 0 12).toNatClampNeg) r16) 0 12 ((u2.1 0 12) + (1 : Int32))) 11 (((u2.1 0 12) + (1 : Int32)).toNatClampNeg) (-1 : Int32)) 0 12 (((u2.1 0 12) + (1 : Int32)) + (1 : Int32))) 13 ((u2.1 0 15).toNatClampNeg) (10 : Int32)) 14 ((u2.1 0 15).toNatClampNeg) (0 : Int32)) 0 15 ((u2.1 0 15) + (1 : Int32)))) H := hP
    have hD : va_D A (mW ad N cI cZ cJ (wA (wA (wA (wA (wA (wA (wA (wA (wA u2 0 47 ((u2.1 0 47) + (1 : Int32))) 0 48 ((u2.1 0 48) + (1 : Int32))) 11 ((u2.1 0 12).toNatClampNeg) r16) 0 12 ((u2.1 0 12) + (1 : Int32))) 11 (((u2.1 0 12) + (1 : Int32)).toNatClampNeg) (-1 : Int32)) 0 12 (((u2.1 0 12) + (1 : Int32)) + (1 : Int32))) 13 ((u2.1 0 15).toNatClampNeg) (10 : Int32)) 14 ((u2.1 0 15).toNatClampNeg) (0 : Int32)) 0 15 ((u2.1 0 15) + (1 : Int32)))) := hD
    refine tp_i (y := (u2.1 0 15)) (rfl) ?_
    refine W.widen (k := 0) (n := 0) (by omega) (by omega) ?_
    obtain ⟨u29, hu30⟩ : ∃ z, z = (wA (wA (wA (wA (wA (wA (wA (wA (wA u2 0 47 ((u2.1 0 47) + (1 : Int32))) 0 48 ((u2.1 0 48) + (1 : Int32))) 11 ((u2.1 0 12).toNatClampNeg) r16) 0 12 ((u2.1 0 12) + (1 : Int32))) 11 (((u2.1 0 12) + (1 : Int32)).toNatClampNeg) (-1 : Int32)) 0 12 (((u2.1 0 12) + (1 : Int32)) + (1 : Int32))) 13 ((u2.1 0 15).toNatClampNeg) (10 : Int32)) 14 ((u2.1 0 15).toNatClampNeg) (0 : Int32)) 0 15 ((u2.1 0 15) + (1 : Int32))) := ⟨_, rfl⟩
    have fr30 : FG [12, 15, 47, 48] [0, 11, 13, 14] u2 u29 := by rw [hu30]; exact (FG.f (FG.a (FG.a (FG.f (FG.a (FG.f (FG.a (FG.f (FG.f (FG.rf _) ((u2.1 0 47) + (1 : Int32)) (by decide)) ((u2.1 0 48) + (1 : Int32)) (by decide)) ((u2.1 0 12).toNatClampNeg) r16 (by decide) (by decide)) ((u2.1 0 12) + (1 : Int32)) (by decide)) (((u2.1 0 12) + (1 : Int32)).toNatClampNeg) (-1 : Int32) (by decide) (by decide)) (((u2.1 0 12) + (1 : Int32)) + (1 : Int32)) (by decide)) ((u2.1 0 15).toNatClampNeg) (10 : Int32) (by decide) (by decide)) ((u2.1 0 15).toNatClampNeg) (0 : Int32) (by decide) (by decide)) ((u2.1 0 15) + (1 : Int32)) (by decide))
    have q30_2 : (u29.1 0 2).toInt = (u2.1 0 2).toInt := congrArg Int32.toInt (fr30.2.1 2 (by decide))
    have q30_4 : (u29.1 0 4).toInt = (u2.1 0 4).toInt := congrArg Int32.toInt (fr30.2.1 4 (by decide))
    have q30_5 : (u29.1 0 5).toInt = (u2.1 0 5).toInt := congrArg Int32.toInt (fr30.2.1 5 (by decide))
    have q30_12 : (u29.1 0 12).toInt = (((u2.1 0 12).toInt + 1) + 1) := by rw [hu30]; exact (show (((u2.1 0 12) + (1 : Int32)) + (1 : Int32)).toInt = (((u2.1 0 12).toInt + 1) + 1) from z24)
    have q30_15 : (u29.1 0 15).toInt = ((u2.1 0 15).toInt + 1) := by rw [hu30]; exact (show ((u2.1 0 15) + (1 : Int32)).toInt = ((u2.1 0 15).toInt + 1) from z28)
    have q30_22 : (u29.1 0 22).toInt = (u2.1 0 22).toInt := congrArg Int32.toInt (fr30.2.1 22 (by decide))
    have q30_27 : (u29.1 0 27).toInt = (u2.1 0 27).toInt := congrArg Int32.toInt (fr30.2.1 27 (by decide))
    have q30_28 : (u29.1 0 28).toInt = (u2.1 0 28).toInt := congrArg Int32.toInt (fr30.2.1 28 (by decide))
    have q30_30 : (u29.1 0 30).toInt = (u2.1 0 30).toInt := congrArg Int32.toInt (fr30.2.1 30 (by decide))
    have q30_31 : (u29.1 0 31).toInt = (u2.1 0 31).toInt := congrArg Int32.toInt (fr30.2.1 31 (by decide))
    have q30_32 : (u29.1 0 32).toInt = (u2.1 0 32).toInt := congrArg Int32.toInt (fr30.2.1 32 (by decide))
    have q30_33 : (u29.1 0 33).toInt = (u2.1 0 33).toInt := congrArg Int32.toInt (fr30.2.1 33 (by decide))
    have q30_34 : (u29.1 0 34).toInt = (u2.1 0 34).toInt := congrArg Int32.toInt (fr30.2.1 34 (by decide))
    have q30_39 : (u29.1 0 39).toInt = (u2.1 0 39).toInt := congrArg Int32.toInt (fr30.2.1 39 (by decide))
    have q30_43 : (u29.1 0 43).toInt = (u2.1 0 43).toInt := congrArg Int32.toInt (fr30.2.1 43 (by decide))
    have q30_47 : (u29.1 0 47).toInt = ((u2.1 0 47).toInt + 1) := by rw [hu30]; exact (show ((u2.1 0 47) + (1 : Int32)).toInt = ((u2.1 0 47).toInt + 1) from z12)
    have q30_48 : (u29.1 0 48).toInt = ((u2.1 0 48).toInt + 1) := by rw [hu30]; exact (show ((u2.1 0 48) + (1 : Int32)).toInt = ((u2.1 0 48).toInt + 1) from z13)
    have q30_49 : (u29.1 0 49).toInt = (u2.1 0 49).toInt := congrArg Int32.toInt (fr30.2.1 49 (by decide))
    have q30_52 : (u29.1 0 52).toInt = (u2.1 0 52).toInt := congrArg Int32.toInt (fr30.2.1 52 (by decide))
    have kc30 : ∀ j : Nat, (j : Int) < (u2.1 0 12).toInt → (u29.1 11) j = (u2.1 11) j := by rw [hu30]; exact (fun (j9 : Nat) hj9 => (Eq.trans (pk_un (by have := cl_z (a := ((u2.1 0 12) + (1 : Int32)).toInt) rfl (by omega); omega)) (pk_un (by have := cl_z (a := (u2.1 0 12).toInt) rfl (by omega); omega))))
    have ko30 : ∀ j : Nat, (j : Int) < (u2.1 0 15).toInt → (u29.1 13) j = (u2.1 13) j := by rw [hu30]; exact (fun (j9 : Nat) hj9 => (pk_un (by have := cl_z (a := (u2.1 0 15).toInt) rfl (by omega); omega)))
    have kg30 : ∀ j : Nat, (j : Int) < (u2.1 0 15).toInt → (u29.1 14) j = (u2.1 14) j := by rw [hu30]; exact (fun (j9 : Nat) hj9 => (pk_un (by have := cl_z (a := (u2.1 0 15).toInt) rfl (by omega); omega)))
    rw [← hu30] at hP hD
    refine lv_istore_n (lv' := [(3, .int (u2.1 0 15)), (2, .int ((u2.1 0 12) + (1 : Int32))), (0, .ref (ad 0)), (1, .int pa)]) hx hb dX13_choice_47 rfl hl (by decide) rfl (fun ls hl => ?_)
    refine lv_aload_n hx hb dX13_choice_48 rfl (lv_at hl 2 rfl) ?_
    obtain ⟨n31, hn32⟩ : ∃ m, n = m + 1 := ⟨n - 1, by omega⟩
    refine cux_v (rx_V (n := 0) (As := []) (rest := []) hx hb hml hown ht hKK hFx hP hD hS hA (ihE n31 hn32 dC dI cI cB cZ cJ cR tb H.size ad N u29  (show 40 ≤ (u29.1 0 48).toInt + (n31 : Int) by omega) (show 0 ≤ (u29.1 0 47).toInt ∧ (u29.1 0 47).toInt ≤ 1500 by omega) (show 0 ≤ (u29.1 0 48).toInt ∧ (u29.1 0 48).toInt ≤ 40 by omega) (show 0 ≤ (u29.1 0 30).toInt ∧ (u29.1 0 30).toInt ≤ 500 by omega) (show 0 ≤ (u29.1 0 33).toInt ∧ (u29.1 0 33).toInt ≤ 500 by omega) (show 0 ≤ (u29.1 0 32).toInt ∧ (u29.1 0 30).toInt + (u29.1 0 32).toInt ≤ 500 by omega) (show 0 ≤ (u29.1 0 12).toInt ∧ (u29.1 0 12).toInt ≤ 15 * (u29.1 0 47).toInt + 2 by omega) (show 0 ≤ (u29.1 0 15).toInt ∧ (u29.1 0 15).toInt ≤ 10 * (u29.1 0 47).toInt + 0 by omega) (show 0 ≤ (u29.1 0 43).toInt ∧ (u29.1 0 43).toInt ≤ 15 * (u29.1 0 47).toInt + 0 by omega) (show 0 ≤ (u29.1 0 39).toInt ∧ (u29.1 0 39).toInt ≤ 1 * (u29.1 0 47).toInt + 0 by omega) (show 0 ≤ (u29.1 0 27).toInt ∧ (u29.1 0 27).toInt ≤ 60 by omega) (FG.ti (fl := pfl) (al := pal) (FG.tr (FG.tr (FG.rf _) (FG.up fr1 (by decide) (by decide))) (FG.up fr30 (by decide) (by decide))) (by decide) (by decide) hT) ((show NI 29 u29 from NI.fr (fl := [12, 15, 47, 48]) (al := [0, 11, 13, 14]) fr30 (by decide) (show NI 29 u2 from NI.fr (fl := [12, 15, 32, 33, 39, 43, 44, 45, 47, 48, 49, 50, 51]) (al := [0, 11, 13, 14, 35, 36, 37, 38, 40, 41, 42]) fr1 (by decide) n29))) ((show NI 23 u29 from NI.fr (fl := [12, 15, 47, 48]) (al := [0, 11, 13, 14]) fr30 (by decide) (show NI 23 u2 from NI.fr (fl := [12, 15, 32, 33, 39, 43, 44, 45, 47, 48, 49, 50, 51]) (al := [0, 11, 13, 14, 35, 36, 37, 38, 40, 41, 42]) fr1 (by decide) n23))) ((show NI 35 u29 from NI.fr (fl := [12, 15, 47, 48]) (al := [0, 11, 13, 14]) fr30 (by decide) n351))) tw_80 tw_81 (by decide +kernel) rfl rfl ⟨by show (40 * n31 + 36) + 1 ≤ 40 * n + 32; omega, by show 8 + (1 + 11) + 28 * (40 * n31 + 36) ≤ 28 * (40 * n + 32); omega⟩ (List.range (mW ad N cI cZ cJ u29).length) (rg_map _) (mW_nd _ _ _ _ _ _) rfl rfl rfl rfl hl.1 rfl (Nat.le_of_ble_eq_true rfl) dX13_choice_49 ⟨Nat.le_of_ble_eq_true rfl, Nat.le_of_ble_eq_true rfl⟩) hP hD hS hA (fun u9 ce9 q9 H locs hx9 hP hD hS hc9 hv9 hf9 => ?_) (fun u34 H locs hw33 hP hD hS => ?_)
    · exact vx_out (fun x h9 => (hnt x h9).elim) hlocks hc9 hv9 hf9 (fun t9 ht9 hv8 => ⟨u9, (FG.tr (FG.tr (FG.tr (FG.rf _) (FG.up fr1 (by decide) (by decide))) (FG.up fr30 (by decide) (by decide))) hx9), ⟨rfl, by rw [ht9]; exact hP, hD⟩, hS.F ht9⟩) hS.2.2 (by omega) (by omega)
    obtain ⟨fr33, pt33, pb33, pw33, po33, pf33, pk33, pp33, ph33, kc33, ko33, kg33, n3533⟩ := hw33
    have q33_2 : (u34.1 0 2).toInt = (u29.1 0 2).toInt := congrArg Int32.toInt ((fr33.2.1 2 (by decide)).trans (show u29.1 0 2 = (u29.1 0 2) by rfl))
    have q33_4 : (u34.1 0 4).toInt = (u29.1 0 4).toInt := congrArg Int32.toInt ((fr33.2.1 4 (by decide)).trans (show u29.1 0 4 = (u29.1 0 4) by rfl))
    have q33_5 : (u34.1 0 5).toInt = (u29.1 0 5).toInt := congrArg Int32.toInt ((fr33.2.1 5 (by decide)).trans (show u29.1 0 5 = (u29.1 0 5) by rfl))
    have q33_22 : (u34.1 0 22).toInt = (u29.1 0 22).toInt := congrArg Int32.toInt ((fr33.2.1 22 (by decide)).trans (show u29.1 0 22 = (u29.1 0 22) by rfl))
    have q33_27 : (u34.1 0 27).toInt = (u29.1 0 27).toInt := congrArg Int32.toInt ((fr33.2.1 27 (by decide)).trans (show u29.1 0 27 = (u29.1 0 27) by rfl))
    have q33_28 : (u34.1 0 28).toInt = (u29.1 0 28).toInt := congrArg Int32.toInt ((fr33.2.1 28 (by decide)).trans (show u29.1 0 28 = (u29.1 0 28) by rfl))
    have q33_30 : (u34.1 0 30).toInt = (u29.1 0 30).toInt := congrArg Int32.toInt ((fr33.2.1 30 (by decide)).trans (show u29.1 0 30 = (u29.1 0 30) by rfl))
    have q33_31 : (u34.1 0 31).toInt = (u29.1 0 31).toInt := congrArg Int32.toInt ((fr33.2.1 31 (by decide)).trans (show u29.1 0 31 = (u29.1 0 31) by rfl))
    have q33_34 : (u34.1 0 34).toInt = (u29.1 0 34).toInt := congrArg Int32.toInt ((fr33.2.1 34 (by decide)).trans (show u29.1 0 34 = (u29.1 0 34) by rfl))
    have q33_52 : (u34.1 0 52).toInt = (u29.1 0 52).toInt := congrArg Int32.toInt ((fr33.2.1 52 (by decide)).trans (show u29.1 0 52 = (u29.1 0 52) by rfl))
    have pt33 : (u29.1 0 47).toInt + 1 ≤ (u34.1 0 47).toInt ∧ (u34.1 0 47).toInt ≤ 1500 := pt33
    have pb33 : (u29.1 0 49).toInt ≠ (u29.1 0 47).toInt := pb33
    have pw33 : (u29.1 0 12).toInt ≤ (u34.1 0 12).toInt ∧ (u34.1 0 12).toInt - 15 * (u34.1 0 47).toInt ≤ (u29.1 0 12).toInt - 15 * (u29.1 0 47).toInt := pw33
    have po33 : (u29.1 0 15).toInt ≤ (u34.1 0 15).toInt ∧ (u34.1 0 15).toInt - 10 * (u34.1 0 47).toInt ≤ (u29.1 0 15).toInt - 10 * (u29.1 0 47).toInt := po33
    have pf33 : (u29.1 0 43).toInt ≤ (u34.1 0 43).toInt ∧ (u34.1 0 43).toInt - 15 * (u34.1 0 47).toInt ≤ (u29.1 0 43).toInt - 15 * (u29.1 0 47).toInt := pf33
    have pk33 : (u29.1 0 39).toInt ≤ (u34.1 0 39).toInt ∧ (u34.1 0 39).toInt - 1 * (u34.1 0 47).toInt ≤ (u29.1 0 39).toInt - 1 * (u29.1 0 47).toInt := pk33
    have pp33 : (u34.1 0 32).toInt = (u29.1 0 32).toInt ∧ (u34.1 0 48).toInt = (u29.1 0 48).toInt := pp33
    have ph33 : (u29.1 0 33).toInt ≤ (u34.1 0 33).toInt ∧ (u34.1 0 33).toInt ≤ 500 := ph33
    have kc33 : ∀ j : Nat, (j : Int) < (u29.1 0 12).toInt → (u34.1 11) j = (u29.1 11) j := kc33
    have ko33 : ∀ j : Nat, (j : Int) < (u29.1 0 15).toInt → (u34.1 13) j = (u29.1 13) j := ko33
    have kg33 : ∀ j : Nat, (j : Int) < (u29.1 0 15).toInt → (u34.1 14) j = (u29.1 14) j := kg33
    have n3533 : NI 35 u34 := n3533
    refine W.widen (k := 0) (n := 0) (by omega) (by omega) ?_
    refine lv_aload_n hx hb dX13_choice_52 rfl (lv_at hl 2 rfl) ?_
    refine lv_bipush (v := 58) hx hb dX13_choice_53 (by decide) ?_
    refine cux_v (rx_V (n := 1) (As := [.int 58]) (rest := []) hx hb hml hown ht hKK hFx hP hD hS hA (c_m_need l dC dI cI cB cZ cJ cR tb H.size ad N u34 (58 : Int32) (show 0 ≤ (u34.1 0 47).toInt ∧ (u34.1 0 47).toInt ≤ 1500 by omega)) tw_40 tw_41 (by decide +kernel) rfl rfl ⟨by show 2 + 1 ≤ 40 * n + 32; omega, by show 8 + (2 + 11) + 43 ≤ 28 * (40 * n + 32); omega⟩ (List.range (mW ad N cI cZ cJ u34).length) (rg_map _) (mW_nd _ _ _ _ _ _) rfl rfl rfl rfl hl.1 rfl (Nat.le_of_ble_eq_true rfl) dX13_choice_55 ⟨Nat.le_of_ble_eq_true rfl, Nat.le_of_ble_eq_true rfl⟩) hP hD hS hA (fun u9 ce9 q9 H locs hx9 hP hD hS hc9 hv9 hf9 => ?_) (fun u37 H locs hw36 hP hD hS => ?_)
    · exact vx_out (fun x h9 => (hnt x h9).elim) hlocks hc9 hv9 hf9 (fun t9 ht9 hv8 => ⟨u9, (FG.tr (FG.tr (FG.tr (FG.tr (FG.rf _) (FG.up fr1 (by decide) (by decide))) (FG.up fr30 (by decide) (by decide))) (FG.up fr33 (by decide) (by decide))) hx9), ⟨rfl, by rw [ht9]; exact hP, hD⟩, hS.F ht9⟩) hS.2.2 (by omega) (by omega)
    obtain ⟨rfl, a36, c36⟩ := hw36
    have z39 : ((u34.1 0 47) + (1 : Int32)).toInt = (u34.1 0 47).toInt + 1 := add_z rfl (show (1 : Int32).toInt = 1 by decide) (by omega) (by omega)
    have hP : va_P (dC, dI) vwCl (mW ad N cI cZ cJ (wA u34 0 47 ((u34.1 0 47) + (1 : Int32)))) H := hP
    have hD : va_D A (mW ad N cI cZ cJ (wA u34 0 47 ((u34.1 0 47) + (1 : Int32)))) := hD
    have a36 : (u34.1 0 47).toInt < 1500 := a36
    have c36 : (u34.1 0 49).toInt ≠ (u34.1 0 47).toInt := c36
    refine W.widen (k := 0) (n := 0) (by omega) (by omega) ?_
    refine lv_aload_n hx hb dX13_choice_58 rfl (lv_at hl 2 rfl) ?_
    refine lv_iconst (v := -1) hx hb dX13_choice_59 (by decide) ?_
    refine cu_i (rn_V (n := 1) (As := [.int (-1)]) (rest := []) hx hb hml hown ht hKK hFx hP hD hS hA (c_m_wait l dC dI cI cB cZ cJ cR tb H.size ad N (wA u34 0 47 ((u34.1 0 47) + (1 : Int32))) (-1 : Int32) (show 0 ≤ (u34.1 0 12).toInt ∧ (u34.1 0 12).toInt < 24000 by omega)) tw_122 tw_123 (by decide +kernel) rfl rfl ⟨by show 1 + 1 ≤ 40 * n + 32; omega, by show 8 + (2 + 11) + 21 ≤ 28 * (40 * n + 32); omega⟩ (List.range (mW ad N cI cZ cJ (wA u34 0 47 ((u34.1 0 47) + (1 : Int32)))).length) (rg_map _) (mW_nd _ _ _ _ _ _) rfl rfl rfl rfl hl.1 rfl (Nat.le_of_ble_eq_true rfl) dX13_choice_60 ⟨Nat.le_of_ble_eq_true rfl, Nat.le_of_ble_eq_true rfl⟩) hP hD hS hA (fun r42 u41 H locs hw40 hP hD hS => ?_)
    obtain ⟨rfl, rfl⟩ := hw40
    have z43 : ((u34.1 0 12) + (1 : Int32)).toInt = (u34.1 0 12).toInt + 1 := add_z rfl (show (1 : Int32).toInt = 1 by decide) (by omega) (by omega)
    have hP : va_P (dC, dI) vwCl (mW ad N cI cZ cJ (wA (wA (wA u34 0 47 ((u34.1 0 47) + (1 : Int32))) 11 ((u34.1 0 12).toNatClampNeg) (-1 : Int32)) 0 12 ((u34.1 0 12) + (1 : Int32)))) H := hP
    have hD : va_D A (mW ad N cI cZ cJ (wA (wA (wA u34 0 47 ((u34.1 0 47) + (1 : Int32))) 11 ((u34.1 0 12).toNatClampNeg) (-1 : Int32)) 0 12 ((u34.1 0 12) + (1 : Int32)))) := hD
    refine tp_i (y := (u34.1 0 12)) (rfl) ?_
    refine W.widen (k := 0) (n := 0) (by omega) (by omega) ?_
    refine lv_istore (lv' := [(4, .int (u34.1 0 12)), (3, .int (u2.1 0 15)), (2, .int ((u2.1 0 12) + (1 : Int32))), (0, .ref (ad 0)), (1, .int pa)]) hx hb dX13_choice_63 hl (by decide) rfl (fun ls hl => ?_)
    refine lv_aload_n hx hb dX13_choice_65 rfl (lv_at hl 3 rfl) ?_
    refine lv_bipush (v := 12) hx hb dX13_choice_66 (by decide) ?_
    refine lv_iconst (v := 0) hx hb dX13_choice_68 (by decide) ?_
    refine cu_i (rn_V (n := 2) (As := [.int 12, .int 0]) (rest := []) hx hb hml hown ht hKK hFx hP hD hS hA (c_m_say l dC dI cI cB cZ cJ cR tb H.size ad N (wA (wA (wA u34 0 47 ((u34.1 0 47) + (1 : Int32))) 11 ((u34.1 0 12).toNatClampNeg) (-1 : Int32)) 0 12 ((u34.1 0 12) + (1 : Int32))) (12 : Int32) (0 : Int32) (show 0 ≤ (u34.1 0 15).toInt ∧ (u34.1 0 15).toInt < 16000 by omega)) tw_59 tw_60 (by decide +kernel) rfl rfl ⟨by show 0 + 1 ≤ 40 * n + 32; omega, by show 8 + (3 + 11) + 0 ≤ 28 * (40 * n + 32); omega⟩ (List.range (mW ad N cI cZ cJ (wA (wA (wA u34 0 47 ((u34.1 0 47) + (1 : Int32))) 11 ((u34.1 0 12).toNatClampNeg) (-1 : Int32)) 0 12 ((u34.1 0 12) + (1 : Int32)))).length) (rg_map _) (mW_nd _ _ _ _ _ _) rfl rfl rfl rfl hl.1 rfl (Nat.le_of_ble_eq_true rfl) dX13_choice_69 ⟨Nat.le_of_ble_eq_true rfl, Nat.le_of_ble_eq_true rfl⟩) hP hD hS hA (fun r46 u45 H locs hw44 hP hD hS => ?_)
    obtain ⟨rfl, rfl⟩ := hw44
    have z47 : ((u34.1 0 15) + (1 : Int32)).toInt = (u34.1 0 15).toInt + 1 := add_z rfl (show (1 : Int32).toInt = 1 by decide) (by omega) (by omega)
    have hP : va_P (dC, dI) vwCl (mW ad N cI cZ cJ (wA (wA (wA (wA (wA (wA u34 0 47 ((u34.1 0 47) + (1 : Int32))) 11 ((u34.1 0 12).toNatClampNeg) (-1 : Int32)) 0 12 ((u34.1 0 12) + (1 : Int32))) 13 ((u34.1 0 15).toNatClampNeg) (12 : Int32)) 14 ((u34.1 0 15).toNatClampNeg) (0 : Int32)) 0 15 ((u34.1 0 15) + (1 : Int32)))) H := hP
    have hD : va_D A (mW ad N cI cZ cJ (wA (wA (wA (wA (wA (wA u34 0 47 ((u34.1 0 47) + (1 : Int32))) 11 ((u34.1 0 12).toNatClampNeg) (-1 : Int32)) 0 12 ((u34.1 0 12) + (1 : Int32))) 13 ((u34.1 0 15).toNatClampNeg) (12 : Int32)) 14 ((u34.1 0 15).toNatClampNeg) (0 : Int32)) 0 15 ((u34.1 0 15) + (1 : Int32)))) := hD
    refine tp_i (y := (u34.1 0 15)) (rfl) ?_
    refine W.widen (k := 0) (n := 0) (by omega) (by omega) ?_
    refine lv_istore (lv' := [(5, .int (u34.1 0 15)), (4, .int (u34.1 0 12)), (3, .int (u2.1 0 15)), (2, .int ((u2.1 0 12) + (1 : Int32))), (0, .ref (ad 0)), (1, .int pa)]) hx hb dX13_choice_72 hl (by decide) rfl (fun ls hl => ?_)
    refine lv_aload_n hx hb dX13_choice_74 rfl (lv_at hl 4 rfl) ?_
    refine lv_iload_n hx hb dX13_choice_75 rfl (lv_at hl 3 rfl) ?_
    refine lv_iconst (v := 0) hx hb dX13_choice_76 (by decide) ?_
    refine lv_aload_n hx hb dX13_choice_77 rfl (lv_at hl 4 rfl) ?_
    refine va_get (D := (dC, dI)) (ci := 16) (fs := mF ad (wA (wA (wA (wA (wA (wA u34 0 47 ((u34.1 0 47) + (1 : Int32))) 11 ((u34.1 0 12).toNatClampNeg) (-1 : Int32)) 0 12 ((u34.1 0 12) + (1 : Int32))) 13 ((u34.1 0 15).toNatClampNeg) (12 : Int32)) 14 ((u34.1 0 15).toNatClampNeg) (0 : Int32)) 0 15 ((u34.1 0 15) + (1 : Int32)))) (v := .int ((u34.1 0 12) + (1 : Int32))) (C := RX13) (T := TX13) (N := 124) hx hb ht itX13 hown hK hP 0 rfl rfl 12 (by decide) (ht _ tw_7) (fun _ h9 => h9) rfl dX13_choice_78 ?_
    refine cu_v (rn_V (n := 3) (As := [.int ((u2.1 0 12) + (1 : Int32)), .int 0, .int ((u34.1 0 12) + (1 : Int32))]) (rest := []) hx hb hml hown ht hKK hFx hP hD hS hA (c_m_jump l dC dI cI cB cZ cJ cR tb H.size ad N (wA (wA (wA (wA (wA (wA u34 0 47 ((u34.1 0 47) + (1 : Int32))) 11 ((u34.1 0 12).toNatClampNeg) (-1 : Int32)) 0 12 ((u34.1 0 12) + (1 : Int32))) 13 ((u34.1 0 15).toNatClampNeg) (12 : Int32)) 14 ((u34.1 0 15).toNatClampNeg) (0 : Int32)) 0 15 ((u34.1 0 15) + (1 : Int32))) ((u2.1 0 12) + (1 : Int32)) (0 : Int32) ((u34.1 0 12) + (1 : Int32)) (show 0 ≤ ((u2.1 0 12) + (1 : Int32)).toInt ∧ ((u2.1 0 12) + (1 : Int32)).toInt < 24000 by omega)) tw_126 tw_127 (by decide +kernel) rfl rfl ⟨by show 1 + 1 ≤ 40 * n + 32; omega, by show 8 + (4 + 11) + 21 ≤ 28 * (40 * n + 32); omega⟩ (List.range (mW ad N cI cZ cJ (wA (wA (wA (wA (wA (wA u34 0 47 ((u34.1 0 47) + (1 : Int32))) 11 ((u34.1 0 12).toNatClampNeg) (-1 : Int32)) 0 12 ((u34.1 0 12) + (1 : Int32))) 13 ((u34.1 0 15).toNatClampNeg) (12 : Int32)) 14 ((u34.1 0 15).toNatClampNeg) (0 : Int32)) 0 15 ((u34.1 0 15) + (1 : Int32)))).length) (rg_map _) (mW_nd _ _ _ _ _ _) rfl rfl rfl rfl hl.1 rfl (Nat.le_of_ble_eq_true rfl) dX13_choice_81 ⟨Nat.le_of_ble_eq_true rfl, Nat.le_of_ble_eq_true rfl⟩) hP hD hS hA (fun u49 H locs hw48 hP hD hS => ?_)
    obtain ⟨x51, rfl⟩ := hw48
    have hP : va_P (dC, dI) vwCl (mW ad N cI cZ cJ (wA (wA (wA (wA (wA (wA (wA u34 0 47 ((u34.1 0 47) + (1 : Int32))) 11 ((u34.1 0 12).toNatClampNeg) (-1 : Int32)) 0 12 ((u34.1 0 12) + (1 : Int32))) 13 ((u34.1 0 15).toNatClampNeg) (12 : Int32)) 14 ((u34.1 0 15).toNatClampNeg) (0 : Int32)) 0 15 ((u34.1 0 15) + (1 : Int32))) 11 (((u2.1 0 12) + (1 : Int32)).toNatClampNeg) x51)) H := hP
    have hD : va_D A (mW ad N cI cZ cJ (wA (wA (wA (wA (wA (wA (wA u34 0 47 ((u34.1 0 47) + (1 : Int32))) 11 ((u34.1 0 12).toNatClampNeg) (-1 : Int32)) 0 12 ((u34.1 0 12) + (1 : Int32))) 13 ((u34.1 0 15).toNatClampNeg) (12 : Int32)) 14 ((u34.1 0 15).toNatClampNeg) (0 : Int32)) 0 15 ((u34.1 0 15) + (1 : Int32))) 11 (((u2.1 0 12) + (1 : Int32)).toNatClampNeg) x51)) := hD
    refine W.widen (k := 0) (n := 0) (by omega) (by omega) ?_
    obtain ⟨u52, hu53⟩ : ∃ z, z = (wA (wA (wA (wA (wA (wA (wA u34 0 47 ((u34.1 0 47) + (1 : Int32))) 11 ((u34.1 0 12).toNatClampNeg) (-1 : Int32)) 0 12 ((u34.1 0 12) + (1 : Int32))) 13 ((u34.1 0 15).toNatClampNeg) (12 : Int32)) 14 ((u34.1 0 15).toNatClampNeg) (0 : Int32)) 0 15 ((u34.1 0 15) + (1 : Int32))) 11 (((u2.1 0 12) + (1 : Int32)).toNatClampNeg) x51) := ⟨_, rfl⟩
    have fr53 : FG [12, 15, 47] [0, 11, 13, 14] u34 u52 := by rw [hu53]; exact (FG.a (FG.f (FG.a (FG.a (FG.f (FG.a (FG.f (FG.rf _) ((u34.1 0 47) + (1 : Int32)) (by decide)) ((u34.1 0 12).toNatClampNeg) (-1 : Int32) (by decide) (by decide)) ((u34.1 0 12) + (1 : Int32)) (by decide)) ((u34.1 0 15).toNatClampNeg) (12 : Int32) (by decide) (by decide)) ((u34.1 0 15).toNatClampNeg) (0 : Int32) (by decide) (by decide)) ((u34.1 0 15) + (1 : Int32)) (by decide)) (((u2.1 0 12) + (1 : Int32)).toNatClampNeg) x51 (by decide) (by decide))
    have q53_2 : (u52.1 0 2).toInt = (u34.1 0 2).toInt := congrArg Int32.toInt (fr53.2.1 2 (by decide))
    have q53_4 : (u52.1 0 4).toInt = (u34.1 0 4).toInt := congrArg Int32.toInt (fr53.2.1 4 (by decide))
    have q53_5 : (u52.1 0 5).toInt = (u34.1 0 5).toInt := congrArg Int32.toInt (fr53.2.1 5 (by decide))
    have q53_12 : (u52.1 0 12).toInt = ((u34.1 0 12).toInt + 1) := by rw [hu53]; exact (show ((u34.1 0 12) + (1 : Int32)).toInt = ((u34.1 0 12).toInt + 1) from z43)
    have q53_15 : (u52.1 0 15).toInt = ((u34.1 0 15).toInt + 1) := by rw [hu53]; exact (show ((u34.1 0 15) + (1 : Int32)).toInt = ((u34.1 0 15).toInt + 1) from z47)
    have q53_22 : (u52.1 0 22).toInt = (u34.1 0 22).toInt := congrArg Int32.toInt (fr53.2.1 22 (by decide))
    have q53_27 : (u52.1 0 27).toInt = (u34.1 0 27).toInt := congrArg Int32.toInt (fr53.2.1 27 (by decide))
    have q53_28 : (u52.1 0 28).toInt = (u34.1 0 28).toInt := congrArg Int32.toInt (fr53.2.1 28 (by decide))
    have q53_30 : (u52.1 0 30).toInt = (u34.1 0 30).toInt := congrArg Int32.toInt (fr53.2.1 30 (by decide))
    have q53_31 : (u52.1 0 31).toInt = (u34.1 0 31).toInt := congrArg Int32.toInt (fr53.2.1 31 (by decide))
    have q53_32 : (u52.1 0 32).toInt = (u34.1 0 32).toInt := congrArg Int32.toInt (fr53.2.1 32 (by decide))
    have q53_33 : (u52.1 0 33).toInt = (u34.1 0 33).toInt := congrArg Int32.toInt (fr53.2.1 33 (by decide))
    have q53_34 : (u52.1 0 34).toInt = (u34.1 0 34).toInt := congrArg Int32.toInt (fr53.2.1 34 (by decide))
    have q53_39 : (u52.1 0 39).toInt = (u34.1 0 39).toInt := congrArg Int32.toInt (fr53.2.1 39 (by decide))
    have q53_43 : (u52.1 0 43).toInt = (u34.1 0 43).toInt := congrArg Int32.toInt (fr53.2.1 43 (by decide))
    have q53_47 : (u52.1 0 47).toInt = ((u34.1 0 47).toInt + 1) := by rw [hu53]; exact (show ((u34.1 0 47) + (1 : Int32)).toInt = ((u34.1 0 47).toInt + 1) from z39)
    have q53_48 : (u52.1 0 48).toInt = (u34.1 0 48).toInt := congrArg Int32.toInt (fr53.2.1 48 (by decide))
    have q53_49 : (u52.1 0 49).toInt = (u34.1 0 49).toInt := congrArg Int32.toInt (fr53.2.1 49 (by decide))
    have q53_52 : (u52.1 0 52).toInt = (u34.1 0 52).toInt := congrArg Int32.toInt (fr53.2.1 52 (by decide))
    have kc53 : ∀ j : Nat, (j : Int) < (u34.1 0 12).toInt → (u52.1 11) j = (u34.1 11) j := by rw [hu53]; exact (fun (j9 : Nat) hj9 => (Eq.trans (pk_un (by have := cl_z (a := ((u2.1 0 12) + (1 : Int32)).toInt) rfl (by omega); omega)) (pk_un (by have := cl_z (a := (u34.1 0 12).toInt) rfl (by omega); omega))))
    have ko53 : ∀ j : Nat, (j : Int) < (u34.1 0 15).toInt → (u52.1 13) j = (u34.1 13) j := by rw [hu53]; exact (fun (j9 : Nat) hj9 => (pk_un (by have := cl_z (a := (u34.1 0 15).toInt) rfl (by omega); omega)))
    have kg53 : ∀ j : Nat, (j : Int) < (u34.1 0 15).toInt → (u52.1 14) j = (u34.1 14) j := by rw [hu53]; exact (fun (j9 : Nat) hj9 => (pk_un (by have := cl_z (a := (u34.1 0 15).toInt) rfl (by omega); omega)))
    rw [← hu53] at hP hD
    refine lv_aload_n hx hb dX13_choice_84 rfl (lv_at hl 4 rfl) ?_
    refine va_get (D := (dC, dI)) (ci := 16) (fs := mF ad u52) (v := .ref (ad 14)) (C := RX13) (T := TX13) (N := 124) hx hb ht itX13 hown hK hP 0 rfl rfl 14 (by decide) (ht _ tw_12) (fun _ h9 => h9) rfl dX13_choice_85 ?_
    refine lv_iload_n hx hb dX13_choice_88 rfl (lv_at hl 2 rfl) ?_
    refine lv_aload_n hx hb dX13_choice_89 rfl (lv_at hl 4 rfl) ?_
    refine va_get (D := (dC, dI)) (ci := 16) (fs := mF ad u52) (v := .int (u52.1 0 15)) (C := RX13) (T := TX13) (N := 124) hx hb ht itX13 hown hK hP 0 rfl rfl 15 (by decide) (ht _ tw_11) (fun _ h9 => h9) rfl dX13_choice_90 ?_
    refine va_iast (D := (dC, dI)) (f := (u52.1 14)) hx hb hK hP hD hS 10 0 rfl rfl (in_z (a := (u2.1 0 15).toInt) rfl (by omega) (by omega)) dX13_choice_93 (fun H locs hP hD hS => ?_)
    have hP := cP_ (ma_14 ad N cI cZ cJ u52 ((u2.1 0 15).toNatClampNeg) (u52.1 0 15)) hP
    have hD := cD_ (ma_14 ad N cI cZ cJ u52 ((u2.1 0 15).toNatClampNeg) (u52.1 0 15)) hD
    refine lv_aload_n hx hb dX13_choice_94 rfl (lv_at hl 4 rfl) ?_
    refine lv_iconst (v := 0) hx hb dX13_choice_95 (by decide) ?_
    obtain ⟨n54, hn55⟩ : ∃ m, n = m + 1 := ⟨n - 1, by omega⟩
    refine cux_v (rx_V (n := 1) (As := [.int 0]) (rest := []) hx hb hml hown ht hKK hFx hP hD hS hA (ihC n54 hn55 dC dI cI cB cZ cJ cR tb H.size ad N (wA u52 14 ((u2.1 0 15).toNatClampNeg) (u52.1 0 15)) (0 : Int32) (show 40 ≤ (u52.1 0 48).toInt + (n54 : Int) by omega) (show 0 ≤ (u52.1 0 47).toInt ∧ (u52.1 0 47).toInt ≤ 1500 by omega) (show 0 ≤ (u52.1 0 48).toInt ∧ (u52.1 0 48).toInt ≤ 40 by omega) (show 0 ≤ (u52.1 0 30).toInt ∧ (u52.1 0 30).toInt ≤ 500 by omega) (show 0 ≤ (u52.1 0 33).toInt ∧ (u52.1 0 33).toInt ≤ 500 by omega) (show 0 ≤ (u52.1 0 32).toInt ∧ (u52.1 0 30).toInt + (u52.1 0 32).toInt ≤ 500 by omega) (show 0 ≤ (u52.1 0 12).toInt ∧ (u52.1 0 12).toInt ≤ 15 * (u52.1 0 47).toInt + 2 by omega) (show 0 ≤ (u52.1 0 15).toInt ∧ (u52.1 0 15).toInt ≤ 10 * (u52.1 0 47).toInt + 0 by omega) (show 0 ≤ (u52.1 0 43).toInt ∧ (u52.1 0 43).toInt ≤ 15 * (u52.1 0 47).toInt + 0 by omega) (show 0 ≤ (u52.1 0 39).toInt ∧ (u52.1 0 39).toInt ≤ 1 * (u52.1 0 47).toInt + 0 by omega) (show 0 ≤ (u52.1 0 27).toInt ∧ (u52.1 0 27).toInt ≤ 60 by omega) (FG.ti (fl := pfl) (al := pal) (FG.a (FG.tr (FG.tr (FG.tr (FG.tr (FG.rf _) (FG.up fr1 (by decide) (by decide))) (FG.up fr30 (by decide) (by decide))) (FG.up fr33 (by decide) (by decide))) (FG.up fr53 (by decide) (by decide))) ((u2.1 0 15).toNatClampNeg) (u52.1 0 15) (by decide) (by decide)) (by decide) (by decide) hT) ((show NI 29 u52 from NI.fr (fl := [12, 15, 47]) (al := [0, 11, 13, 14]) fr53 (by decide) (show NI 29 u34 from NI.fr (fl := [12, 15, 32, 33, 39, 43, 44, 45, 47, 48, 49, 50, 51]) (al := [0, 11, 13, 14, 35, 36, 37, 38, 40, 41, 42]) fr33 (by decide) (show NI 29 u29 from NI.fr (fl := [12, 15, 47, 48]) (al := [0, 11, 13, 14]) fr30 (by decide) (show NI 29 u2 from NI.fr (fl := [12, 15, 32, 33, 39, 43, 44, 45, 47, 48, 49, 50, 51]) (al := [0, 11, 13, 14, 35, 36, 37, 38, 40, 41, 42]) fr1 (by decide) n29))))) ((show NI 23 u52 from NI.fr (fl := [12, 15, 47]) (al := [0, 11, 13, 14]) fr53 (by decide) (show NI 23 u34 from NI.fr (fl := [12, 15, 32, 33, 39, 43, 44, 45, 47, 48, 49, 50, 51]) (al := [0, 11, 13, 14, 35, 36, 37, 38, 40, 41, 42]) fr33 (by decide) (show NI 23 u29 from NI.fr (fl := [12, 15, 47, 48]) (al := [0, 11, 13, 14]) fr30 (by decide) (show NI 23 u2 from NI.fr (fl := [12, 15, 32, 33, 39, 43, 44, 45, 47, 48, 49, 50, 51]) (al := [0, 11, 13, 14, 35, 36, 37, 38, 40, 41, 42]) fr1 (by decide) n23))))) ((show NI 35 u52 from NI.fr (fl := [12, 15, 47]) (al := [0, 11, 13, 14]) fr53 (by decide) n3533))) tw_132 tw_133 (by decide +kernel) rfl rfl ⟨by show (40 * n54 + 32) + 1 ≤ 40 * n + 32; omega, by show 8 + (6 + 11) + 28 * (40 * n54 + 32) ≤ 28 * (40 * n + 32); omega⟩ (List.range (mW ad N cI cZ cJ (wA u52 14 ((u2.1 0 15).toNatClampNeg) (u52.1 0 15))).length) (rg_map _) (mW_nd _ _ _ _ _ _) rfl rfl rfl rfl hl.1 rfl (Nat.le_of_ble_eq_true rfl) dX13_choice_96 ⟨Nat.le_of_ble_eq_true rfl, Nat.le_of_ble_eq_true rfl⟩) hP hD hS hA (fun u9 ce9 q9 H locs hx9 hP hD hS hc9 hv9 hf9 => ?_) (fun u57 H locs hw56 hP hD hS => ?_)
    · exact vx_out (fun x h9 => (hnt x h9).elim) hlocks hc9 hv9 hf9 (fun t9 ht9 hv8 => ⟨u9, (FG.tr (FG.a (FG.tr (FG.tr (FG.tr (FG.tr (FG.rf _) (FG.up fr1 (by decide) (by decide))) (FG.up fr30 (by decide) (by decide))) (FG.up fr33 (by decide) (by decide))) (FG.up fr53 (by decide) (by decide))) ((u2.1 0 15).toNatClampNeg) (u52.1 0 15) (by decide) (by decide)) hx9), ⟨rfl, by rw [ht9]; exact hP, hD⟩, hS.F ht9⟩) hS.2.2 (by omega) (by omega)
    obtain ⟨fr56, pt56, pb56, pw56, po56, pf56, pk56, pp56, ph56, kc56, ko56, kg56, n3556⟩ := hw56
    have q56_2 : (u57.1 0 2).toInt = (u52.1 0 2).toInt := congrArg Int32.toInt ((fr56.2.1 2 (by decide)).trans (show (wA u52 14 ((u2.1 0 15).toNatClampNeg) (u52.1 0 15)).1 0 2 = (u52.1 0 2) by rfl))
    have q56_4 : (u57.1 0 4).toInt = (u52.1 0 4).toInt := congrArg Int32.toInt ((fr56.2.1 4 (by decide)).trans (show (wA u52 14 ((u2.1 0 15).toNatClampNeg) (u52.1 0 15)).1 0 4 = (u52.1 0 4) by rfl))
    have q56_5 : (u57.1 0 5).toInt = (u52.1 0 5).toInt := congrArg Int32.toInt ((fr56.2.1 5 (by decide)).trans (show (wA u52 14 ((u2.1 0 15).toNatClampNeg) (u52.1 0 15)).1 0 5 = (u52.1 0 5) by rfl))
    have q56_22 : (u57.1 0 22).toInt = (u52.1 0 22).toInt := congrArg Int32.toInt ((fr56.2.1 22 (by decide)).trans (show (wA u52 14 ((u2.1 0 15).toNatClampNeg) (u52.1 0 15)).1 0 22 = (u52.1 0 22) by rfl))
    have q56_27 : (u57.1 0 27).toInt = (u52.1 0 27).toInt := congrArg Int32.toInt ((fr56.2.1 27 (by decide)).trans (show (wA u52 14 ((u2.1 0 15).toNatClampNeg) (u52.1 0 15)).1 0 27 = (u52.1 0 27) by rfl))
    have q56_28 : (u57.1 0 28).toInt = (u52.1 0 28).toInt := congrArg Int32.toInt ((fr56.2.1 28 (by decide)).trans (show (wA u52 14 ((u2.1 0 15).toNatClampNeg) (u52.1 0 15)).1 0 28 = (u52.1 0 28) by rfl))
    have q56_30 : (u57.1 0 30).toInt = (u52.1 0 30).toInt := congrArg Int32.toInt ((fr56.2.1 30 (by decide)).trans (show (wA u52 14 ((u2.1 0 15).toNatClampNeg) (u52.1 0 15)).1 0 30 = (u52.1 0 30) by rfl))
    have q56_31 : (u57.1 0 31).toInt = (u52.1 0 31).toInt := congrArg Int32.toInt ((fr56.2.1 31 (by decide)).trans (show (wA u52 14 ((u2.1 0 15).toNatClampNeg) (u52.1 0 15)).1 0 31 = (u52.1 0 31) by rfl))
    have q56_34 : (u57.1 0 34).toInt = (u52.1 0 34).toInt := congrArg Int32.toInt ((fr56.2.1 34 (by decide)).trans (show (wA u52 14 ((u2.1 0 15).toNatClampNeg) (u52.1 0 15)).1 0 34 = (u52.1 0 34) by rfl))
    have q56_52 : (u57.1 0 52).toInt = (u52.1 0 52).toInt := congrArg Int32.toInt ((fr56.2.1 52 (by decide)).trans (show (wA u52 14 ((u2.1 0 15).toNatClampNeg) (u52.1 0 15)).1 0 52 = (u52.1 0 52) by rfl))
    have pt56 : (u52.1 0 47).toInt + 0 ≤ (u57.1 0 47).toInt ∧ (u57.1 0 47).toInt ≤ 1500 := pt56
    have pb56 : 0 ≠ 0 ∨ ((u52.1 0 47).toInt + 1 ≤ (u57.1 0 47).toInt ∧ (u52.1 0 49).toInt ≠ (u52.1 0 47).toInt) := pb56
    have pw56 : (u52.1 0 12).toInt ≤ (u57.1 0 12).toInt ∧ (u57.1 0 12).toInt - 15 * (u57.1 0 47).toInt ≤ (u52.1 0 12).toInt - 15 * (u52.1 0 47).toInt := pw56
    have po56 : (u52.1 0 15).toInt ≤ (u57.1 0 15).toInt ∧ (u57.1 0 15).toInt - 10 * (u57.1 0 47).toInt ≤ (u52.1 0 15).toInt - 10 * (u52.1 0 47).toInt := po56
    have pf56 : (u52.1 0 43).toInt ≤ (u57.1 0 43).toInt ∧ (u57.1 0 43).toInt - 15 * (u57.1 0 47).toInt ≤ (u52.1 0 43).toInt - 15 * (u52.1 0 47).toInt := pf56
    have pk56 : (u52.1 0 39).toInt ≤ (u57.1 0 39).toInt ∧ (u57.1 0 39).toInt - 1 * (u57.1 0 47).toInt ≤ (u52.1 0 39).toInt - 1 * (u52.1 0 47).toInt := pk56
    have pp56 : (u57.1 0 32).toInt = (u52.1 0 32).toInt ∧ (u57.1 0 48).toInt = (u52.1 0 48).toInt := pp56
    have ph56 : (u52.1 0 33).toInt ≤ (u57.1 0 33).toInt ∧ (u57.1 0 33).toInt ≤ 500 := ph56
    have kc56 : ∀ j : Nat, (j : Int) < (u52.1 0 12).toInt → (u57.1 11) j = (u52.1 11) j := kc56
    have ko56 : ∀ j : Nat, (j : Int) < (u52.1 0 15).toInt → (u57.1 13) j = (u52.1 13) j := ko56
    have kg56 : ∀ j : Nat, (j : Int) < (u52.1 0 15).toInt → (u57.1 14) j = (upd (u52.1 14) ((u2.1 0 15).toNatClampNeg) (u52.1 0 15)) j := kg56
    have n3556 : NI 35 u57 := n3556
    refine W.widen (k := 0) (n := 0) (by omega) (by omega) ?_
    refine lv_aload_n hx hb dX13_choice_99 rfl (lv_at hl 4 rfl) ?_
    refine lv_iload hx hb dX13_choice_100 (lv_at hl 1 rfl) ?_
    refine lv_iconst (v := 0) hx hb dX13_choice_102 (by decide) ?_
    refine lv_aload_n hx hb dX13_choice_103 rfl (lv_at hl 4 rfl) ?_
    refine va_get (D := (dC, dI)) (ci := 16) (fs := mF ad u57) (v := .int (u57.1 0 12)) (C := RX13) (T := TX13) (N := 124) hx hb ht itX13 hown hK hP 0 rfl rfl 12 (by decide) (ht _ tw_7) (fun _ h9 => h9) rfl dX13_choice_104 ?_
    refine cu_v (rn_V (n := 3) (As := [.int (u34.1 0 12), .int 0, .int (u57.1 0 12)]) (rest := []) hx hb hml hown ht hKK hFx hP hD hS hA (c_m_jump l dC dI cI cB cZ cJ cR tb H.size ad N u57 (u34.1 0 12) (0 : Int32) (u57.1 0 12) (show 0 ≤ (u34.1 0 12).toInt ∧ (u34.1 0 12).toInt < 24000 by omega)) tw_126 tw_127 (by decide +kernel) rfl rfl ⟨by show 1 + 1 ≤ 40 * n + 32; omega, by show 8 + (4 + 11) + 21 ≤ 28 * (40 * n + 32); omega⟩ (List.range (mW ad N cI cZ cJ u57).length) (rg_map _) (mW_nd _ _ _ _ _ _) rfl rfl rfl rfl hl.1 rfl (Nat.le_of_ble_eq_true rfl) dX13_choice_107 ⟨Nat.le_of_ble_eq_true rfl, Nat.le_of_ble_eq_true rfl⟩) hP hD hS hA (fun u60 H locs hw59 hP hD hS => ?_)
    obtain ⟨x62, rfl⟩ := hw59
    have hP : va_P (dC, dI) vwCl (mW ad N cI cZ cJ (wA u57 11 ((u34.1 0 12).toNatClampNeg) x62)) H := hP
    have hD : va_D A (mW ad N cI cZ cJ (wA u57 11 ((u34.1 0 12).toNatClampNeg) x62)) := hD
    refine W.widen (k := 0) (n := 0) (by omega) (by omega) ?_
    refine lv_aload_n hx hb dX13_choice_110 rfl (lv_at hl 4 rfl) ?_
    refine va_get (D := (dC, dI)) (ci := 16) (fs := mF ad (wA u57 11 ((u34.1 0 12).toNatClampNeg) x62)) (v := .ref (ad 14)) (C := RX13) (T := TX13) (N := 124) hx hb ht itX13 hown hK hP 0 rfl rfl 14 (by decide) (ht _ tw_12) (fun _ h9 => h9) rfl dX13_choice_111 ?_
    refine lv_iload hx hb dX13_choice_114 (lv_at hl 0 rfl) ?_
    refine lv_aload_n hx hb dX13_choice_116 rfl (lv_at hl 4 rfl) ?_
    refine va_get (D := (dC, dI)) (ci := 16) (fs := mF ad (wA u57 11 ((u34.1 0 12).toNatClampNeg) x62)) (v := .int (u57.1 0 15)) (C := RX13) (T := TX13) (N := 124) hx hb ht itX13 hown hK hP 0 rfl rfl 15 (by decide) (ht _ tw_11) (fun _ h9 => h9) rfl dX13_choice_117 ?_
    refine va_iast (D := (dC, dI)) (f := (u57.1 14)) hx hb hK hP hD hS 10 0 rfl rfl (in_z (a := (u34.1 0 15).toInt) rfl (by omega) (by omega)) dX13_choice_120 (fun H locs hP hD hS => ?_)
    have hP := cP_ (ma_14 ad N cI cZ cJ (wA u57 11 ((u34.1 0 12).toNatClampNeg) x62) ((u34.1 0 15).toNatClampNeg) (u57.1 0 15)) hP
    have hD := cD_ (ma_14 ad N cI cZ cJ (wA u57 11 ((u34.1 0 12).toNatClampNeg) x62) ((u34.1 0 15).toNatClampNeg) (u57.1 0 15)) hD
    refine lv_aload_n hx hb dX13_choice_121 rfl (lv_at hl 4 rfl) ?_
    refine lv_dup hx hb dX13_choice_122 rfl ?_
    refine va_get (D := (dC, dI)) (ci := 16) (fs := mF ad (wA (wA u57 11 ((u34.1 0 12).toNatClampNeg) x62) 14 ((u34.1 0 15).toNatClampNeg) (u57.1 0 15))) (v := .int (u57.1 0 48)) (C := RX13) (T := TX13) (N := 124) hx hb ht itX13 hown hK hP 0 rfl rfl 48 (by decide) (ht _ tw_31) (fun _ h9 => h9) rfl dX13_choice_123 ?_
    refine lv_iconst (v := 1) hx hb dX13_choice_126 (by decide) ?_
    refine lv_isub hx hb dX13_choice_127 ?_
    have z63 : ((u57.1 0 48) - (1 : Int32)).toInt = (u57.1 0 48).toInt - 1 := sub_z rfl (show (1 : Int32).toInt = 1 by decide) (by omega) (by omega)
    refine va_put (D := (dC, dI)) (ci := 16) (fs := mF ad (wA (wA u57 11 ((u34.1 0 12).toNatClampNeg) x62) 14 ((u34.1 0 15).toNatClampNeg) (u57.1 0 15))) (v := .int ((u57.1 0 48) - (1 : Int32))) (ty := .int) (C := RX13) (T := TX13) (N := 124) hx hb ht itX13 tyX13 tyX13_ok nmX13 hown hK hP hD hS 0 rfl rfl 48 (by decide) (ht _ tw_31) (fun _ h9 => h9) rfl (by decide +kernel) rfl rfl (Nat.le_of_ble_eq_true rfl) dX13_choice_128 (fun H locs hP hD hS => ?_)
    have hP := cP_ (mw_48 ad N cI cZ cJ (wA (wA u57 11 ((u34.1 0 12).toNatClampNeg) x62) 14 ((u34.1 0 15).toNatClampNeg) (u57.1 0 15)) ((u57.1 0 48) - (1 : Int32))) hP
    have hD := cD_ (mw_48 ad N cI cZ cJ (wA (wA u57 11 ((u34.1 0 12).toNatClampNeg) x62) 14 ((u34.1 0 15).toNatClampNeg) (u57.1 0 15)) ((u57.1 0 48) - (1 : Int32))) hD
    refine vx_ret ?_
    exact W.vret hx hb hr (fun t ht9 hW => ⟨⟨(wA (wA (wA u57 11 ((u34.1 0 12).toNatClampNeg) x62) 14 ((u34.1 0 15).toNatClampNeg) (u57.1 0 15)) 0 48 ((u57.1 0 48) - (1 : Int32))), rfl, ⟨(FG.f (FG.a (FG.a (FG.tr (FG.a (FG.tr (FG.tr (FG.tr (FG.tr (FG.rf _) (FG.up fr1 (by decide) (by decide))) (FG.up fr30 (by decide) (by decide))) (FG.up fr33 (by decide) (by decide))) (FG.up fr53 (by decide) (by decide))) ((u2.1 0 15).toNatClampNeg) (u52.1 0 15) (by decide) (by decide)) (FG.up fr56 (by decide) (by decide))) ((u34.1 0 12).toNatClampNeg) x62 (by decide) (by decide)) ((u34.1 0 15).toNatClampNeg) (u57.1 0 15) (by decide) (by decide)) ((u57.1 0 48) - (1 : Int32)) (by decide)), (show (v.1 0 47).toInt + 0 ≤ (u57.1 0 47).toInt ∧ (u57.1 0 47).toInt ≤ 1500 by omega), (show pa.toInt ≠ 0 ∨ ((v.1 0 47).toInt + 1 ≤ (u57.1 0 47).toInt ∧ (v.1 0 49).toInt ≠ (v.1 0 47).toInt) by omega), (show (v.1 0 12).toInt ≤ (u57.1 0 12).toInt ∧ (u57.1 0 12).toInt - 15 * (u57.1 0 47).toInt ≤ (v.1 0 12).toInt - 15 * (v.1 0 47).toInt by omega), (show (v.1 0 15).toInt ≤ (u57.1 0 15).toInt ∧ (u57.1 0 15).toInt - 10 * (u57.1 0 47).toInt ≤ (v.1 0 15).toInt - 10 * (v.1 0 47).toInt by omega), (show (v.1 0 43).toInt ≤ (u57.1 0 43).toInt ∧ (u57.1 0 43).toInt - 15 * (u57.1 0 47).toInt ≤ (v.1 0 43).toInt - 15 * (v.1 0 47).toInt by omega), (show (v.1 0 39).toInt ≤ (u57.1 0 39).toInt ∧ (u57.1 0 39).toInt - 1 * (u57.1 0 47).toInt ≤ (v.1 0 39).toInt - 1 * (v.1 0 47).toInt by omega), (show (u57.1 0 32).toInt = (v.1 0 32).toInt ∧ ((u57.1 0 48) - (1 : Int32)).toInt = (v.1 0 48).toInt by omega), (show (v.1 0 33).toInt ≤ (u57.1 0 33).toInt ∧ (u57.1 0 33).toInt ≤ 500 by omega), (fun (j9 : Nat) hj9 => (Eq.trans (pk_un (by have := cl_z (a := (u34.1 0 12).toInt) rfl (by omega); omega)) (Eq.trans (kc56 j9 (by omega)) (Eq.trans (kc53 j9 (by omega)) (Eq.trans (kc33 j9 (by omega)) (Eq.trans (kc30 j9 (by omega)) (kc1 j9 (by omega)))))))), (fun (j9 : Nat) hj9 => (Eq.trans (ko56 j9 (by omega)) (Eq.trans (ko53 j9 (by omega)) (Eq.trans (ko33 j9 (by omega)) (Eq.trans (ko30 j9 (by omega)) (ko1 j9 (by omega))))))), (fun (j9 : Nat) hj9 => (Eq.trans (pk_un (by have := cl_z (a := (u34.1 0 15).toInt) rfl (by omega); omega)) (Eq.trans (kg56 j9 (by omega)) (Eq.trans (pk_un (by have := cl_z (a := (u2.1 0 15).toInt) rfl (by omega); omega)) (Eq.trans (kg53 j9 (by omega)) (Eq.trans (kg33 j9 (by omega)) (Eq.trans (kg30 j9 (by omega)) (kg1 j9 (by omega))))))))), n3556⟩, by rw [ht9]; exact hP, hD⟩, hS.F ht9⟩) hS.2.2 dX13_choice_131
  · have z64 : r6.toInt = 0 := eq_z rfl (show (0 : Int32).toInt = 0 by decide) h7
    refine vx_ret ?_
    exact W.vret hx hb hr (fun t ht9 hW => ⟨⟨u2, rfl, ⟨(FG.tr (FG.rf _) (FG.up fr1 (by decide) (by decide))), (show (v.1 0 47).toInt + 0 ≤ (u2.1 0 47).toInt ∧ (u2.1 0 47).toInt ≤ 1500 by omega), (show pa.toInt ≠ 0 ∨ ((v.1 0 47).toInt + 1 ≤ (u2.1 0 47).toInt ∧ (v.1 0 49).toInt ≠ (v.1 0 47).toInt) by omega), (show (v.1 0 12).toInt ≤ (u2.1 0 12).toInt ∧ (u2.1 0 12).toInt - 15 * (u2.1 0 47).toInt ≤ (v.1 0 12).toInt - 15 * (v.1 0 47).toInt by omega), (show (v.1 0 15).toInt ≤ (u2.1 0 15).toInt ∧ (u2.1 0 15).toInt - 10 * (u2.1 0 47).toInt ≤ (v.1 0 15).toInt - 10 * (v.1 0 47).toInt by omega), (show (v.1 0 43).toInt ≤ (u2.1 0 43).toInt ∧ (u2.1 0 43).toInt - 15 * (u2.1 0 47).toInt ≤ (v.1 0 43).toInt - 15 * (v.1 0 47).toInt by omega), (show (v.1 0 39).toInt ≤ (u2.1 0 39).toInt ∧ (u2.1 0 39).toInt - 1 * (u2.1 0 47).toInt ≤ (v.1 0 39).toInt - 1 * (v.1 0 47).toInt by omega), (show (u2.1 0 32).toInt = (v.1 0 32).toInt ∧ (u2.1 0 48).toInt = (v.1 0 48).toInt by omega), (show (v.1 0 33).toInt ≤ (u2.1 0 33).toInt ∧ (u2.1 0 33).toInt ≤ 500 by omega), (fun (j9 : Nat) hj9 => (kc1 j9 (by omega))), (fun (j9 : Nat) hj9 => (ko1 j9 (by omega))), (fun (j9 : Nat) hj9 => (kg1 j9 (by omega))), n351⟩, by rw [ht9]; exact hP, hD⟩, hS.F ht9⟩) hS.2.2 dX13_choice_15
set_option maxHeartbeats 16000000 in
set_option maxRecDepth 100000 in
theorem c_m_named1 (l : Launch) (n : Nat) (ihE : ∀ m, n = m + 1 → Cx_expression l m) (C : Cx_choice l n) (dC : Nat → ClassId) (dI : Nat → Nat → Nat) (cI cB cZ cJ cR : ClassId) (tb : Nat → Nat) (sz : Nat) (ad : Nat → Nat) (N : Nat) (v : MS)  (zn : 40 ≤ (v.1 0 48).toInt + (n : Int)) (zt : 0 ≤ (v.1 0 47).toInt ∧ (v.1 0 47).toInt ≤ 1500) (zop : 0 ≤ (v.1 0 48).toInt ∧ (v.1 0 48).toInt ≤ 40) (zkn : 0 ≤ (v.1 0 30).toInt ∧ (v.1 0 30).toInt ≤ 500) (zhi : 0 ≤ (v.1 0 33).toInt ∧ (v.1 0 33).toInt ≤ 500) (zs : 0 ≤ (v.1 0 32).toInt ∧ (v.1 0 30).toInt + (v.1 0 32).toInt ≤ 500) (zws : 0 ≤ (v.1 0 12).toInt ∧ (v.1 0 12).toInt ≤ 15 * (v.1 0 47).toInt + 2) (zos : 0 ≤ (v.1 0 15).toInt ∧ (v.1 0 15).toInt ≤ 10 * (v.1 0 47).toInt + 0) (zfs : 0 ≤ (v.1 0 43).toInt ∧ (v.1 0 43).toInt ≤ 15 * (v.1 0 47).toInt + 0) (zcs : 0 ≤ (v.1 0 39).toInt ∧ (v.1 0 39).toInt ≤ 1 * (v.1 0 47).toInt + 0) (zgl : 0 ≤ (v.1 0 27).toInt ∧ (v.1 0 27).toInt ≤ 60) (hT : TI v) (n29 : NI 29 v) (n23 : NI 23 v) (n35 : NI 35 v) : vx_Met l yX13_named (Cond.code yX13_named cX13_named 7 none :: tw_W) ({ frames := 40 * n + 34, cells := 0, slots := 0, locals := 28 * (40 * n + 34) }) (pc_ (dC, dI) (tyS cI cB cZ cJ cR) tb (mW ad N cI cZ cJ v) sz [.ref (ad 0), .int 1]) (qv_ (dC, dI) (mW ad N cI cZ cJ v) sz (fun (u : MS) => FG [12, 15, 32, 33, 39, 43, 44, 45, 47, 48, 49, 50, 51] [0, 11, 13, 14, 35, 36, 37, 38, 40, 41, 42] v u ∧ ((v.1 0 47).toInt + 1 ≤ (u.1 0 47).toInt ∧ (u.1 0 47).toInt ≤ 1500) ∧ ((v.1 0 49).toInt ≠ (v.1 0 47).toInt) ∧ ((v.1 0 12).toInt ≤ (u.1 0 12).toInt ∧ (u.1 0 12).toInt - 15 * (u.1 0 47).toInt ≤ (v.1 0 12).toInt - 15 * (v.1 0 47).toInt) ∧ ((v.1 0 15).toInt ≤ (u.1 0 15).toInt ∧ (u.1 0 15).toInt - 10 * (u.1 0 47).toInt ≤ (v.1 0 15).toInt - 10 * (v.1 0 47).toInt) ∧ ((v.1 0 43).toInt ≤ (u.1 0 43).toInt ∧ (u.1 0 43).toInt - 15 * (u.1 0 47).toInt ≤ (v.1 0 43).toInt - 15 * (v.1 0 47).toInt) ∧ ((v.1 0 39).toInt ≤ (u.1 0 39).toInt ∧ (u.1 0 39).toInt - 1 * (u.1 0 47).toInt ≤ (v.1 0 39).toInt - 1 * (v.1 0 47).toInt) ∧ ((u.1 0 32).toInt = (v.1 0 32).toInt ∧ (u.1 0 48).toInt = (v.1 0 48).toInt) ∧ ((v.1 0 33).toInt ≤ (u.1 0 33).toInt ∧ (u.1 0 33).toInt ≤ 500) ∧ (∀ j : Nat, (j : Int) < (v.1 0 12).toInt → (u.1 11) j = (v.1 11) j) ∧ (∀ j : Nat, (j : Int) < (v.1 0 15).toInt → (u.1 13) j = (v.1 13) j) ∧ (∀ j : Nat, (j : Int) < (v.1 0 15).toInt → (u.1 14) j = (v.1 14) j) ∧ (NI 35 u)) (fun (u : MS) => (mW ad N cI cZ cJ u))) (qxm (dC, dI) (mW ad N cI cZ cJ v) sz (fun (u : MS) => (mW ad N cI cZ cJ u)) (fun (u : MS) => Fr v u)) 0 0 (va_A (mW ad N cI cZ cJ v) sz) := by
  refine vx_ofW (cc := cX13_named) (maxL := 7) (ret := none) (by decide) rfl ?_
  intro p e s m args below meth c s₁ B hml hnt hv
  obtain ⟨rfl, hsz, hP, hKK, hD0, hFx⟩ := hv
  have hK := hKK.1
  have hx := B.exec
  have hb := B.bytes
  have hr := B.returns
  have ht : ∀ w ∈ tw_W, w.before _ s = true := fun w h => atoms_spec (ws := Cond.code yX13_named cX13_named 7 none :: tw_W) B.pre w (List.mem_cons_of_mem _ h)
  have hown : s.vm.findClass RX13 = some m.cls := findClass_of_methodNamed B.named
  have hlocks := B.notSynchronized
  subst hsz
  unfold qv_ qxm
  have hD := hD0.self (sz := s.heap.size)
  generalize hAe : va_A (mW ad N cI cZ cJ v) s.heap.size = A at hD hFx ⊢
  have hA : ∀ q : Nat, s.heap.size ≤ q → A q := fun q h => by rw [← hAe]; exact Or.inr h
  have hS : va_S A s.heap s.heap [] := va_S.rf
  have hl := lv_entry ([.ref (ad 0), .int 1]) (n := 7) (Nat.le_of_ble_eq_true rfl)
  rw [lg_entry_eq]
  generalize (lg_sl ([.ref (ad 0), .int 1]) ++ List.replicate (7 - (lg_sl ([.ref (ad 0), .int 1])).length) Slot.unset).toArray = ls at hl ⊢
  have hl : lv_has ls 7 [(0, .ref (ad 0)), (1, .int 1)] := hl
  refine lv_aload_n hx hb dX13_named_0 rfl (lv_at hl 0 rfl) ?_
  refine va_get (D := (dC, dI)) (ci := 16) (fs := mF ad v) (v := .int (v.1 0 47)) (C := RX13) (T := TX13) (N := 124) hx hb ht itX13 hown hK hP 0 rfl rfl 47 (by decide) (ht _ tw_24) (fun _ h9 => h9) rfl dX13_named_1 ?_
  refine lv_istore_n (lv' := [(2, .int (v.1 0 47)), (0, .ref (ad 0)), (1, .int 1)]) hx hb dX13_named_4 rfl hl (by decide) rfl (fun ls hl => ?_)
  refine lv_aload_n hx hb dX13_named_5 rfl (lv_at hl 1 rfl) ?_
  refine lv_aload_n hx hb dX13_named_6 rfl (lv_at hl 1 rfl) ?_
  refine va_get (D := (dC, dI)) (ci := 16) (fs := mF ad v) (v := .int (v.1 0 47)) (C := RX13) (T := TX13) (N := 124) hx hb ht itX13 hown hK hP 0 rfl rfl 47 (by decide) (ht _ tw_24) (fun _ h9 => h9) rfl dX13_named_7 ?_
  refine lv_iconst (v := 1) hx hb dX13_named_10 (by decide) ?_
  refine lv_iadd hx hb dX13_named_11 ?_
  have z1 : ((v.1 0 47) + (1 : Int32)).toInt = (v.1 0 47).toInt + 1 := add_z rfl (show (1 : Int32).toInt = 1 by decide) (by omega) (by omega)
  refine lv_bipush (v := 91) hx hb dX13_named_12 (by decide) ?_
  refine cu_i (rn_V (n := 2) (As := [.int ((v.1 0 47) + (1 : Int32)), .int 91]) (rest := []) hx hb hml hown ht hKK hFx hP hD hS hA (c_m_isSign l dC dI cI cB cZ cJ cR tb s.heap.size ad N v ((v.1 0 47) + (1 : Int32)) (91 : Int32) (show 0 ≤ ((v.1 0 47) + (1 : Int32)).toInt ∧ ((v.1 0 47) + (1 : Int32)).toInt < 4002 by omega)) tw_28 tw_29 (by decide +kernel) rfl rfl ⟨by show 0 + 1 ≤ 40 * n + 34; omega, by show 8 + (3 + 11) + 0 ≤ 28 * (40 * n + 34); omega⟩ (List.range (mW ad N cI cZ cJ v).length) (rg_map _) (mW_nd _ _ _ _ _ _) rfl rfl rfl rfl hl.1 rfl (Nat.le_of_ble_eq_true rfl) dX13_named_14 ⟨Nat.le_of_ble_eq_true rfl, Nat.le_of_ble_eq_true rfl⟩) hP hD hS hA (fun r4 u3 H locs hw2 hP hD hS => ?_)
  obtain ⟨rfl, b2⟩ := hw2
  refine W.widen (k := 0) (n := 0) (by omega) (by omega) ?_
  refine lv_istore_n (lv' := [(3, .int r4), (2, .int (v.1 0 47)), (0, .ref (ad 0)), (1, .int 1)]) hx hb dX13_named_17 rfl hl (by decide) rfl (fun ls hl => ?_)
  refine lv_aload_n hx hb dX13_named_18 rfl (lv_at hl 2 rfl) ?_
  refine lv_iload_n hx hb dX13_named_19 rfl (lv_at hl 1 rfl) ?_
  refine cu_i (rn_V (n := 1) (As := [.int (v.1 0 47)]) (rest := []) hx hb hml hown ht hKK hFx hP hD hS hA (c_m_local l dC dI cI cB cZ cJ cR tb H.size ad N v (v.1 0 47) (show 0 ≤ (v.1 0 47).toInt ∧ (v.1 0 47).toInt < 4002 by omega) (show 0 ≤ (v.1 0 30).toInt ∧ (v.1 0 30).toInt ≤ 501 by omega) (FG.ti (fl := pfl) (al := pal) (FG.rf _) (by decide) (by decide) hT) (n29)) tw_98 tw_99 (by decide +kernel) rfl rfl ⟨by show 1 + 1 ≤ 40 * n + 34; omega, by show 8 + (3 + 11) + 25 ≤ 28 * (40 * n + 34); omega⟩ (List.range (mW ad N cI cZ cJ v).length) (rg_map _) (mW_nd _ _ _ _ _ _) rfl rfl rfl rfl hl.1 rfl (Nat.le_of_ble_eq_true rfl) dX13_named_20 ⟨Nat.le_of_ble_eq_true rfl, Nat.le_of_ble_eq_true rfl⟩) hP hD hS hA (fun r7 u6 H locs hw5 hP hD hS => ?_)
  obtain ⟨rfl, a5, b5⟩ := hw5
  refine W.widen (k := 0) (n := 0) (by omega) (by omega) ?_
  refine lv_istore (lv' := [(4, .int r7), (3, .int r4), (2, .int (v.1 0 47)), (0, .ref (ad 0)), (1, .int 1)]) hx hb dX13_named_23 hl (by decide) rfl (fun ls hl => ?_)
  refine lv_iload hx hb dX13_named_25 (lv_at hl 0 rfl) ?_
  refine lv_if_ge (tgt := 38) hx hb dX13_named_27 (by decide) (fun h8 => ?_) (fun h8 => ?_)
  · have z9 : 0 ≤ r7.toInt := le_z (show (0 : Int32).toInt = 0 by decide) rfl h8
    refine lv_iconst (v := -1) hx hb dX13_named_38 (by decide) ?_
    refine lv_istore (lv' := [(5, .int (-1)), (4, .int r7), (3, .int r4), (2, .int (v.1 0 47)), (0, .ref (ad 0)), (1, .int 1)]) hx hb dX13_named_39 hl (by decide) rfl (fun ls hl => ?_)
    refine lv_iload hx hb dX13_named_41 (lv_at hl 1 rfl) ?_
    refine lv_if_ge (tgt := 51) hx hb dX13_named_43 (by decide) (fun h10 => ?_) (fun h10 => ?_)
    · have z11 : 0 ≤ r7.toInt := le_z (show (0 : Int32).toInt = 0 by decide) rfl h10
      refine lv_iload_n hx hb dX13_named_51 rfl (lv_at hl 2 rfl) ?_
      refine lv_iload hx hb dX13_named_52 (lv_at hl 1 rfl) ?_
      refine lv_if_ge (tgt := 71) hx hb dX13_named_54 (by decide) (fun h12 => ?_) (fun h12 => ?_)
      · have z13 : 0 ≤ r7.toInt := le_z (show (0 : Int32).toInt = 0 by decide) rfl h12
        refine lv_iconst (v := 0) hx hb dX13_named_71 (by decide) ?_
        refine lv_icmp_eq (tgt := 85) hx hb dX13_named_72 (by decide) (fun h14 => ?_) (fun h14 => ?_)
        · have z15 : r4.toInt = 0 := eq_z rfl (show (0 : Int32).toInt = 0 by decide) h14
          refine lv_aload_n hx hb dX13_named_85 rfl (lv_at hl 4 rfl) ?_
          refine cux_v (rx_V (n := 0) (As := []) (rest := []) hx hb hml hown ht hKK hFx hP hD hS hA (c_m_take l dC dI cI cB cZ cJ cR tb H.size ad N v  (show 0 ≤ (v.1 0 47).toInt ∧ (v.1 0 47).toInt ≤ 1500 by omega)) tw_32 tw_33 (by decide +kernel) rfl rfl ⟨by show 1 + 1 ≤ 40 * n + 34; omega, by show 8 + (1 + 11) + 22 ≤ 28 * (40 * n + 34); omega⟩ (List.range (mW ad N cI cZ cJ v).length) (rg_map _) (mW_nd _ _ _ _ _ _) rfl rfl rfl rfl hl.1 rfl (Nat.le_of_ble_eq_true rfl) dX13_named_86 ⟨Nat.le_of_ble_eq_true rfl, Nat.le_of_ble_eq_true rfl⟩) hP hD hS hA (fun u9 ce9 q9 H locs hx9 hP hD hS hc9 hv9 hf9 => ?_) (fun u17 H locs hw16 hP hD hS => ?_)
          · exact vx_out (fun x h9 => (hnt x h9).elim) hlocks hc9 hv9 hf9 (fun t9 ht9 hv8 => ⟨u9, (FG.tr (FG.rf _) hx9), ⟨rfl, by rw [ht9]; exact hP, hD⟩, hS.F ht9⟩) hS.2.2 (by omega) (by omega)
          obtain ⟨rfl, a16, b16⟩ := hw16
          have z19 : ((v.1 0 47) + (1 : Int32)).toInt = (v.1 0 47).toInt + 1 := add_z rfl (show (1 : Int32).toInt = 1 by decide) (by omega) (by omega)
          have hP : va_P (dC, dI) vwCl (mW ad N cI cZ cJ (wA v 0 47 ((v.1 0 47) + (1 : Int32)))) H := hP
          have hD : va_D A (mW ad N cI cZ cJ (wA v 0 47 ((v.1 0 47) + (1 : Int32)))) := hD
          refine W.widen (k := 0) (n := 0) (by omega) (by omega) ?_
          refine lv_iload_n hx hb dX13_named_89 rfl (lv_at hl 2 rfl) ?_
          refine lv_if_eq (tgt := 99) hx hb dX13_named_90 (by decide) (fun h20 => ?_) (fun h20 => ?_)
          · have z21 : r4.toInt = 0 := eq_z rfl (show (0 : Int32).toInt = 0 by decide) h20
            refine lv_iload_n hx hb dX13_named_99 rfl (lv_at hl 5 rfl) ?_
            refine lv_if_eq (tgt := 110) hx hb dX13_named_100 (by decide) (fun k22 => absurd k22 (by decide)) (fun _ => ?_)
            refine lv_aload_n hx hb dX13_named_103 rfl (lv_at hl 4 rfl) ?_
            refine cu_i (rn_V (n := 0) (As := []) (rest := []) hx hb hml hown ht hKK hFx hP hD hS hA (c_m_setting l dC dI cI cB cZ cJ cR tb H.size ad N (wA v 0 47 ((v.1 0 47) + (1 : Int32)))  (show 0 ≤ ((v.1 0 47) + (1 : Int32)).toInt ∧ ((v.1 0 47) + (1 : Int32)).toInt ≤ 1500 by omega)) tw_134 tw_135 (by decide +kernel) rfl rfl ⟨by show 0 + 1 ≤ 40 * n + 34; omega, by show 8 + (5 + 11) + 0 ≤ 28 * (40 * n + 34); omega⟩ (List.range (mW ad N cI cZ cJ (wA v 0 47 ((v.1 0 47) + (1 : Int32)))).length) (rg_map _) (mW_nd _ _ _ _ _ _) rfl rfl rfl rfl hl.1 rfl (Nat.le_of_ble_eq_true rfl) dX13_named_104 ⟨Nat.le_of_ble_eq_true rfl, Nat.le_of_ble_eq_true rfl⟩) hP hD hS hA (fun r25 u24 H locs hw23 hP hD hS => ?_)
            obtain rfl := hw23
            refine W.widen (k := 0) (n := 0) (by omega) (by omega) ?_
            refine lv_goto (tgt := 111) hx hb dX13_named_107 (by decide) ?_
            refine lv_istore (lv' := [(6, .int r25), (5, .int (-1)), (4, .int r7), (3, .int r4), (2, .int (v.1 0 47)), (0, .ref (ad 0)), (1, .int 1)]) hx hb dX13_named_111 hl (by decide) rfl (fun ls hl => ?_)
            refine lv_iload hx hb dX13_named_113 (lv_at hl 0 rfl) ?_
            refine lv_iconst (v := -1) hx hb dX13_named_115 (by decide) ?_
            refine lv_icmp_eq (tgt := 131) hx hb dX13_named_116 (by decide) (fun h26 => ?_) (fun h26 => ?_)
            · have z27 : r25.toInt = (-1) := eq_z rfl (show ((-1) : Int32).toInt = -1 by decide) h26
              refine lv_iload_n hx hb dX13_named_131 rfl (lv_at hl 3 rfl) ?_
              refine lv_if_eq (tgt := 165) hx hb dX13_named_132 (by decide) (fun h28 => ?_) (fun h28 => ?_)
              · have z29 : r4.toInt = 0 := eq_z rfl (show (0 : Int32).toInt = 0 by decide) h28
                refine lv_aload_n hx hb dX13_named_165 rfl (lv_at hl 5 rfl) ?_
                refine lv_iload hx hb dX13_named_166 (lv_at hl 2 rfl) ?_
                refine lv_iload hx hb dX13_named_168 (lv_at hl 1 rfl) ?_
                refine cu_v (rn_V (n := 2) (As := [.int r7, .int (-1)]) (rest := []) hx hb hml hown ht hKK hFx hP hD hS hA (c_m_fetch l dC dI cI cB cZ cJ cR tb H.size ad N (wA v 0 47 ((v.1 0 47) + (1 : Int32))) r7 (-1 : Int32) (show 0 ≤ (v.1 0 12).toInt ∧ (v.1 0 12).toInt ≤ 23980 by omega) (show 0 ≤ (v.1 0 15).toInt ∧ (v.1 0 15).toInt ≤ 15980 by omega) (show 0 ≤ (v.1 0 43).toInt ∧ (v.1 0 43).toInt ≤ 23980 by omega) (show 0 ≤ r7.toInt ∨ (0 ≤ (-1) ∧ (-1) < 60) by omega)) tw_92 tw_93 (by decide +kernel) rfl rfl ⟨by show 2 + 1 ≤ 40 * n + 34; omega, by show 8 + (3 + 11) + 46 ≤ 28 * (40 * n + 34); omega⟩ (List.range (mW ad N cI cZ cJ (wA v 0 47 ((v.1 0 47) + (1 : Int32)))).length) (rg_map _) (mW_nd _ _ _ _ _ _) rfl rfl rfl rfl hl.1 rfl (Nat.le_of_ble_eq_true rfl) dX13_named_170 ⟨Nat.le_of_ble_eq_true rfl, Nat.le_of_ble_eq_true rfl⟩) hP hD hS hA (fun u31 H locs hw30 hP hD hS => ?_)
                obtain ⟨fr30, pw30, po30, pf30, kc30, ko30, kg30⟩ := hw30
                have q30_2 : (u31.1 0 2).toInt = (v.1 0 2).toInt := congrArg Int32.toInt ((fr30.2.1 2 (by decide)).trans (show (wA v 0 47 ((v.1 0 47) + (1 : Int32))).1 0 2 = (v.1 0 2) by rfl))
                have q30_4 : (u31.1 0 4).toInt = (v.1 0 4).toInt := congrArg Int32.toInt ((fr30.2.1 4 (by decide)).trans (show (wA v 0 47 ((v.1 0 47) + (1 : Int32))).1 0 4 = (v.1 0 4) by rfl))
                have q30_5 : (u31.1 0 5).toInt = (v.1 0 5).toInt := congrArg Int32.toInt ((fr30.2.1 5 (by decide)).trans (show (wA v 0 47 ((v.1 0 47) + (1 : Int32))).1 0 5 = (v.1 0 5) by rfl))
                have q30_22 : (u31.1 0 22).toInt = (v.1 0 22).toInt := congrArg Int32.toInt ((fr30.2.1 22 (by decide)).trans (show (wA v 0 47 ((v.1 0 47) + (1 : Int32))).1 0 22 = (v.1 0 22) by rfl))
                have q30_27 : (u31.1 0 27).toInt = (v.1 0 27).toInt := congrArg Int32.toInt ((fr30.2.1 27 (by decide)).trans (show (wA v 0 47 ((v.1 0 47) + (1 : Int32))).1 0 27 = (v.1 0 27) by rfl))
                have q30_28 : (u31.1 0 28).toInt = (v.1 0 28).toInt := congrArg Int32.toInt ((fr30.2.1 28 (by decide)).trans (show (wA v 0 47 ((v.1 0 47) + (1 : Int32))).1 0 28 = (v.1 0 28) by rfl))
                have q30_30 : (u31.1 0 30).toInt = (v.1 0 30).toInt := congrArg Int32.toInt ((fr30.2.1 30 (by decide)).trans (show (wA v 0 47 ((v.1 0 47) + (1 : Int32))).1 0 30 = (v.1 0 30) by rfl))
                have q30_31 : (u31.1 0 31).toInt = (v.1 0 31).toInt := congrArg Int32.toInt ((fr30.2.1 31 (by decide)).trans (show (wA v 0 47 ((v.1 0 47) + (1 : Int32))).1 0 31 = (v.1 0 31) by rfl))
                have q30_32 : (u31.1 0 32).toInt = (v.1 0 32).toInt := congrArg Int32.toInt ((fr30.2.1 32 (by decide)).trans (show (wA v 0 47 ((v.1 0 47) + (1 : Int32))).1 0 32 = (v.1 0 32) by rfl))
                have q30_33 : (u31.1 0 33).toInt = (v.1 0 33).toInt := congrArg Int32.toInt ((fr30.2.1 33 (by decide)).trans (show (wA v 0 47 ((v.1 0 47) + (1 : Int32))).1 0 33 = (v.1 0 33) by rfl))
                have q30_34 : (u31.1 0 34).toInt = (v.1 0 34).toInt := congrArg Int32.toInt ((fr30.2.1 34 (by decide)).trans (show (wA v 0 47 ((v.1 0 47) + (1 : Int32))).1 0 34 = (v.1 0 34) by rfl))
                have q30_39 : (u31.1 0 39).toInt = (v.1 0 39).toInt := congrArg Int32.toInt ((fr30.2.1 39 (by decide)).trans (show (wA v 0 47 ((v.1 0 47) + (1 : Int32))).1 0 39 = (v.1 0 39) by rfl))
                have q30_47 : (u31.1 0 47).toInt = ((v.1 0 47) + (1 : Int32)).toInt := congrArg Int32.toInt ((fr30.2.1 47 (by decide)).trans (show (wA v 0 47 ((v.1 0 47) + (1 : Int32))).1 0 47 = ((v.1 0 47) + (1 : Int32)) by rfl))
                have q30_48 : (u31.1 0 48).toInt = (v.1 0 48).toInt := congrArg Int32.toInt ((fr30.2.1 48 (by decide)).trans (show (wA v 0 47 ((v.1 0 47) + (1 : Int32))).1 0 48 = (v.1 0 48) by rfl))
                have q30_49 : (u31.1 0 49).toInt = (v.1 0 49).toInt := congrArg Int32.toInt ((fr30.2.1 49 (by decide)).trans (show (wA v 0 47 ((v.1 0 47) + (1 : Int32))).1 0 49 = (v.1 0 49) by rfl))
                have q30_52 : (u31.1 0 52).toInt = (v.1 0 52).toInt := congrArg Int32.toInt ((fr30.2.1 52 (by decide)).trans (show (wA v 0 47 ((v.1 0 47) + (1 : Int32))).1 0 52 = (v.1 0 52) by rfl))
                have pw30 : (v.1 0 12).toInt ≤ (u31.1 0 12).toInt ∧ (u31.1 0 12).toInt ≤ (v.1 0 12).toInt + 2 := pw30
                have po30 : (u31.1 0 15).toInt = (v.1 0 15).toInt + 1 := po30
                have pf30 : (v.1 0 43).toInt ≤ (u31.1 0 43).toInt ∧ (u31.1 0 43).toInt ≤ (v.1 0 43).toInt + 2 := pf30
                have kc30 : ∀ j : Nat, (j : Int) < (v.1 0 12).toInt → (u31.1 11) j = (v.1 11) j := kc30
                have ko30 : ∀ j : Nat, (j : Int) < (v.1 0 15).toInt → (u31.1 13) j = (v.1 13) j := ko30
                have kg30 : ∀ j : Nat, (j : Int) < (v.1 0 15).toInt → (u31.1 14) j = (v.1 14) j := kg30
                refine W.widen (k := 0) (n := 0) (by omega) (by omega) ?_
                refine lv_iload_n hx hb dX13_named_173 rfl (lv_at hl 6 rfl) ?_
                refine lv_if_eq (tgt := 182) hx hb dX13_named_174 (by decide) (fun k33 => absurd k33 (by decide)) (fun _ => ?_)
                refine lv_aload_n hx hb dX13_named_177 rfl (lv_at hl 5 rfl) ?_
                refine lv_iconst (v := 1) hx hb dX13_named_178 (by decide) ?_
                refine cux_v (rx_V (n := 1) (As := [.int 1]) (rest := []) hx hb hml hown ht hKK hFx hP hD hS hA (C dC dI cI cB cZ cJ cR tb H.size ad N u31 (1 : Int32) (show 40 ≤ (u31.1 0 48).toInt + (n : Int) by omega) (show 0 ≤ (u31.1 0 47).toInt ∧ (u31.1 0 47).toInt ≤ 1500 by omega) (show 0 ≤ (u31.1 0 48).toInt ∧ (u31.1 0 48).toInt ≤ 40 by omega) (show 0 ≤ (u31.1 0 30).toInt ∧ (u31.1 0 30).toInt ≤ 500 by omega) (show 0 ≤ (u31.1 0 33).toInt ∧ (u31.1 0 33).toInt ≤ 500 by omega) (show 0 ≤ (u31.1 0 32).toInt ∧ (u31.1 0 30).toInt + (u31.1 0 32).toInt ≤ 500 by omega) (show 0 ≤ (u31.1 0 12).toInt ∧ (u31.1 0 12).toInt ≤ 15 * (u31.1 0 47).toInt + 2 by omega) (show 0 ≤ (u31.1 0 15).toInt ∧ (u31.1 0 15).toInt ≤ 10 * (u31.1 0 47).toInt + 0 by omega) (show 0 ≤ (u31.1 0 43).toInt ∧ (u31.1 0 43).toInt ≤ 15 * (u31.1 0 47).toInt + 0 by omega) (show 0 ≤ (u31.1 0 39).toInt ∧ (u31.1 0 39).toInt ≤ 1 * (u31.1 0 47).toInt + 0 by omega) (show 0 ≤ (u31.1 0 27).toInt ∧ (u31.1 0 27).toInt ≤ 60 by omega) (FG.ti (fl := pfl) (al := pal) (FG.tr (FG.f (FG.rf _) ((v.1 0 47) + (1 : Int32)) (by decide)) (FG.up fr30 (by decide) (by decide))) (by decide) (by decide) hT) ((show NI 29 u31 from NI.fr (fl := [12, 15, 43]) (al := [0, 11, 13, 14, 40, 41, 42]) fr30 (by decide) n29)) ((show NI 23 u31 from NI.fr (fl := [12, 15, 43]) (al := [0, 11, 13, 14, 40, 41, 42]) fr30 (by decide) n23)) ((show NI 35 u31 from NI.fr (fl := [12, 15, 43]) (al := [0, 11, 13, 14, 40, 41, 42]) fr30 (by decide) n35))) tw_132 tw_133 (by decide +kernel) rfl rfl ⟨by show (40 * n + 32) + 1 ≤ 40 * n + 34; omega, by show 8 + (6 + 11) + 28 * (40 * n + 32) ≤ 28 * (40 * n + 34); omega⟩ (List.range (mW ad N cI cZ cJ u31).length) (rg_map _) (mW_nd _ _ _ _ _ _) rfl rfl rfl rfl hl.1 rfl (Nat.le_of_ble_eq_true rfl) dX13_named_179 ⟨Nat.le_of_ble_eq_true rfl, Nat.le_of_ble_eq_true rfl⟩) hP hD hS hA (fun u9 ce9 q9 H locs hx9 hP hD hS hc9 hv9 hf9 => ?_) (fun u35 H locs hw34 hP hD hS => ?_)
                · exact vx_out (fun x h9 => (hnt x h9).elim) hlocks hc9 hv9 hf9 (fun t9 ht9 hv8 => ⟨u9, (FG.tr (FG.tr (FG.f (FG.rf _) ((v.1 0 47) + (1 : Int32)) (by decide)) (FG.up fr30 (by decide) (by decide))) hx9), ⟨rfl, by rw [ht9]; exact hP, hD⟩, hS.F ht9⟩) hS.2.2 (by omega) (by omega)
                obtain ⟨fr34, pt34, pb34, pw34, po34, pf34, pk34, pp34, ph34, kc34, ko34, kg34, n3534⟩ := hw34
                have q34_2 : (u35.1 0 2).toInt = (u31.1 0 2).toInt := congrArg Int32.toInt ((fr34.2.1 2 (by decide)).trans (show u31.1 0 2 = (u31.1 0 2) by rfl))
                have q34_4 : (u35.1 0 4).toInt = (u31.1 0 4).toInt := congrArg Int32.toInt ((fr34.2.1 4 (by decide)).trans (show u31.1 0 4 = (u31.1 0 4) by rfl))
                have q34_5 : (u35.1 0 5).toInt = (u31.1 0 5).toInt := congrArg Int32.toInt ((fr34.2.1 5 (by decide)).trans (show u31.1 0 5 = (u31.1 0 5) by rfl))
                have q34_22 : (u35.1 0 22).toInt = (u31.1 0 22).toInt := congrArg Int32.toInt ((fr34.2.1 22 (by decide)).trans (show u31.1 0 22 = (u31.1 0 22) by rfl))
                have q34_27 : (u35.1 0 27).toInt = (u31.1 0 27).toInt := congrArg Int32.toInt ((fr34.2.1 27 (by decide)).trans (show u31.1 0 27 = (u31.1 0 27) by rfl))
                have q34_28 : (u35.1 0 28).toInt = (u31.1 0 28).toInt := congrArg Int32.toInt ((fr34.2.1 28 (by decide)).trans (show u31.1 0 28 = (u31.1 0 28) by rfl))
                have q34_30 : (u35.1 0 30).toInt = (u31.1 0 30).toInt := congrArg Int32.toInt ((fr34.2.1 30 (by decide)).trans (show u31.1 0 30 = (u31.1 0 30) by rfl))
                have q34_31 : (u35.1 0 31).toInt = (u31.1 0 31).toInt := congrArg Int32.toInt ((fr34.2.1 31 (by decide)).trans (show u31.1 0 31 = (u31.1 0 31) by rfl))
                have q34_34 : (u35.1 0 34).toInt = (u31.1 0 34).toInt := congrArg Int32.toInt ((fr34.2.1 34 (by decide)).trans (show u31.1 0 34 = (u31.1 0 34) by rfl))
                have q34_52 : (u35.1 0 52).toInt = (u31.1 0 52).toInt := congrArg Int32.toInt ((fr34.2.1 52 (by decide)).trans (show u31.1 0 52 = (u31.1 0 52) by rfl))
                have pt34 : (u31.1 0 47).toInt + 0 ≤ (u35.1 0 47).toInt ∧ (u35.1 0 47).toInt ≤ 1500 := pt34
                have pb34 : 1 ≠ 0 ∨ ((u31.1 0 47).toInt + 1 ≤ (u35.1 0 47).toInt ∧ (u31.1 0 49).toInt ≠ (u31.1 0 47).toInt) := pb34
                have pw34 : (u31.1 0 12).toInt ≤ (u35.1 0 12).toInt ∧ (u35.1 0 12).toInt - 15 * (u35.1 0 47).toInt ≤ (u31.1 0 12).toInt - 15 * (u31.1 0 47).toInt := pw34
                have po34 : (u31.1 0 15).toInt ≤ (u35.1 0 15).toInt ∧ (u35.1 0 15).toInt - 10 * (u35.1 0 47).toInt ≤ (u31.1 0 15).toInt - 10 * (u31.1 0 47).toInt := po34
                have pf34 : (u31.1 0 43).toInt ≤ (u35.1 0 43).toInt ∧ (u35.1 0 43).toInt - 15 * (u35.1 0 47).toInt ≤ (u31.1 0 43).toInt - 15 * (u31.1 0 47).toInt := pf34
                have pk34 : (u31.1 0 39).toInt ≤ (u35.1 0 39).toInt ∧ (u35.1 0 39).toInt - 1 * (u35.1 0 47).toInt ≤ (u31.1 0 39).toInt - 1 * (u31.1 0 47).toInt := pk34
                have pp34 : (u35.1 0 32).toInt = (u31.1 0 32).toInt ∧ (u35.1 0 48).toInt = (u31.1 0 48).toInt := pp34
                have ph34 : (u31.1 0 33).toInt ≤ (u35.1 0 33).toInt ∧ (u35.1 0 33).toInt ≤ 500 := ph34
                have kc34 : ∀ j : Nat, (j : Int) < (u31.1 0 12).toInt → (u35.1 11) j = (u31.1 11) j := kc34
                have ko34 : ∀ j : Nat, (j : Int) < (u31.1 0 15).toInt → (u35.1 13) j = (u31.1 13) j := ko34
                have kg34 : ∀ j : Nat, (j : Int) < (u31.1 0 15).toInt → (u35.1 14) j = (u31.1 14) j := kg34
                have n3534 : NI 35 u35 := n3534
                refine W.widen (k := 0) (n := 0) (by omega) (by omega) ?_
                refine vx_ret ?_
                exact W.vret hx hb hr (fun t ht9 hW => ⟨⟨u35, rfl, ⟨(FG.tr (FG.tr (FG.f (FG.rf _) ((v.1 0 47) + (1 : Int32)) (by decide)) (FG.up fr30 (by decide) (by decide))) (FG.up fr34 (by decide) (by decide))), (show (v.1 0 47).toInt + 1 ≤ (u35.1 0 47).toInt ∧ (u35.1 0 47).toInt ≤ 1500 by omega), (show (v.1 0 49).toInt ≠ (v.1 0 47).toInt by omega), (show (v.1 0 12).toInt ≤ (u35.1 0 12).toInt ∧ (u35.1 0 12).toInt - 15 * (u35.1 0 47).toInt ≤ (v.1 0 12).toInt - 15 * (v.1 0 47).toInt by omega), (show (v.1 0 15).toInt ≤ (u35.1 0 15).toInt ∧ (u35.1 0 15).toInt - 10 * (u35.1 0 47).toInt ≤ (v.1 0 15).toInt - 10 * (v.1 0 47).toInt by omega), (show (v.1 0 43).toInt ≤ (u35.1 0 43).toInt ∧ (u35.1 0 43).toInt - 15 * (u35.1 0 47).toInt ≤ (v.1 0 43).toInt - 15 * (v.1 0 47).toInt by omega), (show (v.1 0 39).toInt ≤ (u35.1 0 39).toInt ∧ (u35.1 0 39).toInt - 1 * (u35.1 0 47).toInt ≤ (v.1 0 39).toInt - 1 * (v.1 0 47).toInt by omega), (show (u35.1 0 32).toInt = (v.1 0 32).toInt ∧ (u35.1 0 48).toInt = (v.1 0 48).toInt by omega), (show (v.1 0 33).toInt ≤ (u35.1 0 33).toInt ∧ (u35.1 0 33).toInt ≤ 500 by omega), (fun (j9 : Nat) hj9 => (Eq.trans (kc34 j9 (by omega)) (kc30 j9 (by omega)))), (fun (j9 : Nat) hj9 => (Eq.trans (ko34 j9 (by omega)) (ko30 j9 (by omega)))), (fun (j9 : Nat) hj9 => (Eq.trans (kg34 j9 (by omega)) (kg30 j9 (by omega)))), n3534⟩, by rw [ht9]; exact hP, hD⟩, hS.F ht9⟩) hS.2.2 dX13_named_182
              · have z37 : r4.toInt ≠ 0 := ne_z rfl (show (0 : Int32).toInt = 0 by decide) h28
                exfalso; omega
            · have z38 : r25.toInt ≠ (-1) := ne_z rfl (show ((-1) : Int32).toInt = -1 by decide) h26
              refine lv_aload_n hx hb dX13_named_119 rfl (lv_at hl 5 rfl) ?_
              refine lv_iload hx hb dX13_named_120 (lv_at hl 2 rfl) ?_
              refine lv_iload hx hb dX13_named_122 (lv_at hl 1 rfl) ?_
              refine lv_iload_n hx hb dX13_named_124 rfl (lv_at hl 3 rfl) ?_
              refine lv_iload hx hb dX13_named_125 (lv_at hl 0 rfl) ?_
              refine cux_v (rx_V (n := 4) (As := [.int r7, .int (-1), .int r4, .int r25]) (rest := []) hx hb hml hown ht hKK hFx hP hD hS hA (c_m_sets l n ihE dC dI cI cB cZ cJ cR tb H.size ad N (wA v 0 47 ((v.1 0 47) + (1 : Int32))) r7 (-1 : Int32) r4 r25 (show 40 ≤ (v.1 0 48).toInt + (n : Int) by omega) (show 0 ≤ ((v.1 0 47) + (1 : Int32)).toInt ∧ ((v.1 0 47) + (1 : Int32)).toInt ≤ 1500 by omega) (show 0 ≤ (v.1 0 48).toInt ∧ (v.1 0 48).toInt ≤ 40 by omega) (show 0 ≤ (v.1 0 30).toInt ∧ (v.1 0 30).toInt ≤ 500 by omega) (show 0 ≤ (v.1 0 33).toInt ∧ (v.1 0 33).toInt ≤ 500 by omega) (show 0 ≤ (v.1 0 32).toInt ∧ (v.1 0 30).toInt + (v.1 0 32).toInt ≤ 500 by omega) (show 0 ≤ (v.1 0 12).toInt ∧ (v.1 0 12).toInt ≤ 15 * ((v.1 0 47) + (1 : Int32)).toInt + 2 by omega) (show 0 ≤ (v.1 0 15).toInt ∧ (v.1 0 15).toInt ≤ 10 * ((v.1 0 47) + (1 : Int32)).toInt + 0 by omega) (show 0 ≤ (v.1 0 43).toInt ∧ (v.1 0 43).toInt ≤ 15 * ((v.1 0 47) + (1 : Int32)).toInt + 0 by omega) (show 0 ≤ (v.1 0 39).toInt ∧ (v.1 0 39).toInt ≤ 1 * ((v.1 0 47) + (1 : Int32)).toInt + 0 by omega) (show 0 ≤ (v.1 0 27).toInt ∧ (v.1 0 27).toInt ≤ 60 by omega) (FG.ti (fl := pfl) (al := pal) (FG.f (FG.rf _) ((v.1 0 47) + (1 : Int32)) (by decide)) (by decide) (by decide) hT) (n29) (n23) (n35) (show 0 ≤ r7.toInt ∨ (0 ≤ (-1) ∧ (-1) < 60) by omega) (show r4.toInt = 0 ∨ (0 ≤ (-1) ∧ (-1) < 60) by omega)) tw_136 tw_137 (by decide +kernel) rfl rfl ⟨by show (40 * n + 6) + 1 ≤ 40 * n + 34; omega, by show 8 + (8 + 11) + 28 * (40 * n + 6) ≤ 28 * (40 * n + 34); omega⟩ (List.range (mW ad N cI cZ cJ (wA v 0 47 ((v.1 0 47) + (1 : Int32)))).length) (rg_map _) (mW_nd _ _ _ _ _ _) rfl rfl rfl rfl hl.1 rfl (Nat.le_of_ble_eq_true rfl) dX13_named_127 ⟨Nat.le_of_ble_eq_true rfl, Nat.le_of_ble_eq_true rfl⟩) hP hD hS hA (fun u9 ce9 q9 H locs hx9 hP hD hS hc9 hv9 hf9 => ?_) (fun u40 H locs hw39 hP hD hS => ?_)
              · exact vx_out (fun x h9 => (hnt x h9).elim) hlocks hc9 hv9 hf9 (fun t9 ht9 hv8 => ⟨u9, (FG.tr (FG.f (FG.rf _) ((v.1 0 47) + (1 : Int32)) (by decide)) hx9), ⟨rfl, by rw [ht9]; exact hP, hD⟩, hS.F ht9⟩) hS.2.2 (by omega) (by omega)
              obtain ⟨fr39, pt39, pb39, pw39, po39, pf39, pk39, pp39, ph39, kc39, ko39, kg39, n3539⟩ := hw39
              have q39_2 : (u40.1 0 2).toInt = (v.1 0 2).toInt := congrArg Int32.toInt ((fr39.2.1 2 (by decide)).trans (show (wA v 0 47 ((v.1 0 47) + (1 : Int32))).1 0 2 = (v.1 0 2) by rfl))
              have q39_4 : (u40.1 0 4).toInt = (v.1 0 4).toInt := congrArg Int32.toInt ((fr39.2.1 4 (by decide)).trans (show (wA v 0 47 ((v.1 0 47) + (1 : Int32))).1 0 4 = (v.1 0 4) by rfl))
              have q39_5 : (u40.1 0 5).toInt = (v.1 0 5).toInt := congrArg Int32.toInt ((fr39.2.1 5 (by decide)).trans (show (wA v 0 47 ((v.1 0 47) + (1 : Int32))).1 0 5 = (v.1 0 5) by rfl))
              have q39_22 : (u40.1 0 22).toInt = (v.1 0 22).toInt := congrArg Int32.toInt ((fr39.2.1 22 (by decide)).trans (show (wA v 0 47 ((v.1 0 47) + (1 : Int32))).1 0 22 = (v.1 0 22) by rfl))
              have q39_27 : (u40.1 0 27).toInt = (v.1 0 27).toInt := congrArg Int32.toInt ((fr39.2.1 27 (by decide)).trans (show (wA v 0 47 ((v.1 0 47) + (1 : Int32))).1 0 27 = (v.1 0 27) by rfl))
              have q39_28 : (u40.1 0 28).toInt = (v.1 0 28).toInt := congrArg Int32.toInt ((fr39.2.1 28 (by decide)).trans (show (wA v 0 47 ((v.1 0 47) + (1 : Int32))).1 0 28 = (v.1 0 28) by rfl))
              have q39_30 : (u40.1 0 30).toInt = (v.1 0 30).toInt := congrArg Int32.toInt ((fr39.2.1 30 (by decide)).trans (show (wA v 0 47 ((v.1 0 47) + (1 : Int32))).1 0 30 = (v.1 0 30) by rfl))
              have q39_31 : (u40.1 0 31).toInt = (v.1 0 31).toInt := congrArg Int32.toInt ((fr39.2.1 31 (by decide)).trans (show (wA v 0 47 ((v.1 0 47) + (1 : Int32))).1 0 31 = (v.1 0 31) by rfl))
              have q39_34 : (u40.1 0 34).toInt = (v.1 0 34).toInt := congrArg Int32.toInt ((fr39.2.1 34 (by decide)).trans (show (wA v 0 47 ((v.1 0 47) + (1 : Int32))).1 0 34 = (v.1 0 34) by rfl))
              have q39_52 : (u40.1 0 52).toInt = (v.1 0 52).toInt := congrArg Int32.toInt ((fr39.2.1 52 (by decide)).trans (show (wA v 0 47 ((v.1 0 47) + (1 : Int32))).1 0 52 = (v.1 0 52) by rfl))
              have pt39 : ((v.1 0 47) + (1 : Int32)).toInt + 1 ≤ (u40.1 0 47).toInt ∧ (u40.1 0 47).toInt ≤ 1500 := pt39
              have pb39 : (v.1 0 49).toInt ≠ ((v.1 0 47) + (1 : Int32)).toInt := pb39
              have pw39 : (v.1 0 12).toInt ≤ (u40.1 0 12).toInt ∧ (u40.1 0 12).toInt - 15 * (u40.1 0 47).toInt ≤ (v.1 0 12).toInt - 15 * ((v.1 0 47) + (1 : Int32)).toInt := pw39
              have po39 : (v.1 0 15).toInt ≤ (u40.1 0 15).toInt ∧ (u40.1 0 15).toInt - 10 * (u40.1 0 47).toInt ≤ (v.1 0 15).toInt - 10 * ((v.1 0 47) + (1 : Int32)).toInt := po39
              have pf39 : (v.1 0 43).toInt ≤ (u40.1 0 43).toInt ∧ (u40.1 0 43).toInt - 15 * (u40.1 0 47).toInt ≤ (v.1 0 43).toInt - 15 * ((v.1 0 47) + (1 : Int32)).toInt := pf39
              have pk39 : (v.1 0 39).toInt ≤ (u40.1 0 39).toInt ∧ (u40.1 0 39).toInt - 1 * (u40.1 0 47).toInt ≤ (v.1 0 39).toInt - 1 * ((v.1 0 47) + (1 : Int32)).toInt := pk39
              have pp39 : (u40.1 0 32).toInt = (v.1 0 32).toInt ∧ (u40.1 0 48).toInt = (v.1 0 48).toInt := pp39
              have ph39 : (v.1 0 33).toInt ≤ (u40.1 0 33).toInt ∧ (u40.1 0 33).toInt ≤ 500 := ph39
              have kc39 : ∀ j : Nat, (j : Int) < (v.1 0 12).toInt → (u40.1 11) j = (v.1 11) j := kc39
              have ko39 : ∀ j : Nat, (j : Int) < (v.1 0 15).toInt → (u40.1 13) j = (v.1 13) j := ko39
              have kg39 : ∀ j : Nat, (j : Int) < (v.1 0 15).toInt → (u40.1 14) j = (v.1 14) j := kg39
              have n3539 : NI 35 u40 := n3539
              refine W.widen (k := 0) (n := 0) (by omega) (by omega) ?_
              refine vx_ret ?_
              exact W.vret hx hb hr (fun t ht9 hW => ⟨⟨u40, rfl, ⟨(FG.tr (FG.f (FG.rf _) ((v.1 0 47) + (1 : Int32)) (by decide)) (FG.up fr39 (by decide) (by decide))), (show (v.1 0 47).toInt + 1 ≤ (u40.1 0 47).toInt ∧ (u40.1 0 47).toInt ≤ 1500 by omega), (show (v.1 0 49).toInt ≠ (v.1 0 47).toInt by omega), (show (v.1 0 12).toInt ≤ (u40.1 0 12).toInt ∧ (u40.1 0 12).toInt - 15 * (u40.1 0 47).toInt ≤ (v.1 0 12).toInt - 15 * (v.1 0 47).toInt by omega), (show (v.1 0 15).toInt ≤ (u40.1 0 15).toInt ∧ (u40.1 0 15).toInt - 10 * (u40.1 0 47).toInt ≤ (v.1 0 15).toInt - 10 * (v.1 0 47).toInt by omega), (show (v.1 0 43).toInt ≤ (u40.1 0 43).toInt ∧ (u40.1 0 43).toInt - 15 * (u40.1 0 47).toInt ≤ (v.1 0 43).toInt - 15 * (v.1 0 47).toInt by omega), (show (v.1 0 39).toInt ≤ (u40.1 0 39).toInt ∧ (u40.1 0 39).toInt - 1 * (u40.1 0 47).toInt ≤ (v.1 0 39).toInt - 1 * (v.1 0 47).toInt by omega), (show (u40.1 0 32).toInt = (v.1 0 32).toInt ∧ (u40.1 0 48).toInt = (v.1 0 48).toInt by omega), (show (v.1 0 33).toInt ≤ (u40.1 0 33).toInt ∧ (u40.1 0 33).toInt ≤ 500 by omega), (fun (j9 : Nat) hj9 => (kc39 j9 (by omega))), (fun (j9 : Nat) hj9 => (ko39 j9 (by omega))), (fun (j9 : Nat) hj9 => (kg39 j9 (by omega))), n3539⟩, by rw [ht9]; exact hP, hD⟩, hS.F ht9⟩) hS.2.2 dX13_named_130
          · have z42 : r4.toInt ≠ 0 := ne_z rfl (show (0 : Int32).toInt = 0 by decide) h20
            exfalso; omega
        · have z43 : r4.toInt ≠ 0 := ne_z rfl (show (0 : Int32).toInt = 0 by decide) h14
          refine lv_aload_n hx hb dX13_named_75 rfl (lv_at hl 4 rfl) ?_
          refine lv_iconst (v := 3) hx hb dX13_named_76 (by decide) ?_
          refine lv_aload_n hx hb dX13_named_77 rfl (lv_at hl 4 rfl) ?_
          refine va_get (D := (dC, dI)) (ci := 16) (fs := mF ad v) (v := .int (v.1 0 47)) (C := RX13) (T := TX13) (N := 124) hx hb ht itX13 hown hK hP 0 rfl rfl 47 (by decide) (ht _ tw_24) (fun _ h9 => h9) rfl dX13_named_78 ?_
          refine cu_r (rn_V (n := 2) (As := [.int 3, .int (v.1 0 47)]) (rest := []) hx hb hml hown ht hKK hFx hP hD hS hA (c_m_fail l dC dI cI cB cZ cJ cR tb H.size ad N v (3 : Int32) (v.1 0 47) (show 0 ≤ (v.1 0 47).toInt ∧ (v.1 0 47).toInt < 4002 by omega)) tw_25 tw_26 (by decide +kernel) rfl rfl ⟨by show 0 + 1 ≤ 40 * n + 34; omega, by show 8 + (3 + 11) + 0 ≤ 28 * (40 * n + 34); omega⟩ (List.range (mW ad N cI cZ cJ v).length) (rg_map _) (mW_nd _ _ _ _ _ _) rfl rfl rfl rfl hl.1 rfl (Nat.le_of_ble_eq_true rfl) dX13_named_81 ⟨Nat.le_of_ble_eq_true rfl, Nat.le_of_ble_eq_true rfl⟩) hP hD hS hA (fun u45 H locs hw44 hP hD hS => ?_)
          obtain rfl := hw44
          have hP : va_P (dC, dI) vwCl (mW ad N cI cZ cJ (wA (wA v 0 50 (3 : Int32)) 0 51 ((v.1 7) (v.1 0 47).toNatClampNeg))) H := hP
          have hD : va_D A (mW ad N cI cZ cJ (wA (wA v 0 50 (3 : Int32)) 0 51 ((v.1 7) (v.1 0 47).toNatClampNeg))) := hD
          refine W.widen (k := 0) (n := 0) (by omega) (by omega) ?_
          obtain ⟨ce9, hc9, hv9, hf9⟩ := halt_at hK hP
          refine um_athrow hx hb dX13_named_84 ?_
          exact vx_out (fun x h9 => (hnt x h9).elim) hlocks hc9 hv9 hf9 (fun t9 ht9 hv8 => ⟨(wA (wA v 0 50 (3 : Int32)) 0 51 ((v.1 7) (v.1 0 47).toNatClampNeg)), (FG.f (FG.f (FG.rf _) (3 : Int32) (by decide)) ((v.1 7) (v.1 0 47).toNatClampNeg) (by decide)), ⟨rfl, by rw [ht9]; exact hP, hD⟩, hS.F ht9⟩) hS.2.2 (by omega) (by omega)
      · have z47 : r7.toInt < 0 := nle_z (show (0 : Int32).toInt = 0 by decide) rfl h12
        exfalso; omega
    · have z48 : r7.toInt < 0 := nle_z (show (0 : Int32).toInt = 0 by decide) rfl h10
      exfalso; omega
  · have z49 : r7.toInt < 0 := nle_z (show (0 : Int32).toInt = 0 by decide) rfl h8
    refine lv_aload_n hx hb dX13_named_30 rfl (lv_at hl 3 rfl) ?_
    refine lv_iload_n hx hb dX13_named_31 rfl (lv_at hl 2 rfl) ?_
    refine cu_i (rn_V (n := 1) (As := [.int (v.1 0 47)]) (rest := []) hx hb hml hown ht hKK hFx hP hD hS hA (c_m_globalOf l dC dI cI cB cZ cJ cR tb H.size ad N v (v.1 0 47) (show 0 ≤ (v.1 0 47).toInt ∧ (v.1 0 47).toInt < 4002 by omega) (show 0 ≤ (v.1 0 27).toInt ∧ (v.1 0 27).toInt ≤ 60 by omega) (FG.ti (fl := pfl) (al := pal) (FG.rf _) (by decide) (by decide) hT) (n23)) tw_100 tw_101 (by decide +kernel) rfl rfl ⟨by show 1 + 1 ≤ 40 * n + 34; omega, by show 8 + (3 + 11) + 25 ≤ 28 * (40 * n + 34); omega⟩ (List.range (mW ad N cI cZ cJ v).length) (rg_map _) (mW_nd _ _ _ _ _ _) rfl rfl rfl rfl hl.1 rfl (Nat.le_of_ble_eq_true rfl) dX13_named_32 ⟨Nat.le_of_ble_eq_true rfl, Nat.le_of_ble_eq_true rfl⟩) hP hD hS hA (fun r52 u51 H locs hw50 hP hD hS => ?_)
    obtain ⟨rfl, a50, b50⟩ := hw50
    refine W.widen (k := 0) (n := 0) (by omega) (by omega) ?_
    refine lv_goto (tgt := 39) hx hb dX13_named_35 (by decide) ?_
    refine lv_istore (lv' := [(5, .int r52), (4, .int r7), (3, .int r4), (2, .int (v.1 0 47)), (0, .ref (ad 0)), (1, .int 1)]) hx hb dX13_named_39 hl (by decide) rfl (fun ls hl => ?_)
    refine lv_iload hx hb dX13_named_41 (lv_at hl 1 rfl) ?_
    refine lv_if_ge (tgt := 51) hx hb dX13_named_43 (by decide) (fun h53 => ?_) (fun h53 => ?_)
    · have z54 : 0 ≤ r7.toInt := le_z (show (0 : Int32).toInt = 0 by decide) rfl h53
      exfalso; omega
    · have z55 : r7.toInt < 0 := nle_z (show (0 : Int32).toInt = 0 by decide) rfl h53
      refine lv_iload hx hb dX13_named_46 (lv_at hl 0 rfl) ?_
      refine lv_if_lt (tgt := 75) hx hb dX13_named_48 (by decide) (fun h56 => ?_) (fun h56 => ?_)
      · have z57 : r52.toInt < 0 := lt_z rfl (show (0 : Int32).toInt = 0 by decide) h56
        refine lv_aload_n hx hb dX13_named_75 rfl (lv_at hl 4 rfl) ?_
        refine lv_iconst (v := 3) hx hb dX13_named_76 (by decide) ?_
        refine lv_aload_n hx hb dX13_named_77 rfl (lv_at hl 4 rfl) ?_
        refine va_get (D := (dC, dI)) (ci := 16) (fs := mF ad v) (v := .int (v.1 0 47)) (C := RX13) (T := TX13) (N := 124) hx hb ht itX13 hown hK hP 0 rfl rfl 47 (by decide) (ht _ tw_24) (fun _ h9 => h9) rfl dX13_named_78 ?_
        refine cu_r (rn_V (n := 2) (As := [.int 3, .int (v.1 0 47)]) (rest := []) hx hb hml hown ht hKK hFx hP hD hS hA (c_m_fail l dC dI cI cB cZ cJ cR tb H.size ad N v (3 : Int32) (v.1 0 47) (show 0 ≤ (v.1 0 47).toInt ∧ (v.1 0 47).toInt < 4002 by omega)) tw_25 tw_26 (by decide +kernel) rfl rfl ⟨by show 0 + 1 ≤ 40 * n + 34; omega, by show 8 + (3 + 11) + 0 ≤ 28 * (40 * n + 34); omega⟩ (List.range (mW ad N cI cZ cJ v).length) (rg_map _) (mW_nd _ _ _ _ _ _) rfl rfl rfl rfl hl.1 rfl (Nat.le_of_ble_eq_true rfl) dX13_named_81 ⟨Nat.le_of_ble_eq_true rfl, Nat.le_of_ble_eq_true rfl⟩) hP hD hS hA (fun u59 H locs hw58 hP hD hS => ?_)
        obtain rfl := hw58
        have hP : va_P (dC, dI) vwCl (mW ad N cI cZ cJ (wA (wA v 0 50 (3 : Int32)) 0 51 ((v.1 7) (v.1 0 47).toNatClampNeg))) H := hP
        have hD : va_D A (mW ad N cI cZ cJ (wA (wA v 0 50 (3 : Int32)) 0 51 ((v.1 7) (v.1 0 47).toNatClampNeg))) := hD
        refine W.widen (k := 0) (n := 0) (by omega) (by omega) ?_
        obtain ⟨ce9, hc9, hv9, hf9⟩ := halt_at hK hP
        refine um_athrow hx hb dX13_named_84 ?_
        exact vx_out (fun x h9 => (hnt x h9).elim) hlocks hc9 hv9 hf9 (fun t9 ht9 hv8 => ⟨(wA (wA v 0 50 (3 : Int32)) 0 51 ((v.1 7) (v.1 0 47).toNatClampNeg)), (FG.f (FG.f (FG.rf _) (3 : Int32) (by decide)) ((v.1 7) (v.1 0 47).toNatClampNeg) (by decide)), ⟨rfl, by rw [ht9]; exact hP, hD⟩, hS.F ht9⟩) hS.2.2 (by omega) (by omega)
      · have z61 : 0 ≤ r52.toInt := nlt_z rfl (show (0 : Int32).toInt = 0 by decide) h56
        refine lv_iload_n hx hb dX13_named_51 rfl (lv_at hl 2 rfl) ?_
        refine lv_iload hx hb dX13_named_52 (lv_at hl 1 rfl) ?_
        refine lv_if_ge (tgt := 71) hx hb dX13_named_54 (by decide) (fun h62 => ?_) (fun h62 => ?_)
        · have z63 : 0 ≤ r7.toInt := le_z (show (0 : Int32).toInt = 0 by decide) rfl h62
          exfalso; omega
        · have z64 : r7.toInt < 0 := nle_z (show (0 : Int32).toInt = 0 by decide) rfl h62
          refine lv_aload_n hx hb dX13_named_57 rfl (lv_at hl 4 rfl) ?_
          refine va_get (D := (dC, dI)) (ci := 16) (fs := mF ad v) (v := .ref (ad 26)) (C := RX13) (T := TX13) (N := 124) hx hb ht itX13 hown hK hP 0 rfl rfl 26 (by decide) (ht _ tw_102) (fun _ h9 => h9) rfl dX13_named_58 ?_
          refine lv_iload hx hb dX13_named_61 (lv_at hl 0 rfl) ?_
          refine va_zald (D := (dC, dI)) (f := (v.1 26)) hx hb hK hP 20 2 rfl rfl (in_z (a := r52.toInt) rfl (by omega) (by omega)) dX13_named_63 ?_
          refine lv_if_eq (tgt := 71) hx hb dX13_named_64 (by decide) (fun h65 => ?_) (fun h65 => ?_)
          · have z66 : ((v.1 26) r52.toNatClampNeg).toInt = 0 := eq_z rfl (show (0 : Int32).toInt = 0 by decide) h65
            refine lv_iconst (v := 0) hx hb dX13_named_71 (by decide) ?_
            refine lv_icmp_eq (tgt := 85) hx hb dX13_named_72 (by decide) (fun h67 => ?_) (fun h67 => ?_)
            · have z68 : r4.toInt = 0 := eq_z rfl (show (0 : Int32).toInt = 0 by decide) h67
              refine lv_aload_n hx hb dX13_named_85 rfl (lv_at hl 4 rfl) ?_
              refine cux_v (rx_V (n := 0) (As := []) (rest := []) hx hb hml hown ht hKK hFx hP hD hS hA (c_m_take l dC dI cI cB cZ cJ cR tb H.size ad N v  (show 0 ≤ (v.1 0 47).toInt ∧ (v.1 0 47).toInt ≤ 1500 by omega)) tw_32 tw_33 (by decide +kernel) rfl rfl ⟨by show 1 + 1 ≤ 40 * n + 34; omega, by show 8 + (1 + 11) + 22 ≤ 28 * (40 * n + 34); omega⟩ (List.range (mW ad N cI cZ cJ v).length) (rg_map _) (mW_nd _ _ _ _ _ _) rfl rfl rfl rfl hl.1 rfl (Nat.le_of_ble_eq_true rfl) dX13_named_86 ⟨Nat.le_of_ble_eq_true rfl, Nat.le_of_ble_eq_true rfl⟩) hP hD hS hA (fun u9 ce9 q9 H locs hx9 hP hD hS hc9 hv9 hf9 => ?_) (fun u70 H locs hw69 hP hD hS => ?_)
              · exact vx_out (fun x h9 => (hnt x h9).elim) hlocks hc9 hv9 hf9 (fun t9 ht9 hv8 => ⟨u9, (FG.tr (FG.rf _) hx9), ⟨rfl, by rw [ht9]; exact hP, hD⟩, hS.F ht9⟩) hS.2.2 (by omega) (by omega)
              obtain ⟨rfl, a69, b69⟩ := hw69
              have z72 : ((v.1 0 47) + (1 : Int32)).toInt = (v.1 0 47).toInt + 1 := add_z rfl (show (1 : Int32).toInt = 1 by decide) (by omega) (by omega)
              have hP : va_P (dC, dI) vwCl (mW ad N cI cZ cJ (wA v 0 47 ((v.1 0 47) + (1 : Int32)))) H := hP
              have hD : va_D A (mW ad N cI cZ cJ (wA v 0 47 ((v.1 0 47) + (1 : Int32)))) := hD
              refine W.widen (k := 0) (n := 0) (by omega) (by omega) ?_
              refine lv_iload_n hx hb dX13_named_89 rfl (lv_at hl 2 rfl) ?_
              refine lv_if_eq (tgt := 99) hx hb dX13_named_90 (by decide) (fun h73 => ?_) (fun h73 => ?_)
              · have z74 : r4.toInt = 0 := eq_z rfl (show (0 : Int32).toInt = 0 by decide) h73
                refine lv_iload_n hx hb dX13_named_99 rfl (lv_at hl 5 rfl) ?_
                refine lv_if_eq (tgt := 110) hx hb dX13_named_100 (by decide) (fun k75 => absurd k75 (by decide)) (fun _ => ?_)
                refine lv_aload_n hx hb dX13_named_103 rfl (lv_at hl 4 rfl) ?_
                refine cu_i (rn_V (n := 0) (As := []) (rest := []) hx hb hml hown ht hKK hFx hP hD hS hA (c_m_setting l dC dI cI cB cZ cJ cR tb H.size ad N (wA v 0 47 ((v.1 0 47) + (1 : Int32)))  (show 0 ≤ ((v.1 0 47) + (1 : Int32)).toInt ∧ ((v.1 0 47) + (1 : Int32)).toInt ≤ 1500 by omega)) tw_134 tw_135 (by decide +kernel) rfl rfl ⟨by show 0 + 1 ≤ 40 * n + 34; omega, by show 8 + (5 + 11) + 0 ≤ 28 * (40 * n + 34); omega⟩ (List.range (mW ad N cI cZ cJ (wA v 0 47 ((v.1 0 47) + (1 : Int32)))).length) (rg_map _) (mW_nd _ _ _ _ _ _) rfl rfl rfl rfl hl.1 rfl (Nat.le_of_ble_eq_true rfl) dX13_named_104 ⟨Nat.le_of_ble_eq_true rfl, Nat.le_of_ble_eq_true rfl⟩) hP hD hS hA (fun r78 u77 H locs hw76 hP hD hS => ?_)
                obtain rfl := hw76
                refine W.widen (k := 0) (n := 0) (by omega) (by omega) ?_
                refine lv_goto (tgt := 111) hx hb dX13_named_107 (by decide) ?_
                refine lv_istore (lv' := [(6, .int r78), (5, .int r52), (4, .int r7), (3, .int r4), (2, .int (v.1 0 47)), (0, .ref (ad 0)), (1, .int 1)]) hx hb dX13_named_111 hl (by decide) rfl (fun ls hl => ?_)
                refine lv_iload hx hb dX13_named_113 (lv_at hl 0 rfl) ?_
                refine lv_iconst (v := -1) hx hb dX13_named_115 (by decide) ?_
                refine lv_icmp_eq (tgt := 131) hx hb dX13_named_116 (by decide) (fun h79 => ?_) (fun h79 => ?_)
                · have z80 : r78.toInt = (-1) := eq_z rfl (show ((-1) : Int32).toInt = -1 by decide) h79
                  refine lv_iload_n hx hb dX13_named_131 rfl (lv_at hl 3 rfl) ?_
                  refine lv_if_eq (tgt := 165) hx hb dX13_named_132 (by decide) (fun h81 => ?_) (fun h81 => ?_)
                  · have z82 : r4.toInt = 0 := eq_z rfl (show (0 : Int32).toInt = 0 by decide) h81
                    refine lv_aload_n hx hb dX13_named_165 rfl (lv_at hl 5 rfl) ?_
                    refine lv_iload hx hb dX13_named_166 (lv_at hl 2 rfl) ?_
                    refine lv_iload hx hb dX13_named_168 (lv_at hl 1 rfl) ?_
                    refine cu_v (rn_V (n := 2) (As := [.int r7, .int r52]) (rest := []) hx hb hml hown ht hKK hFx hP hD hS hA (c_m_fetch l dC dI cI cB cZ cJ cR tb H.size ad N (wA v 0 47 ((v.1 0 47) + (1 : Int32))) r7 r52 (show 0 ≤ (v.1 0 12).toInt ∧ (v.1 0 12).toInt ≤ 23980 by omega) (show 0 ≤ (v.1 0 15).toInt ∧ (v.1 0 15).toInt ≤ 15980 by omega) (show 0 ≤ (v.1 0 43).toInt ∧ (v.1 0 43).toInt ≤ 23980 by omega) (show 0 ≤ r7.toInt ∨ (0 ≤ r52.toInt ∧ r52.toInt < 60) by omega)) tw_92 tw_93 (by decide +kernel) rfl rfl ⟨by show 2 + 1 ≤ 40 * n + 34; omega, by show 8 + (3 + 11) + 46 ≤ 28 * (40 * n + 34); omega⟩ (List.range (mW ad N cI cZ cJ (wA v 0 47 ((v.1 0 47) + (1 : Int32)))).length) (rg_map _) (mW_nd _ _ _ _ _ _) rfl rfl rfl rfl hl.1 rfl (Nat.le_of_ble_eq_true rfl) dX13_named_170 ⟨Nat.le_of_ble_eq_true rfl, Nat.le_of_ble_eq_true rfl⟩) hP hD hS hA (fun u84 H locs hw83 hP hD hS => ?_)
                    obtain ⟨fr83, pw83, po83, pf83, kc83, ko83, kg83⟩ := hw83
                    have q83_2 : (u84.1 0 2).toInt = (v.1 0 2).toInt := congrArg Int32.toInt ((fr83.2.1 2 (by decide)).trans (show (wA v 0 47 ((v.1 0 47) + (1 : Int32))).1 0 2 = (v.1 0 2) by rfl))
                    have q83_4 : (u84.1 0 4).toInt = (v.1 0 4).toInt := congrArg Int32.toInt ((fr83.2.1 4 (by decide)).trans (show (wA v 0 47 ((v.1 0 47) + (1 : Int32))).1 0 4 = (v.1 0 4) by rfl))
                    have q83_5 : (u84.1 0 5).toInt = (v.1 0 5).toInt := congrArg Int32.toInt ((fr83.2.1 5 (by decide)).trans (show (wA v 0 47 ((v.1 0 47) + (1 : Int32))).1 0 5 = (v.1 0 5) by rfl))
                    have q83_22 : (u84.1 0 22).toInt = (v.1 0 22).toInt := congrArg Int32.toInt ((fr83.2.1 22 (by decide)).trans (show (wA v 0 47 ((v.1 0 47) + (1 : Int32))).1 0 22 = (v.1 0 22) by rfl))
                    have q83_27 : (u84.1 0 27).toInt = (v.1 0 27).toInt := congrArg Int32.toInt ((fr83.2.1 27 (by decide)).trans (show (wA v 0 47 ((v.1 0 47) + (1 : Int32))).1 0 27 = (v.1 0 27) by rfl))
                    have q83_28 : (u84.1 0 28).toInt = (v.1 0 28).toInt := congrArg Int32.toInt ((fr83.2.1 28 (by decide)).trans (show (wA v 0 47 ((v.1 0 47) + (1 : Int32))).1 0 28 = (v.1 0 28) by rfl))
                    have q83_30 : (u84.1 0 30).toInt = (v.1 0 30).toInt := congrArg Int32.toInt ((fr83.2.1 30 (by decide)).trans (show (wA v 0 47 ((v.1 0 47) + (1 : Int32))).1 0 30 = (v.1 0 30) by rfl))
                    have q83_31 : (u84.1 0 31).toInt = (v.1 0 31).toInt := congrArg Int32.toInt ((fr83.2.1 31 (by decide)).trans (show (wA v 0 47 ((v.1 0 47) + (1 : Int32))).1 0 31 = (v.1 0 31) by rfl))
                    have q83_32 : (u84.1 0 32).toInt = (v.1 0 32).toInt := congrArg Int32.toInt ((fr83.2.1 32 (by decide)).trans (show (wA v 0 47 ((v.1 0 47) + (1 : Int32))).1 0 32 = (v.1 0 32) by rfl))
                    have q83_33 : (u84.1 0 33).toInt = (v.1 0 33).toInt := congrArg Int32.toInt ((fr83.2.1 33 (by decide)).trans (show (wA v 0 47 ((v.1 0 47) + (1 : Int32))).1 0 33 = (v.1 0 33) by rfl))
                    have q83_34 : (u84.1 0 34).toInt = (v.1 0 34).toInt := congrArg Int32.toInt ((fr83.2.1 34 (by decide)).trans (show (wA v 0 47 ((v.1 0 47) + (1 : Int32))).1 0 34 = (v.1 0 34) by rfl))
                    have q83_39 : (u84.1 0 39).toInt = (v.1 0 39).toInt := congrArg Int32.toInt ((fr83.2.1 39 (by decide)).trans (show (wA v 0 47 ((v.1 0 47) + (1 : Int32))).1 0 39 = (v.1 0 39) by rfl))
                    have q83_47 : (u84.1 0 47).toInt = ((v.1 0 47) + (1 : Int32)).toInt := congrArg Int32.toInt ((fr83.2.1 47 (by decide)).trans (show (wA v 0 47 ((v.1 0 47) + (1 : Int32))).1 0 47 = ((v.1 0 47) + (1 : Int32)) by rfl))
                    have q83_48 : (u84.1 0 48).toInt = (v.1 0 48).toInt := congrArg Int32.toInt ((fr83.2.1 48 (by decide)).trans (show (wA v 0 47 ((v.1 0 47) + (1 : Int32))).1 0 48 = (v.1 0 48) by rfl))
                    have q83_49 : (u84.1 0 49).toInt = (v.1 0 49).toInt := congrArg Int32.toInt ((fr83.2.1 49 (by decide)).trans (show (wA v 0 47 ((v.1 0 47) + (1 : Int32))).1 0 49 = (v.1 0 49) by rfl))
                    have q83_52 : (u84.1 0 52).toInt = (v.1 0 52).toInt := congrArg Int32.toInt ((fr83.2.1 52 (by decide)).trans (show (wA v 0 47 ((v.1 0 47) + (1 : Int32))).1 0 52 = (v.1 0 52) by rfl))
                    have pw83 : (v.1 0 12).toInt ≤ (u84.1 0 12).toInt ∧ (u84.1 0 12).toInt ≤ (v.1 0 12).toInt + 2 := pw83
                    have po83 : (u84.1 0 15).toInt = (v.1 0 15).toInt + 1 := po83
                    have pf83 : (v.1 0 43).toInt ≤ (u84.1 0 43).toInt ∧ (u84.1 0 43).toInt ≤ (v.1 0 43).toInt + 2 := pf83
                    have kc83 : ∀ j : Nat, (j : Int) < (v.1 0 12).toInt → (u84.1 11) j = (v.1 11) j := kc83
                    have ko83 : ∀ j : Nat, (j : Int) < (v.1 0 15).toInt → (u84.1 13) j = (v.1 13) j := ko83
                    have kg83 : ∀ j : Nat, (j : Int) < (v.1 0 15).toInt → (u84.1 14) j = (v.1 14) j := kg83
                    refine W.widen (k := 0) (n := 0) (by omega) (by omega) ?_
                    refine lv_iload_n hx hb dX13_named_173 rfl (lv_at hl 6 rfl) ?_
                    refine lv_if_eq (tgt := 182) hx hb dX13_named_174 (by decide) (fun k86 => absurd k86 (by decide)) (fun _ => ?_)
                    refine lv_aload_n hx hb dX13_named_177 rfl (lv_at hl 5 rfl) ?_
                    refine lv_iconst (v := 1) hx hb dX13_named_178 (by decide) ?_
                    refine cux_v (rx_V (n := 1) (As := [.int 1]) (rest := []) hx hb hml hown ht hKK hFx hP hD hS hA (C dC dI cI cB cZ cJ cR tb H.size ad N u84 (1 : Int32) (show 40 ≤ (u84.1 0 48).toInt + (n : Int) by omega) (show 0 ≤ (u84.1 0 47).toInt ∧ (u84.1 0 47).toInt ≤ 1500 by omega) (show 0 ≤ (u84.1 0 48).toInt ∧ (u84.1 0 48).toInt ≤ 40 by omega) (show 0 ≤ (u84.1 0 30).toInt ∧ (u84.1 0 30).toInt ≤ 500 by omega) (show 0 ≤ (u84.1 0 33).toInt ∧ (u84.1 0 33).toInt ≤ 500 by omega) (show 0 ≤ (u84.1 0 32).toInt ∧ (u84.1 0 30).toInt + (u84.1 0 32).toInt ≤ 500 by omega) (show 0 ≤ (u84.1 0 12).toInt ∧ (u84.1 0 12).toInt ≤ 15 * (u84.1 0 47).toInt + 2 by omega) (show 0 ≤ (u84.1 0 15).toInt ∧ (u84.1 0 15).toInt ≤ 10 * (u84.1 0 47).toInt + 0 by omega) (show 0 ≤ (u84.1 0 43).toInt ∧ (u84.1 0 43).toInt ≤ 15 * (u84.1 0 47).toInt + 0 by omega) (show 0 ≤ (u84.1 0 39).toInt ∧ (u84.1 0 39).toInt ≤ 1 * (u84.1 0 47).toInt + 0 by omega) (show 0 ≤ (u84.1 0 27).toInt ∧ (u84.1 0 27).toInt ≤ 60 by omega) (FG.ti (fl := pfl) (al := pal) (FG.tr (FG.f (FG.rf _) ((v.1 0 47) + (1 : Int32)) (by decide)) (FG.up fr83 (by decide) (by decide))) (by decide) (by decide) hT) ((show NI 29 u84 from NI.fr (fl := [12, 15, 43]) (al := [0, 11, 13, 14, 40, 41, 42]) fr83 (by decide) n29)) ((show NI 23 u84 from NI.fr (fl := [12, 15, 43]) (al := [0, 11, 13, 14, 40, 41, 42]) fr83 (by decide) n23)) ((show NI 35 u84 from NI.fr (fl := [12, 15, 43]) (al := [0, 11, 13, 14, 40, 41, 42]) fr83 (by decide) n35))) tw_132 tw_133 (by decide +kernel) rfl rfl ⟨by show (40 * n + 32) + 1 ≤ 40 * n + 34; omega, by show 8 + (6 + 11) + 28 * (40 * n + 32) ≤ 28 * (40 * n + 34); omega⟩ (List.range (mW ad N cI cZ cJ u84).length) (rg_map _) (mW_nd _ _ _ _ _ _) rfl rfl rfl rfl hl.1 rfl (Nat.le_of_ble_eq_true rfl) dX13_named_179 ⟨Nat.le_of_ble_eq_true rfl, Nat.le_of_ble_eq_true rfl⟩) hP hD hS hA (fun u9 ce9 q9 H locs hx9 hP hD hS hc9 hv9 hf9 => ?_) (fun u88 H locs hw87 hP hD hS => ?_)
                    · exact vx_out (fun x h9 => (hnt x h9).elim) hlocks hc9 hv9 hf9 (fun t9 ht9 hv8 => ⟨u9, (FG.tr (FG.tr (FG.f (FG.rf _) ((v.1 0 47) + (1 : Int32)) (by decide)) (FG.up fr83 (by decide) (by decide))) hx9), ⟨rfl, by rw [ht9]; exact hP, hD⟩, hS.F ht9⟩) hS.2.2 (by omega) (by omega)
                    obtain ⟨fr87, pt87, pb87, pw87, po87, pf87, pk87, pp87, ph87, kc87, ko87, kg87, n3587⟩ := hw87
                    have q87_2 : (u88.1 0 2).toInt = (u84.1 0 2).toInt := congrArg Int32.toInt ((fr87.2.1 2 (by decide)).trans (show u84.1 0 2 = (u84.1 0 2) by rfl))
                    have q87_4 : (u88.1 0 4).toInt = (u84.1 0 4).toInt := congrArg Int32.toInt ((fr87.2.1 4 (by decide)).trans (show u84.1 0 4 = (u84.1 0 4) by rfl))
                    have q87_5 : (u88.1 0 5).toInt = (u84.1 0 5).toInt := congrArg Int32.toInt ((fr87.2.1 5 (by decide)).trans (show u84.1 0 5 = (u84.1 0 5) by rfl))
                    have q87_22 : (u88.1 0 22).toInt = (u84.1 0 22).toInt := congrArg Int32.toInt ((fr87.2.1 22 (by decide)).trans (show u84.1 0 22 = (u84.1 0 22) by rfl))
                    have q87_27 : (u88.1 0 27).toInt = (u84.1 0 27).toInt := congrArg Int32.toInt ((fr87.2.1 27 (by decide)).trans (show u84.1 0 27 = (u84.1 0 27) by rfl))
                    have q87_28 : (u88.1 0 28).toInt = (u84.1 0 28).toInt := congrArg Int32.toInt ((fr87.2.1 28 (by decide)).trans (show u84.1 0 28 = (u84.1 0 28) by rfl))
                    have q87_30 : (u88.1 0 30).toInt = (u84.1 0 30).toInt := congrArg Int32.toInt ((fr87.2.1 30 (by decide)).trans (show u84.1 0 30 = (u84.1 0 30) by rfl))
                    have q87_31 : (u88.1 0 31).toInt = (u84.1 0 31).toInt := congrArg Int32.toInt ((fr87.2.1 31 (by decide)).trans (show u84.1 0 31 = (u84.1 0 31) by rfl))
                    have q87_34 : (u88.1 0 34).toInt = (u84.1 0 34).toInt := congrArg Int32.toInt ((fr87.2.1 34 (by decide)).trans (show u84.1 0 34 = (u84.1 0 34) by rfl))
                    have q87_52 : (u88.1 0 52).toInt = (u84.1 0 52).toInt := congrArg Int32.toInt ((fr87.2.1 52 (by decide)).trans (show u84.1 0 52 = (u84.1 0 52) by rfl))
                    have pt87 : (u84.1 0 47).toInt + 0 ≤ (u88.1 0 47).toInt ∧ (u88.1 0 47).toInt ≤ 1500 := pt87
                    have pb87 : 1 ≠ 0 ∨ ((u84.1 0 47).toInt + 1 ≤ (u88.1 0 47).toInt ∧ (u84.1 0 49).toInt ≠ (u84.1 0 47).toInt) := pb87
                    have pw87 : (u84.1 0 12).toInt ≤ (u88.1 0 12).toInt ∧ (u88.1 0 12).toInt - 15 * (u88.1 0 47).toInt ≤ (u84.1 0 12).toInt - 15 * (u84.1 0 47).toInt := pw87
                    have po87 : (u84.1 0 15).toInt ≤ (u88.1 0 15).toInt ∧ (u88.1 0 15).toInt - 10 * (u88.1 0 47).toInt ≤ (u84.1 0 15).toInt - 10 * (u84.1 0 47).toInt := po87
                    have pf87 : (u84.1 0 43).toInt ≤ (u88.1 0 43).toInt ∧ (u88.1 0 43).toInt - 15 * (u88.1 0 47).toInt ≤ (u84.1 0 43).toInt - 15 * (u84.1 0 47).toInt := pf87
                    have pk87 : (u84.1 0 39).toInt ≤ (u88.1 0 39).toInt ∧ (u88.1 0 39).toInt - 1 * (u88.1 0 47).toInt ≤ (u84.1 0 39).toInt - 1 * (u84.1 0 47).toInt := pk87
                    have pp87 : (u88.1 0 32).toInt = (u84.1 0 32).toInt ∧ (u88.1 0 48).toInt = (u84.1 0 48).toInt := pp87
                    have ph87 : (u84.1 0 33).toInt ≤ (u88.1 0 33).toInt ∧ (u88.1 0 33).toInt ≤ 500 := ph87
                    have kc87 : ∀ j : Nat, (j : Int) < (u84.1 0 12).toInt → (u88.1 11) j = (u84.1 11) j := kc87
                    have ko87 : ∀ j : Nat, (j : Int) < (u84.1 0 15).toInt → (u88.1 13) j = (u84.1 13) j := ko87
                    have kg87 : ∀ j : Nat, (j : Int) < (u84.1 0 15).toInt → (u88.1 14) j = (u84.1 14) j := kg87
                    have n3587 : NI 35 u88 := n3587
                    refine W.widen (k := 0) (n := 0) (by omega) (by omega) ?_
                    refine vx_ret ?_
                    exact W.vret hx hb hr (fun t ht9 hW => ⟨⟨u88, rfl, ⟨(FG.tr (FG.tr (FG.f (FG.rf _) ((v.1 0 47) + (1 : Int32)) (by decide)) (FG.up fr83 (by decide) (by decide))) (FG.up fr87 (by decide) (by decide))), (show (v.1 0 47).toInt + 1 ≤ (u88.1 0 47).toInt ∧ (u88.1 0 47).toInt ≤ 1500 by omega), (show (v.1 0 49).toInt ≠ (v.1 0 47).toInt by omega), (show (v.1 0 12).toInt ≤ (u88.1 0 12).toInt ∧ (u88.1 0 12).toInt - 15 * (u88.1 0 47).toInt ≤ (v.1 0 12).toInt - 15 * (v.1 0 47).toInt by omega), (show (v.1 0 15).toInt ≤ (u88.1 0 15).toInt ∧ (u88.1 0 15).toInt - 10 * (u88.1 0 47).toInt ≤ (v.1 0 15).toInt - 10 * (v.1 0 47).toInt by omega), (show (v.1 0 43).toInt ≤ (u88.1 0 43).toInt ∧ (u88.1 0 43).toInt - 15 * (u88.1 0 47).toInt ≤ (v.1 0 43).toInt - 15 * (v.1 0 47).toInt by omega), (show (v.1 0 39).toInt ≤ (u88.1 0 39).toInt ∧ (u88.1 0 39).toInt - 1 * (u88.1 0 47).toInt ≤ (v.1 0 39).toInt - 1 * (v.1 0 47).toInt by omega), (show (u88.1 0 32).toInt = (v.1 0 32).toInt ∧ (u88.1 0 48).toInt = (v.1 0 48).toInt by omega), (show (v.1 0 33).toInt ≤ (u88.1 0 33).toInt ∧ (u88.1 0 33).toInt ≤ 500 by omega), (fun (j9 : Nat) hj9 => (Eq.trans (kc87 j9 (by omega)) (kc83 j9 (by omega)))), (fun (j9 : Nat) hj9 => (Eq.trans (ko87 j9 (by omega)) (ko83 j9 (by omega)))), (fun (j9 : Nat) hj9 => (Eq.trans (kg87 j9 (by omega)) (kg83 j9 (by omega)))), n3587⟩, by rw [ht9]; exact hP, hD⟩, hS.F ht9⟩) hS.2.2 dX13_named_182
                  · have z90 : r4.toInt ≠ 0 := ne_z rfl (show (0 : Int32).toInt = 0 by decide) h81
                    exfalso; omega
                · have z91 : r78.toInt ≠ (-1) := ne_z rfl (show ((-1) : Int32).toInt = -1 by decide) h79
                  refine lv_aload_n hx hb dX13_named_119 rfl (lv_at hl 5 rfl) ?_
                  refine lv_iload hx hb dX13_named_120 (lv_at hl 2 rfl) ?_
                  refine lv_iload hx hb dX13_named_122 (lv_at hl 1 rfl) ?_
                  refine lv_iload_n hx hb dX13_named_124 rfl (lv_at hl 3 rfl) ?_
                  refine lv_iload hx hb dX13_named_125 (lv_at hl 0 rfl) ?_
                  refine cux_v (rx_V (n := 4) (As := [.int r7, .int r52, .int r4, .int r78]) (rest := []) hx hb hml hown ht hKK hFx hP hD hS hA (c_m_sets l n ihE dC dI cI cB cZ cJ cR tb H.size ad N (wA v 0 47 ((v.1 0 47) + (1 : Int32))) r7 r52 r4 r78 (show 40 ≤ (v.1 0 48).toInt + (n : Int) by omega) (show 0 ≤ ((v.1 0 47) + (1 : Int32)).toInt ∧ ((v.1 0 47) + (1 : Int32)).toInt ≤ 1500 by omega) (show 0 ≤ (v.1 0 48).toInt ∧ (v.1 0 48).toInt ≤ 40 by omega) (show 0 ≤ (v.1 0 30).toInt ∧ (v.1 0 30).toInt ≤ 500 by omega) (show 0 ≤ (v.1 0 33).toInt ∧ (v.1 0 33).toInt ≤ 500 by omega) (show 0 ≤ (v.1 0 32).toInt ∧ (v.1 0 30).toInt + (v.1 0 32).toInt ≤ 500 by omega) (show 0 ≤ (v.1 0 12).toInt ∧ (v.1 0 12).toInt ≤ 15 * ((v.1 0 47) + (1 : Int32)).toInt + 2 by omega) (show 0 ≤ (v.1 0 15).toInt ∧ (v.1 0 15).toInt ≤ 10 * ((v.1 0 47) + (1 : Int32)).toInt + 0 by omega) (show 0 ≤ (v.1 0 43).toInt ∧ (v.1 0 43).toInt ≤ 15 * ((v.1 0 47) + (1 : Int32)).toInt + 0 by omega) (show 0 ≤ (v.1 0 39).toInt ∧ (v.1 0 39).toInt ≤ 1 * ((v.1 0 47) + (1 : Int32)).toInt + 0 by omega) (show 0 ≤ (v.1 0 27).toInt ∧ (v.1 0 27).toInt ≤ 60 by omega) (FG.ti (fl := pfl) (al := pal) (FG.f (FG.rf _) ((v.1 0 47) + (1 : Int32)) (by decide)) (by decide) (by decide) hT) (n29) (n23) (n35) (show 0 ≤ r7.toInt ∨ (0 ≤ r52.toInt ∧ r52.toInt < 60) by omega) (show r4.toInt = 0 ∨ (0 ≤ r52.toInt ∧ r52.toInt < 60) by omega)) tw_136 tw_137 (by decide +kernel) rfl rfl ⟨by show (40 * n + 6) + 1 ≤ 40 * n + 34; omega, by show 8 + (8 + 11) + 28 * (40 * n + 6) ≤ 28 * (40 * n + 34); omega⟩ (List.range (mW ad N cI cZ cJ (wA v 0 47 ((v.1 0 47) + (1 : Int32)))).length) (rg_map _) (mW_nd _ _ _ _ _ _) rfl rfl rfl rfl hl.1 rfl (Nat.le_of_ble_eq_true rfl) dX13_named_127 ⟨Nat.le_of_ble_eq_true rfl, Nat.le_of_ble_eq_true rfl⟩) hP hD hS hA (fun u9 ce9 q9 H locs hx9 hP hD hS hc9 hv9 hf9 => ?_) (fun u93 H locs hw92 hP hD hS => ?_)
                  · exact vx_out (fun x h9 => (hnt x h9).elim) hlocks hc9 hv9 hf9 (fun t9 ht9 hv8 => ⟨u9, (FG.tr (FG.f (FG.rf _) ((v.1 0 47) + (1 : Int32)) (by decide)) hx9), ⟨rfl, by rw [ht9]; exact hP, hD⟩, hS.F ht9⟩) hS.2.2 (by omega) (by omega)
                  obtain ⟨fr92, pt92, pb92, pw92, po92, pf92, pk92, pp92, ph92, kc92, ko92, kg92, n3592⟩ := hw92
                  have q92_2 : (u93.1 0 2).toInt = (v.1 0 2).toInt := congrArg Int32.toInt ((fr92.2.1 2 (by decide)).trans (show (wA v 0 47 ((v.1 0 47) + (1 : Int32))).1 0 2 = (v.1 0 2) by rfl))
                  have q92_4 : (u93.1 0 4).toInt = (v.1 0 4).toInt := congrArg Int32.toInt ((fr92.2.1 4 (by decide)).trans (show (wA v 0 47 ((v.1 0 47) + (1 : Int32))).1 0 4 = (v.1 0 4) by rfl))
                  have q92_5 : (u93.1 0 5).toInt = (v.1 0 5).toInt := congrArg Int32.toInt ((fr92.2.1 5 (by decide)).trans (show (wA v 0 47 ((v.1 0 47) + (1 : Int32))).1 0 5 = (v.1 0 5) by rfl))
                  have q92_22 : (u93.1 0 22).toInt = (v.1 0 22).toInt := congrArg Int32.toInt ((fr92.2.1 22 (by decide)).trans (show (wA v 0 47 ((v.1 0 47) + (1 : Int32))).1 0 22 = (v.1 0 22) by rfl))
                  have q92_27 : (u93.1 0 27).toInt = (v.1 0 27).toInt := congrArg Int32.toInt ((fr92.2.1 27 (by decide)).trans (show (wA v 0 47 ((v.1 0 47) + (1 : Int32))).1 0 27 = (v.1 0 27) by rfl))
                  have q92_28 : (u93.1 0 28).toInt = (v.1 0 28).toInt := congrArg Int32.toInt ((fr92.2.1 28 (by decide)).trans (show (wA v 0 47 ((v.1 0 47) + (1 : Int32))).1 0 28 = (v.1 0 28) by rfl))
                  have q92_30 : (u93.1 0 30).toInt = (v.1 0 30).toInt := congrArg Int32.toInt ((fr92.2.1 30 (by decide)).trans (show (wA v 0 47 ((v.1 0 47) + (1 : Int32))).1 0 30 = (v.1 0 30) by rfl))
                  have q92_31 : (u93.1 0 31).toInt = (v.1 0 31).toInt := congrArg Int32.toInt ((fr92.2.1 31 (by decide)).trans (show (wA v 0 47 ((v.1 0 47) + (1 : Int32))).1 0 31 = (v.1 0 31) by rfl))
                  have q92_34 : (u93.1 0 34).toInt = (v.1 0 34).toInt := congrArg Int32.toInt ((fr92.2.1 34 (by decide)).trans (show (wA v 0 47 ((v.1 0 47) + (1 : Int32))).1 0 34 = (v.1 0 34) by rfl))
                  have q92_52 : (u93.1 0 52).toInt = (v.1 0 52).toInt := congrArg Int32.toInt ((fr92.2.1 52 (by decide)).trans (show (wA v 0 47 ((v.1 0 47) + (1 : Int32))).1 0 52 = (v.1 0 52) by rfl))
                  have pt92 : ((v.1 0 47) + (1 : Int32)).toInt + 1 ≤ (u93.1 0 47).toInt ∧ (u93.1 0 47).toInt ≤ 1500 := pt92
                  have pb92 : (v.1 0 49).toInt ≠ ((v.1 0 47) + (1 : Int32)).toInt := pb92
                  have pw92 : (v.1 0 12).toInt ≤ (u93.1 0 12).toInt ∧ (u93.1 0 12).toInt - 15 * (u93.1 0 47).toInt ≤ (v.1 0 12).toInt - 15 * ((v.1 0 47) + (1 : Int32)).toInt := pw92
                  have po92 : (v.1 0 15).toInt ≤ (u93.1 0 15).toInt ∧ (u93.1 0 15).toInt - 10 * (u93.1 0 47).toInt ≤ (v.1 0 15).toInt - 10 * ((v.1 0 47) + (1 : Int32)).toInt := po92
                  have pf92 : (v.1 0 43).toInt ≤ (u93.1 0 43).toInt ∧ (u93.1 0 43).toInt - 15 * (u93.1 0 47).toInt ≤ (v.1 0 43).toInt - 15 * ((v.1 0 47) + (1 : Int32)).toInt := pf92
                  have pk92 : (v.1 0 39).toInt ≤ (u93.1 0 39).toInt ∧ (u93.1 0 39).toInt - 1 * (u93.1 0 47).toInt ≤ (v.1 0 39).toInt - 1 * ((v.1 0 47) + (1 : Int32)).toInt := pk92
                  have pp92 : (u93.1 0 32).toInt = (v.1 0 32).toInt ∧ (u93.1 0 48).toInt = (v.1 0 48).toInt := pp92
                  have ph92 : (v.1 0 33).toInt ≤ (u93.1 0 33).toInt ∧ (u93.1 0 33).toInt ≤ 500 := ph92
                  have kc92 : ∀ j : Nat, (j : Int) < (v.1 0 12).toInt → (u93.1 11) j = (v.1 11) j := kc92
                  have ko92 : ∀ j : Nat, (j : Int) < (v.1 0 15).toInt → (u93.1 13) j = (v.1 13) j := ko92
                  have kg92 : ∀ j : Nat, (j : Int) < (v.1 0 15).toInt → (u93.1 14) j = (v.1 14) j := kg92
                  have n3592 : NI 35 u93 := n3592
                  refine W.widen (k := 0) (n := 0) (by omega) (by omega) ?_
                  refine vx_ret ?_
                  exact W.vret hx hb hr (fun t ht9 hW => ⟨⟨u93, rfl, ⟨(FG.tr (FG.f (FG.rf _) ((v.1 0 47) + (1 : Int32)) (by decide)) (FG.up fr92 (by decide) (by decide))), (show (v.1 0 47).toInt + 1 ≤ (u93.1 0 47).toInt ∧ (u93.1 0 47).toInt ≤ 1500 by omega), (show (v.1 0 49).toInt ≠ (v.1 0 47).toInt by omega), (show (v.1 0 12).toInt ≤ (u93.1 0 12).toInt ∧ (u93.1 0 12).toInt - 15 * (u93.1 0 47).toInt ≤ (v.1 0 12).toInt - 15 * (v.1 0 47).toInt by omega), (show (v.1 0 15).toInt ≤ (u93.1 0 15).toInt ∧ (u93.1 0 15).toInt - 10 * (u93.1 0 47).toInt ≤ (v.1 0 15).toInt - 10 * (v.1 0 47).toInt by omega), (show (v.1 0 43).toInt ≤ (u93.1 0 43).toInt ∧ (u93.1 0 43).toInt - 15 * (u93.1 0 47).toInt ≤ (v.1 0 43).toInt - 15 * (v.1 0 47).toInt by omega), (show (v.1 0 39).toInt ≤ (u93.1 0 39).toInt ∧ (u93.1 0 39).toInt - 1 * (u93.1 0 47).toInt ≤ (v.1 0 39).toInt - 1 * (v.1 0 47).toInt by omega), (show (u93.1 0 32).toInt = (v.1 0 32).toInt ∧ (u93.1 0 48).toInt = (v.1 0 48).toInt by omega), (show (v.1 0 33).toInt ≤ (u93.1 0 33).toInt ∧ (u93.1 0 33).toInt ≤ 500 by omega), (fun (j9 : Nat) hj9 => (kc92 j9 (by omega))), (fun (j9 : Nat) hj9 => (ko92 j9 (by omega))), (fun (j9 : Nat) hj9 => (kg92 j9 (by omega))), n3592⟩, by rw [ht9]; exact hP, hD⟩, hS.F ht9⟩) hS.2.2 dX13_named_130
              · have z95 : r4.toInt ≠ 0 := ne_z rfl (show (0 : Int32).toInt = 0 by decide) h73
                exfalso; omega
            · have z96 : r4.toInt ≠ 0 := ne_z rfl (show (0 : Int32).toInt = 0 by decide) h67
              refine lv_aload_n hx hb dX13_named_75 rfl (lv_at hl 4 rfl) ?_
              refine lv_iconst (v := 3) hx hb dX13_named_76 (by decide) ?_
              refine lv_aload_n hx hb dX13_named_77 rfl (lv_at hl 4 rfl) ?_
              refine va_get (D := (dC, dI)) (ci := 16) (fs := mF ad v) (v := .int (v.1 0 47)) (C := RX13) (T := TX13) (N := 124) hx hb ht itX13 hown hK hP 0 rfl rfl 47 (by decide) (ht _ tw_24) (fun _ h9 => h9) rfl dX13_named_78 ?_
              refine cu_r (rn_V (n := 2) (As := [.int 3, .int (v.1 0 47)]) (rest := []) hx hb hml hown ht hKK hFx hP hD hS hA (c_m_fail l dC dI cI cB cZ cJ cR tb H.size ad N v (3 : Int32) (v.1 0 47) (show 0 ≤ (v.1 0 47).toInt ∧ (v.1 0 47).toInt < 4002 by omega)) tw_25 tw_26 (by decide +kernel) rfl rfl ⟨by show 0 + 1 ≤ 40 * n + 34; omega, by show 8 + (3 + 11) + 0 ≤ 28 * (40 * n + 34); omega⟩ (List.range (mW ad N cI cZ cJ v).length) (rg_map _) (mW_nd _ _ _ _ _ _) rfl rfl rfl rfl hl.1 rfl (Nat.le_of_ble_eq_true rfl) dX13_named_81 ⟨Nat.le_of_ble_eq_true rfl, Nat.le_of_ble_eq_true rfl⟩) hP hD hS hA (fun u98 H locs hw97 hP hD hS => ?_)
              obtain rfl := hw97
              have hP : va_P (dC, dI) vwCl (mW ad N cI cZ cJ (wA (wA v 0 50 (3 : Int32)) 0 51 ((v.1 7) (v.1 0 47).toNatClampNeg))) H := hP
              have hD : va_D A (mW ad N cI cZ cJ (wA (wA v 0 50 (3 : Int32)) 0 51 ((v.1 7) (v.1 0 47).toNatClampNeg))) := hD
              refine W.widen (k := 0) (n := 0) (by omega) (by omega) ?_
              obtain ⟨ce9, hc9, hv9, hf9⟩ := halt_at hK hP
              refine um_athrow hx hb dX13_named_84 ?_
              exact vx_out (fun x h9 => (hnt x h9).elim) hlocks hc9 hv9 hf9 (fun t9 ht9 hv8 => ⟨(wA (wA v 0 50 (3 : Int32)) 0 51 ((v.1 7) (v.1 0 47).toNatClampNeg)), (FG.f (FG.f (FG.rf _) (3 : Int32) (by decide)) ((v.1 7) (v.1 0 47).toNatClampNeg) (by decide)), ⟨rfl, by rw [ht9]; exact hP, hD⟩, hS.F ht9⟩) hS.2.2 (by omega) (by omega)
          · have z100 : ((v.1 26) r52.toNatClampNeg).toInt ≠ 0 := ne_z rfl (show (0 : Int32).toInt = 0 by decide) h65
            refine lv_iconst (v := 1) hx hb dX13_named_67 (by decide) ?_
            refine lv_goto (tgt := 72) hx hb dX13_named_68 (by decide) ?_
            refine lv_icmp_eq (tgt := 85) hx hb dX13_named_72 (by decide) (fun h101 => ?_) (fun h101 => ?_)
            · have z102 : r4.toInt = 1 := eq_z rfl (show (1 : Int32).toInt = 1 by decide) h101
              refine lv_aload_n hx hb dX13_named_85 rfl (lv_at hl 4 rfl) ?_
              refine cux_v (rx_V (n := 0) (As := []) (rest := []) hx hb hml hown ht hKK hFx hP hD hS hA (c_m_take l dC dI cI cB cZ cJ cR tb H.size ad N v  (show 0 ≤ (v.1 0 47).toInt ∧ (v.1 0 47).toInt ≤ 1500 by omega)) tw_32 tw_33 (by decide +kernel) rfl rfl ⟨by show 1 + 1 ≤ 40 * n + 34; omega, by show 8 + (1 + 11) + 22 ≤ 28 * (40 * n + 34); omega⟩ (List.range (mW ad N cI cZ cJ v).length) (rg_map _) (mW_nd _ _ _ _ _ _) rfl rfl rfl rfl hl.1 rfl (Nat.le_of_ble_eq_true rfl) dX13_named_86 ⟨Nat.le_of_ble_eq_true rfl, Nat.le_of_ble_eq_true rfl⟩) hP hD hS hA (fun u9 ce9 q9 H locs hx9 hP hD hS hc9 hv9 hf9 => ?_) (fun u104 H locs hw103 hP hD hS => ?_)
              · exact vx_out (fun x h9 => (hnt x h9).elim) hlocks hc9 hv9 hf9 (fun t9 ht9 hv8 => ⟨u9, (FG.tr (FG.rf _) hx9), ⟨rfl, by rw [ht9]; exact hP, hD⟩, hS.F ht9⟩) hS.2.2 (by omega) (by omega)
              obtain ⟨rfl, a103, b103⟩ := hw103
              have z106 : ((v.1 0 47) + (1 : Int32)).toInt = (v.1 0 47).toInt + 1 := add_z rfl (show (1 : Int32).toInt = 1 by decide) (by omega) (by omega)
              have hP : va_P (dC, dI) vwCl (mW ad N cI cZ cJ (wA v 0 47 ((v.1 0 47) + (1 : Int32)))) H := hP
              have hD : va_D A (mW ad N cI cZ cJ (wA v 0 47 ((v.1 0 47) + (1 : Int32)))) := hD
              refine W.widen (k := 0) (n := 0) (by omega) (by omega) ?_
              refine lv_iload_n hx hb dX13_named_89 rfl (lv_at hl 2 rfl) ?_
              refine lv_if_eq (tgt := 99) hx hb dX13_named_90 (by decide) (fun h107 => ?_) (fun h107 => ?_)
              · have z108 : r4.toInt = 0 := eq_z rfl (show (0 : Int32).toInt = 0 by decide) h107
                exfalso; omega
              · have z109 : r4.toInt ≠ 0 := ne_z rfl (show (0 : Int32).toInt = 0 by decide) h107
                refine lv_aload_n hx hb dX13_named_93 rfl (lv_at hl 4 rfl) ?_
                refine lv_iload hx hb dX13_named_94 (lv_at hl 0 rfl) ?_
                refine cux_v (rx_V (n := 1) (As := [.int r52]) (rest := []) hx hb hml hown ht hKK hFx hP hD hS hA (c_m_index l n ihE dC dI cI cB cZ cJ cR tb H.size ad N (wA v 0 47 ((v.1 0 47) + (1 : Int32))) r52 (show 40 ≤ (v.1 0 48).toInt + (n : Int) by omega) (show 0 ≤ ((v.1 0 47) + (1 : Int32)).toInt ∧ ((v.1 0 47) + (1 : Int32)).toInt ≤ 1500 by omega) (show 0 ≤ (v.1 0 48).toInt ∧ (v.1 0 48).toInt ≤ 40 by omega) (show 0 ≤ (v.1 0 30).toInt ∧ (v.1 0 30).toInt ≤ 500 by omega) (show 0 ≤ (v.1 0 33).toInt ∧ (v.1 0 33).toInt ≤ 500 by omega) (show 0 ≤ (v.1 0 32).toInt ∧ (v.1 0 30).toInt + (v.1 0 32).toInt ≤ 500 by omega) (show 0 ≤ (v.1 0 12).toInt ∧ (v.1 0 12).toInt ≤ 15 * ((v.1 0 47) + (1 : Int32)).toInt + 2 by omega) (show 0 ≤ (v.1 0 15).toInt ∧ (v.1 0 15).toInt ≤ 10 * ((v.1 0 47) + (1 : Int32)).toInt + 0 by omega) (show 0 ≤ (v.1 0 43).toInt ∧ (v.1 0 43).toInt ≤ 15 * ((v.1 0 47) + (1 : Int32)).toInt + 0 by omega) (show 0 ≤ (v.1 0 39).toInt ∧ (v.1 0 39).toInt ≤ 1 * ((v.1 0 47) + (1 : Int32)).toInt + 0 by omega) (show 0 ≤ (v.1 0 27).toInt ∧ (v.1 0 27).toInt ≤ 60 by omega) (FG.ti (fl := pfl) (al := pal) (FG.f (FG.rf _) ((v.1 0 47) + (1 : Int32)) (by decide)) (by decide) (by decide) hT) (n29) (n23) (n35) (show 0 ≤ r52.toInt ∧ r52.toInt < 60 by omega)) tw_103 tw_104 (by decide +kernel) rfl rfl ⟨by show (40 * n + 6) + 1 ≤ 40 * n + 34; omega, by show 8 + (3 + 11) + 28 * (40 * n + 6) ≤ 28 * (40 * n + 34); omega⟩ (List.range (mW ad N cI cZ cJ (wA v 0 47 ((v.1 0 47) + (1 : Int32)))).length) (rg_map _) (mW_nd _ _ _ _ _ _) rfl rfl rfl rfl hl.1 rfl (Nat.le_of_ble_eq_true rfl) dX13_named_96 ⟨Nat.le_of_ble_eq_true rfl, Nat.le_of_ble_eq_true rfl⟩) hP hD hS hA (fun u9 ce9 q9 H locs hx9 hP hD hS hc9 hv9 hf9 => ?_) (fun u111 H locs hw110 hP hD hS => ?_)
                · exact vx_out (fun x h9 => (hnt x h9).elim) hlocks hc9 hv9 hf9 (fun t9 ht9 hv8 => ⟨u9, (FG.tr (FG.f (FG.rf _) ((v.1 0 47) + (1 : Int32)) (by decide)) hx9), ⟨rfl, by rw [ht9]; exact hP, hD⟩, hS.F ht9⟩) hS.2.2 (by omega) (by omega)
                obtain ⟨fr110, pt110, pb110, pw110, po110, pf110, pk110, pp110, ph110, kc110, ko110, kg110, n35110⟩ := hw110
                have q110_2 : (u111.1 0 2).toInt = (v.1 0 2).toInt := congrArg Int32.toInt ((fr110.2.1 2 (by decide)).trans (show (wA v 0 47 ((v.1 0 47) + (1 : Int32))).1 0 2 = (v.1 0 2) by rfl))
                have q110_4 : (u111.1 0 4).toInt = (v.1 0 4).toInt := congrArg Int32.toInt ((fr110.2.1 4 (by decide)).trans (show (wA v 0 47 ((v.1 0 47) + (1 : Int32))).1 0 4 = (v.1 0 4) by rfl))
                have q110_5 : (u111.1 0 5).toInt = (v.1 0 5).toInt := congrArg Int32.toInt ((fr110.2.1 5 (by decide)).trans (show (wA v 0 47 ((v.1 0 47) + (1 : Int32))).1 0 5 = (v.1 0 5) by rfl))
                have q110_22 : (u111.1 0 22).toInt = (v.1 0 22).toInt := congrArg Int32.toInt ((fr110.2.1 22 (by decide)).trans (show (wA v 0 47 ((v.1 0 47) + (1 : Int32))).1 0 22 = (v.1 0 22) by rfl))
                have q110_27 : (u111.1 0 27).toInt = (v.1 0 27).toInt := congrArg Int32.toInt ((fr110.2.1 27 (by decide)).trans (show (wA v 0 47 ((v.1 0 47) + (1 : Int32))).1 0 27 = (v.1 0 27) by rfl))
                have q110_28 : (u111.1 0 28).toInt = (v.1 0 28).toInt := congrArg Int32.toInt ((fr110.2.1 28 (by decide)).trans (show (wA v 0 47 ((v.1 0 47) + (1 : Int32))).1 0 28 = (v.1 0 28) by rfl))
                have q110_30 : (u111.1 0 30).toInt = (v.1 0 30).toInt := congrArg Int32.toInt ((fr110.2.1 30 (by decide)).trans (show (wA v 0 47 ((v.1 0 47) + (1 : Int32))).1 0 30 = (v.1 0 30) by rfl))
                have q110_31 : (u111.1 0 31).toInt = (v.1 0 31).toInt := congrArg Int32.toInt ((fr110.2.1 31 (by decide)).trans (show (wA v 0 47 ((v.1 0 47) + (1 : Int32))).1 0 31 = (v.1 0 31) by rfl))
                have q110_34 : (u111.1 0 34).toInt = (v.1 0 34).toInt := congrArg Int32.toInt ((fr110.2.1 34 (by decide)).trans (show (wA v 0 47 ((v.1 0 47) + (1 : Int32))).1 0 34 = (v.1 0 34) by rfl))
                have q110_52 : (u111.1 0 52).toInt = (v.1 0 52).toInt := congrArg Int32.toInt ((fr110.2.1 52 (by decide)).trans (show (wA v 0 47 ((v.1 0 47) + (1 : Int32))).1 0 52 = (v.1 0 52) by rfl))
                have pt110 : ((v.1 0 47) + (1 : Int32)).toInt + 1 ≤ (u111.1 0 47).toInt ∧ (u111.1 0 47).toInt ≤ 1500 := pt110
                have pb110 : (v.1 0 49).toInt ≠ ((v.1 0 47) + (1 : Int32)).toInt := pb110
                have pw110 : (v.1 0 12).toInt ≤ (u111.1 0 12).toInt ∧ (u111.1 0 12).toInt - 15 * (u111.1 0 47).toInt ≤ (v.1 0 12).toInt - 15 * ((v.1 0 47) + (1 : Int32)).toInt := pw110
                have po110 : (v.1 0 15).toInt ≤ (u111.1 0 15).toInt ∧ (u111.1 0 15).toInt - 10 * (u111.1 0 47).toInt ≤ (v.1 0 15).toInt - 10 * ((v.1 0 47) + (1 : Int32)).toInt := po110
                have pf110 : (v.1 0 43).toInt ≤ (u111.1 0 43).toInt ∧ (u111.1 0 43).toInt - 15 * (u111.1 0 47).toInt ≤ (v.1 0 43).toInt - 15 * ((v.1 0 47) + (1 : Int32)).toInt := pf110
                have pk110 : (v.1 0 39).toInt ≤ (u111.1 0 39).toInt ∧ (u111.1 0 39).toInt - 1 * (u111.1 0 47).toInt ≤ (v.1 0 39).toInt - 1 * ((v.1 0 47) + (1 : Int32)).toInt := pk110
                have pp110 : (u111.1 0 32).toInt = (v.1 0 32).toInt ∧ (u111.1 0 48).toInt = (v.1 0 48).toInt := pp110
                have ph110 : (v.1 0 33).toInt ≤ (u111.1 0 33).toInt ∧ (u111.1 0 33).toInt ≤ 500 := ph110
                have kc110 : ∀ j : Nat, (j : Int) < (v.1 0 12).toInt → (u111.1 11) j = (v.1 11) j := kc110
                have ko110 : ∀ j : Nat, (j : Int) < (v.1 0 15).toInt → (u111.1 13) j = (v.1 13) j := ko110
                have kg110 : ∀ j : Nat, (j : Int) < (v.1 0 15).toInt → (u111.1 14) j = (v.1 14) j := kg110
                have n35110 : NI 35 u111 := n35110
                refine W.widen (k := 0) (n := 0) (by omega) (by omega) ?_
                refine lv_iload_n hx hb dX13_named_99 rfl (lv_at hl 5 rfl) ?_
                refine lv_if_eq (tgt := 110) hx hb dX13_named_100 (by decide) (fun k113 => absurd k113 (by decide)) (fun _ => ?_)
                refine lv_aload_n hx hb dX13_named_103 rfl (lv_at hl 4 rfl) ?_
                refine cu_i (rn_V (n := 0) (As := []) (rest := []) hx hb hml hown ht hKK hFx hP hD hS hA (c_m_setting l dC dI cI cB cZ cJ cR tb H.size ad N u111  (show 0 ≤ (u111.1 0 47).toInt ∧ (u111.1 0 47).toInt ≤ 1500 by omega)) tw_134 tw_135 (by decide +kernel) rfl rfl ⟨by show 0 + 1 ≤ 40 * n + 34; omega, by show 8 + (5 + 11) + 0 ≤ 28 * (40 * n + 34); omega⟩ (List.range (mW ad N cI cZ cJ u111).length) (rg_map _) (mW_nd _ _ _ _ _ _) rfl rfl rfl rfl hl.1 rfl (Nat.le_of_ble_eq_true rfl) dX13_named_104 ⟨Nat.le_of_ble_eq_true rfl, Nat.le_of_ble_eq_true rfl⟩) hP hD hS hA (fun r116 u115 H locs hw114 hP hD hS => ?_)
                obtain rfl := hw114
                refine W.widen (k := 0) (n := 0) (by omega) (by omega) ?_
                refine lv_goto (tgt := 111) hx hb dX13_named_107 (by decide) ?_
                refine lv_istore (lv' := [(6, .int r116), (5, .int r52), (4, .int r7), (3, .int r4), (2, .int (v.1 0 47)), (0, .ref (ad 0)), (1, .int 1)]) hx hb dX13_named_111 hl (by decide) rfl (fun ls hl => ?_)
                refine lv_iload hx hb dX13_named_113 (lv_at hl 0 rfl) ?_
                refine lv_iconst (v := -1) hx hb dX13_named_115 (by decide) ?_
                refine lv_icmp_eq (tgt := 131) hx hb dX13_named_116 (by decide) (fun h117 => ?_) (fun h117 => ?_)
                · have z118 : r116.toInt = (-1) := eq_z rfl (show ((-1) : Int32).toInt = -1 by decide) h117
                  refine lv_iload_n hx hb dX13_named_131 rfl (lv_at hl 3 rfl) ?_
                  refine lv_if_eq (tgt := 165) hx hb dX13_named_132 (by decide) (fun h119 => ?_) (fun h119 => ?_)
                  · have z120 : r4.toInt = 0 := eq_z rfl (show (0 : Int32).toInt = 0 by decide) h119
                    exfalso; omega
                  · have z121 : r4.toInt ≠ 0 := ne_z rfl (show (0 : Int32).toInt = 0 by decide) h119
                    refine lv_aload_n hx hb dX13_named_135 rfl (lv_at hl 5 rfl) ?_
                    refine lv_aload_n hx hb dX13_named_136 rfl (lv_at hl 5 rfl) ?_
                    refine lv_bipush (v := 10) hx hb dX13_named_137 (by decide) ?_
                    refine lv_iconst (v := 0) hx hb dX13_named_139 (by decide) ?_
                    refine lv_bipush (v := 10) hx hb dX13_named_140 (by decide) ?_
                    refine cu_s (mW_nd _ _ _ _ _ _) (rn_S (n := 3) (As := [.int 10, .int 0, .int 10]) (rest := [.ref (ad 0), .ref (ad 0)]) hx hb hml hown ht hKK hFx hP hD hS hA (c_m_lw l dC dI cI cB cZ cJ cR tb H.size (10 : Int32) (0 : Int32) (10 : Int32) ) tw_71 tw_72 (by decide +kernel) rfl rfl ⟨by show 1 + 1 ≤ 40 * n + 34; omega, by show 8 + (3 + 11) + 24 ≤ 28 * (40 * n + 34); omega⟩ [] rfl rfl rfl hl.1 rfl (Nat.le_of_ble_eq_true rfl) dX13_named_142 ⟨Nat.le_of_ble_eq_true rfl, Nat.le_of_ble_eq_true rfl⟩) hP hD hS hA (fun r124 H locs hw122 hP hD hS => ?_)
                    refine W.widen (k := 0) (n := 0) (by omega) (by omega) ?_
                    refine cu_i (rn_V (n := 1) (As := [.int r124]) (rest := [.ref (ad 0)]) hx hb hml hown ht hKK hFx hP hD hS hA (c_m_emit l dC dI cI cB cZ cJ cR tb H.size ad N u111 r124 (show 0 ≤ (u111.1 0 12).toInt ∧ (u111.1 0 12).toInt < 24000 by omega)) tw_8 tw_9 (by decide +kernel) rfl rfl ⟨by show 0 + 1 ≤ 40 * n + 34; omega, by show 8 + (2 + 11) + 0 ≤ 28 * (40 * n + 34); omega⟩ (List.range (mW ad N cI cZ cJ u111).length) (rg_map _) (mW_nd _ _ _ _ _ _) rfl rfl rfl rfl hl.1 rfl (Nat.le_of_ble_eq_true rfl) dX13_named_145 ⟨Nat.le_of_ble_eq_true rfl, Nat.le_of_ble_eq_true rfl⟩) hP hD hS hA (fun r127 u126 H locs hw125 hP hD hS => ?_)
                    obtain ⟨rfl, rfl⟩ := hw125
                    have z128 : ((u111.1 0 12) + (1 : Int32)).toInt = (u111.1 0 12).toInt + 1 := add_z rfl (show (1 : Int32).toInt = 1 by decide) (by omega) (by omega)
                    have hP : va_P (dC, dI) vwCl (mW ad N cI cZ cJ (wA (wA u111 11 ((u111.1 0 12).toNatClampNeg) r124) 0 12 ((u111.1 0 12) + (1 : Int32)))) H := hP
                    have hD : va_D A (mW ad N cI cZ cJ (wA (wA u111 11 ((u111.1 0 12).toNatClampNeg) r124) 0 12 ((u111.1 0 12) + (1 : Int32)))) := hD
                    refine tp_i (y := (u111.1 0 12)) (rfl) ?_
                    refine W.widen (k := 0) (n := 0) (by omega) (by omega) ?_
                    refine lv_iload hx hb dX13_named_148 (lv_at hl 1 rfl) ?_
                    refine lv_iconst (v := 1) hx hb dX13_named_150 (by decide) ?_
                    refine cu_v (rn_V (n := 3) (As := [.int (u111.1 0 12), .int r52, .int 1]) (rest := []) hx hb hml hown ht hKK hFx hP hD hS hA (c_m_fix l dC dI cI cB cZ cJ cR tb H.size ad N (wA (wA u111 11 ((u111.1 0 12).toNatClampNeg) r124) 0 12 ((u111.1 0 12) + (1 : Int32))) (u111.1 0 12) r52 (1 : Int32) (show 0 ≤ (u111.1 0 43).toInt ∧ (u111.1 0 43).toInt < 24000 by omega)) tw_69 tw_70 (by decide +kernel) rfl rfl ⟨by show 0 + 1 ≤ 40 * n + 34; omega, by show 8 + (4 + 11) + 0 ≤ 28 * (40 * n + 34); omega⟩ (List.range (mW ad N cI cZ cJ (wA (wA u111 11 ((u111.1 0 12).toNatClampNeg) r124) 0 12 ((u111.1 0 12) + (1 : Int32)))).length) (rg_map _) (mW_nd _ _ _ _ _ _) rfl rfl rfl rfl hl.1 rfl (Nat.le_of_ble_eq_true rfl) dX13_named_151 ⟨Nat.le_of_ble_eq_true rfl, Nat.le_of_ble_eq_true rfl⟩) hP hD hS hA (fun u130 H locs hw129 hP hD hS => ?_)
                    obtain rfl := hw129
                    have z132 : ((u111.1 0 43) + (1 : Int32)).toInt = (u111.1 0 43).toInt + 1 := add_z rfl (show (1 : Int32).toInt = 1 by decide) (by omega) (by omega)
                    have hP : va_P (dC, dI) vwCl (mW ad N cI cZ cJ (wA (wA (wA (wA (wA (wA u111 11 ((u111.1 0 12).toNatClampNeg) r124) 0 12 ((u111.1 0 12) + (1 : Int32))) 40 ((u111.1 0 43).toNatClampNeg) (u111.1 0 12)) 41 ((u111.1 0 43).toNatClampNeg) r52) 42 ((u111.1 0 43).toNatClampNeg) (1 : Int32)) 0 43 ((u111.1 0 43) + (1 : Int32)))) H := hP
                    have hD : va_D A (mW ad N cI cZ cJ (wA (wA (wA (wA (wA (wA u111 11 ((u111.1 0 12).toNatClampNeg) r124) 0 12 ((u111.1 0 12) + (1 : Int32))) 40 ((u111.1 0 43).toNatClampNeg) (u111.1 0 12)) 41 ((u111.1 0 43).toNatClampNeg) r52) 42 ((u111.1 0 43).toNatClampNeg) (1 : Int32)) 0 43 ((u111.1 0 43) + (1 : Int32)))) := hD
                    refine W.widen (k := 0) (n := 0) (by omega) (by omega) ?_
                    refine lv_aload_n hx hb dX13_named_154 rfl (lv_at hl 5 rfl) ?_
                    refine lv_bipush (v := 6) hx hb dX13_named_155 (by decide) ?_
                    refine lv_iconst (v := 0) hx hb dX13_named_157 (by decide) ?_
                    refine cu_i (rn_V (n := 2) (As := [.int 6, .int 0]) (rest := []) hx hb hml hown ht hKK hFx hP hD hS hA (c_m_say l dC dI cI cB cZ cJ cR tb H.size ad N (wA (wA (wA (wA (wA (wA u111 11 ((u111.1 0 12).toNatClampNeg) r124) 0 12 ((u111.1 0 12) + (1 : Int32))) 40 ((u111.1 0 43).toNatClampNeg) (u111.1 0 12)) 41 ((u111.1 0 43).toNatClampNeg) r52) 42 ((u111.1 0 43).toNatClampNeg) (1 : Int32)) 0 43 ((u111.1 0 43) + (1 : Int32))) (6 : Int32) (0 : Int32) (show 0 ≤ (u111.1 0 15).toInt ∧ (u111.1 0 15).toInt < 16000 by omega)) tw_59 tw_60 (by decide +kernel) rfl rfl ⟨by show 0 + 1 ≤ 40 * n + 34; omega, by show 8 + (3 + 11) + 0 ≤ 28 * (40 * n + 34); omega⟩ (List.range (mW ad N cI cZ cJ (wA (wA (wA (wA (wA (wA u111 11 ((u111.1 0 12).toNatClampNeg) r124) 0 12 ((u111.1 0 12) + (1 : Int32))) 40 ((u111.1 0 43).toNatClampNeg) (u111.1 0 12)) 41 ((u111.1 0 43).toNatClampNeg) r52) 42 ((u111.1 0 43).toNatClampNeg) (1 : Int32)) 0 43 ((u111.1 0 43) + (1 : Int32)))).length) (rg_map _) (mW_nd _ _ _ _ _ _) rfl rfl rfl rfl hl.1 rfl (Nat.le_of_ble_eq_true rfl) dX13_named_158 ⟨Nat.le_of_ble_eq_true rfl, Nat.le_of_ble_eq_true rfl⟩) hP hD hS hA (fun r135 u134 H locs hw133 hP hD hS => ?_)
                    obtain ⟨rfl, rfl⟩ := hw133
                    have z136 : ((u111.1 0 15) + (1 : Int32)).toInt = (u111.1 0 15).toInt + 1 := add_z rfl (show (1 : Int32).toInt = 1 by decide) (by omega) (by omega)
                    have hP : va_P (dC, dI) vwCl (mW ad N cI cZ cJ (wA (wA (wA (wA (wA (wA (wA (wA (wA u111 11 ((u111.1 0 12).toNatClampNeg) r124) 0 12 ((u111.1 0 12) + (1 : Int32))) 40 ((u111.1 0 43).toNatClampNeg) (u111.1 0 12)) 41 ((u111.1 0 43).toNatClampNeg) r52) 42 ((u111.1 0 43).toNatClampNeg) (1 : Int32)) 0 43 ((u111.1 0 43) + (1 : Int32))) 13 ((u111.1 0 15).toNatClampNeg) (6 : Int32)) 14 ((u111.1 0 15).toNatClampNeg) (0 : Int32)) 0 15 ((u111.1 0 15) + (1 : Int32)))) H := hP
                    have hD : va_D A (mW ad N cI cZ cJ (wA (wA (wA (wA (wA (wA (wA (wA (wA u111 11 ((u111.1 0 12).toNatClampNeg) r124) 0 12 ((u111.1 0 12) + (1 : Int32))) 40 ((u111.1 0 43).toNatClampNeg) (u111.1 0 12)) 41 ((u111.1 0 43).toNatClampNeg) r52) 42 ((u111.1 0 43).toNatClampNeg) (1 : Int32)) 0 43 ((u111.1 0 43) + (1 : Int32))) 13 ((u111.1 0 15).toNatClampNeg) (6 : Int32)) 14 ((u111.1 0 15).toNatClampNeg) (0 : Int32)) 0 15 ((u111.1 0 15) + (1 : Int32)))) := hD
                    refine tp_i (y := (u111.1 0 15)) (rfl) ?_
                    refine W.widen (k := 0) (n := 0) (by omega) (by omega) ?_
                    obtain ⟨u137, hu138⟩ : ∃ z, z = (wA (wA (wA (wA (wA (wA (wA (wA (wA u111 11 ((u111.1 0 12).toNatClampNeg) r124) 0 12 ((u111.1 0 12) + (1 : Int32))) 40 ((u111.1 0 43).toNatClampNeg) (u111.1 0 12)) 41 ((u111.1 0 43).toNatClampNeg) r52) 42 ((u111.1 0 43).toNatClampNeg) (1 : Int32)) 0 43 ((u111.1 0 43) + (1 : Int32))) 13 ((u111.1 0 15).toNatClampNeg) (6 : Int32)) 14 ((u111.1 0 15).toNatClampNeg) (0 : Int32)) 0 15 ((u111.1 0 15) + (1 : Int32))) := ⟨_, rfl⟩
                    have fr138 : FG [12, 15, 43] [0, 11, 13, 14, 40, 41, 42] u111 u137 := by rw [hu138]; exact (FG.f (FG.a (FG.a (FG.f (FG.a (FG.a (FG.a (FG.f (FG.a (FG.rf _) ((u111.1 0 12).toNatClampNeg) r124 (by decide) (by decide)) ((u111.1 0 12) + (1 : Int32)) (by decide)) ((u111.1 0 43).toNatClampNeg) (u111.1 0 12) (by decide) (by decide)) ((u111.1 0 43).toNatClampNeg) r52 (by decide) (by decide)) ((u111.1 0 43).toNatClampNeg) (1 : Int32) (by decide) (by decide)) ((u111.1 0 43) + (1 : Int32)) (by decide)) ((u111.1 0 15).toNatClampNeg) (6 : Int32) (by decide) (by decide)) ((u111.1 0 15).toNatClampNeg) (0 : Int32) (by decide) (by decide)) ((u111.1 0 15) + (1 : Int32)) (by decide))
                    have q138_2 : (u137.1 0 2).toInt = (u111.1 0 2).toInt := congrArg Int32.toInt (fr138.2.1 2 (by decide))
                    have q138_4 : (u137.1 0 4).toInt = (u111.1 0 4).toInt := congrArg Int32.toInt (fr138.2.1 4 (by decide))
                    have q138_5 : (u137.1 0 5).toInt = (u111.1 0 5).toInt := congrArg Int32.toInt (fr138.2.1 5 (by decide))
                    have q138_12 : (u137.1 0 12).toInt = ((u111.1 0 12).toInt + 1) := by rw [hu138]; exact (show ((u111.1 0 12) + (1 : Int32)).toInt = ((u111.1 0 12).toInt + 1) from z128)
                    have q138_15 : (u137.1 0 15).toInt = ((u111.1 0 15).toInt + 1) := by rw [hu138]; exact (show ((u111.1 0 15) + (1 : Int32)).toInt = ((u111.1 0 15).toInt + 1) from z136)
                    have q138_22 : (u137.1 0 22).toInt = (u111.1 0 22).toInt := congrArg Int32.toInt (fr138.2.1 22 (by decide))
                    have q138_27 : (u137.1 0 27).toInt = (u111.1 0 27).toInt := congrArg Int32.toInt (fr138.2.1 27 (by decide))
                    have q138_28 : (u137.1 0 28).toInt = (u111.1 0 28).toInt := congrArg Int32.toInt (fr138.2.1 28 (by decide))
                    have q138_30 : (u137.1 0 30).toInt = (u111.1 0 30).toInt := congrArg Int32.toInt (fr138.2.1 30 (by decide))
                    have q138_31 : (u137.1 0 31).toInt = (u111.1 0 31).toInt := congrArg Int32.toInt (fr138.2.1 31 (by decide))
                    have q138_32 : (u137.1 0 32).toInt = (u111.1 0 32).toInt := congrArg Int32.toInt (fr138.2.1 32 (by decide))
                    have q138_33 : (u137.1 0 33).toInt = (u111.1 0 33).toInt := congrArg Int32.toInt (fr138.2.1 33 (by decide))
                    have q138_34 : (u137.1 0 34).toInt = (u111.1 0 34).toInt := congrArg Int32.toInt (fr138.2.1 34 (by decide))
                    have q138_39 : (u137.1 0 39).toInt = (u111.1 0 39).toInt := congrArg Int32.toInt (fr138.2.1 39 (by decide))
                    have q138_43 : (u137.1 0 43).toInt = ((u111.1 0 43).toInt + 1) := by rw [hu138]; exact (show ((u111.1 0 43) + (1 : Int32)).toInt = ((u111.1 0 43).toInt + 1) from z132)
                    have q138_47 : (u137.1 0 47).toInt = (u111.1 0 47).toInt := congrArg Int32.toInt (fr138.2.1 47 (by decide))
                    have q138_48 : (u137.1 0 48).toInt = (u111.1 0 48).toInt := congrArg Int32.toInt (fr138.2.1 48 (by decide))
                    have q138_49 : (u137.1 0 49).toInt = (u111.1 0 49).toInt := congrArg Int32.toInt (fr138.2.1 49 (by decide))
                    have q138_52 : (u137.1 0 52).toInt = (u111.1 0 52).toInt := congrArg Int32.toInt (fr138.2.1 52 (by decide))
                    have kc138 : ∀ j : Nat, (j : Int) < (u111.1 0 12).toInt → (u137.1 11) j = (u111.1 11) j := by rw [hu138]; exact (fun (j9 : Nat) hj9 => (pk_un (by have := cl_z (a := (u111.1 0 12).toInt) rfl (by omega); omega)))
                    have ko138 : ∀ j : Nat, (j : Int) < (u111.1 0 15).toInt → (u137.1 13) j = (u111.1 13) j := by rw [hu138]; exact (fun (j9 : Nat) hj9 => (pk_un (by have := cl_z (a := (u111.1 0 15).toInt) rfl (by omega); omega)))
                    have kg138 : ∀ j : Nat, (j : Int) < (u111.1 0 15).toInt → (u137.1 14) j = (u111.1 14) j := by rw [hu138]; exact (fun (j9 : Nat) hj9 => (pk_un (by have := cl_z (a := (u111.1 0 15).toInt) rfl (by omega); omega)))
                    rw [← hu138] at hP hD
                    refine lv_pop hx hb dX13_named_161 rfl ?_
                    refine lv_goto (tgt := 173) hx hb dX13_named_162 (by decide) ?_
                    refine lv_iload_n hx hb dX13_named_173 rfl (lv_at hl 6 rfl) ?_
                    refine lv_if_eq (tgt := 182) hx hb dX13_named_174 (by decide) (fun k139 => absurd k139 (by decide)) (fun _ => ?_)
                    refine lv_aload_n hx hb dX13_named_177 rfl (lv_at hl 5 rfl) ?_
                    refine lv_iconst (v := 1) hx hb dX13_named_178 (by decide) ?_
                    refine cux_v (rx_V (n := 1) (As := [.int 1]) (rest := []) hx hb hml hown ht hKK hFx hP hD hS hA (C dC dI cI cB cZ cJ cR tb H.size ad N u137 (1 : Int32) (show 40 ≤ (u137.1 0 48).toInt + (n : Int) by omega) (show 0 ≤ (u137.1 0 47).toInt ∧ (u137.1 0 47).toInt ≤ 1500 by omega) (show 0 ≤ (u137.1 0 48).toInt ∧ (u137.1 0 48).toInt ≤ 40 by omega) (show 0 ≤ (u137.1 0 30).toInt ∧ (u137.1 0 30).toInt ≤ 500 by omega) (show 0 ≤ (u137.1 0 33).toInt ∧ (u137.1 0 33).toInt ≤ 500 by omega) (show 0 ≤ (u137.1 0 32).toInt ∧ (u137.1 0 30).toInt + (u137.1 0 32).toInt ≤ 500 by omega) (show 0 ≤ (u137.1 0 12).toInt ∧ (u137.1 0 12).toInt ≤ 15 * (u137.1 0 47).toInt + 2 by omega) (show 0 ≤ (u137.1 0 15).toInt ∧ (u137.1 0 15).toInt ≤ 10 * (u137.1 0 47).toInt + 0 by omega) (show 0 ≤ (u137.1 0 43).toInt ∧ (u137.1 0 43).toInt ≤ 15 * (u137.1 0 47).toInt + 0 by omega) (show 0 ≤ (u137.1 0 39).toInt ∧ (u137.1 0 39).toInt ≤ 1 * (u137.1 0 47).toInt + 0 by omega) (show 0 ≤ (u137.1 0 27).toInt ∧ (u137.1 0 27).toInt ≤ 60 by omega) (FG.ti (fl := pfl) (al := pal) (FG.tr (FG.tr (FG.f (FG.rf _) ((v.1 0 47) + (1 : Int32)) (by decide)) (FG.up fr110 (by decide) (by decide))) (FG.up fr138 (by decide) (by decide))) (by decide) (by decide) hT) ((show NI 29 u137 from NI.fr (fl := [12, 15, 43]) (al := [0, 11, 13, 14, 40, 41, 42]) fr138 (by decide) (show NI 29 u111 from NI.fr (fl := [12, 15, 32, 33, 39, 43, 44, 45, 47, 48, 49, 50, 51]) (al := [0, 11, 13, 14, 35, 36, 37, 38, 40, 41, 42]) fr110 (by decide) n29))) ((show NI 23 u137 from NI.fr (fl := [12, 15, 43]) (al := [0, 11, 13, 14, 40, 41, 42]) fr138 (by decide) (show NI 23 u111 from NI.fr (fl := [12, 15, 32, 33, 39, 43, 44, 45, 47, 48, 49, 50, 51]) (al := [0, 11, 13, 14, 35, 36, 37, 38, 40, 41, 42]) fr110 (by decide) n23))) ((show NI 35 u137 from NI.fr (fl := [12, 15, 43]) (al := [0, 11, 13, 14, 40, 41, 42]) fr138 (by decide) n35110))) tw_132 tw_133 (by decide +kernel) rfl rfl ⟨by show (40 * n + 32) + 1 ≤ 40 * n + 34; omega, by show 8 + (6 + 11) + 28 * (40 * n + 32) ≤ 28 * (40 * n + 34); omega⟩ (List.range (mW ad N cI cZ cJ u137).length) (rg_map _) (mW_nd _ _ _ _ _ _) rfl rfl rfl rfl hl.1 rfl (Nat.le_of_ble_eq_true rfl) dX13_named_179 ⟨Nat.le_of_ble_eq_true rfl, Nat.le_of_ble_eq_true rfl⟩) hP hD hS hA (fun u9 ce9 q9 H locs hx9 hP hD hS hc9 hv9 hf9 => ?_) (fun u141 H locs hw140 hP hD hS => ?_)
                    · exact vx_out (fun x h9 => (hnt x h9).elim) hlocks hc9 hv9 hf9 (fun t9 ht9 hv8 => ⟨u9, (FG.tr (FG.tr (FG.tr (FG.f (FG.rf _) ((v.1 0 47) + (1 : Int32)) (by decide)) (FG.up fr110 (by decide) (by decide))) (FG.up fr138 (by decide) (by decide))) hx9), ⟨rfl, by rw [ht9]; exact hP, hD⟩, hS.F ht9⟩) hS.2.2 (by omega) (by omega)
                    obtain ⟨fr140, pt140, pb140, pw140, po140, pf140, pk140, pp140, ph140, kc140, ko140, kg140, n35140⟩ := hw140
                    have q140_2 : (u141.1 0 2).toInt = (u137.1 0 2).toInt := congrArg Int32.toInt ((fr140.2.1 2 (by decide)).trans (show u137.1 0 2 = (u137.1 0 2) by rfl))
                    have q140_4 : (u141.1 0 4).toInt = (u137.1 0 4).toInt := congrArg Int32.toInt ((fr140.2.1 4 (by decide)).trans (show u137.1 0 4 = (u137.1 0 4) by rfl))
                    have q140_5 : (u141.1 0 5).toInt = (u137.1 0 5).toInt := congrArg Int32.toInt ((fr140.2.1 5 (by decide)).trans (show u137.1 0 5 = (u137.1 0 5) by rfl))
                    have q140_22 : (u141.1 0 22).toInt = (u137.1 0 22).toInt := congrArg Int32.toInt ((fr140.2.1 22 (by decide)).trans (show u137.1 0 22 = (u137.1 0 22) by rfl))
                    have q140_27 : (u141.1 0 27).toInt = (u137.1 0 27).toInt := congrArg Int32.toInt ((fr140.2.1 27 (by decide)).trans (show u137.1 0 27 = (u137.1 0 27) by rfl))
                    have q140_28 : (u141.1 0 28).toInt = (u137.1 0 28).toInt := congrArg Int32.toInt ((fr140.2.1 28 (by decide)).trans (show u137.1 0 28 = (u137.1 0 28) by rfl))
                    have q140_30 : (u141.1 0 30).toInt = (u137.1 0 30).toInt := congrArg Int32.toInt ((fr140.2.1 30 (by decide)).trans (show u137.1 0 30 = (u137.1 0 30) by rfl))
                    have q140_31 : (u141.1 0 31).toInt = (u137.1 0 31).toInt := congrArg Int32.toInt ((fr140.2.1 31 (by decide)).trans (show u137.1 0 31 = (u137.1 0 31) by rfl))
                    have q140_34 : (u141.1 0 34).toInt = (u137.1 0 34).toInt := congrArg Int32.toInt ((fr140.2.1 34 (by decide)).trans (show u137.1 0 34 = (u137.1 0 34) by rfl))
                    have q140_52 : (u141.1 0 52).toInt = (u137.1 0 52).toInt := congrArg Int32.toInt ((fr140.2.1 52 (by decide)).trans (show u137.1 0 52 = (u137.1 0 52) by rfl))
                    have pt140 : (u137.1 0 47).toInt + 0 ≤ (u141.1 0 47).toInt ∧ (u141.1 0 47).toInt ≤ 1500 := pt140
                    have pb140 : 1 ≠ 0 ∨ ((u137.1 0 47).toInt + 1 ≤ (u141.1 0 47).toInt ∧ (u137.1 0 49).toInt ≠ (u137.1 0 47).toInt) := pb140
                    have pw140 : (u137.1 0 12).toInt ≤ (u141.1 0 12).toInt ∧ (u141.1 0 12).toInt - 15 * (u141.1 0 47).toInt ≤ (u137.1 0 12).toInt - 15 * (u137.1 0 47).toInt := pw140
                    have po140 : (u137.1 0 15).toInt ≤ (u141.1 0 15).toInt ∧ (u141.1 0 15).toInt - 10 * (u141.1 0 47).toInt ≤ (u137.1 0 15).toInt - 10 * (u137.1 0 47).toInt := po140
                    have pf140 : (u137.1 0 43).toInt ≤ (u141.1 0 43).toInt ∧ (u141.1 0 43).toInt - 15 * (u141.1 0 47).toInt ≤ (u137.1 0 43).toInt - 15 * (u137.1 0 47).toInt := pf140
                    have pk140 : (u137.1 0 39).toInt ≤ (u141.1 0 39).toInt ∧ (u141.1 0 39).toInt - 1 * (u141.1 0 47).toInt ≤ (u137.1 0 39).toInt - 1 * (u137.1 0 47).toInt := pk140
                    have pp140 : (u141.1 0 32).toInt = (u137.1 0 32).toInt ∧ (u141.1 0 48).toInt = (u137.1 0 48).toInt := pp140
                    have ph140 : (u137.1 0 33).toInt ≤ (u141.1 0 33).toInt ∧ (u141.1 0 33).toInt ≤ 500 := ph140
                    have kc140 : ∀ j : Nat, (j : Int) < (u137.1 0 12).toInt → (u141.1 11) j = (u137.1 11) j := kc140
                    have ko140 : ∀ j : Nat, (j : Int) < (u137.1 0 15).toInt → (u141.1 13) j = (u137.1 13) j := ko140
                    have kg140 : ∀ j : Nat, (j : Int) < (u137.1 0 15).toInt → (u141.1 14) j = (u137.1 14) j := kg140
                    have n35140 : NI 35 u141 := n35140
                    refine W.widen (k := 0) (n := 0) (by omega) (by omega) ?_
                    refine vx_ret ?_
                    exact W.vret hx hb hr (fun t ht9 hW => ⟨⟨u141, rfl, ⟨(FG.tr (FG.tr (FG.tr (FG.f (FG.rf _) ((v.1 0 47) + (1 : Int32)) (by decide)) (FG.up fr110 (by decide) (by decide))) (FG.up fr138 (by decide) (by decide))) (FG.up fr140 (by decide) (by decide))), (show (v.1 0 47).toInt + 1 ≤ (u141.1 0 47).toInt ∧ (u141.1 0 47).toInt ≤ 1500 by omega), (show (v.1 0 49).toInt ≠ (v.1 0 47).toInt by omega), (show (v.1 0 12).toInt ≤ (u141.1 0 12).toInt ∧ (u141.1 0 12).toInt - 15 * (u141.1 0 47).toInt ≤ (v.1 0 12).toInt - 15 * (v.1 0 47).toInt by omega), (show (v.1 0 15).toInt ≤ (u141.1 0 15).toInt ∧ (u141.1 0 15).toInt - 10 * (u141.1 0 47).toInt ≤ (v.1 0 15).toInt - 10 * (v.1 0 47).toInt by omega), (show (v.1 0 43).toInt ≤ (u141.1 0 43).toInt ∧ (u141.1 0 43).toInt - 15 * (u141.1 0 47).toInt ≤ (v.1 0 43).toInt - 15 * (v.1 0 47).toInt by omega), (show (v.1 0 39).toInt ≤ (u141.1 0 39).toInt ∧ (u141.1 0 39).toInt - 1 * (u141.1 0 47).toInt ≤ (v.1 0 39).toInt - 1 * (v.1 0 47).toInt by omega), (show (u141.1 0 32).toInt = (v.1 0 32).toInt ∧ (u141.1 0 48).toInt = (v.1 0 48).toInt by omega), (show (v.1 0 33).toInt ≤ (u141.1 0 33).toInt ∧ (u141.1 0 33).toInt ≤ 500 by omega), (fun (j9 : Nat) hj9 => (Eq.trans (kc140 j9 (by omega)) (Eq.trans (kc138 j9 (by omega)) (kc110 j9 (by omega))))), (fun (j9 : Nat) hj9 => (Eq.trans (ko140 j9 (by omega)) (Eq.trans (ko138 j9 (by omega)) (ko110 j9 (by omega))))), (fun (j9 : Nat) hj9 => (Eq.trans (kg140 j9 (by omega)) (Eq.trans (kg138 j9 (by omega)) (kg110 j9 (by omega))))), n35140⟩, by rw [ht9]; exact hP, hD⟩, hS.F ht9⟩) hS.2.2 dX13_named_182
                · have z143 : r116.toInt ≠ (-1) := ne_z rfl (show ((-1) : Int32).toInt = -1 by decide) h117
                  refine lv_aload_n hx hb dX13_named_119 rfl (lv_at hl 5 rfl) ?_
                  refine lv_iload hx hb dX13_named_120 (lv_at hl 2 rfl) ?_
                  refine lv_iload hx hb dX13_named_122 (lv_at hl 1 rfl) ?_
                  refine lv_iload_n hx hb dX13_named_124 rfl (lv_at hl 3 rfl) ?_
                  refine lv_iload hx hb dX13_named_125 (lv_at hl 0 rfl) ?_
                  refine cux_v (rx_V (n := 4) (As := [.int r7, .int r52, .int r4, .int r116]) (rest := []) hx hb hml hown ht hKK hFx hP hD hS hA (c_m_sets l n ihE dC dI cI cB cZ cJ cR tb H.size ad N u111 r7 r52 r4 r116 (show 40 ≤ (u111.1 0 48).toInt + (n : Int) by omega) (show 0 ≤ (u111.1 0 47).toInt ∧ (u111.1 0 47).toInt ≤ 1500 by omega) (show 0 ≤ (u111.1 0 48).toInt ∧ (u111.1 0 48).toInt ≤ 40 by omega) (show 0 ≤ (u111.1 0 30).toInt ∧ (u111.1 0 30).toInt ≤ 500 by omega) (show 0 ≤ (u111.1 0 33).toInt ∧ (u111.1 0 33).toInt ≤ 500 by omega) (show 0 ≤ (u111.1 0 32).toInt ∧ (u111.1 0 30).toInt + (u111.1 0 32).toInt ≤ 500 by omega) (show 0 ≤ (u111.1 0 12).toInt ∧ (u111.1 0 12).toInt ≤ 15 * (u111.1 0 47).toInt + 2 by omega) (show 0 ≤ (u111.1 0 15).toInt ∧ (u111.1 0 15).toInt ≤ 10 * (u111.1 0 47).toInt + 0 by omega) (show 0 ≤ (u111.1 0 43).toInt ∧ (u111.1 0 43).toInt ≤ 15 * (u111.1 0 47).toInt + 0 by omega) (show 0 ≤ (u111.1 0 39).toInt ∧ (u111.1 0 39).toInt ≤ 1 * (u111.1 0 47).toInt + 0 by omega) (show 0 ≤ (u111.1 0 27).toInt ∧ (u111.1 0 27).toInt ≤ 60 by omega) (FG.ti (fl := pfl) (al := pal) (FG.tr (FG.f (FG.rf _) ((v.1 0 47) + (1 : Int32)) (by decide)) (FG.up fr110 (by decide) (by decide))) (by decide) (by decide) hT) ((show NI 29 u111 from NI.fr (fl := [12, 15, 32, 33, 39, 43, 44, 45, 47, 48, 49, 50, 51]) (al := [0, 11, 13, 14, 35, 36, 37, 38, 40, 41, 42]) fr110 (by decide) n29)) ((show NI 23 u111 from NI.fr (fl := [12, 15, 32, 33, 39, 43, 44, 45, 47, 48, 49, 50, 51]) (al := [0, 11, 13, 14, 35, 36, 37, 38, 40, 41, 42]) fr110 (by decide) n23)) (n35110) (show 0 ≤ r7.toInt ∨ (0 ≤ r52.toInt ∧ r52.toInt < 60) by omega) (show r4.toInt = 0 ∨ (0 ≤ r52.toInt ∧ r52.toInt < 60) by omega)) tw_136 tw_137 (by decide +kernel) rfl rfl ⟨by show (40 * n + 6) + 1 ≤ 40 * n + 34; omega, by show 8 + (8 + 11) + 28 * (40 * n + 6) ≤ 28 * (40 * n + 34); omega⟩ (List.range (mW ad N cI cZ cJ u111).length) (rg_map _) (mW_nd _ _ _ _ _ _) rfl rfl rfl rfl hl.1 rfl (Nat.le_of_ble_eq_true rfl) dX13_named_127 ⟨Nat.le_of_ble_eq_true rfl, Nat.le_of_ble_eq_true rfl⟩) hP hD hS hA (fun u9 ce9 q9 H locs hx9 hP hD hS hc9 hv9 hf9 => ?_) (fun u145 H locs hw144 hP hD hS => ?_)
                  · exact vx_out (fun x h9 => (hnt x h9).elim) hlocks hc9 hv9 hf9 (fun t9 ht9 hv8 => ⟨u9, (FG.tr (FG.tr (FG.f (FG.rf _) ((v.1 0 47) + (1 : Int32)) (by decide)) (FG.up fr110 (by decide) (by decide))) hx9), ⟨rfl, by rw [ht9]; exact hP, hD⟩, hS.F ht9⟩) hS.2.2 (by omega) (by omega)
                  obtain ⟨fr144, pt144, pb144, pw144, po144, pf144, pk144, pp144, ph144, kc144, ko144, kg144, n35144⟩ := hw144
                  have q144_2 : (u145.1 0 2).toInt = (u111.1 0 2).toInt := congrArg Int32.toInt ((fr144.2.1 2 (by decide)).trans (show u111.1 0 2 = (u111.1 0 2) by rfl))
                  have q144_4 : (u145.1 0 4).toInt = (u111.1 0 4).toInt := congrArg Int32.toInt ((fr144.2.1 4 (by decide)).trans (show u111.1 0 4 = (u111.1 0 4) by rfl))
                  have q144_5 : (u145.1 0 5).toInt = (u111.1 0 5).toInt := congrArg Int32.toInt ((fr144.2.1 5 (by decide)).trans (show u111.1 0 5 = (u111.1 0 5) by rfl))
                  have q144_22 : (u145.1 0 22).toInt = (u111.1 0 22).toInt := congrArg Int32.toInt ((fr144.2.1 22 (by decide)).trans (show u111.1 0 22 = (u111.1 0 22) by rfl))
                  have q144_27 : (u145.1 0 27).toInt = (u111.1 0 27).toInt := congrArg Int32.toInt ((fr144.2.1 27 (by decide)).trans (show u111.1 0 27 = (u111.1 0 27) by rfl))
                  have q144_28 : (u145.1 0 28).toInt = (u111.1 0 28).toInt := congrArg Int32.toInt ((fr144.2.1 28 (by decide)).trans (show u111.1 0 28 = (u111.1 0 28) by rfl))
                  have q144_30 : (u145.1 0 30).toInt = (u111.1 0 30).toInt := congrArg Int32.toInt ((fr144.2.1 30 (by decide)).trans (show u111.1 0 30 = (u111.1 0 30) by rfl))
                  have q144_31 : (u145.1 0 31).toInt = (u111.1 0 31).toInt := congrArg Int32.toInt ((fr144.2.1 31 (by decide)).trans (show u111.1 0 31 = (u111.1 0 31) by rfl))
                  have q144_34 : (u145.1 0 34).toInt = (u111.1 0 34).toInt := congrArg Int32.toInt ((fr144.2.1 34 (by decide)).trans (show u111.1 0 34 = (u111.1 0 34) by rfl))
                  have q144_52 : (u145.1 0 52).toInt = (u111.1 0 52).toInt := congrArg Int32.toInt ((fr144.2.1 52 (by decide)).trans (show u111.1 0 52 = (u111.1 0 52) by rfl))
                  have pt144 : (u111.1 0 47).toInt + 1 ≤ (u145.1 0 47).toInt ∧ (u145.1 0 47).toInt ≤ 1500 := pt144
                  have pb144 : (u111.1 0 49).toInt ≠ (u111.1 0 47).toInt := pb144
                  have pw144 : (u111.1 0 12).toInt ≤ (u145.1 0 12).toInt ∧ (u145.1 0 12).toInt - 15 * (u145.1 0 47).toInt ≤ (u111.1 0 12).toInt - 15 * (u111.1 0 47).toInt := pw144
                  have po144 : (u111.1 0 15).toInt ≤ (u145.1 0 15).toInt ∧ (u145.1 0 15).toInt - 10 * (u145.1 0 47).toInt ≤ (u111.1 0 15).toInt - 10 * (u111.1 0 47).toInt := po144
                  have pf144 : (u111.1 0 43).toInt ≤ (u145.1 0 43).toInt ∧ (u145.1 0 43).toInt - 15 * (u145.1 0 47).toInt ≤ (u111.1 0 43).toInt - 15 * (u111.1 0 47).toInt := pf144
                  have pk144 : (u111.1 0 39).toInt ≤ (u145.1 0 39).toInt ∧ (u145.1 0 39).toInt - 1 * (u145.1 0 47).toInt ≤ (u111.1 0 39).toInt - 1 * (u111.1 0 47).toInt := pk144
                  have pp144 : (u145.1 0 32).toInt = (u111.1 0 32).toInt ∧ (u145.1 0 48).toInt = (u111.1 0 48).toInt := pp144
                  have ph144 : (u111.1 0 33).toInt ≤ (u145.1 0 33).toInt ∧ (u145.1 0 33).toInt ≤ 500 := ph144
                  have kc144 : ∀ j : Nat, (j : Int) < (u111.1 0 12).toInt → (u145.1 11) j = (u111.1 11) j := kc144
                  have ko144 : ∀ j : Nat, (j : Int) < (u111.1 0 15).toInt → (u145.1 13) j = (u111.1 13) j := ko144
                  have kg144 : ∀ j : Nat, (j : Int) < (u111.1 0 15).toInt → (u145.1 14) j = (u111.1 14) j := kg144
                  have n35144 : NI 35 u145 := n35144
                  refine W.widen (k := 0) (n := 0) (by omega) (by omega) ?_
                  refine vx_ret ?_
                  exact W.vret hx hb hr (fun t ht9 hW => ⟨⟨u145, rfl, ⟨(FG.tr (FG.tr (FG.f (FG.rf _) ((v.1 0 47) + (1 : Int32)) (by decide)) (FG.up fr110 (by decide) (by decide))) (FG.up fr144 (by decide) (by decide))), (show (v.1 0 47).toInt + 1 ≤ (u145.1 0 47).toInt ∧ (u145.1 0 47).toInt ≤ 1500 by omega), (show (v.1 0 49).toInt ≠ (v.1 0 47).toInt by omega), (show (v.1 0 12).toInt ≤ (u145.1 0 12).toInt ∧ (u145.1 0 12).toInt - 15 * (u145.1 0 47).toInt ≤ (v.1 0 12).toInt - 15 * (v.1 0 47).toInt by omega), (show (v.1 0 15).toInt ≤ (u145.1 0 15).toInt ∧ (u145.1 0 15).toInt - 10 * (u145.1 0 47).toInt ≤ (v.1 0 15).toInt - 10 * (v.1 0 47).toInt by omega), (show (v.1 0 43).toInt ≤ (u145.1 0 43).toInt ∧ (u145.1 0 43).toInt - 15 * (u145.1 0 47).toInt ≤ (v.1 0 43).toInt - 15 * (v.1 0 47).toInt by omega), (show (v.1 0 39).toInt ≤ (u145.1 0 39).toInt ∧ (u145.1 0 39).toInt - 1 * (u145.1 0 47).toInt ≤ (v.1 0 39).toInt - 1 * (v.1 0 47).toInt by omega), (show (u145.1 0 32).toInt = (v.1 0 32).toInt ∧ (u145.1 0 48).toInt = (v.1 0 48).toInt by omega), (show (v.1 0 33).toInt ≤ (u145.1 0 33).toInt ∧ (u145.1 0 33).toInt ≤ 500 by omega), (fun (j9 : Nat) hj9 => (Eq.trans (kc144 j9 (by omega)) (kc110 j9 (by omega)))), (fun (j9 : Nat) hj9 => (Eq.trans (ko144 j9 (by omega)) (ko110 j9 (by omega)))), (fun (j9 : Nat) hj9 => (Eq.trans (kg144 j9 (by omega)) (kg110 j9 (by omega)))), n35144⟩, by rw [ht9]; exact hP, hD⟩, hS.F ht9⟩) hS.2.2 dX13_named_130
            · have z147 : r4.toInt ≠ 1 := ne_z rfl (show (1 : Int32).toInt = 1 by decide) h101
              refine lv_aload_n hx hb dX13_named_75 rfl (lv_at hl 4 rfl) ?_
              refine lv_iconst (v := 3) hx hb dX13_named_76 (by decide) ?_
              refine lv_aload_n hx hb dX13_named_77 rfl (lv_at hl 4 rfl) ?_
              refine va_get (D := (dC, dI)) (ci := 16) (fs := mF ad v) (v := .int (v.1 0 47)) (C := RX13) (T := TX13) (N := 124) hx hb ht itX13 hown hK hP 0 rfl rfl 47 (by decide) (ht _ tw_24) (fun _ h9 => h9) rfl dX13_named_78 ?_
              refine cu_r (rn_V (n := 2) (As := [.int 3, .int (v.1 0 47)]) (rest := []) hx hb hml hown ht hKK hFx hP hD hS hA (c_m_fail l dC dI cI cB cZ cJ cR tb H.size ad N v (3 : Int32) (v.1 0 47) (show 0 ≤ (v.1 0 47).toInt ∧ (v.1 0 47).toInt < 4002 by omega)) tw_25 tw_26 (by decide +kernel) rfl rfl ⟨by show 0 + 1 ≤ 40 * n + 34; omega, by show 8 + (3 + 11) + 0 ≤ 28 * (40 * n + 34); omega⟩ (List.range (mW ad N cI cZ cJ v).length) (rg_map _) (mW_nd _ _ _ _ _ _) rfl rfl rfl rfl hl.1 rfl (Nat.le_of_ble_eq_true rfl) dX13_named_81 ⟨Nat.le_of_ble_eq_true rfl, Nat.le_of_ble_eq_true rfl⟩) hP hD hS hA (fun u149 H locs hw148 hP hD hS => ?_)
              obtain rfl := hw148
              have hP : va_P (dC, dI) vwCl (mW ad N cI cZ cJ (wA (wA v 0 50 (3 : Int32)) 0 51 ((v.1 7) (v.1 0 47).toNatClampNeg))) H := hP
              have hD : va_D A (mW ad N cI cZ cJ (wA (wA v 0 50 (3 : Int32)) 0 51 ((v.1 7) (v.1 0 47).toNatClampNeg))) := hD
              refine W.widen (k := 0) (n := 0) (by omega) (by omega) ?_
              obtain ⟨ce9, hc9, hv9, hf9⟩ := halt_at hK hP
              refine um_athrow hx hb dX13_named_84 ?_
              exact vx_out (fun x h9 => (hnt x h9).elim) hlocks hc9 hv9 hf9 (fun t9 ht9 hv8 => ⟨(wA (wA v 0 50 (3 : Int32)) 0 51 ((v.1 7) (v.1 0 47).toNatClampNeg)), (FG.f (FG.f (FG.rf _) (3 : Int32) (by decide)) ((v.1 7) (v.1 0 47).toNatClampNeg) (by decide)), ⟨rfl, by rw [ht9]; exact hP, hD⟩, hS.F ht9⟩) hS.2.2 (by omega) (by omega)
set_option maxHeartbeats 16000000 in
set_option maxRecDepth 100000 in
theorem c_m_expression (l : Launch) (n : Nat) (ihE : ∀ m, n = m + 1 → Cx_expression l m) (C : Cx_choice l n) (dC : Nat → ClassId) (dI : Nat → Nat → Nat) (cI cB cZ cJ cR : ClassId) (tb : Nat → Nat) (sz : Nat) (ad : Nat → Nat) (N : Nat) (v : MS)  (zn : 40 ≤ (v.1 0 48).toInt + (n : Int)) (zt : 0 ≤ (v.1 0 47).toInt ∧ (v.1 0 47).toInt ≤ 1500) (zop : 0 ≤ (v.1 0 48).toInt ∧ (v.1 0 48).toInt ≤ 40) (zkn : 0 ≤ (v.1 0 30).toInt ∧ (v.1 0 30).toInt ≤ 500) (zhi : 0 ≤ (v.1 0 33).toInt ∧ (v.1 0 33).toInt ≤ 500) (zs : 0 ≤ (v.1 0 32).toInt ∧ (v.1 0 30).toInt + (v.1 0 32).toInt ≤ 500) (zws : 0 ≤ (v.1 0 12).toInt ∧ (v.1 0 12).toInt ≤ 15 * (v.1 0 47).toInt + 2) (zos : 0 ≤ (v.1 0 15).toInt ∧ (v.1 0 15).toInt ≤ 10 * (v.1 0 47).toInt + 0) (zfs : 0 ≤ (v.1 0 43).toInt ∧ (v.1 0 43).toInt ≤ 15 * (v.1 0 47).toInt + 0) (zcs : 0 ≤ (v.1 0 39).toInt ∧ (v.1 0 39).toInt ≤ 1 * (v.1 0 47).toInt + 0) (zgl : 0 ≤ (v.1 0 27).toInt ∧ (v.1 0 27).toInt ≤ 60) (hT : TI v) (n29 : NI 29 v) (n23 : NI 23 v) (n35 : NI 35 v) : vx_Met l yX13_expression (Cond.code yX13_expression cX13_expression 1 none :: tw_W) ({ frames := 40 * n + 36, cells := 0, slots := 0, locals := 28 * (40 * n + 36) }) (pc_ (dC, dI) (tyS cI cB cZ cJ cR) tb (mW ad N cI cZ cJ v) sz [.ref (ad 0)]) (qv_ (dC, dI) (mW ad N cI cZ cJ v) sz (fun (u : MS) => FG [12, 15, 32, 33, 39, 43, 44, 45, 47, 48, 49, 50, 51] [0, 11, 13, 14, 35, 36, 37, 38, 40, 41, 42] v u ∧ ((v.1 0 47).toInt + 1 ≤ (u.1 0 47).toInt ∧ (u.1 0 47).toInt ≤ 1500) ∧ ((v.1 0 49).toInt ≠ (v.1 0 47).toInt) ∧ ((v.1 0 12).toInt ≤ (u.1 0 12).toInt ∧ (u.1 0 12).toInt - 15 * (u.1 0 47).toInt ≤ (v.1 0 12).toInt - 15 * (v.1 0 47).toInt) ∧ ((v.1 0 15).toInt ≤ (u.1 0 15).toInt ∧ (u.1 0 15).toInt - 10 * (u.1 0 47).toInt ≤ (v.1 0 15).toInt - 10 * (v.1 0 47).toInt) ∧ ((v.1 0 43).toInt ≤ (u.1 0 43).toInt ∧ (u.1 0 43).toInt - 15 * (u.1 0 47).toInt ≤ (v.1 0 43).toInt - 15 * (v.1 0 47).toInt) ∧ ((v.1 0 39).toInt ≤ (u.1 0 39).toInt ∧ (u.1 0 39).toInt - 1 * (u.1 0 47).toInt ≤ (v.1 0 39).toInt - 1 * (v.1 0 47).toInt) ∧ ((u.1 0 32).toInt = (v.1 0 32).toInt ∧ (u.1 0 48).toInt = (v.1 0 48).toInt) ∧ ((v.1 0 33).toInt ≤ (u.1 0 33).toInt ∧ (u.1 0 33).toInt ≤ 500) ∧ (∀ j : Nat, (j : Int) < (v.1 0 12).toInt → (u.1 11) j = (v.1 11) j) ∧ (∀ j : Nat, (j : Int) < (v.1 0 15).toInt → (u.1 13) j = (v.1 13) j) ∧ (∀ j : Nat, (j : Int) < (v.1 0 15).toInt → (u.1 14) j = (v.1 14) j) ∧ (NI 35 u)) (fun (u : MS) => (mW ad N cI cZ cJ u))) (qxm (dC, dI) (mW ad N cI cZ cJ v) sz (fun (u : MS) => (mW ad N cI cZ cJ u)) (fun (u : MS) => Fr v u)) 0 0 (va_A (mW ad N cI cZ cJ v) sz) := by
  refine vx_ofW (cc := cX13_expression) (maxL := 1) (ret := none) (by decide) rfl ?_
  intro p e s m args below meth c s₁ B hml hnt hv
  obtain ⟨rfl, hsz, hP, hKK, hD0, hFx⟩ := hv
  have hK := hKK.1
  have hx := B.exec
  have hb := B.bytes
  have hr := B.returns
  have ht : ∀ w ∈ tw_W, w.before _ s = true := fun w h => atoms_spec (ws := Cond.code yX13_expression cX13_expression 1 none :: tw_W) B.pre w (List.mem_cons_of_mem _ h)
  have hown : s.vm.findClass RX13 = some m.cls := findClass_of_methodNamed B.named
  have hlocks := B.notSynchronized
  subst hsz
  unfold qv_ qxm
  have hD := hD0.self (sz := s.heap.size)
  generalize hAe : va_A (mW ad N cI cZ cJ v) s.heap.size = A at hD hFx ⊢
  have hA : ∀ q : Nat, s.heap.size ≤ q → A q := fun q h => by rw [← hAe]; exact Or.inr h
  have hS : va_S A s.heap s.heap [] := va_S.rf
  have hl := lv_entry ([.ref (ad 0)]) (n := 1) (Nat.le_of_ble_eq_true rfl)
  rw [lg_entry_eq]
  generalize (lg_sl ([.ref (ad 0)]) ++ List.replicate (1 - (lg_sl ([.ref (ad 0)])).length) Slot.unset).toArray = ls at hl ⊢
  have hl : lv_has ls 1 [(0, .ref (ad 0))] := hl
  refine lv_aload_n hx hb dX13_expression_0 rfl (lv_at hl 0 rfl) ?_
  refine va_get (D := (dC, dI)) (ci := 16) (fs := mF ad v) (v := .ref (ad 6)) (C := RX13) (T := TX13) (N := 124) hx hb ht itX13 hown hK hP 0 rfl rfl 6 (by decide) (ht _ tw_23) (fun _ h9 => h9) rfl dX13_expression_1 ?_
  refine lv_aload_n hx hb dX13_expression_4 rfl (lv_at hl 0 rfl) ?_
  refine va_get (D := (dC, dI)) (ci := 16) (fs := mF ad v) (v := .int (v.1 0 47)) (C := RX13) (T := TX13) (N := 124) hx hb ht itX13 hown hK hP 0 rfl rfl 47 (by decide) (ht _ tw_24) (fun _ h9 => h9) rfl dX13_expression_5 ?_
  refine va_iald (D := (dC, dI)) (f := (v.1 6)) hx hb hK hP 3 0 rfl rfl (in_z (a := (v.1 0 47).toInt) rfl (by omega) (by omega)) dX13_expression_8 ?_
  refine lv_iconst (v := 2) hx hb dX13_expression_9 (by decide) ?_
  refine lv_icmp_ne (tgt := 34) hx hb dX13_expression_10 (by decide) (fun h1 => ?_) (fun h1 => ?_)
  · have z2 : ((v.1 6) (v.1 0 47).toNatClampNeg).toInt ≠ 2 := ne_z rfl (show (2 : Int32).toInt = 2 by decide) h1
    refine lv_aload_n hx hb dX13_expression_34 rfl (lv_at hl 0 rfl) ?_
    refine lv_iconst (v := 0) hx hb dX13_expression_35 (by decide) ?_
    refine cux_v (rx_V (n := 1) (As := [.int 0]) (rest := []) hx hb hml hown ht hKK hFx hP hD hS hA (C dC dI cI cB cZ cJ cR tb s.heap.size ad N v (0 : Int32) (show 40 ≤ (v.1 0 48).toInt + (n : Int) by omega) (show 0 ≤ (v.1 0 47).toInt ∧ (v.1 0 47).toInt ≤ 1500 by omega) (show 0 ≤ (v.1 0 48).toInt ∧ (v.1 0 48).toInt ≤ 40 by omega) (show 0 ≤ (v.1 0 30).toInt ∧ (v.1 0 30).toInt ≤ 500 by omega) (show 0 ≤ (v.1 0 33).toInt ∧ (v.1 0 33).toInt ≤ 500 by omega) (show 0 ≤ (v.1 0 32).toInt ∧ (v.1 0 30).toInt + (v.1 0 32).toInt ≤ 500 by omega) (show 0 ≤ (v.1 0 12).toInt ∧ (v.1 0 12).toInt ≤ 15 * (v.1 0 47).toInt + 2 by omega) (show 0 ≤ (v.1 0 15).toInt ∧ (v.1 0 15).toInt ≤ 10 * (v.1 0 47).toInt + 0 by omega) (show 0 ≤ (v.1 0 43).toInt ∧ (v.1 0 43).toInt ≤ 15 * (v.1 0 47).toInt + 0 by omega) (show 0 ≤ (v.1 0 39).toInt ∧ (v.1 0 39).toInt ≤ 1 * (v.1 0 47).toInt + 0 by omega) (show 0 ≤ (v.1 0 27).toInt ∧ (v.1 0 27).toInt ≤ 60 by omega) (FG.ti (fl := pfl) (al := pal) (FG.rf _) (by decide) (by decide) hT) (n29) (n23) (n35)) tw_132 tw_133 (by decide +kernel) rfl rfl ⟨by show (40 * n + 32) + 1 ≤ 40 * n + 36; omega, by show 8 + (6 + 11) + 28 * (40 * n + 32) ≤ 28 * (40 * n + 36); omega⟩ (List.range (mW ad N cI cZ cJ v).length) (rg_map _) (mW_nd _ _ _ _ _ _) rfl rfl rfl rfl hl.1 rfl (Nat.le_of_ble_eq_true rfl) dX13_expression_36 ⟨Nat.le_of_ble_eq_true rfl, Nat.le_of_ble_eq_true rfl⟩) hP hD hS hA (fun u9 ce9 q9 H locs hx9 hP hD hS hc9 hv9 hf9 => ?_) (fun u4 H locs hw3 hP hD hS => ?_)
    · exact vx_out (fun x h9 => (hnt x h9).elim) hlocks hc9 hv9 hf9 (fun t9 ht9 hv8 => ⟨u9, (FG.tr (FG.rf _) hx9), ⟨rfl, by rw [ht9]; exact hP, hD⟩, hS.F ht9⟩) hS.2.2 (by omega) (by omega)
    obtain ⟨fr3, pt3, pb3, pw3, po3, pf3, pk3, pp3, ph3, kc3, ko3, kg3, n353⟩ := hw3
    have q3_2 : (u4.1 0 2).toInt = (v.1 0 2).toInt := congrArg Int32.toInt ((fr3.2.1 2 (by decide)).trans (show v.1 0 2 = (v.1 0 2) by rfl))
    have q3_4 : (u4.1 0 4).toInt = (v.1 0 4).toInt := congrArg Int32.toInt ((fr3.2.1 4 (by decide)).trans (show v.1 0 4 = (v.1 0 4) by rfl))
    have q3_5 : (u4.1 0 5).toInt = (v.1 0 5).toInt := congrArg Int32.toInt ((fr3.2.1 5 (by decide)).trans (show v.1 0 5 = (v.1 0 5) by rfl))
    have q3_22 : (u4.1 0 22).toInt = (v.1 0 22).toInt := congrArg Int32.toInt ((fr3.2.1 22 (by decide)).trans (show v.1 0 22 = (v.1 0 22) by rfl))
    have q3_27 : (u4.1 0 27).toInt = (v.1 0 27).toInt := congrArg Int32.toInt ((fr3.2.1 27 (by decide)).trans (show v.1 0 27 = (v.1 0 27) by rfl))
    have q3_28 : (u4.1 0 28).toInt = (v.1 0 28).toInt := congrArg Int32.toInt ((fr3.2.1 28 (by decide)).trans (show v.1 0 28 = (v.1 0 28) by rfl))
    have q3_30 : (u4.1 0 30).toInt = (v.1 0 30).toInt := congrArg Int32.toInt ((fr3.2.1 30 (by decide)).trans (show v.1 0 30 = (v.1 0 30) by rfl))
    have q3_31 : (u4.1 0 31).toInt = (v.1 0 31).toInt := congrArg Int32.toInt ((fr3.2.1 31 (by decide)).trans (show v.1 0 31 = (v.1 0 31) by rfl))
    have q3_34 : (u4.1 0 34).toInt = (v.1 0 34).toInt := congrArg Int32.toInt ((fr3.2.1 34 (by decide)).trans (show v.1 0 34 = (v.1 0 34) by rfl))
    have q3_52 : (u4.1 0 52).toInt = (v.1 0 52).toInt := congrArg Int32.toInt ((fr3.2.1 52 (by decide)).trans (show v.1 0 52 = (v.1 0 52) by rfl))
    have pb3 : 0 ≠ 0 ∨ ((v.1 0 47).toInt + 1 ≤ (u4.1 0 47).toInt ∧ (v.1 0 49).toInt ≠ (v.1 0 47).toInt) := pb3
    refine W.widen (k := 0) (n := 0) (by omega) (by omega) ?_
    refine vx_ret ?_
    exact W.vret hx hb hr (fun t ht9 hW => ⟨⟨u4, rfl, ⟨(FG.tr (FG.rf _) (FG.up fr3 (by decide) (by decide))), (show (v.1 0 47).toInt + 1 ≤ (u4.1 0 47).toInt ∧ (u4.1 0 47).toInt ≤ 1500 by omega), (show (v.1 0 49).toInt ≠ (v.1 0 47).toInt by omega), (show (v.1 0 12).toInt ≤ (u4.1 0 12).toInt ∧ (u4.1 0 12).toInt - 15 * (u4.1 0 47).toInt ≤ (v.1 0 12).toInt - 15 * (v.1 0 47).toInt by omega), (show (v.1 0 15).toInt ≤ (u4.1 0 15).toInt ∧ (u4.1 0 15).toInt - 10 * (u4.1 0 47).toInt ≤ (v.1 0 15).toInt - 10 * (v.1 0 47).toInt by omega), (show (v.1 0 43).toInt ≤ (u4.1 0 43).toInt ∧ (u4.1 0 43).toInt - 15 * (u4.1 0 47).toInt ≤ (v.1 0 43).toInt - 15 * (v.1 0 47).toInt by omega), (show (v.1 0 39).toInt ≤ (u4.1 0 39).toInt ∧ (u4.1 0 39).toInt - 1 * (u4.1 0 47).toInt ≤ (v.1 0 39).toInt - 1 * (v.1 0 47).toInt by omega), (show (u4.1 0 32).toInt = (v.1 0 32).toInt ∧ (u4.1 0 48).toInt = (v.1 0 48).toInt by omega), (show (v.1 0 33).toInt ≤ (u4.1 0 33).toInt ∧ (u4.1 0 33).toInt ≤ 500 by omega), (fun (j9 : Nat) hj9 => (kc3 j9 (by omega))), (fun (j9 : Nat) hj9 => (ko3 j9 (by omega))), (fun (j9 : Nat) hj9 => (kg3 j9 (by omega))), n353⟩, by rw [ht9]; exact hP, hD⟩, hS.F ht9⟩) hS.2.2 dX13_expression_39
  · have z6 : ((v.1 6) (v.1 0 47).toNatClampNeg).toInt = 2 := eq_z rfl (show (2 : Int32).toInt = 2 by decide) h1
    refine lv_aload_n hx hb dX13_expression_13 rfl (lv_at hl 0 rfl) ?_
    refine lv_aload_n hx hb dX13_expression_14 rfl (lv_at hl 0 rfl) ?_
    refine va_get (D := (dC, dI)) (ci := 16) (fs := mF ad v) (v := .int (v.1 0 47)) (C := RX13) (T := TX13) (N := 124) hx hb ht itX13 hown hK hP 0 rfl rfl 47 (by decide) (ht _ tw_24) (fun _ h9 => h9) rfl dX13_expression_15 ?_
    refine lv_iconst (v := 1) hx hb dX13_expression_18 (by decide) ?_
    refine lv_iadd hx hb dX13_expression_19 ?_
    have z7 : ((v.1 0 47) + (1 : Int32)).toInt = (v.1 0 47).toInt + 1 := add_z rfl (show (1 : Int32).toInt = 1 by decide) (by omega) (by omega)
    refine lv_bipush (v := 40) hx hb dX13_expression_20 (by decide) ?_
    refine cu_i (rn_V (n := 2) (As := [.int ((v.1 0 47) + (1 : Int32)), .int 40]) (rest := []) hx hb hml hown ht hKK hFx hP hD hS hA (c_m_isSign l dC dI cI cB cZ cJ cR tb s.heap.size ad N v ((v.1 0 47) + (1 : Int32)) (40 : Int32) (show 0 ≤ ((v.1 0 47) + (1 : Int32)).toInt ∧ ((v.1 0 47) + (1 : Int32)).toInt < 4002 by omega)) tw_28 tw_29 (by decide +kernel) rfl rfl ⟨by show 0 + 1 ≤ 40 * n + 36; omega, by show 8 + (3 + 11) + 0 ≤ 28 * (40 * n + 36); omega⟩ (List.range (mW ad N cI cZ cJ v).length) (rg_map _) (mW_nd _ _ _ _ _ _) rfl rfl rfl rfl hl.1 rfl (Nat.le_of_ble_eq_true rfl) dX13_expression_22 ⟨Nat.le_of_ble_eq_true rfl, Nat.le_of_ble_eq_true rfl⟩) hP hD hS hA (fun r10 u9 H locs hw8 hP hD hS => ?_)
    obtain ⟨rfl, b8⟩ := hw8
    refine W.widen (k := 0) (n := 0) (by omega) (by omega) ?_
    refine lv_if_ne (tgt := 34) hx hb dX13_expression_25 (by decide) (fun h11 => ?_) (fun h11 => ?_)
    · have z12 : r10.toInt ≠ 0 := ne_z rfl (show (0 : Int32).toInt = 0 by decide) h11
      refine lv_aload_n hx hb dX13_expression_34 rfl (lv_at hl 0 rfl) ?_
      refine lv_iconst (v := 0) hx hb dX13_expression_35 (by decide) ?_
      refine cux_v (rx_V (n := 1) (As := [.int 0]) (rest := []) hx hb hml hown ht hKK hFx hP hD hS hA (C dC dI cI cB cZ cJ cR tb H.size ad N v (0 : Int32) (show 40 ≤ (v.1 0 48).toInt + (n : Int) by omega) (show 0 ≤ (v.1 0 47).toInt ∧ (v.1 0 47).toInt ≤ 1500 by omega) (show 0 ≤ (v.1 0 48).toInt ∧ (v.1 0 48).toInt ≤ 40 by omega) (show 0 ≤ (v.1 0 30).toInt ∧ (v.1 0 30).toInt ≤ 500 by omega) (show 0 ≤ (v.1 0 33).toInt ∧ (v.1 0 33).toInt ≤ 500 by omega) (show 0 ≤ (v.1 0 32).toInt ∧ (v.1 0 30).toInt + (v.1 0 32).toInt ≤ 500 by omega) (show 0 ≤ (v.1 0 12).toInt ∧ (v.1 0 12).toInt ≤ 15 * (v.1 0 47).toInt + 2 by omega) (show 0 ≤ (v.1 0 15).toInt ∧ (v.1 0 15).toInt ≤ 10 * (v.1 0 47).toInt + 0 by omega) (show 0 ≤ (v.1 0 43).toInt ∧ (v.1 0 43).toInt ≤ 15 * (v.1 0 47).toInt + 0 by omega) (show 0 ≤ (v.1 0 39).toInt ∧ (v.1 0 39).toInt ≤ 1 * (v.1 0 47).toInt + 0 by omega) (show 0 ≤ (v.1 0 27).toInt ∧ (v.1 0 27).toInt ≤ 60 by omega) (FG.ti (fl := pfl) (al := pal) (FG.rf _) (by decide) (by decide) hT) (n29) (n23) (n35)) tw_132 tw_133 (by decide +kernel) rfl rfl ⟨by show (40 * n + 32) + 1 ≤ 40 * n + 36; omega, by show 8 + (6 + 11) + 28 * (40 * n + 32) ≤ 28 * (40 * n + 36); omega⟩ (List.range (mW ad N cI cZ cJ v).length) (rg_map _) (mW_nd _ _ _ _ _ _) rfl rfl rfl rfl hl.1 rfl (Nat.le_of_ble_eq_true rfl) dX13_expression_36 ⟨Nat.le_of_ble_eq_true rfl, Nat.le_of_ble_eq_true rfl⟩) hP hD hS hA (fun u9 ce9 q9 H locs hx9 hP hD hS hc9 hv9 hf9 => ?_) (fun u14 H locs hw13 hP hD hS => ?_)
      · exact vx_out (fun x h9 => (hnt x h9).elim) hlocks hc9 hv9 hf9 (fun t9 ht9 hv8 => ⟨u9, (FG.tr (FG.rf _) hx9), ⟨rfl, by rw [ht9]; exact hP, hD⟩, hS.F ht9⟩) hS.2.2 (by omega) (by omega)
      obtain ⟨fr13, pt13, pb13, pw13, po13, pf13, pk13, pp13, ph13, kc13, ko13, kg13, n3513⟩ := hw13
      have q13_2 : (u14.1 0 2).toInt = (v.1 0 2).toInt := congrArg Int32.toInt ((fr13.2.1 2 (by decide)).trans (show v.1 0 2 = (v.1 0 2) by rfl))
      have q13_4 : (u14.1 0 4).toInt = (v.1 0 4).toInt := congrArg Int32.toInt ((fr13.2.1 4 (by decide)).trans (show v.1 0 4 = (v.1 0 4) by rfl))
      have q13_5 : (u14.1 0 5).toInt = (v.1 0 5).toInt := congrArg Int32.toInt ((fr13.2.1 5 (by decide)).trans (show v.1 0 5 = (v.1 0 5) by rfl))
      have q13_22 : (u14.1 0 22).toInt = (v.1 0 22).toInt := congrArg Int32.toInt ((fr13.2.1 22 (by decide)).trans (show v.1 0 22 = (v.1 0 22) by rfl))
      have q13_27 : (u14.1 0 27).toInt = (v.1 0 27).toInt := congrArg Int32.toInt ((fr13.2.1 27 (by decide)).trans (show v.1 0 27 = (v.1 0 27) by rfl))
      have q13_28 : (u14.1 0 28).toInt = (v.1 0 28).toInt := congrArg Int32.toInt ((fr13.2.1 28 (by decide)).trans (show v.1 0 28 = (v.1 0 28) by rfl))
      have q13_30 : (u14.1 0 30).toInt = (v.1 0 30).toInt := congrArg Int32.toInt ((fr13.2.1 30 (by decide)).trans (show v.1 0 30 = (v.1 0 30) by rfl))
      have q13_31 : (u14.1 0 31).toInt = (v.1 0 31).toInt := congrArg Int32.toInt ((fr13.2.1 31 (by decide)).trans (show v.1 0 31 = (v.1 0 31) by rfl))
      have q13_34 : (u14.1 0 34).toInt = (v.1 0 34).toInt := congrArg Int32.toInt ((fr13.2.1 34 (by decide)).trans (show v.1 0 34 = (v.1 0 34) by rfl))
      have q13_52 : (u14.1 0 52).toInt = (v.1 0 52).toInt := congrArg Int32.toInt ((fr13.2.1 52 (by decide)).trans (show v.1 0 52 = (v.1 0 52) by rfl))
      have pb13 : 0 ≠ 0 ∨ ((v.1 0 47).toInt + 1 ≤ (u14.1 0 47).toInt ∧ (v.1 0 49).toInt ≠ (v.1 0 47).toInt) := pb13
      refine W.widen (k := 0) (n := 0) (by omega) (by omega) ?_
      refine vx_ret ?_
      exact W.vret hx hb hr (fun t ht9 hW => ⟨⟨u14, rfl, ⟨(FG.tr (FG.rf _) (FG.up fr13 (by decide) (by decide))), (show (v.1 0 47).toInt + 1 ≤ (u14.1 0 47).toInt ∧ (u14.1 0 47).toInt ≤ 1500 by omega), (show (v.1 0 49).toInt ≠ (v.1 0 47).toInt by omega), (show (v.1 0 12).toInt ≤ (u14.1 0 12).toInt ∧ (u14.1 0 12).toInt - 15 * (u14.1 0 47).toInt ≤ (v.1 0 12).toInt - 15 * (v.1 0 47).toInt by omega), (show (v.1 0 15).toInt ≤ (u14.1 0 15).toInt ∧ (u14.1 0 15).toInt - 10 * (u14.1 0 47).toInt ≤ (v.1 0 15).toInt - 10 * (v.1 0 47).toInt by omega), (show (v.1 0 43).toInt ≤ (u14.1 0 43).toInt ∧ (u14.1 0 43).toInt - 15 * (u14.1 0 47).toInt ≤ (v.1 0 43).toInt - 15 * (v.1 0 47).toInt by omega), (show (v.1 0 39).toInt ≤ (u14.1 0 39).toInt ∧ (u14.1 0 39).toInt - 1 * (u14.1 0 47).toInt ≤ (v.1 0 39).toInt - 1 * (v.1 0 47).toInt by omega), (show (u14.1 0 32).toInt = (v.1 0 32).toInt ∧ (u14.1 0 48).toInt = (v.1 0 48).toInt by omega), (show (v.1 0 33).toInt ≤ (u14.1 0 33).toInt ∧ (u14.1 0 33).toInt ≤ 500 by omega), (fun (j9 : Nat) hj9 => (kc13 j9 (by omega))), (fun (j9 : Nat) hj9 => (ko13 j9 (by omega))), (fun (j9 : Nat) hj9 => (kg13 j9 (by omega))), n3513⟩, by rw [ht9]; exact hP, hD⟩, hS.F ht9⟩) hS.2.2 dX13_expression_39
    · have z16 : r10.toInt = 0 := eq_z rfl (show (0 : Int32).toInt = 0 by decide) h11
      refine lv_aload_n hx hb dX13_expression_28 rfl (lv_at hl 0 rfl) ?_
      refine lv_iconst (v := 1) hx hb dX13_expression_29 (by decide) ?_
      refine cux_v (rx_V (n := 1) (As := [.int 1]) (rest := []) hx hb hml hown ht hKK hFx hP hD hS hA (c_m_named1 l n ihE C dC dI cI cB cZ cJ cR tb H.size ad N v  (show 40 ≤ (v.1 0 48).toInt + (n : Int) by omega) (show 0 ≤ (v.1 0 47).toInt ∧ (v.1 0 47).toInt ≤ 1500 by omega) (show 0 ≤ (v.1 0 48).toInt ∧ (v.1 0 48).toInt ≤ 40 by omega) (show 0 ≤ (v.1 0 30).toInt ∧ (v.1 0 30).toInt ≤ 500 by omega) (show 0 ≤ (v.1 0 33).toInt ∧ (v.1 0 33).toInt ≤ 500 by omega) (show 0 ≤ (v.1 0 32).toInt ∧ (v.1 0 30).toInt + (v.1 0 32).toInt ≤ 500 by omega) (show 0 ≤ (v.1 0 12).toInt ∧ (v.1 0 12).toInt ≤ 15 * (v.1 0 47).toInt + 2 by omega) (show 0 ≤ (v.1 0 15).toInt ∧ (v.1 0 15).toInt ≤ 10 * (v.1 0 47).toInt + 0 by omega) (show 0 ≤ (v.1 0 43).toInt ∧ (v.1 0 43).toInt ≤ 15 * (v.1 0 47).toInt + 0 by omega) (show 0 ≤ (v.1 0 39).toInt ∧ (v.1 0 39).toInt ≤ 1 * (v.1 0 47).toInt + 0 by omega) (show 0 ≤ (v.1 0 27).toInt ∧ (v.1 0 27).toInt ≤ 60 by omega) (FG.ti (fl := pfl) (al := pal) (FG.rf _) (by decide) (by decide) hT) (n29) (n23) (n35)) tw_118 tw_119 (by decide +kernel) rfl rfl ⟨by show (40 * n + 34) + 1 ≤ 40 * n + 36; omega, by show 8 + (7 + 11) + 28 * (40 * n + 34) ≤ 28 * (40 * n + 36); omega⟩ (List.range (mW ad N cI cZ cJ v).length) (rg_map _) (mW_nd _ _ _ _ _ _) rfl rfl rfl rfl hl.1 rfl (Nat.le_of_ble_eq_true rfl) dX13_expression_30 ⟨Nat.le_of_ble_eq_true rfl, Nat.le_of_ble_eq_true rfl⟩) hP hD hS hA (fun u9 ce9 q9 H locs hx9 hP hD hS hc9 hv9 hf9 => ?_) (fun u18 H locs hw17 hP hD hS => ?_)
      · exact vx_out (fun x h9 => (hnt x h9).elim) hlocks hc9 hv9 hf9 (fun t9 ht9 hv8 => ⟨u9, (FG.tr (FG.rf _) hx9), ⟨rfl, by rw [ht9]; exact hP, hD⟩, hS.F ht9⟩) hS.2.2 (by omega) (by omega)
      obtain ⟨fr17, pt17, pb17, pw17, po17, pf17, pk17, pp17, ph17, kc17, ko17, kg17, n3517⟩ := hw17
      have q17_2 : (u18.1 0 2).toInt = (v.1 0 2).toInt := congrArg Int32.toInt ((fr17.2.1 2 (by decide)).trans (show v.1 0 2 = (v.1 0 2) by rfl))
      have q17_4 : (u18.1 0 4).toInt = (v.1 0 4).toInt := congrArg Int32.toInt ((fr17.2.1 4 (by decide)).trans (show v.1 0 4 = (v.1 0 4) by rfl))
      have q17_5 : (u18.1 0 5).toInt = (v.1 0 5).toInt := congrArg Int32.toInt ((fr17.2.1 5 (by decide)).trans (show v.1 0 5 = (v.1 0 5) by rfl))
      have q17_22 : (u18.1 0 22).toInt = (v.1 0 22).toInt := congrArg Int32.toInt ((fr17.2.1 22 (by decide)).trans (show v.1 0 22 = (v.1 0 22) by rfl))
      have q17_27 : (u18.1 0 27).toInt = (v.1 0 27).toInt := congrArg Int32.toInt ((fr17.2.1 27 (by decide)).trans (show v.1 0 27 = (v.1 0 27) by rfl))
      have q17_28 : (u18.1 0 28).toInt = (v.1 0 28).toInt := congrArg Int32.toInt ((fr17.2.1 28 (by decide)).trans (show v.1 0 28 = (v.1 0 28) by rfl))
      have q17_30 : (u18.1 0 30).toInt = (v.1 0 30).toInt := congrArg Int32.toInt ((fr17.2.1 30 (by decide)).trans (show v.1 0 30 = (v.1 0 30) by rfl))
      have q17_31 : (u18.1 0 31).toInt = (v.1 0 31).toInt := congrArg Int32.toInt ((fr17.2.1 31 (by decide)).trans (show v.1 0 31 = (v.1 0 31) by rfl))
      have q17_34 : (u18.1 0 34).toInt = (v.1 0 34).toInt := congrArg Int32.toInt ((fr17.2.1 34 (by decide)).trans (show v.1 0 34 = (v.1 0 34) by rfl))
      have q17_52 : (u18.1 0 52).toInt = (v.1 0 52).toInt := congrArg Int32.toInt ((fr17.2.1 52 (by decide)).trans (show v.1 0 52 = (v.1 0 52) by rfl))
      refine W.widen (k := 0) (n := 0) (by omega) (by omega) ?_
      refine vx_ret ?_
      exact W.vret hx hb hr (fun t ht9 hW => ⟨⟨u18, rfl, ⟨(FG.tr (FG.rf _) (FG.up fr17 (by decide) (by decide))), (show (v.1 0 47).toInt + 1 ≤ (u18.1 0 47).toInt ∧ (u18.1 0 47).toInt ≤ 1500 by omega), (show (v.1 0 49).toInt ≠ (v.1 0 47).toInt by omega), (show (v.1 0 12).toInt ≤ (u18.1 0 12).toInt ∧ (u18.1 0 12).toInt - 15 * (u18.1 0 47).toInt ≤ (v.1 0 12).toInt - 15 * (v.1 0 47).toInt by omega), (show (v.1 0 15).toInt ≤ (u18.1 0 15).toInt ∧ (u18.1 0 15).toInt - 10 * (u18.1 0 47).toInt ≤ (v.1 0 15).toInt - 10 * (v.1 0 47).toInt by omega), (show (v.1 0 43).toInt ≤ (u18.1 0 43).toInt ∧ (u18.1 0 43).toInt - 15 * (u18.1 0 47).toInt ≤ (v.1 0 43).toInt - 15 * (v.1 0 47).toInt by omega), (show (v.1 0 39).toInt ≤ (u18.1 0 39).toInt ∧ (u18.1 0 39).toInt - 1 * (u18.1 0 47).toInt ≤ (v.1 0 39).toInt - 1 * (v.1 0 47).toInt by omega), (show (u18.1 0 32).toInt = (v.1 0 32).toInt ∧ (u18.1 0 48).toInt = (v.1 0 48).toInt by omega), (show (v.1 0 33).toInt ≤ (u18.1 0 33).toInt ∧ (u18.1 0 33).toInt ≤ 500 by omega), (fun (j9 : Nat) hj9 => (kc17 j9 (by omega))), (fun (j9 : Nat) hj9 => (ko17 j9 (by omega))), (fun (j9 : Nat) hj9 => (kg17 j9 (by omega))), n3517⟩, by rw [ht9]; exact hP, hD⟩, hS.F ht9⟩) hS.2.2 dX13_expression_33
theorem cx_all (l : Launch) : ∀ n, Cx_expression l n ∧ Cx_operand l n ∧ Cx_choice l n := by
  intro n
  induction n with
  | zero =>
    have ihE : ∀ m, 0 = m + 1 → Cx_expression l m := fun m h => by omega
    have ihO : ∀ m, 0 = m + 1 → Cx_operand l m := fun m h => by omega
    have ihC : ∀ m, 0 = m + 1 → Cx_choice l m := fun m h => by omega
    have O : Cx_operand l 0 := c_m_operand l 0 ihE ihO
    have J : ∀ kk, Cx_joined l 0 kk := fun kk => by
      induction kk with
      | zero => exact c_m_joined l 0 0 O (fun m h => by omega)
      | succ k ih => exact c_m_joined l 0 (k + 1) O (fun m h => by have e : k = m := by omega
                                                                 subst e; exact ih)
    have C : Cx_choice l 0 := c_m_choice l 0 ihE ihC (J 10)
    exact ⟨c_m_expression l 0 ihE C, O, C⟩
  | succ n ih =>
    have ihE : ∀ m, n + 1 = m + 1 → Cx_expression l m := fun m h => by have e : n = m := by omega
                                                                      subst e; exact ih.1
    have ihO : ∀ m, n + 1 = m + 1 → Cx_operand l m := fun m h => by have e : n = m := by omega
                                                                   subst e; exact ih.2.1
    have ihC : ∀ m, n + 1 = m + 1 → Cx_choice l m := fun m h => by have e : n = m := by omega
                                                                  subst e; exact ih.2.2
    have O : Cx_operand l (n + 1) := c_m_operand l (n + 1) ihE ihO
    have J : ∀ kk, Cx_joined l (n + 1) kk := fun kk => by
      induction kk with
      | zero => exact c_m_joined l (n + 1) 0 O (fun m h => by omega)
      | succ k ih => exact c_m_joined l (n + 1) (k + 1) O (fun m h => by have e : k = m := by omega
                                                                        subst e; exact ih)
    have C : Cx_choice l (n + 1) := c_m_choice l (n + 1) ihE ihC (J 10)
    exact ⟨c_m_expression l (n + 1) ihE C, O, C⟩
