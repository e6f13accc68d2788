theorem dX13_at_0 : decode cX13_at 0 = .ok (.iload_n 1, 1) := by decide +kernel
theorem dX13_at_1 : decode cX13_at 1 = .ok (.aload_n 0, 1) := by decide +kernel
theorem dX13_at_2 : decode cX13_at 2 = .ok (.getfield 18, 3) := by decide +kernel
theorem dX13_at_5 : decode cX13_at 5 = .ok (.if_icmp .ge 12, 3) := by decide +kernel
theorem dX13_at_17 : decode cX13_at 17 = .ok (.iconst 0, 1) := by decide +kernel
theorem dX13_at_18 : decode cX13_at 18 = .ok (.ireturn, 1) := by decide +kernel
theorem dX13_at_8 : decode cX13_at 8 = .ok (.aload_n 0, 1) := by decide +kernel
theorem dX13_at_9 : decode cX13_at 9 = .ok (.getfield 21, 3) := by decide +kernel
theorem dX13_at_12 : decode cX13_at 12 = .ok (.iload_n 1, 1) := by decide +kernel
theorem dX13_at_13 : decode cX13_at 13 = .ok (.iaload, 1) := by decide +kernel
theorem dX13_at_14 : decode cX13_at 14 = .ok (.goto 4, 3) := by decide +kernel
theorem dX13_hex_0 : decode cX13_hex 0 = .ok (.iload_n 0, 1) := by decide +kernel
theorem dX13_hex_1 : decode cX13_hex 1 = .ok (.invokestatic 24, 3) := by decide +kernel
theorem dX13_hex_4 : decode cX13_hex 4 = .ok (.ifCond .eq 10, 3) := by decide +kernel
theorem dX13_hex_14 : decode cX13_hex 14 = .ok (.iload_n 0, 1) := by decide +kernel
theorem dX13_hex_15 : decode cX13_hex 15 = .ok (.bipush 97, 2) := by decide +kernel
theorem dX13_hex_17 : decode cX13_hex 17 = .ok (.if_icmp .lt 19, 3) := by decide +kernel
theorem dX13_hex_36 : decode cX13_hex 36 = .ok (.iload_n 0, 1) := by decide +kernel
theorem dX13_hex_37 : decode cX13_hex 37 = .ok (.bipush 65, 2) := by decide +kernel
theorem dX13_hex_39 : decode cX13_hex 39 = .ok (.if_icmp .lt 19, 3) := by decide +kernel
theorem dX13_hex_58 : decode cX13_hex 58 = .ok (.iconst (-1), 1) := by decide +kernel
theorem dX13_hex_59 : decode cX13_hex 59 = .ok (.ireturn, 1) := by decide +kernel
theorem dX13_hex_42 : decode cX13_hex 42 = .ok (.iload_n 0, 1) := by decide +kernel
theorem dX13_hex_43 : decode cX13_hex 43 = .ok (.bipush 70, 2) := by decide +kernel
theorem dX13_hex_45 : decode cX13_hex 45 = .ok (.if_icmp .gt 13, 3) := by decide +kernel
theorem dX13_hex_48 : decode cX13_hex 48 = .ok (.iload_n 0, 1) := by decide +kernel
theorem dX13_hex_49 : decode cX13_hex 49 = .ok (.bipush 65, 2) := by decide +kernel
theorem dX13_hex_51 : decode cX13_hex 51 = .ok (.isub, 1) := by decide +kernel
theorem dX13_hex_52 : decode cX13_hex 52 = .ok (.bipush 10, 2) := by decide +kernel
theorem dX13_hex_54 : decode cX13_hex 54 = .ok (.iadd, 1) := by decide +kernel
theorem dX13_hex_55 : decode cX13_hex 55 = .ok (.goto 4, 3) := by decide +kernel
theorem dX13_hex_20 : decode cX13_hex 20 = .ok (.iload_n 0, 1) := by decide +kernel
theorem dX13_hex_21 : decode cX13_hex 21 = .ok (.bipush 102, 2) := by decide +kernel
theorem dX13_hex_23 : decode cX13_hex 23 = .ok (.if_icmp .gt 13, 3) := by decide +kernel
theorem dX13_hex_26 : decode cX13_hex 26 = .ok (.iload_n 0, 1) := by decide +kernel
theorem dX13_hex_27 : decode cX13_hex 27 = .ok (.bipush 97, 2) := by decide +kernel
theorem dX13_hex_29 : decode cX13_hex 29 = .ok (.isub, 1) := by decide +kernel
theorem dX13_hex_30 : decode cX13_hex 30 = .ok (.bipush 10, 2) := by decide +kernel
theorem dX13_hex_32 : decode cX13_hex 32 = .ok (.iadd, 1) := by decide +kernel
theorem dX13_hex_33 : decode cX13_hex 33 = .ok (.goto 26, 3) := by decide +kernel
theorem dX13_hex_7 : decode cX13_hex 7 = .ok (.iload_n 0, 1) := by decide +kernel
theorem dX13_hex_8 : decode cX13_hex 8 = .ok (.bipush 48, 2) := by decide +kernel
theorem dX13_hex_10 : decode cX13_hex 10 = .ok (.isub, 1) := by decide +kernel
theorem dX13_hex_11 : decode cX13_hex 11 = .ok (.goto 48, 3) := by decide +kernel
theorem dX13_wordOf_0 : decode cX13_wordOf 0 = .ok (.iconst 0, 1) := by decide +kernel
theorem dX13_wordOf_1 : decode cX13_wordOf 1 = .ok (.istore 4, 2) := by decide +kernel
theorem dX13_wordOf_3 : decode cX13_wordOf 3 = .ok (.iconst 0, 1) := by decide +kernel
theorem dX13_wordOf_4 : decode cX13_wordOf 4 = .ok (.istore 5, 2) := by decide +kernel
theorem dX13_wordOf_6 : decode cX13_wordOf 6 = .ok (.iload 5, 2) := by decide +kernel
theorem dX13_wordOf_8 : decode cX13_wordOf 8 = .ok (.aload_n 1, 1) := by decide +kernel
theorem dX13_wordOf_9 : decode cX13_wordOf 9 = .ok (.invokevirtual 84, 3) := by decide +kernel
theorem tw_279 : (.code yJ0_length_8abf5 cJ0_length_8abf5 1 (some .int) : Cond) ∈ tw_W := tw_in (t8_3 (List.mem_of_getElem? (i := 14) rfl)) rfl
theorem tw_280 : ∀ w ∈ ([.methodLink RX13 84 yJ0_length_8abf5, .instanceMethod yJ0_length_8abf5, .selects "java/lang/String" yJ0_length_8abf5 yJ0_length_8abf5, .initialized "java/lang/String"] : List Cond), w ∈ tw_W := al_c (tw_in (t8_9 (List.mem_of_getElem? (i := 107) rfl)) rfl) (al_c (tw_in (t8_3 (List.mem_of_getElem? (i := 12) rfl)) rfl) (al_c (tw_in (t8_3 (List.mem_of_getElem? (i := 13) rfl)) rfl) (al_c (tw_in (t8_1 (List.mem_of_getElem? (i := 6) rfl)) rfl) al_n)))
theorem dX13_wordOf_12 : decode cX13_wordOf 12 = .ok (.if_icmp .ge 98, 3) := by decide +kernel
theorem dX13_wordOf_110 : decode cX13_wordOf 110 = .ok (.iconst (-1), 1) := by decide +kernel
theorem dX13_wordOf_111 : decode cX13_wordOf 111 = .ok (.ireturn, 1) := by decide +kernel
theorem dX13_wordOf_15 : decode cX13_wordOf 15 = .ok (.iload 5, 2) := by decide +kernel
theorem dX13_wordOf_17 : decode cX13_wordOf 17 = .ok (.istore 6, 2) := by decide +kernel
theorem dX13_wordOf_19 : decode cX13_wordOf 19 = .ok (.iconst 1, 1) := by decide +kernel
theorem dX13_wordOf_20 : decode cX13_wordOf 20 = .ok (.istore 7, 2) := by decide +kernel
theorem dX13_wordOf_22 : decode cX13_wordOf 22 = .ok (.aload_n 1, 1) := by decide +kernel
theorem dX13_wordOf_23 : decode cX13_wordOf 23 = .ok (.iload 6, 2) := by decide +kernel
theorem dX13_wordOf_25 : decode cX13_wordOf 25 = .ok (.invokevirtual 90, 3) := by decide +kernel
theorem tw_281 : (.code yJ0_charAt_5068e cJ0_charAt_5068e 2 (some .char) : Cond) ∈ tw_W := tw_in (t8_3 (List.mem_of_getElem? (i := 27) rfl)) rfl
theorem tw_282 : ∀ w ∈ ([.methodLink RX13 90 yJ0_charAt_5068e, .instanceMethod yJ0_charAt_5068e, .selects "java/lang/String" yJ0_charAt_5068e yJ0_charAt_5068e, .initialized "java/lang/String"] : List Cond), w ∈ tw_W := al_c (tw_in (t8_9 (List.mem_of_getElem? (i := 108) rfl)) rfl) (al_c (tw_in (t8_3 (List.mem_of_getElem? (i := 25) rfl)) rfl) (al_c (tw_in (t8_3 (List.mem_of_getElem? (i := 26) rfl)) rfl) (al_c (tw_in (t8_1 (List.mem_of_getElem? (i := 6) rfl)) rfl) al_n)))
theorem dX13_wordOf_28 : decode cX13_wordOf 28 = .ok (.bipush 32, 2) := by decide +kernel
theorem dX13_wordOf_30 : decode cX13_wordOf 30 = .ok (.if_icmp .eq 51, 3) := by decide +kernel
theorem dX13_wordOf_81 : decode cX13_wordOf 81 = .ok (.iload 7, 2) := by decide +kernel
theorem dX13_wordOf_83 : decode cX13_wordOf 83 = .ok (.ifCond .eq 15, 3) := by decide +kernel
theorem dX13_wordOf_98 : decode cX13_wordOf 98 = .ok (.iinc 4 1, 3) := by decide +kernel
theorem dX13_wordOf_101 : decode cX13_wordOf 101 = .ok (.iload 6, 2) := by decide +kernel
theorem dX13_wordOf_103 : decode cX13_wordOf 103 = .ok (.iconst 1, 1) := by decide +kernel
theorem dX13_wordOf_104 : decode cX13_wordOf 104 = .ok (.iadd, 1) := by decide +kernel
theorem dX13_wordOf_105 : decode cX13_wordOf 105 = .ok (.istore 5, 2) := by decide +kernel
theorem dX13_wordOf_107 : decode cX13_wordOf 107 = .ok (.goto (-101), 3) := by decide +kernel
theorem dX13_wordOf_86 : decode cX13_wordOf 86 = .ok (.iload 6, 2) := by decide +kernel
theorem dX13_wordOf_88 : decode cX13_wordOf 88 = .ok (.iload 5, 2) := by decide +kernel
theorem dX13_wordOf_90 : decode cX13_wordOf 90 = .ok (.isub, 1) := by decide +kernel
theorem dX13_wordOf_91 : decode cX13_wordOf 91 = .ok (.iload_n 3, 1) := by decide +kernel
theorem dX13_wordOf_92 : decode cX13_wordOf 92 = .ok (.if_icmp .ne 6, 3) := by decide +kernel
theorem dX13_wordOf_95 : decode cX13_wordOf 95 = .ok (.iload 4, 2) := by decide +kernel
theorem dX13_wordOf_97 : decode cX13_wordOf 97 = .ok (.ireturn, 1) := by decide +kernel
theorem dX13_wordOf_33 : decode cX13_wordOf 33 = .ok (.iload 7, 2) := by decide +kernel
theorem dX13_wordOf_35 : decode cX13_wordOf 35 = .ok (.ifCond .eq 37, 3) := by decide +kernel
theorem dX13_wordOf_72 : decode cX13_wordOf 72 = .ok (.iconst 0, 1) := by decide +kernel
theorem dX13_wordOf_73 : decode cX13_wordOf 73 = .ok (.istore 7, 2) := by decide +kernel
theorem dX13_wordOf_75 : decode cX13_wordOf 75 = .ok (.iinc 6 1, 3) := by decide +kernel
theorem dX13_wordOf_78 : decode cX13_wordOf 78 = .ok (.goto (-56), 3) := by decide +kernel
theorem dX13_wordOf_38 : decode cX13_wordOf 38 = .ok (.iload 6, 2) := by decide +kernel
theorem dX13_wordOf_40 : decode cX13_wordOf 40 = .ok (.iload 5, 2) := by decide +kernel
theorem dX13_wordOf_42 : decode cX13_wordOf 42 = .ok (.isub, 1) := by decide +kernel
theorem dX13_wordOf_43 : decode cX13_wordOf 43 = .ok (.iload_n 3, 1) := by decide +kernel
theorem dX13_wordOf_44 : decode cX13_wordOf 44 = .ok (.if_icmp .ge 28, 3) := by decide +kernel
theorem dX13_wordOf_47 : decode cX13_wordOf 47 = .ok (.aload_n 0, 1) := by decide +kernel
theorem dX13_wordOf_48 : decode cX13_wordOf 48 = .ok (.getfield 21, 3) := by decide +kernel
theorem dX13_wordOf_51 : decode cX13_wordOf 51 = .ok (.iload_n 2, 1) := by decide +kernel
theorem dX13_wordOf_52 : decode cX13_wordOf 52 = .ok (.iload 6, 2) := by decide +kernel
theorem dX13_wordOf_54 : decode cX13_wordOf 54 = .ok (.iadd, 1) := by decide +kernel
theorem dX13_wordOf_55 : decode cX13_wordOf 55 = .ok (.iload 5, 2) := by decide +kernel
theorem dX13_wordOf_57 : decode cX13_wordOf 57 = .ok (.isub, 1) := by decide +kernel
theorem dX13_wordOf_58 : decode cX13_wordOf 58 = .ok (.iaload, 1) := by decide +kernel
theorem dX13_wordOf_59 : decode cX13_wordOf 59 = .ok (.aload_n 1, 1) := by decide +kernel
theorem dX13_wordOf_60 : decode cX13_wordOf 60 = .ok (.iload 6, 2) := by decide +kernel
theorem dX13_wordOf_62 : decode cX13_wordOf 62 = .ok (.invokevirtual 90, 3) := by decide +kernel
theorem dX13_wordOf_65 : decode cX13_wordOf 65 = .ok (.if_icmp .ne 7, 3) := by decide +kernel
theorem dX13_wordOf_68 : decode cX13_wordOf 68 = .ok (.iconst 1, 1) := by decide +kernel
theorem dX13_wordOf_69 : decode cX13_wordOf 69 = .ok (.goto 4, 3) := by decide +kernel
theorem dX13_sign_0 : decode cX13_sign 0 = .ok (.iconst 0, 1) := by decide +kernel
theorem dX13_sign_1 : decode cX13_sign 1 = .ok (.istore_n 2, 1) := by decide +kernel
theorem dX13_sign_2 : decode cX13_sign 2 = .ok (.iload_n 2, 1) := by decide +kernel
theorem dX13_sign_3 : decode cX13_sign 3 = .ok (.ldc 82, 2) := by decide +kernel
theorem dX13_sign_5 : decode cX13_sign 5 = .ok (.invokevirtual 84, 3) := by decide +kernel
theorem dX13_sign_8 : decode cX13_sign 8 = .ok (.if_icmp .ge 116, 3) := by decide +kernel
theorem dX13_sign_124 : decode cX13_sign 124 = .ok (.iconst 1, 1) := by decide +kernel
theorem dX13_sign_125 : decode cX13_sign 125 = .ok (.ireturn, 1) := by decide +kernel
theorem dX13_sign_11 : decode cX13_sign 11 = .ok (.iload_n 2, 1) := by decide +kernel
theorem dX13_sign_12 : decode cX13_sign 12 = .ok (.istore_n 3, 1) := by decide +kernel
theorem dX13_sign_13 : decode cX13_sign 13 = .ok (.iconst 0, 1) := by decide +kernel
theorem dX13_sign_14 : decode cX13_sign 14 = .ok (.istore 4, 2) := by decide +kernel
theorem dX13_sign_16 : decode cX13_sign 16 = .ok (.iconst 1, 1) := by decide +kernel
theorem dX13_sign_17 : decode cX13_sign 17 = .ok (.istore 5, 2) := by decide +kernel
theorem dX13_sign_19 : decode cX13_sign 19 = .ok (.ldc 82, 2) := by decide +kernel
theorem dX13_sign_21 : decode cX13_sign 21 = .ok (.iload_n 3, 1) := by decide +kernel
theorem dX13_sign_22 : decode cX13_sign 22 = .ok (.invokevirtual 90, 3) := by decide +kernel
theorem dX13_sign_25 : decode cX13_sign 25 = .ok (.bipush 32, 2) := by decide +kernel
theorem dX13_sign_27 : decode cX13_sign 27 = .ok (.if_icmp .eq 57, 3) := by decide +kernel
theorem dX13_sign_84 : decode cX13_sign 84 = .ok (.iload 5, 2) := by decide +kernel
theorem dX13_sign_86 : decode cX13_sign 86 = .ok (.ifCond .eq 31, 3) := by decide +kernel
theorem dX13_sign_117 : decode cX13_sign 117 = .ok (.iload_n 3, 1) := by decide +kernel
theorem dX13_sign_118 : decode cX13_sign 118 = .ok (.iconst 1, 1) := by decide +kernel
theorem dX13_sign_119 : decode cX13_sign 119 = .ok (.iadd, 1) := by decide +kernel
theorem dX13_sign_120 : decode cX13_sign 120 = .ok (.istore_n 2, 1) := by decide +kernel
theorem dX13_sign_121 : decode cX13_sign 121 = .ok (.goto (-119), 3) := by decide +kernel
theorem dX13_sign_89 : decode cX13_sign 89 = .ok (.aload_n 0, 1) := by decide +kernel
theorem dX13_sign_90 : decode cX13_sign 90 = .ok (.getfield 47, 3) := by decide +kernel
theorem dX13_sign_93 : decode cX13_sign 93 = .ok (.aload_n 0, 1) := by decide +kernel
theorem dX13_sign_94 : decode cX13_sign 94 = .ok (.getfield 28, 3) := by decide +kernel
theorem tw_283 : (.fieldLink RX13 28 "PocketCompilerModel" "tokens" "I" : Cond) ∈ tw_W := tw_in (t8_10 (List.mem_of_getElem? (i := 162) rfl)) rfl
theorem dX13_sign_97 : decode cX13_sign 97 = .ok (.iload_n 1, 1) := by decide +kernel
theorem dX13_sign_98 : decode cX13_sign 98 = .ok (.iload_n 3, 1) := by decide +kernel
theorem dX13_sign_99 : decode cX13_sign 99 = .ok (.iadd, 1) := by decide +kernel
theorem dX13_sign_100 : decode cX13_sign 100 = .ok (.iload_n 2, 1) := by decide +kernel
theorem dX13_sign_101 : decode cX13_sign 101 = .ok (.isub, 1) := by decide +kernel
theorem dX13_sign_102 : decode cX13_sign 102 = .ok (.iastore, 1) := by decide +kernel
theorem dX13_sign_103 : decode cX13_sign 103 = .ok (.aload_n 0, 1) := by decide +kernel
theorem dX13_sign_104 : decode cX13_sign 104 = .ok (.getfield 56, 3) := by decide +kernel
theorem dX13_sign_107 : decode cX13_sign 107 = .ok (.aload_n 0, 1) := by decide +kernel
theorem dX13_sign_108 : decode cX13_sign 108 = .ok (.getfield 28, 3) := by decide +kernel
theorem dX13_sign_111 : decode cX13_sign 111 = .ok (.iload 4, 2) := by decide +kernel
theorem dX13_sign_113 : decode cX13_sign 113 = .ok (.i2l, 1) := by decide +kernel
theorem dX13_sign_114 : decode cX13_sign 114 = .ok (.lastore, 1) := by decide +kernel
theorem dX13_sign_115 : decode cX13_sign 115 = .ok (.iconst 5, 1) := by decide +kernel
theorem dX13_sign_116 : decode cX13_sign 116 = .ok (.ireturn, 1) := by decide +kernel
theorem dX13_sign_30 : decode cX13_sign 30 = .ok (.iload 5, 2) := by decide +kernel
theorem dX13_sign_32 : decode cX13_sign 32 = .ok (.ifCond .eq 25, 3) := by decide +kernel
theorem dX13_sign_57 : decode cX13_sign 57 = .ok (.iconst 0, 1) := by decide +kernel
theorem dX13_sign_58 : decode cX13_sign 58 = .ok (.istore 5, 2) := by decide +kernel
theorem dX13_sign_60 : decode cX13_sign 60 = .ok (.iload 4, 2) := by decide +kernel
theorem dX13_sign_62 : decode cX13_sign 62 = .ok (.ldc 82, 2) := by decide +kernel
theorem dX13_sign_64 : decode cX13_sign 64 = .ok (.iload_n 3, 1) := by decide +kernel
theorem dX13_sign_65 : decode cX13_sign 65 = .ok (.invokevirtual 90, 3) := by decide +kernel
theorem dX13_sign_68 : decode cX13_sign 68 = .ok (.bipush 8, 2) := by decide +kernel
theorem dX13_sign_70 : decode cX13_sign 70 = .ok (.iload_n 3, 1) := by decide +kernel
theorem dX13_sign_71 : decode cX13_sign 71 = .ok (.iload_n 2, 1) := by decide +kernel
theorem dX13_sign_72 : decode cX13_sign 72 = .ok (.isub, 1) := by decide +kernel
theorem dX13_sign_73 : decode cX13_sign 73 = .ok (.imul, 1) := by decide +kernel
theorem dX13_sign_74 : decode cX13_sign 74 = .ok (.ishl, 1) := by decide +kernel
theorem dX13_sign_75 : decode cX13_sign 75 = .ok (.ior, 1) := by decide +kernel
theorem dX13_sign_76 : decode cX13_sign 76 = .ok (.istore 4, 2) := by decide +kernel
theorem dX13_sign_78 : decode cX13_sign 78 = .ok (.iinc 3 1, 3) := by decide +kernel
theorem dX13_sign_81 : decode cX13_sign 81 = .ok (.goto (-62), 3) := by decide +kernel
theorem dX13_sign_35 : decode cX13_sign 35 = .ok (.aload_n 0, 1) := by decide +kernel
theorem dX13_sign_36 : decode cX13_sign 36 = .ok (.iload_n 1, 1) := by decide +kernel
theorem dX13_sign_37 : decode cX13_sign 37 = .ok (.iload_n 3, 1) := by decide +kernel
theorem dX13_sign_38 : decode cX13_sign 38 = .ok (.iadd, 1) := by decide +kernel
theorem dX13_sign_39 : decode cX13_sign 39 = .ok (.iload_n 2, 1) := by decide +kernel
theorem dX13_sign_40 : decode cX13_sign 40 = .ok (.isub, 1) := by decide +kernel
theorem dX13_sign_41 : decode cX13_sign 41 = .ok (.invokevirtual 34, 3) := by decide +kernel
theorem tw_284 : (.code yX13_at cX13_at 2 (some .int) : Cond) ∈ tw_W := tw_in (t8_9 (List.mem_of_getElem? (i := 81) rfl)) rfl
theorem tw_285 : ∀ w ∈ ([.methodLink RX13 34 yX13_at, .instanceMethod yX13_at, .selects RX13 yX13_at yX13_at, .initialized RX13] : List Cond), w ∈ tw_W := al_c (tw_in (t8_9 (List.mem_of_getElem? (i := 78) rfl)) rfl) (al_c (tw_in (t8_9 (List.mem_of_getElem? (i := 80) rfl)) rfl) (al_c (tw_in (t7_7 (q := (yX13_at, 124)) (List.mem_of_getElem? (i := 14) rfl)) rfl) (al_c (tw_in (t8_1 (List.mem_of_getElem? (i := 23) rfl)) rfl) al_n)))
theorem dX13_sign_44 : decode cX13_sign 44 = .ok (.ldc 82, 2) := by decide +kernel
theorem dX13_sign_46 : decode cX13_sign 46 = .ok (.iload_n 3, 1) := by decide +kernel
theorem dX13_sign_47 : decode cX13_sign 47 = .ok (.invokevirtual 90, 3) := by decide +kernel
theorem dX13_sign_50 : decode cX13_sign 50 = .ok (.if_icmp .ne 7, 3) := by decide +kernel
theorem dX13_sign_53 : decode cX13_sign 53 = .ok (.iconst 1, 1) := by decide +kernel
theorem dX13_sign_54 : decode cX13_sign 54 = .ok (.goto 4, 3) := by decide +kernel
theorem om_8581ff2a44 {x0 x1 : Int} : ((0 : Int) = 0 ∨ x0 < x1) := by omega
theorem om_e4afbc3aeb {x0 : Int} (h0 : 0 ≤ x0) : 0 ≤ x0 := by omega
theorem om_0fb9c6b683 {x0 x1 x2 : Int} (h0 : x0 < x1) : (x2 = 0 ∨ x0 < x1) := by omega
set_option maxHeartbeats 4000000 in
set_option maxRecDepth 100000 in
theorem c_m_at (l : Launch) (dC : Nat → ClassId) (dI : Nat → Nat → Nat) (cI cB cZ cJ cR : ClassId) (tb : Nat → Nat) (sz : Nat) (ad : Nat → Nat) (N : Nat) (v : MS) (pa : Int32) (zsz : 0 ≤ (v.1 0 4).toInt ∧ (v.1 0 4).toInt ≤ 4000) (za : 0 ≤ pa.toInt) : Met l yX13_at (Cond.code yX13_at cX13_at 2 (some .int) :: tw_W) ({ frames := 0, cells := 0, slots := 0, locals := 0 }) (pc_ (dC, dI) (tyS cI cB cZ cJ cR) tb (mW ad N cI cZ cJ v) sz [.ref (ad 0), .int pa]) (qi_ (dC, dI) (mW ad N cI cZ cJ v) sz (fun (r : Int32) (u : MS) => v = u ∧ (Q_m_at v pa r) ∧ ((r.toInt = 0 ∨ pa.toInt < (v.1 0 4).toInt))) (fun (u : MS) => (mW ad N cI cZ cJ u))) 0 0 (va_A (mW ad N cI cZ cJ v) sz) := by
  refine Met.ofW (cc := cX13_at) (maxL := 2) (ret := (some .int)) (by decide) rfl ?_
  intro p e s m args below meth c s₁ B hml hv
  obtain ⟨rfl, hsz, hP, hKK, hD0, hFx⟩ := hv
  have hK := hKK.1
  have hx := B.exec
  have hb := B.bytes
  have hr := B.returns
  have ht : ∀ w ∈ tw_W, w.before _ s = true := fun w h => atoms_spec (ws := Cond.code yX13_at cX13_at 2 (some .int) :: tw_W) B.pre w (List.mem_cons_of_mem _ h)
  have hown : s.vm.findClass RX13 = some m.cls := findClass_of_methodNamed B.named
  have hlocks := B.notSynchronized
  subst hsz
  unfold qi_
  have hD := hD0.self (sz := s.heap.size)
  generalize hAe : va_A (mW ad N cI cZ cJ v) s.heap.size = A at hD hFx ⊢
  have hA : ∀ q : Nat, s.heap.size ≤ q → A q := fun q h => by rw [← hAe]; exact Or.inr h
  have hS : va_S A s.heap s.heap [] := va_S.rf
  have hl := lv_entry ([.ref (ad 0), .int pa]) (n := 2) (Nat.le_of_ble_eq_true rfl)
  rw [lg_entry_eq]
  generalize (lg_sl ([.ref (ad 0), .int pa]) ++ List.replicate (2 - (lg_sl ([.ref (ad 0), .int pa])).length) Slot.unset).toArray = ls at hl ⊢
  have hl : lv_has ls 2 [(0, .ref (ad 0)), (1, .int pa)] := hl
  refine lv_iload_n hx hb dX13_at_0 rfl (lv_at hl 1 rfl) ?_
  refine lv_aload_n hx hb dX13_at_1 rfl (lv_at hl 0 rfl) ?_
  refine va_get (D := (dC, dI)) (ci := 16) (fs := mF ad v) (v := .int (v.1 0 4)) (C := RX13) (T := TX13) (N := 124) hx hb ht itX13 hown hK hP 0 rfl rfl 4 (by decide) (ht _ tw_271) (fun _ h9 => h9) rfl dX13_at_2 ?_
  refine lv_icmp_ge (tgt := 17) hx hb dX13_at_5 (by decide) (fun h1 => ?_) (fun h1 => ?_)
  · have z2 : (v.1 0 4).toInt ≤ pa.toInt := le_z rfl rfl h1
    refine lv_iconst (v := 0) hx hb dX13_at_17 (by decide) ?_
    exact W.iret (v := 0) hx hb hr (fun t ht9 hW => ⟨⟨0, v, rfl, ⟨rfl, ⟨zsz, za, (Or.inl ⟨z2, rfl⟩)⟩, om_8581ff2a44⟩, by rw [ht9]; exact hP, hD⟩, hS.F ht9⟩) hS.2.2 dX13_at_18
  · have z3 : pa.toInt < (v.1 0 4).toInt := nle_z rfl rfl h1
    refine lv_aload_n hx hb dX13_at_8 rfl (lv_at hl 0 rfl) ?_
    refine va_get (D := (dC, dI)) (ci := 16) (fs := mF ad v) (v := .ref (ad 3)) (C := RX13) (T := TX13) (N := 124) hx hb ht itX13 hown hK hP 0 rfl rfl 3 (by decide) (ht _ tw_43) (fun _ h9 => h9) rfl dX13_at_9 ?_
    refine lv_iload_n hx hb dX13_at_12 rfl (lv_at hl 1 rfl) ?_
    refine va_iald (D := (dC, dI)) (f := (v.1 3)) hx hb hK hP 2 0 rfl rfl (in_y (a := pa.toInt) (b := 4000) rfl (om_e4afbc3aeb za) (om_9e26038ac1 zsz z3) rfl) dX13_at_13 ?_
    refine lv_goto (tgt := 18) hx hb dX13_at_14 (by decide) ?_
    exact W.iret (v := ((v.1 3) pa.toNatClampNeg)) hx hb hr (fun t ht9 hW => ⟨⟨((v.1 3) pa.toNatClampNeg), v, rfl, ⟨rfl, ⟨zsz, za, (Or.inr (⟨z3, rfl⟩))⟩, (om_0fb9c6b683 z3)⟩, by rw [ht9]; exact hP, hD⟩, hS.F ht9⟩) hS.2.2 dX13_at_18
theorem om_31b19318e3 {x0 : Int} : (-1 : Int) < 0 ∨ x0 ≠ 0 := by omega
theorem om_60f31c015d {x0 : Int} (h0 : (65 : Int) ≤ x0) : -2147483648 ≤ x0 - (65 : Int) := by omega
theorem om_6d58d28ea6 {x0 : Int} (h0 : x0 ≤ (70 : Int)) : x0 - (65 : Int) < 2147483648 := by omega
theorem om_f8f82cab90 {x0 : Int} (h0 : (65 : Int) ≤ x0) : -2147483648 ≤ (x0 - (65 : Int)) + (10 : Int) := by omega
theorem om_f834ec4c13 {x0 : Int} (h0 : x0 ≤ (70 : Int)) : (x0 - (65 : Int)) + (10 : Int) < 2147483648 := by omega
theorem om_f1c8befdb0 {x0 x1 : Int} (h0 : (65 : Int) ≤ x0) : x1 < 0 ∨ x0 ≠ 0 := by omega
theorem om_7b8ef6797d {x0 : Int} (h0 : (102 : Int) < x0) (h1 : x0 < (65 : Int)) : False := by omega
theorem om_ce52802e31 {x0 : Int} (h0 : (102 : Int) < x0) (h1 : x0 ≤ (70 : Int)) : False := by omega
theorem om_1c7caf910d {x0 : Int} (h0 : (97 : Int) ≤ x0) : -2147483648 ≤ x0 - (97 : Int) := by omega
theorem om_0e772cc716 {x0 : Int} (h0 : x0 ≤ (102 : Int)) : x0 - (97 : Int) < 2147483648 := by omega
theorem om_35e69abe49 {x0 : Int} (h0 : (97 : Int) ≤ x0) : -2147483648 ≤ (x0 - (97 : Int)) + (10 : Int) := by omega
theorem om_898542f2cc {x0 : Int} (h0 : x0 ≤ (102 : Int)) : (x0 - (97 : Int)) + (10 : Int) < 2147483648 := by omega
theorem om_068bc00870 {x0 x1 : Int} (h0 : (97 : Int) ≤ x0) : x1 < 0 ∨ x0 ≠ 0 := by omega
theorem om_c396aa37b7 {x0 x1 x2 : Int} (h0 : (x0 = 0 ∨ x1 ≠ 0)) (h1 : x0 ≠ (0 : Int)) : x2 < 0 ∨ x1 ≠ 0 := by omega
set_option maxHeartbeats 4000000 in
set_option maxRecDepth 100000 in
theorem c_m_hex (l : Launch) (dC : Nat → ClassId) (dI : Nat → Nat → Nat) (cI cB cZ cJ cR : ClassId) (tb : Nat → Nat) (sz : Nat) (pa : Int32)  : Met l yX13_hex (Cond.code yX13_hex cX13_hex 1 (some .int) :: tw_W) ({ frames := 1, cells := 0, slots := 0, locals := 20 }) (pc_ (dC, dI) (tyS cI cB cZ cJ cR) tb [] sz [.int pa]) (qi_ (dC, dI) [] sz (fun (r : Int32) (u : Unit) => (Q_m_hex pa r) ∧ (r.toInt < 0 ∨ pa.toInt ≠ 0)) (fun (u : Unit) => [])) 0 0 (va_A [] sz) := by
  refine Met.ofW (cc := cX13_hex) (maxL := 1) (ret := (some .int)) (by decide) rfl ?_
  intro p e s m args below meth c s₁ B hml hv
  obtain ⟨rfl, hsz, hP, hKK, hD0, hFx⟩ := hv
  have hK := hKK.1
  have hx := B.exec
  have hb := B.bytes
  have hr := B.returns
  have ht : ∀ w ∈ tw_W, w.before _ s = true := fun w h => atoms_spec (ws := Cond.code yX13_hex cX13_hex 1 (some .int) :: tw_W) B.pre w (List.mem_cons_of_mem _ h)
  have hown : s.vm.findClass RX13 = some m.cls := findClass_of_methodNamed B.named
  have hlocks := B.notSynchronized
  subst hsz
  unfold qi_
  have hD := hD0.self (sz := s.heap.size)
  generalize hAe : va_A [] s.heap.size = A at hD hFx ⊢
  have hA : ∀ q : Nat, s.heap.size ≤ q → A q := fun q h => by rw [← hAe]; exact Or.inr h
  have hS : va_S A s.heap s.heap [] := va_S.rf
  have hl := lv_entry ([.int pa]) (n := 1) (Nat.le_of_ble_eq_true rfl)
  rw [lg_entry_eq]
  generalize (lg_sl ([.int pa]) ++ List.replicate (1 - (lg_sl ([.int pa])).length) Slot.unset).toArray = ls at hl ⊢
  have hl : lv_has ls 1 [(0, .int pa)] := hl
  refine lv_iload_n hx hb dX13_hex_0 rfl (lv_at hl 0 rfl) ?_
  refine cu_i (rn_S (n := 1) (As := [.int pa]) (rest := []) hx hb hml hown ht hKK hFx hP hD hS hA (c_m_isDigit l dC dI cI cB cZ cJ cR tb s.heap.size pa ) tw_4 tw_5 (by decide +kernel) rfl rfl ⟨Nat.le_of_ble_eq_true rfl, Nat.le_of_ble_eq_true rfl⟩ [] rfl rfl rfl hl.1 rfl (Nat.le_of_ble_eq_true rfl) dX13_hex_1 ⟨Nat.le_of_ble_eq_true rfl, Nat.le_of_ble_eq_true rfl⟩) hP hD hS hA (fun r3 _ H locs hw1 hP hD hS => ?_)
  obtain ⟨ex1, b1, c1⟩ := hw1
  have b1 : (r3 = 0 ∨ r3 = 1) := b1
  have c1 : (r3.toInt = 0 ∨ pa.toInt ≠ 0) := c1
  refine W.widen (k := 0) (n := 0) (Nat.le_refl _) (Nat.le_refl _) ?_
  refine lv_if_eq (tgt := 14) hx hb dX13_hex_4 (by decide) (fun h4 => ?_) (fun h4 => ?_)
  · have z5 : r3.toInt = (0 : Int) := eq_z rfl (show (0 : Int32).toInt = (0 : Int) by decide) h4
    refine lv_iload_n hx hb dX13_hex_14 rfl (lv_at hl 0 rfl) ?_
    refine lv_bipush (v := 97) hx hb dX13_hex_15 (by decide) ?_
    refine lv_icmp_lt (tgt := 36) hx hb dX13_hex_17 (by decide) (fun h6 => ?_) (fun h6 => ?_)
    · have z7 : pa.toInt < (97 : Int) := lt_z rfl (show (97 : Int32).toInt = (97 : Int) by decide) h6
      refine lv_iload_n hx hb dX13_hex_36 rfl (lv_at hl 0 rfl) ?_
      refine lv_bipush (v := 65) hx hb dX13_hex_37 (by decide) ?_
      refine lv_icmp_lt (tgt := 58) hx hb dX13_hex_39 (by decide) (fun h8 => ?_) (fun h8 => ?_)
      · have z9 : pa.toInt < (65 : Int) := lt_z rfl (show (65 : Int32).toInt = (65 : Int) by decide) h8
        refine lv_iconst (v := -1) hx hb dX13_hex_58 (by decide) ?_
        exact W.iret (v := (-1)) hx hb hr (fun t ht9 hW => ⟨⟨(-1), (), rfl, ⟨⟨r3, ex1, ⟨b1, c1⟩, (Or.inl ⟨z5, (Or.inl ⟨z7, (Or.inl ⟨z9, rfl⟩)⟩)⟩)⟩, om_31b19318e3⟩, by rw [ht9]; exact hP, hD⟩, hS.F ht9⟩) hS.2.2 dX13_hex_59
      · have z10 : (65 : Int) ≤ pa.toInt := nlt_z rfl (show (65 : Int32).toInt = (65 : Int) by decide) h8
        refine lv_iload_n hx hb dX13_hex_42 rfl (lv_at hl 0 rfl) ?_
        refine lv_bipush (v := 70) hx hb dX13_hex_43 (by decide) ?_
        refine lv_icmp_gt (tgt := 58) hx hb dX13_hex_45 (by decide) (fun h11 => ?_) (fun h11 => ?_)
        · have z12 : (70 : Int) < pa.toInt := lt_z (show (70 : Int32).toInt = (70 : Int) by decide) rfl h11
          refine lv_iconst (v := -1) hx hb dX13_hex_58 (by decide) ?_
          exact W.iret (v := (-1)) hx hb hr (fun t ht9 hW => ⟨⟨(-1), (), rfl, ⟨⟨r3, ex1, ⟨b1, c1⟩, (Or.inl ⟨z5, (Or.inl ⟨z7, (Or.inr (⟨z10, (Or.inl ⟨z12, rfl⟩)⟩))⟩)⟩)⟩, om_31b19318e3⟩, by rw [ht9]; exact hP, hD⟩, hS.F ht9⟩) hS.2.2 dX13_hex_59
        · have z13 : pa.toInt ≤ (70 : Int) := nlt_z (show (70 : Int32).toInt = (70 : Int) by decide) rfl h11
          refine lv_iload_n hx hb dX13_hex_48 rfl (lv_at hl 0 rfl) ?_
          refine lv_bipush (v := 65) hx hb dX13_hex_49 (by decide) ?_
          refine lv_isub hx hb dX13_hex_51 ?_
          have z14 : (pa - (65 : Int32)).toInt = pa.toInt - (65 : Int) := sub_z rfl (show (65 : Int32).toInt = (65 : Int) by decide) (om_60f31c015d z10) (om_6d58d28ea6 z13)
          refine lv_bipush (v := 10) hx hb dX13_hex_52 (by decide) ?_
          refine lv_iadd hx hb dX13_hex_54 ?_
          have z15 : ((pa - (65 : Int32)) + (10 : Int32)).toInt = (pa.toInt - (65 : Int)) + (10 : Int) := add_z z14 (show (10 : Int32).toInt = (10 : Int) by decide) (om_f8f82cab90 z10) (om_f834ec4c13 z13)
          refine lv_goto (tgt := 59) hx hb dX13_hex_55 (by decide) ?_
          exact W.iret (v := ((pa - (65 : Int32)) + (10 : Int32))) hx hb hr (fun t ht9 hW => ⟨⟨((pa - (65 : Int32)) + (10 : Int32)), (), rfl, ⟨⟨r3, ex1, ⟨b1, c1⟩, (Or.inl ⟨z5, (Or.inl ⟨z7, (Or.inr (⟨z10, (Or.inr (⟨z13, rfl⟩))⟩))⟩)⟩)⟩, (om_f1c8befdb0 z10)⟩, by rw [ht9]; exact hP, hD⟩, hS.F ht9⟩) hS.2.2 dX13_hex_59
    · have z16 : (97 : Int) ≤ pa.toInt := nlt_z rfl (show (97 : Int32).toInt = (97 : Int) by decide) h6
      refine lv_iload_n hx hb dX13_hex_20 rfl (lv_at hl 0 rfl) ?_
      refine lv_bipush (v := 102) hx hb dX13_hex_21 (by decide) ?_
      refine lv_icmp_gt (tgt := 36) hx hb dX13_hex_23 (by decide) (fun h17 => ?_) (fun h17 => ?_)
      · have z18 : (102 : Int) < pa.toInt := lt_z (show (102 : Int32).toInt = (102 : Int) by decide) rfl h17
        refine lv_iload_n hx hb dX13_hex_36 rfl (lv_at hl 0 rfl) ?_
        refine lv_bipush (v := 65) hx hb dX13_hex_37 (by decide) ?_
        refine lv_icmp_lt (tgt := 58) hx hb dX13_hex_39 (by decide) (fun h19 => ?_) (fun h19 => ?_)
        · have z20 : pa.toInt < (65 : Int) := lt_z rfl (show (65 : Int32).toInt = (65 : Int) by decide) h19
          exact False.elim (om_7b8ef6797d z18 z20)
        · have z21 : (65 : Int) ≤ pa.toInt := nlt_z rfl (show (65 : Int32).toInt = (65 : Int) by decide) h19
          refine lv_iload_n hx hb dX13_hex_42 rfl (lv_at hl 0 rfl) ?_
          refine lv_bipush (v := 70) hx hb dX13_hex_43 (by decide) ?_
          refine lv_icmp_gt (tgt := 58) hx hb dX13_hex_45 (by decide) (fun h22 => ?_) (fun h22 => ?_)
          · have z23 : (70 : Int) < pa.toInt := lt_z (show (70 : Int32).toInt = (70 : Int) by decide) rfl h22
            refine lv_iconst (v := -1) hx hb dX13_hex_58 (by decide) ?_
            exact W.iret (v := (-1)) hx hb hr (fun t ht9 hW => ⟨⟨(-1), (), rfl, ⟨⟨r3, ex1, ⟨b1, c1⟩, (Or.inl ⟨z5, (Or.inr (⟨z16, (Or.inl ⟨z18, z21, z23, rfl⟩)⟩))⟩)⟩, om_31b19318e3⟩, by rw [ht9]; exact hP, hD⟩, hS.F ht9⟩) hS.2.2 dX13_hex_59
          · have z24 : pa.toInt ≤ (70 : Int) := nlt_z (show (70 : Int32).toInt = (70 : Int) by decide) rfl h22
            exact False.elim (om_ce52802e31 z18 z24)
      · have z25 : pa.toInt ≤ (102 : Int) := nlt_z (show (102 : Int32).toInt = (102 : Int) by decide) rfl h17
        refine lv_iload_n hx hb dX13_hex_26 rfl (lv_at hl 0 rfl) ?_
        refine lv_bipush (v := 97) hx hb dX13_hex_27 (by decide) ?_
        refine lv_isub hx hb dX13_hex_29 ?_
        have z26 : (pa - (97 : Int32)).toInt = pa.toInt - (97 : Int) := sub_z rfl (show (97 : Int32).toInt = (97 : Int) by decide) (om_1c7caf910d z16) (om_0e772cc716 z25)
        refine lv_bipush (v := 10) hx hb dX13_hex_30 (by decide) ?_
        refine lv_iadd hx hb dX13_hex_32 ?_
        have z27 : ((pa - (97 : Int32)) + (10 : Int32)).toInt = (pa.toInt - (97 : Int)) + (10 : Int) := add_z z26 (show (10 : Int32).toInt = (10 : Int) by decide) (om_35e69abe49 z16) (om_898542f2cc z25)
        refine lv_goto (tgt := 59) hx hb dX13_hex_33 (by decide) ?_
        exact W.iret (v := ((pa - (97 : Int32)) + (10 : Int32))) hx hb hr (fun t ht9 hW => ⟨⟨((pa - (97 : Int32)) + (10 : Int32)), (), rfl, ⟨⟨r3, ex1, ⟨b1, c1⟩, (Or.inl ⟨z5, (Or.inr (⟨z16, (Or.inr (⟨z25, rfl⟩))⟩))⟩)⟩, (om_068bc00870 z16)⟩, by rw [ht9]; exact hP, hD⟩, hS.F ht9⟩) hS.2.2 dX13_hex_59
  · have z28 : r3.toInt ≠ (0 : Int) := ne_z rfl (show (0 : Int32).toInt = (0 : Int) by decide) h4
    refine lv_iload_n hx hb dX13_hex_7 rfl (lv_at hl 0 rfl) ?_
    refine lv_bipush (v := 48) hx hb dX13_hex_8 (by decide) ?_
    refine lv_isub hx hb dX13_hex_10 ?_
    refine lv_goto (tgt := 59) hx hb dX13_hex_11 (by decide) ?_
    exact W.iret (v := (pa - (48 : Int32))) hx hb hr (fun t ht9 hW => ⟨⟨(pa - (48 : Int32)), (), rfl, ⟨⟨r3, ex1, ⟨b1, c1⟩, (Or.inr (⟨z28, rfl⟩))⟩, (om_c396aa37b7 c1 z28)⟩, by rw [ht9]; exact hP, hD⟩, hS.F ht9⟩) hS.2.2 dX13_hex_59
theorem om_2478180ca2 : 0 ≤ (0 : Int) ∧ (0 : Int) ≤ 55 := by omega
theorem om_e0122e728a : 0 ≤ (0 : Int) ∧ (0 : Int) ≤ (0 : Int) := by omega
theorem om_cb587b93bb {x0 : Int} (h0 : x0 < (55 : Int)) : x0 ≤ x0 ∧ x0 ≤ 54 := by omega
theorem om_2cf5a8cf4a {x0 x1 : Int} (h0 : 0 ≤ x0 ∧ x0 ≤ 55) (h1 : x0 ≤ x1 ∧ x1 ≤ 54) : 0 ≤ x1 := by omega
theorem om_c58abcf66a {x0 x1 : Int} (h0 : x0 ≤ x1 ∧ x1 ≤ 54) : x1 < 55 := by omega
theorem om_b6f19289fa {x0 x1 : Int} (h0 : 0 ≤ x0 ∧ x0 ≤ x1) (h1 : x1 < (55 : Int)) : x0 + (1 : Int) < 2147483648 := by omega
theorem om_2fe7016b01 {x0 x1 : Int} (h0 : 0 ≤ x0 ∧ x0 ≤ 55) (h1 : x0 ≤ x1 ∧ x1 ≤ 54) : -2147483648 ≤ x1 + (1 : Int) := by omega
theorem om_67e3919934 {x0 x1 : Int} (h0 : x0 ≤ x1 ∧ x1 ≤ 54) : x1 + (1 : Int) < 2147483648 := by omega
theorem om_6d79b7d21d {x0 x1 x2 : Int} (h0 : 0 ≤ x0 ∧ x0 ≤ 55) (h1 : x0 ≤ x1 ∧ x1 ≤ 54) (h2 : x2 = x1 + (1 : Int)) : 0 ≤ x2 ∧ x2 ≤ 55 := by omega
theorem om_b61affa217 {x0 x1 x2 x3 x4 : Int} (h0 : 0 ≤ x0 ∧ x0 ≤ x1) (h1 : x1 ≤ x2 ∧ x2 ≤ 54) (h2 : x3 = x0 + (1 : Int)) (h3 : x4 = x2 + (1 : Int)) : 0 ≤ x3 ∧ x3 ≤ x4 := by omega
theorem om_7d4c3d17fd {x0 x1 x2 : Int} (h0 : x0 ≤ x1 ∧ x1 ≤ 54) (h1 : x2 = x1 + (1 : Int)) : 55 - x2 < 55 - x0 := by omega
theorem om_46e50d4a42 {x0 : Int} (h0 : x0 < (55 : Int)) : 0 < 55 - x0 := by omega
theorem om_8b1b90dbf1 {x0 x1 : Int} (h0 : x0 ≤ x1 ∧ x1 ≤ 54) : -2147483648 ≤ x1 - x0 := by omega
theorem om_c1379e6ae2 {x0 x1 : Int} (h0 : 0 ≤ x0 ∧ x0 ≤ 55) (h1 : x0 ≤ x1 ∧ x1 ≤ 54) : x1 - x0 < 2147483648 := by omega
theorem om_d4e245461f {x0 x1 x2 x3 : Int} (h0 : x0 ≤ x1 ∧ x1 ≤ 54) (h1 : (32 ≤ x2 ∧ x2 ≤ 255) ∧ (x2 = 32 ∨ x1 ≠ 54)) (h2 : x2 ≠ (32 : Int)) (h3 : x3 = x1 + (1 : Int)) : x0 ≤ x3 ∧ x3 ≤ 54 := by omega
theorem om_eb43361e58 {x0 x1 : Int} (h0 : x0 = x1 + (1 : Int)) : 54 - x0 < 54 - x1 := by omega
theorem om_c9bb84fe6d {x0 x1 x2 : Int} (h0 : x0 ≤ x1 ∧ x1 ≤ 54) (h1 : (32 ≤ x2 ∧ x2 ≤ 255) ∧ (x2 = 32 ∨ x1 ≠ 54)) (h2 : x2 ≠ (32 : Int)) : 0 < 54 - x1 := by omega
theorem om_2f2713a236 {x0 x1 x2 x3 : Int} (h0 : 0 ≤ x0 ∧ 0 ≤ x1 ∧ x0 + x1 ≤ 4000) (h1 : 0 ≤ x2 ∧ x2 ≤ 55) (h2 : x2 ≤ x3 ∧ x3 ≤ 54) : -2147483648 ≤ x0 + x3 := by omega
theorem om_eacb72da22 {x0 x1 x2 x3 : Int} (h0 : 0 ≤ x0 ∧ 0 ≤ x1 ∧ x0 + x1 ≤ 4000) (h1 : x2 < (55 : Int)) (h2 : (x3 - x2) < x1) : x0 + x3 < 2147483648 := by omega
theorem om_651d4d8e1e {x0 x1 x2 x3 : Int} (h0 : 0 ≤ x0 ∧ 0 ≤ x1 ∧ x0 + x1 ≤ 4000) (h1 : x2 ≤ x3 ∧ x3 ≤ 54) : -2147483648 ≤ (x0 + x3) - x2 := by omega
theorem om_cd0f632fa0 {x0 x1 x2 x3 : Int} (h0 : 0 ≤ x0 ∧ 0 ≤ x1 ∧ x0 + x1 ≤ 4000) (h1 : (x2 - x3) < x1) : (x0 + x2) - x3 < 2147483648 := by omega
theorem om_2a6b7c3b27 {x0 x1 x2 x3 : Int} (h0 : 0 ≤ x0 ∧ 0 ≤ x1 ∧ x0 + x1 ≤ 4000) (h1 : x2 ≤ x3 ∧ x3 ≤ 54) : 0 ≤ ((x0 + x3) - x2) := by omega
theorem om_4a9820a742 {x0 x1 x2 x3 : Int} (h0 : 0 ≤ x0 ∧ 0 ≤ x1 ∧ x0 + x1 ≤ 4000) (h1 : (x2 - x3) < x1) : ((x0 + x2) - x3) < 4000 := by omega
set_option maxHeartbeats 4000000 in
set_option maxRecDepth 100000 in
theorem c_m_wordOf (l : Launch) (dC : Nat → ClassId) (dI : Nat → Nat → Nat) (cI cB cZ cJ cR : ClassId) (tb : Nat → Nat) (sz : Nat) (ad : Nat → Nat) (N : Nat) (v : MS) (pa : Int32) (pb : Int32) (za : 0 ≤ pa.toInt ∧ 0 ≤ pb.toInt ∧ pa.toInt + pb.toInt ≤ 4000) : Met l yX13_wordOf (Cond.code yX13_wordOf cX13_wordOf 8 (some .int) :: tw_W) ({ frames := 4, cells := 0, slots := 0, locals := 85 }) (pc_ (dC, dI) (tyS cI cB cZ cJ cR) tb (mW ad N cI cZ cJ v) sz [.ref (ad 0), .ref (tb (100 + 23)), .int pa, .int pb]) (qi_ (dC, dI) (mW ad N cI cZ cJ v) sz (fun (r : Int32) (u : MS) => v = u ∧ (Q_m_wordOf v pa pb r)) (fun (u : MS) => (mW ad N cI cZ cJ u))) 0 0 (va_A (mW ad N cI cZ cJ v) sz) := by
  refine Met.ofW (cc := cX13_wordOf) (maxL := 8) (ret := (some .int)) (by decide) rfl ?_
  intro p e s m args below meth c s₁ B hml hv
  obtain ⟨rfl, hsz, hP, hKK, hD0, hFx⟩ := hv
  have hK := hKK.1
  have hx := B.exec
  have hb := B.bytes
  have hr := B.returns
  have ht : ∀ w ∈ tw_W, w.before _ s = true := fun w h => atoms_spec (ws := Cond.code yX13_wordOf cX13_wordOf 8 (some .int) :: tw_W) B.pre w (List.mem_cons_of_mem _ h)
  have hown : s.vm.findClass RX13 = some m.cls := findClass_of_methodNamed B.named
  have hlocks := B.notSynchronized
  subst hsz
  unfold qi_
  have hD := hD0.self (sz := s.heap.size)
  generalize hAe : va_A (mW ad N cI cZ cJ v) s.heap.size = A at hD hFx ⊢
  have hA : ∀ q : Nat, s.heap.size ≤ q → A q := fun q h => by rw [← hAe]; exact Or.inr h
  have hS : va_S A s.heap s.heap [] := va_S.rf
  have hl := lv_entry ([.ref (ad 0), .ref (tb (100 + 23)), .int pa, .int pb]) (n := 8) (Nat.le_of_ble_eq_true rfl)
  rw [lg_entry_eq]
  generalize (lg_sl ([.ref (ad 0), .ref (tb (100 + 23)), .int pa, .int pb]) ++ List.replicate (8 - (lg_sl ([.ref (ad 0), .ref (tb (100 + 23)), .int pa, .int pb])).length) Slot.unset).toArray = ls at hl ⊢
  have hl : lv_has ls 8 [(0, .ref (ad 0)), (1, .ref (tb (100 + 23))), (2, .int pa), (3, .int pb)] := hl
  refine lv_iconst (v := 0) hx hb dX13_wordOf_0 (by decide) ?_
  refine lv_istore (lv' := [(4, .int 0), (0, .ref (ad 0)), (1, .ref (tb (100 + 23))), (2, .int pa), (3, .int pb)]) hx hb dX13_wordOf_1 hl (by decide) rfl (fun ls hl => ?_)
  refine lv_iconst (v := 0) hx hb dX13_wordOf_3 (by decide) ?_
  refine lv_istore (lv' := [(5, .int 0), (4, .int 0), (0, .ref (ad 0)), (1, .ref (tb (100 + 23))), (2, .int pa), (3, .int pb)]) hx hb dX13_wordOf_4 hl (by decide) rfl (fun ls hl => ?_)
  refine lpm_ (X := Int32 × Int32) (P := (fun (x9 : Int32 × Int32) (H : Heap) (locs : List Loc) (ls : Array Slot) => (0 ≤ x9.2.toInt ∧ x9.2.toInt ≤ 55) ∧ (0 ≤ x9.1.toInt ∧ x9.1.toInt ≤ x9.2.toInt) ∧ (RT (Q_m_wordOf_L0 v pa pb) (0, 0) (x9.1, x9.2)) ∧ va_P (dC, dI) vwCl (mW ad N cI cZ cJ v) H ∧ va_D A (mW ad N cI cZ cJ v) ∧ va_S A s.heap H locs ∧ lv_has ls 8 [(5, .int x9.2), (4, .int x9.1), (0, .ref (ad 0)), (1, .ref (tb (100 + 23))), (2, .int pa), (3, .int pb)])) (fun x9 => (55 - x9.2.toInt).toNat) 6 (fun x9 H locs ls hh ih6 => ?_) (0, 0) _ _ _ ⟨(show 0 ≤ (0 : Int) ∧ (0 : Int) ≤ 55 from om_2478180ca2), (show 0 ≤ (0 : Int) ∧ (0 : Int) ≤ (0 : Int) from om_e0122e728a), RT.rf, hP, hD, hS, lv_sub hl [0, 1, 2, 3, 4, 5] rfl⟩
  obtain ⟨wh, ia⟩ := x9
  obtain ⟨f1L6, f2L6, exL6, hP, hD, hS, hl⟩ := hh
  have f1L6 : 0 ≤ ia.toInt ∧ ia.toInt ≤ 55 := f1L6
  have f2L6 : 0 ≤ wh.toInt ∧ wh.toInt ≤ ia.toInt := f2L6
  have hl : lv_has ls 8 [(5, .int ia), (4, .int wh), (0, .ref (ad 0)), (1, .ref (tb (100 + 23))), (2, .int pa), (3, .int pb)] := hl
  refine lv_iload hx hb dX13_wordOf_6 (lv_at hl 0 rfl) ?_
  refine lv_aload_n hx hb dX13_wordOf_8 rfl (lv_at hl 3 rfl) ?_
  refine cu_s (mW_nd _ _ _ _ _ _) (rn_VS (n := 0) (As := []) (rest := [.int ia]) hx hb hml hown ht hKK hFx hP hD hS hA (i := 23) (by decide) (c_sh_strLen l dC dI cI cB cZ cJ cR tb H.size 23 (by decide)) tw_279 tw_280 (by decide +kernel) rfl rfl ⟨Nat.le_of_ble_eq_true rfl, Nat.le_of_ble_eq_true rfl⟩ [] rfl (by decide) rfl hl.1 rfl (Nat.le_of_ble_eq_true rfl) dX13_wordOf_9 ⟨Nat.le_of_ble_eq_true rfl, Nat.le_of_ble_eq_true rfl⟩) hP hD hS hA (fun r2 H locs hw1 hP hD hS => ?_)
  obtain rfl := hw1
  refine tp_i (y := 55) (by decide) ?_
  refine W.widen (k := 0) (n := 0) (Nat.le_refl _) (Nat.le_refl _) ?_
  refine lv_icmp_ge (tgt := 110) hx hb dX13_wordOf_12 (by decide) (fun h3 => ?_) (fun h3 => ?_)
  · have z4 : (55 : Int) ≤ ia.toInt := le_z (show (55 : Int32).toInt = (55 : Int) by decide) rfl h3
    refine lv_iconst (v := -1) hx hb dX13_wordOf_110 (by decide) ?_
    exact W.iret (v := (-1)) hx hb hr (fun t ht9 hW => ⟨⟨(-1), v, rfl, ⟨rfl, ⟨za, wh, ia, exL6, f1L6, f2L6, (Or.inl ⟨z4, rfl⟩)⟩⟩, by rw [ht9]; exact hP, hD⟩, hS.F ht9⟩) hS.2.2 dX13_wordOf_111
  · have z5 : ia.toInt < (55 : Int) := nle_z (show (55 : Int32).toInt = (55 : Int) by decide) rfl h3
    refine lv_iload hx hb dX13_wordOf_15 (lv_at hl 0 rfl) ?_
    refine lv_istore (lv' := [(6, .int ia), (5, .int ia), (4, .int wh), (0, .ref (ad 0)), (1, .ref (tb (100 + 23))), (2, .int pa), (3, .int pb)]) hx hb dX13_wordOf_17 hl (by decide) rfl (fun ls hl => ?_)
    refine lv_iconst (v := 1) hx hb dX13_wordOf_19 (by decide) ?_
    refine lv_istore (lv' := [(7, .int 1), (6, .int ia), (5, .int ia), (4, .int wh), (0, .ref (ad 0)), (1, .ref (tb (100 + 23))), (2, .int pa), (3, .int pb)]) hx hb dX13_wordOf_20 hl (by decide) rfl (fun ls hl => ?_)
    refine lpm_ (X := Int32 × Int32) (P := (fun (x9 : Int32 × Int32) (H : Heap) (locs : List Loc) (ls : Array Slot) => (ia.toInt ≤ x9.1.toInt ∧ x9.1.toInt ≤ 54) ∧ (RT (Q_m_wordOf_L1 v pa pb ia) (ia, 1) (x9.1, x9.2)) ∧ va_P (dC, dI) vwCl (mW ad N cI cZ cJ v) H ∧ va_D A (mW ad N cI cZ cJ v) ∧ va_S A s.heap H locs ∧ lv_has ls 8 [(7, .int x9.2), (6, .int x9.1), (5, .int ia), (4, .int wh), (0, .ref (ad 0)), (1, .ref (tb (100 + 23))), (2, .int pa), (3, .int pb)])) (fun x9 => (54 - x9.1.toInt).toNat) 22 (fun x9 H locs ls hh ih22 => ?_) (ia, 1) _ _ _ ⟨(show ia.toInt ≤ ia.toInt ∧ ia.toInt ≤ 54 from (om_cb587b93bb z5)), RT.rf, hP, hD, hS, lv_sub hl [0, 1, 2, 3, 4, 5, 6, 7] rfl⟩
    obtain ⟨ja, sa⟩ := x9
    obtain ⟨f1L22, exL22, hP, hD, hS, hl⟩ := hh
    have f1L22 : ia.toInt ≤ ja.toInt ∧ ja.toInt ≤ 54 := f1L22
    have hl : lv_has ls 8 [(7, .int sa), (6, .int ja), (5, .int ia), (4, .int wh), (0, .ref (ad 0)), (1, .ref (tb (100 + 23))), (2, .int pa), (3, .int pb)] := hl
    refine lv_aload_n hx hb dX13_wordOf_22 rfl (lv_at hl 5 rfl) ?_
    refine lv_iload hx hb dX13_wordOf_23 (lv_at hl 1 rfl) ?_
    refine tp_i (y := nI ja.toNatClampNeg) (nI_self (om_2cf5a8cf4a f1L6 f1L22)) ?_
    refine cu_s (mW_nd _ _ _ _ _ _) (rn_VS (n := 1) (As := [.int (nI ja.toNatClampNeg)]) (rest := []) hx hb hml hown ht hKK hFx hP hD hS hA (i := 23) (by decide) (c_sh_charAt l dC dI cI cB cZ cJ cR tb H.size 23 ja.toNatClampNeg (by decide) (by have h9 := nat_z (x := ja) (om_2cf5a8cf4a f1L6 f1L22); have h8 : ja.toInt < 55 := (om_c58abcf66a f1L22); show ja.toNatClampNeg < 55; omega) (by decide)) tw_281 tw_282 (by decide +kernel) rfl rfl ⟨Nat.le_of_ble_eq_true rfl, Nat.le_of_ble_eq_true rfl⟩ [] rfl (by decide) rfl hl.1 rfl (Nat.le_of_ble_eq_true rfl) dX13_wordOf_25 ⟨Nat.le_of_ble_eq_true rfl, Nat.le_of_ble_eq_true rfl⟩) hP hD hS hA (fun r7 H locs hw6 hP hD hS => ?_)
    have z8 : (32 ≤ r7.toInt ∧ r7.toInt ≤ 255) ∧ (r7.toInt = 32 ∨ ja.toInt ≠ 54) := ch_l23 (by have h9 := nat_z (x := ja) (om_2cf5a8cf4a f1L6 f1L22); have h8 : ja.toInt < 55 := (om_c58abcf66a f1L22); show ja.toNatClampNeg < 55; omega) hw6
    refine W.widen (k := 0) (n := 0) (Nat.le_refl _) (Nat.le_refl _) ?_
    refine lv_bipush (v := 32) hx hb dX13_wordOf_28 (by decide) ?_
    refine lv_icmp_eq (tgt := 81) hx hb dX13_wordOf_30 (by decide) (fun h9 => ?_) (fun h9 => ?_)
    · have z10 : r7.toInt = (32 : Int) := eq_z rfl (show (32 : Int32).toInt = (32 : Int) by decide) h9
      refine lv_iload hx hb dX13_wordOf_81 (lv_at hl 0 rfl) ?_
      refine lv_if_eq (tgt := 98) hx hb dX13_wordOf_83 (by decide) (fun h11 => ?_) (fun h11 => ?_)
      · have z12 : sa.toInt = (0 : Int) := eq_z rfl (show (0 : Int32).toInt = (0 : Int) by decide) h11
        refine lv_iinc (v := (wh + (1 : Int32))) (lv' := [(4, .int (wh + (1 : Int32))), (7, .int sa), (6, .int ja), (5, .int ia), (0, .ref (ad 0)), (1, .ref (tb (100 + 23))), (2, .int pa), (3, .int pb)]) hx hb dX13_wordOf_98 hl (k := 3) rfl (rfl) (by decide) rfl (fun ls hl => ?_)
        have z13 : (wh + (1 : Int32)).toInt = wh.toInt + (1 : Int) := add_z rfl (show (1 : Int32).toInt = (1 : Int) by decide) (om_a8944c555e f2L6) (om_b6f19289fa f2L6 z5)
        refine lv_iload hx hb dX13_wordOf_101 (lv_at hl 2 rfl) ?_
        refine lv_iconst (v := 1) hx hb dX13_wordOf_103 (by decide) ?_
        refine lv_iadd hx hb dX13_wordOf_104 ?_
        have z14 : (ja + (1 : Int32)).toInt = ja.toInt + (1 : Int) := add_z rfl (show (1 : Int32).toInt = (1 : Int) by decide) (om_2fe7016b01 f1L6 f1L22) (om_67e3919934 f1L22)
        refine lv_istore (lv' := [(5, .int (ja + (1 : Int32))), (4, .int (wh + (1 : Int32))), (7, .int sa), (6, .int ja), (0, .ref (ad 0)), (1, .ref (tb (100 + 23))), (2, .int pa), (3, .int pb)]) hx hb dX13_wordOf_105 hl (by decide) rfl (fun ls hl => ?_)
        refine lv_goto (tgt := 6) hx hb dX13_wordOf_107 (by decide) ?_
        exact ih6 ((wh + (1 : Int32)), (ja + (1 : Int32))) _ _ _ (show (55 - (ja + (1 : Int32)).toInt).toNat < (55 - ia.toInt).toNat from tn_z (om_7d4c3d17fd f1L22 z14) (om_46e50d4a42 z5)) ⟨(show 0 ≤ (ja + (1 : Int32)).toInt ∧ (ja + (1 : Int32)).toInt ≤ 55 from (om_6d79b7d21d f1L6 f1L22 z14)), (show 0 ≤ (wh + (1 : Int32)).toInt ∧ (wh + (1 : Int32)).toInt ≤ (ja + (1 : Int32)).toInt from (om_b61affa217 f2L6 f1L22 z13 z14)), (RT.st exL6 ⟨f1L6, f2L6, z5, ja, sa, exL22, f1L22, r7, hw6, z10, (Or.inl ⟨z12, rfl⟩)⟩), hP, hD, hS, lv_sub hl [0, 1, 4, 5, 6, 7] rfl⟩
      · have z15 : sa.toInt ≠ (0 : Int) := ne_z rfl (show (0 : Int32).toInt = (0 : Int) by decide) h11
        refine lv_iload hx hb dX13_wordOf_86 (lv_at hl 1 rfl) ?_
        refine lv_iload hx hb dX13_wordOf_88 (lv_at hl 2 rfl) ?_
        refine lv_isub hx hb dX13_wordOf_90 ?_
        have z16 : (ja - ia).toInt = ja.toInt - ia.toInt := sub_z rfl rfl (om_8b1b90dbf1 f1L22) (om_c1379e6ae2 f1L6 f1L22)
        refine lv_iload_n hx hb dX13_wordOf_91 rfl (lv_at hl 7 rfl) ?_
        refine lv_icmp_ne (tgt := 98) hx hb dX13_wordOf_92 (by decide) (fun h17 => ?_) (fun h17 => ?_)
        · have z18 : (ja.toInt - ia.toInt) ≠ pb.toInt := ne_z z16 rfl h17
          refine lv_iinc (v := (wh + (1 : Int32))) (lv' := [(4, .int (wh + (1 : Int32))), (7, .int sa), (6, .int ja), (5, .int ia), (0, .ref (ad 0)), (1, .ref (tb (100 + 23))), (2, .int pa), (3, .int pb)]) hx hb dX13_wordOf_98 hl (k := 3) rfl (rfl) (by decide) rfl (fun ls hl => ?_)
          have z19 : (wh + (1 : Int32)).toInt = wh.toInt + (1 : Int) := add_z rfl (show (1 : Int32).toInt = (1 : Int) by decide) (om_a8944c555e f2L6) (om_b6f19289fa f2L6 z5)
          refine lv_iload hx hb dX13_wordOf_101 (lv_at hl 2 rfl) ?_
          refine lv_iconst (v := 1) hx hb dX13_wordOf_103 (by decide) ?_
          refine lv_iadd hx hb dX13_wordOf_104 ?_
          have z20 : (ja + (1 : Int32)).toInt = ja.toInt + (1 : Int) := add_z rfl (show (1 : Int32).toInt = (1 : Int) by decide) (om_2fe7016b01 f1L6 f1L22) (om_67e3919934 f1L22)
          refine lv_istore (lv' := [(5, .int (ja + (1 : Int32))), (4, .int (wh + (1 : Int32))), (7, .int sa), (6, .int ja), (0, .ref (ad 0)), (1, .ref (tb (100 + 23))), (2, .int pa), (3, .int pb)]) hx hb dX13_wordOf_105 hl (by decide) rfl (fun ls hl => ?_)
          refine lv_goto (tgt := 6) hx hb dX13_wordOf_107 (by decide) ?_
          exact ih6 ((wh + (1 : Int32)), (ja + (1 : Int32))) _ _ _ (show (55 - (ja + (1 : Int32)).toInt).toNat < (55 - ia.toInt).toNat from tn_z (om_7d4c3d17fd f1L22 z20) (om_46e50d4a42 z5)) ⟨(show 0 ≤ (ja + (1 : Int32)).toInt ∧ (ja + (1 : Int32)).toInt ≤ 55 from (om_6d79b7d21d f1L6 f1L22 z20)), (show 0 ≤ (wh + (1 : Int32)).toInt ∧ (wh + (1 : Int32)).toInt ≤ (ja + (1 : Int32)).toInt from (om_b61affa217 f2L6 f1L22 z19 z20)), (RT.st exL6 ⟨f1L6, f2L6, z5, ja, sa, exL22, f1L22, r7, hw6, z10, (Or.inr (⟨z15, z18, rfl⟩))⟩), hP, hD, hS, lv_sub hl [0, 1, 4, 5, 6, 7] rfl⟩
        · have z21 : (ja.toInt - ia.toInt) = pb.toInt := eq_z z16 rfl h17
          refine lv_iload hx hb dX13_wordOf_95 (lv_at hl 3 rfl) ?_
          exact W.iret (v := wh) hx hb hr (fun t ht9 hW => ⟨⟨wh, v, rfl, ⟨rfl, ⟨za, wh, ia, exL6, f1L6, f2L6, (Or.inr (⟨z5, ja, sa, exL22, f1L22, r7, hw6, z10, z15, z21, rfl⟩))⟩⟩, by rw [ht9]; exact hP, hD⟩, hS.F ht9⟩) hS.2.2 dX13_wordOf_97
    · have z22 : r7.toInt ≠ (32 : Int) := ne_z rfl (show (32 : Int32).toInt = (32 : Int) by decide) h9
      refine lv_iload hx hb dX13_wordOf_33 (lv_at hl 0 rfl) ?_
      refine lv_if_eq (tgt := 72) hx hb dX13_wordOf_35 (by decide) (fun h23 => ?_) (fun h23 => ?_)
      · have z24 : sa.toInt = (0 : Int) := eq_z rfl (show (0 : Int32).toInt = (0 : Int) by decide) h23
        refine lv_iconst (v := 0) hx hb dX13_wordOf_72 (by decide) ?_
        refine lv_istore (lv' := [(7, .int 0), (6, .int ja), (5, .int ia), (4, .int wh), (0, .ref (ad 0)), (1, .ref (tb (100 + 23))), (2, .int pa), (3, .int pb)]) hx hb dX13_wordOf_73 hl (by decide) rfl (fun ls hl => ?_)
        refine lv_iinc (v := (ja + (1 : Int32))) (lv' := [(6, .int (ja + (1 : Int32))), (7, .int 0), (5, .int ia), (4, .int wh), (0, .ref (ad 0)), (1, .ref (tb (100 + 23))), (2, .int pa), (3, .int pb)]) hx hb dX13_wordOf_75 hl (k := 1) rfl (rfl) (by decide) rfl (fun ls hl => ?_)
        have z25 : (ja + (1 : Int32)).toInt = ja.toInt + (1 : Int) := add_z rfl (show (1 : Int32).toInt = (1 : Int) by decide) (om_2fe7016b01 f1L6 f1L22) (om_67e3919934 f1L22)
        refine lv_goto (tgt := 22) hx hb dX13_wordOf_78 (by decide) ?_
        exact ih22 ((ja + (1 : Int32)), 0) _ _ _ (show (54 - (ja + (1 : Int32)).toInt).toNat < (54 - ja.toInt).toNat from tn_z (om_eb43361e58 z25) (om_c9bb84fe6d f1L22 z8 z22)) ⟨(show ia.toInt ≤ (ja + (1 : Int32)).toInt ∧ (ja + (1 : Int32)).toInt ≤ 54 from (om_d4e245461f f1L22 z8 z22 z25)), (RT.st exL22 ⟨f1L22, r7, hw6, z22, (Or.inl ⟨z24, rfl⟩)⟩), hP, hD, hS, lv_sub hl [1, 0, 2, 3, 4, 5, 6, 7] rfl⟩
      · have z26 : sa.toInt ≠ (0 : Int) := ne_z rfl (show (0 : Int32).toInt = (0 : Int) by decide) h23
        refine lv_iload hx hb dX13_wordOf_38 (lv_at hl 1 rfl) ?_
        refine lv_iload hx hb dX13_wordOf_40 (lv_at hl 2 rfl) ?_
        refine lv_isub hx hb dX13_wordOf_42 ?_
        have z27 : (ja - ia).toInt = ja.toInt - ia.toInt := sub_z rfl rfl (om_8b1b90dbf1 f1L22) (om_c1379e6ae2 f1L6 f1L22)
        refine lv_iload_n hx hb dX13_wordOf_43 rfl (lv_at hl 7 rfl) ?_
        refine lv_icmp_ge (tgt := 72) hx hb dX13_wordOf_44 (by decide) (fun h28 => ?_) (fun h28 => ?_)
        · have z29 : pb.toInt ≤ (ja.toInt - ia.toInt) := le_z rfl z27 h28
          refine lv_iconst (v := 0) hx hb dX13_wordOf_72 (by decide) ?_
          refine lv_istore (lv' := [(7, .int 0), (6, .int ja), (5, .int ia), (4, .int wh), (0, .ref (ad 0)), (1, .ref (tb (100 + 23))), (2, .int pa), (3, .int pb)]) hx hb dX13_wordOf_73 hl (by decide) rfl (fun ls hl => ?_)
          refine lv_iinc (v := (ja + (1 : Int32))) (lv' := [(6, .int (ja + (1 : Int32))), (7, .int 0), (5, .int ia), (4, .int wh), (0, .ref (ad 0)), (1, .ref (tb (100 + 23))), (2, .int pa), (3, .int pb)]) hx hb dX13_wordOf_75 hl (k := 1) rfl (rfl) (by decide) rfl (fun ls hl => ?_)
          have z30 : (ja + (1 : Int32)).toInt = ja.toInt + (1 : Int) := add_z rfl (show (1 : Int32).toInt = (1 : Int) by decide) (om_2fe7016b01 f1L6 f1L22) (om_67e3919934 f1L22)
          refine lv_goto (tgt := 22) hx hb dX13_wordOf_78 (by decide) ?_
          exact ih22 ((ja + (1 : Int32)), 0) _ _ _ (show (54 - (ja + (1 : Int32)).toInt).toNat < (54 - ja.toInt).toNat from tn_z (om_eb43361e58 z30) (om_c9bb84fe6d f1L22 z8 z22)) ⟨(show ia.toInt ≤ (ja + (1 : Int32)).toInt ∧ (ja + (1 : Int32)).toInt ≤ 54 from (om_d4e245461f f1L22 z8 z22 z30)), (RT.st exL22 ⟨f1L22, r7, hw6, z22, (Or.inr (⟨z26, (Or.inl ⟨z29, rfl⟩)⟩))⟩), hP, hD, hS, lv_sub hl [1, 0, 2, 3, 4, 5, 6, 7] rfl⟩
        · have z31 : (ja.toInt - ia.toInt) < pb.toInt := nle_z rfl z27 h28
          refine lv_aload_n hx hb dX13_wordOf_47 rfl (lv_at hl 4 rfl) ?_
          refine va_get (D := (dC, dI)) (ci := 16) (fs := mF ad v) (v := .ref (ad 3)) (C := RX13) (T := TX13) (N := 124) hx hb ht itX13 hown hK hP 0 rfl rfl 3 (by decide) (ht _ tw_43) (fun _ h9 => h9) rfl dX13_wordOf_48 ?_
          refine lv_iload_n hx hb dX13_wordOf_51 rfl (lv_at hl 6 rfl) ?_
          refine lv_iload hx hb dX13_wordOf_52 (lv_at hl 1 rfl) ?_
          refine lv_iadd hx hb dX13_wordOf_54 ?_
          have z32 : (pa + ja).toInt = pa.toInt + ja.toInt := add_z rfl rfl (om_2f2713a236 za f1L6 f1L22) (om_eacb72da22 za z5 z31)
          refine lv_iload hx hb dX13_wordOf_55 (lv_at hl 2 rfl) ?_
          refine lv_isub hx hb dX13_wordOf_57 ?_
          have z33 : ((pa + ja) - ia).toInt = (pa.toInt + ja.toInt) - ia.toInt := sub_z z32 rfl (om_651d4d8e1e za f1L22) (om_cd0f632fa0 za z31)
          refine va_iald (D := (dC, dI)) (f := (v.1 3)) hx hb hK hP 2 0 rfl rfl (in_y (a := ((pa.toInt + ja.toInt) - ia.toInt)) (b := 4000) z33 (om_2a6b7c3b27 za f1L22) (om_4a9820a742 za z31) rfl) dX13_wordOf_58 ?_
          refine lv_aload_n hx hb dX13_wordOf_59 rfl (lv_at hl 5 rfl) ?_
          refine lv_iload hx hb dX13_wordOf_60 (lv_at hl 1 rfl) ?_
          refine tp_i (y := nI ja.toNatClampNeg) (nI_self (om_2cf5a8cf4a f1L6 f1L22)) ?_
          refine cu_s (mW_nd _ _ _ _ _ _) (rn_VS (n := 1) (As := [.int (nI ja.toNatClampNeg)]) (rest := [.int ((v.1 3) ((pa + ja) - ia).toNatClampNeg)]) hx hb hml hown ht hKK hFx hP hD hS hA (i := 23) (by decide) (c_sh_charAt l dC dI cI cB cZ cJ cR tb H.size 23 ja.toNatClampNeg (by decide) (by have h9 := nat_z (x := ja) (om_2cf5a8cf4a f1L6 f1L22); have h8 : ja.toInt < 55 := (om_c58abcf66a f1L22); show ja.toNatClampNeg < 55; omega) (by decide)) tw_281 tw_282 (by decide +kernel) rfl rfl ⟨Nat.le_of_ble_eq_true rfl, Nat.le_of_ble_eq_true rfl⟩ [] rfl (by decide) rfl hl.1 rfl (Nat.le_of_ble_eq_true rfl) dX13_wordOf_62 ⟨Nat.le_of_ble_eq_true rfl, Nat.le_of_ble_eq_true rfl⟩) hP hD hS hA (fun r35 H locs hw34 hP hD hS => ?_)
          have z36 : (32 ≤ r35.toInt ∧ r35.toInt ≤ 255) ∧ (r35.toInt = 32 ∨ ja.toInt ≠ 54) := ch_l23 (by have h9 := nat_z (x := ja) (om_2cf5a8cf4a f1L6 f1L22); have h8 : ja.toInt < 55 := (om_c58abcf66a f1L22); show ja.toNatClampNeg < 55; omega) hw34
          refine W.widen (k := 0) (n := 0) (Nat.le_refl _) (Nat.le_refl _) ?_
          refine lv_icmp_ne (tgt := 72) hx hb dX13_wordOf_65 (by decide) (fun h37 => ?_) (fun h37 => ?_)
          · have z38 : ((v.1 3) ((pa + ja) - ia).toNatClampNeg).toInt ≠ r35.toInt := ne_z rfl rfl h37
            refine lv_iconst (v := 0) hx hb dX13_wordOf_72 (by decide) ?_
            refine lv_istore (lv' := [(7, .int 0), (6, .int ja), (5, .int ia), (4, .int wh), (0, .ref (ad 0)), (1, .ref (tb (100 + 23))), (2, .int pa), (3, .int pb)]) hx hb dX13_wordOf_73 hl (by decide) rfl (fun ls hl => ?_)
            refine lv_iinc (v := (ja + (1 : Int32))) (lv' := [(6, .int (ja + (1 : Int32))), (7, .int 0), (5, .int ia), (4, .int wh), (0, .ref (ad 0)), (1, .ref (tb (100 + 23))), (2, .int pa), (3, .int pb)]) hx hb dX13_wordOf_75 hl (k := 1) rfl (rfl) (by decide) rfl (fun ls hl => ?_)
            have z39 : (ja + (1 : Int32)).toInt = ja.toInt + (1 : Int) := add_z rfl (show (1 : Int32).toInt = (1 : Int) by decide) (om_2fe7016b01 f1L6 f1L22) (om_67e3919934 f1L22)
            refine lv_goto (tgt := 22) hx hb dX13_wordOf_78 (by decide) ?_
            exact ih22 ((ja + (1 : Int32)), 0) _ _ _ (show (54 - (ja + (1 : Int32)).toInt).toNat < (54 - ja.toInt).toNat from tn_z (om_eb43361e58 z39) (om_c9bb84fe6d f1L22 z8 z22)) ⟨(show ia.toInt ≤ (ja + (1 : Int32)).toInt ∧ (ja + (1 : Int32)).toInt ≤ 54 from (om_d4e245461f f1L22 z8 z22 z39)), (RT.st exL22 ⟨f1L22, r7, hw6, z22, (Or.inr (⟨z26, (Or.inr (⟨z31, r35, hw34, (Or.inl ⟨z38, rfl⟩)⟩))⟩))⟩), hP, hD, hS, lv_sub hl [1, 0, 2, 3, 4, 5, 6, 7] rfl⟩
          · have z40 : ((v.1 3) ((pa + ja) - ia).toNatClampNeg).toInt = r35.toInt := eq_z rfl rfl h37
            refine lv_iconst (v := 1) hx hb dX13_wordOf_68 (by decide) ?_
            refine lv_goto (tgt := 73) hx hb dX13_wordOf_69 (by decide) ?_
            refine lv_istore (lv' := [(7, .int 1), (6, .int ja), (5, .int ia), (4, .int wh), (0, .ref (ad 0)), (1, .ref (tb (100 + 23))), (2, .int pa), (3, .int pb)]) hx hb dX13_wordOf_73 hl (by decide) rfl (fun ls hl => ?_)
            refine lv_iinc (v := (ja + (1 : Int32))) (lv' := [(6, .int (ja + (1 : Int32))), (7, .int 1), (5, .int ia), (4, .int wh), (0, .ref (ad 0)), (1, .ref (tb (100 + 23))), (2, .int pa), (3, .int pb)]) hx hb dX13_wordOf_75 hl (k := 1) rfl (rfl) (by decide) rfl (fun ls hl => ?_)
            have z41 : (ja + (1 : Int32)).toInt = ja.toInt + (1 : Int) := add_z rfl (show (1 : Int32).toInt = (1 : Int) by decide) (om_2fe7016b01 f1L6 f1L22) (om_67e3919934 f1L22)
            refine lv_goto (tgt := 22) hx hb dX13_wordOf_78 (by decide) ?_
            exact ih22 ((ja + (1 : Int32)), 1) _ _ _ (show (54 - (ja + (1 : Int32)).toInt).toNat < (54 - ja.toInt).toNat from tn_z (om_eb43361e58 z41) (om_c9bb84fe6d f1L22 z8 z22)) ⟨(show ia.toInt ≤ (ja + (1 : Int32)).toInt ∧ (ja + (1 : Int32)).toInt ≤ 54 from (om_d4e245461f f1L22 z8 z22 z41)), (RT.st exL22 ⟨f1L22, r7, hw6, z22, (Or.inr (⟨z26, (Or.inr (⟨z31, r35, hw34, (Or.inr (⟨z40, rfl⟩))⟩))⟩))⟩), hP, hD, hS, lv_sub hl [1, 0, 2, 3, 4, 5, 6, 7] rfl⟩
theorem om_8c7f7cd392 : 0 ≤ (0 : Int) ∧ (0 : Int) ≤ 102 := by omega
theorem om_abc8d05dfe {x0 x1 x2 : Int} : (1 : Int) ≤ 1 ∨ (x0 + 1 ≤ x1 ∧ x1 ≤ x2) := by omega
theorem om_5d335d9f33 {x0 : Int} (h0 : x0 < (102 : Int)) : x0 ≤ x0 ∧ x0 ≤ 101 := by omega
theorem om_5331ba3ee4 {x0 x1 x2 : Int} (h0 : 0 ≤ x0 ∧ x0 < x1) : (1 : Int) = 0 ∨ x0 + x2 - x2 ≤ x1 := by omega
theorem om_526583db2b {x0 x1 : Int} (h0 : 0 ≤ x0 ∧ x0 ≤ 102) (h1 : x0 ≤ x1 ∧ x1 ≤ 101) : 0 ≤ x1 := by omega
theorem om_22e8107007 {x0 x1 : Int} (h0 : x0 ≤ x1 ∧ x1 ≤ 101) : x1 < 102 := by omega
theorem om_47fa826af2 {x0 x1 : Int} (h0 : 0 ≤ x0 ∧ x0 ≤ 102) (h1 : x0 ≤ x1 ∧ x1 ≤ 101) : -2147483648 ≤ x1 + (1 : Int) := by omega
theorem om_a1b43754a9 {x0 x1 : Int} (h0 : x0 ≤ x1 ∧ x1 ≤ 101) : x1 + (1 : Int) < 2147483648 := by omega
theorem om_7da3ab54be {x0 x1 x2 : Int} (h0 : 0 ≤ x0 ∧ x0 ≤ 102) (h1 : x0 ≤ x1 ∧ x1 ≤ 101) (h2 : x2 = x1 + (1 : Int)) : 0 ≤ x2 ∧ x2 ≤ 102 := by omega
theorem om_7e4de13f34 {x0 x1 x2 : Int} (h0 : x0 ≤ x1 ∧ x1 ≤ 101) (h1 : x2 = x1 + (1 : Int)) : 102 - x2 < 102 - x0 := by omega
theorem om_064423fefa {x0 : Int} (h0 : x0 < (102 : Int)) : 0 < 102 - x0 := by omega
theorem om_33b671c342 {x0 x1 x2 x3 : Int} (h0 : 0 ≤ x0 ∧ x0 < x1) (h1 : 0 ≤ x2 ∧ x2 ≤ 102) (h2 : x2 ≤ x3 ∧ x3 ≤ 101) : -2147483648 ≤ x0 + x3 := by omega
theorem om_e439c1ca1e {x0 x1 x2 x3 : Int} (h0 : 0 ≤ x0 ∧ x0 ≤ 4000) (h1 : 0 ≤ x1 ∧ x1 < x0) (h2 : x2 ≤ x3 ∧ x3 ≤ 101) : x1 + x3 < 2147483648 := by omega
theorem om_deae620a43 {x0 x1 x2 x3 : Int} (h0 : 0 ≤ x0 ∧ x0 < x1) (h1 : x2 ≤ x3 ∧ x3 ≤ 101) : -2147483648 ≤ (x0 + x3) - x2 := by omega
theorem om_12d9783901 {x0 x1 x2 x3 : Int} (h0 : 0 ≤ x0 ∧ x0 ≤ 4000) (h1 : 0 ≤ x1 ∧ x1 < x0) (h2 : 0 ≤ x2 ∧ x2 ≤ 102) (h3 : x2 ≤ x3 ∧ x3 ≤ 101) : (x1 + x3) - x2 < 2147483648 := by omega
theorem om_68cc9dfc8a {x0 : Int} (h0 : 0 ≤ x0 ∧ x0 ≤ 4001) : 0 ≤ x0 := by omega
theorem om_d067f7e614 {x0 : Int} (h0 : 0 ≤ x0 ∧ x0 ≤ 4001) : x0 < 4002 := by omega
theorem om_13ab525777 {x0 x1 x2 x3 x4 x5 x6 x7 : Int} (h0 : x0 ≤ x1 ∧ x1 ≤ 101) (h1 : x2 = 0 ∨ x3 + x1 - x0 ≤ x4) (h2 : (32 ≤ x5 ∧ x5 ≤ 255) ∧ (x5 = 32 ∨ x1 ≠ 101)) (h3 : x5 ≠ 32 ∨ x1 ≠ x0) (h4 : x5 = (32 : Int)) (h5 : x2 ≠ (0 : Int)) (h6 : x6 = (x3 + x1) - x0) (h7 : x7 = x6) : (5 : Int) ≤ 1 ∨ (x3 + 1 ≤ x7 ∧ x7 ≤ x4) := by omega
theorem om_4823408fe0 {x0 x1 x2 x3 x4 x5 : Int} (h0 : 0 ≤ x0 ∧ x0 ≤ 4000) (h1 : 0 ≤ x1 ∧ x1 < x0) (h2 : x2 ≤ x3 ∧ x3 ≤ 101) (h3 : x4 = 0 ∨ x1 + x3 - x2 ≤ x0) (h4 : x4 ≠ (0 : Int)) (h5 : x5 = (x1 + x3) - x2) : 0 ≤ x5 ∧ x5 ≤ 4000 := by omega
theorem om_707f7a2fb5 {x0 x1 : Int} (h0 : x0 ≤ x1 ∧ x1 ≤ 101) : -2147483648 ≤ x1 - x0 := by omega
theorem om_616154b569 {x0 x1 : Int} (h0 : 0 ≤ x0 ∧ x0 ≤ 102) (h1 : x0 ≤ x1 ∧ x1 ≤ 101) : x1 - x0 < 2147483648 := by omega
theorem om_b8cc7302f1 {x0 x1 : Int} (h0 : x0 ≤ x1 ∧ x1 ≤ 101) : -2147483648 ≤ (8 : Int) * (x1 - x0) := by omega
theorem om_fc4cf59d33 {x0 x1 : Int} (h0 : 0 ≤ x0 ∧ x0 ≤ 102) (h1 : x0 ≤ x1 ∧ x1 ≤ 101) : (8 : Int) * (x1 - x0) < 2147483648 := by omega
theorem om_dfdcce6d24 {x0 x1 x2 x3 : Int} (h0 : x0 ≤ x1 ∧ x1 ≤ 101) (h1 : (32 ≤ x2 ∧ x2 ≤ 255) ∧ (x2 = 32 ∨ x1 ≠ 101)) (h2 : x2 ≠ (32 : Int)) (h3 : x3 = x1 + (1 : Int)) : x0 ≤ x3 ∧ x3 ≤ 101 := by omega
theorem om_d118c32706 {x0 x1 x2 x3 : Int} : (0 : Int) = 0 ∨ x0 + x1 - x2 ≤ x3 := by omega
theorem om_d3df7a31e5 {x0 x1 : Int} (h0 : x0 = x1 + (1 : Int)) : 101 - x0 < 101 - x1 := by omega
theorem om_3cbe3fede3 {x0 x1 x2 : Int} (h0 : x0 ≤ x1 ∧ x1 ≤ 101) (h1 : (32 ≤ x2 ∧ x2 ≤ 255) ∧ (x2 = 32 ∨ x1 ≠ 101)) (h2 : x2 ≠ (32 : Int)) : 0 < 101 - x1 := by omega
theorem om_c474bb42ef {x0 x1 : Int} (h0 : 0 ≤ x0 ∧ x0 ≤ 4000) (h1 : 0 ≤ x1 ∧ x1 < x0) : 0 ≤ x0 ∧ x0 ≤ 4000 := by omega
theorem om_746660115c {x0 x1 x2 x3 x4 : Int} (h0 : 0 ≤ x0 ∧ x0 < x1) (h1 : x2 ≤ x3 ∧ x3 ≤ 101) (h2 : x4 = (x0 + x3) - x2) : 0 ≤ x4 := by omega
theorem om_864218f08b {x0 x1 x2 x3 x4 x5 x6 x7 : Int} (h0 : x0 = (x1 + x2) - x3) (h1 : (x4 = 0 ∨ x0 < x5)) (h2 : (32 ≤ x6 ∧ x6 ≤ 255) ∧ (x6 = 32 ∨ x2 ≠ 101)) (h3 : x4 = x6) (h4 : x7 = x2 + (1 : Int)) : (1 : Int) = 0 ∨ x1 + x7 - x3 ≤ x5 := by omega
set_option maxHeartbeats 4000000 in
set_option maxRecDepth 100000 in
theorem c_m_sign (l : Launch) (dC : Nat → ClassId) (dI : Nat → Nat → Nat) (cI cB cZ cJ cR : ClassId) (tb : Nat → Nat) (sz : Nat) (ad : Nat → Nat) (N : Nat) (v : MS) (pa : Int32) (zsz : 0 ≤ (v.1 0 4).toInt ∧ (v.1 0 4).toInt ≤ 4000) (ztk : 0 ≤ (v.1 0 5).toInt ∧ (v.1 0 5).toInt ≤ 4001) (za : 0 ≤ pa.toInt ∧ pa.toInt < (v.1 0 4).toInt) (a8 : AR 8 0 4000 v) : Met l yX13_sign (Cond.code yX13_sign cX13_sign 6 (some .int) :: tw_W) ({ frames := 4, cells := 0, slots := 0, locals := 85 }) (pc_ (dC, dI) (tyS cI cB cZ cJ cR) tb (mW ad N cI cZ cJ v) sz [.ref (ad 0), .int pa]) (qi_ (dC, dI) (mW ad N cI cZ cJ v) sz (fun (r : Int32) (u : MS) => FH [] [8, 10] v u ∧ (Q_m_sign v pa r u) ∧ (r.toInt ≤ 1 ∨ (pa.toInt + 1 ≤ ((u.1 8) (u.1 0 5).toNatClampNeg).toInt ∧ ((u.1 8) (u.1 0 5).toNatClampNeg).toInt ≤ (v.1 0 4).toInt)) ∧ (AR 8 0 4000 u)) (fun (u : MS) => (mW ad N cI cZ cJ u))) 0 0 (va_A (mW ad N cI cZ cJ v) sz) := by
  refine Met.ofW (cc := cX13_sign) (maxL := 6) (ret := (some .int)) (by decide) rfl ?_
  intro p e s m args below meth c s₁ B hml hv
  obtain ⟨rfl, hsz, hP, hKK, hD0, hFx⟩ := hv
  have hK := hKK.1
  have hx := B.exec
  have hb := B.bytes
  have hr := B.returns
  have ht : ∀ w ∈ tw_W, w.before _ s = true := fun w h => atoms_spec (ws := Cond.code yX13_sign cX13_sign 6 (some .int) :: tw_W) B.pre w (List.mem_cons_of_mem _ h)
  have hown : s.vm.findClass RX13 = some m.cls := findClass_of_methodNamed B.named
  have hlocks := B.notSynchronized
  subst hsz
  unfold qi_
  have hD := hD0.self (sz := s.heap.size)
  generalize hAe : va_A (mW ad N cI cZ cJ v) s.heap.size = A at hD hFx ⊢
  have hA : ∀ q : Nat, s.heap.size ≤ q → A q := fun q h => by rw [← hAe]; exact Or.inr h
  have hS : va_S A s.heap s.heap [] := va_S.rf
  have hl := lv_entry ([.ref (ad 0), .int pa]) (n := 6) (Nat.le_of_ble_eq_true rfl)
  rw [lg_entry_eq]
  generalize (lg_sl ([.ref (ad 0), .int pa]) ++ List.replicate (6 - (lg_sl ([.ref (ad 0), .int pa])).length) Slot.unset).toArray = ls at hl ⊢
  have hl : lv_has ls 6 [(0, .ref (ad 0)), (1, .int pa)] := hl
  refine lv_iconst (v := 0) hx hb dX13_sign_0 (by decide) ?_
  refine lv_istore_n (lv' := [(2, .int 0), (0, .ref (ad 0)), (1, .int pa)]) hx hb dX13_sign_1 rfl hl (by decide) rfl (fun ls hl => ?_)
  refine lpm_ (X := Int32) (P := (fun (x9 : Int32) (H : Heap) (locs : List Loc) (ls : Array Slot) => (0 ≤ x9.toInt ∧ x9.toInt ≤ 102) ∧ (st24 x9) ∧ (RT (Q_m_sign_L0 v pa) 0 x9) ∧ va_P (dC, dI) vwCl (mW ad N cI cZ cJ v) H ∧ va_D A (mW ad N cI cZ cJ v) ∧ va_S A s.heap H locs ∧ lv_has ls 6 [(2, .int x9), (0, .ref (ad 0)), (1, .int pa)])) (fun x9 => (102 - x9.toInt).toNat) 2 (fun ia H locs ls hh ih2 => ?_) 0 _ _ _ ⟨(show 0 ≤ (0 : Int) ∧ (0 : Int) ≤ 102 from om_8c7f7cd392), (show st24 (0 : Int32) from (Or.inl (by decide))), RT.rf, hP, hD, hS, lv_sub hl [0, 1, 2] rfl⟩
  obtain ⟨f1L2, f4L2, exL2, hP, hD, hS, hl⟩ := hh
  have f1L2 : 0 ≤ ia.toInt ∧ ia.toInt ≤ 102 := f1L2
  have f4L2 : st24 ia := f4L2
  have hl : lv_has ls 6 [(2, .int ia), (0, .ref (ad 0)), (1, .int pa)] := hl
  refine lv_iload_n hx hb dX13_sign_2 rfl (lv_at hl 0 rfl) ?_
  refine va_ldcS hx hb hown (st_ hKK 24 (own := RX13) (idx := 82) (tx := "<<= >>= += -= *= /= %= &= |= ^= || && == != <= >= << >> ( ) { } [ ] ; , ? : = | ^ & < > + - * / % ! ~ ") (n := 24) rfl) dX13_sign_3 ?_
  refine cu_s (mW_nd _ _ _ _ _ _) (rn_VS (n := 0) (As := []) (rest := [.int ia]) hx hb hml hown ht hKK hFx hP hD hS hA (i := 24) (by decide) (c_sh_strLen l dC dI cI cB cZ cJ cR tb H.size 24 (by decide)) tw_279 tw_280 (by decide +kernel) rfl rfl ⟨Nat.le_of_ble_eq_true rfl, Nat.le_of_ble_eq_true rfl⟩ [] rfl (by decide) rfl hl.1 rfl (Nat.le_of_ble_eq_true rfl) dX13_sign_5 ⟨Nat.le_of_ble_eq_true rfl, Nat.le_of_ble_eq_true rfl⟩) hP hD hS hA (fun r2 H locs hw1 hP hD hS => ?_)
  obtain rfl := hw1
  refine tp_i (y := 102) (by decide) ?_
  refine W.widen (k := 0) (n := 0) (Nat.le_refl _) (Nat.le_refl _) ?_
  refine lv_icmp_ge (tgt := 124) hx hb dX13_sign_8 (by decide) (fun h3 => ?_) (fun h3 => ?_)
  · have z4 : (102 : Int) ≤ ia.toInt := le_z (show (102 : Int32).toInt = (102 : Int) by decide) rfl h3
    refine lv_iconst (v := 1) hx hb dX13_sign_124 (by decide) ?_
    exact W.iret (v := 1) hx hb hr (fun t ht9 hW => ⟨⟨1, v, rfl, ⟨(FH.rf _), ⟨zsz, ztk, za, ia, exL2, f1L2, (Or.inl ⟨z4, rfl, rfl⟩)⟩, (show (1 : Int) ≤ 1 ∨ (pa.toInt + 1 ≤ ((v.1 8) (v.1 0 5).toNatClampNeg).toInt ∧ ((v.1 8) (v.1 0 5).toNatClampNeg).toInt ≤ (v.1 0 4).toInt) from om_abc8d05dfe), a8⟩, by rw [ht9]; exact hP, hD⟩, hS.F ht9⟩) hS.2.2 dX13_sign_125
  · have z5 : ia.toInt < (102 : Int) := nle_z (show (102 : Int32).toInt = (102 : Int) by decide) rfl h3
    refine lv_iload_n hx hb dX13_sign_11 rfl (lv_at hl 0 rfl) ?_
    refine lv_istore_n (lv' := [(3, .int ia), (2, .int ia), (0, .ref (ad 0)), (1, .int pa)]) hx hb dX13_sign_12 rfl hl (by decide) rfl (fun ls hl => ?_)
    refine lv_iconst (v := 0) hx hb dX13_sign_13 (by decide) ?_
    refine lv_istore (lv' := [(4, .int 0), (3, .int ia), (2, .int ia), (0, .ref (ad 0)), (1, .int pa)]) hx hb dX13_sign_14 hl (by decide) rfl (fun ls hl => ?_)
    refine lv_iconst (v := 1) hx hb dX13_sign_16 (by decide) ?_
    refine lv_istore (lv' := [(5, .int 1), (4, .int 0), (3, .int ia), (2, .int ia), (0, .ref (ad 0)), (1, .int pa)]) hx hb dX13_sign_17 hl (by decide) rfl (fun ls hl => ?_)
    refine lpm_ (X := Int32 × Int32 × Int32) (P := (fun (x9 : Int32 × Int32 × Int32) (H : Heap) (locs : List Loc) (ls : Array Slot) => (ia.toInt ≤ x9.1.toInt ∧ x9.1.toInt ≤ 101) ∧ (x9.2.2.toInt = 0 ∨ pa.toInt + x9.1.toInt - ia.toInt ≤ (v.1 0 4).toInt) ∧ (RT (Q_m_sign_L1 v pa ia) (ia, 0, 1) (x9.1, x9.2.1, x9.2.2)) ∧ va_P (dC, dI) vwCl (mW ad N cI cZ cJ v) H ∧ va_D A (mW ad N cI cZ cJ v) ∧ va_S A s.heap H locs ∧ lv_has ls 6 [(5, .int x9.2.2), (4, .int x9.2.1), (3, .int x9.1), (2, .int ia), (0, .ref (ad 0)), (1, .int pa)])) (fun x9 => (101 - x9.1.toInt).toNat) 19 (fun x9 H locs ls hh ih19 => ?_) (ia, 0, 1) _ _ _ ⟨(show ia.toInt ≤ ia.toInt ∧ ia.toInt ≤ 101 from (om_5d335d9f33 z5)), (show (1 : Int) = 0 ∨ pa.toInt + ia.toInt - ia.toInt ≤ (v.1 0 4).toInt from (om_5331ba3ee4 za)), RT.rf, hP, hD, hS, lv_sub hl [0, 1, 2, 3, 4, 5] rfl⟩
    obtain ⟨ja, va, sa⟩ := x9
    obtain ⟨f1L19, f2L19, exL19, hP, hD, hS, hl⟩ := hh
    have f1L19 : ia.toInt ≤ ja.toInt ∧ ja.toInt ≤ 101 := f1L19
    have f2L19 : sa.toInt = 0 ∨ pa.toInt + ja.toInt - ia.toInt ≤ (v.1 0 4).toInt := f2L19
    have hl : lv_has ls 6 [(5, .int sa), (4, .int va), (3, .int ja), (2, .int ia), (0, .ref (ad 0)), (1, .int pa)] := hl
    refine va_ldcS hx hb hown (st_ hKK 24 (own := RX13) (idx := 82) (tx := "<<= >>= += -= *= /= %= &= |= ^= || && == != <= >= << >> ( ) { } [ ] ; , ? : = | ^ & < > + - * / % ! ~ ") (n := 24) rfl) dX13_sign_19 ?_
    refine lv_iload_n hx hb dX13_sign_21 rfl (lv_at hl 2 rfl) ?_
    refine tp_i (y := nI ja.toNatClampNeg) (nI_self (om_526583db2b f1L2 f1L19)) ?_
    refine cu_s (mW_nd _ _ _ _ _ _) (rn_VS (n := 1) (As := [.int (nI ja.toNatClampNeg)]) (rest := []) hx hb hml hown ht hKK hFx hP hD hS hA (i := 24) (by decide) (c_sh_charAt l dC dI cI cB cZ cJ cR tb H.size 24 ja.toNatClampNeg (by decide) (by have h9 := nat_z (x := ja) (om_526583db2b f1L2 f1L19); have h8 : ja.toInt < 102 := (om_22e8107007 f1L19); show ja.toNatClampNeg < 102; omega) (by decide)) tw_281 tw_282 (by decide +kernel) rfl rfl ⟨Nat.le_of_ble_eq_true rfl, Nat.le_of_ble_eq_true rfl⟩ [] rfl (by decide) rfl hl.1 rfl (Nat.le_of_ble_eq_true rfl) dX13_sign_22 ⟨Nat.le_of_ble_eq_true rfl, Nat.le_of_ble_eq_true rfl⟩) hP hD hS hA (fun r7 H locs hw6 hP hD hS => ?_)
    have z8 : (32 ≤ r7.toInt ∧ r7.toInt ≤ 255) ∧ (r7.toInt = 32 ∨ ja.toInt ≠ 101) := ch_l24 (by have h9 := nat_z (x := ja) (om_526583db2b f1L2 f1L19); have h8 : ja.toInt < 102 := (om_22e8107007 f1L19); show ja.toNatClampNeg < 102; omega) hw6
    have z9 : r7.toInt ≠ 32 ∨ ja.toInt ≠ ia.toInt := st_ne (by have h9 := nat_z (x := ja) (om_526583db2b f1L2 f1L19); have h8 : ja.toInt < 102 := (om_22e8107007 f1L19); show ja.toNatClampNeg < 102; omega) hw6 f4L2
    refine W.widen (k := 0) (n := 0) (Nat.le_refl _) (Nat.le_refl _) ?_
    refine lv_bipush (v := 32) hx hb dX13_sign_25 (by decide) ?_
    refine lv_icmp_eq (tgt := 84) hx hb dX13_sign_27 (by decide) (fun h10 => ?_) (fun h10 => ?_)
    · have z11 : r7.toInt = (32 : Int) := eq_z rfl (show (32 : Int32).toInt = (32 : Int) by decide) h10
      refine lv_iload hx hb dX13_sign_84 (lv_at hl 0 rfl) ?_
      refine lv_if_eq (tgt := 117) hx hb dX13_sign_86 (by decide) (fun h12 => ?_) (fun h12 => ?_)
      · have z13 : sa.toInt = (0 : Int) := eq_z rfl (show (0 : Int32).toInt = (0 : Int) by decide) h12
        refine lv_iload_n hx hb dX13_sign_117 rfl (lv_at hl 2 rfl) ?_
        refine lv_iconst (v := 1) hx hb dX13_sign_118 (by decide) ?_
        refine lv_iadd hx hb dX13_sign_119 ?_
        have z14 : (ja + (1 : Int32)).toInt = ja.toInt + (1 : Int) := add_z rfl (show (1 : Int32).toInt = (1 : Int) by decide) (om_47fa826af2 f1L2 f1L19) (om_a1b43754a9 f1L19)
        refine lv_istore_n (lv' := [(2, .int (ja + (1 : Int32))), (5, .int sa), (4, .int va), (3, .int ja), (0, .ref (ad 0)), (1, .int pa)]) hx hb dX13_sign_120 rfl hl (by decide) rfl (fun ls hl => ?_)
        refine lv_goto (tgt := 2) hx hb dX13_sign_121 (by decide) ?_
        exact ih2 (ja + (1 : Int32)) _ _ _ (show (102 - (ja + (1 : Int32)).toInt).toNat < (102 - ia.toInt).toNat from tn_z (om_7e4de13f34 f1L19 z14) (om_064423fefa z5)) ⟨(show 0 ≤ (ja + (1 : Int32)).toInt ∧ (ja + (1 : Int32)).toInt ≤ 102 from (om_7da3ab54be f1L2 f1L19 z14)), (show st24 (ja + (1 : Int32)) from (st_next hw6 z11 (om_526583db2b f1L2 f1L19) (om_b19948bd4f z14))), (RT.st exL2 ⟨f1L2, z5, ja, va, sa, exL19, f1L19, f2L19, r7, hw6, z11, z13, rfl⟩), hP, hD, hS, lv_sub hl [0, 4, 5] rfl⟩
      · have z15 : sa.toInt ≠ (0 : Int) := ne_z rfl (show (0 : Int32).toInt = (0 : Int) by decide) h12
        refine lv_aload_n hx hb dX13_sign_89 rfl (lv_at hl 4 rfl) ?_
        refine va_get (D := (dC, dI)) (ci := 16) (fs := mF ad v) (v := .ref (ad 8)) (C := RX13) (T := TX13) (N := 124) hx hb ht itX13 hown hK hP 0 rfl rfl 8 (by decide) (ht _ tw_42) (fun _ h9 => h9) rfl dX13_sign_90 ?_
        refine lv_aload_n hx hb dX13_sign_93 rfl (lv_at hl 4 rfl) ?_
        refine va_get (D := (dC, dI)) (ci := 16) (fs := mF ad v) (v := .int (v.1 0 5)) (C := RX13) (T := TX13) (N := 124) hx hb ht itX13 hown hK hP 0 rfl rfl 5 (by decide) (ht _ tw_283) (fun _ h9 => h9) rfl dX13_sign_94 ?_
        refine lv_iload_n hx hb dX13_sign_97 rfl (lv_at hl 5 rfl) ?_
        refine lv_iload_n hx hb dX13_sign_98 rfl (lv_at hl 2 rfl) ?_
        refine lv_iadd hx hb dX13_sign_99 ?_
        have z16 : (pa + ja).toInt = pa.toInt + ja.toInt := add_z rfl rfl (om_33b671c342 za f1L2 f1L19) (om_e439c1ca1e zsz za f1L19)
        refine lv_iload_n hx hb dX13_sign_100 rfl (lv_at hl 3 rfl) ?_
        refine lv_isub hx hb dX13_sign_101 ?_
        have z17 : ((pa + ja) - ia).toInt = (pa.toInt + ja.toInt) - ia.toInt := sub_z z16 rfl (om_deae620a43 za f1L19) (om_12d9783901 zsz za f1L2 f1L19)
        refine va_iast (D := (dC, dI)) (f := (v.1 8)) hx hb hK hP hD hS 5 0 rfl rfl (in_y (a := (v.1 0 5).toInt) (b := 4002) rfl (om_68cc9dfc8a ztk) (om_d067f7e614 ztk) rfl) dX13_sign_102 (fun H locs hP hD hS => ?_)
        have hP := cP_ (ma_8 ad N cI cZ cJ v ((v.1 0 5).toNatClampNeg) ((pa + ja) - ia)) hP
        have hD := cD_ (ma_8 ad N cI cZ cJ v ((v.1 0 5).toNatClampNeg) ((pa + ja) - ia)) hD
        refine lv_aload_n hx hb dX13_sign_103 rfl (lv_at hl 4 rfl) ?_
        refine va_get (D := (dC, dI)) (ci := 16) (fs := mF ad (wA v 8 ((v.1 0 5).toNatClampNeg) ((pa + ja) - ia))) (v := .ref (ad 9)) (C := RX13) (T := TX13) (N := 124) hx hb ht itX13 hown hK hP 0 rfl rfl 9 (by decide) (ht _ tw_27) (fun _ h9 => h9) rfl dX13_sign_104 ?_
        refine lv_aload_n hx hb dX13_sign_107 rfl (lv_at hl 4 rfl) ?_
        refine va_get (D := (dC, dI)) (ci := 16) (fs := mF ad (wA v 8 ((v.1 0 5).toNatClampNeg) ((pa + ja) - ia))) (v := .int (v.1 0 5)) (C := RX13) (T := TX13) (N := 124) hx hb ht itX13 hown hK hP 0 rfl rfl 5 (by decide) (ht _ tw_283) (fun _ h9 => h9) rfl dX13_sign_108 ?_
        refine lv_iload hx hb dX13_sign_111 (lv_at hl 1 rfl) ?_
        refine lv_i2l hx hb dX13_sign_113 rfl ?_
        refine va_last (D := (dC, dI)) (f := v.2) hx hb hK hP hD hS 6 3 rfl rfl (in_y (a := (v.1 0 5).toInt) (b := 4002) rfl (om_68cc9dfc8a ztk) (om_d067f7e614 ztk) rfl) dX13_sign_114 (fun H locs hP hD hS => ?_)
        have hP := cP_ (ma_9 ad N cI cZ cJ (wA v 8 ((v.1 0 5).toNatClampNeg) ((pa + ja) - ia)) ((v.1 0 5).toNatClampNeg) (va).toInt64) hP
        have hD := cD_ (ma_9 ad N cI cZ cJ (wA v 8 ((v.1 0 5).toNatClampNeg) ((pa + ja) - ia)) ((v.1 0 5).toNatClampNeg) (va).toInt64) hD
        refine lv_iconst (v := 5) hx hb dX13_sign_115 (by decide) ?_
        have q18 : ((upd (v.1 8) ((v.1 0 5).toNatClampNeg) ((pa + ja) - ia)) (v.1 0 5).toNatClampNeg).toInt = ((pa + ja) - ia).toInt := congrArg Int32.toInt pk_us
        exact W.iret (v := 5) hx hb hr (fun t ht9 hW => ⟨⟨5, (wL (wA v 8 ((v.1 0 5).toNatClampNeg) ((pa + ja) - ia)) ((v.1 0 5).toNatClampNeg) (va).toInt64), rfl, ⟨(FH.l (FH.a (FH.rf _) ((v.1 0 5).toNatClampNeg) ((pa + ja) - ia) (by decide) (by decide)) ((v.1 0 5).toNatClampNeg) (va).toInt64), ⟨zsz, ztk, za, ia, exL2, f1L2, (Or.inr (⟨z5, ja, va, sa, exL19, f1L19, f2L19, r7, hw6, z11, z15, rfl, rfl⟩))⟩, (show (5 : Int) ≤ 1 ∨ (pa.toInt + 1 ≤ ((upd (v.1 8) ((v.1 0 5).toNatClampNeg) ((pa + ja) - ia)) (v.1 0 5).toNatClampNeg).toInt ∧ ((upd (v.1 8) ((v.1 0 5).toNatClampNeg) ((pa + ja) - ia)) (v.1 0 5).toNatClampNeg).toInt ≤ (v.1 0 4).toInt) from (om_13ab525777 f1L19 f2L19 z8 z9 z11 z15 z17 q18)), (AR.l (AR.w a8 (show 0 ≤ ((pa + ja) - ia).toInt ∧ ((pa + ja) - ia).toInt ≤ 4000 from (om_4823408fe0 zsz za f1L19 f2L19 z15 z17))))⟩, by rw [ht9]; exact hP, hD⟩, hS.F ht9⟩) hS.2.2 dX13_sign_116
    · have z19 : r7.toInt ≠ (32 : Int) := ne_z rfl (show (32 : Int32).toInt = (32 : Int) by decide) h10
      refine lv_iload hx hb dX13_sign_30 (lv_at hl 0 rfl) ?_
      refine lv_if_eq (tgt := 57) hx hb dX13_sign_32 (by decide) (fun h20 => ?_) (fun h20 => ?_)
      · have z21 : sa.toInt = (0 : Int) := eq_z rfl (show (0 : Int32).toInt = (0 : Int) by decide) h20
        refine lv_iconst (v := 0) hx hb dX13_sign_57 (by decide) ?_
        refine lv_istore (lv' := [(5, .int 0), (4, .int va), (3, .int ja), (2, .int ia), (0, .ref (ad 0)), (1, .int pa)]) hx hb dX13_sign_58 hl (by decide) rfl (fun ls hl => ?_)
        refine lv_iload hx hb dX13_sign_60 (lv_at hl 1 rfl) ?_
        refine va_ldcS hx hb hown (st_ hKK 24 (own := RX13) (idx := 82) (tx := "<<= >>= += -= *= /= %= &= |= ^= || && == != <= >= << >> ( ) { } [ ] ; , ? : = | ^ & < > + - * / % ! ~ ") (n := 24) rfl) dX13_sign_62 ?_
        refine lv_iload_n hx hb dX13_sign_64 rfl (lv_at hl 2 rfl) ?_
        refine tp_i (y := nI ja.toNatClampNeg) (nI_self (om_526583db2b f1L2 f1L19)) ?_
        refine cu_s (mW_nd _ _ _ _ _ _) (rn_VS (n := 1) (As := [.int (nI ja.toNatClampNeg)]) (rest := [.int va]) hx hb hml hown ht hKK hFx hP hD hS hA (i := 24) (by decide) (c_sh_charAt l dC dI cI cB cZ cJ cR tb H.size 24 ja.toNatClampNeg (by decide) (by have h9 := nat_z (x := ja) (om_526583db2b f1L2 f1L19); have h8 : ja.toInt < 102 := (om_22e8107007 f1L19); show ja.toNatClampNeg < 102; omega) (by decide)) tw_281 tw_282 (by decide +kernel) rfl rfl ⟨Nat.le_of_ble_eq_true rfl, Nat.le_of_ble_eq_true rfl⟩ [] rfl (by decide) rfl hl.1 rfl (Nat.le_of_ble_eq_true rfl) dX13_sign_65 ⟨Nat.le_of_ble_eq_true rfl, Nat.le_of_ble_eq_true rfl⟩) hP hD hS hA (fun r23 H locs hw22 hP hD hS => ?_)
        have z24 : (32 ≤ r23.toInt ∧ r23.toInt ≤ 255) ∧ (r23.toInt = 32 ∨ ja.toInt ≠ 101) := ch_l24 (by have h9 := nat_z (x := ja) (om_526583db2b f1L2 f1L19); have h8 : ja.toInt < 102 := (om_22e8107007 f1L19); show ja.toNatClampNeg < 102; omega) hw22
        refine W.widen (k := 0) (n := 0) (Nat.le_refl _) (Nat.le_refl _) ?_
        refine lv_bipush (v := 8) hx hb dX13_sign_68 (by decide) ?_
        refine lv_iload_n hx hb dX13_sign_70 rfl (lv_at hl 2 rfl) ?_
        refine lv_iload_n hx hb dX13_sign_71 rfl (lv_at hl 3 rfl) ?_
        refine lv_isub hx hb dX13_sign_72 ?_
        have z25 : (ja - ia).toInt = ja.toInt - ia.toInt := sub_z rfl rfl (om_707f7a2fb5 f1L19) (om_616154b569 f1L2 f1L19)
        refine lv_imul hx hb dX13_sign_73 ?_
        have z26 : ((8 : Int32) * (ja - ia)).toInt = (8 : Int) * (ja.toInt - ia.toInt) := mul_z (show (8 : Int32).toInt = (8 : Int) by decide) z25 (om_b8cc7302f1 f1L19) (om_fc4cf59d33 f1L2 f1L19)
        refine lv_ishl hx hb dX13_sign_74 ?_
        refine lv_ior hx hb dX13_sign_75 ?_
        refine lv_istore (lv' := [(4, .int (va ||| (r23 <<< (((8 : Int32) * (ja - ia)) &&& 31)))), (5, .int 0), (3, .int ja), (2, .int ia), (0, .ref (ad 0)), (1, .int pa)]) hx hb dX13_sign_76 hl (by decide) rfl (fun ls hl => ?_)
        refine lv_iinc (v := (ja + (1 : Int32))) (lv' := [(3, .int (ja + (1 : Int32))), (4, .int (va ||| (r23 <<< (((8 : Int32) * (ja - ia)) &&& 31)))), (5, .int 0), (2, .int ia), (0, .ref (ad 0)), (1, .int pa)]) hx hb dX13_sign_78 hl (k := 2) rfl (rfl) (by decide) rfl (fun ls hl => ?_)
        have z27 : (ja + (1 : Int32)).toInt = ja.toInt + (1 : Int) := add_z rfl (show (1 : Int32).toInt = (1 : Int) by decide) (om_47fa826af2 f1L2 f1L19) (om_a1b43754a9 f1L19)
        refine lv_goto (tgt := 19) hx hb dX13_sign_81 (by decide) ?_
        exact ih19 ((ja + (1 : Int32)), (va ||| (r23 <<< (((8 : Int32) * (ja - ia)) &&& 31))), 0) _ _ _ (show (101 - (ja + (1 : Int32)).toInt).toNat < (101 - ja.toInt).toNat from tn_z (om_d3df7a31e5 z27) (om_3cbe3fede3 f1L19 z8 z19)) ⟨(show ia.toInt ≤ (ja + (1 : Int32)).toInt ∧ (ja + (1 : Int32)).toInt ≤ 101 from (om_dfdcce6d24 f1L19 z8 z19 z27)), (show (0 : Int) = 0 ∨ pa.toInt + (ja + (1 : Int32)).toInt - ia.toInt ≤ (v.1 0 4).toInt from om_d118c32706), (RT.st exL19 ⟨f1L19, f2L19, r7, hw6, z19, (Or.inl ⟨z21, r23, hw22, rfl⟩)⟩), hP, hD, hS, lv_sub hl [2, 1, 0, 3, 4, 5] rfl⟩
      · have z28 : sa.toInt ≠ (0 : Int) := ne_z rfl (show (0 : Int32).toInt = (0 : Int) by decide) h20
        refine lv_aload_n hx hb dX13_sign_35 rfl (lv_at hl 4 rfl) ?_
        refine lv_iload_n hx hb dX13_sign_36 rfl (lv_at hl 5 rfl) ?_
        refine lv_iload_n hx hb dX13_sign_37 rfl (lv_at hl 2 rfl) ?_
        refine lv_iadd hx hb dX13_sign_38 ?_
        have z29 : (pa + ja).toInt = pa.toInt + ja.toInt := add_z rfl rfl (om_33b671c342 za f1L2 f1L19) (om_e439c1ca1e zsz za f1L19)
        refine lv_iload_n hx hb dX13_sign_39 rfl (lv_at hl 3 rfl) ?_
        refine lv_isub hx hb dX13_sign_40 ?_
        have z30 : ((pa + ja) - ia).toInt = (pa.toInt + ja.toInt) - ia.toInt := sub_z z29 rfl (om_deae620a43 za f1L19) (om_12d9783901 zsz za f1L2 f1L19)
        refine cu_i (rn_V (n := 1) (As := [.int ((pa + ja) - ia)]) (rest := []) hx hb hml hown ht hKK hFx hP hD hS hA (c_m_at l dC dI cI cB cZ cJ cR tb H.size ad N v ((pa + ja) - ia) (show 0 ≤ (v.1 0 4).toInt ∧ (v.1 0 4).toInt ≤ 4000 from (om_c474bb42ef zsz za)) (show 0 ≤ ((pa + ja) - ia).toInt from (om_746660115c za f1L19 z30))) tw_284 tw_285 (by decide +kernel) rfl rfl ⟨Nat.le_of_ble_eq_true rfl, Nat.le_of_ble_eq_true rfl⟩ (List.range (mW ad N cI cZ cJ v).length) (rg_map _) (mW_nd _ _ _ _ _ _) rfl rfl rfl rfl hl.1 rfl (Nat.le_of_ble_eq_true rfl) dX13_sign_41 ⟨Nat.le_of_ble_eq_true rfl, Nat.le_of_ble_eq_true rfl⟩) hP hD hS hA (fun r33 u32 H locs hw31 hP hD hS => ?_)
        obtain ⟨rfl, ex31, c31⟩ := hw31
        refine W.widen (k := 0) (n := 0) (Nat.le_refl _) (Nat.le_refl _) ?_
        refine va_ldcS hx hb hown (st_ hKK 24 (own := RX13) (idx := 82) (tx := "<<= >>= += -= *= /= %= &= |= ^= || && == != <= >= << >> ( ) { } [ ] ; , ? : = | ^ & < > + - * / % ! ~ ") (n := 24) rfl) dX13_sign_44 ?_
        refine lv_iload_n hx hb dX13_sign_46 rfl (lv_at hl 2 rfl) ?_
        refine tp_i (y := nI ja.toNatClampNeg) (nI_self (om_526583db2b f1L2 f1L19)) ?_
        refine cu_s (mW_nd _ _ _ _ _ _) (rn_VS (n := 1) (As := [.int (nI ja.toNatClampNeg)]) (rest := [.int r33]) hx hb hml hown ht hKK hFx hP hD hS hA (i := 24) (by decide) (c_sh_charAt l dC dI cI cB cZ cJ cR tb H.size 24 ja.toNatClampNeg (by decide) (by have h9 := nat_z (x := ja) (om_526583db2b f1L2 f1L19); have h8 : ja.toInt < 102 := (om_22e8107007 f1L19); show ja.toNatClampNeg < 102; omega) (by decide)) tw_281 tw_282 (by decide +kernel) rfl rfl ⟨Nat.le_of_ble_eq_true rfl, Nat.le_of_ble_eq_true rfl⟩ [] rfl (by decide) rfl hl.1 rfl (Nat.le_of_ble_eq_true rfl) dX13_sign_47 ⟨Nat.le_of_ble_eq_true rfl, Nat.le_of_ble_eq_true rfl⟩) hP hD hS hA (fun r35 H locs hw34 hP hD hS => ?_)
        have z36 : (32 ≤ r35.toInt ∧ r35.toInt ≤ 255) ∧ (r35.toInt = 32 ∨ ja.toInt ≠ 101) := ch_l24 (by have h9 := nat_z (x := ja) (om_526583db2b f1L2 f1L19); have h8 : ja.toInt < 102 := (om_22e8107007 f1L19); show ja.toNatClampNeg < 102; omega) hw34
        refine W.widen (k := 0) (n := 0) (Nat.le_refl _) (Nat.le_refl _) ?_
        refine lv_icmp_ne (tgt := 57) hx hb dX13_sign_50 (by decide) (fun h37 => ?_) (fun h37 => ?_)
        · have z38 : r33.toInt ≠ r35.toInt := ne_z rfl rfl h37
          refine lv_iconst (v := 0) hx hb dX13_sign_57 (by decide) ?_
          refine lv_istore (lv' := [(5, .int 0), (4, .int va), (3, .int ja), (2, .int ia), (0, .ref (ad 0)), (1, .int pa)]) hx hb dX13_sign_58 hl (by decide) rfl (fun ls hl => ?_)
          refine lv_iload hx hb dX13_sign_60 (lv_at hl 1 rfl) ?_
          refine va_ldcS hx hb hown (st_ hKK 24 (own := RX13) (idx := 82) (tx := "<<= >>= += -= *= /= %= &= |= ^= || && == != <= >= << >> ( ) { } [ ] ; , ? : = | ^ & < > + - * / % ! ~ ") (n := 24) rfl) dX13_sign_62 ?_
          refine lv_iload_n hx hb dX13_sign_64 rfl (lv_at hl 2 rfl) ?_
          refine tp_i (y := nI ja.toNatClampNeg) (nI_self (om_526583db2b f1L2 f1L19)) ?_
          refine cu_s (mW_nd _ _ _ _ _ _) (rn_VS (n := 1) (As := [.int (nI ja.toNatClampNeg)]) (rest := [.int va]) hx hb hml hown ht hKK hFx hP hD hS hA (i := 24) (by decide) (c_sh_charAt l dC dI cI cB cZ cJ cR tb H.size 24 ja.toNatClampNeg (by decide) (by have h9 := nat_z (x := ja) (om_526583db2b f1L2 f1L19); have h8 : ja.toInt < 102 := (om_22e8107007 f1L19); show ja.toNatClampNeg < 102; omega) (by decide)) tw_281 tw_282 (by decide +kernel) rfl rfl ⟨Nat.le_of_ble_eq_true rfl, Nat.le_of_ble_eq_true rfl⟩ [] rfl (by decide) rfl hl.1 rfl (Nat.le_of_ble_eq_true rfl) dX13_sign_65 ⟨Nat.le_of_ble_eq_true rfl, Nat.le_of_ble_eq_true rfl⟩) hP hD hS hA (fun r40 H locs hw39 hP hD hS => ?_)
          have z41 : (32 ≤ r40.toInt ∧ r40.toInt ≤ 255) ∧ (r40.toInt = 32 ∨ ja.toInt ≠ 101) := ch_l24 (by have h9 := nat_z (x := ja) (om_526583db2b f1L2 f1L19); have h8 : ja.toInt < 102 := (om_22e8107007 f1L19); show ja.toNatClampNeg < 102; omega) hw39
          refine W.widen (k := 0) (n := 0) (Nat.le_refl _) (Nat.le_refl _) ?_
          refine lv_bipush (v := 8) hx hb dX13_sign_68 (by decide) ?_
          refine lv_iload_n hx hb dX13_sign_70 rfl (lv_at hl 2 rfl) ?_
          refine lv_iload_n hx hb dX13_sign_71 rfl (lv_at hl 3 rfl) ?_
          refine lv_isub hx hb dX13_sign_72 ?_
          have z42 : (ja - ia).toInt = ja.toInt - ia.toInt := sub_z rfl rfl (om_707f7a2fb5 f1L19) (om_616154b569 f1L2 f1L19)
          refine lv_imul hx hb dX13_sign_73 ?_
          have z43 : ((8 : Int32) * (ja - ia)).toInt = (8 : Int) * (ja.toInt - ia.toInt) := mul_z (show (8 : Int32).toInt = (8 : Int) by decide) z42 (om_b8cc7302f1 f1L19) (om_fc4cf59d33 f1L2 f1L19)
          refine lv_ishl hx hb dX13_sign_74 ?_
          refine lv_ior hx hb dX13_sign_75 ?_
          refine lv_istore (lv' := [(4, .int (va ||| (r40 <<< (((8 : Int32) * (ja - ia)) &&& 31)))), (5, .int 0), (3, .int ja), (2, .int ia), (0, .ref (ad 0)), (1, .int pa)]) hx hb dX13_sign_76 hl (by decide) rfl (fun ls hl => ?_)
          refine lv_iinc (v := (ja + (1 : Int32))) (lv' := [(3, .int (ja + (1 : Int32))), (4, .int (va ||| (r40 <<< (((8 : Int32) * (ja - ia)) &&& 31)))), (5, .int 0), (2, .int ia), (0, .ref (ad 0)), (1, .int pa)]) hx hb dX13_sign_78 hl (k := 2) rfl (rfl) (by decide) rfl (fun ls hl => ?_)
          have z44 : (ja + (1 : Int32)).toInt = ja.toInt + (1 : Int) := add_z rfl (show (1 : Int32).toInt = (1 : Int) by decide) (om_47fa826af2 f1L2 f1L19) (om_a1b43754a9 f1L19)
          refine lv_goto (tgt := 19) hx hb dX13_sign_81 (by decide) ?_
          exact ih19 ((ja + (1 : Int32)), (va ||| (r40 <<< (((8 : Int32) * (ja - ia)) &&& 31))), 0) _ _ _ (show (101 - (ja + (1 : Int32)).toInt).toNat < (101 - ja.toInt).toNat from tn_z (om_d3df7a31e5 z44) (om_3cbe3fede3 f1L19 z8 z19)) ⟨(show ia.toInt ≤ (ja + (1 : Int32)).toInt ∧ (ja + (1 : Int32)).toInt ≤ 101 from (om_dfdcce6d24 f1L19 z8 z19 z44)), (show (0 : Int) = 0 ∨ pa.toInt + (ja + (1 : Int32)).toInt - ia.toInt ≤ (v.1 0 4).toInt from om_d118c32706), (RT.st exL19 ⟨f1L19, f2L19, r7, hw6, z19, (Or.inr (⟨z28, r33, ex31, c31, r35, hw34, (Or.inl ⟨z38, r40, hw39, rfl⟩)⟩))⟩), hP, hD, hS, lv_sub hl [2, 1, 0, 3, 4, 5] rfl⟩
        · have z45 : r33.toInt = r35.toInt := eq_z rfl rfl h37
          refine lv_iconst (v := 1) hx hb dX13_sign_53 (by decide) ?_
          refine lv_goto (tgt := 58) hx hb dX13_sign_54 (by decide) ?_
          refine lv_istore (lv' := [(5, .int 1), (4, .int va), (3, .int ja), (2, .int ia), (0, .ref (ad 0)), (1, .int pa)]) hx hb dX13_sign_58 hl (by decide) rfl (fun ls hl => ?_)
          refine lv_iload hx hb dX13_sign_60 (lv_at hl 1 rfl) ?_
          refine va_ldcS hx hb hown (st_ hKK 24 (own := RX13) (idx := 82) (tx := "<<= >>= += -= *= /= %= &= |= ^= || && == != <= >= << >> ( ) { } [ ] ; , ? : = | ^ & < > + - * / % ! ~ ") (n := 24) rfl) dX13_sign_62 ?_
          refine lv_iload_n hx hb dX13_sign_64 rfl (lv_at hl 2 rfl) ?_
          refine tp_i (y := nI ja.toNatClampNeg) (nI_self (om_526583db2b f1L2 f1L19)) ?_
          refine cu_s (mW_nd _ _ _ _ _ _) (rn_VS (n := 1) (As := [.int (nI ja.toNatClampNeg)]) (rest := [.int va]) hx hb hml hown ht hKK hFx hP hD hS hA (i := 24) (by decide) (c_sh_charAt l dC dI cI cB cZ cJ cR tb H.size 24 ja.toNatClampNeg (by decide) (by have h9 := nat_z (x := ja) (om_526583db2b f1L2 f1L19); have h8 : ja.toInt < 102 := (om_22e8107007 f1L19); show ja.toNatClampNeg < 102; omega) (by decide)) tw_281 tw_282 (by decide +kernel) rfl rfl ⟨Nat.le_of_ble_eq_true rfl, Nat.le_of_ble_eq_true rfl⟩ [] rfl (by decide) rfl hl.1 rfl (Nat.le_of_ble_eq_true rfl) dX13_sign_65 ⟨Nat.le_of_ble_eq_true rfl, Nat.le_of_ble_eq_true rfl⟩) hP hD hS hA (fun r47 H locs hw46 hP hD hS => ?_)
          have z48 : (32 ≤ r47.toInt ∧ r47.toInt ≤ 255) ∧ (r47.toInt = 32 ∨ ja.toInt ≠ 101) := ch_l24 (by have h9 := nat_z (x := ja) (om_526583db2b f1L2 f1L19); have h8 : ja.toInt < 102 := (om_22e8107007 f1L19); show ja.toNatClampNeg < 102; omega) hw46
          refine W.widen (k := 0) (n := 0) (Nat.le_refl _) (Nat.le_refl _) ?_
          refine lv_bipush (v := 8) hx hb dX13_sign_68 (by decide) ?_
          refine lv_iload_n hx hb dX13_sign_70 rfl (lv_at hl 2 rfl) ?_
          refine lv_iload_n hx hb dX13_sign_71 rfl (lv_at hl 3 rfl) ?_
          refine lv_isub hx hb dX13_sign_72 ?_
          have z49 : (ja - ia).toInt = ja.toInt - ia.toInt := sub_z rfl rfl (om_707f7a2fb5 f1L19) (om_616154b569 f1L2 f1L19)
          refine lv_imul hx hb dX13_sign_73 ?_
          have z50 : ((8 : Int32) * (ja - ia)).toInt = (8 : Int) * (ja.toInt - ia.toInt) := mul_z (show (8 : Int32).toInt = (8 : Int) by decide) z49 (om_b8cc7302f1 f1L19) (om_fc4cf59d33 f1L2 f1L19)
          refine lv_ishl hx hb dX13_sign_74 ?_
          refine lv_ior hx hb dX13_sign_75 ?_
          refine lv_istore (lv' := [(4, .int (va ||| (r47 <<< (((8 : Int32) * (ja - ia)) &&& 31)))), (5, .int 1), (3, .int ja), (2, .int ia), (0, .ref (ad 0)), (1, .int pa)]) hx hb dX13_sign_76 hl (by decide) rfl (fun ls hl => ?_)
          refine lv_iinc (v := (ja + (1 : Int32))) (lv' := [(3, .int (ja + (1 : Int32))), (4, .int (va ||| (r47 <<< (((8 : Int32) * (ja - ia)) &&& 31)))), (5, .int 1), (2, .int ia), (0, .ref (ad 0)), (1, .int pa)]) hx hb dX13_sign_78 hl (k := 2) rfl (rfl) (by decide) rfl (fun ls hl => ?_)
          have z51 : (ja + (1 : Int32)).toInt = ja.toInt + (1 : Int) := add_z rfl (show (1 : Int32).toInt = (1 : Int) by decide) (om_47fa826af2 f1L2 f1L19) (om_a1b43754a9 f1L19)
          refine lv_goto (tgt := 19) hx hb dX13_sign_81 (by decide) ?_
          exact ih19 ((ja + (1 : Int32)), (va ||| (r47 <<< (((8 : Int32) * (ja - ia)) &&& 31))), 1) _ _ _ (show (101 - (ja + (1 : Int32)).toInt).toNat < (101 - ja.toInt).toNat from tn_z (om_d3df7a31e5 z51) (om_3cbe3fede3 f1L19 z8 z19)) ⟨(show ia.toInt ≤ (ja + (1 : Int32)).toInt ∧ (ja + (1 : Int32)).toInt ≤ 101 from (om_dfdcce6d24 f1L19 z8 z19 z51)), (show (1 : Int) = 0 ∨ pa.toInt + (ja + (1 : Int32)).toInt - ia.toInt ≤ (v.1 0 4).toInt from (om_864218f08b z30 c31 z36 z45 z51)), (RT.st exL19 ⟨f1L19, f2L19, r7, hw6, z19, (Or.inr (⟨z28, r33, ex31, c31, r35, hw34, (Or.inr (⟨z45, r47, hw46, rfl⟩))⟩))⟩), hP, hD, hS, lv_sub hl [2, 1, 0, 3, 4, 5] rfl⟩
