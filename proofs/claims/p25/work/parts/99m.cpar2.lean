theorem dX5_condition_0 : decode cX5_condition 0 = .ok (.aload_n 0, 1) := by decide +kernel
theorem dX5_condition_1 : decode cX5_condition 1 = .ok (.getfield 20, 3) := by decide +kernel
theorem dX5_condition_4 : decode cX5_condition 4 = .ok (.bipush 30, 2) := by decide +kernel
theorem dX5_condition_6 : decode cX5_condition 6 = .ok (.invokevirtual 90, 3) := by decide +kernel
theorem dX5_condition_9 : decode cX5_condition 9 = .ok (.aload_n 0, 1) := by decide +kernel
theorem dX5_condition_10 : decode cX5_condition 10 = .ok (.getfield 20, 3) := by decide +kernel
theorem dX5_condition_13 : decode cX5_condition 13 = .ok (.invokevirtual 123, 3) := by decide +kernel
theorem dX5_condition_16 : decode cX5_condition 16 = .ok (.aload_n 0, 1) := by decide +kernel
theorem dX5_condition_17 : decode cX5_condition 17 = .ok (.getfield 36, 3) := by decide +kernel
theorem tw_608 : (.fieldLink RX5 36 "PocketCompiler$Parser" "expressions" "LPocketCompiler$Expressions;" : Cond) ∈ tw_W := tw_in (t8_2 (List.mem_of_getElem? (i := 58) rfl)) rfl
theorem dX5_condition_20 : decode cX5_condition 20 = .ok (.iconst 1, 1) := by decide +kernel
theorem dX5_condition_21 : decode cX5_condition 21 = .ok (.invokevirtual 213, 3) := by decide +kernel
theorem tw_609 : ∀ w ∈ ([.methodLink RX5 213 yX2_expression, .instanceMethod yX2_expression, .selects RX2 yX2_expression yX2_expression, .initialized RX2] : List Cond), w ∈ tw_W := al_c (tw_in (t8_4 (List.mem_of_getElem? (i := 79) rfl)) rfl) (al_c (tw_in (t8_4 (List.mem_of_getElem? (i := 80) rfl)) rfl) (al_c (tw_in (t8_4 (List.mem_of_getElem? (i := 81) rfl)) rfl) (al_c (tw_in (t8_1 (List.mem_of_getElem? (i := 12) rfl)) rfl) al_n)))
theorem dX5_condition_24 : decode cX5_condition 24 = .ok (.aload_n 0, 1) := by decide +kernel
theorem dX5_condition_25 : decode cX5_condition 25 = .ok (.getfield 20, 3) := by decide +kernel
theorem dX5_condition_28 : decode cX5_condition 28 = .ok (.bipush 31, 2) := by decide +kernel
theorem dX5_condition_30 : decode cX5_condition 30 = .ok (.invokevirtual 87, 3) := by decide +kernel
theorem dX5_condition_33 : decode cX5_condition 33 = .ok (.aload_n 0, 1) := by decide +kernel
theorem dX5_condition_34 : decode cX5_condition 34 = .ok (.getfield 20, 3) := by decide +kernel
theorem dX5_condition_37 : decode cX5_condition 37 = .ok (.invokevirtual 126, 3) := by decide +kernel
theorem dX5_condition_40 : decode cX5_condition 40 = .ok (.return_, 1) := by decide +kernel
theorem dX5_returnStat_0 : decode cX5_returnStat 0 = .ok (.aload_n 0, 1) := by decide +kernel
theorem dX5_returnStat_1 : decode cX5_returnStat 1 = .ok (.getfield 20, 3) := by decide +kernel
theorem dX5_returnStat_4 : decode cX5_returnStat 4 = .ok (.invokevirtual 117, 3) := by decide +kernel
theorem dX5_returnStat_7 : decode cX5_returnStat 7 = .ok (.aload_n 0, 1) := by decide +kernel
theorem dX5_returnStat_8 : decode cX5_returnStat 8 = .ok (.getfield 20, 3) := by decide +kernel
theorem dX5_returnStat_11 : decode cX5_returnStat 11 = .ok (.invokevirtual 48, 3) := by decide +kernel
theorem dX5_returnStat_14 : decode cX5_returnStat 14 = .ok (.bipush 36, 2) := by decide +kernel
theorem dX5_returnStat_16 : decode cX5_returnStat 16 = .ok (.if_icmp .ne 16, 3) := by decide +kernel
theorem dX5_returnStat_32 : decode cX5_returnStat 32 = .ok (.aload_n 0, 1) := by decide +kernel
theorem dX5_returnStat_33 : decode cX5_returnStat 33 = .ok (.getfield 36, 3) := by decide +kernel
theorem dX5_returnStat_36 : decode cX5_returnStat 36 = .ok (.iconst 1, 1) := by decide +kernel
theorem dX5_returnStat_37 : decode cX5_returnStat 37 = .ok (.invokevirtual 213, 3) := by decide +kernel
theorem dX5_returnStat_40 : decode cX5_returnStat 40 = .ok (.aload_n 0, 1) := by decide +kernel
theorem dX5_returnStat_41 : decode cX5_returnStat 41 = .ok (.getfield 27, 3) := by decide +kernel
theorem dX5_returnStat_44 : decode cX5_returnStat 44 = .ok (.bipush 19, 2) := by decide +kernel
theorem dX5_returnStat_46 : decode cX5_returnStat 46 = .ok (.aload_n 0, 1) := by decide +kernel
theorem dX5_returnStat_47 : decode cX5_returnStat 47 = .ok (.getfield 159, 3) := by decide +kernel
theorem tw_610 : (.fieldLink RX5 159 "PocketCompiler$Parser" "returnTo" "I" : Cond) ∈ tw_W := tw_in (t8_2 (List.mem_of_getElem? (i := 61) rfl)) rfl
theorem dX5_returnStat_50 : decode cX5_returnStat 50 = .ok (.iconst 0, 1) := by decide +kernel
theorem dX5_returnStat_51 : decode cX5_returnStat 51 = .ok (.invokevirtual 147, 3) := by decide +kernel
theorem dX5_returnStat_54 : decode cX5_returnStat 54 = .ok (.aload_n 0, 1) := by decide +kernel
theorem dX5_returnStat_55 : decode cX5_returnStat 55 = .ok (.getfield 20, 3) := by decide +kernel
theorem dX5_returnStat_58 : decode cX5_returnStat 58 = .ok (.bipush 36, 2) := by decide +kernel
theorem dX5_returnStat_60 : decode cX5_returnStat 60 = .ok (.invokevirtual 87, 3) := by decide +kernel
theorem dX5_returnStat_63 : decode cX5_returnStat 63 = .ok (.return_, 1) := by decide +kernel
theorem dX5_returnStat_19 : decode cX5_returnStat 19 = .ok (.aload_n 0, 1) := by decide +kernel
theorem dX5_returnStat_20 : decode cX5_returnStat 20 = .ok (.getfield 27, 3) := by decide +kernel
theorem dX5_returnStat_23 : decode cX5_returnStat 23 = .ok (.iconst 2, 1) := by decide +kernel
theorem dX5_returnStat_24 : decode cX5_returnStat 24 = .ok (.iconst 0, 1) := by decide +kernel
theorem dX5_returnStat_25 : decode cX5_returnStat 25 = .ok (.iconst 0, 1) := by decide +kernel
theorem dX5_returnStat_26 : decode cX5_returnStat 26 = .ok (.invokevirtual 147, 3) := by decide +kernel
theorem dX5_returnStat_29 : decode cX5_returnStat 29 = .ok (.goto 11, 3) := by decide +kernel
theorem dX5_local_0 : decode cX5_local 0 = .ok (.aload_n 0, 1) := by decide +kernel
theorem dX5_local_1 : decode cX5_local 1 = .ok (.getfield 20, 3) := by decide +kernel
theorem dX5_local_4 : decode cX5_local 4 = .ok (.invokevirtual 117, 3) := by decide +kernel
theorem dX5_local_7 : decode cX5_local 7 = .ok (.aload_n 0, 1) := by decide +kernel
theorem dX5_local_8 : decode cX5_local 8 = .ok (.invokevirtual 174, 3) := by decide +kernel
theorem dX5_local_11 : decode cX5_local 11 = .ok (.istore_n 1, 1) := by decide +kernel
theorem dX5_local_12 : decode cX5_local 12 = .ok (.aload_n 0, 1) := by decide +kernel
theorem dX5_local_13 : decode cX5_local 13 = .ok (.invokevirtual 177, 3) := by decide +kernel
theorem dX5_local_16 : decode cX5_local 16 = .ok (.aload_n 0, 1) := by decide +kernel
theorem dX5_local_17 : decode cX5_local 17 = .ok (.getfield 27, 3) := by decide +kernel
theorem dX5_local_20 : decode cX5_local 20 = .ok (.invokevirtual 220, 3) := by decide +kernel
theorem tw_611 : ∀ w ∈ ([.methodLink RX5 220 yX1_nextSlot, .instanceMethod yX1_nextSlot, .selects RX1 yX1_nextSlot yX1_nextSlot, .initialized RX1] : List Cond), w ∈ tw_W := al_c (tw_in (t8_4 (List.mem_of_getElem? (i := 75) rfl)) rfl) (al_c (tw_in (t8_4 (List.mem_of_getElem? (i := 76) rfl)) rfl) (al_c (tw_in (t8_4 (List.mem_of_getElem? (i := 77) rfl)) rfl) (al_c (tw_in (t8_1 (List.mem_of_getElem? (i := 11) rfl)) rfl) al_n)))
theorem dX5_local_23 : decode cX5_local 23 = .ok (.istore_n 2, 1) := by decide +kernel
theorem dX5_local_24 : decode cX5_local 24 = .ok (.aload_n 0, 1) := by decide +kernel
theorem dX5_local_25 : decode cX5_local 25 = .ok (.getfield 20, 3) := by decide +kernel
theorem dX5_local_28 : decode cX5_local 28 = .ok (.invokevirtual 117, 3) := by decide +kernel
theorem dX5_local_31 : decode cX5_local 31 = .ok (.aload_n 0, 1) := by decide +kernel
theorem dX5_local_32 : decode cX5_local 32 = .ok (.getfield 20, 3) := by decide +kernel
theorem dX5_local_35 : decode cX5_local 35 = .ok (.invokevirtual 48, 3) := by decide +kernel
theorem dX5_local_38 : decode cX5_local 38 = .ok (.bipush 42, 2) := by decide +kernel
theorem dX5_local_40 : decode cX5_local 40 = .ok (.if_icmp .ne 21, 3) := by decide +kernel
theorem dX5_local_61 : decode cX5_local 61 = .ok (.aload_n 0, 1) := by decide +kernel
theorem dX5_local_62 : decode cX5_local 62 = .ok (.getfield 27, 3) := by decide +kernel
theorem dX5_local_65 : decode cX5_local 65 = .ok (.iconst 2, 1) := by decide +kernel
theorem dX5_local_66 : decode cX5_local 66 = .ok (.iconst 0, 1) := by decide +kernel
theorem dX5_local_67 : decode cX5_local 67 = .ok (.iconst 0, 1) := by decide +kernel
theorem dX5_local_68 : decode cX5_local 68 = .ok (.invokevirtual 147, 3) := by decide +kernel
theorem dX5_local_71 : decode cX5_local 71 = .ok (.aload_n 0, 1) := by decide +kernel
theorem dX5_local_72 : decode cX5_local 72 = .ok (.getfield 27, 3) := by decide +kernel
theorem dX5_local_75 : decode cX5_local 75 = .ok (.iconst 4, 1) := by decide +kernel
theorem dX5_local_76 : decode cX5_local 76 = .ok (.iload_n 2, 1) := by decide +kernel
theorem dX5_local_77 : decode cX5_local 77 = .ok (.iconst 0, 1) := by decide +kernel
theorem dX5_local_78 : decode cX5_local 78 = .ok (.invokevirtual 147, 3) := by decide +kernel
theorem dX5_local_81 : decode cX5_local 81 = .ok (.aload_n 0, 1) := by decide +kernel
theorem dX5_local_82 : decode cX5_local 82 = .ok (.getfield 20, 3) := by decide +kernel
theorem dX5_local_85 : decode cX5_local 85 = .ok (.bipush 36, 2) := by decide +kernel
theorem dX5_local_87 : decode cX5_local 87 = .ok (.invokevirtual 87, 3) := by decide +kernel
theorem dX5_local_90 : decode cX5_local 90 = .ok (.aload_n 0, 1) := by decide +kernel
theorem dX5_local_91 : decode cX5_local 91 = .ok (.getfield 27, 3) := by decide +kernel
theorem dX5_local_94 : decode cX5_local 94 = .ok (.iload_n 1, 1) := by decide +kernel
theorem dX5_local_95 : decode cX5_local 95 = .ok (.invokevirtual 180, 3) := by decide +kernel
theorem dX5_local_98 : decode cX5_local 98 = .ok (.return_, 1) := by decide +kernel
theorem dX5_local_43 : decode cX5_local 43 = .ok (.aload_n 0, 1) := by decide +kernel
theorem dX5_local_44 : decode cX5_local 44 = .ok (.getfield 20, 3) := by decide +kernel
theorem dX5_local_47 : decode cX5_local 47 = .ok (.invokevirtual 117, 3) := by decide +kernel
theorem dX5_local_50 : decode cX5_local 50 = .ok (.aload_n 0, 1) := by decide +kernel
theorem dX5_local_51 : decode cX5_local 51 = .ok (.getfield 36, 3) := by decide +kernel
theorem dX5_local_54 : decode cX5_local 54 = .ok (.iconst 1, 1) := by decide +kernel
theorem dX5_local_55 : decode cX5_local 55 = .ok (.invokevirtual 213, 3) := by decide +kernel
theorem dX5_local_58 : decode cX5_local 58 = .ok (.goto 13, 3) := by decide +kernel
theorem dX5_optional_0 : decode cX5_optional 0 = .ok (.aload_n 0, 1) := by decide +kernel
theorem dX5_optional_1 : decode cX5_optional 1 = .ok (.getfield 20, 3) := by decide +kernel
theorem dX5_optional_4 : decode cX5_optional 4 = .ok (.invokevirtual 48, 3) := by decide +kernel
theorem dX5_optional_7 : decode cX5_optional 7 = .ok (.iload_n 1, 1) := by decide +kernel
theorem dX5_optional_8 : decode cX5_optional 8 = .ok (.if_icmp .ne 5, 3) := by decide +kernel
theorem dX5_optional_13 : decode cX5_optional 13 = .ok (.aload_n 0, 1) := by decide +kernel
theorem dX5_optional_14 : decode cX5_optional 14 = .ok (.getfield 36, 3) := by decide +kernel
theorem dX5_optional_17 : decode cX5_optional 17 = .ok (.iconst 1, 1) := by decide +kernel
theorem dX5_optional_18 : decode cX5_optional 18 = .ok (.invokevirtual 213, 3) := by decide +kernel
theorem dX5_optional_21 : decode cX5_optional 21 = .ok (.iconst 1, 1) := by decide +kernel
theorem dX5_optional_22 : decode cX5_optional 22 = .ok (.ireturn, 1) := by decide +kernel
theorem dX5_optional_11 : decode cX5_optional 11 = .ok (.iconst 0, 1) := by decide +kernel
theorem dX5_optional_12 : decode cX5_optional 12 = .ok (.ireturn, 1) := by decide +kernel
theorem dX5_innerStat_0 : decode cX5_innerStat 0 = .ok (.aload_n 0, 1) := by decide +kernel
theorem dX5_innerStat_1 : decode cX5_innerStat 1 = .ok (.getfield 27, 3) := by decide +kernel
theorem dX5_innerStat_4 : decode cX5_innerStat 4 = .ok (.getfield 141, 3) := by decide +kernel
theorem dX5_innerStat_7 : decode cX5_innerStat 7 = .ok (.istore_n 1, 1) := by decide +kernel
theorem dX5_innerStat_8 : decode cX5_innerStat 8 = .ok (.aload_n 0, 1) := by decide +kernel
theorem dX5_innerStat_9 : decode cX5_innerStat 9 = .ok (.getfield 27, 3) := by decide +kernel
theorem dX5_innerStat_12 : decode cX5_innerStat 12 = .ok (.getfield 217, 3) := by decide +kernel
theorem dX5_innerStat_15 : decode cX5_innerStat 15 = .ok (.istore_n 2, 1) := by decide +kernel
theorem dX5_innerStat_16 : decode cX5_innerStat 16 = .ok (.aload_n 0, 1) := by decide +kernel
theorem dX5_innerStat_17 : decode cX5_innerStat 17 = .ok (.getfield 27, 3) := by decide +kernel
theorem dX5_innerStat_20 : decode cX5_innerStat 20 = .ok (.iload_n 1, 1) := by decide +kernel
theorem dX5_innerStat_21 : decode cX5_innerStat 21 = .ok (.putfield 217, 3) := by decide +kernel
theorem dX5_innerStat_24 : decode cX5_innerStat 24 = .ok (.aload_n 0, 1) := by decide +kernel
theorem dX5_innerStat_25 : decode cX5_innerStat 25 = .ok (.invokevirtual 189, 3) := by decide +kernel
theorem tw_612 : (.code yX5_stat cX5_stat 1 none : Cond) ∈ tw_W := tw_in (t8_4 (List.mem_of_getElem? (i := 66) rfl)) rfl
theorem tw_613 : ∀ w ∈ ([.methodLink RX5 189 yX5_stat, .instanceMethod yX5_stat, .selects RX5 yX5_stat yX5_stat, .initialized RX5] : List Cond), w ∈ tw_W := al_c (tw_in (t8_4 (List.mem_of_getElem? (i := 63) rfl)) rfl) (al_c (tw_in (t8_4 (List.mem_of_getElem? (i := 65) rfl)) rfl) (al_c (tw_in (t7_2 (q := (yX5_stat, 7)) (List.mem_of_getElem? (i := 3) rfl)) rfl) (al_c (tw_in (t8_1 (List.mem_of_getElem? (i := 9) rfl)) rfl) al_n)))
theorem dX5_innerStat_28 : decode cX5_innerStat 28 = .ok (.aload_n 0, 1) := by decide +kernel
theorem dX5_innerStat_29 : decode cX5_innerStat 29 = .ok (.getfield 27, 3) := by decide +kernel
theorem dX5_innerStat_32 : decode cX5_innerStat 32 = .ok (.iload_n 1, 1) := by decide +kernel
theorem dX5_innerStat_33 : decode cX5_innerStat 33 = .ok (.putfield 141, 3) := by decide +kernel
theorem dX5_innerStat_36 : decode cX5_innerStat 36 = .ok (.aload_n 0, 1) := by decide +kernel
theorem dX5_innerStat_37 : decode cX5_innerStat 37 = .ok (.getfield 27, 3) := by decide +kernel
theorem dX5_innerStat_40 : decode cX5_innerStat 40 = .ok (.iload_n 2, 1) := by decide +kernel
theorem dX5_innerStat_41 : decode cX5_innerStat 41 = .ok (.putfield 217, 3) := by decide +kernel
theorem dX5_innerStat_44 : decode cX5_innerStat 44 = .ok (.return_, 1) := by decide +kernel
theorem dX5_stats_0 : decode cX5_stats 0 = .ok (.iconst 0, 1) := by decide +kernel
theorem dX5_stats_1 : decode cX5_stats 1 = .ok (.istore_n 1, 1) := by decide +kernel
theorem dX5_stats_2 : decode cX5_stats 2 = .ok (.iload_n 1, 1) := by decide +kernel
theorem dX5_stats_3 : decode cX5_stats 3 = .ok (.sipush 1500, 3) := by decide +kernel
theorem dX5_stats_6 : decode cX5_stats 6 = .ok (.if_icmp .ge 25, 3) := by decide +kernel
theorem dX5_stats_31 : decode cX5_stats 31 = .ok (.return_, 1) := by decide +kernel
theorem dX5_stats_9 : decode cX5_stats 9 = .ok (.aload_n 0, 1) := by decide +kernel
theorem dX5_stats_10 : decode cX5_stats 10 = .ok (.getfield 20, 3) := by decide +kernel
theorem dX5_stats_13 : decode cX5_stats 13 = .ok (.invokevirtual 48, 3) := by decide +kernel
theorem dX5_stats_16 : decode cX5_stats 16 = .ok (.bipush 33, 2) := by decide +kernel
theorem dX5_stats_18 : decode cX5_stats 18 = .ok (.if_icmp .eq 13, 3) := by decide +kernel
theorem dX5_stats_21 : decode cX5_stats 21 = .ok (.aload_n 0, 1) := by decide +kernel
theorem dX5_stats_22 : decode cX5_stats 22 = .ok (.invokevirtual 189, 3) := by decide +kernel
theorem dX5_stats_25 : decode cX5_stats 25 = .ok (.iinc 1 1, 3) := by decide +kernel
theorem dX5_stats_28 : decode cX5_stats 28 = .ok (.goto (-26), 3) := by decide +kernel
set_option maxHeartbeats 16000000 in
set_option maxRecDepth 100000 in
theorem c_x_X5_condition (l : Launch) (n : Nat) (dC : Nat → ClassId) (dI : Nat → Nat → Nat) (cI cB cZ cJ cR : ClassId) (tb : Nat → Nat) (sz : Nat) (ad : Nat → Nat) (pr : Int32 → Nat) (N : Nat) (L1 L2 : List Nat) (v : MS) (ps : Int32) (z304 : 0 ≤ (v.1 0 304).toInt ∧ (v.1 0 304).toInt ≤ 1503) (z306 : 0 ≤ (v.1 0 306).toInt ∧ (v.1 0 306).toInt ≤ 40) (z312 : 0 ≤ (v.1 0 312).toInt ∧ (v.1 0 312).toInt ≤ 500) (z321 : 0 ≤ (v.1 0 321).toInt ∧ (v.1 0 321).toInt ≤ 501) (z326 : 0 ≤ (v.1 0 326).toInt ∧ (v.1 0 326).toInt ≤ 420) (z373 : 0 ≤ (v.1 0 373).toInt ∧ (v.1 0 373).toInt ≤ 4000) (z381 : 0 ≤ (v.1 0 381).toInt ∧ (v.1 0 381).toInt ≤ 3008) (hL1 : L1.length = 40) (hL2 : L2.length = 60) (rp : RP v) (hps : pr ps = ad 908) (es300 : (v.1 0 300) = ps) (es310 : (v.1 0 310) = ps) (hst : l.stackTraces = false) (zn : 40 ≤ (v.1 0 306).toInt + (n : Int)) : vx_Met l yX5_condition (Cond.code yX5_condition cX5_condition 1 none :: tw_W) ({ frames := 8 * n + 14, cells := 1, slots := 6, locals := 28 * (8 * n + 14) }) (pc_ (dC, dI) (tyS cI cB cZ cJ cR) tb (cW ad pr N cI cR L1 L2 v) sz [.ref (ad 903)]) (qvz_ (dC, dI) (cW ad pr N cI cR L1 L2 v) sz (fun (u : MS) => FC [305, 306, 307, 314, 315, 317, 321, 326, 381] [0, 316, 318, 319, 320, 324, 325, 378, 379, 380] v u ∧ (0 ≤ (u.1 0 306).toInt ∧ (u.1 0 306).toInt ≤ 40) ∧ (0 ≤ (u.1 0 321).toInt ∧ (u.1 0 321).toInt ≤ 501) ∧ (0 ≤ (u.1 0 326).toInt ∧ (u.1 0 326).toInt ≤ 420) ∧ (0 ≤ (u.1 0 381).toInt ∧ (u.1 0 381).toInt ≤ 3008) ∧ ((u.1 0 306).toInt = (v.1 0 306).toInt)) (fun (u : MS) => (cW ad pr N cI cR L1 L2 u))) (qxc (dC, dI) (cW ad pr N cI cR L1 L2 v) sz (fun (u : MS) => (cW ad pr N cI cR L1 L2 u)) (fun (u : MS) => FC xfl xal v u ∧ (u.1 0 308).toInt ≠ 0)) 1 6 (va_A (cW ad pr N cI cR L1 L2 v) sz) := by
  refine vx_ofW (cc := cX5_condition) (maxL := 1) (ret := none) (by decide) rfl ?_
  intro p e s m args below meth c s₁ B hml hnt hv
  obtain ⟨rfl, hsz, hP, hKK, hD0, hFx⟩ := hv
  have hK := hKK.1
  have hx := B.exec
  have hb := B.bytes
  have hr := B.returns
  have ht : ∀ w ∈ tw_W, w.before _ s = true := fun w h => atoms_spec (ws := Cond.code yX5_condition cX5_condition 1 none :: tw_W) B.pre w (List.mem_cons_of_mem _ h)
  have hown : s.vm.findClass RX5 = some m.cls := findClass_of_methodNamed B.named
  have hlocks := B.notSynchronized
  subst hsz
  unfold qvz_ qxc
  have hD := hD0.self (sz := s.heap.size)
  generalize hAe : va_A (cW ad pr N cI cR L1 L2 v) s.heap.size = A at hD hFx ⊢
  have hA : ∀ q : Nat, s.heap.size ≤ q → A q := fun q h => by rw [← hAe]; exact Or.inr h
  have hS : va_S A s.heap s.heap [] := va_S.rf
  have hl := lv_entry ([.ref (ad 903)]) (n := 1) (Nat.le_of_ble_eq_true rfl)
  rw [lg_entry_eq]
  generalize (lg_sl ([.ref (ad 903)]) ++ List.replicate (1 - (lg_sl ([.ref (ad 903)])).length) Slot.unset).toArray = ls at hl ⊢
  have hl : lv_has ls 1 [(0, .ref (ad 903))] := hl
  refine lv_aload_n hx hb dX5_condition_0 rfl (lv_at hl 0 rfl) ?_
  refine va_get (D := (dC, dI)) (ci := 8) (fs := oF_X5 ad pr v) (v := .ref (ad 900)) (C := RX5) (T := TX5) (N := 7) hx hb ht itX5 hown hK hP 3 rfl rfl 1 (by decide) (ht _ tw_571) (fun _ h9 => h9) rfl dX5_condition_1 ?_
  refine lv_bipush (v := 30) hx hb dX5_condition_4 (by decide) ?_
  refine W.sz (fun hz9 => ?_)
  refine czx_v (rx_Vk (n := 1) (As := [.int 30]) (rest := []) hx hb hml hown ht hKK hFx hP hD hS hA (c_x_X9_need l dC dI cI cB cZ cJ cR tb s.heap.size ad pr N L1 L2 v (30 : Int32) ps (show 0 ≤ (v.1 0 304).toInt ∧ (v.1 0 304).toInt ≤ 1503 from (om_c99648273b z304)) (show 0 ≤ (v.1 0 373).toInt ∧ (v.1 0 373).toInt ≤ 4000 from (om_c74a68af25 z373)) (show pr ps = ad 908 from hps) (show (v.1 0 300) = ps from es300) (show l.stackTraces = false from hst)) tw_559 tw_572 (by decide +kernel) rfl rfl ⟨show 7 + 1 ≤ 8 * n + 14 from om_46126d3ba0, show 8 + (2 + 11) + 104 ≤ 28 * (8 * n + 14) from om_2d7c913608⟩ (List.range (cW ad pr N cI cR L1 L2 v).length) (rg_map _) (nd_range _) 0 rfl rfl rfl rfl hl.1 rfl (Nat.le_of_ble_eq_true rfl) dX5_condition_6 ⟨Nat.le_of_ble_eq_true rfl, Nat.le_of_ble_eq_true rfl⟩) hP hD hS hA (fun u9 ce9 q9 H locs hx9 hP hD hS hc9 hv9 hf9 => ?_) (fun u2 H locs hw1 hP hD hS hz8 => ?_)
  · exact vx_out (fun x h9 => (hnt x h9).elim) hlocks hc9 hv9 hf9 (fun t9 ht9 hv8 => ⟨u9, ⟨FC.tr (FC.rf _) hx9.1, hx9.2⟩, ⟨rfl, by rw [ht9]; exact hP, hD⟩, hS.F ht9⟩) hS.2.2 (Nat.le_refl _) (Nat.le_refl _)
  refine W.shrink (hz8.trans hz9) ?_
  have fr1 := hw1
  refine lv_aload_n hx hb dX5_condition_9 rfl (lv_at hl 0 rfl) ?_
  refine va_get (D := (dC, dI)) (ci := 8) (fs := oF_X5 ad pr u2) (v := .ref (ad 900)) (C := RX5) (T := TX5) (N := 7) hx hb ht itX5 hown hK hP 3 rfl rfl 1 (by decide) (ht _ tw_571) (fun _ h9 => h9) rfl dX5_condition_10 ?_
  have q4 : (u2.1 0 304).toInt = (v.1 0 304).toInt := congrArg Int32.toInt ((fr1.2.1 304 (by decide)).trans (show v.1 0 304 = (v.1 0 304) by rfl))
  have q5 : (u2.1 0 306).toInt = (v.1 0 306).toInt := congrArg Int32.toInt ((fr1.2.1 306 (by decide)).trans (show v.1 0 306 = (v.1 0 306) by rfl))
  have q6 : (u2.1 0 373).toInt = (v.1 0 373).toInt := congrArg Int32.toInt ((fr1.2.1 373 (by decide)).trans (show v.1 0 373 = (v.1 0 373) by rfl))
  refine W.sz (fun hz9 => ?_)
  refine czx_v (rx_Vk (n := 0) (As := []) (rest := []) hx hb hml hown ht hKK hFx hP hD hS hA (c_x_X9_open l dC dI cI cB cZ cJ cR tb H.size ad pr N L1 L2 u2 ps (show 0 ≤ (u2.1 0 304).toInt ∧ (u2.1 0 304).toInt ≤ 1503 from (om_73002589c1 z304 q4)) (show 0 ≤ (u2.1 0 306).toInt ∧ (u2.1 0 306).toInt ≤ 40 from (om_99e115f631 z306 q5)) (show 0 ≤ (u2.1 0 373).toInt ∧ (u2.1 0 373).toInt ≤ 4000 from (om_9084c127ed z373 q6)) (show pr ps = ad 908 from hps) (show (u2.1 0 300) = ps from (Eq.trans (fr1.2.1 300 (by decide)) es300)) (show l.stackTraces = false from hst)) tw_524 tw_593 (by decide +kernel) rfl rfl ⟨show 7 + 1 ≤ 8 * n + 14 from om_46126d3ba0, show 8 + (1 + 11) + 104 ≤ 28 * (8 * n + 14) from om_6017b980b8⟩ (List.range (cW ad pr N cI cR L1 L2 u2).length) (rg_map _) (nd_range _) 0 rfl rfl rfl rfl hl.1 rfl (Nat.le_of_ble_eq_true rfl) dX5_condition_13 ⟨Nat.le_of_ble_eq_true rfl, Nat.le_of_ble_eq_true rfl⟩) hP hD hS hA (fun u9 ce9 q9 H locs hx9 hP hD hS hc9 hv9 hf9 => ?_) (fun u8 H locs hw7 hP hD hS hz8 => ?_)
  · exact vx_out (fun x h9 => (hnt x h9).elim) hlocks hc9 hv9 hf9 (fun t9 ht9 hv8 => ⟨u9, ⟨FC.tr (FC.tr (FC.rf _) (FC.up fr1 (by decide) (by decide))) hx9.1, hx9.2⟩, ⟨rfl, by rw [ht9]; exact hP, hD⟩, hS.F ht9⟩) hS.2.2 (Nat.le_refl _) (Nat.le_refl _)
  refine W.shrink (hz8.trans hz9) ?_
  obtain ⟨fr7, i3067, pj7⟩ := hw7
  have i3067 : 0 ≤ (u8.1 0 306).toInt ∧ (u8.1 0 306).toInt ≤ 40 := i3067
  have pj7 : (u8.1 0 306).toInt = (u2.1 0 306).toInt + 1 := pj7
  refine lv_aload_n hx hb dX5_condition_16 rfl (lv_at hl 0 rfl) ?_
  refine va_get (D := (dC, dI)) (ci := 8) (fs := oF_X5 ad pr u8) (v := .ref (ad 902)) (C := RX5) (T := TX5) (N := 7) hx hb ht itX5 hown hK hP 3 rfl rfl 3 (by decide) (ht _ tw_608) (fun _ h9 => h9) rfl dX5_condition_17 ?_
  refine lv_iconst (v := 1) hx hb dX5_condition_20 (by decide) ?_
  obtain ⟨n10, hn11⟩ : ∃ m, n = m + 1 := ex_z (om_5ac3184894 zn q5 i3067 pj7)
  have q12 : (u8.1 0 304).toInt = (u2.1 0 304).toInt := congrArg Int32.toInt ((fr7.2.1 304 (by decide)).trans (show u2.1 0 304 = (u2.1 0 304) by rfl))
  have q13 : (u2.1 0 312).toInt = (v.1 0 312).toInt := congrArg Int32.toInt ((fr1.2.1 312 (by decide)).trans (show v.1 0 312 = (v.1 0 312) by rfl))
  have q14 : (u8.1 0 312).toInt = (u2.1 0 312).toInt := congrArg Int32.toInt ((fr7.2.1 312 (by decide)).trans (show u2.1 0 312 = (u2.1 0 312) by rfl))
  have q15 : (u2.1 0 321).toInt = (v.1 0 321).toInt := congrArg Int32.toInt ((fr1.2.1 321 (by decide)).trans (show v.1 0 321 = (v.1 0 321) by rfl))
  have q16 : (u8.1 0 321).toInt = (u2.1 0 321).toInt := congrArg Int32.toInt ((fr7.2.1 321 (by decide)).trans (show u2.1 0 321 = (u2.1 0 321) by rfl))
  have q17 : (u2.1 0 326).toInt = (v.1 0 326).toInt := congrArg Int32.toInt ((fr1.2.1 326 (by decide)).trans (show v.1 0 326 = (v.1 0 326) by rfl))
  have q18 : (u8.1 0 326).toInt = (u2.1 0 326).toInt := congrArg Int32.toInt ((fr7.2.1 326 (by decide)).trans (show u2.1 0 326 = (u2.1 0 326) by rfl))
  have q19 : (u8.1 0 373).toInt = (u2.1 0 373).toInt := congrArg Int32.toInt ((fr7.2.1 373 (by decide)).trans (show u2.1 0 373 = (u2.1 0 373) by rfl))
  have q20 : (u2.1 0 381).toInt = (v.1 0 381).toInt := congrArg Int32.toInt ((fr1.2.1 381 (by decide)).trans (show v.1 0 381 = (v.1 0 381) by rfl))
  have q21 : (u8.1 0 381).toInt = (u2.1 0 381).toInt := congrArg Int32.toInt ((fr7.2.1 381 (by decide)).trans (show u2.1 0 381 = (u2.1 0 381) by rfl))
  refine W.sz (fun hz9 => ?_)
  refine czx_v (rx_Vk (n := 1) (As := [.int 1]) (rest := []) hx hb hml hown ht hKK hFx hP hD hS hA ((cq_all l n10).1 dC dI cI cB cZ cJ cR tb H.size ad pr N L1 L2 u8 (1 : Int32) ps (show 0 ≤ (u8.1 0 304).toInt ∧ (u8.1 0 304).toInt ≤ 1503 from (om_dd87ee851a z304 q4 q12)) (show 0 ≤ (u8.1 0 306).toInt ∧ (u8.1 0 306).toInt ≤ 40 from (om_7eaf33e007 i3067)) (show 0 ≤ (u8.1 0 312).toInt ∧ (u8.1 0 312).toInt ≤ 500 from (om_8a5975ec21 z312 q13 q14)) (show 0 ≤ (u8.1 0 321).toInt ∧ (u8.1 0 321).toInt ≤ 501 from (om_4dfa815534 z321 q15 q16)) (show 0 ≤ (u8.1 0 326).toInt ∧ (u8.1 0 326).toInt ≤ 420 from (om_9591dea625 z326 q17 q18)) (show 0 ≤ (u8.1 0 373).toInt ∧ (u8.1 0 373).toInt ≤ 4000 from (om_03cd8767ac z373 q6 q19)) (show 0 ≤ (u8.1 0 381).toInt ∧ (u8.1 0 381).toInt ≤ 3008 from (om_769192f2a4 z381 q20 q21)) (show L1.length = 40 from hL1) (show L2.length = 60 from hL2) (show RP u8 from ((show FC [305, 306, 307, 314, 315, 317, 321, 326, 381] [0, 316, 318, 319, 320, 324, 325, 378, 379, 380] v u8 from (FC.tr (FC.tr (FC.rf _) (FC.up fr1 (by decide) (by decide))) (FC.up fr7 (by decide) (by decide)))).1 rp)) (show pr ps = ad 908 from hps) (show (u8.1 0 300) = ps from (Eq.trans (fr7.2.1 300 (by decide)) (Eq.trans (fr1.2.1 300 (by decide)) es300))) (show (u8.1 0 310) = ps from (Eq.trans (fr7.2.1 310 (by decide)) (Eq.trans (fr1.2.1 310 (by decide)) es310))) (show l.stackTraces = false from hst) (show 40 ≤ (u8.1 0 306).toInt + (n10 : Int) from (om_d3bd070dcf zn q5 pj7 hn11))) tw_520 tw_609 (by decide +kernel) rfl rfl ⟨show (8 * n10 + 20) + 1 ≤ 8 * n + 14 from (om_74f46d92b7 hn11), show 8 + (5 + 11) + 28 * (8 * n10 + 20) ≤ 28 * (8 * n + 14) from (om_a843c7c5cc hn11)⟩ (List.range (cW ad pr N cI cR L1 L2 u8).length) (rg_map _) (nd_range _) 2 rfl rfl rfl rfl hl.1 rfl (Nat.le_of_ble_eq_true rfl) dX5_condition_21 ⟨Nat.le_of_ble_eq_true rfl, Nat.le_of_ble_eq_true rfl⟩) hP hD hS hA (fun u9 ce9 q9 H locs hx9 hP hD hS hc9 hv9 hf9 => ?_) (fun u23 H locs hw22 hP hD hS hz8 => ?_)
  · exact vx_out (fun x h9 => (hnt x h9).elim) hlocks hc9 hv9 hf9 (fun t9 ht9 hv8 => ⟨u9, ⟨FC.tr (FC.tr (FC.tr (FC.rf _) (FC.up fr1 (by decide) (by decide))) (FC.up fr7 (by decide) (by decide))) hx9.1, hx9.2⟩, ⟨rfl, by rw [ht9]; exact hP, hD⟩, hS.F ht9⟩) hS.2.2 (Nat.le_refl _) (Nat.le_refl _)
  refine W.shrink (hz8.trans hz9) ?_
  obtain ⟨fr22, i30622, i32122, i32622, i38122, po22⟩ := hw22
  have i30622 : 0 ≤ (u23.1 0 306).toInt ∧ (u23.1 0 306).toInt ≤ 40 := i30622
  have i32122 : 0 ≤ (u23.1 0 321).toInt ∧ (u23.1 0 321).toInt ≤ 501 := i32122
  have i32622 : 0 ≤ (u23.1 0 326).toInt ∧ (u23.1 0 326).toInt ≤ 420 := i32622
  have i38122 : 0 ≤ (u23.1 0 381).toInt ∧ (u23.1 0 381).toInt ≤ 3008 := i38122
  have po22 : (u23.1 0 306).toInt = (u8.1 0 306).toInt := po22
  refine lv_aload_n hx hb dX5_condition_24 rfl (lv_at hl 0 rfl) ?_
  refine va_get (D := (dC, dI)) (ci := 8) (fs := oF_X5 ad pr u23) (v := .ref (ad 900)) (C := RX5) (T := TX5) (N := 7) hx hb ht itX5 hown hK hP 3 rfl rfl 1 (by decide) (ht _ tw_571) (fun _ h9 => h9) rfl dX5_condition_25 ?_
  refine lv_bipush (v := 31) hx hb dX5_condition_28 (by decide) ?_
  have q25 : (u23.1 0 304).toInt = (u8.1 0 304).toInt := congrArg Int32.toInt ((fr22.2.1 304 (by decide)).trans (show u8.1 0 304 = (u8.1 0 304) by rfl))
  have q26 : (u23.1 0 373).toInt = (u8.1 0 373).toInt := congrArg Int32.toInt ((fr22.2.1 373 (by decide)).trans (show u8.1 0 373 = (u8.1 0 373) by rfl))
  refine W.sz (fun hz9 => ?_)
  refine czx_v (rx_Vk (n := 1) (As := [.int 31]) (rest := []) hx hb hml hown ht hKK hFx hP hD hS hA (c_x_X9_expect l dC dI cI cB cZ cJ cR tb H.size ad pr N L1 L2 u23 (31 : Int32) ps (show 0 ≤ (u23.1 0 304).toInt ∧ (u23.1 0 304).toInt ≤ 1503 from (om_57e3d9ffbd z304 q4 q12 q25)) (show 0 ≤ (u23.1 0 373).toInt ∧ (u23.1 0 373).toInt ≤ 4000 from (om_282c7f458f z373 q6 q19 q26)) (show pr ps = ad 908 from hps) (show (u23.1 0 300) = ps from (Eq.trans (fr22.2.1 300 (by decide)) (Eq.trans (fr7.2.1 300 (by decide)) (Eq.trans (fr1.2.1 300 (by decide)) es300)))) (show l.stackTraces = false from hst)) tw_526 tw_580 (by decide +kernel) rfl rfl ⟨show 7 + 1 ≤ 8 * n + 14 from om_46126d3ba0, show 8 + (2 + 11) + 104 ≤ 28 * (8 * n + 14) from om_2d7c913608⟩ (List.range (cW ad pr N cI cR L1 L2 u23).length) (rg_map _) (nd_range _) 0 rfl rfl rfl rfl hl.1 rfl (Nat.le_of_ble_eq_true rfl) dX5_condition_30 ⟨Nat.le_of_ble_eq_true rfl, Nat.le_of_ble_eq_true rfl⟩) hP hD hS hA (fun u9 ce9 q9 H locs hx9 hP hD hS hc9 hv9 hf9 => ?_) (fun u28 H locs hw27 hP hD hS hz8 => ?_)
  · exact vx_out (fun x h9 => (hnt x h9).elim) hlocks hc9 hv9 hf9 (fun t9 ht9 hv8 => ⟨u9, ⟨FC.tr (FC.tr (FC.tr (FC.tr (FC.rf _) (FC.up fr1 (by decide) (by decide))) (FC.up fr7 (by decide) (by decide))) (FC.up fr22 (by decide) (by decide))) hx9.1, hx9.2⟩, ⟨rfl, by rw [ht9]; exact hP, hD⟩, hS.F ht9⟩) hS.2.2 (Nat.le_refl _) (Nat.le_refl _)
  refine W.shrink (hz8.trans hz9) ?_
  have fr27 := hw27
  refine lv_aload_n hx hb dX5_condition_33 rfl (lv_at hl 0 rfl) ?_
  refine va_get (D := (dC, dI)) (ci := 8) (fs := oF_X5 ad pr u28) (v := .ref (ad 900)) (C := RX5) (T := TX5) (N := 7) hx hb ht itX5 hown hK hP 3 rfl rfl 1 (by decide) (ht _ tw_571) (fun _ h9 => h9) rfl dX5_condition_34 ?_
  have q30 : (u28.1 0 306).toInt = (u23.1 0 306).toInt := congrArg Int32.toInt ((fr27.2.1 306 (by decide)).trans (show u23.1 0 306 = (u23.1 0 306) by rfl))
  refine cu_v (rn_Vk (n := 0) (As := []) (rest := []) hx hb hml hown ht hKK hFx hP hD hS hA (c_x_X9_close l dC dI cI cB cZ cJ cR tb H.size ad pr N L1 L2 u28  (show 0 ≤ (u28.1 0 306).toInt ∧ (u28.1 0 306).toInt ≤ 40 from (om_99e115f631 i30622 q30)) (show 1 ≤ (u28.1 0 306).toInt from (om_99c73a5d23 z306 q5 pj7 po22 q30))) tw_528 tw_595 (by decide +kernel) rfl rfl ⟨show 0 + 1 ≤ 8 * n + 14 from om_2d92e09058, show 8 + (1 + 11) + 0 ≤ 28 * (8 * n + 14) from om_289622e6d2⟩ (List.range (cW ad pr N cI cR L1 L2 u28).length) (rg_map _) (nd_range _) 0 rfl rfl rfl rfl hl.1 rfl (Nat.le_of_ble_eq_true rfl) dX5_condition_37 ⟨Nat.le_of_ble_eq_true rfl, Nat.le_of_ble_eq_true rfl⟩) hP hD hS hA (fun u32 H locs hw31 hP hD hS => ?_)
  obtain ⟨fr31, i30631, pj31⟩ := hw31
  have i30631 : 0 ≤ (u32.1 0 306).toInt ∧ (u32.1 0 306).toInt ≤ 40 := i30631
  have pj31 : (u32.1 0 306).toInt = (u28.1 0 306).toInt - 1 := pj31
  refine W.widen (k := 0) (n := 0) (Nat.le_refl _) (Nat.le_refl _) ?_
  have q34 : (u28.1 0 321).toInt = (u23.1 0 321).toInt := congrArg Int32.toInt ((fr27.2.1 321 (by decide)).trans (show u23.1 0 321 = (u23.1 0 321) by rfl))
  have q35 : (u32.1 0 321).toInt = (u28.1 0 321).toInt := congrArg Int32.toInt ((fr31.2.1 321 (by decide)).trans (show u28.1 0 321 = (u28.1 0 321) by rfl))
  have q36 : (u28.1 0 326).toInt = (u23.1 0 326).toInt := congrArg Int32.toInt ((fr27.2.1 326 (by decide)).trans (show u23.1 0 326 = (u23.1 0 326) by rfl))
  have q37 : (u32.1 0 326).toInt = (u28.1 0 326).toInt := congrArg Int32.toInt ((fr31.2.1 326 (by decide)).trans (show u28.1 0 326 = (u28.1 0 326) by rfl))
  have q38 : (u28.1 0 381).toInt = (u23.1 0 381).toInt := congrArg Int32.toInt ((fr27.2.1 381 (by decide)).trans (show u23.1 0 381 = (u23.1 0 381) by rfl))
  have q39 : (u32.1 0 381).toInt = (u28.1 0 381).toInt := congrArg Int32.toInt ((fr31.2.1 381 (by decide)).trans (show u28.1 0 381 = (u28.1 0 381) by rfl))
  refine W.sz (fun hz => ?_)
  refine vx_ret ?_
  refine W.widen (k := 1) (n := 6) (Nat.le_of_ble_eq_true rfl) (Nat.le_of_ble_eq_true rfl) ?_
  exact W.vret hx hb hr (fun t ht9 hW => ⟨⟨u32, rfl, ⟨(FC.tr (FC.tr (FC.tr (FC.tr (FC.tr (FC.rf _) (FC.up fr1 (by decide) (by decide))) (FC.up fr7 (by decide) (by decide))) (FC.up fr22 (by decide) (by decide))) (FC.up fr27 (by decide) (by decide))) (FC.up fr31 (by decide) (by decide))), (show 0 ≤ (u32.1 0 306).toInt ∧ (u32.1 0 306).toInt ≤ 40 from (om_7eaf33e007 i30631)), (show 0 ≤ (u32.1 0 321).toInt ∧ (u32.1 0 321).toInt ≤ 501 from (om_4dfa815534 i32122 q34 q35)), (show 0 ≤ (u32.1 0 326).toInt ∧ (u32.1 0 326).toInt ≤ 420 from (om_9591dea625 i32622 q36 q37)), (show 0 ≤ (u32.1 0 381).toInt ∧ (u32.1 0 381).toInt ≤ 3008 from (om_769192f2a4 i38122 q38 q39)), (show (u32.1 0 306).toInt = (v.1 0 306).toInt from (om_4c2747e16f q5 pj7 po22 q30 pj31))⟩, ⟨by rw [ht9]; exact hP, hD⟩, by rw [ht9]; exact hz⟩, hS.F ht9⟩) hS.2.2 dX5_condition_40
theorem om_e98b1a8fe4 {n0 : Nat} : 7 + 1 ≤ 8 * n0 + 21 := by omega
theorem om_84edb096fe {n0 : Nat} : 8 + (1 + 11) + 104 ≤ 28 * (8 * n0 + 21) := by omega
theorem om_70d74f4c8d {n0 : Nat} : 8 + (2 + 11) + 104 ≤ 28 * (8 * n0 + 21) := by omega
set_option maxHeartbeats 16000000 in
set_option maxRecDepth 100000 in
theorem c_x_X5_returnStat (l : Launch) (n : Nat) (dC : Nat → ClassId) (dI : Nat → Nat → Nat) (cI cB cZ cJ cR : ClassId) (tb : Nat → Nat) (sz : Nat) (ad : Nat → Nat) (pr : Int32 → Nat) (N : Nat) (L1 L2 : List Nat) (v : MS) (ps : Int32) (z304 : 0 ≤ (v.1 0 304).toInt ∧ (v.1 0 304).toInt ≤ 1503) (z306 : 0 ≤ (v.1 0 306).toInt ∧ (v.1 0 306).toInt ≤ 40) (z312 : 0 ≤ (v.1 0 312).toInt ∧ (v.1 0 312).toInt ≤ 500) (z321 : 0 ≤ (v.1 0 321).toInt ∧ (v.1 0 321).toInt ≤ 501) (z326 : 0 ≤ (v.1 0 326).toInt ∧ (v.1 0 326).toInt ≤ 420) (z373 : 0 ≤ (v.1 0 373).toInt ∧ (v.1 0 373).toInt ≤ 4000) (z381 : 0 ≤ (v.1 0 381).toInt ∧ (v.1 0 381).toInt ≤ 3008) (hL1 : L1.length = 40) (hL2 : L2.length = 60) (rp : RP v) (hps : pr ps = ad 908) (es300 : (v.1 0 300) = ps) (es310 : (v.1 0 310) = ps) (hst : l.stackTraces = false) (zn : 40 ≤ (v.1 0 306).toInt + (n : Int)) : vx_Met l yX5_returnStat (Cond.code yX5_returnStat cX5_returnStat 1 none :: tw_W) ({ frames := 8 * n + 21, cells := 1, slots := 6, locals := 28 * (8 * n + 21) }) (pc_ (dC, dI) (tyS cI cB cZ cJ cR) tb (cW ad pr N cI cR L1 L2 v) sz [.ref (ad 903)]) (qvz_ (dC, dI) (cW ad pr N cI cR L1 L2 v) sz (fun (u : MS) => FC [305, 306, 307, 314, 315, 317, 321, 326, 381] [0, 316, 318, 319, 320, 324, 325, 378, 379, 380] v u ∧ (0 ≤ (u.1 0 306).toInt ∧ (u.1 0 306).toInt ≤ 40) ∧ (0 ≤ (u.1 0 321).toInt ∧ (u.1 0 321).toInt ≤ 501) ∧ (0 ≤ (u.1 0 326).toInt ∧ (u.1 0 326).toInt ≤ 420) ∧ (0 ≤ (u.1 0 381).toInt ∧ (u.1 0 381).toInt ≤ 3008) ∧ ((u.1 0 306).toInt = (v.1 0 306).toInt)) (fun (u : MS) => (cW ad pr N cI cR L1 L2 u))) (qxc (dC, dI) (cW ad pr N cI cR L1 L2 v) sz (fun (u : MS) => (cW ad pr N cI cR L1 L2 u)) (fun (u : MS) => FC xfl xal v u ∧ (u.1 0 308).toInt ≠ 0)) 1 6 (va_A (cW ad pr N cI cR L1 L2 v) sz) := by
  refine vx_ofW (cc := cX5_returnStat) (maxL := 1) (ret := none) (by decide) rfl ?_
  intro p e s m args below meth c s₁ B hml hnt hv
  obtain ⟨rfl, hsz, hP, hKK, hD0, hFx⟩ := hv
  have hK := hKK.1
  have hx := B.exec
  have hb := B.bytes
  have hr := B.returns
  have ht : ∀ w ∈ tw_W, w.before _ s = true := fun w h => atoms_spec (ws := Cond.code yX5_returnStat cX5_returnStat 1 none :: tw_W) B.pre w (List.mem_cons_of_mem _ h)
  have hown : s.vm.findClass RX5 = some m.cls := findClass_of_methodNamed B.named
  have hlocks := B.notSynchronized
  subst hsz
  unfold qvz_ qxc
  have hD := hD0.self (sz := s.heap.size)
  generalize hAe : va_A (cW ad pr N cI cR L1 L2 v) s.heap.size = A at hD hFx ⊢
  have hA : ∀ q : Nat, s.heap.size ≤ q → A q := fun q h => by rw [← hAe]; exact Or.inr h
  have hS : va_S A s.heap s.heap [] := va_S.rf
  have hl := lv_entry ([.ref (ad 903)]) (n := 1) (Nat.le_of_ble_eq_true rfl)
  rw [lg_entry_eq]
  generalize (lg_sl ([.ref (ad 903)]) ++ List.replicate (1 - (lg_sl ([.ref (ad 903)])).length) Slot.unset).toArray = ls at hl ⊢
  have hl : lv_has ls 1 [(0, .ref (ad 903))] := hl
  refine lv_aload_n hx hb dX5_returnStat_0 rfl (lv_at hl 0 rfl) ?_
  refine va_get (D := (dC, dI)) (ci := 8) (fs := oF_X5 ad pr v) (v := .ref (ad 900)) (C := RX5) (T := TX5) (N := 7) hx hb ht itX5 hown hK hP 3 rfl rfl 1 (by decide) (ht _ tw_571) (fun _ h9 => h9) rfl dX5_returnStat_1 ?_
  refine W.sz (fun hz9 => ?_)
  refine czx_v (rx_Vk (n := 0) (As := []) (rest := []) hx hb hml hown ht hKK hFx hP hD hS hA (c_x_X9_take l dC dI cI cB cZ cJ cR tb s.heap.size ad pr N L1 L2 v ps (show 0 ≤ (v.1 0 304).toInt ∧ (v.1 0 304).toInt ≤ 1503 from (om_c99648273b z304)) (show 0 ≤ (v.1 0 373).toInt ∧ (v.1 0 373).toInt ≤ 4000 from (om_c74a68af25 z373)) (show pr ps = ad 908 from hps) (show (v.1 0 300) = ps from es300) (show l.stackTraces = false from hst)) tw_539 tw_585 (by decide +kernel) rfl rfl ⟨show 7 + 1 ≤ 8 * n + 21 from om_e98b1a8fe4, show 8 + (1 + 11) + 104 ≤ 28 * (8 * n + 21) from om_84edb096fe⟩ (List.range (cW ad pr N cI cR L1 L2 v).length) (rg_map _) (nd_range _) 0 rfl rfl rfl rfl hl.1 rfl (Nat.le_of_ble_eq_true rfl) dX5_returnStat_4 ⟨Nat.le_of_ble_eq_true rfl, Nat.le_of_ble_eq_true rfl⟩) hP hD hS hA (fun u9 ce9 q9 H locs hx9 hP hD hS hc9 hv9 hf9 => ?_) (fun u2 H locs hw1 hP hD hS hz8 => ?_)
  · exact vx_out (fun x h9 => (hnt x h9).elim) hlocks hc9 hv9 hf9 (fun t9 ht9 hv8 => ⟨u9, ⟨FC.tr (FC.rf _) hx9.1, hx9.2⟩, ⟨rfl, by rw [ht9]; exact hP, hD⟩, hS.F ht9⟩) hS.2.2 (Nat.le_refl _) (Nat.le_refl _)
  refine W.shrink (hz8.trans hz9) ?_
  have fr1 := hw1
  refine lv_aload_n hx hb dX5_returnStat_7 rfl (lv_at hl 0 rfl) ?_
  refine va_get (D := (dC, dI)) (ci := 8) (fs := oF_X5 ad pr u2) (v := .ref (ad 900)) (C := RX5) (T := TX5) (N := 7) hx hb ht itX5 hown hK hP 3 rfl rfl 1 (by decide) (ht _ tw_571) (fun _ h9 => h9) rfl dX5_returnStat_8 ?_
  have q4 : (u2.1 0 304).toInt = (v.1 0 304).toInt := congrArg Int32.toInt ((fr1.2.1 304 (by decide)).trans (show v.1 0 304 = (v.1 0 304) by rfl))
  refine cu_i (rn_Vk (n := 0) (As := []) (rest := []) hx hb hml hown ht hKK hFx hP hD hS hA (c_x_X9_kind l dC dI cI cB cZ cJ cR tb H.size ad pr N L1 L2 u2  (show 0 ≤ (u2.1 0 304).toInt ∧ (u2.1 0 304).toInt ≤ 1503 from (om_73002589c1 z304 q4))) tw_455 tw_594 (by decide +kernel) rfl rfl ⟨show 0 + 1 ≤ 8 * n + 21 from om_a43f662a07, show 8 + (1 + 11) + 0 ≤ 28 * (8 * n + 21) from om_9f2e4fbaf3⟩ (List.range (cW ad pr N cI cR L1 L2 u2).length) (rg_map _) (nd_range _) 0 rfl rfl rfl rfl hl.1 rfl (Nat.le_of_ble_eq_true rfl) dX5_returnStat_11 ⟨Nat.le_of_ble_eq_true rfl, Nat.le_of_ble_eq_true rfl⟩) hP hD hS hA (fun r7 u6 H locs hw5 hP hD hS => ?_)
  obtain rfl := hw5
  refine W.widen (k := 0) (n := 0) (Nat.le_refl _) (Nat.le_refl _) ?_
  refine lv_bipush (v := 36) hx hb dX5_returnStat_14 (by decide) ?_
  refine lv_icmp_ne (tgt := 32) hx hb dX5_returnStat_16 (by decide) (fun h8 => ?_) (fun h8 => ?_)
  · have z9 : r7.toInt ≠ (36 : Int) := ne_z rfl (show (36 : Int32).toInt = (36 : Int) by decide) h8
    refine lv_aload_n hx hb dX5_returnStat_32 rfl (lv_at hl 0 rfl) ?_
    refine va_get (D := (dC, dI)) (ci := 8) (fs := oF_X5 ad pr u2) (v := .ref (ad 902)) (C := RX5) (T := TX5) (N := 7) hx hb ht itX5 hown hK hP 3 rfl rfl 3 (by decide) (ht _ tw_608) (fun _ h9 => h9) rfl dX5_returnStat_33 ?_
    refine lv_iconst (v := 1) hx hb dX5_returnStat_36 (by decide) ?_
    have q10 : (u2.1 0 306).toInt = (v.1 0 306).toInt := congrArg Int32.toInt ((fr1.2.1 306 (by decide)).trans (show v.1 0 306 = (v.1 0 306) by rfl))
    have q11 : (u2.1 0 312).toInt = (v.1 0 312).toInt := congrArg Int32.toInt ((fr1.2.1 312 (by decide)).trans (show v.1 0 312 = (v.1 0 312) by rfl))
    have q12 : (u2.1 0 321).toInt = (v.1 0 321).toInt := congrArg Int32.toInt ((fr1.2.1 321 (by decide)).trans (show v.1 0 321 = (v.1 0 321) by rfl))
    have q13 : (u2.1 0 326).toInt = (v.1 0 326).toInt := congrArg Int32.toInt ((fr1.2.1 326 (by decide)).trans (show v.1 0 326 = (v.1 0 326) by rfl))
    have q14 : (u2.1 0 373).toInt = (v.1 0 373).toInt := congrArg Int32.toInt ((fr1.2.1 373 (by decide)).trans (show v.1 0 373 = (v.1 0 373) by rfl))
    have q15 : (u2.1 0 381).toInt = (v.1 0 381).toInt := congrArg Int32.toInt ((fr1.2.1 381 (by decide)).trans (show v.1 0 381 = (v.1 0 381) by rfl))
    refine W.sz (fun hz9 => ?_)
    refine czx_v (rx_Vk (n := 1) (As := [.int 1]) (rest := []) hx hb hml hown ht hKK hFx hP hD hS hA ((cq_all l n).1 dC dI cI cB cZ cJ cR tb H.size ad pr N L1 L2 u2 (1 : Int32) ps (show 0 ≤ (u2.1 0 304).toInt ∧ (u2.1 0 304).toInt ≤ 1503 from (om_73002589c1 z304 q4)) (show 0 ≤ (u2.1 0 306).toInt ∧ (u2.1 0 306).toInt ≤ 40 from (om_99e115f631 z306 q10)) (show 0 ≤ (u2.1 0 312).toInt ∧ (u2.1 0 312).toInt ≤ 500 from (om_f8376ff89c z312 q11)) (show 0 ≤ (u2.1 0 321).toInt ∧ (u2.1 0 321).toInt ≤ 501 from (om_ff27494c0e z321 q12)) (show 0 ≤ (u2.1 0 326).toInt ∧ (u2.1 0 326).toInt ≤ 420 from (om_8ed0dedb19 z326 q13)) (show 0 ≤ (u2.1 0 373).toInt ∧ (u2.1 0 373).toInt ≤ 4000 from (om_9084c127ed z373 q14)) (show 0 ≤ (u2.1 0 381).toInt ∧ (u2.1 0 381).toInt ≤ 3008 from (om_6e4eb11ad3 z381 q15)) (show L1.length = 40 from hL1) (show L2.length = 60 from hL2) (show RP u2 from ((show FC [305, 306, 307, 314, 315, 317, 321, 326, 381] [0, 316, 318, 319, 320, 324, 325, 378, 379, 380] v u2 from (FC.tr (FC.rf _) (FC.up fr1 (by decide) (by decide)))).1 rp)) (show pr ps = ad 908 from hps) (show (u2.1 0 300) = ps from (Eq.trans (fr1.2.1 300 (by decide)) es300)) (show (u2.1 0 310) = ps from (Eq.trans (fr1.2.1 310 (by decide)) es310)) (show l.stackTraces = false from hst) (show 40 ≤ (u2.1 0 306).toInt + (n : Int) from (om_2d3a9cf1da zn q10))) tw_520 tw_609 (by decide +kernel) rfl rfl ⟨show (8 * n + 20) + 1 ≤ 8 * n + 21 from om_12a3a4432e, show 8 + (5 + 11) + 28 * (8 * n + 20) ≤ 28 * (8 * n + 21) from om_daa41a5b32⟩ (List.range (cW ad pr N cI cR L1 L2 u2).length) (rg_map _) (nd_range _) 2 rfl rfl rfl rfl hl.1 rfl (Nat.le_of_ble_eq_true rfl) dX5_returnStat_37 ⟨Nat.le_of_ble_eq_true rfl, Nat.le_of_ble_eq_true rfl⟩) hP hD hS hA (fun u9 ce9 q9 H locs hx9 hP hD hS hc9 hv9 hf9 => ?_) (fun u17 H locs hw16 hP hD hS hz8 => ?_)
    · exact vx_out (fun x h9 => (hnt x h9).elim) hlocks hc9 hv9 hf9 (fun t9 ht9 hv8 => ⟨u9, ⟨FC.tr (FC.tr (FC.rf _) (FC.up fr1 (by decide) (by decide))) hx9.1, hx9.2⟩, ⟨rfl, by rw [ht9]; exact hP, hD⟩, hS.F ht9⟩) hS.2.2 (Nat.le_refl _) (Nat.le_refl _)
    refine W.shrink (hz8.trans hz9) ?_
    obtain ⟨fr16, i30616, i32116, i32616, i38116, po16⟩ := hw16
    have i30616 : 0 ≤ (u17.1 0 306).toInt ∧ (u17.1 0 306).toInt ≤ 40 := i30616
    have i32116 : 0 ≤ (u17.1 0 321).toInt ∧ (u17.1 0 321).toInt ≤ 501 := i32116
    have i32616 : 0 ≤ (u17.1 0 326).toInt ∧ (u17.1 0 326).toInt ≤ 420 := i32616
    have i38116 : 0 ≤ (u17.1 0 381).toInt ∧ (u17.1 0 381).toInt ≤ 3008 := i38116
    have po16 : (u17.1 0 306).toInt = (u2.1 0 306).toInt := po16
    refine lv_aload_n hx hb dX5_returnStat_40 rfl (lv_at hl 0 rfl) ?_
    refine va_get (D := (dC, dI)) (ci := 8) (fs := oF_X5 ad pr u17) (v := .ref (ad 901)) (C := RX5) (T := TX5) (N := 7) hx hb ht itX5 hown hK hP 3 rfl rfl 2 (by decide) (ht _ tw_573) (fun _ h9 => h9) rfl dX5_returnStat_41 ?_
    refine lv_bipush (v := 19) hx hb dX5_returnStat_44 (by decide) ?_
    refine lv_aload_n hx hb dX5_returnStat_46 rfl (lv_at hl 0 rfl) ?_
    refine va_get (D := (dC, dI)) (ci := 8) (fs := oF_X5 ad pr u17) (v := .int (u17.1 0 333)) (C := RX5) (T := TX5) (N := 7) hx hb ht itX5 hown hK hP 3 rfl rfl 6 (by decide) (ht _ tw_610) (fun _ h9 => h9) rfl dX5_returnStat_47 ?_
    refine lv_iconst (v := 0) hx hb dX5_returnStat_50 (by decide) ?_
    refine cu_v (rn_Vk (n := 3) (As := [.int 19, .int (u17.1 0 333), .int 0]) (rest := []) hx hb hml hown ht hKK hFx hP hD hS hA (c_x_X1_add l dC dI cI cB cZ cJ cR tb H.size ad pr N L1 L2 u17 (19 : Int32) (u17.1 0 333) (0 : Int32) ps (show 0 ≤ (u17.1 0 381).toInt ∧ (u17.1 0 381).toInt ≤ 3008 from (om_e78eec72e1 i38116)) (show pr ps = ad 908 from hps) (show (u17.1 0 310) = ps from (Eq.trans (fr16.2.1 310 (by decide)) (Eq.trans (fr1.2.1 310 (by decide)) es310)))) tw_499 tw_592 (by decide +kernel) rfl rfl ⟨show 0 + 1 ≤ 8 * n + 21 from om_a43f662a07, show 8 + (5 + 11) + 0 ≤ 28 * (8 * n + 21) from om_78af4e5b79⟩ (List.range (cW ad pr N cI cR L1 L2 u17).length) (rg_map _) (nd_range _) 1 rfl rfl rfl rfl hl.1 rfl (Nat.le_of_ble_eq_true rfl) dX5_returnStat_51 ⟨Nat.le_of_ble_eq_true rfl, Nat.le_of_ble_eq_true rfl⟩) hP hD hS hA (fun u20 H locs hw19 hP hD hS => ?_)
    obtain ⟨fr19, i38119⟩ := hw19
    have i38119 : 0 ≤ (u20.1 0 381).toInt ∧ (u20.1 0 381).toInt ≤ 3008 := i38119
    refine W.widen (k := 0) (n := 0) (Nat.le_refl _) (Nat.le_refl _) ?_
    refine lv_aload_n hx hb dX5_returnStat_54 rfl (lv_at hl 0 rfl) ?_
    refine va_get (D := (dC, dI)) (ci := 8) (fs := oF_X5 ad pr u20) (v := .ref (ad 900)) (C := RX5) (T := TX5) (N := 7) hx hb ht itX5 hown hK hP 3 rfl rfl 1 (by decide) (ht _ tw_571) (fun _ h9 => h9) rfl dX5_returnStat_55 ?_
    refine lv_bipush (v := 36) hx hb dX5_returnStat_58 (by decide) ?_
    have q22 : (u17.1 0 304).toInt = (u2.1 0 304).toInt := congrArg Int32.toInt ((fr16.2.1 304 (by decide)).trans (show u2.1 0 304 = (u2.1 0 304) by rfl))
    have q23 : (u20.1 0 304).toInt = (u17.1 0 304).toInt := congrArg Int32.toInt ((fr19.2.1 304 (by decide)).trans (show u17.1 0 304 = (u17.1 0 304) by rfl))
    have q24 : (u17.1 0 373).toInt = (u2.1 0 373).toInt := congrArg Int32.toInt ((fr16.2.1 373 (by decide)).trans (show u2.1 0 373 = (u2.1 0 373) by rfl))
    have q25 : (u20.1 0 373).toInt = (u17.1 0 373).toInt := congrArg Int32.toInt ((fr19.2.1 373 (by decide)).trans (show u17.1 0 373 = (u17.1 0 373) by rfl))
    refine W.sz (fun hz9 => ?_)
    refine czx_v (rx_Vk (n := 1) (As := [.int 36]) (rest := []) hx hb hml hown ht hKK hFx hP hD hS hA (c_x_X9_expect l dC dI cI cB cZ cJ cR tb H.size ad pr N L1 L2 u20 (36 : Int32) ps (show 0 ≤ (u20.1 0 304).toInt ∧ (u20.1 0 304).toInt ≤ 1503 from (om_57e3d9ffbd z304 q4 q22 q23)) (show 0 ≤ (u20.1 0 373).toInt ∧ (u20.1 0 373).toInt ≤ 4000 from (om_282c7f458f z373 q14 q24 q25)) (show pr ps = ad 908 from hps) (show (u20.1 0 300) = ps from (Eq.trans (fr19.2.1 300 (by decide)) (Eq.trans (fr16.2.1 300 (by decide)) (Eq.trans (fr1.2.1 300 (by decide)) es300)))) (show l.stackTraces = false from hst)) tw_526 tw_580 (by decide +kernel) rfl rfl ⟨show 7 + 1 ≤ 8 * n + 21 from om_e98b1a8fe4, show 8 + (2 + 11) + 104 ≤ 28 * (8 * n + 21) from om_70d74f4c8d⟩ (List.range (cW ad pr N cI cR L1 L2 u20).length) (rg_map _) (nd_range _) 0 rfl rfl rfl rfl hl.1 rfl (Nat.le_of_ble_eq_true rfl) dX5_returnStat_60 ⟨Nat.le_of_ble_eq_true rfl, Nat.le_of_ble_eq_true rfl⟩) hP hD hS hA (fun u9 ce9 q9 H locs hx9 hP hD hS hc9 hv9 hf9 => ?_) (fun u27 H locs hw26 hP hD hS hz8 => ?_)
    · exact vx_out (fun x h9 => (hnt x h9).elim) hlocks hc9 hv9 hf9 (fun t9 ht9 hv8 => ⟨u9, ⟨FC.tr (FC.tr (FC.tr (FC.tr (FC.rf _) (FC.up fr1 (by decide) (by decide))) (FC.up fr16 (by decide) (by decide))) (FC.up fr19 (by decide) (by decide))) hx9.1, hx9.2⟩, ⟨rfl, by rw [ht9]; exact hP, hD⟩, hS.F ht9⟩) hS.2.2 (Nat.le_refl _) (Nat.le_refl _)
    refine W.shrink (hz8.trans hz9) ?_
    have fr26 := hw26
    have q29 : (u20.1 0 306).toInt = (u17.1 0 306).toInt := congrArg Int32.toInt ((fr19.2.1 306 (by decide)).trans (show u17.1 0 306 = (u17.1 0 306) by rfl))
    have q30 : (u27.1 0 306).toInt = (u20.1 0 306).toInt := congrArg Int32.toInt ((fr26.2.1 306 (by decide)).trans (show u20.1 0 306 = (u20.1 0 306) by rfl))
    have q31 : (u20.1 0 321).toInt = (u17.1 0 321).toInt := congrArg Int32.toInt ((fr19.2.1 321 (by decide)).trans (show u17.1 0 321 = (u17.1 0 321) by rfl))
    have q32 : (u27.1 0 321).toInt = (u20.1 0 321).toInt := congrArg Int32.toInt ((fr26.2.1 321 (by decide)).trans (show u20.1 0 321 = (u20.1 0 321) by rfl))
    have q33 : (u20.1 0 326).toInt = (u17.1 0 326).toInt := congrArg Int32.toInt ((fr19.2.1 326 (by decide)).trans (show u17.1 0 326 = (u17.1 0 326) by rfl))
    have q34 : (u27.1 0 326).toInt = (u20.1 0 326).toInt := congrArg Int32.toInt ((fr26.2.1 326 (by decide)).trans (show u20.1 0 326 = (u20.1 0 326) by rfl))
    have q35 : (u27.1 0 381).toInt = (u20.1 0 381).toInt := congrArg Int32.toInt ((fr26.2.1 381 (by decide)).trans (show u20.1 0 381 = (u20.1 0 381) by rfl))
    refine W.sz (fun hz => ?_)
    refine vx_ret ?_
    refine W.widen (k := 1) (n := 6) (Nat.le_of_ble_eq_true rfl) (Nat.le_of_ble_eq_true rfl) ?_
    exact W.vret hx hb hr (fun t ht9 hW => ⟨⟨u27, rfl, ⟨(FC.tr (FC.tr (FC.tr (FC.tr (FC.rf _) (FC.up fr1 (by decide) (by decide))) (FC.up fr16 (by decide) (by decide))) (FC.up fr19 (by decide) (by decide))) (FC.up fr26 (by decide) (by decide))), (show 0 ≤ (u27.1 0 306).toInt ∧ (u27.1 0 306).toInt ≤ 40 from (om_68f540929a i30616 q29 q30)), (show 0 ≤ (u27.1 0 321).toInt ∧ (u27.1 0 321).toInt ≤ 501 from (om_4dfa815534 i32116 q31 q32)), (show 0 ≤ (u27.1 0 326).toInt ∧ (u27.1 0 326).toInt ≤ 420 from (om_9591dea625 i32616 q33 q34)), (show 0 ≤ (u27.1 0 381).toInt ∧ (u27.1 0 381).toInt ≤ 3008 from (om_6e4eb11ad3 i38119 q35)), (show (u27.1 0 306).toInt = (v.1 0 306).toInt from (om_42b828193d q10 po16 q29 q30))⟩, ⟨by rw [ht9]; exact hP, hD⟩, by rw [ht9]; exact hz⟩, hS.F ht9⟩) hS.2.2 dX5_returnStat_63
  · have z36 : r7.toInt = (36 : Int) := eq_z rfl (show (36 : Int32).toInt = (36 : Int) by decide) h8
    refine lv_aload_n hx hb dX5_returnStat_19 rfl (lv_at hl 0 rfl) ?_
    refine va_get (D := (dC, dI)) (ci := 8) (fs := oF_X5 ad pr u2) (v := .ref (ad 901)) (C := RX5) (T := TX5) (N := 7) hx hb ht itX5 hown hK hP 3 rfl rfl 2 (by decide) (ht _ tw_573) (fun _ h9 => h9) rfl dX5_returnStat_20 ?_
    refine lv_iconst (v := 2) hx hb dX5_returnStat_23 (by decide) ?_
    refine lv_iconst (v := 0) hx hb dX5_returnStat_24 (by decide) ?_
    refine lv_iconst (v := 0) hx hb dX5_returnStat_25 (by decide) ?_
    have q37 : (u2.1 0 381).toInt = (v.1 0 381).toInt := congrArg Int32.toInt ((fr1.2.1 381 (by decide)).trans (show v.1 0 381 = (v.1 0 381) by rfl))
    refine cu_v (rn_Vk (n := 3) (As := [.int 2, .int 0, .int 0]) (rest := []) hx hb hml hown ht hKK hFx hP hD hS hA (c_x_X1_add l dC dI cI cB cZ cJ cR tb H.size ad pr N L1 L2 u2 (2 : Int32) (0 : Int32) (0 : Int32) ps (show 0 ≤ (u2.1 0 381).toInt ∧ (u2.1 0 381).toInt ≤ 3008 from (om_6e4eb11ad3 z381 q37)) (show pr ps = ad 908 from hps) (show (u2.1 0 310) = ps from (Eq.trans (fr1.2.1 310 (by decide)) es310))) tw_499 tw_592 (by decide +kernel) rfl rfl ⟨show 0 + 1 ≤ 8 * n + 21 from om_a43f662a07, show 8 + (5 + 11) + 0 ≤ 28 * (8 * n + 21) from om_78af4e5b79⟩ (List.range (cW ad pr N cI cR L1 L2 u2).length) (rg_map _) (nd_range _) 1 rfl rfl rfl rfl hl.1 rfl (Nat.le_of_ble_eq_true rfl) dX5_returnStat_26 ⟨Nat.le_of_ble_eq_true rfl, Nat.le_of_ble_eq_true rfl⟩) hP hD hS hA (fun u39 H locs hw38 hP hD hS => ?_)
    obtain ⟨fr38, i38138⟩ := hw38
    have i38138 : 0 ≤ (u39.1 0 381).toInt ∧ (u39.1 0 381).toInt ≤ 3008 := i38138
    refine W.widen (k := 0) (n := 0) (Nat.le_refl _) (Nat.le_refl _) ?_
    refine lv_goto (tgt := 40) hx hb dX5_returnStat_29 (by decide) ?_
    refine lv_aload_n hx hb dX5_returnStat_40 rfl (lv_at hl 0 rfl) ?_
    refine va_get (D := (dC, dI)) (ci := 8) (fs := oF_X5 ad pr u39) (v := .ref (ad 901)) (C := RX5) (T := TX5) (N := 7) hx hb ht itX5 hown hK hP 3 rfl rfl 2 (by decide) (ht _ tw_573) (fun _ h9 => h9) rfl dX5_returnStat_41 ?_
    refine lv_bipush (v := 19) hx hb dX5_returnStat_44 (by decide) ?_
    refine lv_aload_n hx hb dX5_returnStat_46 rfl (lv_at hl 0 rfl) ?_
    refine va_get (D := (dC, dI)) (ci := 8) (fs := oF_X5 ad pr u39) (v := .int (u39.1 0 333)) (C := RX5) (T := TX5) (N := 7) hx hb ht itX5 hown hK hP 3 rfl rfl 6 (by decide) (ht _ tw_610) (fun _ h9 => h9) rfl dX5_returnStat_47 ?_
    refine lv_iconst (v := 0) hx hb dX5_returnStat_50 (by decide) ?_
    refine cu_v (rn_Vk (n := 3) (As := [.int 19, .int (u39.1 0 333), .int 0]) (rest := []) hx hb hml hown ht hKK hFx hP hD hS hA (c_x_X1_add l dC dI cI cB cZ cJ cR tb H.size ad pr N L1 L2 u39 (19 : Int32) (u39.1 0 333) (0 : Int32) ps (show 0 ≤ (u39.1 0 381).toInt ∧ (u39.1 0 381).toInt ≤ 3008 from (om_e78eec72e1 i38138)) (show pr ps = ad 908 from hps) (show (u39.1 0 310) = ps from (Eq.trans (fr38.2.1 310 (by decide)) (Eq.trans (fr1.2.1 310 (by decide)) es310)))) tw_499 tw_592 (by decide +kernel) rfl rfl ⟨show 0 + 1 ≤ 8 * n + 21 from om_a43f662a07, show 8 + (5 + 11) + 0 ≤ 28 * (8 * n + 21) from om_78af4e5b79⟩ (List.range (cW ad pr N cI cR L1 L2 u39).length) (rg_map _) (nd_range _) 1 rfl rfl rfl rfl hl.1 rfl (Nat.le_of_ble_eq_true rfl) dX5_returnStat_51 ⟨Nat.le_of_ble_eq_true rfl, Nat.le_of_ble_eq_true rfl⟩) hP hD hS hA (fun u42 H locs hw41 hP hD hS => ?_)
    obtain ⟨fr41, i38141⟩ := hw41
    have i38141 : 0 ≤ (u42.1 0 381).toInt ∧ (u42.1 0 381).toInt ≤ 3008 := i38141
    refine W.widen (k := 0) (n := 0) (Nat.le_refl _) (Nat.le_refl _) ?_
    refine lv_aload_n hx hb dX5_returnStat_54 rfl (lv_at hl 0 rfl) ?_
    refine va_get (D := (dC, dI)) (ci := 8) (fs := oF_X5 ad pr u42) (v := .ref (ad 900)) (C := RX5) (T := TX5) (N := 7) hx hb ht itX5 hown hK hP 3 rfl rfl 1 (by decide) (ht _ tw_571) (fun _ h9 => h9) rfl dX5_returnStat_55 ?_
    refine lv_bipush (v := 36) hx hb dX5_returnStat_58 (by decide) ?_
    have q44 : (u39.1 0 304).toInt = (u2.1 0 304).toInt := congrArg Int32.toInt ((fr38.2.1 304 (by decide)).trans (show u2.1 0 304 = (u2.1 0 304) by rfl))
    have q45 : (u42.1 0 304).toInt = (u39.1 0 304).toInt := congrArg Int32.toInt ((fr41.2.1 304 (by decide)).trans (show u39.1 0 304 = (u39.1 0 304) by rfl))
    have q46 : (u2.1 0 373).toInt = (v.1 0 373).toInt := congrArg Int32.toInt ((fr1.2.1 373 (by decide)).trans (show v.1 0 373 = (v.1 0 373) by rfl))
    have q47 : (u39.1 0 373).toInt = (u2.1 0 373).toInt := congrArg Int32.toInt ((fr38.2.1 373 (by decide)).trans (show u2.1 0 373 = (u2.1 0 373) by rfl))
    have q48 : (u42.1 0 373).toInt = (u39.1 0 373).toInt := congrArg Int32.toInt ((fr41.2.1 373 (by decide)).trans (show u39.1 0 373 = (u39.1 0 373) by rfl))
    refine W.sz (fun hz9 => ?_)
    refine czx_v (rx_Vk (n := 1) (As := [.int 36]) (rest := []) hx hb hml hown ht hKK hFx hP hD hS hA (c_x_X9_expect l dC dI cI cB cZ cJ cR tb H.size ad pr N L1 L2 u42 (36 : Int32) ps (show 0 ≤ (u42.1 0 304).toInt ∧ (u42.1 0 304).toInt ≤ 1503 from (om_57e3d9ffbd z304 q4 q44 q45)) (show 0 ≤ (u42.1 0 373).toInt ∧ (u42.1 0 373).toInt ≤ 4000 from (om_282c7f458f z373 q46 q47 q48)) (show pr ps = ad 908 from hps) (show (u42.1 0 300) = ps from (Eq.trans (fr41.2.1 300 (by decide)) (Eq.trans (fr38.2.1 300 (by decide)) (Eq.trans (fr1.2.1 300 (by decide)) es300)))) (show l.stackTraces = false from hst)) tw_526 tw_580 (by decide +kernel) rfl rfl ⟨show 7 + 1 ≤ 8 * n + 21 from om_e98b1a8fe4, show 8 + (2 + 11) + 104 ≤ 28 * (8 * n + 21) from om_70d74f4c8d⟩ (List.range (cW ad pr N cI cR L1 L2 u42).length) (rg_map _) (nd_range _) 0 rfl rfl rfl rfl hl.1 rfl (Nat.le_of_ble_eq_true rfl) dX5_returnStat_60 ⟨Nat.le_of_ble_eq_true rfl, Nat.le_of_ble_eq_true rfl⟩) hP hD hS hA (fun u9 ce9 q9 H locs hx9 hP hD hS hc9 hv9 hf9 => ?_) (fun u50 H locs hw49 hP hD hS hz8 => ?_)
    · exact vx_out (fun x h9 => (hnt x h9).elim) hlocks hc9 hv9 hf9 (fun t9 ht9 hv8 => ⟨u9, ⟨FC.tr (FC.tr (FC.tr (FC.tr (FC.rf _) (FC.up fr1 (by decide) (by decide))) (FC.up fr38 (by decide) (by decide))) (FC.up fr41 (by decide) (by decide))) hx9.1, hx9.2⟩, ⟨rfl, by rw [ht9]; exact hP, hD⟩, hS.F ht9⟩) hS.2.2 (Nat.le_refl _) (Nat.le_refl _)
    refine W.shrink (hz8.trans hz9) ?_
    have fr49 := hw49
    have q52 : (u2.1 0 306).toInt = (v.1 0 306).toInt := congrArg Int32.toInt ((fr1.2.1 306 (by decide)).trans (show v.1 0 306 = (v.1 0 306) by rfl))
    have q53 : (u39.1 0 306).toInt = (u2.1 0 306).toInt := congrArg Int32.toInt ((fr38.2.1 306 (by decide)).trans (show u2.1 0 306 = (u2.1 0 306) by rfl))
    have q54 : (u42.1 0 306).toInt = (u39.1 0 306).toInt := congrArg Int32.toInt ((fr41.2.1 306 (by decide)).trans (show u39.1 0 306 = (u39.1 0 306) by rfl))
    have q55 : (u50.1 0 306).toInt = (u42.1 0 306).toInt := congrArg Int32.toInt ((fr49.2.1 306 (by decide)).trans (show u42.1 0 306 = (u42.1 0 306) by rfl))
    have q56 : (u2.1 0 321).toInt = (v.1 0 321).toInt := congrArg Int32.toInt ((fr1.2.1 321 (by decide)).trans (show v.1 0 321 = (v.1 0 321) by rfl))
    have q57 : (u39.1 0 321).toInt = (u2.1 0 321).toInt := congrArg Int32.toInt ((fr38.2.1 321 (by decide)).trans (show u2.1 0 321 = (u2.1 0 321) by rfl))
    have q58 : (u42.1 0 321).toInt = (u39.1 0 321).toInt := congrArg Int32.toInt ((fr41.2.1 321 (by decide)).trans (show u39.1 0 321 = (u39.1 0 321) by rfl))
    have q59 : (u50.1 0 321).toInt = (u42.1 0 321).toInt := congrArg Int32.toInt ((fr49.2.1 321 (by decide)).trans (show u42.1 0 321 = (u42.1 0 321) by rfl))
    have q60 : (u2.1 0 326).toInt = (v.1 0 326).toInt := congrArg Int32.toInt ((fr1.2.1 326 (by decide)).trans (show v.1 0 326 = (v.1 0 326) by rfl))
    have q61 : (u39.1 0 326).toInt = (u2.1 0 326).toInt := congrArg Int32.toInt ((fr38.2.1 326 (by decide)).trans (show u2.1 0 326 = (u2.1 0 326) by rfl))
    have q62 : (u42.1 0 326).toInt = (u39.1 0 326).toInt := congrArg Int32.toInt ((fr41.2.1 326 (by decide)).trans (show u39.1 0 326 = (u39.1 0 326) by rfl))
    have q63 : (u50.1 0 326).toInt = (u42.1 0 326).toInt := congrArg Int32.toInt ((fr49.2.1 326 (by decide)).trans (show u42.1 0 326 = (u42.1 0 326) by rfl))
    have q64 : (u50.1 0 381).toInt = (u42.1 0 381).toInt := congrArg Int32.toInt ((fr49.2.1 381 (by decide)).trans (show u42.1 0 381 = (u42.1 0 381) by rfl))
    refine W.sz (fun hz => ?_)
    refine vx_ret ?_
    refine W.widen (k := 1) (n := 6) (Nat.le_of_ble_eq_true rfl) (Nat.le_of_ble_eq_true rfl) ?_
    exact W.vret hx hb hr (fun t ht9 hW => ⟨⟨u50, rfl, ⟨(FC.tr (FC.tr (FC.tr (FC.tr (FC.rf _) (FC.up fr1 (by decide) (by decide))) (FC.up fr38 (by decide) (by decide))) (FC.up fr41 (by decide) (by decide))) (FC.up fr49 (by decide) (by decide))), (show 0 ≤ (u50.1 0 306).toInt ∧ (u50.1 0 306).toInt ≤ 40 from (om_ca678151ea z306 q52 q53 q54 q55)), (show 0 ≤ (u50.1 0 321).toInt ∧ (u50.1 0 321).toInt ≤ 501 from (om_404ac90bf6 z321 q56 q57 q58 q59)), (show 0 ≤ (u50.1 0 326).toInt ∧ (u50.1 0 326).toInt ≤ 420 from (om_73f5be2f84 z326 q60 q61 q62 q63)), (show 0 ≤ (u50.1 0 381).toInt ∧ (u50.1 0 381).toInt ≤ 3008 from (om_6e4eb11ad3 i38141 q64)), (show (u50.1 0 306).toInt = (v.1 0 306).toInt from (om_42b828193d q52 q53 q54 q55))⟩, ⟨by rw [ht9]; exact hP, hD⟩, by rw [ht9]; exact hz⟩, hS.F ht9⟩) hS.2.2 dX5_returnStat_63
theorem om_52b4b3a962 {n0 : Nat} : 8 + 1 ≤ 8 * n0 + 21 := by omega
theorem om_7b2ca057bd {n0 : Nat} : 8 + (1 + 11) + 125 ≤ 28 * (8 * n0 + 21) := by omega
theorem om_4267952275 {x0 x1 x2 x3 x4 : Int} (h0 : 0 ≤ x0 ∧ x0 ≤ 3008) (h1 : x1 = x0) (h2 : x2 = x1) (h3 : x3 = x2) (h4 : x4 = x3) : 0 ≤ x4 ∧ x4 ≤ 3008 := by omega
theorem om_4d1a2a7aa0 {x0 x1 x2 x3 x4 x5 x6 x7 : Int} (h0 : 0 ≤ x0 ∧ x0 ≤ 500) (h1 : x1 = x0) (h2 : x2 = x1) (h3 : x3 = x2) (h4 : x4 = x3) (h5 : x5 = x4) (h6 : x6 = x5) (h7 : x7 = x6) : 0 ≤ x7 ∧ x7 ≤ 500 := by omega
theorem om_232385d87f {x0 x1 x2 x3 x4 x5 x6 x7 x8 : Int} (h0 : 0 ≤ x0 ∧ x0 ≤ 40) (h1 : x1 = x0) (h2 : x2 = x1) (h3 : x3 = x2) (h4 : x4 = x3) (h5 : x5 = x4) (h6 : x6 = x5) (h7 : x7 = x6) (h8 : x8 = x7) : 0 ≤ x8 ∧ x8 ≤ 40 := by omega
theorem om_0247461c80 {x0 x1 x2 x3 x4 x5 x6 x7 x8 : Int} (h0 : 0 ≤ x0 ∧ x0 ≤ 501) (h1 : x1 = x0) (h2 : x2 = x1) (h3 : x3 = x2) (h4 : x4 = x3) (h5 : x5 = x4) (h6 : x6 = x5) (h7 : x7 = x6) (h8 : x8 = x7) : 0 ≤ x8 ∧ x8 ≤ 501 := by omega
theorem om_2c0998f108 {x0 x1 x2 x3 x4 x5 x6 x7 x8 : Int} (h0 : 0 ≤ x0 ∧ x0 ≤ 420) (h1 : x1 = x0) (h2 : x2 = x1) (h3 : x3 = x2) (h4 : x4 = x3) (h5 : x5 = x4) (h6 : x6 = x5) (h7 : x7 = x6) (h8 : x8 = x7) : 0 ≤ x8 ∧ x8 ≤ 420 := by omega
theorem om_3adb33c98b {x0 x1 x2 x3 x4 x5 x6 x7 x8 : Int} (h0 : x0 = x1) (h1 : x2 = x0) (h2 : x3 = x2) (h3 : x4 = x3) (h4 : x5 = x4) (h5 : x6 = x5) (h6 : x7 = x6) (h7 : x8 = x7) : x8 = x1 := by omega
theorem om_b98087ba73 {x0 x1 x2 x3 x4 x5 : Int} (h0 : 0 ≤ x0 ∧ x0 ≤ 40) (h1 : x1 = x0) (h2 : x2 = x1) (h3 : x3 = x2) (h4 : x4 = x3) (h5 : x5 = x4) : 0 ≤ x5 ∧ x5 ≤ 40 := by omega
theorem om_7cf4561601 {x0 x1 x2 x3 x4 x5 : Int} (h0 : 0 ≤ x0 ∧ x0 ≤ 500) (h1 : x1 = x0) (h2 : x2 = x1) (h3 : x3 = x2) (h4 : x4 = x3) (h5 : x5 = x4) : 0 ≤ x5 ∧ x5 ≤ 500 := by omega
theorem om_d453215c2d {x0 x1 x2 x3 x4 x5 : Int} (h0 : 0 ≤ x0 ∧ x0 ≤ 420) (h1 : x1 = x0) (h2 : x2 = x1) (h3 : x3 = x2) (h4 : x4 = x3) (h5 : x5 = x4) : 0 ≤ x5 ∧ x5 ≤ 420 := by omega
theorem om_3d712bc99e {x0 x2 x3 x4 x5 x6 : Int} {n1 : Nat} (h0 : 40 ≤ x0 + (n1 : Int)) (h1 : x2 = x0) (h2 : x3 = x2) (h3 : x4 = x3) (h4 : x5 = x4) (h5 : x6 = x5) : 40 ≤ x6 + (n1 : Int) := by omega
theorem om_317e2e954a {x0 x1 x2 x3 x4 x5 x6 x7 : Int} (h0 : 0 ≤ x0 ∧ x0 ≤ 1503) (h1 : x1 = x0) (h2 : x2 = x1) (h3 : x3 = x2) (h4 : x4 = x3) (h5 : x5 = x4) (h6 : x6 = x5) (h7 : x7 = x6) : 0 ≤ x7 ∧ x7 ≤ 1503 := by omega
theorem om_749f4b17c8 {x0 x1 x2 x3 x4 x5 x6 x7 : Int} (h0 : 0 ≤ x0 ∧ x0 ≤ 4000) (h1 : x1 = x0) (h2 : x2 = x1) (h3 : x3 = x2) (h4 : x4 = x3) (h5 : x5 = x4) (h6 : x6 = x5) (h7 : x7 = x6) : 0 ≤ x7 ∧ x7 ≤ 4000 := by omega
theorem om_0c8fea9952 {x0 x1 x2 x3 x4 x5 x6 x7 x8 x9 : Int} (h0 : x0 = x1) (h1 : x2 = x0) (h2 : x3 = x2) (h3 : x4 = x3) (h4 : x5 = x4) (h5 : x6 = x5) (h6 : x7 = x6) (h7 : x8 = x7) (h8 : x9 = x8) : x9 = x1 := by omega
set_option maxHeartbeats 16000000 in
set_option maxRecDepth 100000 in
theorem c_x_X5_local (l : Launch) (n : Nat) (dC : Nat → ClassId) (dI : Nat → Nat → Nat) (cI cB cZ cJ cR : ClassId) (tb : Nat → Nat) (sz : Nat) (ad : Nat → Nat) (pr : Int32 → Nat) (N : Nat) (L1 L2 : List Nat) (v : MS) (ps : Int32) (z304 : 0 ≤ (v.1 0 304).toInt ∧ (v.1 0 304).toInt ≤ 1503) (z306 : 0 ≤ (v.1 0 306).toInt ∧ (v.1 0 306).toInt ≤ 40) (z312 : 0 ≤ (v.1 0 312).toInt ∧ (v.1 0 312).toInt ≤ 500) (z321 : 0 ≤ (v.1 0 321).toInt ∧ (v.1 0 321).toInt ≤ 501) (z326 : 0 ≤ (v.1 0 326).toInt ∧ (v.1 0 326).toInt ≤ 420) (z373 : 0 ≤ (v.1 0 373).toInt ∧ (v.1 0 373).toInt ≤ 4000) (z381 : 0 ≤ (v.1 0 381).toInt ∧ (v.1 0 381).toInt ≤ 3008) (hL1 : L1.length = 40) (hL2 : L2.length = 60) (rp : RP v) (hps : pr ps = ad 908) (es300 : (v.1 0 300) = ps) (es310 : (v.1 0 310) = ps) (hst : l.stackTraces = false) (zn : 40 ≤ (v.1 0 306).toInt + (n : Int)) : vx_Met l yX5_local (Cond.code yX5_local cX5_local 3 none :: tw_W) ({ frames := 8 * n + 21, cells := 1, slots := 6, locals := 28 * (8 * n + 21) }) (pc_ (dC, dI) (tyS cI cB cZ cJ cR) tb (cW ad pr N cI cR L1 L2 v) sz [.ref (ad 903)]) (qvz_ (dC, dI) (cW ad pr N cI cR L1 L2 v) sz (fun (u : MS) => FC [305, 306, 307, 312, 314, 315, 317, 321, 326, 381] [0, 311, 316, 318, 319, 320, 324, 325, 378, 379, 380] v u ∧ (0 ≤ (u.1 0 306).toInt ∧ (u.1 0 306).toInt ≤ 40) ∧ (0 ≤ (u.1 0 312).toInt ∧ (u.1 0 312).toInt ≤ 500) ∧ (0 ≤ (u.1 0 321).toInt ∧ (u.1 0 321).toInt ≤ 501) ∧ (0 ≤ (u.1 0 326).toInt ∧ (u.1 0 326).toInt ≤ 420) ∧ (0 ≤ (u.1 0 381).toInt ∧ (u.1 0 381).toInt ≤ 3008) ∧ ((u.1 0 306).toInt = (v.1 0 306).toInt)) (fun (u : MS) => (cW ad pr N cI cR L1 L2 u))) (qxc (dC, dI) (cW ad pr N cI cR L1 L2 v) sz (fun (u : MS) => (cW ad pr N cI cR L1 L2 u)) (fun (u : MS) => FC xfl xal v u ∧ (u.1 0 308).toInt ≠ 0)) 1 6 (va_A (cW ad pr N cI cR L1 L2 v) sz) := by
  refine vx_ofW (cc := cX5_local) (maxL := 3) (ret := none) (by decide) rfl ?_
  intro p e s m args below meth c s₁ B hml hnt hv
  obtain ⟨rfl, hsz, hP, hKK, hD0, hFx⟩ := hv
  have hK := hKK.1
  have hx := B.exec
  have hb := B.bytes
  have hr := B.returns
  have ht : ∀ w ∈ tw_W, w.before _ s = true := fun w h => atoms_spec (ws := Cond.code yX5_local cX5_local 3 none :: tw_W) B.pre w (List.mem_cons_of_mem _ h)
  have hown : s.vm.findClass RX5 = some m.cls := findClass_of_methodNamed B.named
  have hlocks := B.notSynchronized
  subst hsz
  unfold qvz_ qxc
  have hD := hD0.self (sz := s.heap.size)
  generalize hAe : va_A (cW ad pr N cI cR L1 L2 v) s.heap.size = A at hD hFx ⊢
  have hA : ∀ q : Nat, s.heap.size ≤ q → A q := fun q h => by rw [← hAe]; exact Or.inr h
  have hS : va_S A s.heap s.heap [] := va_S.rf
  have hl := lv_entry ([.ref (ad 903)]) (n := 3) (Nat.le_of_ble_eq_true rfl)
  rw [lg_entry_eq]
  generalize (lg_sl ([.ref (ad 903)]) ++ List.replicate (3 - (lg_sl ([.ref (ad 903)])).length) Slot.unset).toArray = ls at hl ⊢
  have hl : lv_has ls 3 [(0, .ref (ad 903))] := hl
  refine lv_aload_n hx hb dX5_local_0 rfl (lv_at hl 0 rfl) ?_
  refine va_get (D := (dC, dI)) (ci := 8) (fs := oF_X5 ad pr v) (v := .ref (ad 900)) (C := RX5) (T := TX5) (N := 7) hx hb ht itX5 hown hK hP 3 rfl rfl 1 (by decide) (ht _ tw_571) (fun _ h9 => h9) rfl dX5_local_1 ?_
  refine W.sz (fun hz9 => ?_)
  refine czx_v (rx_Vk (n := 0) (As := []) (rest := []) hx hb hml hown ht hKK hFx hP hD hS hA (c_x_X9_take l dC dI cI cB cZ cJ cR tb s.heap.size ad pr N L1 L2 v ps (show 0 ≤ (v.1 0 304).toInt ∧ (v.1 0 304).toInt ≤ 1503 from (om_c99648273b z304)) (show 0 ≤ (v.1 0 373).toInt ∧ (v.1 0 373).toInt ≤ 4000 from (om_c74a68af25 z373)) (show pr ps = ad 908 from hps) (show (v.1 0 300) = ps from es300) (show l.stackTraces = false from hst)) tw_539 tw_585 (by decide +kernel) rfl rfl ⟨show 7 + 1 ≤ 8 * n + 21 from om_e98b1a8fe4, show 8 + (1 + 11) + 104 ≤ 28 * (8 * n + 21) from om_84edb096fe⟩ (List.range (cW ad pr N cI cR L1 L2 v).length) (rg_map _) (nd_range _) 0 rfl rfl rfl rfl hl.1 rfl (Nat.le_of_ble_eq_true rfl) dX5_local_4 ⟨Nat.le_of_ble_eq_true rfl, Nat.le_of_ble_eq_true rfl⟩) hP hD hS hA (fun u9 ce9 q9 H locs hx9 hP hD hS hc9 hv9 hf9 => ?_) (fun u2 H locs hw1 hP hD hS hz8 => ?_)
  · exact vx_out (fun x h9 => (hnt x h9).elim) hlocks hc9 hv9 hf9 (fun t9 ht9 hv8 => ⟨u9, ⟨FC.tr (FC.rf _) hx9.1, hx9.2⟩, ⟨rfl, by rw [ht9]; exact hP, hD⟩, hS.F ht9⟩) hS.2.2 (Nat.le_refl _) (Nat.le_refl _)
  refine W.shrink (hz8.trans hz9) ?_
  have fr1 := hw1
  refine lv_aload_n hx hb dX5_local_7 rfl (lv_at hl 0 rfl) ?_
  have q4 : (u2.1 0 304).toInt = (v.1 0 304).toInt := congrArg Int32.toInt ((fr1.2.1 304 (by decide)).trans (show v.1 0 304 = (v.1 0 304) by rfl))
  have q5 : (u2.1 0 312).toInt = (v.1 0 312).toInt := congrArg Int32.toInt ((fr1.2.1 312 (by decide)).trans (show v.1 0 312 = (v.1 0 312) by rfl))
  have q6 : (u2.1 0 373).toInt = (v.1 0 373).toInt := congrArg Int32.toInt ((fr1.2.1 373 (by decide)).trans (show v.1 0 373 = (v.1 0 373) by rfl))
  refine W.sz (fun hz9 => ?_)
  refine czx_i (rx_Vk (n := 0) (As := []) (rest := []) hx hb hml hown ht hKK hFx hP hD hS hA (c_x_X5_newName l dC dI cI cB cZ cJ cR tb H.size ad pr N L1 L2 u2 ps (show 0 ≤ (u2.1 0 304).toInt ∧ (u2.1 0 304).toInt ≤ 1503 from (om_73002589c1 z304 q4)) (show 0 ≤ (u2.1 0 312).toInt ∧ (u2.1 0 312).toInt ≤ 500 from (om_f8376ff89c z312 q5)) (show 0 ≤ (u2.1 0 373).toInt ∧ (u2.1 0 373).toInt ≤ 4000 from (om_9084c127ed z373 q6)) (show pr ps = ad 908 from hps) (show (u2.1 0 300) = ps from (Eq.trans (fr1.2.1 300 (by decide)) es300)) (show l.stackTraces = false from hst)) tw_581 tw_582 (by decide +kernel) rfl rfl ⟨show 8 + 1 ≤ 8 * n + 21 from om_52b4b3a962, show 8 + (1 + 11) + 125 ≤ 28 * (8 * n + 21) from om_7b2ca057bd⟩ (List.range (cW ad pr N cI cR L1 L2 u2).length) (rg_map _) (nd_range _) 3 rfl rfl rfl rfl hl.1 rfl (Nat.le_of_ble_eq_true rfl) dX5_local_8 ⟨Nat.le_of_ble_eq_true rfl, Nat.le_of_ble_eq_true rfl⟩) hP hD hS hA (fun u9 ce9 q9 H locs hx9 hP hD hS hc9 hv9 hf9 => ?_) (fun r9 u8 H locs hw7 hP hD hS hz8 => ?_)
  · exact vx_out (fun x h9 => (hnt x h9).elim) hlocks hc9 hv9 hf9 (fun t9 ht9 hv8 => ⟨u9, ⟨FC.tr (FC.tr (FC.rf _) (FC.up fr1 (by decide) (by decide))) hx9.1, hx9.2⟩, ⟨rfl, by rw [ht9]; exact hP, hD⟩, hS.F ht9⟩) hS.2.2 (Nat.le_refl _) (Nat.le_refl _)
  refine W.shrink (hz8.trans hz9) ?_
  have fr7 := hw7
  refine lv_istore_n (lv' := [(1, .int r9), (0, .ref (ad 903))]) hx hb dX5_local_11 rfl hl (by decide) rfl (fun ls hl => ?_)
  refine lv_aload_n hx hb dX5_local_12 rfl (lv_at hl 1 rfl) ?_
  have q10 : (u8.1 0 304).toInt = (u2.1 0 304).toInt := congrArg Int32.toInt ((fr7.2.1 304 (by decide)).trans (show u2.1 0 304 = (u2.1 0 304) by rfl))
  have q11 : (u8.1 0 312).toInt = (u2.1 0 312).toInt := congrArg Int32.toInt ((fr7.2.1 312 (by decide)).trans (show u2.1 0 312 = (u2.1 0 312) by rfl))
  have q12 : (u8.1 0 373).toInt = (u2.1 0 373).toInt := congrArg Int32.toInt ((fr7.2.1 373 (by decide)).trans (show u2.1 0 373 = (u2.1 0 373) by rfl))
  refine W.sz (fun hz9 => ?_)
  refine czx_v (rx_Vk (n := 0) (As := []) (rest := []) hx hb hml hown ht hKK hFx hP hD hS hA (c_x_X5_wantSlot l dC dI cI cB cZ cJ cR tb H.size ad pr N L1 L2 u8 ps (show 0 ≤ (u8.1 0 304).toInt ∧ (u8.1 0 304).toInt ≤ 1503 from (om_dd87ee851a z304 q4 q10)) (show 0 ≤ (u8.1 0 312).toInt ∧ (u8.1 0 312).toInt ≤ 500 from (om_8a5975ec21 z312 q5 q11)) (show 0 ≤ (u8.1 0 373).toInt ∧ (u8.1 0 373).toInt ≤ 4000 from (om_03cd8767ac z373 q6 q12)) (show pr ps = ad 908 from hps) (show (u8.1 0 300) = ps from (Eq.trans (fr7.2.1 300 (by decide)) (Eq.trans (fr1.2.1 300 (by decide)) es300))) (show l.stackTraces = false from hst)) tw_583 tw_584 (by decide +kernel) rfl rfl ⟨show 7 + 1 ≤ 8 * n + 21 from om_e98b1a8fe4, show 8 + (1 + 11) + 104 ≤ 28 * (8 * n + 21) from om_84edb096fe⟩ (List.range (cW ad pr N cI cR L1 L2 u8).length) (rg_map _) (nd_range _) 3 rfl rfl rfl rfl hl.1 rfl (Nat.le_of_ble_eq_true rfl) dX5_local_13 ⟨Nat.le_of_ble_eq_true rfl, Nat.le_of_ble_eq_true rfl⟩) hP hD hS hA (fun u9 ce9 q9 H locs hx9 hP hD hS hc9 hv9 hf9 => ?_) (fun u14 H locs hw13 hP hD hS hz8 => ?_)
  · exact vx_out (fun x h9 => (hnt x h9).elim) hlocks hc9 hv9 hf9 (fun t9 ht9 hv8 => ⟨u9, ⟨FC.tr (FC.tr (FC.tr (FC.rf _) (FC.up fr1 (by decide) (by decide))) (FC.up fr7 (by decide) (by decide))) hx9.1, hx9.2⟩, ⟨rfl, by rw [ht9]; exact hP, hD⟩, hS.F ht9⟩) hS.2.2 (Nat.le_refl _) (Nat.le_refl _)
  refine W.shrink (hz8.trans hz9) ?_
  have fr13 := hw13
  refine lv_aload_n hx hb dX5_local_16 rfl (lv_at hl 1 rfl) ?_
  refine va_get (D := (dC, dI)) (ci := 8) (fs := oF_X5 ad pr u14) (v := .ref (ad 901)) (C := RX5) (T := TX5) (N := 7) hx hb ht itX5 hown hK hP 3 rfl rfl 2 (by decide) (ht _ tw_573) (fun _ h9 => h9) rfl dX5_local_17 ?_
  have q16 : (u14.1 0 312).toInt = (u8.1 0 312).toInt := congrArg Int32.toInt ((fr13.2.1 312 (by decide)).trans (show u8.1 0 312 = (u8.1 0 312) by rfl))
  refine cu_i (rn_Vk (n := 0) (As := []) (rest := []) hx hb hml hown ht hKK hFx hP hD hS hA (c_x_X1_nextSlot l dC dI cI cB cZ cJ cR tb H.size ad pr N L1 L2 u14  (show 0 ≤ (u14.1 0 312).toInt ∧ (u14.1 0 312).toInt ≤ 500 from (om_a369f3fea6 z312 q5 q11 q16))) tw_505 tw_611 (by decide +kernel) rfl rfl ⟨show 0 + 1 ≤ 8 * n + 21 from om_a43f662a07, show 8 + (1 + 11) + 0 ≤ 28 * (8 * n + 21) from om_9f2e4fbaf3⟩ (List.range (cW ad pr N cI cR L1 L2 u14).length) (rg_map _) (nd_range _) 1 rfl rfl rfl rfl hl.1 rfl (Nat.le_of_ble_eq_true rfl) dX5_local_20 ⟨Nat.le_of_ble_eq_true rfl, Nat.le_of_ble_eq_true rfl⟩) hP hD hS hA (fun r19 u18 H locs hw17 hP hD hS => ?_)
  obtain rfl := hw17
  refine W.widen (k := 0) (n := 0) (Nat.le_refl _) (Nat.le_refl _) ?_
  refine lv_istore_n (lv' := [(2, .int r19), (1, .int r9), (0, .ref (ad 903))]) hx hb dX5_local_23 rfl hl (by decide) rfl (fun ls hl => ?_)
  refine lv_aload_n hx hb dX5_local_24 rfl (lv_at hl 2 rfl) ?_
  refine va_get (D := (dC, dI)) (ci := 8) (fs := oF_X5 ad pr u14) (v := .ref (ad 900)) (C := RX5) (T := TX5) (N := 7) hx hb ht itX5 hown hK hP 3 rfl rfl 1 (by decide) (ht _ tw_571) (fun _ h9 => h9) rfl dX5_local_25 ?_
  have q20 : (u14.1 0 304).toInt = (u8.1 0 304).toInt := congrArg Int32.toInt ((fr13.2.1 304 (by decide)).trans (show u8.1 0 304 = (u8.1 0 304) by rfl))
  have q21 : (u14.1 0 373).toInt = (u8.1 0 373).toInt := congrArg Int32.toInt ((fr13.2.1 373 (by decide)).trans (show u8.1 0 373 = (u8.1 0 373) by rfl))
  refine W.sz (fun hz9 => ?_)
  refine czx_v (rx_Vk (n := 0) (As := []) (rest := []) hx hb hml hown ht hKK hFx hP hD hS hA (c_x_X9_take l dC dI cI cB cZ cJ cR tb H.size ad pr N L1 L2 u14 ps (show 0 ≤ (u14.1 0 304).toInt ∧ (u14.1 0 304).toInt ≤ 1503 from (om_57e3d9ffbd z304 q4 q10 q20)) (show 0 ≤ (u14.1 0 373).toInt ∧ (u14.1 0 373).toInt ≤ 4000 from (om_282c7f458f z373 q6 q12 q21)) (show pr ps = ad 908 from hps) (show (u14.1 0 300) = ps from (Eq.trans (fr13.2.1 300 (by decide)) (Eq.trans (fr7.2.1 300 (by decide)) (Eq.trans (fr1.2.1 300 (by decide)) es300)))) (show l.stackTraces = false from hst)) tw_539 tw_585 (by decide +kernel) rfl rfl ⟨show 7 + 1 ≤ 8 * n + 21 from om_e98b1a8fe4, show 8 + (1 + 11) + 104 ≤ 28 * (8 * n + 21) from om_84edb096fe⟩ (List.range (cW ad pr N cI cR L1 L2 u14).length) (rg_map _) (nd_range _) 0 rfl rfl rfl rfl hl.1 rfl (Nat.le_of_ble_eq_true rfl) dX5_local_28 ⟨Nat.le_of_ble_eq_true rfl, Nat.le_of_ble_eq_true rfl⟩) hP hD hS hA (fun u9 ce9 q9 H locs hx9 hP hD hS hc9 hv9 hf9 => ?_) (fun u23 H locs hw22 hP hD hS hz8 => ?_)
  · exact vx_out (fun x h9 => (hnt x h9).elim) hlocks hc9 hv9 hf9 (fun t9 ht9 hv8 => ⟨u9, ⟨FC.tr (FC.tr (FC.tr (FC.tr (FC.rf _) (FC.up fr1 (by decide) (by decide))) (FC.up fr7 (by decide) (by decide))) (FC.up fr13 (by decide) (by decide))) hx9.1, hx9.2⟩, ⟨rfl, by rw [ht9]; exact hP, hD⟩, hS.F ht9⟩) hS.2.2 (Nat.le_refl _) (Nat.le_refl _)
  refine W.shrink (hz8.trans hz9) ?_
  have fr22 := hw22
  refine lv_aload_n hx hb dX5_local_31 rfl (lv_at hl 2 rfl) ?_
  refine va_get (D := (dC, dI)) (ci := 8) (fs := oF_X5 ad pr u23) (v := .ref (ad 900)) (C := RX5) (T := TX5) (N := 7) hx hb ht itX5 hown hK hP 3 rfl rfl 1 (by decide) (ht _ tw_571) (fun _ h9 => h9) rfl dX5_local_32 ?_
  have q25 : (u23.1 0 304).toInt = (u14.1 0 304).toInt := congrArg Int32.toInt ((fr22.2.1 304 (by decide)).trans (show u14.1 0 304 = (u14.1 0 304) by rfl))
  refine cu_i (rn_Vk (n := 0) (As := []) (rest := []) hx hb hml hown ht hKK hFx hP hD hS hA (c_x_X9_kind l dC dI cI cB cZ cJ cR tb H.size ad pr N L1 L2 u23  (show 0 ≤ (u23.1 0 304).toInt ∧ (u23.1 0 304).toInt ≤ 1503 from (om_8044691ca6 z304 q4 q10 q20 q25))) tw_455 tw_594 (by decide +kernel) rfl rfl ⟨show 0 + 1 ≤ 8 * n + 21 from om_a43f662a07, show 8 + (1 + 11) + 0 ≤ 28 * (8 * n + 21) from om_9f2e4fbaf3⟩ (List.range (cW ad pr N cI cR L1 L2 u23).length) (rg_map _) (nd_range _) 0 rfl rfl rfl rfl hl.1 rfl (Nat.le_of_ble_eq_true rfl) dX5_local_35 ⟨Nat.le_of_ble_eq_true rfl, Nat.le_of_ble_eq_true rfl⟩) hP hD hS hA (fun r28 u27 H locs hw26 hP hD hS => ?_)
  obtain rfl := hw26
  refine W.widen (k := 0) (n := 0) (Nat.le_refl _) (Nat.le_refl _) ?_
  refine lv_bipush (v := 42) hx hb dX5_local_38 (by decide) ?_
  refine lv_icmp_ne (tgt := 61) hx hb dX5_local_40 (by decide) (fun h29 => ?_) (fun h29 => ?_)
  · have z30 : r28.toInt ≠ (42 : Int) := ne_z rfl (show (42 : Int32).toInt = (42 : Int) by decide) h29
    refine lv_aload_n hx hb dX5_local_61 rfl (lv_at hl 2 rfl) ?_
    refine va_get (D := (dC, dI)) (ci := 8) (fs := oF_X5 ad pr u23) (v := .ref (ad 901)) (C := RX5) (T := TX5) (N := 7) hx hb ht itX5 hown hK hP 3 rfl rfl 2 (by decide) (ht _ tw_573) (fun _ h9 => h9) rfl dX5_local_62 ?_
    refine lv_iconst (v := 2) hx hb dX5_local_65 (by decide) ?_
    refine lv_iconst (v := 0) hx hb dX5_local_66 (by decide) ?_
    refine lv_iconst (v := 0) hx hb dX5_local_67 (by decide) ?_
    have q31 : (u2.1 0 381).toInt = (v.1 0 381).toInt := congrArg Int32.toInt ((fr1.2.1 381 (by decide)).trans (show v.1 0 381 = (v.1 0 381) by rfl))
    have q32 : (u8.1 0 381).toInt = (u2.1 0 381).toInt := congrArg Int32.toInt ((fr7.2.1 381 (by decide)).trans (show u2.1 0 381 = (u2.1 0 381) by rfl))
    have q33 : (u14.1 0 381).toInt = (u8.1 0 381).toInt := congrArg Int32.toInt ((fr13.2.1 381 (by decide)).trans (show u8.1 0 381 = (u8.1 0 381) by rfl))
    have q34 : (u23.1 0 381).toInt = (u14.1 0 381).toInt := congrArg Int32.toInt ((fr22.2.1 381 (by decide)).trans (show u14.1 0 381 = (u14.1 0 381) by rfl))
    refine cu_v (rn_Vk (n := 3) (As := [.int 2, .int 0, .int 0]) (rest := []) hx hb hml hown ht hKK hFx hP hD hS hA (c_x_X1_add l dC dI cI cB cZ cJ cR tb H.size ad pr N L1 L2 u23 (2 : Int32) (0 : Int32) (0 : Int32) ps (show 0 ≤ (u23.1 0 381).toInt ∧ (u23.1 0 381).toInt ≤ 3008 from (om_4267952275 z381 q31 q32 q33 q34)) (show pr ps = ad 908 from hps) (show (u23.1 0 310) = ps from (Eq.trans (fr22.2.1 310 (by decide)) (Eq.trans (fr13.2.1 310 (by decide)) (Eq.trans (fr7.2.1 310 (by decide)) (Eq.trans (fr1.2.1 310 (by decide)) es310)))))) tw_499 tw_592 (by decide +kernel) rfl rfl ⟨show 0 + 1 ≤ 8 * n + 21 from om_a43f662a07, show 8 + (5 + 11) + 0 ≤ 28 * (8 * n + 21) from om_78af4e5b79⟩ (List.range (cW ad pr N cI cR L1 L2 u23).length) (rg_map _) (nd_range _) 1 rfl rfl rfl rfl hl.1 rfl (Nat.le_of_ble_eq_true rfl) dX5_local_68 ⟨Nat.le_of_ble_eq_true rfl, Nat.le_of_ble_eq_true rfl⟩) hP hD hS hA (fun u36 H locs hw35 hP hD hS => ?_)
    obtain ⟨fr35, i38135⟩ := hw35
    have i38135 : 0 ≤ (u36.1 0 381).toInt ∧ (u36.1 0 381).toInt ≤ 3008 := i38135
    refine W.widen (k := 0) (n := 0) (Nat.le_refl _) (Nat.le_refl _) ?_
    refine lv_aload_n hx hb dX5_local_71 rfl (lv_at hl 2 rfl) ?_
    refine va_get (D := (dC, dI)) (ci := 8) (fs := oF_X5 ad pr u36) (v := .ref (ad 901)) (C := RX5) (T := TX5) (N := 7) hx hb ht itX5 hown hK hP 3 rfl rfl 2 (by decide) (ht _ tw_573) (fun _ h9 => h9) rfl dX5_local_72 ?_
    refine lv_iconst (v := 4) hx hb dX5_local_75 (by decide) ?_
    refine lv_iload_n hx hb dX5_local_76 rfl (lv_at hl 0 rfl) ?_
    refine lv_iconst (v := 0) hx hb dX5_local_77 (by decide) ?_
    refine cu_v (rn_Vk (n := 3) (As := [.int 4, .int r19, .int 0]) (rest := []) hx hb hml hown ht hKK hFx hP hD hS hA (c_x_X1_add l dC dI cI cB cZ cJ cR tb H.size ad pr N L1 L2 u36 (4 : Int32) r19 (0 : Int32) ps (show 0 ≤ (u36.1 0 381).toInt ∧ (u36.1 0 381).toInt ≤ 3008 from (om_e78eec72e1 i38135)) (show pr ps = ad 908 from hps) (show (u36.1 0 310) = ps from (Eq.trans (fr35.2.1 310 (by decide)) (Eq.trans (fr22.2.1 310 (by decide)) (Eq.trans (fr13.2.1 310 (by decide)) (Eq.trans (fr7.2.1 310 (by decide)) (Eq.trans (fr1.2.1 310 (by decide)) es310))))))) tw_499 tw_592 (by decide +kernel) rfl rfl ⟨show 0 + 1 ≤ 8 * n + 21 from om_a43f662a07, show 8 + (5 + 11) + 0 ≤ 28 * (8 * n + 21) from om_78af4e5b79⟩ (List.range (cW ad pr N cI cR L1 L2 u36).length) (rg_map _) (nd_range _) 1 rfl rfl rfl rfl hl.1 rfl (Nat.le_of_ble_eq_true rfl) dX5_local_78 ⟨Nat.le_of_ble_eq_true rfl, Nat.le_of_ble_eq_true rfl⟩) hP hD hS hA (fun u39 H locs hw38 hP hD hS => ?_)
    obtain ⟨fr38, i38138⟩ := hw38
    have i38138 : 0 ≤ (u39.1 0 381).toInt ∧ (u39.1 0 381).toInt ≤ 3008 := i38138
    refine W.widen (k := 0) (n := 0) (Nat.le_refl _) (Nat.le_refl _) ?_
    refine lv_aload_n hx hb dX5_local_81 rfl (lv_at hl 2 rfl) ?_
    refine va_get (D := (dC, dI)) (ci := 8) (fs := oF_X5 ad pr u39) (v := .ref (ad 900)) (C := RX5) (T := TX5) (N := 7) hx hb ht itX5 hown hK hP 3 rfl rfl 1 (by decide) (ht _ tw_571) (fun _ h9 => h9) rfl dX5_local_82 ?_
    refine lv_bipush (v := 36) hx hb dX5_local_85 (by decide) ?_
    have q41 : (u36.1 0 304).toInt = (u23.1 0 304).toInt := congrArg Int32.toInt ((fr35.2.1 304 (by decide)).trans (show u23.1 0 304 = (u23.1 0 304) by rfl))
    have q42 : (u39.1 0 304).toInt = (u36.1 0 304).toInt := congrArg Int32.toInt ((fr38.2.1 304 (by decide)).trans (show u36.1 0 304 = (u36.1 0 304) by rfl))
    have q43 : (u23.1 0 373).toInt = (u14.1 0 373).toInt := congrArg Int32.toInt ((fr22.2.1 373 (by decide)).trans (show u14.1 0 373 = (u14.1 0 373) by rfl))
    have q44 : (u36.1 0 373).toInt = (u23.1 0 373).toInt := congrArg Int32.toInt ((fr35.2.1 373 (by decide)).trans (show u23.1 0 373 = (u23.1 0 373) by rfl))
    have q45 : (u39.1 0 373).toInt = (u36.1 0 373).toInt := congrArg Int32.toInt ((fr38.2.1 373 (by decide)).trans (show u36.1 0 373 = (u36.1 0 373) by rfl))
    refine W.sz (fun hz9 => ?_)
    refine czx_v (rx_Vk (n := 1) (As := [.int 36]) (rest := []) hx hb hml hown ht hKK hFx hP hD hS hA (c_x_X9_expect l dC dI cI cB cZ cJ cR tb H.size ad pr N L1 L2 u39 (36 : Int32) ps (show 0 ≤ (u39.1 0 304).toInt ∧ (u39.1 0 304).toInt ≤ 1503 from (om_1a945f4049 z304 q4 q10 q20 q25 q41 q42)) (show 0 ≤ (u39.1 0 373).toInt ∧ (u39.1 0 373).toInt ≤ 4000 from (om_1de556205c z373 q6 q12 q21 q43 q44 q45)) (show pr ps = ad 908 from hps) (show (u39.1 0 300) = ps from (Eq.trans (fr38.2.1 300 (by decide)) (Eq.trans (fr35.2.1 300 (by decide)) (Eq.trans (fr22.2.1 300 (by decide)) (Eq.trans (fr13.2.1 300 (by decide)) (Eq.trans (fr7.2.1 300 (by decide)) (Eq.trans (fr1.2.1 300 (by decide)) es300))))))) (show l.stackTraces = false from hst)) tw_526 tw_580 (by decide +kernel) rfl rfl ⟨show 7 + 1 ≤ 8 * n + 21 from om_e98b1a8fe4, show 8 + (2 + 11) + 104 ≤ 28 * (8 * n + 21) from om_70d74f4c8d⟩ (List.range (cW ad pr N cI cR L1 L2 u39).length) (rg_map _) (nd_range _) 0 rfl rfl rfl rfl hl.1 rfl (Nat.le_of_ble_eq_true rfl) dX5_local_87 ⟨Nat.le_of_ble_eq_true rfl, Nat.le_of_ble_eq_true rfl⟩) hP hD hS hA (fun u9 ce9 q9 H locs hx9 hP hD hS hc9 hv9 hf9 => ?_) (fun u47 H locs hw46 hP hD hS hz8 => ?_)
    · exact vx_out (fun x h9 => (hnt x h9).elim) hlocks hc9 hv9 hf9 (fun t9 ht9 hv8 => ⟨u9, ⟨FC.tr (FC.tr (FC.tr (FC.tr (FC.tr (FC.tr (FC.tr (FC.rf _) (FC.up fr1 (by decide) (by decide))) (FC.up fr7 (by decide) (by decide))) (FC.up fr13 (by decide) (by decide))) (FC.up fr22 (by decide) (by decide))) (FC.up fr35 (by decide) (by decide))) (FC.up fr38 (by decide) (by decide))) hx9.1, hx9.2⟩, ⟨rfl, by rw [ht9]; exact hP, hD⟩, hS.F ht9⟩) hS.2.2 (Nat.le_refl _) (Nat.le_refl _)
    refine W.shrink (hz8.trans hz9) ?_
    have fr46 := hw46
    refine lv_aload_n hx hb dX5_local_90 rfl (lv_at hl 2 rfl) ?_
    refine va_get (D := (dC, dI)) (ci := 8) (fs := oF_X5 ad pr u47) (v := .ref (ad 901)) (C := RX5) (T := TX5) (N := 7) hx hb ht itX5 hown hK hP 3 rfl rfl 2 (by decide) (ht _ tw_573) (fun _ h9 => h9) rfl dX5_local_91 ?_
    refine lv_iload_n hx hb dX5_local_94 rfl (lv_at hl 1 rfl) ?_
    have q49 : (u23.1 0 312).toInt = (u14.1 0 312).toInt := congrArg Int32.toInt ((fr22.2.1 312 (by decide)).trans (show u14.1 0 312 = (u14.1 0 312) by rfl))
    have q50 : (u36.1 0 312).toInt = (u23.1 0 312).toInt := congrArg Int32.toInt ((fr35.2.1 312 (by decide)).trans (show u23.1 0 312 = (u23.1 0 312) by rfl))
    have q51 : (u39.1 0 312).toInt = (u36.1 0 312).toInt := congrArg Int32.toInt ((fr38.2.1 312 (by decide)).trans (show u36.1 0 312 = (u36.1 0 312) by rfl))
    have q52 : (u47.1 0 312).toInt = (u39.1 0 312).toInt := congrArg Int32.toInt ((fr46.2.1 312 (by decide)).trans (show u39.1 0 312 = (u39.1 0 312) by rfl))
    refine cu_v (rn_Vk (n := 1) (As := [.int r9]) (rest := []) hx hb hml hown ht hKK hFx hP hD hS hA (c_x_X1_learn l dC dI cI cB cZ cJ cR tb H.size ad pr N L1 L2 u47 r9 (show 0 ≤ (u47.1 0 312).toInt ∧ (u47.1 0 312).toInt ≤ 500 from (om_4d1a2a7aa0 z312 q5 q11 q16 q49 q50 q51 q52))) tw_586 tw_587 (by decide +kernel) rfl rfl ⟨show 0 + 1 ≤ 8 * n + 21 from om_a43f662a07, show 8 + (2 + 11) + 0 ≤ 28 * (8 * n + 21) from om_b45810c062⟩ (List.range (cW ad pr N cI cR L1 L2 u47).length) (rg_map _) (nd_range _) 1 rfl rfl rfl rfl hl.1 rfl (Nat.le_of_ble_eq_true rfl) dX5_local_95 ⟨Nat.le_of_ble_eq_true rfl, Nat.le_of_ble_eq_true rfl⟩) hP hD hS hA (fun u54 H locs hw53 hP hD hS => ?_)
    obtain ⟨fr53, i31253⟩ := hw53
    have i31253 : 0 ≤ (u54.1 0 312).toInt ∧ (u54.1 0 312).toInt ≤ 500 := i31253
    refine W.widen (k := 0) (n := 0) (Nat.le_refl _) (Nat.le_refl _) ?_
    have q56 : (u2.1 0 306).toInt = (v.1 0 306).toInt := congrArg Int32.toInt ((fr1.2.1 306 (by decide)).trans (show v.1 0 306 = (v.1 0 306) by rfl))
    have q57 : (u8.1 0 306).toInt = (u2.1 0 306).toInt := congrArg Int32.toInt ((fr7.2.1 306 (by decide)).trans (show u2.1 0 306 = (u2.1 0 306) by rfl))
    have q58 : (u14.1 0 306).toInt = (u8.1 0 306).toInt := congrArg Int32.toInt ((fr13.2.1 306 (by decide)).trans (show u8.1 0 306 = (u8.1 0 306) by rfl))
    have q59 : (u23.1 0 306).toInt = (u14.1 0 306).toInt := congrArg Int32.toInt ((fr22.2.1 306 (by decide)).trans (show u14.1 0 306 = (u14.1 0 306) by rfl))
    have q60 : (u36.1 0 306).toInt = (u23.1 0 306).toInt := congrArg Int32.toInt ((fr35.2.1 306 (by decide)).trans (show u23.1 0 306 = (u23.1 0 306) by rfl))
    have q61 : (u39.1 0 306).toInt = (u36.1 0 306).toInt := congrArg Int32.toInt ((fr38.2.1 306 (by decide)).trans (show u36.1 0 306 = (u36.1 0 306) by rfl))
    have q62 : (u47.1 0 306).toInt = (u39.1 0 306).toInt := congrArg Int32.toInt ((fr46.2.1 306 (by decide)).trans (show u39.1 0 306 = (u39.1 0 306) by rfl))
    have q63 : (u54.1 0 306).toInt = (u47.1 0 306).toInt := congrArg Int32.toInt ((fr53.2.1 306 (by decide)).trans (show u47.1 0 306 = (u47.1 0 306) by rfl))
    have q64 : (u2.1 0 321).toInt = (v.1 0 321).toInt := congrArg Int32.toInt ((fr1.2.1 321 (by decide)).trans (show v.1 0 321 = (v.1 0 321) by rfl))
    have q65 : (u8.1 0 321).toInt = (u2.1 0 321).toInt := congrArg Int32.toInt ((fr7.2.1 321 (by decide)).trans (show u2.1 0 321 = (u2.1 0 321) by rfl))
    have q66 : (u14.1 0 321).toInt = (u8.1 0 321).toInt := congrArg Int32.toInt ((fr13.2.1 321 (by decide)).trans (show u8.1 0 321 = (u8.1 0 321) by rfl))
    have q67 : (u23.1 0 321).toInt = (u14.1 0 321).toInt := congrArg Int32.toInt ((fr22.2.1 321 (by decide)).trans (show u14.1 0 321 = (u14.1 0 321) by rfl))
    have q68 : (u36.1 0 321).toInt = (u23.1 0 321).toInt := congrArg Int32.toInt ((fr35.2.1 321 (by decide)).trans (show u23.1 0 321 = (u23.1 0 321) by rfl))
    have q69 : (u39.1 0 321).toInt = (u36.1 0 321).toInt := congrArg Int32.toInt ((fr38.2.1 321 (by decide)).trans (show u36.1 0 321 = (u36.1 0 321) by rfl))
    have q70 : (u47.1 0 321).toInt = (u39.1 0 321).toInt := congrArg Int32.toInt ((fr46.2.1 321 (by decide)).trans (show u39.1 0 321 = (u39.1 0 321) by rfl))
    have q71 : (u54.1 0 321).toInt = (u47.1 0 321).toInt := congrArg Int32.toInt ((fr53.2.1 321 (by decide)).trans (show u47.1 0 321 = (u47.1 0 321) by rfl))
    have q72 : (u2.1 0 326).toInt = (v.1 0 326).toInt := congrArg Int32.toInt ((fr1.2.1 326 (by decide)).trans (show v.1 0 326 = (v.1 0 326) by rfl))
    have q73 : (u8.1 0 326).toInt = (u2.1 0 326).toInt := congrArg Int32.toInt ((fr7.2.1 326 (by decide)).trans (show u2.1 0 326 = (u2.1 0 326) by rfl))
    have q74 : (u14.1 0 326).toInt = (u8.1 0 326).toInt := congrArg Int32.toInt ((fr13.2.1 326 (by decide)).trans (show u8.1 0 326 = (u8.1 0 326) by rfl))
    have q75 : (u23.1 0 326).toInt = (u14.1 0 326).toInt := congrArg Int32.toInt ((fr22.2.1 326 (by decide)).trans (show u14.1 0 326 = (u14.1 0 326) by rfl))
    have q76 : (u36.1 0 326).toInt = (u23.1 0 326).toInt := congrArg Int32.toInt ((fr35.2.1 326 (by decide)).trans (show u23.1 0 326 = (u23.1 0 326) by rfl))
    have q77 : (u39.1 0 326).toInt = (u36.1 0 326).toInt := congrArg Int32.toInt ((fr38.2.1 326 (by decide)).trans (show u36.1 0 326 = (u36.1 0 326) by rfl))
    have q78 : (u47.1 0 326).toInt = (u39.1 0 326).toInt := congrArg Int32.toInt ((fr46.2.1 326 (by decide)).trans (show u39.1 0 326 = (u39.1 0 326) by rfl))
    have q79 : (u54.1 0 326).toInt = (u47.1 0 326).toInt := congrArg Int32.toInt ((fr53.2.1 326 (by decide)).trans (show u47.1 0 326 = (u47.1 0 326) by rfl))
    have q80 : (u47.1 0 381).toInt = (u39.1 0 381).toInt := congrArg Int32.toInt ((fr46.2.1 381 (by decide)).trans (show u39.1 0 381 = (u39.1 0 381) by rfl))
    have q81 : (u54.1 0 381).toInt = (u47.1 0 381).toInt := congrArg Int32.toInt ((fr53.2.1 381 (by decide)).trans (show u47.1 0 381 = (u47.1 0 381) by rfl))
    refine W.sz (fun hz => ?_)
    refine vx_ret ?_
    refine W.widen (k := 1) (n := 6) (Nat.le_of_ble_eq_true rfl) (Nat.le_of_ble_eq_true rfl) ?_
    exact W.vret hx hb hr (fun t ht9 hW => ⟨⟨u54, rfl, ⟨(FC.tr (FC.tr (FC.tr (FC.tr (FC.tr (FC.tr (FC.tr (FC.tr (FC.rf _) (FC.up fr1 (by decide) (by decide))) (FC.up fr7 (by decide) (by decide))) (FC.up fr13 (by decide) (by decide))) (FC.up fr22 (by decide) (by decide))) (FC.up fr35 (by decide) (by decide))) (FC.up fr38 (by decide) (by decide))) (FC.up fr46 (by decide) (by decide))) (FC.up fr53 (by decide) (by decide))), (show 0 ≤ (u54.1 0 306).toInt ∧ (u54.1 0 306).toInt ≤ 40 from (om_232385d87f z306 q56 q57 q58 q59 q60 q61 q62 q63)), (show 0 ≤ (u54.1 0 312).toInt ∧ (u54.1 0 312).toInt ≤ 500 from (om_9861e69da5 i31253)), (show 0 ≤ (u54.1 0 321).toInt ∧ (u54.1 0 321).toInt ≤ 501 from (om_0247461c80 z321 q64 q65 q66 q67 q68 q69 q70 q71)), (show 0 ≤ (u54.1 0 326).toInt ∧ (u54.1 0 326).toInt ≤ 420 from (om_2c0998f108 z326 q72 q73 q74 q75 q76 q77 q78 q79)), (show 0 ≤ (u54.1 0 381).toInt ∧ (u54.1 0 381).toInt ≤ 3008 from (om_769192f2a4 i38138 q80 q81)), (show (u54.1 0 306).toInt = (v.1 0 306).toInt from (om_3adb33c98b q56 q57 q58 q59 q60 q61 q62 q63))⟩, ⟨by rw [ht9]; exact hP, hD⟩, by rw [ht9]; exact hz⟩, hS.F ht9⟩) hS.2.2 dX5_local_98
  · have z82 : r28.toInt = (42 : Int) := eq_z rfl (show (42 : Int32).toInt = (42 : Int) by decide) h29
    refine lv_aload_n hx hb dX5_local_43 rfl (lv_at hl 2 rfl) ?_
    refine va_get (D := (dC, dI)) (ci := 8) (fs := oF_X5 ad pr u23) (v := .ref (ad 900)) (C := RX5) (T := TX5) (N := 7) hx hb ht itX5 hown hK hP 3 rfl rfl 1 (by decide) (ht _ tw_571) (fun _ h9 => h9) rfl dX5_local_44 ?_
    have q83 : (u23.1 0 373).toInt = (u14.1 0 373).toInt := congrArg Int32.toInt ((fr22.2.1 373 (by decide)).trans (show u14.1 0 373 = (u14.1 0 373) by rfl))
    refine W.sz (fun hz9 => ?_)
    refine czx_v (rx_Vk (n := 0) (As := []) (rest := []) hx hb hml hown ht hKK hFx hP hD hS hA (c_x_X9_take l dC dI cI cB cZ cJ cR tb H.size ad pr N L1 L2 u23 ps (show 0 ≤ (u23.1 0 304).toInt ∧ (u23.1 0 304).toInt ≤ 1503 from (om_8044691ca6 z304 q4 q10 q20 q25)) (show 0 ≤ (u23.1 0 373).toInt ∧ (u23.1 0 373).toInt ≤ 4000 from (om_fdcbb58227 z373 q6 q12 q21 q83)) (show pr ps = ad 908 from hps) (show (u23.1 0 300) = ps from (Eq.trans (fr22.2.1 300 (by decide)) (Eq.trans (fr13.2.1 300 (by decide)) (Eq.trans (fr7.2.1 300 (by decide)) (Eq.trans (fr1.2.1 300 (by decide)) es300))))) (show l.stackTraces = false from hst)) tw_539 tw_585 (by decide +kernel) rfl rfl ⟨show 7 + 1 ≤ 8 * n + 21 from om_e98b1a8fe4, show 8 + (1 + 11) + 104 ≤ 28 * (8 * n + 21) from om_84edb096fe⟩ (List.range (cW ad pr N cI cR L1 L2 u23).length) (rg_map _) (nd_range _) 0 rfl rfl rfl rfl hl.1 rfl (Nat.le_of_ble_eq_true rfl) dX5_local_47 ⟨Nat.le_of_ble_eq_true rfl, Nat.le_of_ble_eq_true rfl⟩) hP hD hS hA (fun u9 ce9 q9 H locs hx9 hP hD hS hc9 hv9 hf9 => ?_) (fun u85 H locs hw84 hP hD hS hz8 => ?_)
    · exact vx_out (fun x h9 => (hnt x h9).elim) hlocks hc9 hv9 hf9 (fun t9 ht9 hv8 => ⟨u9, ⟨FC.tr (FC.tr (FC.tr (FC.tr (FC.tr (FC.rf _) (FC.up fr1 (by decide) (by decide))) (FC.up fr7 (by decide) (by decide))) (FC.up fr13 (by decide) (by decide))) (FC.up fr22 (by decide) (by decide))) hx9.1, hx9.2⟩, ⟨rfl, by rw [ht9]; exact hP, hD⟩, hS.F ht9⟩) hS.2.2 (Nat.le_refl _) (Nat.le_refl _)
    refine W.shrink (hz8.trans hz9) ?_
    have fr84 := hw84
    refine lv_aload_n hx hb dX5_local_50 rfl (lv_at hl 2 rfl) ?_
    refine va_get (D := (dC, dI)) (ci := 8) (fs := oF_X5 ad pr u85) (v := .ref (ad 902)) (C := RX5) (T := TX5) (N := 7) hx hb ht itX5 hown hK hP 3 rfl rfl 3 (by decide) (ht _ tw_608) (fun _ h9 => h9) rfl dX5_local_51 ?_
    refine lv_iconst (v := 1) hx hb dX5_local_54 (by decide) ?_
    have q87 : (u85.1 0 304).toInt = (u23.1 0 304).toInt := congrArg Int32.toInt ((fr84.2.1 304 (by decide)).trans (show u23.1 0 304 = (u23.1 0 304) by rfl))
    have q88 : (u2.1 0 306).toInt = (v.1 0 306).toInt := congrArg Int32.toInt ((fr1.2.1 306 (by decide)).trans (show v.1 0 306 = (v.1 0 306) by rfl))
    have q89 : (u8.1 0 306).toInt = (u2.1 0 306).toInt := congrArg Int32.toInt ((fr7.2.1 306 (by decide)).trans (show u2.1 0 306 = (u2.1 0 306) by rfl))
    have q90 : (u14.1 0 306).toInt = (u8.1 0 306).toInt := congrArg Int32.toInt ((fr13.2.1 306 (by decide)).trans (show u8.1 0 306 = (u8.1 0 306) by rfl))
    have q91 : (u23.1 0 306).toInt = (u14.1 0 306).toInt := congrArg Int32.toInt ((fr22.2.1 306 (by decide)).trans (show u14.1 0 306 = (u14.1 0 306) by rfl))
    have q92 : (u85.1 0 306).toInt = (u23.1 0 306).toInt := congrArg Int32.toInt ((fr84.2.1 306 (by decide)).trans (show u23.1 0 306 = (u23.1 0 306) by rfl))
    have q93 : (u23.1 0 312).toInt = (u14.1 0 312).toInt := congrArg Int32.toInt ((fr22.2.1 312 (by decide)).trans (show u14.1 0 312 = (u14.1 0 312) by rfl))
    have q94 : (u85.1 0 312).toInt = (u23.1 0 312).toInt := congrArg Int32.toInt ((fr84.2.1 312 (by decide)).trans (show u23.1 0 312 = (u23.1 0 312) by rfl))
    have q95 : (u2.1 0 321).toInt = (v.1 0 321).toInt := congrArg Int32.toInt ((fr1.2.1 321 (by decide)).trans (show v.1 0 321 = (v.1 0 321) by rfl))
    have q96 : (u8.1 0 321).toInt = (u2.1 0 321).toInt := congrArg Int32.toInt ((fr7.2.1 321 (by decide)).trans (show u2.1 0 321 = (u2.1 0 321) by rfl))
    have q97 : (u14.1 0 321).toInt = (u8.1 0 321).toInt := congrArg Int32.toInt ((fr13.2.1 321 (by decide)).trans (show u8.1 0 321 = (u8.1 0 321) by rfl))
    have q98 : (u23.1 0 321).toInt = (u14.1 0 321).toInt := congrArg Int32.toInt ((fr22.2.1 321 (by decide)).trans (show u14.1 0 321 = (u14.1 0 321) by rfl))
    have q99 : (u85.1 0 321).toInt = (u23.1 0 321).toInt := congrArg Int32.toInt ((fr84.2.1 321 (by decide)).trans (show u23.1 0 321 = (u23.1 0 321) by rfl))
    have q100 : (u2.1 0 326).toInt = (v.1 0 326).toInt := congrArg Int32.toInt ((fr1.2.1 326 (by decide)).trans (show v.1 0 326 = (v.1 0 326) by rfl))
    have q101 : (u8.1 0 326).toInt = (u2.1 0 326).toInt := congrArg Int32.toInt ((fr7.2.1 326 (by decide)).trans (show u2.1 0 326 = (u2.1 0 326) by rfl))
    have q102 : (u14.1 0 326).toInt = (u8.1 0 326).toInt := congrArg Int32.toInt ((fr13.2.1 326 (by decide)).trans (show u8.1 0 326 = (u8.1 0 326) by rfl))
    have q103 : (u23.1 0 326).toInt = (u14.1 0 326).toInt := congrArg Int32.toInt ((fr22.2.1 326 (by decide)).trans (show u14.1 0 326 = (u14.1 0 326) by rfl))
    have q104 : (u85.1 0 326).toInt = (u23.1 0 326).toInt := congrArg Int32.toInt ((fr84.2.1 326 (by decide)).trans (show u23.1 0 326 = (u23.1 0 326) by rfl))
    have q105 : (u85.1 0 373).toInt = (u23.1 0 373).toInt := congrArg Int32.toInt ((fr84.2.1 373 (by decide)).trans (show u23.1 0 373 = (u23.1 0 373) by rfl))
    have q106 : (u2.1 0 381).toInt = (v.1 0 381).toInt := congrArg Int32.toInt ((fr1.2.1 381 (by decide)).trans (show v.1 0 381 = (v.1 0 381) by rfl))
    have q107 : (u8.1 0 381).toInt = (u2.1 0 381).toInt := congrArg Int32.toInt ((fr7.2.1 381 (by decide)).trans (show u2.1 0 381 = (u2.1 0 381) by rfl))
    have q108 : (u14.1 0 381).toInt = (u8.1 0 381).toInt := congrArg Int32.toInt ((fr13.2.1 381 (by decide)).trans (show u8.1 0 381 = (u8.1 0 381) by rfl))
    have q109 : (u23.1 0 381).toInt = (u14.1 0 381).toInt := congrArg Int32.toInt ((fr22.2.1 381 (by decide)).trans (show u14.1 0 381 = (u14.1 0 381) by rfl))
    have q110 : (u85.1 0 381).toInt = (u23.1 0 381).toInt := congrArg Int32.toInt ((fr84.2.1 381 (by decide)).trans (show u23.1 0 381 = (u23.1 0 381) by rfl))
    refine W.sz (fun hz9 => ?_)
    refine czx_v (rx_Vk (n := 1) (As := [.int 1]) (rest := []) hx hb hml hown ht hKK hFx hP hD hS hA ((cq_all l n).1 dC dI cI cB cZ cJ cR tb H.size ad pr N L1 L2 u85 (1 : Int32) ps (show 0 ≤ (u85.1 0 304).toInt ∧ (u85.1 0 304).toInt ≤ 1503 from (om_303b0e9f26 z304 q4 q10 q20 q25 q87)) (show 0 ≤ (u85.1 0 306).toInt ∧ (u85.1 0 306).toInt ≤ 40 from (om_b98087ba73 z306 q88 q89 q90 q91 q92)) (show 0 ≤ (u85.1 0 312).toInt ∧ (u85.1 0 312).toInt ≤ 500 from (om_7cf4561601 z312 q5 q11 q16 q93 q94)) (show 0 ≤ (u85.1 0 321).toInt ∧ (u85.1 0 321).toInt ≤ 501 from (om_455369e3a5 z321 q95 q96 q97 q98 q99)) (show 0 ≤ (u85.1 0 326).toInt ∧ (u85.1 0 326).toInt ≤ 420 from (om_d453215c2d z326 q100 q101 q102 q103 q104)) (show 0 ≤ (u85.1 0 373).toInt ∧ (u85.1 0 373).toInt ≤ 4000 from (om_d59e6e0f1e z373 q6 q12 q21 q83 q105)) (show 0 ≤ (u85.1 0 381).toInt ∧ (u85.1 0 381).toInt ≤ 3008 from (om_712fbb48b1 z381 q106 q107 q108 q109 q110)) (show L1.length = 40 from hL1) (show L2.length = 60 from hL2) (show RP u85 from ((show FC [305, 306, 307, 312, 314, 315, 317, 321, 326, 381] [0, 311, 316, 318, 319, 320, 324, 325, 378, 379, 380] v u85 from (FC.tr (FC.tr (FC.tr (FC.tr (FC.tr (FC.rf _) (FC.up fr1 (by decide) (by decide))) (FC.up fr7 (by decide) (by decide))) (FC.up fr13 (by decide) (by decide))) (FC.up fr22 (by decide) (by decide))) (FC.up fr84 (by decide) (by decide)))).1 rp)) (show pr ps = ad 908 from hps) (show (u85.1 0 300) = ps from (Eq.trans (fr84.2.1 300 (by decide)) (Eq.trans (fr22.2.1 300 (by decide)) (Eq.trans (fr13.2.1 300 (by decide)) (Eq.trans (fr7.2.1 300 (by decide)) (Eq.trans (fr1.2.1 300 (by decide)) es300)))))) (show (u85.1 0 310) = ps from (Eq.trans (fr84.2.1 310 (by decide)) (Eq.trans (fr22.2.1 310 (by decide)) (Eq.trans (fr13.2.1 310 (by decide)) (Eq.trans (fr7.2.1 310 (by decide)) (Eq.trans (fr1.2.1 310 (by decide)) es310)))))) (show l.stackTraces = false from hst) (show 40 ≤ (u85.1 0 306).toInt + (n : Int) from (om_3d712bc99e zn q88 q89 q90 q91 q92))) tw_520 tw_609 (by decide +kernel) rfl rfl ⟨show (8 * n + 20) + 1 ≤ 8 * n + 21 from om_12a3a4432e, show 8 + (5 + 11) + 28 * (8 * n + 20) ≤ 28 * (8 * n + 21) from om_daa41a5b32⟩ (List.range (cW ad pr N cI cR L1 L2 u85).length) (rg_map _) (nd_range _) 2 rfl rfl rfl rfl hl.1 rfl (Nat.le_of_ble_eq_true rfl) dX5_local_55 ⟨Nat.le_of_ble_eq_true rfl, Nat.le_of_ble_eq_true rfl⟩) hP hD hS hA (fun u9 ce9 q9 H locs hx9 hP hD hS hc9 hv9 hf9 => ?_) (fun u112 H locs hw111 hP hD hS hz8 => ?_)
    · exact vx_out (fun x h9 => (hnt x h9).elim) hlocks hc9 hv9 hf9 (fun t9 ht9 hv8 => ⟨u9, ⟨FC.tr (FC.tr (FC.tr (FC.tr (FC.tr (FC.tr (FC.rf _) (FC.up fr1 (by decide) (by decide))) (FC.up fr7 (by decide) (by decide))) (FC.up fr13 (by decide) (by decide))) (FC.up fr22 (by decide) (by decide))) (FC.up fr84 (by decide) (by decide))) hx9.1, hx9.2⟩, ⟨rfl, by rw [ht9]; exact hP, hD⟩, hS.F ht9⟩) hS.2.2 (Nat.le_refl _) (Nat.le_refl _)
    refine W.shrink (hz8.trans hz9) ?_
    obtain ⟨fr111, i306111, i321111, i326111, i381111, po111⟩ := hw111
    have i306111 : 0 ≤ (u112.1 0 306).toInt ∧ (u112.1 0 306).toInt ≤ 40 := i306111
    have i321111 : 0 ≤ (u112.1 0 321).toInt ∧ (u112.1 0 321).toInt ≤ 501 := i321111
    have i326111 : 0 ≤ (u112.1 0 326).toInt ∧ (u112.1 0 326).toInt ≤ 420 := i326111
    have i381111 : 0 ≤ (u112.1 0 381).toInt ∧ (u112.1 0 381).toInt ≤ 3008 := i381111
    have po111 : (u112.1 0 306).toInt = (u85.1 0 306).toInt := po111
    refine lv_goto (tgt := 71) hx hb dX5_local_58 (by decide) ?_
    refine lv_aload_n hx hb dX5_local_71 rfl (lv_at hl 2 rfl) ?_
    refine va_get (D := (dC, dI)) (ci := 8) (fs := oF_X5 ad pr u112) (v := .ref (ad 901)) (C := RX5) (T := TX5) (N := 7) hx hb ht itX5 hown hK hP 3 rfl rfl 2 (by decide) (ht _ tw_573) (fun _ h9 => h9) rfl dX5_local_72 ?_
    refine lv_iconst (v := 4) hx hb dX5_local_75 (by decide) ?_
    refine lv_iload_n hx hb dX5_local_76 rfl (lv_at hl 0 rfl) ?_
    refine lv_iconst (v := 0) hx hb dX5_local_77 (by decide) ?_
    refine cu_v (rn_Vk (n := 3) (As := [.int 4, .int r19, .int 0]) (rest := []) hx hb hml hown ht hKK hFx hP hD hS hA (c_x_X1_add l dC dI cI cB cZ cJ cR tb H.size ad pr N L1 L2 u112 (4 : Int32) r19 (0 : Int32) ps (show 0 ≤ (u112.1 0 381).toInt ∧ (u112.1 0 381).toInt ≤ 3008 from (om_e78eec72e1 i381111)) (show pr ps = ad 908 from hps) (show (u112.1 0 310) = ps from (Eq.trans (fr111.2.1 310 (by decide)) (Eq.trans (fr84.2.1 310 (by decide)) (Eq.trans (fr22.2.1 310 (by decide)) (Eq.trans (fr13.2.1 310 (by decide)) (Eq.trans (fr7.2.1 310 (by decide)) (Eq.trans (fr1.2.1 310 (by decide)) es310)))))))) tw_499 tw_592 (by decide +kernel) rfl rfl ⟨show 0 + 1 ≤ 8 * n + 21 from om_a43f662a07, show 8 + (5 + 11) + 0 ≤ 28 * (8 * n + 21) from om_78af4e5b79⟩ (List.range (cW ad pr N cI cR L1 L2 u112).length) (rg_map _) (nd_range _) 1 rfl rfl rfl rfl hl.1 rfl (Nat.le_of_ble_eq_true rfl) dX5_local_78 ⟨Nat.le_of_ble_eq_true rfl, Nat.le_of_ble_eq_true rfl⟩) hP hD hS hA (fun u115 H locs hw114 hP hD hS => ?_)
    obtain ⟨fr114, i381114⟩ := hw114
    have i381114 : 0 ≤ (u115.1 0 381).toInt ∧ (u115.1 0 381).toInt ≤ 3008 := i381114
    refine W.widen (k := 0) (n := 0) (Nat.le_refl _) (Nat.le_refl _) ?_
    refine lv_aload_n hx hb dX5_local_81 rfl (lv_at hl 2 rfl) ?_
    refine va_get (D := (dC, dI)) (ci := 8) (fs := oF_X5 ad pr u115) (v := .ref (ad 900)) (C := RX5) (T := TX5) (N := 7) hx hb ht itX5 hown hK hP 3 rfl rfl 1 (by decide) (ht _ tw_571) (fun _ h9 => h9) rfl dX5_local_82 ?_
    refine lv_bipush (v := 36) hx hb dX5_local_85 (by decide) ?_
    have q117 : (u112.1 0 304).toInt = (u85.1 0 304).toInt := congrArg Int32.toInt ((fr111.2.1 304 (by decide)).trans (show u85.1 0 304 = (u85.1 0 304) by rfl))
    have q118 : (u115.1 0 304).toInt = (u112.1 0 304).toInt := congrArg Int32.toInt ((fr114.2.1 304 (by decide)).trans (show u112.1 0 304 = (u112.1 0 304) by rfl))
    have q119 : (u112.1 0 373).toInt = (u85.1 0 373).toInt := congrArg Int32.toInt ((fr111.2.1 373 (by decide)).trans (show u85.1 0 373 = (u85.1 0 373) by rfl))
    have q120 : (u115.1 0 373).toInt = (u112.1 0 373).toInt := congrArg Int32.toInt ((fr114.2.1 373 (by decide)).trans (show u112.1 0 373 = (u112.1 0 373) by rfl))
    refine W.sz (fun hz9 => ?_)
    refine czx_v (rx_Vk (n := 1) (As := [.int 36]) (rest := []) hx hb hml hown ht hKK hFx hP hD hS hA (c_x_X9_expect l dC dI cI cB cZ cJ cR tb H.size ad pr N L1 L2 u115 (36 : Int32) ps (show 0 ≤ (u115.1 0 304).toInt ∧ (u115.1 0 304).toInt ≤ 1503 from (om_317e2e954a z304 q4 q10 q20 q25 q87 q117 q118)) (show 0 ≤ (u115.1 0 373).toInt ∧ (u115.1 0 373).toInt ≤ 4000 from (om_749f4b17c8 z373 q6 q12 q21 q83 q105 q119 q120)) (show pr ps = ad 908 from hps) (show (u115.1 0 300) = ps from (Eq.trans (fr114.2.1 300 (by decide)) (Eq.trans (fr111.2.1 300 (by decide)) (Eq.trans (fr84.2.1 300 (by decide)) (Eq.trans (fr22.2.1 300 (by decide)) (Eq.trans (fr13.2.1 300 (by decide)) (Eq.trans (fr7.2.1 300 (by decide)) (Eq.trans (fr1.2.1 300 (by decide)) es300)))))))) (show l.stackTraces = false from hst)) tw_526 tw_580 (by decide +kernel) rfl rfl ⟨show 7 + 1 ≤ 8 * n + 21 from om_e98b1a8fe4, show 8 + (2 + 11) + 104 ≤ 28 * (8 * n + 21) from om_70d74f4c8d⟩ (List.range (cW ad pr N cI cR L1 L2 u115).length) (rg_map _) (nd_range _) 0 rfl rfl rfl rfl hl.1 rfl (Nat.le_of_ble_eq_true rfl) dX5_local_87 ⟨Nat.le_of_ble_eq_true rfl, Nat.le_of_ble_eq_true rfl⟩) hP hD hS hA (fun u9 ce9 q9 H locs hx9 hP hD hS hc9 hv9 hf9 => ?_) (fun u122 H locs hw121 hP hD hS hz8 => ?_)
    · exact vx_out (fun x h9 => (hnt x h9).elim) hlocks hc9 hv9 hf9 (fun t9 ht9 hv8 => ⟨u9, ⟨FC.tr (FC.tr (FC.tr (FC.tr (FC.tr (FC.tr (FC.tr (FC.tr (FC.rf _) (FC.up fr1 (by decide) (by decide))) (FC.up fr7 (by decide) (by decide))) (FC.up fr13 (by decide) (by decide))) (FC.up fr22 (by decide) (by decide))) (FC.up fr84 (by decide) (by decide))) (FC.up fr111 (by decide) (by decide))) (FC.up fr114 (by decide) (by decide))) hx9.1, hx9.2⟩, ⟨rfl, by rw [ht9]; exact hP, hD⟩, hS.F ht9⟩) hS.2.2 (Nat.le_refl _) (Nat.le_refl _)
    refine W.shrink (hz8.trans hz9) ?_
    have fr121 := hw121
    refine lv_aload_n hx hb dX5_local_90 rfl (lv_at hl 2 rfl) ?_
    refine va_get (D := (dC, dI)) (ci := 8) (fs := oF_X5 ad pr u122) (v := .ref (ad 901)) (C := RX5) (T := TX5) (N := 7) hx hb ht itX5 hown hK hP 3 rfl rfl 2 (by decide) (ht _ tw_573) (fun _ h9 => h9) rfl dX5_local_91 ?_
    refine lv_iload_n hx hb dX5_local_94 rfl (lv_at hl 1 rfl) ?_
    have q124 : (u112.1 0 312).toInt = (u85.1 0 312).toInt := congrArg Int32.toInt ((fr111.2.1 312 (by decide)).trans (show u85.1 0 312 = (u85.1 0 312) by rfl))
    have q125 : (u115.1 0 312).toInt = (u112.1 0 312).toInt := congrArg Int32.toInt ((fr114.2.1 312 (by decide)).trans (show u112.1 0 312 = (u112.1 0 312) by rfl))
    have q126 : (u122.1 0 312).toInt = (u115.1 0 312).toInt := congrArg Int32.toInt ((fr121.2.1 312 (by decide)).trans (show u115.1 0 312 = (u115.1 0 312) by rfl))
    refine cu_v (rn_Vk (n := 1) (As := [.int r9]) (rest := []) hx hb hml hown ht hKK hFx hP hD hS hA (c_x_X1_learn l dC dI cI cB cZ cJ cR tb H.size ad pr N L1 L2 u122 r9 (show 0 ≤ (u122.1 0 312).toInt ∧ (u122.1 0 312).toInt ≤ 500 from (om_d466fad2f2 z312 q5 q11 q16 q93 q94 q124 q125 q126))) tw_586 tw_587 (by decide +kernel) rfl rfl ⟨show 0 + 1 ≤ 8 * n + 21 from om_a43f662a07, show 8 + (2 + 11) + 0 ≤ 28 * (8 * n + 21) from om_b45810c062⟩ (List.range (cW ad pr N cI cR L1 L2 u122).length) (rg_map _) (nd_range _) 1 rfl rfl rfl rfl hl.1 rfl (Nat.le_of_ble_eq_true rfl) dX5_local_95 ⟨Nat.le_of_ble_eq_true rfl, Nat.le_of_ble_eq_true rfl⟩) hP hD hS hA (fun u128 H locs hw127 hP hD hS => ?_)
    obtain ⟨fr127, i312127⟩ := hw127
    have i312127 : 0 ≤ (u128.1 0 312).toInt ∧ (u128.1 0 312).toInt ≤ 500 := i312127
    refine W.widen (k := 0) (n := 0) (Nat.le_refl _) (Nat.le_refl _) ?_
    have q130 : (u115.1 0 306).toInt = (u112.1 0 306).toInt := congrArg Int32.toInt ((fr114.2.1 306 (by decide)).trans (show u112.1 0 306 = (u112.1 0 306) by rfl))
    have q131 : (u122.1 0 306).toInt = (u115.1 0 306).toInt := congrArg Int32.toInt ((fr121.2.1 306 (by decide)).trans (show u115.1 0 306 = (u115.1 0 306) by rfl))
    have q132 : (u128.1 0 306).toInt = (u122.1 0 306).toInt := congrArg Int32.toInt ((fr127.2.1 306 (by decide)).trans (show u122.1 0 306 = (u122.1 0 306) by rfl))
    have q133 : (u115.1 0 321).toInt = (u112.1 0 321).toInt := congrArg Int32.toInt ((fr114.2.1 321 (by decide)).trans (show u112.1 0 321 = (u112.1 0 321) by rfl))
    have q134 : (u122.1 0 321).toInt = (u115.1 0 321).toInt := congrArg Int32.toInt ((fr121.2.1 321 (by decide)).trans (show u115.1 0 321 = (u115.1 0 321) by rfl))
    have q135 : (u128.1 0 321).toInt = (u122.1 0 321).toInt := congrArg Int32.toInt ((fr127.2.1 321 (by decide)).trans (show u122.1 0 321 = (u122.1 0 321) by rfl))
    have q136 : (u115.1 0 326).toInt = (u112.1 0 326).toInt := congrArg Int32.toInt ((fr114.2.1 326 (by decide)).trans (show u112.1 0 326 = (u112.1 0 326) by rfl))
    have q137 : (u122.1 0 326).toInt = (u115.1 0 326).toInt := congrArg Int32.toInt ((fr121.2.1 326 (by decide)).trans (show u115.1 0 326 = (u115.1 0 326) by rfl))
    have q138 : (u128.1 0 326).toInt = (u122.1 0 326).toInt := congrArg Int32.toInt ((fr127.2.1 326 (by decide)).trans (show u122.1 0 326 = (u122.1 0 326) by rfl))
    have q139 : (u122.1 0 381).toInt = (u115.1 0 381).toInt := congrArg Int32.toInt ((fr121.2.1 381 (by decide)).trans (show u115.1 0 381 = (u115.1 0 381) by rfl))
    have q140 : (u128.1 0 381).toInt = (u122.1 0 381).toInt := congrArg Int32.toInt ((fr127.2.1 381 (by decide)).trans (show u122.1 0 381 = (u122.1 0 381) by rfl))
    refine W.sz (fun hz => ?_)
    refine vx_ret ?_
    refine W.widen (k := 1) (n := 6) (Nat.le_of_ble_eq_true rfl) (Nat.le_of_ble_eq_true rfl) ?_
    exact W.vret hx hb hr (fun t ht9 hW => ⟨⟨u128, rfl, ⟨(FC.tr (FC.tr (FC.tr (FC.tr (FC.tr (FC.tr (FC.tr (FC.tr (FC.tr (FC.rf _) (FC.up fr1 (by decide) (by decide))) (FC.up fr7 (by decide) (by decide))) (FC.up fr13 (by decide) (by decide))) (FC.up fr22 (by decide) (by decide))) (FC.up fr84 (by decide) (by decide))) (FC.up fr111 (by decide) (by decide))) (FC.up fr114 (by decide) (by decide))) (FC.up fr121 (by decide) (by decide))) (FC.up fr127 (by decide) (by decide))), (show 0 ≤ (u128.1 0 306).toInt ∧ (u128.1 0 306).toInt ≤ 40 from (om_91b0537b40 i306111 q130 q131 q132)), (show 0 ≤ (u128.1 0 312).toInt ∧ (u128.1 0 312).toInt ≤ 500 from (om_9861e69da5 i312127)), (show 0 ≤ (u128.1 0 321).toInt ∧ (u128.1 0 321).toInt ≤ 501 from (om_ca65317fd6 i321111 q133 q134 q135)), (show 0 ≤ (u128.1 0 326).toInt ∧ (u128.1 0 326).toInt ≤ 420 from (om_ba86cd30dc i326111 q136 q137 q138)), (show 0 ≤ (u128.1 0 381).toInt ∧ (u128.1 0 381).toInt ≤ 3008 from (om_769192f2a4 i381114 q139 q140)), (show (u128.1 0 306).toInt = (v.1 0 306).toInt from (om_0c8fea9952 q88 q89 q90 q91 q92 po111 q130 q131 q132))⟩, ⟨by rw [ht9]; exact hP, hD⟩, by rw [ht9]; exact hz⟩, hS.F ht9⟩) hS.2.2 dX5_local_98
set_option maxHeartbeats 16000000 in
set_option maxRecDepth 100000 in
theorem c_x_X5_optional (l : Launch) (n : Nat) (dC : Nat → ClassId) (dI : Nat → Nat → Nat) (cI cB cZ cJ cR : ClassId) (tb : Nat → Nat) (sz : Nat) (ad : Nat → Nat) (pr : Int32 → Nat) (N : Nat) (L1 L2 : List Nat) (v : MS) (pa : Int32) (ps : Int32) (z304 : 0 ≤ (v.1 0 304).toInt ∧ (v.1 0 304).toInt ≤ 1503) (z306 : 0 ≤ (v.1 0 306).toInt ∧ (v.1 0 306).toInt ≤ 40) (z312 : 0 ≤ (v.1 0 312).toInt ∧ (v.1 0 312).toInt ≤ 500) (z321 : 0 ≤ (v.1 0 321).toInt ∧ (v.1 0 321).toInt ≤ 501) (z326 : 0 ≤ (v.1 0 326).toInt ∧ (v.1 0 326).toInt ≤ 420) (z373 : 0 ≤ (v.1 0 373).toInt ∧ (v.1 0 373).toInt ≤ 4000) (z381 : 0 ≤ (v.1 0 381).toInt ∧ (v.1 0 381).toInt ≤ 3008) (hL1 : L1.length = 40) (hL2 : L2.length = 60) (rp : RP v) (hps : pr ps = ad 908) (es300 : (v.1 0 300) = ps) (es310 : (v.1 0 310) = ps) (hst : l.stackTraces = false) (zn : 40 ≤ (v.1 0 306).toInt + (n : Int)) : vx_Met l yX5_optional (Cond.code yX5_optional cX5_optional 2 (some .boolean) :: tw_W) ({ frames := 8 * n + 21, cells := 1, slots := 6, locals := 28 * (8 * n + 21) }) (pc_ (dC, dI) (tyS cI cB cZ cJ cR) tb (cW ad pr N cI cR L1 L2 v) sz [.ref (ad 903), .int pa]) (qiz_ (dC, dI) (cW ad pr N cI cR L1 L2 v) sz (fun (r : Int32) (u : MS) => FC [305, 306, 307, 314, 315, 317, 321, 326, 381] [0, 316, 318, 319, 320, 324, 325, 378, 379, 380] v u ∧ (0 ≤ (u.1 0 306).toInt ∧ (u.1 0 306).toInt ≤ 40) ∧ (0 ≤ (u.1 0 321).toInt ∧ (u.1 0 321).toInt ≤ 501) ∧ (0 ≤ (u.1 0 326).toInt ∧ (u.1 0 326).toInt ≤ 420) ∧ (0 ≤ (u.1 0 381).toInt ∧ (u.1 0 381).toInt ≤ 3008) ∧ ((u.1 0 306).toInt = (v.1 0 306).toInt) ∧ (r = 0 ∨ r = 1)) (fun (u : MS) => (cW ad pr N cI cR L1 L2 u))) (qxc (dC, dI) (cW ad pr N cI cR L1 L2 v) sz (fun (u : MS) => (cW ad pr N cI cR L1 L2 u)) (fun (u : MS) => FC xfl xal v u ∧ (u.1 0 308).toInt ≠ 0)) 1 6 (va_A (cW ad pr N cI cR L1 L2 v) sz) := by
  refine vx_ofW (cc := cX5_optional) (maxL := 2) (ret := (some .boolean)) (by decide) rfl ?_
  intro p e s m args below meth c s₁ B hml hnt hv
  obtain ⟨rfl, hsz, hP, hKK, hD0, hFx⟩ := hv
  have hK := hKK.1
  have hx := B.exec
  have hb := B.bytes
  have hr := B.returns
  have ht : ∀ w ∈ tw_W, w.before _ s = true := fun w h => atoms_spec (ws := Cond.code yX5_optional cX5_optional 2 (some .boolean) :: tw_W) B.pre w (List.mem_cons_of_mem _ h)
  have hown : s.vm.findClass RX5 = some m.cls := findClass_of_methodNamed B.named
  have hlocks := B.notSynchronized
  subst hsz
  unfold qiz_ qxc
  have hD := hD0.self (sz := s.heap.size)
  generalize hAe : va_A (cW ad pr N cI cR L1 L2 v) s.heap.size = A at hD hFx ⊢
  have hA : ∀ q : Nat, s.heap.size ≤ q → A q := fun q h => by rw [← hAe]; exact Or.inr h
  have hS : va_S A s.heap s.heap [] := va_S.rf
  have hl := lv_entry ([.ref (ad 903), .int pa]) (n := 2) (Nat.le_of_ble_eq_true rfl)
  rw [lg_entry_eq]
  generalize (lg_sl ([.ref (ad 903), .int pa]) ++ List.replicate (2 - (lg_sl ([.ref (ad 903), .int pa])).length) Slot.unset).toArray = ls at hl ⊢
  have hl : lv_has ls 2 [(0, .ref (ad 903)), (1, .int pa)] := hl
  refine lv_aload_n hx hb dX5_optional_0 rfl (lv_at hl 0 rfl) ?_
  refine va_get (D := (dC, dI)) (ci := 8) (fs := oF_X5 ad pr v) (v := .ref (ad 900)) (C := RX5) (T := TX5) (N := 7) hx hb ht itX5 hown hK hP 3 rfl rfl 1 (by decide) (ht _ tw_571) (fun _ h9 => h9) rfl dX5_optional_1 ?_
  refine cu_i (rn_Vk (n := 0) (As := []) (rest := []) hx hb hml hown ht hKK hFx hP hD hS hA (c_x_X9_kind l dC dI cI cB cZ cJ cR tb s.heap.size ad pr N L1 L2 v  (show 0 ≤ (v.1 0 304).toInt ∧ (v.1 0 304).toInt ≤ 1503 from (om_c99648273b z304))) tw_455 tw_594 (by decide +kernel) rfl rfl ⟨show 0 + 1 ≤ 8 * n + 21 from om_a43f662a07, show 8 + (1 + 11) + 0 ≤ 28 * (8 * n + 21) from om_9f2e4fbaf3⟩ (List.range (cW ad pr N cI cR L1 L2 v).length) (rg_map _) (nd_range _) 0 rfl rfl rfl rfl hl.1 rfl (Nat.le_of_ble_eq_true rfl) dX5_optional_4 ⟨Nat.le_of_ble_eq_true rfl, Nat.le_of_ble_eq_true rfl⟩) hP hD hS hA (fun r3 u2 H locs hw1 hP hD hS => ?_)
  obtain rfl := hw1
  refine W.widen (k := 0) (n := 0) (Nat.le_refl _) (Nat.le_refl _) ?_
  refine lv_iload_n hx hb dX5_optional_7 rfl (lv_at hl 1 rfl) ?_
  refine lv_icmp_ne (tgt := 13) hx hb dX5_optional_8 (by decide) (fun h4 => ?_) (fun h4 => ?_)
  · have z5 : r3.toInt ≠ pa.toInt := ne_z rfl rfl h4
    refine lv_aload_n hx hb dX5_optional_13 rfl (lv_at hl 0 rfl) ?_
    refine va_get (D := (dC, dI)) (ci := 8) (fs := oF_X5 ad pr v) (v := .ref (ad 902)) (C := RX5) (T := TX5) (N := 7) hx hb ht itX5 hown hK hP 3 rfl rfl 3 (by decide) (ht _ tw_608) (fun _ h9 => h9) rfl dX5_optional_14 ?_
    refine lv_iconst (v := 1) hx hb dX5_optional_17 (by decide) ?_
    refine W.sz (fun hz9 => ?_)
    refine czx_v (rx_Vk (n := 1) (As := [.int 1]) (rest := []) hx hb hml hown ht hKK hFx hP hD hS hA ((cq_all l n).1 dC dI cI cB cZ cJ cR tb H.size ad pr N L1 L2 v (1 : Int32) ps (show 0 ≤ (v.1 0 304).toInt ∧ (v.1 0 304).toInt ≤ 1503 from (om_c99648273b z304)) (show 0 ≤ (v.1 0 306).toInt ∧ (v.1 0 306).toInt ≤ 40 from (om_7eaf33e007 z306)) (show 0 ≤ (v.1 0 312).toInt ∧ (v.1 0 312).toInt ≤ 500 from (om_9861e69da5 z312)) (show 0 ≤ (v.1 0 321).toInt ∧ (v.1 0 321).toInt ≤ 501 from (om_e1d35f5faf z321)) (show 0 ≤ (v.1 0 326).toInt ∧ (v.1 0 326).toInt ≤ 420 from (om_839d7ed7dd z326)) (show 0 ≤ (v.1 0 373).toInt ∧ (v.1 0 373).toInt ≤ 4000 from (om_c74a68af25 z373)) (show 0 ≤ (v.1 0 381).toInt ∧ (v.1 0 381).toInt ≤ 3008 from (om_e78eec72e1 z381)) (show L1.length = 40 from hL1) (show L2.length = 60 from hL2) (show RP v from rp) (show pr ps = ad 908 from hps) (show (v.1 0 300) = ps from es300) (show (v.1 0 310) = ps from es310) (show l.stackTraces = false from hst) (show 40 ≤ (v.1 0 306).toInt + (n : Int) from (om_a9150ae9b6 zn))) tw_520 tw_609 (by decide +kernel) rfl rfl ⟨show (8 * n + 20) + 1 ≤ 8 * n + 21 from om_12a3a4432e, show 8 + (5 + 11) + 28 * (8 * n + 20) ≤ 28 * (8 * n + 21) from om_daa41a5b32⟩ (List.range (cW ad pr N cI cR L1 L2 v).length) (rg_map _) (nd_range _) 2 rfl rfl rfl rfl hl.1 rfl (Nat.le_of_ble_eq_true rfl) dX5_optional_18 ⟨Nat.le_of_ble_eq_true rfl, Nat.le_of_ble_eq_true rfl⟩) hP hD hS hA (fun u9 ce9 q9 H locs hx9 hP hD hS hc9 hv9 hf9 => ?_) (fun u7 H locs hw6 hP hD hS hz8 => ?_)
    · exact vx_out (fun x h9 => (hnt x h9).elim) hlocks hc9 hv9 hf9 (fun t9 ht9 hv8 => ⟨u9, ⟨FC.tr (FC.rf _) hx9.1, hx9.2⟩, ⟨rfl, by rw [ht9]; exact hP, hD⟩, hS.F ht9⟩) hS.2.2 (Nat.le_refl _) (Nat.le_refl _)
    refine W.shrink (hz8.trans hz9) ?_
    obtain ⟨fr6, i3066, i3216, i3266, i3816, po6⟩ := hw6
    refine lv_iconst (v := 1) hx hb dX5_optional_21 (by decide) ?_
    refine W.sz (fun hz => ?_)
    refine vx_ret ?_
    refine W.widen (k := 1) (n := 6) (Nat.le_of_ble_eq_true rfl) (Nat.le_of_ble_eq_true rfl) ?_
    exact W.zret (v := 1) hx hb hr rfl (fun t ht9 hW => ⟨⟨1, u7, rfl, ⟨(FC.tr (FC.rf _) (FC.up fr6 (by decide) (by decide))), (show 0 ≤ (u7.1 0 306).toInt ∧ (u7.1 0 306).toInt ≤ 40 from (om_7eaf33e007 i3066)), (show 0 ≤ (u7.1 0 321).toInt ∧ (u7.1 0 321).toInt ≤ 501 from (om_e1d35f5faf i3216)), (show 0 ≤ (u7.1 0 326).toInt ∧ (u7.1 0 326).toInt ≤ 420 from (om_839d7ed7dd i3266)), (show 0 ≤ (u7.1 0 381).toInt ∧ (u7.1 0 381).toInt ≤ 3008 from (om_e78eec72e1 i3816)), (show (u7.1 0 306).toInt = (v.1 0 306).toInt from (om_5049cbdce5 po6)), (Or.inr rfl)⟩, ⟨by rw [ht9]; exact hP, hD⟩, by rw [ht9]; exact hz⟩, hS.F ht9⟩) hS.2.2 dX5_optional_22
  · have z9 : r3.toInt = pa.toInt := eq_z rfl rfl h4
    refine lv_iconst (v := 0) hx hb dX5_optional_11 (by decide) ?_
    refine W.sz (fun hz => ?_)
    refine vx_ret ?_
    refine W.widen (k := 1) (n := 6) (Nat.le_of_ble_eq_true rfl) (Nat.le_of_ble_eq_true rfl) ?_
    exact W.zret (v := 0) hx hb hr rfl (fun t ht9 hW => ⟨⟨0, v, rfl, ⟨(FC.rf _), (show 0 ≤ (v.1 0 306).toInt ∧ (v.1 0 306).toInt ≤ 40 from (om_7eaf33e007 z306)), (show 0 ≤ (v.1 0 321).toInt ∧ (v.1 0 321).toInt ≤ 501 from (om_e1d35f5faf z321)), (show 0 ≤ (v.1 0 326).toInt ∧ (v.1 0 326).toInt ≤ 420 from (om_839d7ed7dd z326)), (show 0 ≤ (v.1 0 381).toInt ∧ (v.1 0 381).toInt ≤ 3008 from (om_e78eec72e1 z381)), (show (v.1 0 306).toInt = (v.1 0 306).toInt from om_93d572ac38), (Or.inl rfl)⟩, ⟨by rw [ht9]; exact hP, hD⟩, by rw [ht9]; exact hz⟩, hS.F ht9⟩) hS.2.2 dX5_optional_12
def Cq_stat (l : Launch) (n : Nat) : Prop := ∀ (dC : Nat → ClassId) (dI : Nat → Nat → Nat) (cI cB cZ cJ cR : ClassId) (tb : Nat → Nat) (sz : Nat) (ad : Nat → Nat) (pr : Int32 → Nat) (N : Nat) (L1 L2 : List Nat) (v : MS) (ps : Int32) (z304 : 0 ≤ (v.1 0 304).toInt ∧ (v.1 0 304).toInt ≤ 1503) (z306 : 0 ≤ (v.1 0 306).toInt ∧ (v.1 0 306).toInt ≤ 40) (z312 : 0 ≤ (v.1 0 312).toInt ∧ (v.1 0 312).toInt ≤ 500) (z321 : 0 ≤ (v.1 0 321).toInt ∧ (v.1 0 321).toInt ≤ 501) (z326 : 0 ≤ (v.1 0 326).toInt ∧ (v.1 0 326).toInt ≤ 420) (z373 : 0 ≤ (v.1 0 373).toInt ∧ (v.1 0 373).toInt ≤ 4000) (z381 : 0 ≤ (v.1 0 381).toInt ∧ (v.1 0 381).toInt ≤ 3008) (hL1 : L1.length = 40) (hL2 : L2.length = 60) (rp : RP v) (hps : pr ps = ad 908) (es300 : (v.1 0 300) = ps) (es310 : (v.1 0 310) = ps) (hst : l.stackTraces = false) (zn : 40 ≤ (v.1 0 306).toInt + (n : Int)), vx_Met l yX5_stat (Cond.code yX5_stat cX5_stat 1 none :: tw_W) ({ frames := 8 * n + 40, cells := 1, slots := 6, locals := 28 * (8 * n + 40) }) (pc_ (dC, dI) (tyS cI cB cZ cJ cR) tb (cW ad pr N cI cR L1 L2 v) sz [.ref (ad 903)]) (qvz_ (dC, dI) (cW ad pr N cI cR L1 L2 v) sz (fun (u : MS) => FC [305, 306, 307, 312, 313, 314, 315, 317, 321, 326, 331, 332, 381] [0, 311, 316, 318, 319, 320, 324, 325, 378, 379, 380] v u ∧ (0 ≤ (u.1 0 306).toInt ∧ (u.1 0 306).toInt ≤ 40) ∧ (0 ≤ (u.1 0 312).toInt ∧ (u.1 0 312).toInt ≤ 500) ∧ (0 ≤ (u.1 0 321).toInt ∧ (u.1 0 321).toInt ≤ 501) ∧ (0 ≤ (u.1 0 326).toInt ∧ (u.1 0 326).toInt ≤ 420) ∧ (0 ≤ (u.1 0 381).toInt ∧ (u.1 0 381).toInt ≤ 3008) ∧ ((u.1 0 306).toInt = (v.1 0 306).toInt)) (fun (u : MS) => (cW ad pr N cI cR L1 L2 u))) (qxc (dC, dI) (cW ad pr N cI cR L1 L2 v) sz (fun (u : MS) => (cW ad pr N cI cR L1 L2 u)) (fun (u : MS) => FC xfl xal v u ∧ (u.1 0 308).toInt ≠ 0)) 1 6 (va_A (cW ad pr N cI cR L1 L2 v) sz)
theorem om_543db34921 {n0 : Nat} : (8 * n0 + 40) + 1 ≤ 8 * n0 + 41 := by omega
theorem om_354ac17866 {n0 : Nat} : 8 + (1 + 11) + 28 * (8 * n0 + 40) ≤ 28 * (8 * n0 + 41) := by omega
set_option maxHeartbeats 16000000 in
set_option maxRecDepth 100000 in
theorem c_x_X5_innerStat (l : Launch) (n : Nat) (S : Cq_stat l n) (dC : Nat → ClassId) (dI : Nat → Nat → Nat) (cI cB cZ cJ cR : ClassId) (tb : Nat → Nat) (sz : Nat) (ad : Nat → Nat) (pr : Int32 → Nat) (N : Nat) (L1 L2 : List Nat) (v : MS) (ps : Int32) (z304 : 0 ≤ (v.1 0 304).toInt ∧ (v.1 0 304).toInt ≤ 1503) (z306 : 0 ≤ (v.1 0 306).toInt ∧ (v.1 0 306).toInt ≤ 40) (z312 : 0 ≤ (v.1 0 312).toInt ∧ (v.1 0 312).toInt ≤ 500) (z321 : 0 ≤ (v.1 0 321).toInt ∧ (v.1 0 321).toInt ≤ 501) (z326 : 0 ≤ (v.1 0 326).toInt ∧ (v.1 0 326).toInt ≤ 420) (z373 : 0 ≤ (v.1 0 373).toInt ∧ (v.1 0 373).toInt ≤ 4000) (z381 : 0 ≤ (v.1 0 381).toInt ∧ (v.1 0 381).toInt ≤ 3008) (hL1 : L1.length = 40) (hL2 : L2.length = 60) (rp : RP v) (hps : pr ps = ad 908) (es300 : (v.1 0 300) = ps) (es310 : (v.1 0 310) = ps) (hst : l.stackTraces = false) (zn : 40 ≤ (v.1 0 306).toInt + (n : Int)) : vx_Met l yX5_innerStat (Cond.code yX5_innerStat cX5_innerStat 3 none :: tw_W) ({ frames := 8 * n + 41, cells := 1, slots := 6, locals := 28 * (8 * n + 41) }) (pc_ (dC, dI) (tyS cI cB cZ cJ cR) tb (cW ad pr N cI cR L1 L2 v) sz [.ref (ad 903)]) (qvz_ (dC, dI) (cW ad pr N cI cR L1 L2 v) sz (fun (u : MS) => FC [305, 306, 307, 312, 313, 314, 315, 317, 321, 326, 331, 332, 381] [0, 311, 316, 318, 319, 320, 324, 325, 378, 379, 380] v u ∧ (0 ≤ (u.1 0 306).toInt ∧ (u.1 0 306).toInt ≤ 40) ∧ (0 ≤ (u.1 0 312).toInt ∧ (u.1 0 312).toInt ≤ 500) ∧ (0 ≤ (u.1 0 321).toInt ∧ (u.1 0 321).toInt ≤ 501) ∧ (0 ≤ (u.1 0 326).toInt ∧ (u.1 0 326).toInt ≤ 420) ∧ (0 ≤ (u.1 0 381).toInt ∧ (u.1 0 381).toInt ≤ 3008) ∧ ((u.1 0 306).toInt = (v.1 0 306).toInt)) (fun (u : MS) => (cW ad pr N cI cR L1 L2 u))) (qxc (dC, dI) (cW ad pr N cI cR L1 L2 v) sz (fun (u : MS) => (cW ad pr N cI cR L1 L2 u)) (fun (u : MS) => FC xfl xal v u ∧ (u.1 0 308).toInt ≠ 0)) 1 6 (va_A (cW ad pr N cI cR L1 L2 v) sz) := by
  refine vx_ofW (cc := cX5_innerStat) (maxL := 3) (ret := none) (by decide) rfl ?_
  intro p e s m args below meth c s₁ B hml hnt hv
  obtain ⟨rfl, hsz, hP, hKK, hD0, hFx⟩ := hv
  have hK := hKK.1
  have hx := B.exec
  have hb := B.bytes
  have hr := B.returns
  have ht : ∀ w ∈ tw_W, w.before _ s = true := fun w h => atoms_spec (ws := Cond.code yX5_innerStat cX5_innerStat 3 none :: tw_W) B.pre w (List.mem_cons_of_mem _ h)
  have hown : s.vm.findClass RX5 = some m.cls := findClass_of_methodNamed B.named
  have hlocks := B.notSynchronized
  subst hsz
  unfold qvz_ qxc
  have hD := hD0.self (sz := s.heap.size)
  generalize hAe : va_A (cW ad pr N cI cR L1 L2 v) s.heap.size = A at hD hFx ⊢
  have hA : ∀ q : Nat, s.heap.size ≤ q → A q := fun q h => by rw [← hAe]; exact Or.inr h
  have hS : va_S A s.heap s.heap [] := va_S.rf
  have hl := lv_entry ([.ref (ad 903)]) (n := 3) (Nat.le_of_ble_eq_true rfl)
  rw [lg_entry_eq]
  generalize (lg_sl ([.ref (ad 903)]) ++ List.replicate (3 - (lg_sl ([.ref (ad 903)])).length) Slot.unset).toArray = ls at hl ⊢
  have hl : lv_has ls 3 [(0, .ref (ad 903))] := hl
  refine lv_aload_n hx hb dX5_innerStat_0 rfl (lv_at hl 0 rfl) ?_
  refine va_get (D := (dC, dI)) (ci := 8) (fs := oF_X5 ad pr v) (v := .ref (ad 901)) (C := RX5) (T := TX5) (N := 7) hx hb ht itX5 hown hK hP 3 rfl rfl 2 (by decide) (ht _ tw_573) (fun _ h9 => h9) rfl dX5_innerStat_1 ?_
  refine va_getN (D := (dC, dI)) (ci := 5) (fs := oF_X1 ad pr v) (v := .int (v.1 0 312)) (C := RX1) (T := TX1) (N := 12) hx hb ht itX1 hown hK hP 1 rfl rfl 2 (by decide) (hKK.fl2 4 rfl) (fun _ h9 => h9) rfl dX5_innerStat_4 ?_
  refine lv_istore_n (lv' := [(1, .int (v.1 0 312)), (0, .ref (ad 903))]) hx hb dX5_innerStat_7 rfl hl (by decide) rfl (fun ls hl => ?_)
  refine lv_aload_n hx hb dX5_innerStat_8 rfl (lv_at hl 1 rfl) ?_
  refine va_get (D := (dC, dI)) (ci := 8) (fs := oF_X5 ad pr v) (v := .ref (ad 901)) (C := RX5) (T := TX5) (N := 7) hx hb ht itX5 hown hK hP 3 rfl rfl 2 (by decide) (ht _ tw_573) (fun _ h9 => h9) rfl dX5_innerStat_9 ?_
  refine va_getN (D := (dC, dI)) (ci := 5) (fs := oF_X1 ad pr v) (v := .int (v.1 0 313)) (C := RX1) (T := TX1) (N := 12) hx hb ht itX1 hown hK hP 1 rfl rfl 3 (by decide) (hKK.fl2 5 rfl) (fun _ h9 => h9) rfl dX5_innerStat_12 ?_
  refine lv_istore_n (lv' := [(2, .int (v.1 0 313)), (1, .int (v.1 0 312)), (0, .ref (ad 903))]) hx hb dX5_innerStat_15 rfl hl (by decide) rfl (fun ls hl => ?_)
  refine lv_aload_n hx hb dX5_innerStat_16 rfl (lv_at hl 2 rfl) ?_
  refine va_get (D := (dC, dI)) (ci := 8) (fs := oF_X5 ad pr v) (v := .ref (ad 901)) (C := RX5) (T := TX5) (N := 7) hx hb ht itX5 hown hK hP 3 rfl rfl 2 (by decide) (ht _ tw_573) (fun _ h9 => h9) rfl dX5_innerStat_17 ?_
  refine lv_iload_n hx hb dX5_innerStat_20 rfl (lv_at hl 1 rfl) ?_
  refine va_putN (D := (dC, dI)) (ci := 5) (fs := oF_X1 ad pr v) (v := .int (v.1 0 312)) (ty := .int) (C := RX1) (T := TX1) (N := 12) hx hb ht itX1 tyX1 tyX1_ok nmX1 hown hK hP hD hS 1 rfl rfl 3 (by decide) (hKK.fl2 5 rfl) (fun _ h9 => h9) rfl (by decide +kernel) rfl rfl (Nat.le_of_ble_eq_true rfl) dX5_innerStat_21 (fun H locs hP hD hS => ?_)
  have hP := cP_ (cw_313 ad pr N cI cR L1 L2 v (v.1 0 312)) hP
  have hD := cD_ (cw_313 ad pr N cI cR L1 L2 v (v.1 0 312)) hD
  refine lv_aload_n hx hb dX5_innerStat_24 rfl (lv_at hl 2 rfl) ?_
  refine W.sz (fun hz9 => ?_)
  refine czx_v (rx_Vk (n := 0) (As := []) (rest := []) hx hb hml hown ht hKK hFx hP hD hS hA (S dC dI cI cB cZ cJ cR tb H.size ad pr N L1 L2 (wA v 0 313 (v.1 0 312)) ps (show 0 ≤ (v.1 0 304).toInt ∧ (v.1 0 304).toInt ≤ 1503 from (om_c99648273b z304)) (show 0 ≤ (v.1 0 306).toInt ∧ (v.1 0 306).toInt ≤ 40 from (om_7eaf33e007 z306)) (show 0 ≤ (v.1 0 312).toInt ∧ (v.1 0 312).toInt ≤ 500 from (om_9861e69da5 z312)) (show 0 ≤ (v.1 0 321).toInt ∧ (v.1 0 321).toInt ≤ 501 from (om_e1d35f5faf z321)) (show 0 ≤ (v.1 0 326).toInt ∧ (v.1 0 326).toInt ≤ 420 from (om_839d7ed7dd z326)) (show 0 ≤ (v.1 0 373).toInt ∧ (v.1 0 373).toInt ≤ 4000 from (om_c74a68af25 z373)) (show 0 ≤ (v.1 0 381).toInt ∧ (v.1 0 381).toInt ≤ 3008 from (om_e78eec72e1 z381)) (show L1.length = 40 from hL1) (show L2.length = 60 from hL2) (show RP (wA v 0 313 (v.1 0 312)) from ((show FC [305, 306, 307, 312, 313, 314, 315, 317, 321, 326, 331, 332, 381] [0, 311, 316, 318, 319, 320, 324, 325, 378, 379, 380] v (wA v 0 313 (v.1 0 312)) from (FC.f (FC.rf _) (v.1 0 312) (by decide))).1 rp)) (show pr ps = ad 908 from hps) (show (v.1 0 300) = ps from es300) (show (v.1 0 310) = ps from es310) (show l.stackTraces = false from hst) (show 40 ≤ (v.1 0 306).toInt + (n : Int) from (om_a9150ae9b6 zn))) tw_612 tw_613 (by decide +kernel) rfl rfl ⟨show (8 * n + 40) + 1 ≤ 8 * n + 41 from om_543db34921, show 8 + (1 + 11) + 28 * (8 * n + 40) ≤ 28 * (8 * n + 41) from om_354ac17866⟩ (List.range (cW ad pr N cI cR L1 L2 (wA v 0 313 (v.1 0 312))).length) (rg_map _) (nd_range _) 3 rfl rfl rfl rfl hl.1 rfl (Nat.le_of_ble_eq_true rfl) dX5_innerStat_25 ⟨Nat.le_of_ble_eq_true rfl, Nat.le_of_ble_eq_true rfl⟩) hP hD hS hA (fun u9 ce9 q9 H locs hx9 hP hD hS hc9 hv9 hf9 => ?_) (fun u2 H locs hw1 hP hD hS hz8 => ?_)
  · exact vx_out (fun x h9 => (hnt x h9).elim) hlocks hc9 hv9 hf9 (fun t9 ht9 hv8 => ⟨u9, ⟨FC.tr (FC.f (FC.rf _) (v.1 0 312) (by decide)) hx9.1, hx9.2⟩, ⟨rfl, by rw [ht9]; exact hP, hD⟩, hS.F ht9⟩) hS.2.2 (Nat.le_refl _) (Nat.le_refl _)
  refine W.shrink (hz8.trans hz9) ?_
  obtain ⟨fr1, i3061, i3121, i3211, i3261, i3811, po1⟩ := hw1
  have i3061 : 0 ≤ (u2.1 0 306).toInt ∧ (u2.1 0 306).toInt ≤ 40 := i3061
  have i3121 : 0 ≤ (u2.1 0 312).toInt ∧ (u2.1 0 312).toInt ≤ 500 := i3121
  have i3211 : 0 ≤ (u2.1 0 321).toInt ∧ (u2.1 0 321).toInt ≤ 501 := i3211
  have i3261 : 0 ≤ (u2.1 0 326).toInt ∧ (u2.1 0 326).toInt ≤ 420 := i3261
  have i3811 : 0 ≤ (u2.1 0 381).toInt ∧ (u2.1 0 381).toInt ≤ 3008 := i3811
  have po1 : (u2.1 0 306).toInt = (v.1 0 306).toInt := po1
  refine lv_aload_n hx hb dX5_innerStat_28 rfl (lv_at hl 2 rfl) ?_
  refine va_get (D := (dC, dI)) (ci := 8) (fs := oF_X5 ad pr u2) (v := .ref (ad 901)) (C := RX5) (T := TX5) (N := 7) hx hb ht itX5 hown hK hP 3 rfl rfl 2 (by decide) (ht _ tw_573) (fun _ h9 => h9) rfl dX5_innerStat_29 ?_
  refine lv_iload_n hx hb dX5_innerStat_32 rfl (lv_at hl 1 rfl) ?_
  refine va_putN (D := (dC, dI)) (ci := 5) (fs := oF_X1 ad pr u2) (v := .int (v.1 0 312)) (ty := .int) (C := RX1) (T := TX1) (N := 12) hx hb ht itX1 tyX1 tyX1_ok nmX1 hown hK hP hD hS 1 rfl rfl 2 (by decide) (hKK.fl2 4 rfl) (fun _ h9 => h9) rfl (by decide +kernel) rfl rfl (Nat.le_of_ble_eq_true rfl) dX5_innerStat_33 (fun H locs hP hD hS => ?_)
  have hP := cP_ (cw_312 ad pr N cI cR L1 L2 u2 (v.1 0 312)) hP
  have hD := cD_ (cw_312 ad pr N cI cR L1 L2 u2 (v.1 0 312)) hD
  refine lv_aload_n hx hb dX5_innerStat_36 rfl (lv_at hl 2 rfl) ?_
  refine va_get (D := (dC, dI)) (ci := 8) (fs := oF_X5 ad pr (wA u2 0 312 (v.1 0 312))) (v := .ref (ad 901)) (C := RX5) (T := TX5) (N := 7) hx hb ht itX5 hown hK hP 3 rfl rfl 2 (by decide) (ht _ tw_573) (fun _ h9 => h9) rfl dX5_innerStat_37 ?_
  refine lv_iload_n hx hb dX5_innerStat_40 rfl (lv_at hl 0 rfl) ?_
  refine va_putN (D := (dC, dI)) (ci := 5) (fs := oF_X1 ad pr (wA u2 0 312 (v.1 0 312))) (v := .int (v.1 0 313)) (ty := .int) (C := RX1) (T := TX1) (N := 12) hx hb ht itX1 tyX1 tyX1_ok nmX1 hown hK hP hD hS 1 rfl rfl 3 (by decide) (hKK.fl2 5 rfl) (fun _ h9 => h9) rfl (by decide +kernel) rfl rfl (Nat.le_of_ble_eq_true rfl) dX5_innerStat_41 (fun H locs hP hD hS => ?_)
  have hP := cP_ (cw_313 ad pr N cI cR L1 L2 (wA u2 0 312 (v.1 0 312)) (v.1 0 313)) hP
  have hD := cD_ (cw_313 ad pr N cI cR L1 L2 (wA u2 0 312 (v.1 0 312)) (v.1 0 313)) hD
  refine W.sz (fun hz => ?_)
  refine vx_ret ?_
  refine W.widen (k := 1) (n := 6) (Nat.le_of_ble_eq_true rfl) (Nat.le_of_ble_eq_true rfl) ?_
  exact W.vret hx hb hr (fun t ht9 hW => ⟨⟨(wA (wA u2 0 312 (v.1 0 312)) 0 313 (v.1 0 313)), rfl, ⟨(FC.f (FC.f (FC.tr (FC.f (FC.rf _) (v.1 0 312) (by decide)) (FC.up fr1 (by decide) (by decide))) (v.1 0 312) (by decide)) (v.1 0 313) (by decide)), (show 0 ≤ (u2.1 0 306).toInt ∧ (u2.1 0 306).toInt ≤ 40 from (om_7eaf33e007 i3061)), (show 0 ≤ (v.1 0 312).toInt ∧ (v.1 0 312).toInt ≤ 500 from (om_9861e69da5 z312)), (show 0 ≤ (u2.1 0 321).toInt ∧ (u2.1 0 321).toInt ≤ 501 from (om_e1d35f5faf i3211)), (show 0 ≤ (u2.1 0 326).toInt ∧ (u2.1 0 326).toInt ≤ 420 from (om_839d7ed7dd i3261)), (show 0 ≤ (u2.1 0 381).toInt ∧ (u2.1 0 381).toInt ≤ 3008 from (om_e78eec72e1 i3811)), (show (u2.1 0 306).toInt = (v.1 0 306).toInt from (om_5049cbdce5 po1))⟩, ⟨by rw [ht9]; exact hP, hD⟩, by rw [ht9]; exact hz⟩, hS.F ht9⟩) hS.2.2 dX5_innerStat_44
theorem om_a717a04b8e {x0 : Int} : x0 = x0 + 0 := by omega
theorem om_9b3a2c9016 {x0 x1 : Int} (h0 : x0 = x1 + 0) : x0 = x1 := by omega
theorem om_2607c9eef4 {n0 : Nat} : 0 + 1 ≤ 8 * n0 + 41 := by omega
theorem om_4b254d574d {n0 : Nat} : 8 + (1 + 11) + 0 ≤ 28 * (8 * n0 + 41) := by omega
theorem om_be0471eb0d {x0 x2 : Int} {n1 : Nat} (h0 : 40 ≤ x0 + (n1 : Int)) (h1 : x2 = x0 + 0) : 40 ≤ x2 + (n1 : Int) := by omega
theorem om_df2cd5d267 {x0 x1 x2 : Int} (h0 : x0 = x1 + 0) (h1 : x2 = x0) : x2 = x1 + 0 := by omega
set_option maxHeartbeats 16000000 in
set_option maxRecDepth 100000 in
theorem c_x_X5_stats (l : Launch) (n : Nat) (S : Cq_stat l n) (dC : Nat → ClassId) (dI : Nat → Nat → Nat) (cI cB cZ cJ cR : ClassId) (tb : Nat → Nat) (sz : Nat) (ad : Nat → Nat) (pr : Int32 → Nat) (N : Nat) (L1 L2 : List Nat) (v : MS) (ps : Int32) (z304 : 0 ≤ (v.1 0 304).toInt ∧ (v.1 0 304).toInt ≤ 1503) (z306 : 0 ≤ (v.1 0 306).toInt ∧ (v.1 0 306).toInt ≤ 40) (z312 : 0 ≤ (v.1 0 312).toInt ∧ (v.1 0 312).toInt ≤ 500) (z321 : 0 ≤ (v.1 0 321).toInt ∧ (v.1 0 321).toInt ≤ 501) (z326 : 0 ≤ (v.1 0 326).toInt ∧ (v.1 0 326).toInt ≤ 420) (z373 : 0 ≤ (v.1 0 373).toInt ∧ (v.1 0 373).toInt ≤ 4000) (z381 : 0 ≤ (v.1 0 381).toInt ∧ (v.1 0 381).toInt ≤ 3008) (hL1 : L1.length = 40) (hL2 : L2.length = 60) (rp : RP v) (hps : pr ps = ad 908) (es300 : (v.1 0 300) = ps) (es310 : (v.1 0 310) = ps) (hst : l.stackTraces = false) (zn : 40 ≤ (v.1 0 306).toInt + (n : Int)) : vx_Met l yX5_stats (Cond.code yX5_stats cX5_stats 2 none :: tw_W) ({ frames := 8 * n + 41, cells := 1, slots := 6, locals := 28 * (8 * n + 41) }) (pc_ (dC, dI) (tyS cI cB cZ cJ cR) tb (cW ad pr N cI cR L1 L2 v) sz [.ref (ad 903)]) (qvz_ (dC, dI) (cW ad pr N cI cR L1 L2 v) sz (fun (u : MS) => FC [305, 306, 307, 312, 313, 314, 315, 317, 321, 326, 331, 332, 381] [0, 311, 316, 318, 319, 320, 324, 325, 378, 379, 380] v u ∧ (0 ≤ (u.1 0 306).toInt ∧ (u.1 0 306).toInt ≤ 40) ∧ (0 ≤ (u.1 0 312).toInt ∧ (u.1 0 312).toInt ≤ 500) ∧ (0 ≤ (u.1 0 321).toInt ∧ (u.1 0 321).toInt ≤ 501) ∧ (0 ≤ (u.1 0 326).toInt ∧ (u.1 0 326).toInt ≤ 420) ∧ (0 ≤ (u.1 0 381).toInt ∧ (u.1 0 381).toInt ≤ 3008) ∧ ((u.1 0 306).toInt = (v.1 0 306).toInt)) (fun (u : MS) => (cW ad pr N cI cR L1 L2 u))) (qxc (dC, dI) (cW ad pr N cI cR L1 L2 v) sz (fun (u : MS) => (cW ad pr N cI cR L1 L2 u)) (fun (u : MS) => FC xfl xal v u ∧ (u.1 0 308).toInt ≠ 0)) 1 6 (va_A (cW ad pr N cI cR L1 L2 v) sz) := by
  refine vx_ofW (cc := cX5_stats) (maxL := 2) (ret := none) (by decide) rfl ?_
  intro p e s m args below meth c s₁ B hml hnt hv
  obtain ⟨rfl, hsz, hP, hKK, hD0, hFx⟩ := hv
  have hK := hKK.1
  have hx := B.exec
  have hb := B.bytes
  have hr := B.returns
  have ht : ∀ w ∈ tw_W, w.before _ s = true := fun w h => atoms_spec (ws := Cond.code yX5_stats cX5_stats 2 none :: tw_W) B.pre w (List.mem_cons_of_mem _ h)
  have hown : s.vm.findClass RX5 = some m.cls := findClass_of_methodNamed B.named
  have hlocks := B.notSynchronized
  subst hsz
  unfold qvz_ qxc
  have hD := hD0.self (sz := s.heap.size)
  generalize hAe : va_A (cW ad pr N cI cR L1 L2 v) s.heap.size = A at hD hFx ⊢
  have hA : ∀ q : Nat, s.heap.size ≤ q → A q := fun q h => by rw [← hAe]; exact Or.inr h
  have hS : va_S A s.heap s.heap [] := va_S.rf
  have hl := lv_entry ([.ref (ad 903)]) (n := 2) (Nat.le_of_ble_eq_true rfl)
  rw [lg_entry_eq]
  generalize (lg_sl ([.ref (ad 903)]) ++ List.replicate (2 - (lg_sl ([.ref (ad 903)])).length) Slot.unset).toArray = ls at hl ⊢
  have hl : lv_has ls 2 [(0, .ref (ad 903))] := hl
  refine lv_iconst (v := 0) hx hb dX5_stats_0 (by decide) ?_
  refine lv_istore_n (lv' := [(1, .int 0), (0, .ref (ad 903))]) hx hb dX5_stats_1 rfl hl (by decide) rfl (fun ls hl => ?_)
  refine lpm_ (X := Int32 × MS) (P := (fun (x9 : Int32 × MS) (H : Heap) (locs : List Loc) (ls : Array Slot) => (FC [305, 306, 307, 312, 313, 314, 315, 317, 321, 326, 331, 332, 381] [0, 311, 316, 318, 319, 320, 324, 325, 378, 379, 380] v x9.2) ∧ (0 ≤ (x9.2.1 0 306).toInt ∧ (x9.2.1 0 306).toInt ≤ 40) ∧ (0 ≤ (x9.2.1 0 312).toInt ∧ (x9.2.1 0 312).toInt ≤ 500) ∧ (0 ≤ (x9.2.1 0 321).toInt ∧ (x9.2.1 0 321).toInt ≤ 501) ∧ (0 ≤ (x9.2.1 0 326).toInt ∧ (x9.2.1 0 326).toInt ≤ 420) ∧ (0 ≤ (x9.2.1 0 381).toInt ∧ (x9.2.1 0 381).toInt ≤ 3008) ∧ (0 ≤ x9.1.toInt ∧ x9.1.toInt ≤ 1500) ∧ ((x9.2.1 0 306).toInt = (v.1 0 306).toInt + 0) ∧ va_P (dC, dI) vwCl (cW ad pr N cI cR L1 L2 x9.2) H ∧ va_D A (cW ad pr N cI cR L1 L2 x9.2) ∧ va_S A s.heap H locs ∧ lv_has ls 2 [(1, .int x9.1), (0, .ref (ad 903))])) (fun x9 => (1500 - x9.1.toInt).toNat) 2 (fun x9 H locs ls hh ih2 => ?_) (0, v) _ _ _ ⟨(show FC [305, 306, 307, 312, 313, 314, 315, 317, 321, 326, 331, 332, 381] [0, 311, 316, 318, 319, 320, 324, 325, 378, 379, 380] v v from (FC.rf _)), (show 0 ≤ (v.1 0 306).toInt ∧ (v.1 0 306).toInt ≤ 40 from (om_7eaf33e007 z306)), (show 0 ≤ (v.1 0 312).toInt ∧ (v.1 0 312).toInt ≤ 500 from (om_9861e69da5 z312)), (show 0 ≤ (v.1 0 321).toInt ∧ (v.1 0 321).toInt ≤ 501 from (om_e1d35f5faf z321)), (show 0 ≤ (v.1 0 326).toInt ∧ (v.1 0 326).toInt ≤ 420 from (om_839d7ed7dd z326)), (show 0 ≤ (v.1 0 381).toInt ∧ (v.1 0 381).toInt ≤ 3008 from (om_e78eec72e1 z381)), (show 0 ≤ (0 : Int) ∧ (0 : Int) ≤ 1500 from om_b1c23a1f42), (show (v.1 0 306).toInt = (v.1 0 306).toInt + 0 from om_a717a04b8e), hP, hD, hS, lv_sub hl [0, 1] rfl⟩
  obtain ⟨ka, w2⟩ := x9
  obtain ⟨fwL2, i306L2, i312L2, i321L2, i326L2, i381L2, f1L2, poL2, hP, hD, hS, hl⟩ := hh
  have fwL2 : FC [305, 306, 307, 312, 313, 314, 315, 317, 321, 326, 331, 332, 381] [0, 311, 316, 318, 319, 320, 324, 325, 378, 379, 380] v w2 := fwL2
  have i306L2 : 0 ≤ (w2.1 0 306).toInt ∧ (w2.1 0 306).toInt ≤ 40 := i306L2
  have i312L2 : 0 ≤ (w2.1 0 312).toInt ∧ (w2.1 0 312).toInt ≤ 500 := i312L2
  have i321L2 : 0 ≤ (w2.1 0 321).toInt ∧ (w2.1 0 321).toInt ≤ 501 := i321L2
  have i326L2 : 0 ≤ (w2.1 0 326).toInt ∧ (w2.1 0 326).toInt ≤ 420 := i326L2
  have i381L2 : 0 ≤ (w2.1 0 381).toInt ∧ (w2.1 0 381).toInt ≤ 3008 := i381L2
  have f1L2 : 0 ≤ ka.toInt ∧ ka.toInt ≤ 1500 := f1L2
  have poL2 : (w2.1 0 306).toInt = (v.1 0 306).toInt + 0 := poL2
  have hP : va_P (dC, dI) vwCl (cW ad pr N cI cR L1 L2 w2) H := hP
  have hD : va_D A (cW ad pr N cI cR L1 L2 w2) := hD
  have hl : lv_has ls 2 [(1, .int ka), (0, .ref (ad 903))] := hl
  refine lv_iload_n hx hb dX5_stats_2 rfl (lv_at hl 0 rfl) ?_
  refine lv_sipush (v := 1500) hx hb dX5_stats_3 (by decide) ?_
  refine lv_icmp_ge (tgt := 31) hx hb dX5_stats_6 (by decide) (fun h1 => ?_) (fun h1 => ?_)
  · have z2 : (1500 : Int) ≤ ka.toInt := le_z (show (1500 : Int32).toInt = (1500 : Int) by decide) rfl h1
    refine W.sz (fun hz => ?_)
    refine vx_ret ?_
    refine W.widen (k := 1) (n := 6) (Nat.le_of_ble_eq_true rfl) (Nat.le_of_ble_eq_true rfl) ?_
    exact W.vret hx hb hr (fun t ht9 hW => ⟨⟨w2, rfl, ⟨(FC.tr (FC.rf _) (FC.up fwL2 (by decide) (by decide))), (show 0 ≤ (w2.1 0 306).toInt ∧ (w2.1 0 306).toInt ≤ 40 from (om_7eaf33e007 i306L2)), (show 0 ≤ (w2.1 0 312).toInt ∧ (w2.1 0 312).toInt ≤ 500 from (om_9861e69da5 i312L2)), (show 0 ≤ (w2.1 0 321).toInt ∧ (w2.1 0 321).toInt ≤ 501 from (om_e1d35f5faf i321L2)), (show 0 ≤ (w2.1 0 326).toInt ∧ (w2.1 0 326).toInt ≤ 420 from (om_839d7ed7dd i326L2)), (show 0 ≤ (w2.1 0 381).toInt ∧ (w2.1 0 381).toInt ≤ 3008 from (om_e78eec72e1 i381L2)), (show (w2.1 0 306).toInt = (v.1 0 306).toInt from (om_9b3a2c9016 poL2))⟩, ⟨by rw [ht9]; exact hP, hD⟩, by rw [ht9]; exact hz⟩, hS.F ht9⟩) hS.2.2 dX5_stats_31
  · have z3 : ka.toInt < (1500 : Int) := nle_z (show (1500 : Int32).toInt = (1500 : Int) by decide) rfl h1
    refine lv_aload_n hx hb dX5_stats_9 rfl (lv_at hl 1 rfl) ?_
    refine va_get (D := (dC, dI)) (ci := 8) (fs := oF_X5 ad pr w2) (v := .ref (ad 900)) (C := RX5) (T := TX5) (N := 7) hx hb ht itX5 hown hK hP 3 rfl rfl 1 (by decide) (ht _ tw_571) (fun _ h9 => h9) rfl dX5_stats_10 ?_
    have q4 : (w2.1 0 304).toInt = (v.1 0 304).toInt := congrArg Int32.toInt ((fwL2.2.1 304 (by decide)).trans (show v.1 0 304 = (v.1 0 304) by rfl))
    refine cu_i (rn_Vk (n := 0) (As := []) (rest := []) hx hb hml hown ht hKK hFx hP hD hS hA (c_x_X9_kind l dC dI cI cB cZ cJ cR tb H.size ad pr N L1 L2 w2  (show 0 ≤ (w2.1 0 304).toInt ∧ (w2.1 0 304).toInt ≤ 1503 from (om_73002589c1 z304 q4))) tw_455 tw_594 (by decide +kernel) rfl rfl ⟨show 0 + 1 ≤ 8 * n + 41 from om_2607c9eef4, show 8 + (1 + 11) + 0 ≤ 28 * (8 * n + 41) from om_4b254d574d⟩ (List.range (cW ad pr N cI cR L1 L2 w2).length) (rg_map _) (nd_range _) 0 rfl rfl rfl rfl hl.1 rfl (Nat.le_of_ble_eq_true rfl) dX5_stats_13 ⟨Nat.le_of_ble_eq_true rfl, Nat.le_of_ble_eq_true rfl⟩) hP hD hS hA (fun r7 u6 H locs hw5 hP hD hS => ?_)
    obtain rfl := hw5
    refine W.widen (k := 0) (n := 0) (Nat.le_refl _) (Nat.le_refl _) ?_
    refine lv_bipush (v := 33) hx hb dX5_stats_16 (by decide) ?_
    refine lv_icmp_eq (tgt := 31) hx hb dX5_stats_18 (by decide) (fun h8 => ?_) (fun h8 => ?_)
    · have z9 : r7.toInt = (33 : Int) := eq_z rfl (show (33 : Int32).toInt = (33 : Int) by decide) h8
      refine W.sz (fun hz => ?_)
      refine vx_ret ?_
      refine W.widen (k := 1) (n := 6) (Nat.le_of_ble_eq_true rfl) (Nat.le_of_ble_eq_true rfl) ?_
      exact W.vret hx hb hr (fun t ht9 hW => ⟨⟨w2, rfl, ⟨(FC.tr (FC.rf _) (FC.up fwL2 (by decide) (by decide))), (show 0 ≤ (w2.1 0 306).toInt ∧ (w2.1 0 306).toInt ≤ 40 from (om_7eaf33e007 i306L2)), (show 0 ≤ (w2.1 0 312).toInt ∧ (w2.1 0 312).toInt ≤ 500 from (om_9861e69da5 i312L2)), (show 0 ≤ (w2.1 0 321).toInt ∧ (w2.1 0 321).toInt ≤ 501 from (om_e1d35f5faf i321L2)), (show 0 ≤ (w2.1 0 326).toInt ∧ (w2.1 0 326).toInt ≤ 420 from (om_839d7ed7dd i326L2)), (show 0 ≤ (w2.1 0 381).toInt ∧ (w2.1 0 381).toInt ≤ 3008 from (om_e78eec72e1 i381L2)), (show (w2.1 0 306).toInt = (v.1 0 306).toInt from (om_9b3a2c9016 poL2))⟩, ⟨by rw [ht9]; exact hP, hD⟩, by rw [ht9]; exact hz⟩, hS.F ht9⟩) hS.2.2 dX5_stats_31
    · have z10 : r7.toInt ≠ (33 : Int) := ne_z rfl (show (33 : Int32).toInt = (33 : Int) by decide) h8
      refine lv_aload_n hx hb dX5_stats_21 rfl (lv_at hl 1 rfl) ?_
      have q11 : (w2.1 0 373).toInt = (v.1 0 373).toInt := congrArg Int32.toInt ((fwL2.2.1 373 (by decide)).trans (show v.1 0 373 = (v.1 0 373) by rfl))
      refine W.sz (fun hz9 => ?_)
      refine czx_v (rx_Vk (n := 0) (As := []) (rest := []) hx hb hml hown ht hKK hFx hP hD hS hA (S dC dI cI cB cZ cJ cR tb H.size ad pr N L1 L2 w2 ps (show 0 ≤ (w2.1 0 304).toInt ∧ (w2.1 0 304).toInt ≤ 1503 from (om_73002589c1 z304 q4)) (show 0 ≤ (w2.1 0 306).toInt ∧ (w2.1 0 306).toInt ≤ 40 from (om_7eaf33e007 i306L2)) (show 0 ≤ (w2.1 0 312).toInt ∧ (w2.1 0 312).toInt ≤ 500 from (om_9861e69da5 i312L2)) (show 0 ≤ (w2.1 0 321).toInt ∧ (w2.1 0 321).toInt ≤ 501 from (om_e1d35f5faf i321L2)) (show 0 ≤ (w2.1 0 326).toInt ∧ (w2.1 0 326).toInt ≤ 420 from (om_839d7ed7dd i326L2)) (show 0 ≤ (w2.1 0 373).toInt ∧ (w2.1 0 373).toInt ≤ 4000 from (om_9084c127ed z373 q11)) (show 0 ≤ (w2.1 0 381).toInt ∧ (w2.1 0 381).toInt ≤ 3008 from (om_e78eec72e1 i381L2)) (show L1.length = 40 from hL1) (show L2.length = 60 from hL2) (show RP w2 from ((show FC [305, 306, 307, 312, 313, 314, 315, 317, 321, 326, 331, 332, 381] [0, 311, 316, 318, 319, 320, 324, 325, 378, 379, 380] v w2 from (FC.tr (FC.rf _) (FC.up fwL2 (by decide) (by decide)))).1 rp)) (show pr ps = ad 908 from hps) (show (w2.1 0 300) = ps from (Eq.trans (fwL2.2.1 300 (by decide)) es300)) (show (w2.1 0 310) = ps from (Eq.trans (fwL2.2.1 310 (by decide)) es310)) (show l.stackTraces = false from hst) (show 40 ≤ (w2.1 0 306).toInt + (n : Int) from (om_be0471eb0d zn poL2))) tw_612 tw_613 (by decide +kernel) rfl rfl ⟨show (8 * n + 40) + 1 ≤ 8 * n + 41 from om_543db34921, show 8 + (1 + 11) + 28 * (8 * n + 40) ≤ 28 * (8 * n + 41) from om_354ac17866⟩ (List.range (cW ad pr N cI cR L1 L2 w2).length) (rg_map _) (nd_range _) 3 rfl rfl rfl rfl hl.1 rfl (Nat.le_of_ble_eq_true rfl) dX5_stats_22 ⟨Nat.le_of_ble_eq_true rfl, Nat.le_of_ble_eq_true rfl⟩) hP hD hS hA (fun u9 ce9 q9 H locs hx9 hP hD hS hc9 hv9 hf9 => ?_) (fun u13 H locs hw12 hP hD hS hz8 => ?_)
      · exact vx_out (fun x h9 => (hnt x h9).elim) hlocks hc9 hv9 hf9 (fun t9 ht9 hv8 => ⟨u9, ⟨FC.tr (FC.tr (FC.rf _) (FC.up fwL2 (by decide) (by decide))) hx9.1, hx9.2⟩, ⟨rfl, by rw [ht9]; exact hP, hD⟩, hS.F ht9⟩) hS.2.2 (Nat.le_refl _) (Nat.le_refl _)
      refine W.shrink (hz8.trans hz9) ?_
      obtain ⟨fr12, i30612, i31212, i32112, i32612, i38112, po12⟩ := hw12
      have i30612 : 0 ≤ (u13.1 0 306).toInt ∧ (u13.1 0 306).toInt ≤ 40 := i30612
      have i31212 : 0 ≤ (u13.1 0 312).toInt ∧ (u13.1 0 312).toInt ≤ 500 := i31212
      have i32112 : 0 ≤ (u13.1 0 321).toInt ∧ (u13.1 0 321).toInt ≤ 501 := i32112
      have i32612 : 0 ≤ (u13.1 0 326).toInt ∧ (u13.1 0 326).toInt ≤ 420 := i32612
      have i38112 : 0 ≤ (u13.1 0 381).toInt ∧ (u13.1 0 381).toInt ≤ 3008 := i38112
      have po12 : (u13.1 0 306).toInt = (w2.1 0 306).toInt := po12
      refine lv_iinc (v := (ka + (1 : Int32))) (lv' := [(1, .int (ka + (1 : Int32))), (0, .ref (ad 903))]) hx hb dX5_stats_25 hl (k := 0) rfl (rfl) (by decide) rfl (fun ls hl => ?_)
      have z15 : (ka + (1 : Int32)).toInt = ka.toInt + (1 : Int) := add_z rfl (show (1 : Int32).toInt = (1 : Int) by decide) (om_8a2b73c54c f1L2) (om_3176a8b66b f1L2)
      refine lv_goto (tgt := 2) hx hb dX5_stats_28 (by decide) ?_
      exact ih2 ((ka + (1 : Int32)), u13) _ _ _ (show (1500 - (ka + (1 : Int32)).toInt).toNat < (1500 - ka.toInt).toNat from tn_z (om_f107c3c51d z15) (om_1cb5cb4f43 z3)) ⟨(show FC [305, 306, 307, 312, 313, 314, 315, 317, 321, 326, 331, 332, 381] [0, 311, 316, 318, 319, 320, 324, 325, 378, 379, 380] v u13 from (FC.tr (FC.tr (FC.rf _) (FC.up fwL2 (by decide) (by decide))) (FC.up fr12 (by decide) (by decide)))), (show 0 ≤ (u13.1 0 306).toInt ∧ (u13.1 0 306).toInt ≤ 40 from (om_7eaf33e007 i30612)), (show 0 ≤ (u13.1 0 312).toInt ∧ (u13.1 0 312).toInt ≤ 500 from (om_9861e69da5 i31212)), (show 0 ≤ (u13.1 0 321).toInt ∧ (u13.1 0 321).toInt ≤ 501 from (om_e1d35f5faf i32112)), (show 0 ≤ (u13.1 0 326).toInt ∧ (u13.1 0 326).toInt ≤ 420 from (om_839d7ed7dd i32612)), (show 0 ≤ (u13.1 0 381).toInt ∧ (u13.1 0 381).toInt ≤ 3008 from (om_e78eec72e1 i38112)), (show 0 ≤ (ka + (1 : Int32)).toInt ∧ (ka + (1 : Int32)).toInt ≤ 1500 from (om_46db715386 f1L2 z3 z15)), (show (u13.1 0 306).toInt = (v.1 0 306).toInt + 0 from (om_df2cd5d267 poL2 po12)), hP, hD, hS, lv_sub hl [0, 1] rfl⟩
