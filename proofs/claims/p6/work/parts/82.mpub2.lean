theorem dX13_fault_0 : decode cX13_fault 0 = .ok (.aload_n 0, 1) := by decide +kernel
theorem dX13_fault_1 : decode cX13_fault 1 = .ok (.iconst 0, 1) := by decide +kernel
theorem dX13_fault_2 : decode cX13_fault 2 = .ok (.putfield 3, 3) := by decide +kernel
theorem dX13_fault_5 : decode cX13_fault 5 = .ok (.iload_n 1, 1) := by decide +kernel
theorem dX13_fault_6 : decode cX13_fault 6 = .ok (.ifCond .ne 10, 3) := by decide +kernel
theorem dX13_fault_16 : decode cX13_fault 16 = .ok (.iload_n 1, 1) := by decide +kernel
theorem dX13_fault_17 : decode cX13_fault 17 = .ok (.iconst 1, 1) := by decide +kernel
theorem dX13_fault_18 : decode cX13_fault 18 = .ok (.if_icmp .ne 10, 3) := by decide +kernel
theorem dX13_fault_28 : decode cX13_fault 28 = .ok (.iconst (-1), 1) := by decide +kernel
theorem dX13_fault_29 : decode cX13_fault 29 = .ok (.ireturn, 1) := by decide +kernel
theorem dX13_fault_21 : decode cX13_fault 21 = .ok (.aload_n 0, 1) := by decide +kernel
theorem dX13_fault_22 : decode cX13_fault 22 = .ok (.getfield 564, 3) := by decide +kernel
theorem tw_254 : (.fieldLink RX13 564 "PocketCompilerModel" "toldPlace" "I" : Cond) ∈ tw_W := tw_in (t8_11 (List.mem_of_getElem? (i := 9) rfl)) rfl
theorem dX13_fault_25 : decode cX13_fault 25 = .ok (.goto 4, 3) := by decide +kernel
theorem dX13_fault_9 : decode cX13_fault 9 = .ok (.aload_n 0, 1) := by decide +kernel
theorem dX13_fault_10 : decode cX13_fault 10 = .ok (.getfield 624, 3) := by decide +kernel
theorem tw_255 : (.fieldLink RX13 624 "PocketCompilerModel" "toldFault" "I" : Cond) ∈ tw_W := tw_in (t8_11 (List.mem_of_getElem? (i := 8) rfl)) rfl
theorem dX13_fault_13 : decode cX13_fault 13 = .ok (.goto 16, 3) := by decide +kernel
theorem dX13_code_0 : decode cX13_code 0 = .ok (.aload_n 0, 1) := by decide +kernel
theorem dX13_code_1 : decode cX13_code 1 = .ok (.iload_n 1, 1) := by decide +kernel
theorem dX13_code_2 : decode cX13_code 2 = .ok (.ifCond .ge 7, 3) := by decide +kernel
theorem dX13_code_9 : decode cX13_code 9 = .ok (.iconst 0, 1) := by decide +kernel
theorem dX13_code_10 : decode cX13_code 10 = .ok (.putfield 3, 3) := by decide +kernel
theorem dX13_code_13 : decode cX13_code 13 = .ok (.iload_n 1, 1) := by decide +kernel
theorem dX13_code_14 : decode cX13_code 14 = .ok (.ifCond .lt 11, 3) := by decide +kernel
theorem dX13_code_17 : decode cX13_code 17 = .ok (.iload_n 1, 1) := by decide +kernel
theorem dX13_code_18 : decode cX13_code 18 = .ok (.aload_n 0, 1) := by decide +kernel
theorem dX13_code_19 : decode cX13_code 19 = .ok (.getfield 606, 3) := by decide +kernel
theorem tw_256 : (.fieldLink RX13 606 "PocketCompilerModel" "bWords" "I" : Cond) ∈ tw_W := tw_in (t8_10 (List.mem_of_getElem? (i := 230) rfl)) rfl
theorem dX13_code_22 : decode cX13_code 22 = .ok (.if_icmp .lt 7, 3) := by decide +kernel
theorem dX13_code_29 : decode cX13_code 29 = .ok (.aload_n 0, 1) := by decide +kernel
theorem dX13_code_30 : decode cX13_code 30 = .ok (.getfield 516, 3) := by decide +kernel
theorem tw_257 : (.fieldLink RX13 516 "PocketCompilerModel" "bCode" "[I" : Cond) ∈ tw_W := tw_in (t8_10 (List.mem_of_getElem? (i := 227) rfl)) rfl
theorem dX13_code_33 : decode cX13_code 33 = .ok (.iload_n 1, 1) := by decide +kernel
theorem dX13_code_34 : decode cX13_code 34 = .ok (.iaload, 1) := by decide +kernel
theorem dX13_code_35 : decode cX13_code 35 = .ok (.ireturn, 1) := by decide +kernel
theorem dX13_code_25 : decode cX13_code 25 = .ok (.iconst 0, 1) := by decide +kernel
theorem dX13_code_26 : decode cX13_code 26 = .ok (.goto 9, 3) := by decide +kernel
theorem dX13_code_5 : decode cX13_code 5 = .ok (.iconst 1, 1) := by decide +kernel
theorem dX13_code_6 : decode cX13_code 6 = .ok (.goto 4, 3) := by decide +kernel
theorem dX13_function_0 : decode cX13_function 0 = .ok (.aload_n 0, 1) := by decide +kernel
theorem dX13_function_1 : decode cX13_function 1 = .ok (.iconst 0, 1) := by decide +kernel
theorem dX13_function_2 : decode cX13_function 2 = .ok (.putfield 3, 3) := by decide +kernel
theorem dX13_function_5 : decode cX13_function 5 = .ok (.iload_n 1, 1) := by decide +kernel
theorem dX13_function_6 : decode cX13_function 6 = .ok (.ifCond .lt 11, 3) := by decide +kernel
theorem dX13_function_17 : decode cX13_function 17 = .ok (.iconst (-1), 1) := by decide +kernel
theorem dX13_function_18 : decode cX13_function 18 = .ok (.ireturn, 1) := by decide +kernel
theorem dX13_function_9 : decode cX13_function 9 = .ok (.iload_n 1, 1) := by decide +kernel
theorem dX13_function_10 : decode cX13_function 10 = .ok (.aload_n 0, 1) := by decide +kernel
theorem dX13_function_11 : decode cX13_function 11 = .ok (.getfield 609, 3) := by decide +kernel
theorem tw_258 : (.fieldLink RX13 609 "PocketCompilerModel" "bFunctions" "I" : Cond) ∈ tw_W := tw_in (t8_10 (List.mem_of_getElem? (i := 231) rfl)) rfl
theorem dX13_function_14 : decode cX13_function 14 = .ok (.if_icmp .lt 5, 3) := by decide +kernel
theorem dX13_function_19 : decode cX13_function 19 = .ok (.iload_n 2, 1) := by decide +kernel
theorem dX13_function_20 : decode cX13_function 20 = .ok (.ifCond .ne 12, 3) := by decide +kernel
theorem dX13_function_32 : decode cX13_function 32 = .ok (.iload_n 2, 1) := by decide +kernel
theorem dX13_function_33 : decode cX13_function 33 = .ok (.iconst 1, 1) := by decide +kernel
theorem dX13_function_34 : decode cX13_function 34 = .ok (.if_icmp .ne 12, 3) := by decide +kernel
theorem dX13_function_46 : decode cX13_function 46 = .ok (.iload_n 2, 1) := by decide +kernel
theorem dX13_function_47 : decode cX13_function 47 = .ok (.iconst 2, 1) := by decide +kernel
theorem dX13_function_48 : decode cX13_function 48 = .ok (.if_icmp .ne 12, 3) := by decide +kernel
theorem dX13_function_60 : decode cX13_function 60 = .ok (.iload_n 2, 1) := by decide +kernel
theorem dX13_function_61 : decode cX13_function 61 = .ok (.iconst 3, 1) := by decide +kernel
theorem dX13_function_62 : decode cX13_function 62 = .ok (.if_icmp .ne 12, 3) := by decide +kernel
theorem dX13_function_74 : decode cX13_function 74 = .ok (.iconst (-1), 1) := by decide +kernel
theorem dX13_function_75 : decode cX13_function 75 = .ok (.ireturn, 1) := by decide +kernel
theorem dX13_function_65 : decode cX13_function 65 = .ok (.aload_n 0, 1) := by decide +kernel
theorem dX13_function_66 : decode cX13_function 66 = .ok (.getfield 540, 3) := by decide +kernel
theorem tw_259 : (.fieldLink RX13 540 "PocketCompilerModel" "bPlace" "[I" : Cond) ∈ tw_W := tw_in (t8_11 (List.mem_of_getElem? (i := 0) rfl)) rfl
theorem dX13_function_69 : decode cX13_function 69 = .ok (.iload_n 1, 1) := by decide +kernel
theorem dX13_function_70 : decode cX13_function 70 = .ok (.iaload, 1) := by decide +kernel
theorem dX13_function_71 : decode cX13_function 71 = .ok (.goto 4, 3) := by decide +kernel
theorem dX13_function_51 : decode cX13_function 51 = .ok (.aload_n 0, 1) := by decide +kernel
theorem dX13_function_52 : decode cX13_function 52 = .ok (.getfield 528, 3) := by decide +kernel
theorem tw_260 : (.fieldLink RX13 528 "PocketCompilerModel" "bFrame" "[I" : Cond) ∈ tw_W := tw_in (t8_10 (List.mem_of_getElem? (i := 236) rfl)) rfl
theorem dX13_function_55 : decode cX13_function 55 = .ok (.iload_n 1, 1) := by decide +kernel
theorem dX13_function_56 : decode cX13_function 56 = .ok (.iaload, 1) := by decide +kernel
theorem dX13_function_57 : decode cX13_function 57 = .ok (.goto 18, 3) := by decide +kernel
theorem dX13_function_37 : decode cX13_function 37 = .ok (.aload_n 0, 1) := by decide +kernel
theorem dX13_function_38 : decode cX13_function 38 = .ok (.getfield 531, 3) := by decide +kernel
theorem tw_261 : (.fieldLink RX13 531 "PocketCompilerModel" "bAt" "[I" : Cond) ∈ tw_W := tw_in (t8_10 (List.mem_of_getElem? (i := 237) rfl)) rfl
theorem dX13_function_41 : decode cX13_function 41 = .ok (.iload_n 1, 1) := by decide +kernel
theorem dX13_function_42 : decode cX13_function 42 = .ok (.iaload, 1) := by decide +kernel
theorem dX13_function_43 : decode cX13_function 43 = .ok (.goto 32, 3) := by decide +kernel
theorem dX13_function_23 : decode cX13_function 23 = .ok (.aload_n 0, 1) := by decide +kernel
theorem dX13_function_24 : decode cX13_function 24 = .ok (.getfield 525, 3) := by decide +kernel
theorem tw_262 : (.fieldLink RX13 525 "PocketCompilerModel" "bMany" "[I" : Cond) ∈ tw_W := tw_in (t8_10 (List.mem_of_getElem? (i := 235) rfl)) rfl
theorem dX13_function_27 : decode cX13_function 27 = .ok (.iload_n 1, 1) := by decide +kernel
theorem dX13_function_28 : decode cX13_function 28 = .ok (.iaload, 1) := by decide +kernel
theorem dX13_function_29 : decode cX13_function 29 = .ok (.goto 46, 3) := by decide +kernel
theorem dX13_global_0 : decode cX13_global 0 = .ok (.aload_n 0, 1) := by decide +kernel
theorem dX13_global_1 : decode cX13_global 1 = .ok (.iconst 0, 1) := by decide +kernel
theorem dX13_global_2 : decode cX13_global 2 = .ok (.putfield 3, 3) := by decide +kernel
theorem dX13_global_5 : decode cX13_global 5 = .ok (.iload_n 1, 1) := by decide +kernel
theorem dX13_global_6 : decode cX13_global 6 = .ok (.ifCond .lt 11, 3) := by decide +kernel
theorem dX13_global_17 : decode cX13_global 17 = .ok (.iconst (-1), 1) := by decide +kernel
theorem dX13_global_18 : decode cX13_global 18 = .ok (.ireturn, 1) := by decide +kernel
theorem dX13_global_9 : decode cX13_global 9 = .ok (.iload_n 1, 1) := by decide +kernel
theorem dX13_global_10 : decode cX13_global 10 = .ok (.aload_n 0, 1) := by decide +kernel
theorem dX13_global_11 : decode cX13_global 11 = .ok (.getfield 612, 3) := by decide +kernel
theorem tw_263 : (.fieldLink RX13 612 "PocketCompilerModel" "bGlobals" "I" : Cond) ∈ tw_W := tw_in (t8_10 (List.mem_of_getElem? (i := 232) rfl)) rfl
theorem dX13_global_14 : decode cX13_global 14 = .ok (.if_icmp .lt 5, 3) := by decide +kernel
theorem dX13_global_19 : decode cX13_global 19 = .ok (.iload_n 2, 1) := by decide +kernel
theorem dX13_global_20 : decode cX13_global 20 = .ok (.ifCond .ne 12, 3) := by decide +kernel
theorem dX13_global_32 : decode cX13_global 32 = .ok (.iload_n 2, 1) := by decide +kernel
theorem dX13_global_33 : decode cX13_global 33 = .ok (.iconst 1, 1) := by decide +kernel
theorem dX13_global_34 : decode cX13_global 34 = .ok (.if_icmp .ne 21, 3) := by decide +kernel
theorem dX13_global_55 : decode cX13_global 55 = .ok (.iload_n 2, 1) := by decide +kernel
theorem dX13_global_56 : decode cX13_global 56 = .ok (.iconst 2, 1) := by decide +kernel
theorem dX13_global_57 : decode cX13_global 57 = .ok (.if_icmp .ne 20, 3) := by decide +kernel
theorem dX13_global_77 : decode cX13_global 77 = .ok (.iload_n 2, 1) := by decide +kernel
theorem dX13_global_78 : decode cX13_global 78 = .ok (.iconst 3, 1) := by decide +kernel
theorem dX13_global_79 : decode cX13_global 79 = .ok (.if_icmp .ne 12, 3) := by decide +kernel
theorem dX13_global_91 : decode cX13_global 91 = .ok (.iconst (-1), 1) := by decide +kernel
theorem dX13_global_92 : decode cX13_global 92 = .ok (.ireturn, 1) := by decide +kernel
theorem dX13_global_82 : decode cX13_global 82 = .ok (.aload_n 0, 1) := by decide +kernel
theorem dX13_global_83 : decode cX13_global 83 = .ok (.getfield 552, 3) := by decide +kernel
theorem tw_264 : (.fieldLink RX13 552 "PocketCompilerModel" "dPlace" "[I" : Cond) ∈ tw_W := tw_in (t8_11 (List.mem_of_getElem? (i := 4) rfl)) rfl
theorem dX13_global_86 : decode cX13_global 86 = .ok (.iload_n 1, 1) := by decide +kernel
theorem dX13_global_87 : decode cX13_global 87 = .ok (.iaload, 1) := by decide +kernel
theorem dX13_global_88 : decode cX13_global 88 = .ok (.goto 4, 3) := by decide +kernel
theorem dX13_global_60 : decode cX13_global 60 = .ok (.aload_n 0, 1) := by decide +kernel
theorem dX13_global_61 : decode cX13_global 61 = .ok (.getfield 558, 3) := by decide +kernel
theorem tw_265 : (.fieldLink RX13 558 "PocketCompilerModel" "dRow" "[Z" : Cond) ∈ tw_W := tw_in (t8_11 (List.mem_of_getElem? (i := 6) rfl)) rfl
theorem dX13_global_64 : decode cX13_global 64 = .ok (.iload_n 1, 1) := by decide +kernel
theorem dX13_global_65 : decode cX13_global 65 = .ok (.baload, 1) := by decide +kernel
theorem dX13_global_66 : decode cX13_global 66 = .ok (.ifCond .eq 7, 3) := by decide +kernel
theorem dX13_global_73 : decode cX13_global 73 = .ok (.iconst 0, 1) := by decide +kernel
theorem dX13_global_74 : decode cX13_global 74 = .ok (.goto 18, 3) := by decide +kernel
theorem dX13_global_69 : decode cX13_global 69 = .ok (.iconst 1, 1) := by decide +kernel
theorem dX13_global_70 : decode cX13_global 70 = .ok (.goto 22, 3) := by decide +kernel
theorem dX13_global_37 : decode cX13_global 37 = .ok (.iconst 4, 1) := by decide +kernel
theorem dX13_global_38 : decode cX13_global 38 = .ok (.aload_n 0, 1) := by decide +kernel
theorem dX13_global_39 : decode cX13_global 39 = .ok (.getfield 606, 3) := by decide +kernel
theorem dX13_global_42 : decode cX13_global 42 = .ok (.imul, 1) := by decide +kernel
theorem dX13_global_43 : decode cX13_global 43 = .ok (.iconst 4, 1) := by decide +kernel
theorem dX13_global_44 : decode cX13_global 44 = .ok (.aload_n 0, 1) := by decide +kernel
theorem dX13_global_45 : decode cX13_global 45 = .ok (.getfield 549, 3) := by decide +kernel
theorem tw_266 : (.fieldLink RX13 549 "PocketCompilerModel" "dFrom" "[I" : Cond) ∈ tw_W := tw_in (t8_11 (List.mem_of_getElem? (i := 3) rfl)) rfl
theorem dX13_global_48 : decode cX13_global 48 = .ok (.iload_n 1, 1) := by decide +kernel
theorem dX13_global_49 : decode cX13_global 49 = .ok (.iaload, 1) := by decide +kernel
theorem dX13_global_50 : decode cX13_global 50 = .ok (.imul, 1) := by decide +kernel
theorem dX13_global_51 : decode cX13_global 51 = .ok (.iadd, 1) := by decide +kernel
theorem dX13_global_52 : decode cX13_global 52 = .ok (.goto 40, 3) := by decide +kernel
theorem dX13_global_23 : decode cX13_global 23 = .ok (.aload_n 0, 1) := by decide +kernel
theorem dX13_global_24 : decode cX13_global 24 = .ok (.getfield 546, 3) := by decide +kernel
theorem tw_267 : (.fieldLink RX13 546 "PocketCompilerModel" "dMany" "[I" : Cond) ∈ tw_W := tw_in (t8_11 (List.mem_of_getElem? (i := 2) rfl)) rfl
theorem dX13_global_27 : decode cX13_global 27 = .ok (.iload_n 1, 1) := by decide +kernel
theorem dX13_global_28 : decode cX13_global 28 = .ok (.iaload, 1) := by decide +kernel
theorem dX13_global_29 : decode cX13_global 29 = .ok (.goto 63, 3) := by decide +kernel
theorem dX13_isTape_0 : decode cX13_isTape 0 = .ok (.aload_n 0, 1) := by decide +kernel
theorem dX13_isTape_1 : decode cX13_isTape 1 = .ok (.getfield 7, 3) := by decide +kernel
theorem dX13_isTape_4 : decode cX13_isTape 4 = .ok (.iload_n 2, 1) := by decide +kernel
theorem dX13_isTape_5 : decode cX13_isTape 5 = .ok (.iload_n 1, 1) := by decide +kernel
theorem dX13_isTape_6 : decode cX13_isTape 6 = .ok (.isub, 1) := by decide +kernel
theorem dX13_isTape_7 : decode cX13_isTape 7 = .ok (.if_icmp .ne 7, 3) := by decide +kernel
theorem dX13_isTape_14 : decode cX13_isTape 14 = .ok (.iconst 0, 1) := by decide +kernel
theorem dX13_isTape_15 : decode cX13_isTape 15 = .ok (.istore_n 3, 1) := by decide +kernel
theorem dX13_isTape_16 : decode cX13_isTape 16 = .ok (.iconst 0, 1) := by decide +kernel
theorem dX13_isTape_17 : decode cX13_isTape 17 = .ok (.istore 4, 2) := by decide +kernel
theorem dX13_isTape_19 : decode cX13_isTape 19 = .ok (.iload 4, 2) := by decide +kernel
theorem dX13_isTape_21 : decode cX13_isTape 21 = .ok (.aload_n 0, 1) := by decide +kernel
theorem dX13_isTape_22 : decode cX13_isTape 22 = .ok (.getfield 7, 3) := by decide +kernel
theorem dX13_isTape_25 : decode cX13_isTape 25 = .ok (.if_icmp .ge 38, 3) := by decide +kernel
theorem dX13_isTape_63 : decode cX13_isTape 63 = .ok (.iload_n 3, 1) := by decide +kernel
theorem dX13_isTape_64 : decode cX13_isTape 64 = .ok (.ireturn, 1) := by decide +kernel
theorem dX13_isTape_28 : decode cX13_isTape 28 = .ok (.iload_n 3, 1) := by decide +kernel
theorem dX13_isTape_29 : decode cX13_isTape 29 = .ok (.ifCond .eq 34, 3) := by decide +kernel
theorem dX13_isTape_32 : decode cX13_isTape 32 = .ok (.aload_n 0, 1) := by decide +kernel
theorem dX13_isTape_33 : decode cX13_isTape 33 = .ok (.getfield 14, 3) := by decide +kernel
theorem dX13_isTape_36 : decode cX13_isTape 36 = .ok (.iload 4, 2) := by decide +kernel
theorem dX13_isTape_38 : decode cX13_isTape 38 = .ok (.iaload, 1) := by decide +kernel
theorem dX13_isTape_39 : decode cX13_isTape 39 = .ok (.aload_n 0, 1) := by decide +kernel
theorem dX13_isTape_40 : decode cX13_isTape 40 = .ok (.getfield 561, 3) := by decide +kernel
theorem tw_268 : (.fieldLink RX13 561 "PocketCompilerModel" "bText" "[I" : Cond) ∈ tw_W := tw_in (t8_11 (List.mem_of_getElem? (i := 7) rfl)) rfl
theorem dX13_isTape_43 : decode cX13_isTape 43 = .ok (.iload_n 1, 1) := by decide +kernel
theorem dX13_isTape_44 : decode cX13_isTape 44 = .ok (.iload 4, 2) := by decide +kernel
theorem dX13_isTape_46 : decode cX13_isTape 46 = .ok (.iadd, 1) := by decide +kernel
theorem dX13_isTape_47 : decode cX13_isTape 47 = .ok (.iaload, 1) := by decide +kernel
theorem dX13_isTape_48 : decode cX13_isTape 48 = .ok (.if_icmp .ne 7, 3) := by decide +kernel
theorem dX13_isTape_55 : decode cX13_isTape 55 = .ok (.iconst 0, 1) := by decide +kernel
theorem dX13_isTape_56 : decode cX13_isTape 56 = .ok (.istore_n 3, 1) := by decide +kernel
theorem dX13_isTape_57 : decode cX13_isTape 57 = .ok (.iinc 4 1, 3) := by decide +kernel
theorem dX13_isTape_60 : decode cX13_isTape 60 = .ok (.goto (-41), 3) := by decide +kernel
theorem dX13_isTape_51 : decode cX13_isTape 51 = .ok (.iconst 1, 1) := by decide +kernel
theorem dX13_isTape_52 : decode cX13_isTape 52 = .ok (.goto 4, 3) := by decide +kernel
theorem dX13_isTape_10 : decode cX13_isTape 10 = .ok (.iconst 1, 1) := by decide +kernel
theorem dX13_isTape_11 : decode cX13_isTape 11 = .ok (.goto 4, 3) := by decide +kernel
set_option maxHeartbeats 4000000 in
set_option maxRecDepth 100000 in
theorem c_m_fault (l : Launch) (dC : Nat → ClassId) (dI : Nat → Nat → Nat) (cI cB cZ cJ cR : ClassId) (tb : Nat → Nat) (sz : Nat) (ad : Nat → Nat) (N : Nat) (v : MS) (pa : Int32)  : Met l yX13_fault (Cond.code yX13_fault cX13_fault 2 (some .int) :: tw_W) ({ frames := 0, cells := 0, slots := 0, locals := 0 }) (pc_ (dC, dI) (tyS cI cB cZ cJ cR) tb (mW ad N cI cZ cJ v) sz [.ref (ad 0), .int pa]) (qi_ (dC, dI) (mW ad N cI cZ cJ v) sz (fun (r : Int32) (u : MS) => FG [0] [0] v u ∧ (Q_m_fault v pa r u)) (fun (u : MS) => (mW ad N cI cZ cJ u))) 0 0 (va_A (mW ad N cI cZ cJ v) sz) := by
  refine Met.ofW (cc := cX13_fault) (maxL := 2) (ret := (some .int)) (by decide) rfl ?_
  intro p e s m args below meth c s₁ B hml hv
  obtain ⟨rfl, hsz, hP, hKK, hD0, hFx⟩ := hv
  have hK := hKK.1
  have hx := B.exec
  have hb := B.bytes
  have hr := B.returns
  have ht : ∀ w ∈ tw_W, w.before _ s = true := fun w h => atoms_spec (ws := Cond.code yX13_fault cX13_fault 2 (some .int) :: tw_W) B.pre w (List.mem_cons_of_mem _ h)
  have hown : s.vm.findClass RX13 = some m.cls := findClass_of_methodNamed B.named
  have hlocks := B.notSynchronized
  subst hsz
  unfold qi_
  have hD := hD0.self (sz := s.heap.size)
  generalize hAe : va_A (mW ad N cI cZ cJ v) s.heap.size = A at hD hFx ⊢
  have hA : ∀ q : Nat, s.heap.size ≤ q → A q := fun q h => by rw [← hAe]; exact Or.inr h
  have hS : va_S A s.heap s.heap [] := va_S.rf
  have hl := lv_entry ([.ref (ad 0), .int pa]) (n := 2) (Nat.le_of_ble_eq_true rfl)
  rw [lg_entry_eq]
  generalize (lg_sl ([.ref (ad 0), .int pa]) ++ List.replicate (2 - (lg_sl ([.ref (ad 0), .int pa])).length) Slot.unset).toArray = ls at hl ⊢
  have hl : lv_has ls 2 [(0, .ref (ad 0)), (1, .int pa)] := hl
  refine lv_aload_n hx hb dX13_fault_0 rfl (lv_at hl 0 rfl) ?_
  refine lv_iconst (v := 0) hx hb dX13_fault_1 (by decide) ?_
  refine va_put (D := (dC, dI)) (ci := 16) (fs := mF ad v) (v := .int 0) (ty := .int) (C := RX13) (T := TX13) (N := 124) hx hb ht itX13 tyX13 tyX13_ok nmX13 hown hK hP hD hS 0 rfl rfl 0 (by decide) (ht _ tw_246) (fun _ h9 => h9) rfl (by decide +kernel) rfl rfl (Nat.le_of_ble_eq_true rfl) dX13_fault_2 (fun H locs hP hD hS => ?_)
  have hP := cP_ (mw_0 ad N cI cZ cJ v 0) hP
  have hD := cD_ (mw_0 ad N cI cZ cJ v 0) hD
  refine lv_iload_n hx hb dX13_fault_5 rfl (lv_at hl 1 rfl) ?_
  refine lv_if_ne (tgt := 16) hx hb dX13_fault_6 (by decide) (fun h1 => ?_) (fun h1 => ?_)
  · have z2 : pa.toInt ≠ (0 : Int) := ne_z rfl (show (0 : Int32).toInt = (0 : Int) by decide) h1
    refine lv_iload_n hx hb dX13_fault_16 rfl (lv_at hl 1 rfl) ?_
    refine lv_iconst (v := 1) hx hb dX13_fault_17 (by decide) ?_
    refine lv_icmp_ne (tgt := 28) hx hb dX13_fault_18 (by decide) (fun h3 => ?_) (fun h3 => ?_)
    · have z4 : pa.toInt ≠ (1 : Int) := ne_z rfl (show (1 : Int32).toInt = (1 : Int) by decide) h3
      refine lv_iconst (v := -1) hx hb dX13_fault_28 (by decide) ?_
      exact W.iret (v := (-1)) hx hb hr (fun t ht9 hW => ⟨⟨(-1), (wA v 0 0 0), rfl, ⟨(FG.f (FG.rf _) 0 (by decide)), (Or.inl ⟨z2, (Or.inl ⟨z4, rfl, rfl⟩)⟩)⟩, by rw [ht9]; exact hP, hD⟩, hS.F ht9⟩) hS.2.2 dX13_fault_29
    · have z5 : pa.toInt = (1 : Int) := eq_z rfl (show (1 : Int32).toInt = (1 : Int) by decide) h3
      refine lv_aload_n hx hb dX13_fault_21 rfl (lv_at hl 0 rfl) ?_
      refine va_get (D := (dC, dI)) (ci := 16) (fs := mF ad (wA v 0 0 0)) (v := .int (v.1 0 92)) (C := RX13) (T := TX13) (N := 124) hx hb ht itX13 hown hK hP 0 rfl rfl 92 (by decide) (ht _ tw_254) (fun _ h9 => h9) rfl dX13_fault_22 ?_
      refine lv_goto (tgt := 29) hx hb dX13_fault_25 (by decide) ?_
      exact W.iret (v := (v.1 0 92)) hx hb hr (fun t ht9 hW => ⟨⟨(v.1 0 92), (wA v 0 0 0), rfl, ⟨(FG.f (FG.rf _) 0 (by decide)), (Or.inl ⟨z2, (Or.inr (⟨z5, rfl, rfl⟩))⟩)⟩, by rw [ht9]; exact hP, hD⟩, hS.F ht9⟩) hS.2.2 dX13_fault_29
  · have z6 : pa.toInt = (0 : Int) := eq_z rfl (show (0 : Int32).toInt = (0 : Int) by decide) h1
    refine lv_aload_n hx hb dX13_fault_9 rfl (lv_at hl 0 rfl) ?_
    refine va_get (D := (dC, dI)) (ci := 16) (fs := mF ad (wA v 0 0 0)) (v := .int (v.1 0 91)) (C := RX13) (T := TX13) (N := 124) hx hb ht itX13 hown hK hP 0 rfl rfl 91 (by decide) (ht _ tw_255) (fun _ h9 => h9) rfl dX13_fault_10 ?_
    refine lv_goto (tgt := 29) hx hb dX13_fault_13 (by decide) ?_
    exact W.iret (v := (v.1 0 91)) hx hb hr (fun t ht9 hW => ⟨⟨(v.1 0 91), (wA v 0 0 0), rfl, ⟨(FG.f (FG.rf _) 0 (by decide)), (Or.inr (⟨z6, rfl, rfl⟩))⟩, by rw [ht9]; exact hP, hD⟩, hS.F ht9⟩) hS.2.2 dX13_fault_29
theorem om_52c564d670 {x0 x1 : Int} (h0 : 0 ≤ x0 ∧ x0 ≤ 24000) (h1 : x1 < x0) : x1 < 24000 := by omega
set_option maxHeartbeats 4000000 in
set_option maxRecDepth 100000 in
theorem c_m_code (l : Launch) (dC : Nat → ClassId) (dI : Nat → Nat → Nat) (cI cB cZ cJ cR : ClassId) (tb : Nat → Nat) (sz : Nat) (ad : Nat → Nat) (N : Nat) (v : MS) (pa : Int32) (zbw : 0 ≤ (v.1 0 73).toInt ∧ (v.1 0 73).toInt ≤ 24000) : Met l yX13_code (Cond.code yX13_code cX13_code 2 (some .int) :: tw_W) ({ frames := 0, cells := 0, slots := 0, locals := 0 }) (pc_ (dC, dI) (tyS cI cB cZ cJ cR) tb (mW ad N cI cZ cJ v) sz [.ref (ad 0), .int pa]) (qi_ (dC, dI) (mW ad N cI cZ cJ v) sz (fun (r : Int32) (u : MS) => FG [0] [0] v u ∧ (Q_m_code v pa r u)) (fun (u : MS) => (mW ad N cI cZ cJ u))) 0 0 (va_A (mW ad N cI cZ cJ v) sz) := by
  refine Met.ofW (cc := cX13_code) (maxL := 2) (ret := (some .int)) (by decide) rfl ?_
  intro p e s m args below meth c s₁ B hml hv
  obtain ⟨rfl, hsz, hP, hKK, hD0, hFx⟩ := hv
  have hK := hKK.1
  have hx := B.exec
  have hb := B.bytes
  have hr := B.returns
  have ht : ∀ w ∈ tw_W, w.before _ s = true := fun w h => atoms_spec (ws := Cond.code yX13_code cX13_code 2 (some .int) :: tw_W) B.pre w (List.mem_cons_of_mem _ h)
  have hown : s.vm.findClass RX13 = some m.cls := findClass_of_methodNamed B.named
  have hlocks := B.notSynchronized
  subst hsz
  unfold qi_
  have hD := hD0.self (sz := s.heap.size)
  generalize hAe : va_A (mW ad N cI cZ cJ v) s.heap.size = A at hD hFx ⊢
  have hA : ∀ q : Nat, s.heap.size ≤ q → A q := fun q h => by rw [← hAe]; exact Or.inr h
  have hS : va_S A s.heap s.heap [] := va_S.rf
  have hl := lv_entry ([.ref (ad 0), .int pa]) (n := 2) (Nat.le_of_ble_eq_true rfl)
  rw [lg_entry_eq]
  generalize (lg_sl ([.ref (ad 0), .int pa]) ++ List.replicate (2 - (lg_sl ([.ref (ad 0), .int pa])).length) Slot.unset).toArray = ls at hl ⊢
  have hl : lv_has ls 2 [(0, .ref (ad 0)), (1, .int pa)] := hl
  refine lv_aload_n hx hb dX13_code_0 rfl (lv_at hl 0 rfl) ?_
  refine lv_iload_n hx hb dX13_code_1 rfl (lv_at hl 1 rfl) ?_
  refine lv_if_ge (tgt := 9) hx hb dX13_code_2 (by decide) (fun h1 => ?_) (fun h1 => ?_)
  · have z2 : (0 : Int) ≤ pa.toInt := le_z (show (0 : Int32).toInt = (0 : Int) by decide) rfl h1
    refine lv_iconst (v := 0) hx hb dX13_code_9 (by decide) ?_
    refine va_put (D := (dC, dI)) (ci := 16) (fs := mF ad v) (v := .int 0) (ty := .int) (C := RX13) (T := TX13) (N := 124) hx hb ht itX13 tyX13 tyX13_ok nmX13 hown hK hP hD hS 0 rfl rfl 0 (by decide) (ht _ tw_246) (fun _ h9 => h9) rfl (by decide +kernel) rfl rfl (Nat.le_of_ble_eq_true rfl) dX13_code_10 (fun H locs hP hD hS => ?_)
    have hP := cP_ (mw_0 ad N cI cZ cJ v 0) hP
    have hD := cD_ (mw_0 ad N cI cZ cJ v 0) hD
    refine lv_iload_n hx hb dX13_code_13 rfl (lv_at hl 1 rfl) ?_
    refine lv_if_lt (tgt := 25) hx hb dX13_code_14 (by decide) (fun h3 => ?_) (fun h3 => ?_)
    · have z4 : pa.toInt < (0 : Int) := lt_z rfl (show (0 : Int32).toInt = (0 : Int) by decide) h3
      exact False.elim (om_5829cebf50 z2 z4)
    · have z5 : (0 : Int) ≤ pa.toInt := nlt_z rfl (show (0 : Int32).toInt = (0 : Int) by decide) h3
      refine lv_iload_n hx hb dX13_code_17 rfl (lv_at hl 1 rfl) ?_
      refine lv_aload_n hx hb dX13_code_18 rfl (lv_at hl 0 rfl) ?_
      refine va_get (D := (dC, dI)) (ci := 16) (fs := mF ad (wA v 0 0 0)) (v := .int (v.1 0 73)) (C := RX13) (T := TX13) (N := 124) hx hb ht itX13 hown hK hP 0 rfl rfl 73 (by decide) (ht _ tw_256) (fun _ h9 => h9) rfl dX13_code_19 ?_
      refine lv_icmp_lt (tgt := 29) hx hb dX13_code_22 (by decide) (fun h6 => ?_) (fun h6 => ?_)
      · have z7 : pa.toInt < (v.1 0 73).toInt := lt_z rfl rfl h6
        refine lv_aload_n hx hb dX13_code_29 rfl (lv_at hl 0 rfl) ?_
        refine va_get (D := (dC, dI)) (ci := 16) (fs := mF ad (wA v 0 0 0)) (v := .ref (ad 70)) (C := RX13) (T := TX13) (N := 124) hx hb ht itX13 hown hK hP 0 rfl rfl 70 (by decide) (ht _ tw_257) (fun _ h9 => h9) rfl dX13_code_30 ?_
        refine lv_iload_n hx hb dX13_code_33 rfl (lv_at hl 1 rfl) ?_
        refine va_iald (D := (dC, dI)) (f := (v.1 70)) hx hb hK hP 35 0 rfl rfl (in_y (a := pa.toInt) (b := 24000) rfl (om_51058f7f87 z2) (om_52c564d670 zbw z7) rfl) dX13_code_34 ?_
        exact W.iret (v := ((v.1 70) pa.toNatClampNeg)) hx hb hr (fun t ht9 hW => ⟨⟨((v.1 70) pa.toNatClampNeg), (wA v 0 0 0), rfl, ⟨(FG.f (FG.rf _) 0 (by decide)), ⟨zbw, (Or.inl ⟨z2, z5, (Or.inl ⟨z7, rfl, rfl⟩)⟩)⟩⟩, by rw [ht9]; exact hP, hD⟩, hS.F ht9⟩) hS.2.2 dX13_code_35
      · have z8 : (v.1 0 73).toInt ≤ pa.toInt := nlt_z rfl rfl h6
        refine lv_iconst (v := 0) hx hb dX13_code_25 (by decide) ?_
        refine lv_goto (tgt := 35) hx hb dX13_code_26 (by decide) ?_
        exact W.iret (v := 0) hx hb hr (fun t ht9 hW => ⟨⟨0, (wA v 0 0 0), rfl, ⟨(FG.f (FG.rf _) 0 (by decide)), ⟨zbw, (Or.inl ⟨z2, z5, (Or.inr (⟨z8, rfl, rfl⟩))⟩)⟩⟩, by rw [ht9]; exact hP, hD⟩, hS.F ht9⟩) hS.2.2 dX13_code_35
  · have z9 : pa.toInt < (0 : Int) := nle_z (show (0 : Int32).toInt = (0 : Int) by decide) rfl h1
    refine lv_iconst (v := 1) hx hb dX13_code_5 (by decide) ?_
    refine lv_goto (tgt := 10) hx hb dX13_code_6 (by decide) ?_
    refine va_put (D := (dC, dI)) (ci := 16) (fs := mF ad v) (v := .int 1) (ty := .int) (C := RX13) (T := TX13) (N := 124) hx hb ht itX13 tyX13 tyX13_ok nmX13 hown hK hP hD hS 0 rfl rfl 0 (by decide) (ht _ tw_246) (fun _ h9 => h9) rfl (by decide +kernel) rfl rfl (Nat.le_of_ble_eq_true rfl) dX13_code_10 (fun H locs hP hD hS => ?_)
    have hP := cP_ (mw_0 ad N cI cZ cJ v 1) hP
    have hD := cD_ (mw_0 ad N cI cZ cJ v 1) hD
    refine lv_iload_n hx hb dX13_code_13 rfl (lv_at hl 1 rfl) ?_
    refine lv_if_lt (tgt := 25) hx hb dX13_code_14 (by decide) (fun h10 => ?_) (fun h10 => ?_)
    · have z11 : pa.toInt < (0 : Int) := lt_z rfl (show (0 : Int32).toInt = (0 : Int) by decide) h10
      refine lv_iconst (v := 0) hx hb dX13_code_25 (by decide) ?_
      refine lv_goto (tgt := 35) hx hb dX13_code_26 (by decide) ?_
      exact W.iret (v := 0) hx hb hr (fun t ht9 hW => ⟨⟨0, (wA v 0 0 1), rfl, ⟨(FG.f (FG.rf _) 1 (by decide)), ⟨zbw, (Or.inr (⟨z9, z11, rfl, rfl⟩))⟩⟩, by rw [ht9]; exact hP, hD⟩, hS.F ht9⟩) hS.2.2 dX13_code_35
    · have z12 : (0 : Int) ≤ pa.toInt := nlt_z rfl (show (0 : Int32).toInt = (0 : Int) by decide) h10
      exact False.elim (om_228557f1cf z9 z12)
theorem om_f1d398b2a9 {x0 x1 : Int} (h0 : 0 ≤ x0 ∧ x0 ≤ 40) (h1 : x1 < x0) : x1 < 40 := by omega
set_option maxHeartbeats 4000000 in
set_option maxRecDepth 100000 in
theorem c_m_function (l : Launch) (dC : Nat → ClassId) (dI : Nat → Nat → Nat) (cI cB cZ cJ cR : ClassId) (tb : Nat → Nat) (sz : Nat) (ad : Nat → Nat) (N : Nat) (v : MS) (pa : Int32) (pb : Int32) (zbf : 0 ≤ (v.1 0 74).toInt ∧ (v.1 0 74).toInt ≤ 40) : Met l yX13_function (Cond.code yX13_function cX13_function 3 (some .int) :: tw_W) ({ frames := 0, cells := 0, slots := 0, locals := 0 }) (pc_ (dC, dI) (tyS cI cB cZ cJ cR) tb (mW ad N cI cZ cJ v) sz [.ref (ad 0), .int pa, .int pb]) (qi_ (dC, dI) (mW ad N cI cZ cJ v) sz (fun (r : Int32) (u : MS) => FG [0] [0] v u ∧ (Q_m_function v pa pb r u)) (fun (u : MS) => (mW ad N cI cZ cJ u))) 0 0 (va_A (mW ad N cI cZ cJ v) sz) := by
  refine Met.ofW (cc := cX13_function) (maxL := 3) (ret := (some .int)) (by decide) rfl ?_
  intro p e s m args below meth c s₁ B hml hv
  obtain ⟨rfl, hsz, hP, hKK, hD0, hFx⟩ := hv
  have hK := hKK.1
  have hx := B.exec
  have hb := B.bytes
  have hr := B.returns
  have ht : ∀ w ∈ tw_W, w.before _ s = true := fun w h => atoms_spec (ws := Cond.code yX13_function cX13_function 3 (some .int) :: tw_W) B.pre w (List.mem_cons_of_mem _ h)
  have hown : s.vm.findClass RX13 = some m.cls := findClass_of_methodNamed B.named
  have hlocks := B.notSynchronized
  subst hsz
  unfold qi_
  have hD := hD0.self (sz := s.heap.size)
  generalize hAe : va_A (mW ad N cI cZ cJ v) s.heap.size = A at hD hFx ⊢
  have hA : ∀ q : Nat, s.heap.size ≤ q → A q := fun q h => by rw [← hAe]; exact Or.inr h
  have hS : va_S A s.heap s.heap [] := va_S.rf
  have hl := lv_entry ([.ref (ad 0), .int pa, .int pb]) (n := 3) (Nat.le_of_ble_eq_true rfl)
  rw [lg_entry_eq]
  generalize (lg_sl ([.ref (ad 0), .int pa, .int pb]) ++ List.replicate (3 - (lg_sl ([.ref (ad 0), .int pa, .int pb])).length) Slot.unset).toArray = ls at hl ⊢
  have hl : lv_has ls 3 [(0, .ref (ad 0)), (1, .int pa), (2, .int pb)] := hl
  refine lv_aload_n hx hb dX13_function_0 rfl (lv_at hl 0 rfl) ?_
  refine lv_iconst (v := 0) hx hb dX13_function_1 (by decide) ?_
  refine va_put (D := (dC, dI)) (ci := 16) (fs := mF ad v) (v := .int 0) (ty := .int) (C := RX13) (T := TX13) (N := 124) hx hb ht itX13 tyX13 tyX13_ok nmX13 hown hK hP hD hS 0 rfl rfl 0 (by decide) (ht _ tw_246) (fun _ h9 => h9) rfl (by decide +kernel) rfl rfl (Nat.le_of_ble_eq_true rfl) dX13_function_2 (fun H locs hP hD hS => ?_)
  have hP := cP_ (mw_0 ad N cI cZ cJ v 0) hP
  have hD := cD_ (mw_0 ad N cI cZ cJ v 0) hD
  refine lv_iload_n hx hb dX13_function_5 rfl (lv_at hl 1 rfl) ?_
  refine lv_if_lt (tgt := 17) hx hb dX13_function_6 (by decide) (fun h1 => ?_) (fun h1 => ?_)
  · have z2 : pa.toInt < (0 : Int) := lt_z rfl (show (0 : Int32).toInt = (0 : Int) by decide) h1
    refine lv_iconst (v := -1) hx hb dX13_function_17 (by decide) ?_
    exact W.iret (v := (-1)) hx hb hr (fun t ht9 hW => ⟨⟨(-1), (wA v 0 0 0), rfl, ⟨(FG.f (FG.rf _) 0 (by decide)), ⟨zbf, (Or.inl ⟨z2, rfl, rfl⟩)⟩⟩, by rw [ht9]; exact hP, hD⟩, hS.F ht9⟩) hS.2.2 dX13_function_18
  · have z3 : (0 : Int) ≤ pa.toInt := nlt_z rfl (show (0 : Int32).toInt = (0 : Int) by decide) h1
    refine lv_iload_n hx hb dX13_function_9 rfl (lv_at hl 1 rfl) ?_
    refine lv_aload_n hx hb dX13_function_10 rfl (lv_at hl 0 rfl) ?_
    refine va_get (D := (dC, dI)) (ci := 16) (fs := mF ad (wA v 0 0 0)) (v := .int (v.1 0 74)) (C := RX13) (T := TX13) (N := 124) hx hb ht itX13 hown hK hP 0 rfl rfl 74 (by decide) (ht _ tw_258) (fun _ h9 => h9) rfl dX13_function_11 ?_
    refine lv_icmp_lt (tgt := 19) hx hb dX13_function_14 (by decide) (fun h4 => ?_) (fun h4 => ?_)
    · have z5 : pa.toInt < (v.1 0 74).toInt := lt_z rfl rfl h4
      refine lv_iload_n hx hb dX13_function_19 rfl (lv_at hl 2 rfl) ?_
      refine lv_if_ne (tgt := 32) hx hb dX13_function_20 (by decide) (fun h6 => ?_) (fun h6 => ?_)
      · have z7 : pb.toInt ≠ (0 : Int) := ne_z rfl (show (0 : Int32).toInt = (0 : Int) by decide) h6
        refine lv_iload_n hx hb dX13_function_32 rfl (lv_at hl 2 rfl) ?_
        refine lv_iconst (v := 1) hx hb dX13_function_33 (by decide) ?_
        refine lv_icmp_ne (tgt := 46) hx hb dX13_function_34 (by decide) (fun h8 => ?_) (fun h8 => ?_)
        · have z9 : pb.toInt ≠ (1 : Int) := ne_z rfl (show (1 : Int32).toInt = (1 : Int) by decide) h8
          refine lv_iload_n hx hb dX13_function_46 rfl (lv_at hl 2 rfl) ?_
          refine lv_iconst (v := 2) hx hb dX13_function_47 (by decide) ?_
          refine lv_icmp_ne (tgt := 60) hx hb dX13_function_48 (by decide) (fun h10 => ?_) (fun h10 => ?_)
          · have z11 : pb.toInt ≠ (2 : Int) := ne_z rfl (show (2 : Int32).toInt = (2 : Int) by decide) h10
            refine lv_iload_n hx hb dX13_function_60 rfl (lv_at hl 2 rfl) ?_
            refine lv_iconst (v := 3) hx hb dX13_function_61 (by decide) ?_
            refine lv_icmp_ne (tgt := 74) hx hb dX13_function_62 (by decide) (fun h12 => ?_) (fun h12 => ?_)
            · have z13 : pb.toInt ≠ (3 : Int) := ne_z rfl (show (3 : Int32).toInt = (3 : Int) by decide) h12
              refine lv_iconst (v := -1) hx hb dX13_function_74 (by decide) ?_
              exact W.iret (v := (-1)) hx hb hr (fun t ht9 hW => ⟨⟨(-1), (wA v 0 0 0), rfl, ⟨(FG.f (FG.rf _) 0 (by decide)), ⟨zbf, (Or.inr (⟨z3, (Or.inl ⟨z5, (Or.inl ⟨z7, (Or.inl ⟨z9, (Or.inl ⟨z11, (Or.inl ⟨z13, rfl, rfl⟩)⟩)⟩)⟩)⟩)⟩))⟩⟩, by rw [ht9]; exact hP, hD⟩, hS.F ht9⟩) hS.2.2 dX13_function_75
            · have z14 : pb.toInt = (3 : Int) := eq_z rfl (show (3 : Int32).toInt = (3 : Int) by decide) h12
              refine lv_aload_n hx hb dX13_function_65 rfl (lv_at hl 0 rfl) ?_
              refine va_get (D := (dC, dI)) (ci := 16) (fs := mF ad (wA v 0 0 0)) (v := .ref (ad 83)) (C := RX13) (T := TX13) (N := 124) hx hb ht itX13 hown hK hP 0 rfl rfl 83 (by decide) (ht _ tw_259) (fun _ h9 => h9) rfl dX13_function_66 ?_
              refine lv_iload_n hx hb dX13_function_69 rfl (lv_at hl 1 rfl) ?_
              refine va_iald (D := (dC, dI)) (f := (v.1 83)) hx hb hK hP 43 0 rfl rfl (in_y (a := pa.toInt) (b := 40) rfl (om_51058f7f87 z3) (om_f1d398b2a9 zbf z5) rfl) dX13_function_70 ?_
              refine lv_goto (tgt := 75) hx hb dX13_function_71 (by decide) ?_
              exact W.iret (v := ((v.1 83) pa.toNatClampNeg)) hx hb hr (fun t ht9 hW => ⟨⟨((v.1 83) pa.toNatClampNeg), (wA v 0 0 0), rfl, ⟨(FG.f (FG.rf _) 0 (by decide)), ⟨zbf, (Or.inr (⟨z3, (Or.inl ⟨z5, (Or.inl ⟨z7, (Or.inl ⟨z9, (Or.inl ⟨z11, (Or.inr (⟨z14, rfl, rfl⟩))⟩)⟩)⟩)⟩)⟩))⟩⟩, by rw [ht9]; exact hP, hD⟩, hS.F ht9⟩) hS.2.2 dX13_function_75
          · have z15 : pb.toInt = (2 : Int) := eq_z rfl (show (2 : Int32).toInt = (2 : Int) by decide) h10
            refine lv_aload_n hx hb dX13_function_51 rfl (lv_at hl 0 rfl) ?_
            refine va_get (D := (dC, dI)) (ci := 16) (fs := mF ad (wA v 0 0 0)) (v := .ref (ad 79)) (C := RX13) (T := TX13) (N := 124) hx hb ht itX13 hown hK hP 0 rfl rfl 79 (by decide) (ht _ tw_260) (fun _ h9 => h9) rfl dX13_function_52 ?_
            refine lv_iload_n hx hb dX13_function_55 rfl (lv_at hl 1 rfl) ?_
            refine va_iald (D := (dC, dI)) (f := (v.1 79)) hx hb hK hP 39 0 rfl rfl (in_y (a := pa.toInt) (b := 40) rfl (om_51058f7f87 z3) (om_f1d398b2a9 zbf z5) rfl) dX13_function_56 ?_
            refine lv_goto (tgt := 75) hx hb dX13_function_57 (by decide) ?_
            exact W.iret (v := ((v.1 79) pa.toNatClampNeg)) hx hb hr (fun t ht9 hW => ⟨⟨((v.1 79) pa.toNatClampNeg), (wA v 0 0 0), rfl, ⟨(FG.f (FG.rf _) 0 (by decide)), ⟨zbf, (Or.inr (⟨z3, (Or.inl ⟨z5, (Or.inl ⟨z7, (Or.inl ⟨z9, (Or.inr (⟨z15, rfl, rfl⟩))⟩)⟩)⟩)⟩))⟩⟩, by rw [ht9]; exact hP, hD⟩, hS.F ht9⟩) hS.2.2 dX13_function_75
        · have z16 : pb.toInt = (1 : Int) := eq_z rfl (show (1 : Int32).toInt = (1 : Int) by decide) h8
          refine lv_aload_n hx hb dX13_function_37 rfl (lv_at hl 0 rfl) ?_
          refine va_get (D := (dC, dI)) (ci := 16) (fs := mF ad (wA v 0 0 0)) (v := .ref (ad 80)) (C := RX13) (T := TX13) (N := 124) hx hb ht itX13 hown hK hP 0 rfl rfl 80 (by decide) (ht _ tw_261) (fun _ h9 => h9) rfl dX13_function_38 ?_
          refine lv_iload_n hx hb dX13_function_41 rfl (lv_at hl 1 rfl) ?_
          refine va_iald (D := (dC, dI)) (f := (v.1 80)) hx hb hK hP 40 0 rfl rfl (in_y (a := pa.toInt) (b := 40) rfl (om_51058f7f87 z3) (om_f1d398b2a9 zbf z5) rfl) dX13_function_42 ?_
          refine lv_goto (tgt := 75) hx hb dX13_function_43 (by decide) ?_
          exact W.iret (v := ((v.1 80) pa.toNatClampNeg)) hx hb hr (fun t ht9 hW => ⟨⟨((v.1 80) pa.toNatClampNeg), (wA v 0 0 0), rfl, ⟨(FG.f (FG.rf _) 0 (by decide)), ⟨zbf, (Or.inr (⟨z3, (Or.inl ⟨z5, (Or.inl ⟨z7, (Or.inr (⟨z16, rfl, rfl⟩))⟩)⟩)⟩))⟩⟩, by rw [ht9]; exact hP, hD⟩, hS.F ht9⟩) hS.2.2 dX13_function_75
      · have z17 : pb.toInt = (0 : Int) := eq_z rfl (show (0 : Int32).toInt = (0 : Int) by decide) h6
        refine lv_aload_n hx hb dX13_function_23 rfl (lv_at hl 0 rfl) ?_
        refine va_get (D := (dC, dI)) (ci := 16) (fs := mF ad (wA v 0 0 0)) (v := .ref (ad 78)) (C := RX13) (T := TX13) (N := 124) hx hb ht itX13 hown hK hP 0 rfl rfl 78 (by decide) (ht _ tw_262) (fun _ h9 => h9) rfl dX13_function_24 ?_
        refine lv_iload_n hx hb dX13_function_27 rfl (lv_at hl 1 rfl) ?_
        refine va_iald (D := (dC, dI)) (f := (v.1 78)) hx hb hK hP 38 0 rfl rfl (in_y (a := pa.toInt) (b := 40) rfl (om_51058f7f87 z3) (om_f1d398b2a9 zbf z5) rfl) dX13_function_28 ?_
        refine lv_goto (tgt := 75) hx hb dX13_function_29 (by decide) ?_
        exact W.iret (v := ((v.1 78) pa.toNatClampNeg)) hx hb hr (fun t ht9 hW => ⟨⟨((v.1 78) pa.toNatClampNeg), (wA v 0 0 0), rfl, ⟨(FG.f (FG.rf _) 0 (by decide)), ⟨zbf, (Or.inr (⟨z3, (Or.inl ⟨z5, (Or.inr (⟨z17, rfl, rfl⟩))⟩)⟩))⟩⟩, by rw [ht9]; exact hP, hD⟩, hS.F ht9⟩) hS.2.2 dX13_function_75
    · have z18 : (v.1 0 74).toInt ≤ pa.toInt := nlt_z rfl rfl h4
      refine lv_iconst (v := -1) hx hb dX13_function_17 (by decide) ?_
      exact W.iret (v := (-1)) hx hb hr (fun t ht9 hW => ⟨⟨(-1), (wA v 0 0 0), rfl, ⟨(FG.f (FG.rf _) 0 (by decide)), ⟨zbf, (Or.inr (⟨z3, (Or.inr (⟨z18, rfl, rfl⟩))⟩))⟩⟩, by rw [ht9]; exact hP, hD⟩, hS.F ht9⟩) hS.2.2 dX13_function_18
set_option maxHeartbeats 4000000 in
set_option maxRecDepth 100000 in
theorem c_m_global (l : Launch) (dC : Nat → ClassId) (dI : Nat → Nat → Nat) (cI cB cZ cJ cR : ClassId) (tb : Nat → Nat) (sz : Nat) (ad : Nat → Nat) (N : Nat) (v : MS) (pa : Int32) (pb : Int32) (zbg : 0 ≤ (v.1 0 75).toInt ∧ (v.1 0 75).toInt ≤ 60) : Met l yX13_global (Cond.code yX13_global cX13_global 3 (some .int) :: tw_W) ({ frames := 0, cells := 0, slots := 0, locals := 0 }) (pc_ (dC, dI) (tyS cI cB cZ cJ cR) tb (mW ad N cI cZ cJ v) sz [.ref (ad 0), .int pa, .int pb]) (qi_ (dC, dI) (mW ad N cI cZ cJ v) sz (fun (r : Int32) (u : MS) => FG [0] [0] v u ∧ (Q_m_global v pa pb r u)) (fun (u : MS) => (mW ad N cI cZ cJ u))) 0 0 (va_A (mW ad N cI cZ cJ v) sz) := by
  refine Met.ofW (cc := cX13_global) (maxL := 3) (ret := (some .int)) (by decide) rfl ?_
  intro p e s m args below meth c s₁ B hml hv
  obtain ⟨rfl, hsz, hP, hKK, hD0, hFx⟩ := hv
  have hK := hKK.1
  have hx := B.exec
  have hb := B.bytes
  have hr := B.returns
  have ht : ∀ w ∈ tw_W, w.before _ s = true := fun w h => atoms_spec (ws := Cond.code yX13_global cX13_global 3 (some .int) :: tw_W) B.pre w (List.mem_cons_of_mem _ h)
  have hown : s.vm.findClass RX13 = some m.cls := findClass_of_methodNamed B.named
  have hlocks := B.notSynchronized
  subst hsz
  unfold qi_
  have hD := hD0.self (sz := s.heap.size)
  generalize hAe : va_A (mW ad N cI cZ cJ v) s.heap.size = A at hD hFx ⊢
  have hA : ∀ q : Nat, s.heap.size ≤ q → A q := fun q h => by rw [← hAe]; exact Or.inr h
  have hS : va_S A s.heap s.heap [] := va_S.rf
  have hl := lv_entry ([.ref (ad 0), .int pa, .int pb]) (n := 3) (Nat.le_of_ble_eq_true rfl)
  rw [lg_entry_eq]
  generalize (lg_sl ([.ref (ad 0), .int pa, .int pb]) ++ List.replicate (3 - (lg_sl ([.ref (ad 0), .int pa, .int pb])).length) Slot.unset).toArray = ls at hl ⊢
  have hl : lv_has ls 3 [(0, .ref (ad 0)), (1, .int pa), (2, .int pb)] := hl
  refine lv_aload_n hx hb dX13_global_0 rfl (lv_at hl 0 rfl) ?_
  refine lv_iconst (v := 0) hx hb dX13_global_1 (by decide) ?_
  refine va_put (D := (dC, dI)) (ci := 16) (fs := mF ad v) (v := .int 0) (ty := .int) (C := RX13) (T := TX13) (N := 124) hx hb ht itX13 tyX13 tyX13_ok nmX13 hown hK hP hD hS 0 rfl rfl 0 (by decide) (ht _ tw_246) (fun _ h9 => h9) rfl (by decide +kernel) rfl rfl (Nat.le_of_ble_eq_true rfl) dX13_global_2 (fun H locs hP hD hS => ?_)
  have hP := cP_ (mw_0 ad N cI cZ cJ v 0) hP
  have hD := cD_ (mw_0 ad N cI cZ cJ v 0) hD
  refine lv_iload_n hx hb dX13_global_5 rfl (lv_at hl 1 rfl) ?_
  refine lv_if_lt (tgt := 17) hx hb dX13_global_6 (by decide) (fun h1 => ?_) (fun h1 => ?_)
  · have z2 : pa.toInt < (0 : Int) := lt_z rfl (show (0 : Int32).toInt = (0 : Int) by decide) h1
    refine lv_iconst (v := -1) hx hb dX13_global_17 (by decide) ?_
    exact W.iret (v := (-1)) hx hb hr (fun t ht9 hW => ⟨⟨(-1), (wA v 0 0 0), rfl, ⟨(FG.f (FG.rf _) 0 (by decide)), ⟨zbg, (Or.inl ⟨z2, rfl, rfl⟩)⟩⟩, by rw [ht9]; exact hP, hD⟩, hS.F ht9⟩) hS.2.2 dX13_global_18
  · have z3 : (0 : Int) ≤ pa.toInt := nlt_z rfl (show (0 : Int32).toInt = (0 : Int) by decide) h1
    refine lv_iload_n hx hb dX13_global_9 rfl (lv_at hl 1 rfl) ?_
    refine lv_aload_n hx hb dX13_global_10 rfl (lv_at hl 0 rfl) ?_
    refine va_get (D := (dC, dI)) (ci := 16) (fs := mF ad (wA v 0 0 0)) (v := .int (v.1 0 75)) (C := RX13) (T := TX13) (N := 124) hx hb ht itX13 hown hK hP 0 rfl rfl 75 (by decide) (ht _ tw_263) (fun _ h9 => h9) rfl dX13_global_11 ?_
    refine lv_icmp_lt (tgt := 19) hx hb dX13_global_14 (by decide) (fun h4 => ?_) (fun h4 => ?_)
    · have z5 : pa.toInt < (v.1 0 75).toInt := lt_z rfl rfl h4
      refine lv_iload_n hx hb dX13_global_19 rfl (lv_at hl 2 rfl) ?_
      refine lv_if_ne (tgt := 32) hx hb dX13_global_20 (by decide) (fun h6 => ?_) (fun h6 => ?_)
      · have z7 : pb.toInt ≠ (0 : Int) := ne_z rfl (show (0 : Int32).toInt = (0 : Int) by decide) h6
        refine lv_iload_n hx hb dX13_global_32 rfl (lv_at hl 2 rfl) ?_
        refine lv_iconst (v := 1) hx hb dX13_global_33 (by decide) ?_
        refine lv_icmp_ne (tgt := 55) hx hb dX13_global_34 (by decide) (fun h8 => ?_) (fun h8 => ?_)
        · have z9 : pb.toInt ≠ (1 : Int) := ne_z rfl (show (1 : Int32).toInt = (1 : Int) by decide) h8
          refine lv_iload_n hx hb dX13_global_55 rfl (lv_at hl 2 rfl) ?_
          refine lv_iconst (v := 2) hx hb dX13_global_56 (by decide) ?_
          refine lv_icmp_ne (tgt := 77) hx hb dX13_global_57 (by decide) (fun h10 => ?_) (fun h10 => ?_)
          · have z11 : pb.toInt ≠ (2 : Int) := ne_z rfl (show (2 : Int32).toInt = (2 : Int) by decide) h10
            refine lv_iload_n hx hb dX13_global_77 rfl (lv_at hl 2 rfl) ?_
            refine lv_iconst (v := 3) hx hb dX13_global_78 (by decide) ?_
            refine lv_icmp_ne (tgt := 91) hx hb dX13_global_79 (by decide) (fun h12 => ?_) (fun h12 => ?_)
            · have z13 : pb.toInt ≠ (3 : Int) := ne_z rfl (show (3 : Int32).toInt = (3 : Int) by decide) h12
              refine lv_iconst (v := -1) hx hb dX13_global_91 (by decide) ?_
              exact W.iret (v := (-1)) hx hb hr (fun t ht9 hW => ⟨⟨(-1), (wA v 0 0 0), rfl, ⟨(FG.f (FG.rf _) 0 (by decide)), ⟨zbg, (Or.inr (⟨z3, (Or.inl ⟨z5, (Or.inl ⟨z7, (Or.inl ⟨z9, (Or.inl ⟨z11, (Or.inl ⟨z13, rfl, rfl⟩)⟩)⟩)⟩)⟩)⟩))⟩⟩, by rw [ht9]; exact hP, hD⟩, hS.F ht9⟩) hS.2.2 dX13_global_92
            · have z14 : pb.toInt = (3 : Int) := eq_z rfl (show (3 : Int32).toInt = (3 : Int) by decide) h12
              refine lv_aload_n hx hb dX13_global_82 rfl (lv_at hl 0 rfl) ?_
              refine va_get (D := (dC, dI)) (ci := 16) (fs := mF ad (wA v 0 0 0)) (v := .ref (ad 87)) (C := RX13) (T := TX13) (N := 124) hx hb ht itX13 hown hK hP 0 rfl rfl 87 (by decide) (ht _ tw_264) (fun _ h9 => h9) rfl dX13_global_83 ?_
              refine lv_iload_n hx hb dX13_global_86 rfl (lv_at hl 1 rfl) ?_
              refine va_iald (D := (dC, dI)) (f := (v.1 87)) hx hb hK hP 47 0 rfl rfl (in_y (a := pa.toInt) (b := 60) rfl (om_51058f7f87 z3) (om_f30fc6227d zbg z5) rfl) dX13_global_87 ?_
              refine lv_goto (tgt := 92) hx hb dX13_global_88 (by decide) ?_
              exact W.iret (v := ((v.1 87) pa.toNatClampNeg)) hx hb hr (fun t ht9 hW => ⟨⟨((v.1 87) pa.toNatClampNeg), (wA v 0 0 0), rfl, ⟨(FG.f (FG.rf _) 0 (by decide)), ⟨zbg, (Or.inr (⟨z3, (Or.inl ⟨z5, (Or.inl ⟨z7, (Or.inl ⟨z9, (Or.inl ⟨z11, (Or.inr (⟨z14, rfl, rfl⟩))⟩)⟩)⟩)⟩)⟩))⟩⟩, by rw [ht9]; exact hP, hD⟩, hS.F ht9⟩) hS.2.2 dX13_global_92
          · have z15 : pb.toInt = (2 : Int) := eq_z rfl (show (2 : Int32).toInt = (2 : Int) by decide) h10
            refine lv_aload_n hx hb dX13_global_60 rfl (lv_at hl 0 rfl) ?_
            refine va_get (D := (dC, dI)) (ci := 16) (fs := mF ad (wA v 0 0 0)) (v := .ref (ad 89)) (C := RX13) (T := TX13) (N := 124) hx hb ht itX13 hown hK hP 0 rfl rfl 89 (by decide) (ht _ tw_265) (fun _ h9 => h9) rfl dX13_global_61 ?_
            refine lv_iload_n hx hb dX13_global_64 rfl (lv_at hl 1 rfl) ?_
            refine va_zald (D := (dC, dI)) (f := (v.1 89)) hx hb hK hP 49 2 rfl rfl (in_y (a := pa.toInt) (b := 60) rfl (om_51058f7f87 z3) (om_f30fc6227d zbg z5) rfl) dX13_global_65 ?_
            refine lv_if_eq (tgt := 73) hx hb dX13_global_66 (by decide) (fun h16 => ?_) (fun h16 => ?_)
            · have z17 : ((v.1 89) pa.toNatClampNeg).toInt = (0 : Int) := eq_z rfl (show (0 : Int32).toInt = (0 : Int) by decide) h16
              refine lv_iconst (v := 0) hx hb dX13_global_73 (by decide) ?_
              refine lv_goto (tgt := 92) hx hb dX13_global_74 (by decide) ?_
              exact W.iret (v := 0) hx hb hr (fun t ht9 hW => ⟨⟨0, (wA v 0 0 0), rfl, ⟨(FG.f (FG.rf _) 0 (by decide)), ⟨zbg, (Or.inr (⟨z3, (Or.inl ⟨z5, (Or.inl ⟨z7, (Or.inl ⟨z9, (Or.inr (⟨z15, (Or.inl ⟨z17, rfl, rfl⟩)⟩))⟩)⟩)⟩)⟩))⟩⟩, by rw [ht9]; exact hP, hD⟩, hS.F ht9⟩) hS.2.2 dX13_global_92
            · have z18 : ((v.1 89) pa.toNatClampNeg).toInt ≠ (0 : Int) := ne_z rfl (show (0 : Int32).toInt = (0 : Int) by decide) h16
              refine lv_iconst (v := 1) hx hb dX13_global_69 (by decide) ?_
              refine lv_goto (tgt := 92) hx hb dX13_global_70 (by decide) ?_
              exact W.iret (v := 1) hx hb hr (fun t ht9 hW => ⟨⟨1, (wA v 0 0 0), rfl, ⟨(FG.f (FG.rf _) 0 (by decide)), ⟨zbg, (Or.inr (⟨z3, (Or.inl ⟨z5, (Or.inl ⟨z7, (Or.inl ⟨z9, (Or.inr (⟨z15, (Or.inr (⟨z18, rfl, rfl⟩))⟩))⟩)⟩)⟩)⟩))⟩⟩, by rw [ht9]; exact hP, hD⟩, hS.F ht9⟩) hS.2.2 dX13_global_92
        · have z19 : pb.toInt = (1 : Int) := eq_z rfl (show (1 : Int32).toInt = (1 : Int) by decide) h8
          refine lv_iconst (v := 4) hx hb dX13_global_37 (by decide) ?_
          refine lv_aload_n hx hb dX13_global_38 rfl (lv_at hl 0 rfl) ?_
          refine va_get (D := (dC, dI)) (ci := 16) (fs := mF ad (wA v 0 0 0)) (v := .int (v.1 0 73)) (C := RX13) (T := TX13) (N := 124) hx hb ht itX13 hown hK hP 0 rfl rfl 73 (by decide) (ht _ tw_256) (fun _ h9 => h9) rfl dX13_global_39 ?_
          refine lv_imul hx hb dX13_global_42 ?_
          refine lv_iconst (v := 4) hx hb dX13_global_43 (by decide) ?_
          refine lv_aload_n hx hb dX13_global_44 rfl (lv_at hl 0 rfl) ?_
          refine va_get (D := (dC, dI)) (ci := 16) (fs := mF ad (wA v 0 0 0)) (v := .ref (ad 86)) (C := RX13) (T := TX13) (N := 124) hx hb ht itX13 hown hK hP 0 rfl rfl 86 (by decide) (ht _ tw_266) (fun _ h9 => h9) rfl dX13_global_45 ?_
          refine lv_iload_n hx hb dX13_global_48 rfl (lv_at hl 1 rfl) ?_
          refine va_iald (D := (dC, dI)) (f := (v.1 86)) hx hb hK hP 46 0 rfl rfl (in_y (a := pa.toInt) (b := 60) rfl (om_51058f7f87 z3) (om_f30fc6227d zbg z5) rfl) dX13_global_49 ?_
          refine lv_imul hx hb dX13_global_50 ?_
          refine lv_iadd hx hb dX13_global_51 ?_
          refine lv_goto (tgt := 92) hx hb dX13_global_52 (by decide) ?_
          exact W.iret (v := (((4 : Int32) * (v.1 0 73)) + ((4 : Int32) * ((v.1 86) pa.toNatClampNeg)))) hx hb hr (fun t ht9 hW => ⟨⟨(((4 : Int32) * (v.1 0 73)) + ((4 : Int32) * ((v.1 86) pa.toNatClampNeg))), (wA v 0 0 0), rfl, ⟨(FG.f (FG.rf _) 0 (by decide)), ⟨zbg, (Or.inr (⟨z3, (Or.inl ⟨z5, (Or.inl ⟨z7, (Or.inr (⟨z19, rfl, rfl⟩))⟩)⟩)⟩))⟩⟩, by rw [ht9]; exact hP, hD⟩, hS.F ht9⟩) hS.2.2 dX13_global_92
      · have z20 : pb.toInt = (0 : Int) := eq_z rfl (show (0 : Int32).toInt = (0 : Int) by decide) h6
        refine lv_aload_n hx hb dX13_global_23 rfl (lv_at hl 0 rfl) ?_
        refine va_get (D := (dC, dI)) (ci := 16) (fs := mF ad (wA v 0 0 0)) (v := .ref (ad 85)) (C := RX13) (T := TX13) (N := 124) hx hb ht itX13 hown hK hP 0 rfl rfl 85 (by decide) (ht _ tw_267) (fun _ h9 => h9) rfl dX13_global_24 ?_
        refine lv_iload_n hx hb dX13_global_27 rfl (lv_at hl 1 rfl) ?_
        refine va_iald (D := (dC, dI)) (f := (v.1 85)) hx hb hK hP 45 0 rfl rfl (in_y (a := pa.toInt) (b := 60) rfl (om_51058f7f87 z3) (om_f30fc6227d zbg z5) rfl) dX13_global_28 ?_
        refine lv_goto (tgt := 92) hx hb dX13_global_29 (by decide) ?_
        exact W.iret (v := ((v.1 85) pa.toNatClampNeg)) hx hb hr (fun t ht9 hW => ⟨⟨((v.1 85) pa.toNatClampNeg), (wA v 0 0 0), rfl, ⟨(FG.f (FG.rf _) 0 (by decide)), ⟨zbg, (Or.inr (⟨z3, (Or.inl ⟨z5, (Or.inr (⟨z20, rfl, rfl⟩))⟩)⟩))⟩⟩, by rw [ht9]; exact hP, hD⟩, hS.F ht9⟩) hS.2.2 dX13_global_92
    · have z21 : (v.1 0 75).toInt ≤ pa.toInt := nlt_z rfl rfl h4
      refine lv_iconst (v := -1) hx hb dX13_global_17 (by decide) ?_
      exact W.iret (v := (-1)) hx hb hr (fun t ht9 hW => ⟨⟨(-1), (wA v 0 0 0), rfl, ⟨(FG.f (FG.rf _) 0 (by decide)), ⟨zbg, (Or.inr (⟨z3, (Or.inr (⟨z21, rfl, rfl⟩))⟩))⟩⟩, by rw [ht9]; exact hP, hD⟩, hS.F ht9⟩) hS.2.2 dX13_global_18
theorem om_0ea743d2ed {x0 x1 : Int} (h0 : 0 ≤ x0 ∧ x0 ≤ 4000 ∧ 0 ≤ x1 ∧ x1 ≤ 4000) : -2147483648 ≤ x1 - x0 := by omega
theorem om_5995898e77 {x0 x1 : Int} (h0 : 0 ≤ x0 ∧ x0 ≤ 4000 ∧ 0 ≤ x1 ∧ x1 ≤ 4000) : x1 - x0 < 2147483648 := by omega
theorem om_ea49f82fb2 {x0 : Int} (h0 : 0 ≤ x0 ∧ x0 ≤ 4000) : 0 ≤ (0 : Int) ∧ (0 : Int) ≤ x0 := by omega
theorem om_444be40a37 {x0 x1 x2 : Int} : (0 : Int) = 0 ∨ x0 = x1 - x2 := by omega
theorem om_9e26038ac1 {x0 x1 : Int} (h0 : 0 ≤ x0 ∧ x0 ≤ 4000) (h1 : x1 < x0) : x1 < 4000 := by omega
theorem om_5d5d49fb97 {x0 x1 x2 x3 : Int} (h0 : 0 ≤ x0 ∧ x0 ≤ 4000 ∧ 0 ≤ x1 ∧ x1 ≤ 4000) (h1 : 0 ≤ x2 ∧ x2 ≤ x3) : -2147483648 ≤ x0 + x2 := by omega
theorem om_0ee1344770 {x0 x1 x2 x3 : Int} (h0 : 0 ≤ x0 ∧ x0 ≤ 4000) (h1 : 0 ≤ x1 ∧ x1 ≤ 4000 ∧ 0 ≤ x2 ∧ x2 ≤ 4000) (h2 : 0 ≤ x3 ∧ x3 ≤ x0) : x1 + x3 < 2147483648 := by omega
theorem om_57e6ad3bb2 {x0 x1 x2 x3 : Int} (h0 : 0 ≤ x0 ∧ x0 ≤ 4000 ∧ 0 ≤ x1 ∧ x1 ≤ 4000) (h1 : 0 ≤ x2 ∧ x2 ≤ x3) : 0 ≤ (x0 + x2) := by omega
theorem om_6461b9ec61 {x0 x1 x2 x3 x4 : Int} (h0 : 0 ≤ x0 ∧ x0 ≤ 4000 ∧ 0 ≤ x1 ∧ x1 ≤ 4000) (h1 : x2 ≠ (x1 - x0)) (h2 : x3 = 0 ∨ x2 = x1 - x0) (h3 : x4 < x2) (h4 : x3 ≠ (0 : Int)) : (x0 + x4) < 4000 := by omega
theorem om_acba9f814a {x0 x1 : Int} (h0 : 0 ≤ x0 ∧ x0 ≤ 4000) (h1 : 0 ≤ x1 ∧ x1 ≤ x0) : x1 + (1 : Int) < 2147483648 := by omega
theorem om_f25e8122ae {x0 x1 : Int} (h0 : x0 = x1 + (1 : Int)) : 4000 - x0 < 4000 - x1 := by omega
theorem om_1e8508cb57 {x0 x1 : Int} (h0 : 0 ≤ x0 ∧ x0 ≤ 4000) (h1 : x1 < x0) : 0 < 4000 - x1 := by omega
theorem om_53bf53efa0 {x0 x1 x2 x3 : Int} (h0 : x0 = 0 ∨ x1 = x2 - x3) (h1 : x0 ≠ (0 : Int)) : (1 : Int) = 0 ∨ x1 = x2 - x3 := by omega
theorem om_de2f81701c {x0 x1 x2 : Int} (h0 : x0 = (x1 - x2)) : (1 : Int) = 0 ∨ x0 = x1 - x2 := by omega
theorem om_46cfcb89ea {x0 x1 x2 x3 : Int} (h0 : 0 ≤ x0 ∧ x0 ≤ 4000 ∧ 0 ≤ x1 ∧ x1 ≤ 4000) (h1 : x2 = (x1 - x0)) (h2 : 0 ≤ x3 ∧ x3 ≤ x2) : x0 + x3 < 2147483648 := by omega
theorem om_99302dfc42 {x0 x1 x2 x3 : Int} (h0 : 0 ≤ x0 ∧ x0 ≤ 4000 ∧ 0 ≤ x1 ∧ x1 ≤ 4000) (h1 : x2 = (x1 - x0)) (h2 : x3 < x2) : (x0 + x3) < 4000 := by omega
set_option maxHeartbeats 4000000 in
set_option maxRecDepth 100000 in
theorem c_m_isTape (l : Launch) (dC : Nat → ClassId) (dI : Nat → Nat → Nat) (cI cB cZ cJ cR : ClassId) (tb : Nat → Nat) (sz : Nat) (ad : Nat → Nat) (N : Nat) (v : MS) (pa : Int32) (pb : Int32) (zta : 0 ≤ (v.1 0 2).toInt ∧ (v.1 0 2).toInt ≤ 4000) (zab : 0 ≤ pa.toInt ∧ pa.toInt ≤ 4000 ∧ 0 ≤ pb.toInt ∧ pb.toInt ≤ 4000) : Met l yX13_isTape (Cond.code yX13_isTape cX13_isTape 5 (some .boolean) :: tw_W) ({ frames := 0, cells := 0, slots := 0, locals := 0 }) (pc_ (dC, dI) (tyS cI cB cZ cJ cR) tb (mW ad N cI cZ cJ v) sz [.ref (ad 0), .int pa, .int pb]) (qi_ (dC, dI) (mW ad N cI cZ cJ v) sz (fun (r : Int32) (u : MS) => v = u ∧ (Q_m_isTape v pa pb r) ∧ (r = 0 ∨ r = 1) ∧ 0 ≤ r.toInt ∧ r.toInt ≤ 1) (fun (u : MS) => (mW ad N cI cZ cJ u))) 0 0 (va_A (mW ad N cI cZ cJ v) sz) := by
  refine Met.ofW (cc := cX13_isTape) (maxL := 5) (ret := (some .boolean)) (by decide) rfl ?_
  intro p e s m args below meth c s₁ B hml hv
  obtain ⟨rfl, hsz, hP, hKK, hD0, hFx⟩ := hv
  have hK := hKK.1
  have hx := B.exec
  have hb := B.bytes
  have hr := B.returns
  have ht : ∀ w ∈ tw_W, w.before _ s = true := fun w h => atoms_spec (ws := Cond.code yX13_isTape cX13_isTape 5 (some .boolean) :: tw_W) B.pre w (List.mem_cons_of_mem _ h)
  have hown : s.vm.findClass RX13 = some m.cls := findClass_of_methodNamed B.named
  have hlocks := B.notSynchronized
  subst hsz
  unfold qi_
  have hD := hD0.self (sz := s.heap.size)
  generalize hAe : va_A (mW ad N cI cZ cJ v) s.heap.size = A at hD hFx ⊢
  have hA : ∀ q : Nat, s.heap.size ≤ q → A q := fun q h => by rw [← hAe]; exact Or.inr h
  have hS : va_S A s.heap s.heap [] := va_S.rf
  have hl := lv_entry ([.ref (ad 0), .int pa, .int pb]) (n := 5) (Nat.le_of_ble_eq_true rfl)
  rw [lg_entry_eq]
  generalize (lg_sl ([.ref (ad 0), .int pa, .int pb]) ++ List.replicate (5 - (lg_sl ([.ref (ad 0), .int pa, .int pb])).length) Slot.unset).toArray = ls at hl ⊢
  have hl : lv_has ls 5 [(0, .ref (ad 0)), (1, .int pa), (2, .int pb)] := hl
  refine lv_aload_n hx hb dX13_isTape_0 rfl (lv_at hl 0 rfl) ?_
  refine va_get (D := (dC, dI)) (ci := 16) (fs := mF ad v) (v := .int (v.1 0 2)) (C := RX13) (T := TX13) (N := 124) hx hb ht itX13 hown hK hP 0 rfl rfl 2 (by decide) (ht _ tw_251) (fun _ h9 => h9) rfl dX13_isTape_1 ?_
  refine lv_iload_n hx hb dX13_isTape_4 rfl (lv_at hl 2 rfl) ?_
  refine lv_iload_n hx hb dX13_isTape_5 rfl (lv_at hl 1 rfl) ?_
  refine lv_isub hx hb dX13_isTape_6 ?_
  have z1 : (pb - pa).toInt = pb.toInt - pa.toInt := sub_z rfl rfl (om_0ea743d2ed zab) (om_5995898e77 zab)
  refine lv_icmp_ne (tgt := 14) hx hb dX13_isTape_7 (by decide) (fun h2 => ?_) (fun h2 => ?_)
  · have z3 : (v.1 0 2).toInt ≠ (pb.toInt - pa.toInt) := ne_z rfl z1 h2
    refine lv_iconst (v := 0) hx hb dX13_isTape_14 (by decide) ?_
    refine lv_istore_n (lv' := [(3, .int 0), (0, .ref (ad 0)), (1, .int pa), (2, .int pb)]) hx hb dX13_isTape_15 rfl hl (by decide) rfl (fun ls hl => ?_)
    refine lv_iconst (v := 0) hx hb dX13_isTape_16 (by decide) ?_
    refine lv_istore (lv' := [(4, .int 0), (3, .int 0), (0, .ref (ad 0)), (1, .int pa), (2, .int pb)]) hx hb dX13_isTape_17 hl (by decide) rfl (fun ls hl => ?_)
    refine lpm_ (X := Int32 × Int32) (P := (fun (x9 : Int32 × Int32) (H : Heap) (locs : List Loc) (ls : Array Slot) => (0 ≤ x9.1.toInt ∧ x9.1.toInt ≤ (v.1 0 2).toInt) ∧ (x9.2 = 0 ∨ x9.2 = 1) ∧ (x9.2.toInt = 0 ∨ (v.1 0 2).toInt = pb.toInt - pa.toInt) ∧ (RT (Q_m_isTape_L0 v pa pb) (0, 0) (x9.1, x9.2)) ∧ va_P (dC, dI) vwCl (mW ad N cI cZ cJ v) H ∧ va_D A (mW ad N cI cZ cJ v) ∧ va_S A s.heap H locs ∧ lv_has ls 5 [(4, .int x9.1), (3, .int x9.2), (0, .ref (ad 0)), (1, .int pa), (2, .int pb)])) (fun x9 => (4000 - x9.1.toInt).toNat) 19 (fun x9 H locs ls hh ih19 => ?_) (0, 0) _ _ _ ⟨(show 0 ≤ (0 : Int) ∧ (0 : Int) ≤ (v.1 0 2).toInt from (om_ea49f82fb2 zta)), (show (0 : Int32) = 0 ∨ (0 : Int32) = 1 from (Or.inl rfl)), (show (0 : Int) = 0 ∨ (v.1 0 2).toInt = pb.toInt - pa.toInt from om_444be40a37), RT.rf, hP, hD, hS, lv_sub hl [0, 1, 2, 3, 4] rfl⟩
    obtain ⟨ka, ba⟩ := x9
    obtain ⟨f1L19, f2L19, f3L19, exL19, hP, hD, hS, hl⟩ := hh
    have f1L19 : 0 ≤ ka.toInt ∧ ka.toInt ≤ (v.1 0 2).toInt := f1L19
    have f2L19 : ba = 0 ∨ ba = 1 := f2L19
    have f3L19 : ba.toInt = 0 ∨ (v.1 0 2).toInt = pb.toInt - pa.toInt := f3L19
    have hl : lv_has ls 5 [(4, .int ka), (3, .int ba), (0, .ref (ad 0)), (1, .int pa), (2, .int pb)] := hl
    refine lv_iload hx hb dX13_isTape_19 (lv_at hl 0 rfl) ?_
    refine lv_aload_n hx hb dX13_isTape_21 rfl (lv_at hl 2 rfl) ?_
    refine va_get (D := (dC, dI)) (ci := 16) (fs := mF ad v) (v := .int (v.1 0 2)) (C := RX13) (T := TX13) (N := 124) hx hb ht itX13 hown hK hP 0 rfl rfl 2 (by decide) (ht _ tw_251) (fun _ h9 => h9) rfl dX13_isTape_22 ?_
    refine lv_icmp_ge (tgt := 63) hx hb dX13_isTape_25 (by decide) (fun h4 => ?_) (fun h4 => ?_)
    · have z5 : (v.1 0 2).toInt ≤ ka.toInt := le_z rfl rfl h4
      refine lv_iload_n hx hb dX13_isTape_63 rfl (lv_at hl 1 rfl) ?_
      exact W.zret (v := ba) hx hb hr (bz_ f2L19) (fun t ht9 hW => ⟨⟨ba, v, rfl, ⟨rfl, ⟨zta, zab, (Or.inl ⟨z3, ka, ba, exL19, f1L19, f3L19, (Or.inl ⟨z5, rfl⟩)⟩)⟩, ⟨f2L19, (b01_ f2L19)⟩⟩, by rw [ht9]; exact hP, hD⟩, hS.F ht9⟩) hS.2.2 dX13_isTape_64
    · have z6 : ka.toInt < (v.1 0 2).toInt := nle_z rfl rfl h4
      refine lv_iload_n hx hb dX13_isTape_28 rfl (lv_at hl 1 rfl) ?_
      refine lv_if_eq (tgt := 63) hx hb dX13_isTape_29 (by decide) (fun h7 => ?_) (fun h7 => ?_)
      · have z8 : ba.toInt = (0 : Int) := eq_z rfl (show (0 : Int32).toInt = (0 : Int) by decide) h7
        refine lv_iload_n hx hb dX13_isTape_63 rfl (lv_at hl 1 rfl) ?_
        exact W.zret (v := ba) hx hb hr (bz_ f2L19) (fun t ht9 hW => ⟨⟨ba, v, rfl, ⟨rfl, ⟨zta, zab, (Or.inl ⟨z3, ka, ba, exL19, f1L19, f3L19, (Or.inr (⟨z6, z8, rfl⟩))⟩)⟩, ⟨f2L19, (b01_ f2L19)⟩⟩, by rw [ht9]; exact hP, hD⟩, hS.F ht9⟩) hS.2.2 dX13_isTape_64
      · have z9 : ba.toInt ≠ (0 : Int) := ne_z rfl (show (0 : Int32).toInt = (0 : Int) by decide) h7
        refine lv_aload_n hx hb dX13_isTape_32 rfl (lv_at hl 2 rfl) ?_
        refine va_get (D := (dC, dI)) (ci := 16) (fs := mF ad v) (v := .ref (ad 1)) (C := RX13) (T := TX13) (N := 124) hx hb ht itX13 hown hK hP 0 rfl rfl 1 (by decide) (ht _ tw_250) (fun _ h9 => h9) rfl dX13_isTape_33 ?_
        refine lv_iload hx hb dX13_isTape_36 (lv_at hl 0 rfl) ?_
        refine va_iald (D := (dC, dI)) (f := (v.1 1)) hx hb hK hP 1 0 rfl rfl (in_y (a := ka.toInt) (b := 4000) rfl (om_ac00129bfc f1L19) (om_9e26038ac1 zta z6) rfl) dX13_isTape_38 ?_
        refine lv_aload_n hx hb dX13_isTape_39 rfl (lv_at hl 2 rfl) ?_
        refine va_get (D := (dC, dI)) (ci := 16) (fs := mF ad v) (v := .ref (ad 90)) (C := RX13) (T := TX13) (N := 124) hx hb ht itX13 hown hK hP 0 rfl rfl 90 (by decide) (ht _ tw_268) (fun _ h9 => h9) rfl dX13_isTape_40 ?_
        refine lv_iload_n hx hb dX13_isTape_43 rfl (lv_at hl 3 rfl) ?_
        refine lv_iload hx hb dX13_isTape_44 (lv_at hl 0 rfl) ?_
        refine lv_iadd hx hb dX13_isTape_46 ?_
        have z10 : (pa + ka).toInt = pa.toInt + ka.toInt := add_z rfl rfl (om_5d5d49fb97 zab f1L19) (om_0ee1344770 zta zab f1L19)
        refine va_iald (D := (dC, dI)) (f := (v.1 90)) hx hb hK hP 50 0 rfl rfl (in_y (a := (pa.toInt + ka.toInt)) (b := 4000) z10 (om_57e6ad3bb2 zab f1L19) (om_6461b9ec61 zab z3 f3L19 z6 z9) rfl) dX13_isTape_47 ?_
        refine lv_icmp_ne (tgt := 55) hx hb dX13_isTape_48 (by decide) (fun h11 => ?_) (fun h11 => ?_)
        · have z12 : ((v.1 1) ka.toNatClampNeg).toInt ≠ ((v.1 90) (pa + ka).toNatClampNeg).toInt := ne_z rfl rfl h11
          refine lv_iconst (v := 0) hx hb dX13_isTape_55 (by decide) ?_
          refine lv_istore_n (lv' := [(3, .int 0), (4, .int ka), (0, .ref (ad 0)), (1, .int pa), (2, .int pb)]) hx hb dX13_isTape_56 rfl hl (by decide) rfl (fun ls hl => ?_)
          refine lv_iinc (v := (ka + (1 : Int32))) (lv' := [(4, .int (ka + (1 : Int32))), (3, .int 0), (0, .ref (ad 0)), (1, .int pa), (2, .int pb)]) hx hb dX13_isTape_57 hl (k := 1) rfl (rfl) (by decide) rfl (fun ls hl => ?_)
          have z13 : (ka + (1 : Int32)).toInt = ka.toInt + (1 : Int) := add_z rfl (show (1 : Int32).toInt = (1 : Int) by decide) (om_a8944c555e f1L19) (om_acba9f814a zta f1L19)
          refine lv_goto (tgt := 19) hx hb dX13_isTape_60 (by decide) ?_
          exact ih19 ((ka + (1 : Int32)), 0) _ _ _ (show (4000 - (ka + (1 : Int32)).toInt).toNat < (4000 - ka.toInt).toNat from tn_z (om_f25e8122ae z13) (om_1e8508cb57 zta z6)) ⟨(show 0 ≤ (ka + (1 : Int32)).toInt ∧ (ka + (1 : Int32)).toInt ≤ (v.1 0 2).toInt from (om_ca7f7afb18 f1L19 z6 z13)), (show (0 : Int32) = 0 ∨ (0 : Int32) = 1 from (Or.inl rfl)), (show (0 : Int) = 0 ∨ (v.1 0 2).toInt = pb.toInt - pa.toInt from om_444be40a37), (RT.st exL19 ⟨f1L19, f3L19, z6, z9, (Or.inl ⟨z12, rfl⟩)⟩), hP, hD, hS, lv_sub hl [0, 1, 2, 3, 4] rfl⟩
        · have z14 : ((v.1 1) ka.toNatClampNeg).toInt = ((v.1 90) (pa + ka).toNatClampNeg).toInt := eq_z rfl rfl h11
          refine lv_iconst (v := 1) hx hb dX13_isTape_51 (by decide) ?_
          refine lv_goto (tgt := 56) hx hb dX13_isTape_52 (by decide) ?_
          refine lv_istore_n (lv' := [(3, .int 1), (4, .int ka), (0, .ref (ad 0)), (1, .int pa), (2, .int pb)]) hx hb dX13_isTape_56 rfl hl (by decide) rfl (fun ls hl => ?_)
          refine lv_iinc (v := (ka + (1 : Int32))) (lv' := [(4, .int (ka + (1 : Int32))), (3, .int 1), (0, .ref (ad 0)), (1, .int pa), (2, .int pb)]) hx hb dX13_isTape_57 hl (k := 1) rfl (rfl) (by decide) rfl (fun ls hl => ?_)
          have z15 : (ka + (1 : Int32)).toInt = ka.toInt + (1 : Int) := add_z rfl (show (1 : Int32).toInt = (1 : Int) by decide) (om_a8944c555e f1L19) (om_acba9f814a zta f1L19)
          refine lv_goto (tgt := 19) hx hb dX13_isTape_60 (by decide) ?_
          exact ih19 ((ka + (1 : Int32)), 1) _ _ _ (show (4000 - (ka + (1 : Int32)).toInt).toNat < (4000 - ka.toInt).toNat from tn_z (om_f25e8122ae z15) (om_1e8508cb57 zta z6)) ⟨(show 0 ≤ (ka + (1 : Int32)).toInt ∧ (ka + (1 : Int32)).toInt ≤ (v.1 0 2).toInt from (om_ca7f7afb18 f1L19 z6 z15)), (show (1 : Int32) = 0 ∨ (1 : Int32) = 1 from (Or.inr rfl)), (show (1 : Int) = 0 ∨ (v.1 0 2).toInt = pb.toInt - pa.toInt from (om_53bf53efa0 f3L19 z9)), (RT.st exL19 ⟨f1L19, f3L19, z6, z9, (Or.inr (⟨z14, rfl⟩))⟩), hP, hD, hS, lv_sub hl [0, 1, 2, 3, 4] rfl⟩
  · have z16 : (v.1 0 2).toInt = (pb.toInt - pa.toInt) := eq_z rfl z1 h2
    refine lv_iconst (v := 1) hx hb dX13_isTape_10 (by decide) ?_
    refine lv_goto (tgt := 15) hx hb dX13_isTape_11 (by decide) ?_
    refine lv_istore_n (lv' := [(3, .int 1), (0, .ref (ad 0)), (1, .int pa), (2, .int pb)]) hx hb dX13_isTape_15 rfl hl (by decide) rfl (fun ls hl => ?_)
    refine lv_iconst (v := 0) hx hb dX13_isTape_16 (by decide) ?_
    refine lv_istore (lv' := [(4, .int 0), (3, .int 1), (0, .ref (ad 0)), (1, .int pa), (2, .int pb)]) hx hb dX13_isTape_17 hl (by decide) rfl (fun ls hl => ?_)
    refine lpm_ (X := Int32 × Int32) (P := (fun (x9 : Int32 × Int32) (H : Heap) (locs : List Loc) (ls : Array Slot) => (0 ≤ x9.1.toInt ∧ x9.1.toInt ≤ (v.1 0 2).toInt) ∧ (x9.2 = 0 ∨ x9.2 = 1) ∧ (x9.2.toInt = 0 ∨ (v.1 0 2).toInt = pb.toInt - pa.toInt) ∧ (RT (Q_m_isTape_L1 v pa pb) (0, 1) (x9.1, x9.2)) ∧ va_P (dC, dI) vwCl (mW ad N cI cZ cJ v) H ∧ va_D A (mW ad N cI cZ cJ v) ∧ va_S A s.heap H locs ∧ lv_has ls 5 [(4, .int x9.1), (3, .int x9.2), (0, .ref (ad 0)), (1, .int pa), (2, .int pb)])) (fun x9 => (4000 - x9.1.toInt).toNat) 19 (fun x9 H locs ls hh ih19 => ?_) (0, 1) _ _ _ ⟨(show 0 ≤ (0 : Int) ∧ (0 : Int) ≤ (v.1 0 2).toInt from (om_ea49f82fb2 zta)), (show (1 : Int32) = 0 ∨ (1 : Int32) = 1 from (Or.inr rfl)), (show (1 : Int) = 0 ∨ (v.1 0 2).toInt = pb.toInt - pa.toInt from (om_de2f81701c z16)), RT.rf, hP, hD, hS, lv_sub hl [0, 1, 2, 3, 4] rfl⟩
    obtain ⟨ka, ba⟩ := x9
    obtain ⟨f1L19, f2L19, f3L19, exL19, hP, hD, hS, hl⟩ := hh
    have f1L19 : 0 ≤ ka.toInt ∧ ka.toInt ≤ (v.1 0 2).toInt := f1L19
    have f2L19 : ba = 0 ∨ ba = 1 := f2L19
    have f3L19 : ba.toInt = 0 ∨ (v.1 0 2).toInt = pb.toInt - pa.toInt := f3L19
    have hl : lv_has ls 5 [(4, .int ka), (3, .int ba), (0, .ref (ad 0)), (1, .int pa), (2, .int pb)] := hl
    refine lv_iload hx hb dX13_isTape_19 (lv_at hl 0 rfl) ?_
    refine lv_aload_n hx hb dX13_isTape_21 rfl (lv_at hl 2 rfl) ?_
    refine va_get (D := (dC, dI)) (ci := 16) (fs := mF ad v) (v := .int (v.1 0 2)) (C := RX13) (T := TX13) (N := 124) hx hb ht itX13 hown hK hP 0 rfl rfl 2 (by decide) (ht _ tw_251) (fun _ h9 => h9) rfl dX13_isTape_22 ?_
    refine lv_icmp_ge (tgt := 63) hx hb dX13_isTape_25 (by decide) (fun h17 => ?_) (fun h17 => ?_)
    · have z18 : (v.1 0 2).toInt ≤ ka.toInt := le_z rfl rfl h17
      refine lv_iload_n hx hb dX13_isTape_63 rfl (lv_at hl 1 rfl) ?_
      exact W.zret (v := ba) hx hb hr (bz_ f2L19) (fun t ht9 hW => ⟨⟨ba, v, rfl, ⟨rfl, ⟨zta, zab, (Or.inr (⟨z16, ka, ba, exL19, f1L19, f3L19, (Or.inl ⟨z18, rfl⟩)⟩))⟩, ⟨f2L19, (b01_ f2L19)⟩⟩, by rw [ht9]; exact hP, hD⟩, hS.F ht9⟩) hS.2.2 dX13_isTape_64
    · have z19 : ka.toInt < (v.1 0 2).toInt := nle_z rfl rfl h17
      refine lv_iload_n hx hb dX13_isTape_28 rfl (lv_at hl 1 rfl) ?_
      refine lv_if_eq (tgt := 63) hx hb dX13_isTape_29 (by decide) (fun h20 => ?_) (fun h20 => ?_)
      · have z21 : ba.toInt = (0 : Int) := eq_z rfl (show (0 : Int32).toInt = (0 : Int) by decide) h20
        refine lv_iload_n hx hb dX13_isTape_63 rfl (lv_at hl 1 rfl) ?_
        exact W.zret (v := ba) hx hb hr (bz_ f2L19) (fun t ht9 hW => ⟨⟨ba, v, rfl, ⟨rfl, ⟨zta, zab, (Or.inr (⟨z16, ka, ba, exL19, f1L19, f3L19, (Or.inr (⟨z19, z21, rfl⟩))⟩))⟩, ⟨f2L19, (b01_ f2L19)⟩⟩, by rw [ht9]; exact hP, hD⟩, hS.F ht9⟩) hS.2.2 dX13_isTape_64
      · have z22 : ba.toInt ≠ (0 : Int) := ne_z rfl (show (0 : Int32).toInt = (0 : Int) by decide) h20
        refine lv_aload_n hx hb dX13_isTape_32 rfl (lv_at hl 2 rfl) ?_
        refine va_get (D := (dC, dI)) (ci := 16) (fs := mF ad v) (v := .ref (ad 1)) (C := RX13) (T := TX13) (N := 124) hx hb ht itX13 hown hK hP 0 rfl rfl 1 (by decide) (ht _ tw_250) (fun _ h9 => h9) rfl dX13_isTape_33 ?_
        refine lv_iload hx hb dX13_isTape_36 (lv_at hl 0 rfl) ?_
        refine va_iald (D := (dC, dI)) (f := (v.1 1)) hx hb hK hP 1 0 rfl rfl (in_y (a := ka.toInt) (b := 4000) rfl (om_ac00129bfc f1L19) (om_9e26038ac1 zta z19) rfl) dX13_isTape_38 ?_
        refine lv_aload_n hx hb dX13_isTape_39 rfl (lv_at hl 2 rfl) ?_
        refine va_get (D := (dC, dI)) (ci := 16) (fs := mF ad v) (v := .ref (ad 90)) (C := RX13) (T := TX13) (N := 124) hx hb ht itX13 hown hK hP 0 rfl rfl 90 (by decide) (ht _ tw_268) (fun _ h9 => h9) rfl dX13_isTape_40 ?_
        refine lv_iload_n hx hb dX13_isTape_43 rfl (lv_at hl 3 rfl) ?_
        refine lv_iload hx hb dX13_isTape_44 (lv_at hl 0 rfl) ?_
        refine lv_iadd hx hb dX13_isTape_46 ?_
        have z23 : (pa + ka).toInt = pa.toInt + ka.toInt := add_z rfl rfl (om_5d5d49fb97 zab f1L19) (om_46cfcb89ea zab z16 f1L19)
        refine va_iald (D := (dC, dI)) (f := (v.1 90)) hx hb hK hP 50 0 rfl rfl (in_y (a := (pa.toInt + ka.toInt)) (b := 4000) z23 (om_57e6ad3bb2 zab f1L19) (om_99302dfc42 zab z16 z19) rfl) dX13_isTape_47 ?_
        refine lv_icmp_ne (tgt := 55) hx hb dX13_isTape_48 (by decide) (fun h24 => ?_) (fun h24 => ?_)
        · have z25 : ((v.1 1) ka.toNatClampNeg).toInt ≠ ((v.1 90) (pa + ka).toNatClampNeg).toInt := ne_z rfl rfl h24
          refine lv_iconst (v := 0) hx hb dX13_isTape_55 (by decide) ?_
          refine lv_istore_n (lv' := [(3, .int 0), (4, .int ka), (0, .ref (ad 0)), (1, .int pa), (2, .int pb)]) hx hb dX13_isTape_56 rfl hl (by decide) rfl (fun ls hl => ?_)
          refine lv_iinc (v := (ka + (1 : Int32))) (lv' := [(4, .int (ka + (1 : Int32))), (3, .int 0), (0, .ref (ad 0)), (1, .int pa), (2, .int pb)]) hx hb dX13_isTape_57 hl (k := 1) rfl (rfl) (by decide) rfl (fun ls hl => ?_)
          have z26 : (ka + (1 : Int32)).toInt = ka.toInt + (1 : Int) := add_z rfl (show (1 : Int32).toInt = (1 : Int) by decide) (om_a8944c555e f1L19) (om_acba9f814a zta f1L19)
          refine lv_goto (tgt := 19) hx hb dX13_isTape_60 (by decide) ?_
          exact ih19 ((ka + (1 : Int32)), 0) _ _ _ (show (4000 - (ka + (1 : Int32)).toInt).toNat < (4000 - ka.toInt).toNat from tn_z (om_f25e8122ae z26) (om_1e8508cb57 zta z19)) ⟨(show 0 ≤ (ka + (1 : Int32)).toInt ∧ (ka + (1 : Int32)).toInt ≤ (v.1 0 2).toInt from (om_ca7f7afb18 f1L19 z19 z26)), (show (0 : Int32) = 0 ∨ (0 : Int32) = 1 from (Or.inl rfl)), (show (0 : Int) = 0 ∨ (v.1 0 2).toInt = pb.toInt - pa.toInt from om_444be40a37), (RT.st exL19 ⟨f1L19, f3L19, z19, z22, (Or.inl ⟨z25, rfl⟩)⟩), hP, hD, hS, lv_sub hl [0, 1, 2, 3, 4] rfl⟩
        · have z27 : ((v.1 1) ka.toNatClampNeg).toInt = ((v.1 90) (pa + ka).toNatClampNeg).toInt := eq_z rfl rfl h24
          refine lv_iconst (v := 1) hx hb dX13_isTape_51 (by decide) ?_
          refine lv_goto (tgt := 56) hx hb dX13_isTape_52 (by decide) ?_
          refine lv_istore_n (lv' := [(3, .int 1), (4, .int ka), (0, .ref (ad 0)), (1, .int pa), (2, .int pb)]) hx hb dX13_isTape_56 rfl hl (by decide) rfl (fun ls hl => ?_)
          refine lv_iinc (v := (ka + (1 : Int32))) (lv' := [(4, .int (ka + (1 : Int32))), (3, .int 1), (0, .ref (ad 0)), (1, .int pa), (2, .int pb)]) hx hb dX13_isTape_57 hl (k := 1) rfl (rfl) (by decide) rfl (fun ls hl => ?_)
          have z28 : (ka + (1 : Int32)).toInt = ka.toInt + (1 : Int) := add_z rfl (show (1 : Int32).toInt = (1 : Int) by decide) (om_a8944c555e f1L19) (om_acba9f814a zta f1L19)
          refine lv_goto (tgt := 19) hx hb dX13_isTape_60 (by decide) ?_
          exact ih19 ((ka + (1 : Int32)), 1) _ _ _ (show (4000 - (ka + (1 : Int32)).toInt).toNat < (4000 - ka.toInt).toNat from tn_z (om_f25e8122ae z28) (om_1e8508cb57 zta z19)) ⟨(show 0 ≤ (ka + (1 : Int32)).toInt ∧ (ka + (1 : Int32)).toInt ≤ (v.1 0 2).toInt from (om_ca7f7afb18 f1L19 z19 z28)), (show (1 : Int32) = 0 ∨ (1 : Int32) = 1 from (Or.inr rfl)), (show (1 : Int) = 0 ∨ (v.1 0 2).toInt = pb.toInt - pa.toInt from (om_de2f81701c z16)), (RT.st exL19 ⟨f1L19, f3L19, z19, z22, (Or.inr (⟨z27, rfl⟩))⟩), hP, hD, hS, lv_sub hl [0, 1, 2, 3, 4] rfl⟩
