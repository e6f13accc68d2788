theorem dX3_init_0 : decode cX3_init 0 = .ok (.aload_n 0, 1) := by decide +kernel
theorem dX3_init_1 : decode cX3_init 1 = .ok (.invokespecial 3, 3) := by decide +kernel
theorem tw_979 : (.methodLink RX3 3 objectInit : Cond) ∈ tw_W := tw_in (t8_1 (List.mem_of_getElem? (i := 48) rfl)) rfl
theorem dX3_init_4 : decode cX3_init 4 = .ok (.aload_n 0, 1) := by decide +kernel
theorem dX3_init_5 : decode cX3_init 5 = .ok (.bipush 64, 2) := by decide +kernel
theorem dX3_init_7 : decode cX3_init 7 = .ok (.newarray .int, 2) := by decide +kernel
theorem dX3_init_9 : decode cX3_init 9 = .ok (.putfield 11, 3) := by decide +kernel
theorem dX3_init_12 : decode cX3_init 12 = .ok (.return_, 1) := by decide +kernel
theorem dX8_init_0 : decode cX8_init 0 = .ok (.aload_n 0, 1) := by decide +kernel
theorem dX8_init_1 : decode cX8_init 1 = .ok (.invokespecial 3, 3) := by decide +kernel
theorem tw_980 : (.methodLink RX8 3 objectInit : Cond) ∈ tw_W := tw_in (t8_1 (List.mem_of_getElem? (i := 66) rfl)) rfl
theorem dX8_init_4 : decode cX8_init 4 = .ok (.aload_n 0, 1) := by decide +kernel
theorem dX8_init_5 : decode cX8_init 5 = .ok (.new 9, 3) := by decide +kernel
theorem tw_981 : (.classLink RX8 9 RJ4 : Cond) ∈ tw_W := tw_in (t8_1 (List.mem_of_getElem? (i := 67) rfl)) rfl
theorem tw_982 : (.instantiable RJ4 4 : Cond) ∈ tw_W := tw_in (t8_1 (List.mem_of_getElem? (i := 68) rfl)) rfl
theorem tw_983 : (.initialized RJ4 : Cond) ∈ tw_W := tw_in (t8_1 (List.mem_of_getElem? (i := 5) rfl)) rfl
theorem itJ4 : ∀ w ∈ wsJ40, w ∈ tw_W := tw_all (by decide +kernel)
theorem dX8_init_8 : decode cX8_init 8 = .ok (.dup, 1) := by decide +kernel
theorem dX8_init_9 : decode cX8_init 9 = .ok (.invokespecial 11, 3) := by decide +kernel
theorem dJ4_init_da8c8_0 : decode cJ4_init_da8c8 0 = .ok (.aload_n 0, 1) := by decide +kernel
theorem dJ4_init_da8c8_1 : decode cJ4_init_da8c8 1 = .ok (.bipush 16, 2) := by decide +kernel
theorem dJ4_init_da8c8_3 : decode cJ4_init_da8c8 3 = .ok (.invokespecial 1, 3) := by decide +kernel
theorem dJ5_init_d00df_0 : decode cJ5_init_d00df 0 = .ok (.aload_n 0, 1) := by decide +kernel
theorem dJ5_init_d00df_1 : decode cJ5_init_d00df 1 = .ok (.invokespecial 3, 3) := by decide +kernel
theorem tw_984 : (.methodLink RJ5 3 objectInit : Cond) ∈ tw_W := tw_in (t8_1 (List.mem_of_getElem? (i := 75) rfl)) rfl
theorem dJ5_init_d00df_4 : decode cJ5_init_d00df 4 = .ok (.getstatic 18, 3) := by decide +kernel
theorem tw_985 : (.fieldLink RJ5 18 "java/lang/String" "COMPACT_STRINGS" "Z" : Cond) ∈ tw_W := tw_in (t8_1 (List.mem_of_getElem? (i := 76) rfl)) rfl
theorem dJ5_init_d00df_7 : decode cJ5_init_d00df 7 = .ok (.ifCond .eq 18, 3) := by decide +kernel
theorem dJ5_init_d00df_10 : decode cJ5_init_d00df 10 = .ok (.aload_n 0, 1) := by decide +kernel
theorem dJ5_init_d00df_11 : decode cJ5_init_d00df 11 = .ok (.iload_n 1, 1) := by decide +kernel
theorem dJ5_init_d00df_12 : decode cJ5_init_d00df 12 = .ok (.newarray .byte, 2) := by decide +kernel
theorem tw_986 : (.arrayClass .byte : Cond) ∈ tw_W := tw_in (t8_1 (List.mem_of_getElem? (i := 99) rfl)) rfl
theorem dJ5_init_d00df_14 : decode cJ5_init_d00df 14 = .ok (.putfield 15, 3) := by decide +kernel
theorem tw_987 : (.fieldLink RJ5 15 "java/lang/AbstractStringBuilder" "value" "[B" : Cond) ∈ tw_W := tw_in (t8_1 (List.mem_of_getElem? (i := 85) rfl)) rfl
theorem dJ5_init_d00df_17 : decode cJ5_init_d00df 17 = .ok (.aload_n 0, 1) := by decide +kernel
theorem dJ5_init_d00df_18 : decode cJ5_init_d00df 18 = .ok (.iconst 0, 1) := by decide +kernel
theorem dJ5_init_d00df_19 : decode cJ5_init_d00df 19 = .ok (.putfield 22, 3) := by decide +kernel
theorem tw_988 : (.fieldLink RJ5 22 "java/lang/AbstractStringBuilder" "coder" "B" : Cond) ∈ tw_W := tw_in (t8_1 (List.mem_of_getElem? (i := 86) rfl)) rfl
theorem dJ5_init_d00df_22 : decode cJ5_init_d00df 22 = .ok (.goto 16, 3) := by decide +kernel
theorem dJ5_init_d00df_38 : decode cJ5_init_d00df 38 = .ok (.return_, 1) := by decide +kernel
theorem tw_989 : (.code yJ5_init_d00df cJ5_init_d00df 2 none : Cond) ∈ tw_W := tw_in (t8_1 (List.mem_of_getElem? (i := 74) rfl)) rfl
theorem tw_990 : (.initialized yJ5_init_d00df.cls : Cond) ∈ tw_W := tw_in (t8_1 (List.mem_of_getElem? (i := 4) rfl)) rfl
theorem tw_991 : (.methodLink RJ4 1 yJ5_init_d00df : Cond) ∈ tw_W := tw_in (t8_1 (List.mem_of_getElem? (i := 72) rfl)) rfl
theorem tw_992 : (.instanceMethod yJ5_init_d00df : Cond) ∈ tw_W := tw_in (t8_1 (List.mem_of_getElem? (i := 73) rfl)) rfl
theorem dJ4_init_da8c8_6 : decode cJ4_init_da8c8 6 = .ok (.return_, 1) := by decide +kernel
theorem tw_993 : (.code yJ4_init_da8c8 cJ4_init_da8c8 1 none : Cond) ∈ tw_W := tw_in (t8_1 (List.mem_of_getElem? (i := 71) rfl)) rfl
theorem tw_994 : (.initialized yJ4_init_da8c8.cls : Cond) ∈ tw_W := tw_in (t8_1 (List.mem_of_getElem? (i := 5) rfl)) rfl
theorem tw_995 : (.methodLink RX8 11 yJ4_init_da8c8 : Cond) ∈ tw_W := tw_in (t8_1 (List.mem_of_getElem? (i := 69) rfl)) rfl
theorem tw_996 : (.instanceMethod yJ4_init_da8c8 : Cond) ∈ tw_W := tw_in (t8_1 (List.mem_of_getElem? (i := 70) rfl)) rfl
theorem dX8_init_12 : decode cX8_init 12 = .ok (.putfield 12, 3) := by decide +kernel
theorem tw_997 : (.fieldLink RX8 12 "PocketCompiler$Shower" "text" "Ljava/lang/StringBuilder;" : Cond) ∈ tw_W := tw_in (t8_1 (List.mem_of_getElem? (i := 100) rfl)) rfl
theorem itX8 : ∀ w ∈ wsX80, w ∈ tw_W := tw_all (by decide +kernel)
theorem dX8_init_15 : decode cX8_init 15 = .ok (.return_, 1) := by decide +kernel
theorem dX9_init_0 : decode cX9_init 0 = .ok (.aload_n 0, 1) := by decide +kernel
theorem dX9_init_1 : decode cX9_init 1 = .ok (.invokespecial 5, 3) := by decide +kernel
theorem tw_998 : (.methodLink RX9 5 objectInit : Cond) ∈ tw_W := tw_in (t8_1 (List.mem_of_getElem? (i := 190) rfl)) rfl
theorem dX9_init_4 : decode cX9_init 4 = .ok (.aload_n 0, 1) := by decide +kernel
theorem dX9_init_5 : decode cX9_init 5 = .ok (.sipush 1503, 3) := by decide +kernel
theorem dX9_init_8 : decode cX9_init 8 = .ok (.newarray .int, 2) := by decide +kernel
theorem dX9_init_10 : decode cX9_init 10 = .ok (.putfield 11, 3) := by decide +kernel
theorem dX9_init_13 : decode cX9_init 13 = .ok (.aload_n 0, 1) := by decide +kernel
theorem dX9_init_14 : decode cX9_init 14 = .ok (.sipush 1503, 3) := by decide +kernel
theorem dX9_init_17 : decode cX9_init 17 = .ok (.newarray .int, 2) := by decide +kernel
theorem dX9_init_19 : decode cX9_init 19 = .ok (.putfield 15, 3) := by decide +kernel
theorem dX9_init_22 : decode cX9_init 22 = .ok (.aload_n 0, 1) := by decide +kernel
theorem dX9_init_23 : decode cX9_init 23 = .ok (.sipush 1503, 3) := by decide +kernel
theorem dX9_init_26 : decode cX9_init 26 = .ok (.newarray .int, 2) := by decide +kernel
theorem dX9_init_28 : decode cX9_init 28 = .ok (.putfield 18, 3) := by decide +kernel
theorem dX9_init_31 : decode cX9_init 31 = .ok (.aload_n 0, 1) := by decide +kernel
theorem dX9_init_32 : decode cX9_init 32 = .ok (.aload_n 1, 1) := by decide +kernel
theorem dX9_init_33 : decode cX9_init 33 = .ok (.putfield 21, 3) := by decide +kernel
theorem dX9_init_36 : decode cX9_init 36 = .ok (.return_, 1) := by decide +kernel
theorem dX1_init_0 : decode cX1_init 0 = .ok (.aload_n 0, 1) := by decide +kernel
theorem dX1_init_1 : decode cX1_init 1 = .ok (.invokespecial 3, 3) := by decide +kernel
theorem tw_999 : (.methodLink RX1 3 objectInit : Cond) ∈ tw_W := tw_in (t8_1 (List.mem_of_getElem? (i := 229) rfl)) rfl
theorem dX1_init_4 : decode cX1_init 4 = .ok (.aload_n 0, 1) := by decide +kernel
theorem dX1_init_5 : decode cX1_init 5 = .ok (.sipush 500, 3) := by decide +kernel
theorem dX1_init_8 : decode cX1_init 8 = .ok (.newarray .int, 2) := by decide +kernel
theorem dX1_init_10 : decode cX1_init 10 = .ok (.putfield 9, 3) := by decide +kernel
theorem dX1_init_13 : decode cX1_init 13 = .ok (.aload_n 0, 1) := by decide +kernel
theorem dX1_init_14 : decode cX1_init 14 = .ok (.sipush 1500, 3) := by decide +kernel
theorem dX1_init_17 : decode cX1_init 17 = .ok (.newarray .int, 2) := by decide +kernel
theorem dX1_init_19 : decode cX1_init 19 = .ok (.putfield 15, 3) := by decide +kernel
theorem dX1_init_22 : decode cX1_init 22 = .ok (.aload_n 0, 1) := by decide +kernel
theorem dX1_init_23 : decode cX1_init 23 = .ok (.sipush 501, 3) := by decide +kernel
theorem dX1_init_26 : decode cX1_init 26 = .ok (.newarray .int, 2) := by decide +kernel
theorem dX1_init_28 : decode cX1_init 28 = .ok (.putfield 18, 3) := by decide +kernel
theorem dX1_init_31 : decode cX1_init 31 = .ok (.aload_n 0, 1) := by decide +kernel
theorem dX1_init_32 : decode cX1_init 32 = .ok (.sipush 501, 3) := by decide +kernel
theorem dX1_init_35 : decode cX1_init 35 = .ok (.newarray .int, 2) := by decide +kernel
theorem dX1_init_37 : decode cX1_init 37 = .ok (.putfield 21, 3) := by decide +kernel
theorem dX1_init_40 : decode cX1_init 40 = .ok (.aload_n 0, 1) := by decide +kernel
theorem dX1_init_41 : decode cX1_init 41 = .ok (.sipush 501, 3) := by decide +kernel
theorem dX1_init_44 : decode cX1_init 44 = .ok (.newarray .int, 2) := by decide +kernel
theorem dX1_init_46 : decode cX1_init 46 = .ok (.putfield 24, 3) := by decide +kernel
theorem dX1_init_49 : decode cX1_init 49 = .ok (.aload_n 0, 1) := by decide +kernel
theorem dX1_init_50 : decode cX1_init 50 = .ok (.aload_n 1, 1) := by decide +kernel
theorem dX1_init_51 : decode cX1_init 51 = .ok (.putfield 27, 3) := by decide +kernel
theorem dX1_init_54 : decode cX1_init 54 = .ok (.return_, 1) := by decide +kernel
theorem dX2_init_0 : decode cX2_init 0 = .ok (.aload_n 0, 1) := by decide +kernel
theorem dX2_init_1 : decode cX2_init 1 = .ok (.invokespecial 3, 3) := by decide +kernel
theorem tw_1000 : (.methodLink RX2 3 objectInit : Cond) ∈ tw_W := tw_in (t8_2 (List.mem_of_getElem? (i := 37) rfl)) rfl
theorem dX2_init_4 : decode cX2_init 4 = .ok (.aload_n 0, 1) := by decide +kernel
theorem dX2_init_5 : decode cX2_init 5 = .ok (.sipush 420, 3) := by decide +kernel
theorem dX2_init_8 : decode cX2_init 8 = .ok (.newarray .int, 2) := by decide +kernel
theorem dX2_init_10 : decode cX2_init 10 = .ok (.putfield 11, 3) := by decide +kernel
theorem dX2_init_13 : decode cX2_init 13 = .ok (.aload_n 0, 1) := by decide +kernel
theorem dX2_init_14 : decode cX2_init 14 = .ok (.sipush 420, 3) := by decide +kernel
theorem dX2_init_17 : decode cX2_init 17 = .ok (.newarray .int, 2) := by decide +kernel
theorem dX2_init_19 : decode cX2_init 19 = .ok (.putfield 15, 3) := by decide +kernel
theorem dX2_init_22 : decode cX2_init 22 = .ok (.aload_n 0, 1) := by decide +kernel
theorem dX2_init_23 : decode cX2_init 23 = .ok (.aload_n 1, 1) := by decide +kernel
theorem dX2_init_24 : decode cX2_init 24 = .ok (.putfield 18, 3) := by decide +kernel
theorem dX2_init_27 : decode cX2_init 27 = .ok (.aload_n 0, 1) := by decide +kernel
theorem dX2_init_28 : decode cX2_init 28 = .ok (.aload_n 2, 1) := by decide +kernel
theorem dX2_init_29 : decode cX2_init 29 = .ok (.putfield 22, 3) := by decide +kernel
theorem dX2_init_32 : decode cX2_init 32 = .ok (.return_, 1) := by decide +kernel
theorem dX5_init_0 : decode cX5_init 0 = .ok (.aload_n 0, 1) := by decide +kernel
theorem dX5_init_1 : decode cX5_init 1 = .ok (.invokespecial 3, 3) := by decide +kernel
theorem tw_1001 : (.methodLink RX5 3 objectInit : Cond) ∈ tw_W := tw_in (t8_1 (List.mem_of_getElem? (i := 184) rfl)) rfl
theorem dX5_init_4 : decode cX5_init 4 = .ok (.aload_n 0, 1) := by decide +kernel
theorem dX5_init_5 : decode cX5_init 5 = .ok (.aload_n 1, 1) := by decide +kernel
theorem dX5_init_6 : decode cX5_init 6 = .ok (.putfield 9, 3) := by decide +kernel
theorem dX5_init_9 : decode cX5_init 9 = .ok (.aload_n 0, 1) := by decide +kernel
theorem dX5_init_10 : decode cX5_init 10 = .ok (.new 15, 3) := by decide +kernel
theorem tw_1002 : (.classLink RX5 15 RX9 : Cond) ∈ tw_W := tw_in (t8_1 (List.mem_of_getElem? (i := 185) rfl)) rfl
theorem tw_1003 : (.instantiable RX9 10 : Cond) ∈ tw_W := tw_in (t8_1 (List.mem_of_getElem? (i := 186) rfl)) rfl
theorem tw_1004 : (.initialized RX9 : Cond) ∈ tw_W := tw_in (t8_1 (List.mem_of_getElem? (i := 10) rfl)) rfl
theorem dX5_init_13 : decode cX5_init 13 = .ok (.dup, 1) := by decide +kernel
theorem dX5_init_14 : decode cX5_init 14 = .ok (.aload_n 1, 1) := by decide +kernel
theorem dX5_init_15 : decode cX5_init 15 = .ok (.invokespecial 17, 3) := by decide +kernel
theorem tw_1005 : (.code yX9_init cX9_init 2 none : Cond) ∈ tw_W := tw_in (t8_1 (List.mem_of_getElem? (i := 189) rfl)) rfl
theorem tw_1006 : (.initialized yX9_init.cls : Cond) ∈ tw_W := tw_in (t8_1 (List.mem_of_getElem? (i := 10) rfl)) rfl
theorem tw_1007 : (.methodLink RX5 17 yX9_init : Cond) ∈ tw_W := tw_in (t8_1 (List.mem_of_getElem? (i := 187) rfl)) rfl
theorem tw_1008 : (.instanceMethod yX9_init : Cond) ∈ tw_W := tw_in (t8_1 (List.mem_of_getElem? (i := 188) rfl)) rfl
theorem dX5_init_18 : decode cX5_init 18 = .ok (.putfield 20, 3) := by decide +kernel
theorem dX5_init_21 : decode cX5_init 21 = .ok (.aload_n 0, 1) := by decide +kernel
theorem dX5_init_22 : decode cX5_init 22 = .ok (.new 24, 3) := by decide +kernel
theorem tw_1009 : (.classLink RX5 24 RX1 : Cond) ∈ tw_W := tw_in (t8_1 (List.mem_of_getElem? (i := 224) rfl)) rfl
theorem tw_1010 : (.instantiable RX1 12 : Cond) ∈ tw_W := tw_in (t8_1 (List.mem_of_getElem? (i := 225) rfl)) rfl
theorem tw_1011 : (.initialized RX1 : Cond) ∈ tw_W := tw_in (t8_1 (List.mem_of_getElem? (i := 11) rfl)) rfl
theorem dX5_init_25 : decode cX5_init 25 = .ok (.dup, 1) := by decide +kernel
theorem dX5_init_26 : decode cX5_init 26 = .ok (.aload_n 1, 1) := by decide +kernel
theorem dX5_init_27 : decode cX5_init 27 = .ok (.invokespecial 26, 3) := by decide +kernel
theorem tw_1012 : (.code yX1_init cX1_init 2 none : Cond) ∈ tw_W := tw_in (t8_1 (List.mem_of_getElem? (i := 228) rfl)) rfl
theorem tw_1013 : (.initialized yX1_init.cls : Cond) ∈ tw_W := tw_in (t8_1 (List.mem_of_getElem? (i := 11) rfl)) rfl
theorem tw_1014 : (.methodLink RX5 26 yX1_init : Cond) ∈ tw_W := tw_in (t8_1 (List.mem_of_getElem? (i := 226) rfl)) rfl
theorem tw_1015 : (.instanceMethod yX1_init : Cond) ∈ tw_W := tw_in (t8_1 (List.mem_of_getElem? (i := 227) rfl)) rfl
theorem dX5_init_30 : decode cX5_init 30 = .ok (.putfield 27, 3) := by decide +kernel
theorem dX5_init_33 : decode cX5_init 33 = .ok (.aload_n 0, 1) := by decide +kernel
theorem dX5_init_34 : decode cX5_init 34 = .ok (.new 31, 3) := by decide +kernel
theorem tw_1016 : (.classLink RX5 31 RX2 : Cond) ∈ tw_W := tw_in (t8_2 (List.mem_of_getElem? (i := 32) rfl)) rfl
theorem tw_1017 : (.instantiable RX2 5 : Cond) ∈ tw_W := tw_in (t8_2 (List.mem_of_getElem? (i := 33) rfl)) rfl
theorem tw_1018 : (.initialized RX2 : Cond) ∈ tw_W := tw_in (t8_1 (List.mem_of_getElem? (i := 12) rfl)) rfl
theorem dX5_init_37 : decode cX5_init 37 = .ok (.dup, 1) := by decide +kernel
theorem dX5_init_38 : decode cX5_init 38 = .ok (.aload_n 0, 1) := by decide +kernel
theorem dX5_init_39 : decode cX5_init 39 = .ok (.getfield 20, 3) := by decide +kernel
theorem dX5_init_42 : decode cX5_init 42 = .ok (.aload_n 0, 1) := by decide +kernel
theorem dX5_init_43 : decode cX5_init 43 = .ok (.getfield 27, 3) := by decide +kernel
theorem dX5_init_46 : decode cX5_init 46 = .ok (.invokespecial 33, 3) := by decide +kernel
theorem tw_1019 : (.code yX2_init cX2_init 3 none : Cond) ∈ tw_W := tw_in (t8_2 (List.mem_of_getElem? (i := 36) rfl)) rfl
theorem tw_1020 : (.initialized yX2_init.cls : Cond) ∈ tw_W := tw_in (t8_1 (List.mem_of_getElem? (i := 12) rfl)) rfl
theorem tw_1021 : (.methodLink RX5 33 yX2_init : Cond) ∈ tw_W := tw_in (t8_2 (List.mem_of_getElem? (i := 34) rfl)) rfl
theorem tw_1022 : (.instanceMethod yX2_init : Cond) ∈ tw_W := tw_in (t8_2 (List.mem_of_getElem? (i := 35) rfl)) rfl
theorem dX5_init_49 : decode cX5_init 49 = .ok (.putfield 36, 3) := by decide +kernel
theorem dX5_init_52 : decode cX5_init 52 = .ok (.return_, 1) := by decide +kernel
theorem dX0_init_0 : decode cX0_init 0 = .ok (.aload_n 0, 1) := by decide +kernel
theorem dX0_init_1 : decode cX0_init 1 = .ok (.invokespecial 1, 3) := by decide +kernel
theorem tw_1023 : (.methodLink RX0 1 objectInit : Cond) ∈ tw_W := tw_in (t8_2 (List.mem_of_getElem? (i := 82) rfl)) rfl
theorem dX0_init_4 : decode cX0_init 4 = .ok (.aload_n 0, 1) := by decide +kernel
theorem dX0_init_5 : decode cX0_init 5 = .ok (.sipush 3009, 3) := by decide +kernel
theorem dX0_init_8 : decode cX0_init 8 = .ok (.newarray .int, 2) := by decide +kernel
theorem dX0_init_10 : decode cX0_init 10 = .ok (.putfield 9, 3) := by decide +kernel
theorem dX0_init_13 : decode cX0_init 13 = .ok (.aload_n 0, 1) := by decide +kernel
theorem dX0_init_14 : decode cX0_init 14 = .ok (.aload_n 1, 1) := by decide +kernel
theorem dX0_init_15 : decode cX0_init 15 = .ok (.putfield 15, 3) := by decide +kernel
theorem dX0_init_18 : decode cX0_init 18 = .ok (.aload_n 0, 1) := by decide +kernel
theorem dX0_init_19 : decode cX0_init 19 = .ok (.iconst 4, 1) := by decide +kernel
theorem dX0_init_20 : decode cX0_init 20 = .ok (.iload_n 2, 1) := by decide +kernel
theorem dX0_init_21 : decode cX0_init 21 = .ok (.imul, 1) := by decide +kernel
theorem dX0_init_22 : decode cX0_init 22 = .ok (.putfield 19, 3) := by decide +kernel
theorem dX0_init_25 : decode cX0_init 25 = .ok (.return_, 1) := by decide +kernel
theorem dX6_init_0 : decode cX6_init 0 = .ok (.aload_n 0, 1) := by decide +kernel
theorem dX6_init_1 : decode cX6_init 1 = .ok (.invokespecial 3, 3) := by decide +kernel
theorem tw_1024 : (.methodLink RX6 3 objectInit : Cond) ∈ tw_W := tw_in (t8_2 (List.mem_of_getElem? (i := 116) rfl)) rfl
theorem dX6_init_4 : decode cX6_init 4 = .ok (.aload_n 0, 1) := by decide +kernel
theorem dX6_init_5 : decode cX6_init 5 = .ok (.bipush 32, 2) := by decide +kernel
theorem dX6_init_7 : decode cX6_init 7 = .ok (.newarray .int, 2) := by decide +kernel
theorem dX6_init_9 : decode cX6_init 9 = .ok (.putfield 9, 3) := by decide +kernel
theorem dX6_init_12 : decode cX6_init 12 = .ok (.aload_n 0, 1) := by decide +kernel
theorem dX6_init_13 : decode cX6_init 13 = .ok (.sipush 200, 3) := by decide +kernel
theorem dX6_init_16 : decode cX6_init 16 = .ok (.newarray .int, 2) := by decide +kernel
theorem dX6_init_18 : decode cX6_init 18 = .ok (.putfield 15, 3) := by decide +kernel
theorem dX6_init_21 : decode cX6_init 21 = .ok (.aload_n 0, 1) := by decide +kernel
theorem dX6_init_22 : decode cX6_init 22 = .ok (.iload_n 1, 1) := by decide +kernel
theorem dX6_init_23 : decode cX6_init 23 = .ok (.newarray .int, 2) := by decide +kernel
theorem dX6_init_25 : decode cX6_init 25 = .ok (.putfield 18, 3) := by decide +kernel
theorem dX6_init_28 : decode cX6_init 28 = .ok (.aload_n 0, 1) := by decide +kernel
theorem dX6_init_29 : decode cX6_init 29 = .ok (.aload_n 2, 1) := by decide +kernel
theorem dX6_init_30 : decode cX6_init 30 = .ok (.putfield 21, 3) := by decide +kernel
theorem dX6_init_33 : decode cX6_init 33 = .ok (.return_, 1) := by decide +kernel
theorem dX10_init_0 : decode cX10_init 0 = .ok (.aload_n 0, 1) := by decide +kernel
theorem dX10_init_1 : decode cX10_init 1 = .ok (.invokespecial 3, 3) := by decide +kernel
theorem tw_1025 : (.methodLink RX10 3 objectInit : Cond) ∈ tw_W := tw_in (t8_2 (List.mem_of_getElem? (i := 155) rfl)) rfl
theorem dX10_init_4 : decode cX10_init 4 = .ok (.aload_n 0, 1) := by decide +kernel
theorem dX10_init_5 : decode cX10_init 5 = .ok (.sipush 200, 3) := by decide +kernel
theorem dX10_init_8 : decode cX10_init 8 = .ok (.newarray .int, 2) := by decide +kernel
theorem dX10_init_10 : decode cX10_init 10 = .ok (.putfield 9, 3) := by decide +kernel
theorem dX10_init_13 : decode cX10_init 13 = .ok (.aload_n 0, 1) := by decide +kernel
theorem dX10_init_14 : decode cX10_init 14 = .ok (.aload_n 1, 1) := by decide +kernel
theorem dX10_init_15 : decode cX10_init 15 = .ok (.putfield 15, 3) := by decide +kernel
theorem dX10_init_18 : decode cX10_init 18 = .ok (.aload_n 0, 1) := by decide +kernel
theorem dX10_init_19 : decode cX10_init 19 = .ok (.aload_n 3, 1) := by decide +kernel
theorem dX10_init_20 : decode cX10_init 20 = .ok (.putfield 19, 3) := by decide +kernel
theorem dX10_init_23 : decode cX10_init 23 = .ok (.aload_n 0, 1) := by decide +kernel
theorem dX10_init_24 : decode cX10_init 24 = .ok (.iconst 4, 1) := by decide +kernel
theorem dX10_init_25 : decode cX10_init 25 = .ok (.iload_n 2, 1) := by decide +kernel
theorem dX10_init_26 : decode cX10_init 26 = .ok (.imul, 1) := by decide +kernel
theorem dX10_init_27 : decode cX10_init 27 = .ok (.putfield 23, 3) := by decide +kernel
theorem dX10_init_30 : decode cX10_init 30 = .ok (.aload_n 0, 1) := by decide +kernel
theorem dX10_init_31 : decode cX10_init 31 = .ok (.iload_n 2, 1) := by decide +kernel
theorem dX10_init_32 : decode cX10_init 32 = .ok (.newarray .int, 2) := by decide +kernel
theorem dX10_init_34 : decode cX10_init 34 = .ok (.putfield 27, 3) := by decide +kernel
theorem dX10_init_37 : decode cX10_init 37 = .ok (.aload_n 0, 1) := by decide +kernel
theorem dX10_init_38 : decode cX10_init 38 = .ok (.iload_n 2, 1) := by decide +kernel
theorem dX10_init_39 : decode cX10_init 39 = .ok (.newarray .int, 2) := by decide +kernel
theorem dX10_init_41 : decode cX10_init 41 = .ok (.putfield 30, 3) := by decide +kernel
theorem dX10_init_44 : decode cX10_init 44 = .ok (.return_, 1) := by decide +kernel
theorem dX7_init_0 : decode cX7_init 0 = .ok (.aload_n 0, 1) := by decide +kernel
theorem dX7_init_1 : decode cX7_init 1 = .ok (.invokespecial 3, 3) := by decide +kernel
theorem tw_1026 : (.methodLink RX7 3 objectInit : Cond) ∈ tw_W := tw_in (t8_1 (List.mem_of_getElem? (i := 109) rfl)) rfl
theorem dX7_init_4 : decode cX7_init 4 = .ok (.aload_n 0, 1) := by decide +kernel
theorem dX7_init_5 : decode cX7_init 5 = .ok (.sipush 4000, 3) := by decide +kernel
theorem dX7_init_8 : decode cX7_init 8 = .ok (.newarray .int, 2) := by decide +kernel
theorem dX7_init_10 : decode cX7_init 10 = .ok (.putfield 9, 3) := by decide +kernel
theorem dX7_init_13 : decode cX7_init 13 = .ok (.aload_n 0, 1) := by decide +kernel
theorem dX7_init_14 : decode cX7_init 14 = .ok (.bipush 40, 2) := by decide +kernel
theorem dX7_init_16 : decode cX7_init 16 = .ok (.bipush 6, 2) := by decide +kernel
theorem dX7_init_18 : decode cX7_init 18 = .ok (.multianewarray 15 2, 4) := by decide +kernel
theorem tw_1027 : (.classLink RX7 15 "[[I" : Cond) ∈ tw_W := tw_in (t8_1 (List.mem_of_getElem? (i := 110) rfl)) rfl
theorem dX7_init_22 : decode cX7_init 22 = .ok (.putfield 17, 3) := by decide +kernel
theorem dX7_init_25 : decode cX7_init 25 = .ok (.aload_n 0, 1) := by decide +kernel
theorem dX7_init_26 : decode cX7_init 26 = .ok (.bipush 60, 2) := by decide +kernel
theorem dX7_init_28 : decode cX7_init 28 = .ok (.iconst 5, 1) := by decide +kernel
theorem dX7_init_29 : decode cX7_init 29 = .ok (.multianewarray 15 2, 4) := by decide +kernel
theorem dX7_init_33 : decode cX7_init 33 = .ok (.putfield 20, 3) := by decide +kernel
theorem dX7_init_36 : decode cX7_init 36 = .ok (.aload_n 0, 1) := by decide +kernel
theorem dX7_init_37 : decode cX7_init 37 = .ok (.sipush 3008, 3) := by decide +kernel
theorem dX7_init_40 : decode cX7_init 40 = .ok (.newarray .int, 2) := by decide +kernel
theorem dX7_init_42 : decode cX7_init 42 = .ok (.putfield 23, 3) := by decide +kernel
theorem tw_1028 : (.fieldLink RX7 23 "PocketCompiler$Program" "deeds" "[I" : Cond) ∈ tw_W := tw_in (t8_1 (List.mem_of_getElem? (i := 125) rfl)) rfl
theorem dX7_init_45 : decode cX7_init 45 = .ok (.aload_n 0, 1) := by decide +kernel
theorem dX7_init_46 : decode cX7_init 46 = .ok (.sipush 3008, 3) := by decide +kernel
theorem dX7_init_49 : decode cX7_init 49 = .ok (.newarray .int, 2) := by decide +kernel
theorem dX7_init_51 : decode cX7_init 51 = .ok (.putfield 26, 3) := by decide +kernel
theorem tw_1029 : (.fieldLink RX7 26 "PocketCompiler$Program" "xs" "[I" : Cond) ∈ tw_W := tw_in (t8_1 (List.mem_of_getElem? (i := 129) rfl)) rfl
theorem dX7_init_54 : decode cX7_init 54 = .ok (.aload_n 0, 1) := by decide +kernel
theorem dX7_init_55 : decode cX7_init 55 = .ok (.sipush 3008, 3) := by decide +kernel
theorem dX7_init_58 : decode cX7_init 58 = .ok (.newarray .int, 2) := by decide +kernel
theorem dX7_init_60 : decode cX7_init 60 = .ok (.putfield 29, 3) := by decide +kernel
theorem tw_1030 : (.fieldLink RX7 29 "PocketCompiler$Program" "ys" "[I" : Cond) ∈ tw_W := tw_in (t8_1 (List.mem_of_getElem? (i := 133) rfl)) rfl
theorem dX7_init_63 : decode cX7_init 63 = .ok (.aload_n 0, 1) := by decide +kernel
theorem dX7_init_64 : decode cX7_init 64 = .ok (.iload_n 1, 1) := by decide +kernel
theorem dX7_init_65 : decode cX7_init 65 = .ok (.newarray .int, 2) := by decide +kernel
theorem dX7_init_67 : decode cX7_init 67 = .ok (.putfield 32, 3) := by decide +kernel
theorem dX7_init_70 : decode cX7_init 70 = .ok (.return_, 1) := by decide +kernel
def v0C : MS := (fun _ _ => 0, fun _ => 0)
def prW (ad : Nat → Nat) (N : Nat) (cI cR : ClassId) (L1 L2 : List Nat) (v : MS) : va_W := [(ad 908, .inr (10, oF_X7 ad (fun _ => 0) v)), (ad 372, .inl (cI, 4000, .inl (v.1 372))), (ad 374, .inl (cR, 40, .inr (.inr (.inr (.inr (fun i => L1[i]?)))))), (ad 376, .inl (cR, 60, .inr (.inr (.inr (.inr (fun i => L2[i]?)))))), (ad 378, .inl (cI, 3008, .inl (v.1 378))), (ad 379, .inl (cI, 3008, .inl (v.1 379))), (ad 380, .inl (cI, 3008, .inl (v.1 380))), (ad 382, .inl (cI, N, .inl (v.1 382)))] ++ (va_pl L1 (rw1 cI 6 v) ++ va_pl L2 (rw1 cI 5 v))
def prX (h0 q1 q2 q3 q4 q5 q6 q7 : Nat) (L1 L2 : List Nat) (N : Nat) (cI cR : ClassId) : va_W := [(h0, .inr (10, [.ref q1, .int 0, .ref q2, .int 0, .ref q3, .int 0, .ref q4, .ref q5, .ref q6, .int 0, .ref q7, .int 0, .int 0])), (q1, .inl (cI, 4000, .inl (fun _ => 0))), (q2, .inl (cR, 40, .inr (.inr (.inr (.inr (fun i => L1[i]?)))))), (q3, .inl (cR, 60, .inr (.inr (.inr (.inr (fun i => L2[i]?)))))), (q4, .inl (cI, 3008, .inl (fun _ => 0))), (q5, .inl (cI, 3008, .inl (fun _ => 0))), (q6, .inl (cI, 3008, .inl (fun _ => 0))), (q7, .inl (cI, N, .inl (fun _ => 0)))] ++ (va_pl L1 (rw1 cI 6 v0C) ++ va_pl L2 (rw1 cI 5 v0C))
set_option maxHeartbeats 4000000 in
set_option maxRecDepth 100000 in
/-- Gifts -/
theorem c_X3_init (l : Launch) (dC : Nat → ClassId) (dI : Nat → Nat → Nat) (cI cB cZ cJ cR : ClassId) (tb : Nat → Nat) (sz : Nat) (a0_ : Nat)  : Met l yX3_init (Cond.code yX3_init cX3_init 1 none :: tw_W) ({ frames := 1, cells := 1, slots := 64, locals := 12 }) (pc_ (dC, dI) (tyS cI cB cZ cJ cR) tb [(a0_, .inr (7, [.null, .int 0, .int 0]))] sz [.ref a0_]) (qv_ (dC, dI) [(a0_, .inr (7, [.null, .int 0, .int 0]))] sz (fun (u : Nat) => True) (fun (u : Nat) => [(a0_, .inr (7, [.ref u, .int 0, .int 0])), (u, .inl (cI, 64, .inl (fun _ => 0)))])) 1 64 (va_A [(a0_, .inr (7, [.null, .int 0, .int 0]))] sz) := by
  refine Met.ofW (cc := cX3_init) (maxL := 1) (ret := none) (by decide) rfl ?_
  intro p e s m args below meth c s₁ B hml hv
  obtain ⟨rfl, hsz, hP, hKK, hD0, hFx⟩ := hv
  have hK := hKK.1
  have hx := B.exec
  have hb := B.bytes
  have hr := B.returns
  have ht : ∀ w ∈ tw_W, w.before _ s = true := fun w h => atoms_spec (ws := Cond.code yX3_init cX3_init 1 none :: tw_W) B.pre w (List.mem_cons_of_mem _ h)
  have hown : s.vm.findClass RX3 = some m.cls := findClass_of_methodNamed B.named
  have hlocks := B.notSynchronized
  have hin : meth.name = "<init>" := (name_of_methodNamed B.named B.method).1
  subst hsz
  unfold qv_
  have hD := hD0.self (sz := s.heap.size)
  generalize hAe : va_A [(a0_, .inr (7, [.null, .int 0, .int 0]))] s.heap.size = A at hD hFx ⊢
  have hA : ∀ q : Nat, s.heap.size ≤ q → A q := fun q h => by rw [← hAe]; exact Or.inr h
  have hS : va_S A s.heap s.heap [] := va_S.rf
  have hP : va_P (dC, dI) vwCl [(a0_, .inr (7, [.null, .int 0, .int 0]))] s.heap := hP
  have hl := lv_entry ([.ref a0_]) (n := 1) (Nat.le_of_ble_eq_true rfl)
  rw [lg_entry_eq]
  generalize (lg_sl ([.ref a0_]) ++ List.replicate (1 - (lg_sl ([.ref a0_])).length) Slot.unset).toArray = ls at hl ⊢
  have hl : lv_has ls 1 [(0, .ref a0_)] := hl
  refine lv_aload_n hx hb dX3_init_0 rfl (lv_at hl 0 rfl) ?_
  refine W.objInit hx hb hown (ht _ tw_979) (ht _ tw_359) (ht _ tw_360) rfl (by rw [hml]; exact hl.1) rfl dX3_init_1 (Nat.le_of_ble_eq_true rfl) (Nat.le_of_ble_eq_true rfl) ?_
  refine W.eq (g2 := F0 m 4 ls []) rfl ?_
  refine lv_aload_n hx hb dX3_init_4 rfl (lv_at hl 0 rfl) ?_
  refine lv_bipush (v := 64) hx hb dX3_init_5 (by decide) ?_
  refine va_newE (atype := .int) (ty := .int) (a0 := (64, .inl (fun _ => 0))) (cE := cI) hx hb (ht _ tw_361) rfl hK hP hD hS hA 0 rfl (fun _ => rfl) (by decide) (by decide) (by decide) (Nat.le_of_ble_eq_true rfl) (Nat.le_of_ble_eq_true rfl) dX3_init_7 (fun q1 H hP hD hS => ?_)
  have hP : va_P (dC, dI) vwCl [(a0_, .inr (7, [.null, .int 0, .int 0])), (q1, .inl (cI, 64, .inl (fun _ => 0)))] H := hP
  have hD : va_D A [(a0_, .inr (7, [.null, .int 0, .int 0])), (q1, .inl (cI, 64, .inl (fun _ => 0)))] := hD
  refine W.widen (k := 1) (n := 64) (by omega) (by omega) ?_
  refine va_putF (D := (dC, dI)) (ci := 7) (v := .ref q1) (ty := .array .int) (C := RX3) (T := TX3) (N := 3) hx hb ht itX3 tyX3 tyX3_ok nmX3 hown hK hP hD hS 0 rfl rfl 0 (by decide) (ht _ tw_755) (fun _ h9 => h9) rfl hin rfl (by decide +kernel) rfl rfl (Nat.le_of_ble_eq_true rfl) dX3_init_9 (fun H locs hP hD hS => ?_)
  have hP : va_P (dC, dI) vwCl [(a0_, .inr (7, [.ref q1, .int 0, .int 0])), (q1, .inl (cI, 64, .inl (fun _ => 0)))] H := hP
  have hD : va_D A [(a0_, .inr (7, [.ref q1, .int 0, .int 0])), (q1, .inl (cI, 64, .inl (fun _ => 0)))] := hD
  have hP9 := hP.sub (ws' := [(a0_, .inr (7, [.ref q1, .int 0, .int 0])), (q1, .inl (cI, 64, .inl (fun _ => 0)))]) [0, 1] rfl
  have hD9 := hD.sub (ws' := [(a0_, .inr (7, [.ref q1, .int 0, .int 0])), (q1, .inl (cI, 64, .inl (fun _ => 0)))]) [0, 1] (by decide) rfl
  refine W.widen (k := 1) (n := 64) (by omega) (by omega) ?_
  exact W.vret hx hb hr (fun t ht9 hW => ⟨⟨q1, rfl, trivial, by rw [ht9]; exact hP9, hD9⟩, hS.F ht9⟩) hS.2.2 dX3_init_12
set_option maxHeartbeats 4000000 in
set_option maxRecDepth 100000 in
theorem c_J5_init_d00df (l : Launch) (dC : Nat → ClassId) (dI : Nat → Nat → Nat) (cI cB cZ cJ cR : ClassId) (tb : Nat → Nat) (sz : Nat) (a0_ : Nat)  : Met l yJ5_init_d00df (Cond.code yJ5_init_d00df cJ5_init_d00df 2 none :: tw_W) ({ frames := 1, cells := 1, slots := 16, locals := 12 }) (pc_ (dC, dI) (tyS cI cB cZ cJ cR) tb [(a0_, .inr (1, [.null, .int 0, .int 0, .int 0]))] sz [.ref a0_, .int 16]) (qv_ (dC, dI) [(a0_, .inr (1, [.null, .int 0, .int 0, .int 0]))] sz (fun (u : Nat) => True) (fun (u : Nat) => [(a0_, .inr (1, [.ref u, .int 0, .int 0, .int 0])), (u, .inl (cB, 16, .inl (fun _ => 0)))])) 1 16 (va_A [(a0_, .inr (1, [.null, .int 0, .int 0, .int 0]))] sz) := by
  refine Met.ofW (cc := cJ5_init_d00df) (maxL := 2) (ret := none) (by decide) rfl ?_
  intro p e s m args below meth c s₁ B hml hv
  obtain ⟨rfl, hsz, hP, hKK, hD0, hFx⟩ := hv
  have hK := hKK.1
  have hx := B.exec
  have hb := B.bytes
  have hr := B.returns
  have ht : ∀ w ∈ tw_W, w.before _ s = true := fun w h => atoms_spec (ws := Cond.code yJ5_init_d00df cJ5_init_d00df 2 none :: tw_W) B.pre w (List.mem_cons_of_mem _ h)
  have hown : s.vm.findClass RJ5 = some m.cls := findClass_of_methodNamed B.named
  have hlocks := B.notSynchronized
  have hin : meth.name = "<init>" := (name_of_methodNamed B.named B.method).1
  subst hsz
  unfold qv_
  have hD := hD0.self (sz := s.heap.size)
  generalize hAe : va_A [(a0_, .inr (1, [.null, .int 0, .int 0, .int 0]))] s.heap.size = A at hD hFx ⊢
  have hA : ∀ q : Nat, s.heap.size ≤ q → A q := fun q h => by rw [← hAe]; exact Or.inr h
  have hS : va_S A s.heap s.heap [] := va_S.rf
  have hP : va_P (dC, dI) vwCl [(a0_, .inr (1, [.null, .int 0, .int 0, .int 0]))] s.heap := hP
  have hl := lv_entry ([.ref a0_, .int 16]) (n := 2) (Nat.le_of_ble_eq_true rfl)
  rw [lg_entry_eq]
  generalize (lg_sl ([.ref a0_, .int 16]) ++ List.replicate (2 - (lg_sl ([.ref a0_, .int 16])).length) Slot.unset).toArray = ls at hl ⊢
  have hl : lv_has ls 2 [(0, .ref a0_), (1, .int 16)] := hl
  refine lv_aload_n hx hb dJ5_init_d00df_0 rfl (lv_at hl 0 rfl) ?_
  refine W.objInit hx hb hown (ht _ tw_984) (ht _ tw_359) (ht _ tw_360) rfl (by rw [hml]; exact hl.1) rfl dJ5_init_d00df_1 (Nat.le_of_ble_eq_true rfl) (Nat.le_of_ble_eq_true rfl) ?_
  refine W.eq (g2 := F0 m 4 ls []) rfl ?_
  refine va_gets hx hb hFx.1 hS hown (ht _ tw_985) (fun _ h9 => h9) dJ5_init_d00df_4 ?_
  refine lv_if_eq (tgt := 25) hx hb dJ5_init_d00df_7 (by decide) (fun k1 => absurd k1 (by decide)) (fun _ => ?_)
  refine lv_aload_n hx hb dJ5_init_d00df_10 rfl (lv_at hl 0 rfl) ?_
  refine lv_iload_n hx hb dJ5_init_d00df_11 rfl (lv_at hl 1 rfl) ?_
  refine va_newE (atype := .byte) (ty := .byte) (a0 := (16, .inl (fun _ => 0))) (cE := cB) hx hb (ht _ tw_986) rfl hK hP hD hS hA 1 rfl (fun _ => rfl) (by decide) (by decide) (by decide) (Nat.le_of_ble_eq_true rfl) (Nat.le_of_ble_eq_true rfl) dJ5_init_d00df_12 (fun q2 H hP hD hS => ?_)
  have hP : va_P (dC, dI) vwCl [(a0_, .inr (1, [.null, .int 0, .int 0, .int 0])), (q2, .inl (cB, 16, .inl (fun _ => 0)))] H := hP
  have hD : va_D A [(a0_, .inr (1, [.null, .int 0, .int 0, .int 0])), (q2, .inl (cB, 16, .inl (fun _ => 0)))] := hD
  refine W.widen (k := 1) (n := 16) (by omega) (by omega) ?_
  refine va_put (D := (dC, dI)) (ci := 1) (v := .ref q2) (ty := .array .byte) (C := RJ4) (T := TJ4) (N := 4) hx hb ht itJ4 tyJ4 tyJ4_ok nmJ4 hown hK hP hD hS 0 rfl rfl 0 (by decide) (ht _ tw_987) (fun _ h9 => h9) rfl (by decide +kernel) rfl rfl (Nat.le_of_ble_eq_true rfl) dJ5_init_d00df_14 (fun H locs hP hD hS => ?_)
  have hP : va_P (dC, dI) vwCl [(a0_, .inr (1, [.ref q2, .int 0, .int 0, .int 0])), (q2, .inl (cB, 16, .inl (fun _ => 0)))] H := hP
  have hD : va_D A [(a0_, .inr (1, [.ref q2, .int 0, .int 0, .int 0])), (q2, .inl (cB, 16, .inl (fun _ => 0)))] := hD
  refine lv_aload_n hx hb dJ5_init_d00df_17 rfl (lv_at hl 0 rfl) ?_
  refine lv_iconst (v := 0) hx hb dJ5_init_d00df_18 (by decide) ?_
  refine va_put (D := (dC, dI)) (ci := 1) (v := .int 0) (ty := .byte) (C := RJ4) (T := TJ4) (N := 4) hx hb ht itJ4 tyJ4 tyJ4_ok nmJ4 hown hK hP hD hS 0 rfl rfl 1 (by decide) (ht _ tw_988) (fun _ h9 => h9) rfl (by decide +kernel) rfl rfl (Nat.le_of_ble_eq_true rfl) dJ5_init_d00df_19 (fun H locs hP hD hS => ?_)
  have hP : va_P (dC, dI) vwCl [(a0_, .inr (1, [.ref q2, .int 0, .int 0, .int 0])), (q2, .inl (cB, 16, .inl (fun _ => 0)))] H := hP
  have hD : va_D A [(a0_, .inr (1, [.ref q2, .int 0, .int 0, .int 0])), (q2, .inl (cB, 16, .inl (fun _ => 0)))] := hD
  refine lv_goto (tgt := 38) hx hb dJ5_init_d00df_22 (by decide) ?_
  have hP9 := hP.sub (ws' := [(a0_, .inr (1, [.ref q2, .int 0, .int 0, .int 0])), (q2, .inl (cB, 16, .inl (fun _ => 0)))]) [0, 1] rfl
  have hD9 := hD.sub (ws' := [(a0_, .inr (1, [.ref q2, .int 0, .int 0, .int 0])), (q2, .inl (cB, 16, .inl (fun _ => 0)))]) [0, 1] (by decide) rfl
  refine W.widen (k := 1) (n := 16) (by omega) (by omega) ?_
  exact W.vret hx hb hr (fun t ht9 hW => ⟨⟨q2, rfl, trivial, by rw [ht9]; exact hP9, hD9⟩, hS.F ht9⟩) hS.2.2 dJ5_init_d00df_38
set_option maxHeartbeats 4000000 in
set_option maxRecDepth 100000 in
theorem c_J4_init_da8c8 (l : Launch) (dC : Nat → ClassId) (dI : Nat → Nat → Nat) (cI cB cZ cJ cR : ClassId) (tb : Nat → Nat) (sz : Nat) (a0_ : Nat)  : Met l yJ4_init_da8c8 (Cond.code yJ4_init_da8c8 cJ4_init_da8c8 1 none :: tw_W) ({ frames := 2, cells := 1, slots := 16, locals := 33 }) (pc_ (dC, dI) (tyS cI cB cZ cJ cR) tb [(a0_, .inr (1, [.null, .int 0, .int 0, .int 0]))] sz [.ref a0_]) (qv_ (dC, dI) [(a0_, .inr (1, [.null, .int 0, .int 0, .int 0]))] sz (fun (u : Nat) => True) (fun (u : Nat) => [(a0_, .inr (1, [.ref u, .int 0, .int 0, .int 0])), (u, .inl (cB, 16, .inl (fun _ => 0)))])) 1 16 (va_A [(a0_, .inr (1, [.null, .int 0, .int 0, .int 0]))] sz) := by
  refine Met.ofW (cc := cJ4_init_da8c8) (maxL := 1) (ret := none) (by decide) rfl ?_
  intro p e s m args below meth c s₁ B hml hv
  obtain ⟨rfl, hsz, hP, hKK, hD0, hFx⟩ := hv
  have hK := hKK.1
  have hx := B.exec
  have hb := B.bytes
  have hr := B.returns
  have ht : ∀ w ∈ tw_W, w.before _ s = true := fun w h => atoms_spec (ws := Cond.code yJ4_init_da8c8 cJ4_init_da8c8 1 none :: tw_W) B.pre w (List.mem_cons_of_mem _ h)
  have hown : s.vm.findClass RJ4 = some m.cls := findClass_of_methodNamed B.named
  have hlocks := B.notSynchronized
  have hin : meth.name = "<init>" := (name_of_methodNamed B.named B.method).1
  subst hsz
  unfold qv_
  have hD := hD0.self (sz := s.heap.size)
  generalize hAe : va_A [(a0_, .inr (1, [.null, .int 0, .int 0, .int 0]))] s.heap.size = A at hD hFx ⊢
  have hA : ∀ q : Nat, s.heap.size ≤ q → A q := fun q h => by rw [← hAe]; exact Or.inr h
  have hS : va_S A s.heap s.heap [] := va_S.rf
  have hP : va_P (dC, dI) vwCl [(a0_, .inr (1, [.null, .int 0, .int 0, .int 0]))] s.heap := hP
  have hl := lv_entry ([.ref a0_]) (n := 1) (Nat.le_of_ble_eq_true rfl)
  rw [lg_entry_eq]
  generalize (lg_sl ([.ref a0_]) ++ List.replicate (1 - (lg_sl ([.ref a0_])).length) Slot.unset).toArray = ls at hl ⊢
  have hl : lv_has ls 1 [(0, .ref a0_)] := hl
  refine lv_aload_n hx hb dJ4_init_da8c8_0 rfl (lv_at hl 0 rfl) ?_
  refine lv_bipush (v := 16) hx hb dJ4_init_da8c8_1 (by decide) ?_
  refine ca_v (wr := []) (rn_I (n := 1) (As := [.int 16]) (rest := []) hx hb hml hown ht hKK hFx hP hD hS hA (c_J5_init_d00df l dC dI cI cB cZ cJ cR tb s.heap.size a0_) tw_989 tw_990 tw_991 tw_992 rfl (by decide +kernel) rfl rfl ⟨Nat.le_of_ble_eq_true rfl, Nat.le_of_ble_eq_true rfl⟩ [0] rfl (by decide) rfl hl.1 rfl (Nat.le_of_ble_eq_true rfl) dJ4_init_da8c8_3 ⟨Nat.le_of_ble_eq_true rfl, Nat.le_of_ble_eq_true rfl⟩) hP hD hS hA (isC := [0]) (isR := []) rfl rfl (by decide) (by decide) (fun u H locs hw1 hP hD hS => ?_)
  obtain ⟨q2, hq9⟩ : ∃ z, z = u := ⟨_, rfl⟩
  subst hq9
  have hP : va_P (dC, dI) vwCl [(a0_, .inr (1, [.ref q2, .int 0, .int 0, .int 0])), (q2, .inl (cB, 16, .inl (fun _ => 0)))] H := hP
  have hD : va_D A [(a0_, .inr (1, [.ref q2, .int 0, .int 0, .int 0])), (q2, .inl (cB, 16, .inl (fun _ => 0)))] := hD
  refine W.widen (k := 1) (n := 16) (by omega) (by omega) ?_
  have hP9 := hP.sub (ws' := [(a0_, .inr (1, [.ref q2, .int 0, .int 0, .int 0])), (q2, .inl (cB, 16, .inl (fun _ => 0)))]) [0, 1] rfl
  have hD9 := hD.sub (ws' := [(a0_, .inr (1, [.ref q2, .int 0, .int 0, .int 0])), (q2, .inl (cB, 16, .inl (fun _ => 0)))]) [0, 1] (by decide) rfl
  refine W.widen (k := 1) (n := 16) (by omega) (by omega) ?_
  exact W.vret hx hb hr (fun t ht9 hW => ⟨⟨q2, rfl, trivial, by rw [ht9]; exact hP9, hD9⟩, hS.F ht9⟩) hS.2.2 dJ4_init_da8c8_6
set_option maxHeartbeats 4000000 in
set_option maxRecDepth 100000 in
/-- Shower -/
theorem c_X8_init (l : Launch) (dC : Nat → ClassId) (dI : Nat → Nat → Nat) (cI cB cZ cJ cR : ClassId) (tb : Nat → Nat) (sz : Nat) (a0_ : Nat)  : Met l yX8_init (Cond.code yX8_init cX8_init 1 none :: tw_W) ({ frames := 3, cells := 2, slots := 20, locals := 53 }) (pc_ (dC, dI) (tyS cI cB cZ cJ cR) tb [(a0_, .inr (11, [.null]))] sz [.ref a0_]) (qv_ (dC, dI) [(a0_, .inr (11, [.null]))] sz (fun (u : Nat × Nat) => True) (fun (u : Nat × Nat) => [(a0_, .inr (11, [.ref u.1])), (u.1, .inr (1, [.ref u.2, .int 0, .int 0, .int 0])), (u.2, .inl (cB, 16, .inl (fun _ => 0)))])) 2 20 (va_A [(a0_, .inr (11, [.null]))] sz) := by
  refine Met.ofW (cc := cX8_init) (maxL := 1) (ret := none) (by decide) rfl ?_
  intro p e s m args below meth c s₁ B hml hv
  obtain ⟨rfl, hsz, hP, hKK, hD0, hFx⟩ := hv
  have hK := hKK.1
  have hx := B.exec
  have hb := B.bytes
  have hr := B.returns
  have ht : ∀ w ∈ tw_W, w.before _ s = true := fun w h => atoms_spec (ws := Cond.code yX8_init cX8_init 1 none :: tw_W) B.pre w (List.mem_cons_of_mem _ h)
  have hown : s.vm.findClass RX8 = some m.cls := findClass_of_methodNamed B.named
  have hlocks := B.notSynchronized
  have hin : meth.name = "<init>" := (name_of_methodNamed B.named B.method).1
  subst hsz
  unfold qv_
  have hD := hD0.self (sz := s.heap.size)
  generalize hAe : va_A [(a0_, .inr (11, [.null]))] s.heap.size = A at hD hFx ⊢
  have hA : ∀ q : Nat, s.heap.size ≤ q → A q := fun q h => by rw [← hAe]; exact Or.inr h
  have hS : va_S A s.heap s.heap [] := va_S.rf
  have hP : va_P (dC, dI) vwCl [(a0_, .inr (11, [.null]))] s.heap := hP
  have hl := lv_entry ([.ref a0_]) (n := 1) (Nat.le_of_ble_eq_true rfl)
  rw [lg_entry_eq]
  generalize (lg_sl ([.ref a0_]) ++ List.replicate (1 - (lg_sl ([.ref a0_])).length) Slot.unset).toArray = ls at hl ⊢
  have hl : lv_has ls 1 [(0, .ref a0_)] := hl
  refine lv_aload_n hx hb dX8_init_0 rfl (lv_at hl 0 rfl) ?_
  refine W.objInit hx hb hown (ht _ tw_980) (ht _ tw_359) (ht _ tw_360) rfl (by rw [hml]; exact hl.1) rfl dX8_init_1 (Nat.le_of_ble_eq_true rfl) (Nat.le_of_ble_eq_true rfl) ?_
  refine W.eq (g2 := F0 m 4 ls []) rfl ?_
  refine lv_aload_n hx hb dX8_init_4 rfl (lv_at hl 0 rfl) ?_
  refine va_new (ci := 1) (fs := [.null, .int 0, .int 0, .int 0]) (C := RJ4) (T := TJ4) (N := 4) hx hb ht itJ4 tyJ4 tyJ4_ok hown (ht _ tw_981) (ht _ tw_982) (ht _ tw_983) hK hP hD hS hA rfl (by decide +kernel) (Nat.le_of_ble_eq_true rfl) (Nat.le_of_ble_eq_true rfl) dX8_init_5 (fun q1 H hP hD hS => ?_)
  have hP : va_P (dC, dI) vwCl [(a0_, .inr (11, [.null])), (q1, .inr (1, [.null, .int 0, .int 0, .int 0]))] H := hP
  have hD : va_D A [(a0_, .inr (11, [.null])), (q1, .inr (1, [.null, .int 0, .int 0, .int 0]))] := hD
  refine W.widen (k := 1) (n := 4) (by omega) (by omega) ?_
  refine lv_dup hx hb dX8_init_8 rfl ?_
  refine ca_v (wr := [(a0_, .inr (11, [.null]))]) (rn_I (n := 0) (As := []) (rest := [.ref q1, .ref a0_]) hx hb hml hown ht hKK hFx hP hD hS hA (c_J4_init_da8c8 l dC dI cI cB cZ cJ cR tb H.size q1) tw_993 tw_994 tw_995 tw_996 rfl (by decide +kernel) rfl rfl ⟨Nat.le_of_ble_eq_true rfl, Nat.le_of_ble_eq_true rfl⟩ [1] rfl (by decide) rfl hl.1 rfl (Nat.le_of_ble_eq_true rfl) dX8_init_9 ⟨Nat.le_of_ble_eq_true rfl, Nat.le_of_ble_eq_true rfl⟩) hP hD hS hA (isC := [1]) (isR := [0]) rfl rfl (by decide) (by decide) (fun u H locs hw2 hP hD hS => ?_)
  obtain ⟨q3, hq9⟩ : ∃ z, z = u := ⟨_, rfl⟩
  subst hq9
  have hP : va_P (dC, dI) vwCl [(a0_, .inr (11, [.null])), (q1, .inr (1, [.ref q3, .int 0, .int 0, .int 0])), (q3, .inl (cB, 16, .inl (fun _ => 0)))] H := hP
  have hD : va_D A [(a0_, .inr (11, [.null])), (q1, .inr (1, [.ref q3, .int 0, .int 0, .int 0])), (q3, .inl (cB, 16, .inl (fun _ => 0)))] := hD
  refine W.widen (k := 2) (n := 20) (by omega) (by omega) ?_
  refine va_putF (D := (dC, dI)) (ci := 11) (v := .ref q1) (ty := .object "java/lang/StringBuilder") (C := RX8) (T := TX8) (N := 1) hx hb ht itX8 tyX8 tyX8_ok nmX8 hown hK hP hD hS 0 rfl rfl 0 (by decide) (ht _ tw_997) (fun _ h9 => h9) rfl hin rfl (by decide +kernel) rfl rfl (Nat.le_of_ble_eq_true rfl) dX8_init_12 (fun H locs hP hD hS => ?_)
  have hP : va_P (dC, dI) vwCl [(a0_, .inr (11, [.ref q1])), (q1, .inr (1, [.ref q3, .int 0, .int 0, .int 0])), (q3, .inl (cB, 16, .inl (fun _ => 0)))] H := hP
  have hD : va_D A [(a0_, .inr (11, [.ref q1])), (q1, .inr (1, [.ref q3, .int 0, .int 0, .int 0])), (q3, .inl (cB, 16, .inl (fun _ => 0)))] := hD
  have hP9 := hP.sub (ws' := [(a0_, .inr (11, [.ref q1])), (q1, .inr (1, [.ref q3, .int 0, .int 0, .int 0])), (q3, .inl (cB, 16, .inl (fun _ => 0)))]) [0, 1, 2] rfl
  have hD9 := hD.sub (ws' := [(a0_, .inr (11, [.ref q1])), (q1, .inr (1, [.ref q3, .int 0, .int 0, .int 0])), (q3, .inl (cB, 16, .inl (fun _ => 0)))]) [0, 1, 2] (by decide) rfl
  refine W.widen (k := 2) (n := 20) (by omega) (by omega) ?_
  exact W.vret hx hb hr (fun t ht9 hW => ⟨⟨(q1, q3), rfl, trivial, by rw [ht9]; exact hP9, hD9⟩, hS.F ht9⟩) hS.2.2 dX8_init_15
set_option maxHeartbeats 4000000 in
set_option maxRecDepth 100000 in
/-- Tokens -/
theorem c_X9_init (l : Launch) (dC : Nat → ClassId) (dI : Nat → Nat → Nat) (cI cB cZ cJ cR : ClassId) (tb : Nat → Nat) (sz : Nat) (a0_ : Nat) (a1_ : Nat)  : Met l yX9_init (Cond.code yX9_init cX9_init 2 none :: tw_W) ({ frames := 1, cells := 3, slots := 4509, locals := 12 }) (pc_ (dC, dI) (tyS cI cB cZ cJ cR) tb [(a0_, .inr (12, [.null, .null, .null, .null, .int 0, .int 0, .int 0, .int 0, .int 0, .int 0]))] sz [.ref a0_, .ref a1_]) (qv_ (dC, dI) [(a0_, .inr (12, [.null, .null, .null, .null, .int 0, .int 0, .int 0, .int 0, .int 0, .int 0]))] sz (fun (u : Nat × Nat × Nat) => True) (fun (u : Nat × Nat × Nat) => [(a0_, .inr (12, [.ref a1_, .ref u.1, .ref u.2.1, .ref u.2.2, .int 0, .int 0, .int 0, .int 0, .int 0, .int 0])), (u.1, .inl (cI, 1503, .inl (fun _ => 0))), (u.2.1, .inl (cI, 1503, .inl (fun _ => 0))), (u.2.2, .inl (cI, 1503, .inl (fun _ => 0)))])) 3 4509 (va_A [(a0_, .inr (12, [.null, .null, .null, .null, .int 0, .int 0, .int 0, .int 0, .int 0, .int 0]))] sz) := by
  refine Met.ofW (cc := cX9_init) (maxL := 2) (ret := none) (by decide) rfl ?_
  intro p e s m args below meth c s₁ B hml hv
  obtain ⟨rfl, hsz, hP, hKK, hD0, hFx⟩ := hv
  have hK := hKK.1
  have hx := B.exec
  have hb := B.bytes
  have hr := B.returns
  have ht : ∀ w ∈ tw_W, w.before _ s = true := fun w h => atoms_spec (ws := Cond.code yX9_init cX9_init 2 none :: tw_W) B.pre w (List.mem_cons_of_mem _ h)
  have hown : s.vm.findClass RX9 = some m.cls := findClass_of_methodNamed B.named
  have hlocks := B.notSynchronized
  have hin : meth.name = "<init>" := (name_of_methodNamed B.named B.method).1
  subst hsz
  unfold qv_
  have hD := hD0.self (sz := s.heap.size)
  generalize hAe : va_A [(a0_, .inr (12, [.null, .null, .null, .null, .int 0, .int 0, .int 0, .int 0, .int 0, .int 0]))] s.heap.size = A at hD hFx ⊢
  have hA : ∀ q : Nat, s.heap.size ≤ q → A q := fun q h => by rw [← hAe]; exact Or.inr h
  have hS : va_S A s.heap s.heap [] := va_S.rf
  have hP : va_P (dC, dI) vwCl [(a0_, .inr (12, [.null, .null, .null, .null, .int 0, .int 0, .int 0, .int 0, .int 0, .int 0]))] s.heap := hP
  have hl := lv_entry ([.ref a0_, .ref a1_]) (n := 2) (Nat.le_of_ble_eq_true rfl)
  rw [lg_entry_eq]
  generalize (lg_sl ([.ref a0_, .ref a1_]) ++ List.replicate (2 - (lg_sl ([.ref a0_, .ref a1_])).length) Slot.unset).toArray = ls at hl ⊢
  have hl : lv_has ls 2 [(0, .ref a0_), (1, .ref a1_)] := hl
  refine lv_aload_n hx hb dX9_init_0 rfl (lv_at hl 0 rfl) ?_
  refine W.objInit hx hb hown (ht _ tw_998) (ht _ tw_359) (ht _ tw_360) rfl (by rw [hml]; exact hl.1) rfl dX9_init_1 (Nat.le_of_ble_eq_true rfl) (Nat.le_of_ble_eq_true rfl) ?_
  refine W.eq (g2 := F0 m 4 ls []) rfl ?_
  refine lv_aload_n hx hb dX9_init_4 rfl (lv_at hl 0 rfl) ?_
  refine lv_sipush (v := 1503) hx hb dX9_init_5 (by decide) ?_
  refine va_newE (atype := .int) (ty := .int) (a0 := (1503, .inl (fun _ => 0))) (cE := cI) hx hb (ht _ tw_361) rfl hK hP hD hS hA 0 rfl (fun _ => rfl) (by decide) (by decide) (by decide) (Nat.le_of_ble_eq_true rfl) (Nat.le_of_ble_eq_true rfl) dX9_init_8 (fun q1 H hP hD hS => ?_)
  have hP : va_P (dC, dI) vwCl [(a0_, .inr (12, [.null, .null, .null, .null, .int 0, .int 0, .int 0, .int 0, .int 0, .int 0])), (q1, .inl (cI, 1503, .inl (fun _ => 0)))] H := hP
  have hD : va_D A [(a0_, .inr (12, [.null, .null, .null, .null, .int 0, .int 0, .int 0, .int 0, .int 0, .int 0])), (q1, .inl (cI, 1503, .inl (fun _ => 0)))] := hD
  refine W.widen (k := 1) (n := 1503) (by omega) (by omega) ?_
  refine va_putF (D := (dC, dI)) (ci := 12) (v := .ref q1) (ty := .array .int) (C := RX9) (T := TX9) (N := 10) hx hb ht itX9 tyX9 tyX9_ok nmX9 hown hK hP hD hS 0 rfl rfl 1 (by decide) (ht _ tw_412) (fun _ h9 => h9) rfl hin rfl (by decide +kernel) rfl rfl (Nat.le_of_ble_eq_true rfl) dX9_init_10 (fun H locs hP hD hS => ?_)
  have hP : va_P (dC, dI) vwCl [(a0_, .inr (12, [.null, .ref q1, .null, .null, .int 0, .int 0, .int 0, .int 0, .int 0, .int 0])), (q1, .inl (cI, 1503, .inl (fun _ => 0)))] H := hP
  have hD : va_D A [(a0_, .inr (12, [.null, .ref q1, .null, .null, .int 0, .int 0, .int 0, .int 0, .int 0, .int 0])), (q1, .inl (cI, 1503, .inl (fun _ => 0)))] := hD
  refine lv_aload_n hx hb dX9_init_13 rfl (lv_at hl 0 rfl) ?_
  refine lv_sipush (v := 1503) hx hb dX9_init_14 (by decide) ?_
  refine va_newE (atype := .int) (ty := .int) (a0 := (1503, .inl (fun _ => 0))) (cE := cI) hx hb (ht _ tw_361) rfl hK hP hD hS hA 0 rfl (fun _ => rfl) (by decide) (by decide) (by decide) (Nat.le_of_ble_eq_true rfl) (Nat.le_of_ble_eq_true rfl) dX9_init_17 (fun q2 H hP hD hS => ?_)
  have hP : va_P (dC, dI) vwCl [(a0_, .inr (12, [.null, .ref q1, .null, .null, .int 0, .int 0, .int 0, .int 0, .int 0, .int 0])), (q1, .inl (cI, 1503, .inl (fun _ => 0))), (q2, .inl (cI, 1503, .inl (fun _ => 0)))] H := hP
  have hD : va_D A [(a0_, .inr (12, [.null, .ref q1, .null, .null, .int 0, .int 0, .int 0, .int 0, .int 0, .int 0])), (q1, .inl (cI, 1503, .inl (fun _ => 0))), (q2, .inl (cI, 1503, .inl (fun _ => 0)))] := hD
  refine W.widen (k := 2) (n := 3006) (by omega) (by omega) ?_
  refine va_putF (D := (dC, dI)) (ci := 12) (v := .ref q2) (ty := .array .int) (C := RX9) (T := TX9) (N := 10) hx hb ht itX9 tyX9 tyX9_ok nmX9 hown hK hP hD hS 0 rfl rfl 2 (by decide) (ht _ tw_413) (fun _ h9 => h9) rfl hin rfl (by decide +kernel) rfl rfl (Nat.le_of_ble_eq_true rfl) dX9_init_19 (fun H locs hP hD hS => ?_)
  have hP : va_P (dC, dI) vwCl [(a0_, .inr (12, [.null, .ref q1, .ref q2, .null, .int 0, .int 0, .int 0, .int 0, .int 0, .int 0])), (q1, .inl (cI, 1503, .inl (fun _ => 0))), (q2, .inl (cI, 1503, .inl (fun _ => 0)))] H := hP
  have hD : va_D A [(a0_, .inr (12, [.null, .ref q1, .ref q2, .null, .int 0, .int 0, .int 0, .int 0, .int 0, .int 0])), (q1, .inl (cI, 1503, .inl (fun _ => 0))), (q2, .inl (cI, 1503, .inl (fun _ => 0)))] := hD
  refine lv_aload_n hx hb dX9_init_22 rfl (lv_at hl 0 rfl) ?_
  refine lv_sipush (v := 1503) hx hb dX9_init_23 (by decide) ?_
  refine va_newE (atype := .int) (ty := .int) (a0 := (1503, .inl (fun _ => 0))) (cE := cI) hx hb (ht _ tw_361) rfl hK hP hD hS hA 0 rfl (fun _ => rfl) (by decide) (by decide) (by decide) (Nat.le_of_ble_eq_true rfl) (Nat.le_of_ble_eq_true rfl) dX9_init_26 (fun q3 H hP hD hS => ?_)
  have hP : va_P (dC, dI) vwCl [(a0_, .inr (12, [.null, .ref q1, .ref q2, .null, .int 0, .int 0, .int 0, .int 0, .int 0, .int 0])), (q1, .inl (cI, 1503, .inl (fun _ => 0))), (q2, .inl (cI, 1503, .inl (fun _ => 0))), (q3, .inl (cI, 1503, .inl (fun _ => 0)))] H := hP
  have hD : va_D A [(a0_, .inr (12, [.null, .ref q1, .ref q2, .null, .int 0, .int 0, .int 0, .int 0, .int 0, .int 0])), (q1, .inl (cI, 1503, .inl (fun _ => 0))), (q2, .inl (cI, 1503, .inl (fun _ => 0))), (q3, .inl (cI, 1503, .inl (fun _ => 0)))] := hD
  refine W.widen (k := 3) (n := 4509) (by omega) (by omega) ?_
  refine va_putF (D := (dC, dI)) (ci := 12) (v := .ref q3) (ty := .array .int) (C := RX9) (T := TX9) (N := 10) hx hb ht itX9 tyX9 tyX9_ok nmX9 hown hK hP hD hS 0 rfl rfl 3 (by decide) (ht _ tw_414) (fun _ h9 => h9) rfl hin rfl (by decide +kernel) rfl rfl (Nat.le_of_ble_eq_true rfl) dX9_init_28 (fun H locs hP hD hS => ?_)
  have hP : va_P (dC, dI) vwCl [(a0_, .inr (12, [.null, .ref q1, .ref q2, .ref q3, .int 0, .int 0, .int 0, .int 0, .int 0, .int 0])), (q1, .inl (cI, 1503, .inl (fun _ => 0))), (q2, .inl (cI, 1503, .inl (fun _ => 0))), (q3, .inl (cI, 1503, .inl (fun _ => 0)))] H := hP
  have hD : va_D A [(a0_, .inr (12, [.null, .ref q1, .ref q2, .ref q3, .int 0, .int 0, .int 0, .int 0, .int 0, .int 0])), (q1, .inl (cI, 1503, .inl (fun _ => 0))), (q2, .inl (cI, 1503, .inl (fun _ => 0))), (q3, .inl (cI, 1503, .inl (fun _ => 0)))] := hD
  refine lv_aload_n hx hb dX9_init_31 rfl (lv_at hl 0 rfl) ?_
  refine lv_aload_n hx hb dX9_init_32 rfl (lv_at hl 1 rfl) ?_
  refine va_put (D := (dC, dI)) (ci := 12) (v := .ref a1_) (ty := .object "PocketCompiler$Program") (C := RX9) (T := TX9) (N := 10) hx hb ht itX9 tyX9 tyX9_ok nmX9 hown hK hP hD hS 0 rfl rfl 0 (by decide) (ht _ tw_415) (fun _ h9 => h9) rfl (by decide +kernel) rfl rfl (Nat.le_of_ble_eq_true rfl) dX9_init_33 (fun H locs hP hD hS => ?_)
  have hP : va_P (dC, dI) vwCl [(a0_, .inr (12, [.ref a1_, .ref q1, .ref q2, .ref q3, .int 0, .int 0, .int 0, .int 0, .int 0, .int 0])), (q1, .inl (cI, 1503, .inl (fun _ => 0))), (q2, .inl (cI, 1503, .inl (fun _ => 0))), (q3, .inl (cI, 1503, .inl (fun _ => 0)))] H := hP
  have hD : va_D A [(a0_, .inr (12, [.ref a1_, .ref q1, .ref q2, .ref q3, .int 0, .int 0, .int 0, .int 0, .int 0, .int 0])), (q1, .inl (cI, 1503, .inl (fun _ => 0))), (q2, .inl (cI, 1503, .inl (fun _ => 0))), (q3, .inl (cI, 1503, .inl (fun _ => 0)))] := hD
  have hP9 := hP.sub (ws' := [(a0_, .inr (12, [.ref a1_, .ref q1, .ref q2, .ref q3, .int 0, .int 0, .int 0, .int 0, .int 0, .int 0])), (q1, .inl (cI, 1503, .inl (fun _ => 0))), (q2, .inl (cI, 1503, .inl (fun _ => 0))), (q3, .inl (cI, 1503, .inl (fun _ => 0)))]) [0, 1, 2, 3] rfl
  have hD9 := hD.sub (ws' := [(a0_, .inr (12, [.ref a1_, .ref q1, .ref q2, .ref q3, .int 0, .int 0, .int 0, .int 0, .int 0, .int 0])), (q1, .inl (cI, 1503, .inl (fun _ => 0))), (q2, .inl (cI, 1503, .inl (fun _ => 0))), (q3, .inl (cI, 1503, .inl (fun _ => 0)))]) [0, 1, 2, 3] (by decide) rfl
  refine W.widen (k := 3) (n := 4509) (by omega) (by omega) ?_
  exact W.vret hx hb hr (fun t ht9 hW => ⟨⟨(q1, q2, q3), rfl, trivial, by rw [ht9]; exact hP9, hD9⟩, hS.F ht9⟩) hS.2.2 dX9_init_36
set_option maxHeartbeats 4000000 in
set_option maxRecDepth 100000 in
/-- Builder -/
theorem c_X1_init (l : Launch) (dC : Nat → ClassId) (dI : Nat → Nat → Nat) (cI cB cZ cJ cR : ClassId) (tb : Nat → Nat) (sz : Nat) (a0_ : Nat) (a1_ : Nat)  : Met l yX1_init (Cond.code yX1_init cX1_init 2 none :: tw_W) ({ frames := 1, cells := 5, slots := 3503, locals := 12 }) (pc_ (dC, dI) (tyS cI cB cZ cJ cR) tb [(a0_, .inr (5, [.null, .null, .int 0, .int 0, .int 0, .int 0, .null, .int 0, .null, .null, .null, .int 0]))] sz [.ref a0_, .ref a1_]) (qv_ (dC, dI) [(a0_, .inr (5, [.null, .null, .int 0, .int 0, .int 0, .int 0, .null, .int 0, .null, .null, .null, .int 0]))] sz (fun (u : Nat × Nat × Nat × Nat × Nat) => True) (fun (u : Nat × Nat × Nat × Nat × Nat) => [(a0_, .inr (5, [.ref a1_, .ref u.1, .int 0, .int 0, .int 0, .int 0, .ref u.2.1, .int 0, .ref u.2.2.1, .ref u.2.2.2.1, .ref u.2.2.2.2, .int 0])), (u.1, .inl (cI, 500, .inl (fun _ => 0))), (u.2.1, .inl (cI, 1500, .inl (fun _ => 0))), (u.2.2.1, .inl (cI, 501, .inl (fun _ => 0))), (u.2.2.2.1, .inl (cI, 501, .inl (fun _ => 0))), (u.2.2.2.2, .inl (cI, 501, .inl (fun _ => 0)))])) 5 3503 (va_A [(a0_, .inr (5, [.null, .null, .int 0, .int 0, .int 0, .int 0, .null, .int 0, .null, .null, .null, .int 0]))] sz) := by
  refine Met.ofW (cc := cX1_init) (maxL := 2) (ret := none) (by decide) rfl ?_
  intro p e s m args below meth c s₁ B hml hv
  obtain ⟨rfl, hsz, hP, hKK, hD0, hFx⟩ := hv
  have hK := hKK.1
  have hx := B.exec
  have hb := B.bytes
  have hr := B.returns
  have ht : ∀ w ∈ tw_W, w.before _ s = true := fun w h => atoms_spec (ws := Cond.code yX1_init cX1_init 2 none :: tw_W) B.pre w (List.mem_cons_of_mem _ h)
  have hown : s.vm.findClass RX1 = some m.cls := findClass_of_methodNamed B.named
  have hlocks := B.notSynchronized
  have hin : meth.name = "<init>" := (name_of_methodNamed B.named B.method).1
  subst hsz
  unfold qv_
  have hD := hD0.self (sz := s.heap.size)
  generalize hAe : va_A [(a0_, .inr (5, [.null, .null, .int 0, .int 0, .int 0, .int 0, .null, .int 0, .null, .null, .null, .int 0]))] s.heap.size = A at hD hFx ⊢
  have hA : ∀ q : Nat, s.heap.size ≤ q → A q := fun q h => by rw [← hAe]; exact Or.inr h
  have hS : va_S A s.heap s.heap [] := va_S.rf
  have hP : va_P (dC, dI) vwCl [(a0_, .inr (5, [.null, .null, .int 0, .int 0, .int 0, .int 0, .null, .int 0, .null, .null, .null, .int 0]))] s.heap := hP
  have hl := lv_entry ([.ref a0_, .ref a1_]) (n := 2) (Nat.le_of_ble_eq_true rfl)
  rw [lg_entry_eq]
  generalize (lg_sl ([.ref a0_, .ref a1_]) ++ List.replicate (2 - (lg_sl ([.ref a0_, .ref a1_])).length) Slot.unset).toArray = ls at hl ⊢
  have hl : lv_has ls 2 [(0, .ref a0_), (1, .ref a1_)] := hl
  refine lv_aload_n hx hb dX1_init_0 rfl (lv_at hl 0 rfl) ?_
  refine W.objInit hx hb hown (ht _ tw_999) (ht _ tw_359) (ht _ tw_360) rfl (by rw [hml]; exact hl.1) rfl dX1_init_1 (Nat.le_of_ble_eq_true rfl) (Nat.le_of_ble_eq_true rfl) ?_
  refine W.eq (g2 := F0 m 4 ls []) rfl ?_
  refine lv_aload_n hx hb dX1_init_4 rfl (lv_at hl 0 rfl) ?_
  refine lv_sipush (v := 500) hx hb dX1_init_5 (by decide) ?_
  refine va_newE (atype := .int) (ty := .int) (a0 := (500, .inl (fun _ => 0))) (cE := cI) hx hb (ht _ tw_361) rfl hK hP hD hS hA 0 rfl (fun _ => rfl) (by decide) (by decide) (by decide) (Nat.le_of_ble_eq_true rfl) (Nat.le_of_ble_eq_true rfl) dX1_init_8 (fun q1 H hP hD hS => ?_)
  have hP : va_P (dC, dI) vwCl [(a0_, .inr (5, [.null, .null, .int 0, .int 0, .int 0, .int 0, .null, .int 0, .null, .null, .null, .int 0])), (q1, .inl (cI, 500, .inl (fun _ => 0)))] H := hP
  have hD : va_D A [(a0_, .inr (5, [.null, .null, .int 0, .int 0, .int 0, .int 0, .null, .int 0, .null, .null, .null, .int 0])), (q1, .inl (cI, 500, .inl (fun _ => 0)))] := hD
  refine W.widen (k := 1) (n := 500) (by omega) (by omega) ?_
  refine va_putF (D := (dC, dI)) (ci := 5) (v := .ref q1) (ty := .array .int) (C := RX1) (T := TX1) (N := 12) hx hb ht itX1 tyX1 tyX1_ok nmX1 hown hK hP hD hS 0 rfl rfl 1 (by decide) (ht _ tw_476) (fun _ h9 => h9) rfl hin rfl (by decide +kernel) rfl rfl (Nat.le_of_ble_eq_true rfl) dX1_init_10 (fun H locs hP hD hS => ?_)
  have hP : va_P (dC, dI) vwCl [(a0_, .inr (5, [.null, .ref q1, .int 0, .int 0, .int 0, .int 0, .null, .int 0, .null, .null, .null, .int 0])), (q1, .inl (cI, 500, .inl (fun _ => 0)))] H := hP
  have hD : va_D A [(a0_, .inr (5, [.null, .ref q1, .int 0, .int 0, .int 0, .int 0, .null, .int 0, .null, .null, .null, .int 0])), (q1, .inl (cI, 500, .inl (fun _ => 0)))] := hD
  refine lv_aload_n hx hb dX1_init_13 rfl (lv_at hl 0 rfl) ?_
  refine lv_sipush (v := 1500) hx hb dX1_init_14 (by decide) ?_
  refine va_newE (atype := .int) (ty := .int) (a0 := (1500, .inl (fun _ => 0))) (cE := cI) hx hb (ht _ tw_361) rfl hK hP hD hS hA 0 rfl (fun _ => rfl) (by decide) (by decide) (by decide) (Nat.le_of_ble_eq_true rfl) (Nat.le_of_ble_eq_true rfl) dX1_init_17 (fun q2 H hP hD hS => ?_)
  have hP : va_P (dC, dI) vwCl [(a0_, .inr (5, [.null, .ref q1, .int 0, .int 0, .int 0, .int 0, .null, .int 0, .null, .null, .null, .int 0])), (q1, .inl (cI, 500, .inl (fun _ => 0))), (q2, .inl (cI, 1500, .inl (fun _ => 0)))] H := hP
  have hD : va_D A [(a0_, .inr (5, [.null, .ref q1, .int 0, .int 0, .int 0, .int 0, .null, .int 0, .null, .null, .null, .int 0])), (q1, .inl (cI, 500, .inl (fun _ => 0))), (q2, .inl (cI, 1500, .inl (fun _ => 0)))] := hD
  refine W.widen (k := 2) (n := 2000) (by omega) (by omega) ?_
  refine va_putF (D := (dC, dI)) (ci := 5) (v := .ref q2) (ty := .array .int) (C := RX1) (T := TX1) (N := 12) hx hb ht itX1 tyX1 tyX1_ok nmX1 hown hK hP hD hS 0 rfl rfl 6 (by decide) (ht _ tw_486) (fun _ h9 => h9) rfl hin rfl (by decide +kernel) rfl rfl (Nat.le_of_ble_eq_true rfl) dX1_init_19 (fun H locs hP hD hS => ?_)
  have hP : va_P (dC, dI) vwCl [(a0_, .inr (5, [.null, .ref q1, .int 0, .int 0, .int 0, .int 0, .ref q2, .int 0, .null, .null, .null, .int 0])), (q1, .inl (cI, 500, .inl (fun _ => 0))), (q2, .inl (cI, 1500, .inl (fun _ => 0)))] H := hP
  have hD : va_D A [(a0_, .inr (5, [.null, .ref q1, .int 0, .int 0, .int 0, .int 0, .ref q2, .int 0, .null, .null, .null, .int 0])), (q1, .inl (cI, 500, .inl (fun _ => 0))), (q2, .inl (cI, 1500, .inl (fun _ => 0)))] := hD
  refine lv_aload_n hx hb dX1_init_22 rfl (lv_at hl 0 rfl) ?_
  refine lv_sipush (v := 501) hx hb dX1_init_23 (by decide) ?_
  refine va_newE (atype := .int) (ty := .int) (a0 := (501, .inl (fun _ => 0))) (cE := cI) hx hb (ht _ tw_361) rfl hK hP hD hS hA 0 rfl (fun _ => rfl) (by decide) (by decide) (by decide) (Nat.le_of_ble_eq_true rfl) (Nat.le_of_ble_eq_true rfl) dX1_init_26 (fun q3 H hP hD hS => ?_)
  have hP : va_P (dC, dI) vwCl [(a0_, .inr (5, [.null, .ref q1, .int 0, .int 0, .int 0, .int 0, .ref q2, .int 0, .null, .null, .null, .int 0])), (q1, .inl (cI, 500, .inl (fun _ => 0))), (q2, .inl (cI, 1500, .inl (fun _ => 0))), (q3, .inl (cI, 501, .inl (fun _ => 0)))] H := hP
  have hD : va_D A [(a0_, .inr (5, [.null, .ref q1, .int 0, .int 0, .int 0, .int 0, .ref q2, .int 0, .null, .null, .null, .int 0])), (q1, .inl (cI, 500, .inl (fun _ => 0))), (q2, .inl (cI, 1500, .inl (fun _ => 0))), (q3, .inl (cI, 501, .inl (fun _ => 0)))] := hD
  refine W.widen (k := 3) (n := 2501) (by omega) (by omega) ?_
  refine va_putF (D := (dC, dI)) (ci := 5) (v := .ref q3) (ty := .array .int) (C := RX1) (T := TX1) (N := 12) hx hb ht itX1 tyX1 tyX1_ok nmX1 hown hK hP hD hS 0 rfl rfl 8 (by decide) (ht _ tw_487) (fun _ h9 => h9) rfl hin rfl (by decide +kernel) rfl rfl (Nat.le_of_ble_eq_true rfl) dX1_init_28 (fun H locs hP hD hS => ?_)
  have hP : va_P (dC, dI) vwCl [(a0_, .inr (5, [.null, .ref q1, .int 0, .int 0, .int 0, .int 0, .ref q2, .int 0, .ref q3, .null, .null, .int 0])), (q1, .inl (cI, 500, .inl (fun _ => 0))), (q2, .inl (cI, 1500, .inl (fun _ => 0))), (q3, .inl (cI, 501, .inl (fun _ => 0)))] H := hP
  have hD : va_D A [(a0_, .inr (5, [.null, .ref q1, .int 0, .int 0, .int 0, .int 0, .ref q2, .int 0, .ref q3, .null, .null, .int 0])), (q1, .inl (cI, 500, .inl (fun _ => 0))), (q2, .inl (cI, 1500, .inl (fun _ => 0))), (q3, .inl (cI, 501, .inl (fun _ => 0)))] := hD
  refine lv_aload_n hx hb dX1_init_31 rfl (lv_at hl 0 rfl) ?_
  refine lv_sipush (v := 501) hx hb dX1_init_32 (by decide) ?_
  refine va_newE (atype := .int) (ty := .int) (a0 := (501, .inl (fun _ => 0))) (cE := cI) hx hb (ht _ tw_361) rfl hK hP hD hS hA 0 rfl (fun _ => rfl) (by decide) (by decide) (by decide) (Nat.le_of_ble_eq_true rfl) (Nat.le_of_ble_eq_true rfl) dX1_init_35 (fun q4 H hP hD hS => ?_)
  have hP : va_P (dC, dI) vwCl [(a0_, .inr (5, [.null, .ref q1, .int 0, .int 0, .int 0, .int 0, .ref q2, .int 0, .ref q3, .null, .null, .int 0])), (q1, .inl (cI, 500, .inl (fun _ => 0))), (q2, .inl (cI, 1500, .inl (fun _ => 0))), (q3, .inl (cI, 501, .inl (fun _ => 0))), (q4, .inl (cI, 501, .inl (fun _ => 0)))] H := hP
  have hD : va_D A [(a0_, .inr (5, [.null, .ref q1, .int 0, .int 0, .int 0, .int 0, .ref q2, .int 0, .ref q3, .null, .null, .int 0])), (q1, .inl (cI, 500, .inl (fun _ => 0))), (q2, .inl (cI, 1500, .inl (fun _ => 0))), (q3, .inl (cI, 501, .inl (fun _ => 0))), (q4, .inl (cI, 501, .inl (fun _ => 0)))] := hD
  refine W.widen (k := 4) (n := 3002) (by omega) (by omega) ?_
  refine va_putF (D := (dC, dI)) (ci := 5) (v := .ref q4) (ty := .array .int) (C := RX1) (T := TX1) (N := 12) hx hb ht itX1 tyX1 tyX1_ok nmX1 hown hK hP hD hS 0 rfl rfl 9 (by decide) (ht _ tw_488) (fun _ h9 => h9) rfl hin rfl (by decide +kernel) rfl rfl (Nat.le_of_ble_eq_true rfl) dX1_init_37 (fun H locs hP hD hS => ?_)
  have hP : va_P (dC, dI) vwCl [(a0_, .inr (5, [.null, .ref q1, .int 0, .int 0, .int 0, .int 0, .ref q2, .int 0, .ref q3, .ref q4, .null, .int 0])), (q1, .inl (cI, 500, .inl (fun _ => 0))), (q2, .inl (cI, 1500, .inl (fun _ => 0))), (q3, .inl (cI, 501, .inl (fun _ => 0))), (q4, .inl (cI, 501, .inl (fun _ => 0)))] H := hP
  have hD : va_D A [(a0_, .inr (5, [.null, .ref q1, .int 0, .int 0, .int 0, .int 0, .ref q2, .int 0, .ref q3, .ref q4, .null, .int 0])), (q1, .inl (cI, 500, .inl (fun _ => 0))), (q2, .inl (cI, 1500, .inl (fun _ => 0))), (q3, .inl (cI, 501, .inl (fun _ => 0))), (q4, .inl (cI, 501, .inl (fun _ => 0)))] := hD
  refine lv_aload_n hx hb dX1_init_40 rfl (lv_at hl 0 rfl) ?_
  refine lv_sipush (v := 501) hx hb dX1_init_41 (by decide) ?_
  refine va_newE (atype := .int) (ty := .int) (a0 := (501, .inl (fun _ => 0))) (cE := cI) hx hb (ht _ tw_361) rfl hK hP hD hS hA 0 rfl (fun _ => rfl) (by decide) (by decide) (by decide) (Nat.le_of_ble_eq_true rfl) (Nat.le_of_ble_eq_true rfl) dX1_init_44 (fun q5 H hP hD hS => ?_)
  have hP : va_P (dC, dI) vwCl [(a0_, .inr (5, [.null, .ref q1, .int 0, .int 0, .int 0, .int 0, .ref q2, .int 0, .ref q3, .ref q4, .null, .int 0])), (q1, .inl (cI, 500, .inl (fun _ => 0))), (q2, .inl (cI, 1500, .inl (fun _ => 0))), (q3, .inl (cI, 501, .inl (fun _ => 0))), (q4, .inl (cI, 501, .inl (fun _ => 0))), (q5, .inl (cI, 501, .inl (fun _ => 0)))] H := hP
  have hD : va_D A [(a0_, .inr (5, [.null, .ref q1, .int 0, .int 0, .int 0, .int 0, .ref q2, .int 0, .ref q3, .ref q4, .null, .int 0])), (q1, .inl (cI, 500, .inl (fun _ => 0))), (q2, .inl (cI, 1500, .inl (fun _ => 0))), (q3, .inl (cI, 501, .inl (fun _ => 0))), (q4, .inl (cI, 501, .inl (fun _ => 0))), (q5, .inl (cI, 501, .inl (fun _ => 0)))] := hD
  refine W.widen (k := 5) (n := 3503) (by omega) (by omega) ?_
  refine va_putF (D := (dC, dI)) (ci := 5) (v := .ref q5) (ty := .array .int) (C := RX1) (T := TX1) (N := 12) hx hb ht itX1 tyX1 tyX1_ok nmX1 hown hK hP hD hS 0 rfl rfl 10 (by decide) (ht _ tw_489) (fun _ h9 => h9) rfl hin rfl (by decide +kernel) rfl rfl (Nat.le_of_ble_eq_true rfl) dX1_init_46 (fun H locs hP hD hS => ?_)
  have hP : va_P (dC, dI) vwCl [(a0_, .inr (5, [.null, .ref q1, .int 0, .int 0, .int 0, .int 0, .ref q2, .int 0, .ref q3, .ref q4, .ref q5, .int 0])), (q1, .inl (cI, 500, .inl (fun _ => 0))), (q2, .inl (cI, 1500, .inl (fun _ => 0))), (q3, .inl (cI, 501, .inl (fun _ => 0))), (q4, .inl (cI, 501, .inl (fun _ => 0))), (q5, .inl (cI, 501, .inl (fun _ => 0)))] H := hP
  have hD : va_D A [(a0_, .inr (5, [.null, .ref q1, .int 0, .int 0, .int 0, .int 0, .ref q2, .int 0, .ref q3, .ref q4, .ref q5, .int 0])), (q1, .inl (cI, 500, .inl (fun _ => 0))), (q2, .inl (cI, 1500, .inl (fun _ => 0))), (q3, .inl (cI, 501, .inl (fun _ => 0))), (q4, .inl (cI, 501, .inl (fun _ => 0))), (q5, .inl (cI, 501, .inl (fun _ => 0)))] := hD
  refine lv_aload_n hx hb dX1_init_49 rfl (lv_at hl 0 rfl) ?_
  refine lv_aload_n hx hb dX1_init_50 rfl (lv_at hl 1 rfl) ?_
  refine va_put (D := (dC, dI)) (ci := 5) (v := .ref a1_) (ty := .object "PocketCompiler$Program") (C := RX1) (T := TX1) (N := 12) hx hb ht itX1 tyX1 tyX1_ok nmX1 hown hK hP hD hS 0 rfl rfl 0 (by decide) (ht _ tw_463) (fun _ h9 => h9) rfl (by decide +kernel) rfl rfl (Nat.le_of_ble_eq_true rfl) dX1_init_51 (fun H locs hP hD hS => ?_)
  have hP : va_P (dC, dI) vwCl [(a0_, .inr (5, [.ref a1_, .ref q1, .int 0, .int 0, .int 0, .int 0, .ref q2, .int 0, .ref q3, .ref q4, .ref q5, .int 0])), (q1, .inl (cI, 500, .inl (fun _ => 0))), (q2, .inl (cI, 1500, .inl (fun _ => 0))), (q3, .inl (cI, 501, .inl (fun _ => 0))), (q4, .inl (cI, 501, .inl (fun _ => 0))), (q5, .inl (cI, 501, .inl (fun _ => 0)))] H := hP
  have hD : va_D A [(a0_, .inr (5, [.ref a1_, .ref q1, .int 0, .int 0, .int 0, .int 0, .ref q2, .int 0, .ref q3, .ref q4, .ref q5, .int 0])), (q1, .inl (cI, 500, .inl (fun _ => 0))), (q2, .inl (cI, 1500, .inl (fun _ => 0))), (q3, .inl (cI, 501, .inl (fun _ => 0))), (q4, .inl (cI, 501, .inl (fun _ => 0))), (q5, .inl (cI, 501, .inl (fun _ => 0)))] := hD
  have hP9 := hP.sub (ws' := [(a0_, .inr (5, [.ref a1_, .ref q1, .int 0, .int 0, .int 0, .int 0, .ref q2, .int 0, .ref q3, .ref q4, .ref q5, .int 0])), (q1, .inl (cI, 500, .inl (fun _ => 0))), (q2, .inl (cI, 1500, .inl (fun _ => 0))), (q3, .inl (cI, 501, .inl (fun _ => 0))), (q4, .inl (cI, 501, .inl (fun _ => 0))), (q5, .inl (cI, 501, .inl (fun _ => 0)))]) [0, 1, 2, 3, 4, 5] rfl
  have hD9 := hD.sub (ws' := [(a0_, .inr (5, [.ref a1_, .ref q1, .int 0, .int 0, .int 0, .int 0, .ref q2, .int 0, .ref q3, .ref q4, .ref q5, .int 0])), (q1, .inl (cI, 500, .inl (fun _ => 0))), (q2, .inl (cI, 1500, .inl (fun _ => 0))), (q3, .inl (cI, 501, .inl (fun _ => 0))), (q4, .inl (cI, 501, .inl (fun _ => 0))), (q5, .inl (cI, 501, .inl (fun _ => 0)))]) [0, 1, 2, 3, 4, 5] (by decide) rfl
  refine W.widen (k := 5) (n := 3503) (by omega) (by omega) ?_
  exact W.vret hx hb hr (fun t ht9 hW => ⟨⟨(q1, q2, q3, q4, q5), rfl, trivial, by rw [ht9]; exact hP9, hD9⟩, hS.F ht9⟩) hS.2.2 dX1_init_54
set_option maxHeartbeats 4000000 in
set_option maxRecDepth 100000 in
/-- Expressions -/
theorem c_X2_init (l : Launch) (dC : Nat → ClassId) (dI : Nat → Nat → Nat) (cI cB cZ cJ cR : ClassId) (tb : Nat → Nat) (sz : Nat) (a0_ : Nat) (a1_ : Nat) (a2_ : Nat)  : Met l yX2_init (Cond.code yX2_init cX2_init 3 none :: tw_W) ({ frames := 1, cells := 2, slots := 840, locals := 12 }) (pc_ (dC, dI) (tyS cI cB cZ cJ cR) tb [(a0_, .inr (6, [.null, .null, .null, .null, .int 0]))] sz [.ref a0_, .ref a1_, .ref a2_]) (qv_ (dC, dI) [(a0_, .inr (6, [.null, .null, .null, .null, .int 0]))] sz (fun (u : Nat × Nat) => True) (fun (u : Nat × Nat) => [(a0_, .inr (6, [.ref a1_, .ref a2_, .ref u.1, .ref u.2, .int 0])), (u.1, .inl (cI, 420, .inl (fun _ => 0))), (u.2, .inl (cI, 420, .inl (fun _ => 0)))])) 2 840 (va_A [(a0_, .inr (6, [.null, .null, .null, .null, .int 0]))] sz) := by
  refine Met.ofW (cc := cX2_init) (maxL := 3) (ret := none) (by decide) rfl ?_
  intro p e s m args below meth c s₁ B hml hv
  obtain ⟨rfl, hsz, hP, hKK, hD0, hFx⟩ := hv
  have hK := hKK.1
  have hx := B.exec
  have hb := B.bytes
  have hr := B.returns
  have ht : ∀ w ∈ tw_W, w.before _ s = true := fun w h => atoms_spec (ws := Cond.code yX2_init cX2_init 3 none :: tw_W) B.pre w (List.mem_cons_of_mem _ h)
  have hown : s.vm.findClass RX2 = some m.cls := findClass_of_methodNamed B.named
  have hlocks := B.notSynchronized
  have hin : meth.name = "<init>" := (name_of_methodNamed B.named B.method).1
  subst hsz
  unfold qv_
  have hD := hD0.self (sz := s.heap.size)
  generalize hAe : va_A [(a0_, .inr (6, [.null, .null, .null, .null, .int 0]))] s.heap.size = A at hD hFx ⊢
  have hA : ∀ q : Nat, s.heap.size ≤ q → A q := fun q h => by rw [← hAe]; exact Or.inr h
  have hS : va_S A s.heap s.heap [] := va_S.rf
  have hP : va_P (dC, dI) vwCl [(a0_, .inr (6, [.null, .null, .null, .null, .int 0]))] s.heap := hP
  have hl := lv_entry ([.ref a0_, .ref a1_, .ref a2_]) (n := 3) (Nat.le_of_ble_eq_true rfl)
  rw [lg_entry_eq]
  generalize (lg_sl ([.ref a0_, .ref a1_, .ref a2_]) ++ List.replicate (3 - (lg_sl ([.ref a0_, .ref a1_, .ref a2_])).length) Slot.unset).toArray = ls at hl ⊢
  have hl : lv_has ls 3 [(0, .ref a0_), (1, .ref a1_), (2, .ref a2_)] := hl
  refine lv_aload_n hx hb dX2_init_0 rfl (lv_at hl 0 rfl) ?_
  refine W.objInit hx hb hown (ht _ tw_1000) (ht _ tw_359) (ht _ tw_360) rfl (by rw [hml]; exact hl.1) rfl dX2_init_1 (Nat.le_of_ble_eq_true rfl) (Nat.le_of_ble_eq_true rfl) ?_
  refine W.eq (g2 := F0 m 4 ls []) rfl ?_
  refine lv_aload_n hx hb dX2_init_4 rfl (lv_at hl 0 rfl) ?_
  refine lv_sipush (v := 420) hx hb dX2_init_5 (by decide) ?_
  refine va_newE (atype := .int) (ty := .int) (a0 := (420, .inl (fun _ => 0))) (cE := cI) hx hb (ht _ tw_361) rfl hK hP hD hS hA 0 rfl (fun _ => rfl) (by decide) (by decide) (by decide) (Nat.le_of_ble_eq_true rfl) (Nat.le_of_ble_eq_true rfl) dX2_init_8 (fun q1 H hP hD hS => ?_)
  have hP : va_P (dC, dI) vwCl [(a0_, .inr (6, [.null, .null, .null, .null, .int 0])), (q1, .inl (cI, 420, .inl (fun _ => 0)))] H := hP
  have hD : va_D A [(a0_, .inr (6, [.null, .null, .null, .null, .int 0])), (q1, .inl (cI, 420, .inl (fun _ => 0)))] := hD
  refine W.widen (k := 1) (n := 420) (by omega) (by omega) ?_
  refine va_putF (D := (dC, dI)) (ci := 6) (v := .ref q1) (ty := .array .int) (C := RX2) (T := TX2) (N := 5) hx hb ht itX2 tyX2 tyX2_ok nmX2 hown hK hP hD hS 0 rfl rfl 2 (by decide) (ht _ tw_496) (fun _ h9 => h9) rfl hin rfl (by decide +kernel) rfl rfl (Nat.le_of_ble_eq_true rfl) dX2_init_10 (fun H locs hP hD hS => ?_)
  have hP : va_P (dC, dI) vwCl [(a0_, .inr (6, [.null, .null, .ref q1, .null, .int 0])), (q1, .inl (cI, 420, .inl (fun _ => 0)))] H := hP
  have hD : va_D A [(a0_, .inr (6, [.null, .null, .ref q1, .null, .int 0])), (q1, .inl (cI, 420, .inl (fun _ => 0)))] := hD
  refine lv_aload_n hx hb dX2_init_13 rfl (lv_at hl 0 rfl) ?_
  refine lv_sipush (v := 420) hx hb dX2_init_14 (by decide) ?_
  refine va_newE (atype := .int) (ty := .int) (a0 := (420, .inl (fun _ => 0))) (cE := cI) hx hb (ht _ tw_361) rfl hK hP hD hS hA 0 rfl (fun _ => rfl) (by decide) (by decide) (by decide) (Nat.le_of_ble_eq_true rfl) (Nat.le_of_ble_eq_true rfl) dX2_init_17 (fun q2 H hP hD hS => ?_)
  have hP : va_P (dC, dI) vwCl [(a0_, .inr (6, [.null, .null, .ref q1, .null, .int 0])), (q1, .inl (cI, 420, .inl (fun _ => 0))), (q2, .inl (cI, 420, .inl (fun _ => 0)))] H := hP
  have hD : va_D A [(a0_, .inr (6, [.null, .null, .ref q1, .null, .int 0])), (q1, .inl (cI, 420, .inl (fun _ => 0))), (q2, .inl (cI, 420, .inl (fun _ => 0)))] := hD
  refine W.widen (k := 2) (n := 840) (by omega) (by omega) ?_
  refine va_putF (D := (dC, dI)) (ci := 6) (v := .ref q2) (ty := .array .int) (C := RX2) (T := TX2) (N := 5) hx hb ht itX2 tyX2 tyX2_ok nmX2 hown hK hP hD hS 0 rfl rfl 3 (by decide) (ht _ tw_497) (fun _ h9 => h9) rfl hin rfl (by decide +kernel) rfl rfl (Nat.le_of_ble_eq_true rfl) dX2_init_19 (fun H locs hP hD hS => ?_)
  have hP : va_P (dC, dI) vwCl [(a0_, .inr (6, [.null, .null, .ref q1, .ref q2, .int 0])), (q1, .inl (cI, 420, .inl (fun _ => 0))), (q2, .inl (cI, 420, .inl (fun _ => 0)))] H := hP
  have hD : va_D A [(a0_, .inr (6, [.null, .null, .ref q1, .ref q2, .int 0])), (q1, .inl (cI, 420, .inl (fun _ => 0))), (q2, .inl (cI, 420, .inl (fun _ => 0)))] := hD
  refine lv_aload_n hx hb dX2_init_22 rfl (lv_at hl 0 rfl) ?_
  refine lv_aload_n hx hb dX2_init_23 rfl (lv_at hl 1 rfl) ?_
  refine va_putF (D := (dC, dI)) (ci := 6) (v := .ref a1_) (ty := .object "PocketCompiler$Tokens") (C := RX2) (T := TX2) (N := 5) hx hb ht itX2 tyX2 tyX2_ok nmX2 hown hK hP hD hS 0 rfl rfl 0 (by decide) (ht _ tw_509) (fun _ h9 => h9) rfl hin rfl (by decide +kernel) rfl rfl (Nat.le_of_ble_eq_true rfl) dX2_init_24 (fun H locs hP hD hS => ?_)
  have hP : va_P (dC, dI) vwCl [(a0_, .inr (6, [.ref a1_, .null, .ref q1, .ref q2, .int 0])), (q1, .inl (cI, 420, .inl (fun _ => 0))), (q2, .inl (cI, 420, .inl (fun _ => 0)))] H := hP
  have hD : va_D A [(a0_, .inr (6, [.ref a1_, .null, .ref q1, .ref q2, .int 0])), (q1, .inl (cI, 420, .inl (fun _ => 0))), (q2, .inl (cI, 420, .inl (fun _ => 0)))] := hD
  refine lv_aload_n hx hb dX2_init_27 rfl (lv_at hl 0 rfl) ?_
  refine lv_aload_n hx hb dX2_init_28 rfl (lv_at hl 2 rfl) ?_
  refine va_putF (D := (dC, dI)) (ci := 6) (v := .ref a2_) (ty := .object "PocketCompiler$Builder") (C := RX2) (T := TX2) (N := 5) hx hb ht itX2 tyX2 tyX2_ok nmX2 hown hK hP hD hS 0 rfl rfl 1 (by decide) (ht _ tw_498) (fun _ h9 => h9) rfl hin rfl (by decide +kernel) rfl rfl (Nat.le_of_ble_eq_true rfl) dX2_init_29 (fun H locs hP hD hS => ?_)
  have hP : va_P (dC, dI) vwCl [(a0_, .inr (6, [.ref a1_, .ref a2_, .ref q1, .ref q2, .int 0])), (q1, .inl (cI, 420, .inl (fun _ => 0))), (q2, .inl (cI, 420, .inl (fun _ => 0)))] H := hP
  have hD : va_D A [(a0_, .inr (6, [.ref a1_, .ref a2_, .ref q1, .ref q2, .int 0])), (q1, .inl (cI, 420, .inl (fun _ => 0))), (q2, .inl (cI, 420, .inl (fun _ => 0)))] := hD
  have hP9 := hP.sub (ws' := [(a0_, .inr (6, [.ref a1_, .ref a2_, .ref q1, .ref q2, .int 0])), (q1, .inl (cI, 420, .inl (fun _ => 0))), (q2, .inl (cI, 420, .inl (fun _ => 0)))]) [0, 1, 2] rfl
  have hD9 := hD.sub (ws' := [(a0_, .inr (6, [.ref a1_, .ref a2_, .ref q1, .ref q2, .int 0])), (q1, .inl (cI, 420, .inl (fun _ => 0))), (q2, .inl (cI, 420, .inl (fun _ => 0)))]) [0, 1, 2] (by decide) rfl
  refine W.widen (k := 2) (n := 840) (by omega) (by omega) ?_
  exact W.vret hx hb hr (fun t ht9 hW => ⟨⟨(q1, q2), rfl, trivial, by rw [ht9]; exact hP9, hD9⟩, hS.F ht9⟩) hS.2.2 dX2_init_32
set_option maxHeartbeats 4000000 in
set_option maxRecDepth 100000 in
/-- Parser -/
theorem c_X5_init (l : Launch) (dC : Nat → ClassId) (dI : Nat → Nat → Nat) (cI cB cZ cJ cR : ClassId) (tb : Nat → Nat) (sz : Nat) (a0_ : Nat) (a1_ : Nat)  : Met l yX5_init (Cond.code yX5_init cX5_init 2 none :: tw_W) ({ frames := 2, cells := 13, slots := 8879, locals := 34 }) (pc_ (dC, dI) (tyS cI cB cZ cJ cR) tb [(a0_, .inr (8, [.null, .null, .null, .null, .int 0, .int 0, .int 0]))] sz [.ref a0_, .ref a1_]) (qv_ (dC, dI) [(a0_, .inr (8, [.null, .null, .null, .null, .int 0, .int 0, .int 0]))] sz (fun (u : Nat × Nat × Nat × Nat × Nat × Nat × Nat × Nat × Nat × Nat × Nat × Nat × Nat) => True) (fun (u : Nat × Nat × Nat × Nat × Nat × Nat × Nat × Nat × Nat × Nat × Nat × Nat × Nat) => [(a0_, .inr (8, [.ref a1_, .ref u.1, .ref u.2.1, .ref u.2.2.1, .int 0, .int 0, .int 0])), (u.1, .inr (12, [.ref a1_, .ref u.2.2.2.1, .ref u.2.2.2.2.1, .ref u.2.2.2.2.2.1, .int 0, .int 0, .int 0, .int 0, .int 0, .int 0])), (u.2.2.2.1, .inl (cI, 1503, .inl (fun _ => 0))), (u.2.2.2.2.1, .inl (cI, 1503, .inl (fun _ => 0))), (u.2.2.2.2.2.1, .inl (cI, 1503, .inl (fun _ => 0))), (u.2.1, .inr (5, [.ref a1_, .ref u.2.2.2.2.2.2.1, .int 0, .int 0, .int 0, .int 0, .ref u.2.2.2.2.2.2.2.1, .int 0, .ref u.2.2.2.2.2.2.2.2.1, .ref u.2.2.2.2.2.2.2.2.2.1, .ref u.2.2.2.2.2.2.2.2.2.2.1, .int 0])), (u.2.2.2.2.2.2.1, .inl (cI, 500, .inl (fun _ => 0))), (u.2.2.2.2.2.2.2.1, .inl (cI, 1500, .inl (fun _ => 0))), (u.2.2.2.2.2.2.2.2.1, .inl (cI, 501, .inl (fun _ => 0))), (u.2.2.2.2.2.2.2.2.2.1, .inl (cI, 501, .inl (fun _ => 0))), (u.2.2.2.2.2.2.2.2.2.2.1, .inl (cI, 501, .inl (fun _ => 0))), (u.2.2.1, .inr (6, [.ref u.1, .ref u.2.1, .ref u.2.2.2.2.2.2.2.2.2.2.2.1, .ref u.2.2.2.2.2.2.2.2.2.2.2.2, .int 0])), (u.2.2.2.2.2.2.2.2.2.2.2.1, .inl (cI, 420, .inl (fun _ => 0))), (u.2.2.2.2.2.2.2.2.2.2.2.2, .inl (cI, 420, .inl (fun _ => 0)))])) 13 8879 (va_A [(a0_, .inr (8, [.null, .null, .null, .null, .int 0, .int 0, .int 0]))] sz) := by
  refine Met.ofW (cc := cX5_init) (maxL := 2) (ret := none) (by decide) rfl ?_
  intro p e s m args below meth c s₁ B hml hv
  obtain ⟨rfl, hsz, hP, hKK, hD0, hFx⟩ := hv
  have hK := hKK.1
  have hx := B.exec
  have hb := B.bytes
  have hr := B.returns
  have ht : ∀ w ∈ tw_W, w.before _ s = true := fun w h => atoms_spec (ws := Cond.code yX5_init cX5_init 2 none :: tw_W) B.pre w (List.mem_cons_of_mem _ h)
  have hown : s.vm.findClass RX5 = some m.cls := findClass_of_methodNamed B.named
  have hlocks := B.notSynchronized
  have hin : meth.name = "<init>" := (name_of_methodNamed B.named B.method).1
  subst hsz
  unfold qv_
  have hD := hD0.self (sz := s.heap.size)
  generalize hAe : va_A [(a0_, .inr (8, [.null, .null, .null, .null, .int 0, .int 0, .int 0]))] s.heap.size = A at hD hFx ⊢
  have hA : ∀ q : Nat, s.heap.size ≤ q → A q := fun q h => by rw [← hAe]; exact Or.inr h
  have hS : va_S A s.heap s.heap [] := va_S.rf
  have hP : va_P (dC, dI) vwCl [(a0_, .inr (8, [.null, .null, .null, .null, .int 0, .int 0, .int 0]))] s.heap := hP
  have hl := lv_entry ([.ref a0_, .ref a1_]) (n := 2) (Nat.le_of_ble_eq_true rfl)
  rw [lg_entry_eq]
  generalize (lg_sl ([.ref a0_, .ref a1_]) ++ List.replicate (2 - (lg_sl ([.ref a0_, .ref a1_])).length) Slot.unset).toArray = ls at hl ⊢
  have hl : lv_has ls 2 [(0, .ref a0_), (1, .ref a1_)] := hl
  refine lv_aload_n hx hb dX5_init_0 rfl (lv_at hl 0 rfl) ?_
  refine W.objInit hx hb hown (ht _ tw_1001) (ht _ tw_359) (ht _ tw_360) rfl (by rw [hml]; exact hl.1) rfl dX5_init_1 (Nat.le_of_ble_eq_true rfl) (Nat.le_of_ble_eq_true rfl) ?_
  refine W.eq (g2 := F0 m 4 ls []) rfl ?_
  refine lv_aload_n hx hb dX5_init_4 rfl (lv_at hl 0 rfl) ?_
  refine lv_aload_n hx hb dX5_init_5 rfl (lv_at hl 1 rfl) ?_
  refine va_put (D := (dC, dI)) (ci := 8) (v := .ref a1_) (ty := .object "PocketCompiler$Program") (C := RX5) (T := TX5) (N := 7) hx hb ht itX5 tyX5 tyX5_ok nmX5 hown hK hP hD hS 0 rfl rfl 0 (by decide) (ht _ tw_588) (fun _ h9 => h9) rfl (by decide +kernel) rfl rfl (Nat.le_of_ble_eq_true rfl) dX5_init_6 (fun H locs hP hD hS => ?_)
  have hP : va_P (dC, dI) vwCl [(a0_, .inr (8, [.ref a1_, .null, .null, .null, .int 0, .int 0, .int 0]))] H := hP
  have hD : va_D A [(a0_, .inr (8, [.ref a1_, .null, .null, .null, .int 0, .int 0, .int 0]))] := hD
  refine lv_aload_n hx hb dX5_init_9 rfl (lv_at hl 0 rfl) ?_
  refine va_new (ci := 12) (fs := [.null, .null, .null, .null, .int 0, .int 0, .int 0, .int 0, .int 0, .int 0]) (C := RX9) (T := TX9) (N := 10) hx hb ht itX9 tyX9 tyX9_ok hown (ht _ tw_1002) (ht _ tw_1003) (ht _ tw_1004) hK hP hD hS hA rfl (by decide +kernel) (Nat.le_of_ble_eq_true rfl) (Nat.le_of_ble_eq_true rfl) dX5_init_10 (fun q1 H hP hD hS => ?_)
  have hP : va_P (dC, dI) vwCl [(a0_, .inr (8, [.ref a1_, .null, .null, .null, .int 0, .int 0, .int 0])), (q1, .inr (12, [.null, .null, .null, .null, .int 0, .int 0, .int 0, .int 0, .int 0, .int 0]))] H := hP
  have hD : va_D A [(a0_, .inr (8, [.ref a1_, .null, .null, .null, .int 0, .int 0, .int 0])), (q1, .inr (12, [.null, .null, .null, .null, .int 0, .int 0, .int 0, .int 0, .int 0, .int 0]))] := hD
  refine W.widen (k := 1) (n := 10) (by omega) (by omega) ?_
  refine lv_dup hx hb dX5_init_13 rfl ?_
  refine lv_aload_n hx hb dX5_init_14 rfl (lv_at hl 1 rfl) ?_
  refine ca_v (wr := [(a0_, .inr (8, [.ref a1_, .null, .null, .null, .int 0, .int 0, .int 0]))]) (rn_I (n := 1) (As := [.ref a1_]) (rest := [.ref q1, .ref a0_]) hx hb hml hown ht hKK hFx hP hD hS hA (c_X9_init l dC dI cI cB cZ cJ cR tb H.size q1 a1_) tw_1005 tw_1006 tw_1007 tw_1008 rfl (by decide +kernel) rfl rfl ⟨Nat.le_of_ble_eq_true rfl, Nat.le_of_ble_eq_true rfl⟩ [1] rfl (by decide) rfl hl.1 rfl (Nat.le_of_ble_eq_true rfl) dX5_init_15 ⟨Nat.le_of_ble_eq_true rfl, Nat.le_of_ble_eq_true rfl⟩) hP hD hS hA (isC := [1]) (isR := [0]) rfl rfl (by decide) (by decide) (fun u H locs hw2 hP hD hS => ?_)
  obtain ⟨q3, q4, q5⟩ := u
  have hP : va_P (dC, dI) vwCl [(a0_, .inr (8, [.ref a1_, .null, .null, .null, .int 0, .int 0, .int 0])), (q1, .inr (12, [.ref a1_, .ref q3, .ref q4, .ref q5, .int 0, .int 0, .int 0, .int 0, .int 0, .int 0])), (q3, .inl (cI, 1503, .inl (fun _ => 0))), (q4, .inl (cI, 1503, .inl (fun _ => 0))), (q5, .inl (cI, 1503, .inl (fun _ => 0)))] H := hP
  have hD : va_D A [(a0_, .inr (8, [.ref a1_, .null, .null, .null, .int 0, .int 0, .int 0])), (q1, .inr (12, [.ref a1_, .ref q3, .ref q4, .ref q5, .int 0, .int 0, .int 0, .int 0, .int 0, .int 0])), (q3, .inl (cI, 1503, .inl (fun _ => 0))), (q4, .inl (cI, 1503, .inl (fun _ => 0))), (q5, .inl (cI, 1503, .inl (fun _ => 0)))] := hD
  refine W.widen (k := 4) (n := 4519) (by omega) (by omega) ?_
  refine va_putF (D := (dC, dI)) (ci := 8) (v := .ref q1) (ty := .object "PocketCompiler$Tokens") (C := RX5) (T := TX5) (N := 7) hx hb ht itX5 tyX5 tyX5_ok nmX5 hown hK hP hD hS 0 rfl rfl 1 (by decide) (ht _ tw_571) (fun _ h9 => h9) rfl hin rfl (by decide +kernel) rfl rfl (Nat.le_of_ble_eq_true rfl) dX5_init_18 (fun H locs hP hD hS => ?_)
  have hP : va_P (dC, dI) vwCl [(a0_, .inr (8, [.ref a1_, .ref q1, .null, .null, .int 0, .int 0, .int 0])), (q1, .inr (12, [.ref a1_, .ref q3, .ref q4, .ref q5, .int 0, .int 0, .int 0, .int 0, .int 0, .int 0])), (q3, .inl (cI, 1503, .inl (fun _ => 0))), (q4, .inl (cI, 1503, .inl (fun _ => 0))), (q5, .inl (cI, 1503, .inl (fun _ => 0)))] H := hP
  have hD : va_D A [(a0_, .inr (8, [.ref a1_, .ref q1, .null, .null, .int 0, .int 0, .int 0])), (q1, .inr (12, [.ref a1_, .ref q3, .ref q4, .ref q5, .int 0, .int 0, .int 0, .int 0, .int 0, .int 0])), (q3, .inl (cI, 1503, .inl (fun _ => 0))), (q4, .inl (cI, 1503, .inl (fun _ => 0))), (q5, .inl (cI, 1503, .inl (fun _ => 0)))] := hD
  refine lv_aload_n hx hb dX5_init_21 rfl (lv_at hl 0 rfl) ?_
  refine va_new (ci := 5) (fs := [.null, .null, .int 0, .int 0, .int 0, .int 0, .null, .int 0, .null, .null, .null, .int 0]) (C := RX1) (T := TX1) (N := 12) hx hb ht itX1 tyX1 tyX1_ok hown (ht _ tw_1009) (ht _ tw_1010) (ht _ tw_1011) hK hP hD hS hA rfl (by decide +kernel) (Nat.le_of_ble_eq_true rfl) (Nat.le_of_ble_eq_true rfl) dX5_init_22 (fun q6 H hP hD hS => ?_)
  have hP : va_P (dC, dI) vwCl [(a0_, .inr (8, [.ref a1_, .ref q1, .null, .null, .int 0, .int 0, .int 0])), (q1, .inr (12, [.ref a1_, .ref q3, .ref q4, .ref q5, .int 0, .int 0, .int 0, .int 0, .int 0, .int 0])), (q3, .inl (cI, 1503, .inl (fun _ => 0))), (q4, .inl (cI, 1503, .inl (fun _ => 0))), (q5, .inl (cI, 1503, .inl (fun _ => 0))), (q6, .inr (5, [.null, .null, .int 0, .int 0, .int 0, .int 0, .null, .int 0, .null, .null, .null, .int 0]))] H := hP
  have hD : va_D A [(a0_, .inr (8, [.ref a1_, .ref q1, .null, .null, .int 0, .int 0, .int 0])), (q1, .inr (12, [.ref a1_, .ref q3, .ref q4, .ref q5, .int 0, .int 0, .int 0, .int 0, .int 0, .int 0])), (q3, .inl (cI, 1503, .inl (fun _ => 0))), (q4, .inl (cI, 1503, .inl (fun _ => 0))), (q5, .inl (cI, 1503, .inl (fun _ => 0))), (q6, .inr (5, [.null, .null, .int 0, .int 0, .int 0, .int 0, .null, .int 0, .null, .null, .null, .int 0]))] := hD
  refine W.widen (k := 5) (n := 4531) (by omega) (by omega) ?_
  refine lv_dup hx hb dX5_init_25 rfl ?_
  refine lv_aload_n hx hb dX5_init_26 rfl (lv_at hl 1 rfl) ?_
  refine ca_v (wr := [(a0_, .inr (8, [.ref a1_, .ref q1, .null, .null, .int 0, .int 0, .int 0])), (q1, .inr (12, [.ref a1_, .ref q3, .ref q4, .ref q5, .int 0, .int 0, .int 0, .int 0, .int 0, .int 0])), (q3, .inl (cI, 1503, .inl (fun _ => 0))), (q4, .inl (cI, 1503, .inl (fun _ => 0))), (q5, .inl (cI, 1503, .inl (fun _ => 0)))]) (rn_I (n := 1) (As := [.ref a1_]) (rest := [.ref q6, .ref a0_]) hx hb hml hown ht hKK hFx hP hD hS hA (c_X1_init l dC dI cI cB cZ cJ cR tb H.size q6 a1_) tw_1012 tw_1013 tw_1014 tw_1015 rfl (by decide +kernel) rfl rfl ⟨Nat.le_of_ble_eq_true rfl, Nat.le_of_ble_eq_true rfl⟩ [5] rfl (by decide) rfl hl.1 rfl (Nat.le_of_ble_eq_true rfl) dX5_init_27 ⟨Nat.le_of_ble_eq_true rfl, Nat.le_of_ble_eq_true rfl⟩) hP hD hS hA (isC := [5]) (isR := [0, 1, 2, 3, 4]) rfl rfl (by decide) (by decide) (fun u H locs hw7 hP hD hS => ?_)
  obtain ⟨q8, q9, q10, q11, q12⟩ := u
  have hP : va_P (dC, dI) vwCl [(a0_, .inr (8, [.ref a1_, .ref q1, .null, .null, .int 0, .int 0, .int 0])), (q1, .inr (12, [.ref a1_, .ref q3, .ref q4, .ref q5, .int 0, .int 0, .int 0, .int 0, .int 0, .int 0])), (q3, .inl (cI, 1503, .inl (fun _ => 0))), (q4, .inl (cI, 1503, .inl (fun _ => 0))), (q5, .inl (cI, 1503, .inl (fun _ => 0))), (q6, .inr (5, [.ref a1_, .ref q8, .int 0, .int 0, .int 0, .int 0, .ref q9, .int 0, .ref q10, .ref q11, .ref q12, .int 0])), (q8, .inl (cI, 500, .inl (fun _ => 0))), (q9, .inl (cI, 1500, .inl (fun _ => 0))), (q10, .inl (cI, 501, .inl (fun _ => 0))), (q11, .inl (cI, 501, .inl (fun _ => 0))), (q12, .inl (cI, 501, .inl (fun _ => 0)))] H := hP
  have hD : va_D A [(a0_, .inr (8, [.ref a1_, .ref q1, .null, .null, .int 0, .int 0, .int 0])), (q1, .inr (12, [.ref a1_, .ref q3, .ref q4, .ref q5, .int 0, .int 0, .int 0, .int 0, .int 0, .int 0])), (q3, .inl (cI, 1503, .inl (fun _ => 0))), (q4, .inl (cI, 1503, .inl (fun _ => 0))), (q5, .inl (cI, 1503, .inl (fun _ => 0))), (q6, .inr (5, [.ref a1_, .ref q8, .int 0, .int 0, .int 0, .int 0, .ref q9, .int 0, .ref q10, .ref q11, .ref q12, .int 0])), (q8, .inl (cI, 500, .inl (fun _ => 0))), (q9, .inl (cI, 1500, .inl (fun _ => 0))), (q10, .inl (cI, 501, .inl (fun _ => 0))), (q11, .inl (cI, 501, .inl (fun _ => 0))), (q12, .inl (cI, 501, .inl (fun _ => 0)))] := hD
  refine W.widen (k := 10) (n := 8034) (by omega) (by omega) ?_
  refine va_putF (D := (dC, dI)) (ci := 8) (v := .ref q6) (ty := .object "PocketCompiler$Builder") (C := RX5) (T := TX5) (N := 7) hx hb ht itX5 tyX5 tyX5_ok nmX5 hown hK hP hD hS 0 rfl rfl 2 (by decide) (ht _ tw_573) (fun _ h9 => h9) rfl hin rfl (by decide +kernel) rfl rfl (Nat.le_of_ble_eq_true rfl) dX5_init_30 (fun H locs hP hD hS => ?_)
  have hP : va_P (dC, dI) vwCl [(a0_, .inr (8, [.ref a1_, .ref q1, .ref q6, .null, .int 0, .int 0, .int 0])), (q1, .inr (12, [.ref a1_, .ref q3, .ref q4, .ref q5, .int 0, .int 0, .int 0, .int 0, .int 0, .int 0])), (q3, .inl (cI, 1503, .inl (fun _ => 0))), (q4, .inl (cI, 1503, .inl (fun _ => 0))), (q5, .inl (cI, 1503, .inl (fun _ => 0))), (q6, .inr (5, [.ref a1_, .ref q8, .int 0, .int 0, .int 0, .int 0, .ref q9, .int 0, .ref q10, .ref q11, .ref q12, .int 0])), (q8, .inl (cI, 500, .inl (fun _ => 0))), (q9, .inl (cI, 1500, .inl (fun _ => 0))), (q10, .inl (cI, 501, .inl (fun _ => 0))), (q11, .inl (cI, 501, .inl (fun _ => 0))), (q12, .inl (cI, 501, .inl (fun _ => 0)))] H := hP
  have hD : va_D A [(a0_, .inr (8, [.ref a1_, .ref q1, .ref q6, .null, .int 0, .int 0, .int 0])), (q1, .inr (12, [.ref a1_, .ref q3, .ref q4, .ref q5, .int 0, .int 0, .int 0, .int 0, .int 0, .int 0])), (q3, .inl (cI, 1503, .inl (fun _ => 0))), (q4, .inl (cI, 1503, .inl (fun _ => 0))), (q5, .inl (cI, 1503, .inl (fun _ => 0))), (q6, .inr (5, [.ref a1_, .ref q8, .int 0, .int 0, .int 0, .int 0, .ref q9, .int 0, .ref q10, .ref q11, .ref q12, .int 0])), (q8, .inl (cI, 500, .inl (fun _ => 0))), (q9, .inl (cI, 1500, .inl (fun _ => 0))), (q10, .inl (cI, 501, .inl (fun _ => 0))), (q11, .inl (cI, 501, .inl (fun _ => 0))), (q12, .inl (cI, 501, .inl (fun _ => 0)))] := hD
  refine lv_aload_n hx hb dX5_init_33 rfl (lv_at hl 0 rfl) ?_
  refine va_new (ci := 6) (fs := [.null, .null, .null, .null, .int 0]) (C := RX2) (T := TX2) (N := 5) hx hb ht itX2 tyX2 tyX2_ok hown (ht _ tw_1016) (ht _ tw_1017) (ht _ tw_1018) hK hP hD hS hA rfl (by decide +kernel) (Nat.le_of_ble_eq_true rfl) (Nat.le_of_ble_eq_true rfl) dX5_init_34 (fun q13 H hP hD hS => ?_)
  have hP : va_P (dC, dI) vwCl [(a0_, .inr (8, [.ref a1_, .ref q1, .ref q6, .null, .int 0, .int 0, .int 0])), (q1, .inr (12, [.ref a1_, .ref q3, .ref q4, .ref q5, .int 0, .int 0, .int 0, .int 0, .int 0, .int 0])), (q3, .inl (cI, 1503, .inl (fun _ => 0))), (q4, .inl (cI, 1503, .inl (fun _ => 0))), (q5, .inl (cI, 1503, .inl (fun _ => 0))), (q6, .inr (5, [.ref a1_, .ref q8, .int 0, .int 0, .int 0, .int 0, .ref q9, .int 0, .ref q10, .ref q11, .ref q12, .int 0])), (q8, .inl (cI, 500, .inl (fun _ => 0))), (q9, .inl (cI, 1500, .inl (fun _ => 0))), (q10, .inl (cI, 501, .inl (fun _ => 0))), (q11, .inl (cI, 501, .inl (fun _ => 0))), (q12, .inl (cI, 501, .inl (fun _ => 0))), (q13, .inr (6, [.null, .null, .null, .null, .int 0]))] H := hP
  have hD : va_D A [(a0_, .inr (8, [.ref a1_, .ref q1, .ref q6, .null, .int 0, .int 0, .int 0])), (q1, .inr (12, [.ref a1_, .ref q3, .ref q4, .ref q5, .int 0, .int 0, .int 0, .int 0, .int 0, .int 0])), (q3, .inl (cI, 1503, .inl (fun _ => 0))), (q4, .inl (cI, 1503, .inl (fun _ => 0))), (q5, .inl (cI, 1503, .inl (fun _ => 0))), (q6, .inr (5, [.ref a1_, .ref q8, .int 0, .int 0, .int 0, .int 0, .ref q9, .int 0, .ref q10, .ref q11, .ref q12, .int 0])), (q8, .inl (cI, 500, .inl (fun _ => 0))), (q9, .inl (cI, 1500, .inl (fun _ => 0))), (q10, .inl (cI, 501, .inl (fun _ => 0))), (q11, .inl (cI, 501, .inl (fun _ => 0))), (q12, .inl (cI, 501, .inl (fun _ => 0))), (q13, .inr (6, [.null, .null, .null, .null, .int 0]))] := hD
  refine W.widen (k := 11) (n := 8039) (by omega) (by omega) ?_
  refine lv_dup hx hb dX5_init_37 rfl ?_
  refine lv_aload_n hx hb dX5_init_38 rfl (lv_at hl 0 rfl) ?_
  refine va_get (D := (dC, dI)) (ci := 8) (v := .ref q1) (C := RX5) (T := TX5) (N := 7) hx hb ht itX5 hown hK hP 0 rfl rfl 1 (by decide) (ht _ tw_571) (fun _ h9 => h9) rfl dX5_init_39 ?_
  refine lv_aload_n hx hb dX5_init_42 rfl (lv_at hl 0 rfl) ?_
  refine va_get (D := (dC, dI)) (ci := 8) (v := .ref q6) (C := RX5) (T := TX5) (N := 7) hx hb ht itX5 hown hK hP 0 rfl rfl 2 (by decide) (ht _ tw_573) (fun _ h9 => h9) rfl dX5_init_43 ?_
  refine ca_v (wr := [(a0_, .inr (8, [.ref a1_, .ref q1, .ref q6, .null, .int 0, .int 0, .int 0])), (q1, .inr (12, [.ref a1_, .ref q3, .ref q4, .ref q5, .int 0, .int 0, .int 0, .int 0, .int 0, .int 0])), (q3, .inl (cI, 1503, .inl (fun _ => 0))), (q4, .inl (cI, 1503, .inl (fun _ => 0))), (q5, .inl (cI, 1503, .inl (fun _ => 0))), (q6, .inr (5, [.ref a1_, .ref q8, .int 0, .int 0, .int 0, .int 0, .ref q9, .int 0, .ref q10, .ref q11, .ref q12, .int 0])), (q8, .inl (cI, 500, .inl (fun _ => 0))), (q9, .inl (cI, 1500, .inl (fun _ => 0))), (q10, .inl (cI, 501, .inl (fun _ => 0))), (q11, .inl (cI, 501, .inl (fun _ => 0))), (q12, .inl (cI, 501, .inl (fun _ => 0)))]) (rn_I (n := 2) (As := [.ref q1, .ref q6]) (rest := [.ref q13, .ref a0_]) hx hb hml hown ht hKK hFx hP hD hS hA (c_X2_init l dC dI cI cB cZ cJ cR tb H.size q13 q1 q6) tw_1019 tw_1020 tw_1021 tw_1022 rfl (by decide +kernel) rfl rfl ⟨Nat.le_of_ble_eq_true rfl, Nat.le_of_ble_eq_true rfl⟩ [11] rfl (by decide) rfl hl.1 rfl (Nat.le_of_ble_eq_true rfl) dX5_init_46 ⟨Nat.le_of_ble_eq_true rfl, Nat.le_of_ble_eq_true rfl⟩) hP hD hS hA (isC := [11]) (isR := [0, 1, 2, 3, 4, 5, 6, 7, 8, 9, 10]) rfl rfl (by decide) (by decide) (fun u H locs hw14 hP hD hS => ?_)
  obtain ⟨q15, q16⟩ := u
  have hP : va_P (dC, dI) vwCl [(a0_, .inr (8, [.ref a1_, .ref q1, .ref q6, .null, .int 0, .int 0, .int 0])), (q1, .inr (12, [.ref a1_, .ref q3, .ref q4, .ref q5, .int 0, .int 0, .int 0, .int 0, .int 0, .int 0])), (q3, .inl (cI, 1503, .inl (fun _ => 0))), (q4, .inl (cI, 1503, .inl (fun _ => 0))), (q5, .inl (cI, 1503, .inl (fun _ => 0))), (q6, .inr (5, [.ref a1_, .ref q8, .int 0, .int 0, .int 0, .int 0, .ref q9, .int 0, .ref q10, .ref q11, .ref q12, .int 0])), (q8, .inl (cI, 500, .inl (fun _ => 0))), (q9, .inl (cI, 1500, .inl (fun _ => 0))), (q10, .inl (cI, 501, .inl (fun _ => 0))), (q11, .inl (cI, 501, .inl (fun _ => 0))), (q12, .inl (cI, 501, .inl (fun _ => 0))), (q13, .inr (6, [.ref q1, .ref q6, .ref q15, .ref q16, .int 0])), (q15, .inl (cI, 420, .inl (fun _ => 0))), (q16, .inl (cI, 420, .inl (fun _ => 0)))] H := hP
  have hD : va_D A [(a0_, .inr (8, [.ref a1_, .ref q1, .ref q6, .null, .int 0, .int 0, .int 0])), (q1, .inr (12, [.ref a1_, .ref q3, .ref q4, .ref q5, .int 0, .int 0, .int 0, .int 0, .int 0, .int 0])), (q3, .inl (cI, 1503, .inl (fun _ => 0))), (q4, .inl (cI, 1503, .inl (fun _ => 0))), (q5, .inl (cI, 1503, .inl (fun _ => 0))), (q6, .inr (5, [.ref a1_, .ref q8, .int 0, .int 0, .int 0, .int 0, .ref q9, .int 0, .ref q10, .ref q11, .ref q12, .int 0])), (q8, .inl (cI, 500, .inl (fun _ => 0))), (q9, .inl (cI, 1500, .inl (fun _ => 0))), (q10, .inl (cI, 501, .inl (fun _ => 0))), (q11, .inl (cI, 501, .inl (fun _ => 0))), (q12, .inl (cI, 501, .inl (fun _ => 0))), (q13, .inr (6, [.ref q1, .ref q6, .ref q15, .ref q16, .int 0])), (q15, .inl (cI, 420, .inl (fun _ => 0))), (q16, .inl (cI, 420, .inl (fun _ => 0)))] := hD
  refine W.widen (k := 13) (n := 8879) (by omega) (by omega) ?_
  refine va_putF (D := (dC, dI)) (ci := 8) (v := .ref q13) (ty := .object "PocketCompiler$Expressions") (C := RX5) (T := TX5) (N := 7) hx hb ht itX5 tyX5 tyX5_ok nmX5 hown hK hP hD hS 0 rfl rfl 3 (by decide) (ht _ tw_608) (fun _ h9 => h9) rfl hin rfl (by decide +kernel) rfl rfl (Nat.le_of_ble_eq_true rfl) dX5_init_49 (fun H locs hP hD hS => ?_)
  have hP : va_P (dC, dI) vwCl [(a0_, .inr (8, [.ref a1_, .ref q1, .ref q6, .ref q13, .int 0, .int 0, .int 0])), (q1, .inr (12, [.ref a1_, .ref q3, .ref q4, .ref q5, .int 0, .int 0, .int 0, .int 0, .int 0, .int 0])), (q3, .inl (cI, 1503, .inl (fun _ => 0))), (q4, .inl (cI, 1503, .inl (fun _ => 0))), (q5, .inl (cI, 1503, .inl (fun _ => 0))), (q6, .inr (5, [.ref a1_, .ref q8, .int 0, .int 0, .int 0, .int 0, .ref q9, .int 0, .ref q10, .ref q11, .ref q12, .int 0])), (q8, .inl (cI, 500, .inl (fun _ => 0))), (q9, .inl (cI, 1500, .inl (fun _ => 0))), (q10, .inl (cI, 501, .inl (fun _ => 0))), (q11, .inl (cI, 501, .inl (fun _ => 0))), (q12, .inl (cI, 501, .inl (fun _ => 0))), (q13, .inr (6, [.ref q1, .ref q6, .ref q15, .ref q16, .int 0])), (q15, .inl (cI, 420, .inl (fun _ => 0))), (q16, .inl (cI, 420, .inl (fun _ => 0)))] H := hP
  have hD : va_D A [(a0_, .inr (8, [.ref a1_, .ref q1, .ref q6, .ref q13, .int 0, .int 0, .int 0])), (q1, .inr (12, [.ref a1_, .ref q3, .ref q4, .ref q5, .int 0, .int 0, .int 0, .int 0, .int 0, .int 0])), (q3, .inl (cI, 1503, .inl (fun _ => 0))), (q4, .inl (cI, 1503, .inl (fun _ => 0))), (q5, .inl (cI, 1503, .inl (fun _ => 0))), (q6, .inr (5, [.ref a1_, .ref q8, .int 0, .int 0, .int 0, .int 0, .ref q9, .int 0, .ref q10, .ref q11, .ref q12, .int 0])), (q8, .inl (cI, 500, .inl (fun _ => 0))), (q9, .inl (cI, 1500, .inl (fun _ => 0))), (q10, .inl (cI, 501, .inl (fun _ => 0))), (q11, .inl (cI, 501, .inl (fun _ => 0))), (q12, .inl (cI, 501, .inl (fun _ => 0))), (q13, .inr (6, [.ref q1, .ref q6, .ref q15, .ref q16, .int 0])), (q15, .inl (cI, 420, .inl (fun _ => 0))), (q16, .inl (cI, 420, .inl (fun _ => 0)))] := hD
  have hP9 := hP.sub (ws' := [(a0_, .inr (8, [.ref a1_, .ref q1, .ref q6, .ref q13, .int 0, .int 0, .int 0])), (q1, .inr (12, [.ref a1_, .ref q3, .ref q4, .ref q5, .int 0, .int 0, .int 0, .int 0, .int 0, .int 0])), (q3, .inl (cI, 1503, .inl (fun _ => 0))), (q4, .inl (cI, 1503, .inl (fun _ => 0))), (q5, .inl (cI, 1503, .inl (fun _ => 0))), (q6, .inr (5, [.ref a1_, .ref q8, .int 0, .int 0, .int 0, .int 0, .ref q9, .int 0, .ref q10, .ref q11, .ref q12, .int 0])), (q8, .inl (cI, 500, .inl (fun _ => 0))), (q9, .inl (cI, 1500, .inl (fun _ => 0))), (q10, .inl (cI, 501, .inl (fun _ => 0))), (q11, .inl (cI, 501, .inl (fun _ => 0))), (q12, .inl (cI, 501, .inl (fun _ => 0))), (q13, .inr (6, [.ref q1, .ref q6, .ref q15, .ref q16, .int 0])), (q15, .inl (cI, 420, .inl (fun _ => 0))), (q16, .inl (cI, 420, .inl (fun _ => 0)))]) [0, 1, 2, 3, 4, 5, 6, 7, 8, 9, 10, 11, 12, 13] rfl
  have hD9 := hD.sub (ws' := [(a0_, .inr (8, [.ref a1_, .ref q1, .ref q6, .ref q13, .int 0, .int 0, .int 0])), (q1, .inr (12, [.ref a1_, .ref q3, .ref q4, .ref q5, .int 0, .int 0, .int 0, .int 0, .int 0, .int 0])), (q3, .inl (cI, 1503, .inl (fun _ => 0))), (q4, .inl (cI, 1503, .inl (fun _ => 0))), (q5, .inl (cI, 1503, .inl (fun _ => 0))), (q6, .inr (5, [.ref a1_, .ref q8, .int 0, .int 0, .int 0, .int 0, .ref q9, .int 0, .ref q10, .ref q11, .ref q12, .int 0])), (q8, .inl (cI, 500, .inl (fun _ => 0))), (q9, .inl (cI, 1500, .inl (fun _ => 0))), (q10, .inl (cI, 501, .inl (fun _ => 0))), (q11, .inl (cI, 501, .inl (fun _ => 0))), (q12, .inl (cI, 501, .inl (fun _ => 0))), (q13, .inr (6, [.ref q1, .ref q6, .ref q15, .ref q16, .int 0])), (q15, .inl (cI, 420, .inl (fun _ => 0))), (q16, .inl (cI, 420, .inl (fun _ => 0)))]) [0, 1, 2, 3, 4, 5, 6, 7, 8, 9, 10, 11, 12, 13] (by decide) rfl
  refine W.widen (k := 13) (n := 8879) (by omega) (by omega) ?_
  exact W.vret hx hb hr (fun t ht9 hW => ⟨⟨(q1, q6, q13, q3, q4, q5, q8, q9, q10, q11, q12, q15, q16), rfl, trivial, by rw [ht9]; exact hP9, hD9⟩, hS.F ht9⟩) hS.2.2 dX5_init_52
set_option maxHeartbeats 4000000 in
set_option maxRecDepth 100000 in
/-- Assembler -/
theorem c_X0_init (l : Launch) (dC : Nat → ClassId) (dI : Nat → Nat → Nat) (cI cB cZ cJ cR : ClassId) (tb : Nat → Nat) (sz : Nat) (a0_ : Nat) (a1_ : Nat) (N : Nat) (hf_N_0 : 256 ≤ N) (hf_N_1 : N ≤ 4096) : Met l yX0_init (Cond.code yX0_init cX0_init 3 none :: tw_W) ({ frames := 1, cells := 1, slots := 3009, locals := 12 }) (pc_ (dC, dI) (tyS cI cB cZ cJ cR) tb [(a0_, .inr (4, [.null, .int 0, .null, .int 0, .int 0, .int 0, .int 0, .int 0, .int 0]))] sz [.ref a0_, .ref a1_, .int (nI N)]) (qv_ (dC, dI) [(a0_, .inr (4, [.null, .int 0, .null, .int 0, .int 0, .int 0, .int 0, .int 0, .int 0]))] sz (fun (u : Nat) => True) (fun (u : Nat) => [(a0_, .inr (4, [.ref a1_, .int (4 * (nI N)), .ref u, .int 0, .int 0, .int 0, .int 0, .int 0, .int 0])), (u, .inl (cI, 3009, .inl (fun _ => 0)))])) 1 3009 (va_A [(a0_, .inr (4, [.null, .int 0, .null, .int 0, .int 0, .int 0, .int 0, .int 0, .int 0]))] sz) := by
  refine Met.ofW (cc := cX0_init) (maxL := 3) (ret := none) (by decide) rfl ?_
  intro p e s m args below meth c s₁ B hml hv
  obtain ⟨rfl, hsz, hP, hKK, hD0, hFx⟩ := hv
  have hK := hKK.1
  have hx := B.exec
  have hb := B.bytes
  have hr := B.returns
  have ht : ∀ w ∈ tw_W, w.before _ s = true := fun w h => atoms_spec (ws := Cond.code yX0_init cX0_init 3 none :: tw_W) B.pre w (List.mem_cons_of_mem _ h)
  have hown : s.vm.findClass RX0 = some m.cls := findClass_of_methodNamed B.named
  have hlocks := B.notSynchronized
  have hin : meth.name = "<init>" := (name_of_methodNamed B.named B.method).1
  subst hsz
  unfold qv_
  have hD := hD0.self (sz := s.heap.size)
  generalize hAe : va_A [(a0_, .inr (4, [.null, .int 0, .null, .int 0, .int 0, .int 0, .int 0, .int 0, .int 0]))] s.heap.size = A at hD hFx ⊢
  have hA : ∀ q : Nat, s.heap.size ≤ q → A q := fun q h => by rw [← hAe]; exact Or.inr h
  have hS : va_S A s.heap s.heap [] := va_S.rf
  have hP : va_P (dC, dI) vwCl [(a0_, .inr (4, [.null, .int 0, .null, .int 0, .int 0, .int 0, .int 0, .int 0, .int 0]))] s.heap := hP
  have hl := lv_entry ([.ref a0_, .ref a1_, .int (nI N)]) (n := 3) (Nat.le_of_ble_eq_true rfl)
  rw [lg_entry_eq]
  generalize (lg_sl ([.ref a0_, .ref a1_, .int (nI N)]) ++ List.replicate (3 - (lg_sl ([.ref a0_, .ref a1_, .int (nI N)])).length) Slot.unset).toArray = ls at hl ⊢
  have hl : lv_has ls 3 [(0, .ref a0_), (1, .ref a1_), (2, .int (nI N))] := hl
  refine lv_aload_n hx hb dX0_init_0 rfl (lv_at hl 0 rfl) ?_
  refine W.objInit hx hb hown (ht _ tw_1023) (ht _ tw_359) (ht _ tw_360) rfl (by rw [hml]; exact hl.1) rfl dX0_init_1 (Nat.le_of_ble_eq_true rfl) (Nat.le_of_ble_eq_true rfl) ?_
  refine W.eq (g2 := F0 m 4 ls []) rfl ?_
  refine lv_aload_n hx hb dX0_init_4 rfl (lv_at hl 0 rfl) ?_
  refine lv_sipush (v := 3009) hx hb dX0_init_5 (by decide) ?_
  refine va_newE (atype := .int) (ty := .int) (a0 := (3009, .inl (fun _ => 0))) (cE := cI) hx hb (ht _ tw_361) rfl hK hP hD hS hA 0 rfl (fun _ => rfl) (by decide) (by decide) (by decide) (Nat.le_of_ble_eq_true rfl) (Nat.le_of_ble_eq_true rfl) dX0_init_8 (fun q1 H hP hD hS => ?_)
  have hP : va_P (dC, dI) vwCl [(a0_, .inr (4, [.null, .int 0, .null, .int 0, .int 0, .int 0, .int 0, .int 0, .int 0])), (q1, .inl (cI, 3009, .inl (fun _ => 0)))] H := hP
  have hD : va_D A [(a0_, .inr (4, [.null, .int 0, .null, .int 0, .int 0, .int 0, .int 0, .int 0, .int 0])), (q1, .inl (cI, 3009, .inl (fun _ => 0)))] := hD
  refine W.widen (k := 1) (n := 3009) (by omega) (by omega) ?_
  refine va_putF (D := (dC, dI)) (ci := 4) (v := .ref q1) (ty := .array .int) (C := RX0) (T := TX0) (N := 9) hx hb ht itX0 tyX0 tyX0_ok nmX0 hown hK hP hD hS 0 rfl rfl 2 (by decide) (ht _ tw_686) (fun _ h9 => h9) rfl hin rfl (by decide +kernel) rfl rfl (Nat.le_of_ble_eq_true rfl) dX0_init_10 (fun H locs hP hD hS => ?_)
  have hP : va_P (dC, dI) vwCl [(a0_, .inr (4, [.null, .int 0, .ref q1, .int 0, .int 0, .int 0, .int 0, .int 0, .int 0])), (q1, .inl (cI, 3009, .inl (fun _ => 0)))] H := hP
  have hD : va_D A [(a0_, .inr (4, [.null, .int 0, .ref q1, .int 0, .int 0, .int 0, .int 0, .int 0, .int 0])), (q1, .inl (cI, 3009, .inl (fun _ => 0)))] := hD
  refine lv_aload_n hx hb dX0_init_13 rfl (lv_at hl 0 rfl) ?_
  refine lv_aload_n hx hb dX0_init_14 rfl (lv_at hl 1 rfl) ?_
  refine va_put (D := (dC, dI)) (ci := 4) (v := .ref a1_) (ty := .object "PocketCompiler$Program") (C := RX0) (T := TX0) (N := 9) hx hb ht itX0 tyX0 tyX0_ok nmX0 hown hK hP hD hS 0 rfl rfl 0 (by decide) (ht _ tw_674) (fun _ h9 => h9) rfl (by decide +kernel) rfl rfl (Nat.le_of_ble_eq_true rfl) dX0_init_15 (fun H locs hP hD hS => ?_)
  have hP : va_P (dC, dI) vwCl [(a0_, .inr (4, [.ref a1_, .int 0, .ref q1, .int 0, .int 0, .int 0, .int 0, .int 0, .int 0])), (q1, .inl (cI, 3009, .inl (fun _ => 0)))] H := hP
  have hD : va_D A [(a0_, .inr (4, [.ref a1_, .int 0, .ref q1, .int 0, .int 0, .int 0, .int 0, .int 0, .int 0])), (q1, .inl (cI, 3009, .inl (fun _ => 0)))] := hD
  refine lv_aload_n hx hb dX0_init_18 rfl (lv_at hl 0 rfl) ?_
  refine lv_iconst (v := 4) hx hb dX0_init_19 (by decide) ?_
  refine lv_iload_n hx hb dX0_init_20 rfl (lv_at hl 2 rfl) ?_
  refine lv_imul hx hb dX0_init_21 ?_
  refine va_putF (D := (dC, dI)) (ci := 4) (v := .int (4 * (nI N))) (ty := .int) (C := RX0) (T := TX0) (N := 9) hx hb ht itX0 tyX0 tyX0_ok nmX0 hown hK hP hD hS 0 rfl rfl 1 (by decide) (ht _ tw_753) (fun _ h9 => h9) rfl hin rfl (by decide +kernel) rfl rfl (Nat.le_of_ble_eq_true rfl) dX0_init_22 (fun H locs hP hD hS => ?_)
  have hP : va_P (dC, dI) vwCl [(a0_, .inr (4, [.ref a1_, .int (4 * (nI N)), .ref q1, .int 0, .int 0, .int 0, .int 0, .int 0, .int 0])), (q1, .inl (cI, 3009, .inl (fun _ => 0)))] H := hP
  have hD : va_D A [(a0_, .inr (4, [.ref a1_, .int (4 * (nI N)), .ref q1, .int 0, .int 0, .int 0, .int 0, .int 0, .int 0])), (q1, .inl (cI, 3009, .inl (fun _ => 0)))] := hD
  have hP9 := hP.sub (ws' := [(a0_, .inr (4, [.ref a1_, .int (4 * (nI N)), .ref q1, .int 0, .int 0, .int 0, .int 0, .int 0, .int 0])), (q1, .inl (cI, 3009, .inl (fun _ => 0)))]) [0, 1] rfl
  have hD9 := hD.sub (ws' := [(a0_, .inr (4, [.ref a1_, .int (4 * (nI N)), .ref q1, .int 0, .int 0, .int 0, .int 0, .int 0, .int 0])), (q1, .inl (cI, 3009, .inl (fun _ => 0)))]) [0, 1] (by decide) rfl
  refine W.widen (k := 1) (n := 3009) (by omega) (by omega) ?_
  exact W.vret hx hb hr (fun t ht9 hW => ⟨⟨q1, rfl, trivial, by rw [ht9]; exact hP9, hD9⟩, hS.F ht9⟩) hS.2.2 dX0_init_25
set_option maxHeartbeats 4000000 in
set_option maxRecDepth 100000 in
/-- Processor -/
theorem c_X6_init (l : Launch) (dC : Nat → ClassId) (dI : Nat → Nat → Nat) (cI cB cZ cJ cR : ClassId) (tb : Nat → Nat) (sz : Nat) (a0_ : Nat) (N : Nat) (a1_ : Nat) (hf_N_0 : 256 ≤ N) (hf_N_1 : N ≤ 4096) : Met l yX6_init (Cond.code yX6_init cX6_init 3 none :: tw_W) ({ frames := 1, cells := 3, slots := 4328, locals := 12 }) (pc_ (dC, dI) (tyS cI cB cZ cJ cR) tb [(a0_, .inr (9, [.null, .null, .int 0, .int 0, .int 0, .int 0, .null, .int 0, .null]))] sz [.ref a0_, .int (nI N), .ref a1_]) (qv_ (dC, dI) [(a0_, .inr (9, [.null, .null, .int 0, .int 0, .int 0, .int 0, .null, .int 0, .null]))] sz (fun (u : Nat × Nat × Nat) => True) (fun (u : Nat × Nat × Nat) => [(a0_, .inr (9, [.ref u.1, .ref u.2.1, .int 0, .int 0, .int 0, .int 0, .ref u.2.2, .int 0, .ref a1_])), (u.2.1, .inl (cI, 32, .inl (fun _ => 0))), (u.2.2, .inl (cI, 200, .inl (fun _ => 0))), (u.1, .inl (cI, N, .inl (fun _ => 0)))])) 3 4328 (va_A [(a0_, .inr (9, [.null, .null, .int 0, .int 0, .int 0, .int 0, .null, .int 0, .null]))] sz) := by
  refine Met.ofW (cc := cX6_init) (maxL := 3) (ret := none) (by decide) rfl ?_
  intro p e s m args below meth c s₁ B hml hv
  obtain ⟨rfl, hsz, hP, hKK, hD0, hFx⟩ := hv
  have hK := hKK.1
  have hx := B.exec
  have hb := B.bytes
  have hr := B.returns
  have ht : ∀ w ∈ tw_W, w.before _ s = true := fun w h => atoms_spec (ws := Cond.code yX6_init cX6_init 3 none :: tw_W) B.pre w (List.mem_cons_of_mem _ h)
  have hown : s.vm.findClass RX6 = some m.cls := findClass_of_methodNamed B.named
  have hlocks := B.notSynchronized
  have hin : meth.name = "<init>" := (name_of_methodNamed B.named B.method).1
  subst hsz
  unfold qv_
  have hD := hD0.self (sz := s.heap.size)
  generalize hAe : va_A [(a0_, .inr (9, [.null, .null, .int 0, .int 0, .int 0, .int 0, .null, .int 0, .null]))] s.heap.size = A at hD hFx ⊢
  have hA : ∀ q : Nat, s.heap.size ≤ q → A q := fun q h => by rw [← hAe]; exact Or.inr h
  have hS : va_S A s.heap s.heap [] := va_S.rf
  have hP : va_P (dC, dI) vwCl [(a0_, .inr (9, [.null, .null, .int 0, .int 0, .int 0, .int 0, .null, .int 0, .null]))] s.heap := hP
  have hl := lv_entry ([.ref a0_, .int (nI N), .ref a1_]) (n := 3) (Nat.le_of_ble_eq_true rfl)
  rw [lg_entry_eq]
  generalize (lg_sl ([.ref a0_, .int (nI N), .ref a1_]) ++ List.replicate (3 - (lg_sl ([.ref a0_, .int (nI N), .ref a1_])).length) Slot.unset).toArray = ls at hl ⊢
  have hl : lv_has ls 3 [(0, .ref a0_), (1, .int (nI N)), (2, .ref a1_)] := hl
  refine lv_aload_n hx hb dX6_init_0 rfl (lv_at hl 0 rfl) ?_
  refine W.objInit hx hb hown (ht _ tw_1024) (ht _ tw_359) (ht _ tw_360) rfl (by rw [hml]; exact hl.1) rfl dX6_init_1 (Nat.le_of_ble_eq_true rfl) (Nat.le_of_ble_eq_true rfl) ?_
  refine W.eq (g2 := F0 m 4 ls []) rfl ?_
  refine lv_aload_n hx hb dX6_init_4 rfl (lv_at hl 0 rfl) ?_
  refine lv_bipush (v := 32) hx hb dX6_init_5 (by decide) ?_
  refine va_newE (atype := .int) (ty := .int) (a0 := (32, .inl (fun _ => 0))) (cE := cI) hx hb (ht _ tw_361) rfl hK hP hD hS hA 0 rfl (fun _ => rfl) (by decide) (by decide) (by decide) (Nat.le_of_ble_eq_true rfl) (Nat.le_of_ble_eq_true rfl) dX6_init_7 (fun q1 H hP hD hS => ?_)
  have hP : va_P (dC, dI) vwCl [(a0_, .inr (9, [.null, .null, .int 0, .int 0, .int 0, .int 0, .null, .int 0, .null])), (q1, .inl (cI, 32, .inl (fun _ => 0)))] H := hP
  have hD : va_D A [(a0_, .inr (9, [.null, .null, .int 0, .int 0, .int 0, .int 0, .null, .int 0, .null])), (q1, .inl (cI, 32, .inl (fun _ => 0)))] := hD
  refine W.widen (k := 1) (n := 32) (by omega) (by omega) ?_
  refine va_putF (D := (dC, dI)) (ci := 9) (v := .ref q1) (ty := .array .int) (C := RX6) (T := TX6) (N := 9) hx hb ht itX6 tyX6 tyX6_ok nmX6 hown hK hP hD hS 0 rfl rfl 1 (by decide) (ht _ tw_775) (fun _ h9 => h9) rfl hin rfl (by decide +kernel) rfl rfl (Nat.le_of_ble_eq_true rfl) dX6_init_9 (fun H locs hP hD hS => ?_)
  have hP : va_P (dC, dI) vwCl [(a0_, .inr (9, [.null, .ref q1, .int 0, .int 0, .int 0, .int 0, .null, .int 0, .null])), (q1, .inl (cI, 32, .inl (fun _ => 0)))] H := hP
  have hD : va_D A [(a0_, .inr (9, [.null, .ref q1, .int 0, .int 0, .int 0, .int 0, .null, .int 0, .null])), (q1, .inl (cI, 32, .inl (fun _ => 0)))] := hD
  refine lv_aload_n hx hb dX6_init_12 rfl (lv_at hl 0 rfl) ?_
  refine lv_sipush (v := 200) hx hb dX6_init_13 (by decide) ?_
  refine va_newE (atype := .int) (ty := .int) (a0 := (200, .inl (fun _ => 0))) (cE := cI) hx hb (ht _ tw_361) rfl hK hP hD hS hA 0 rfl (fun _ => rfl) (by decide) (by decide) (by decide) (Nat.le_of_ble_eq_true rfl) (Nat.le_of_ble_eq_true rfl) dX6_init_16 (fun q2 H hP hD hS => ?_)
  have hP : va_P (dC, dI) vwCl [(a0_, .inr (9, [.null, .ref q1, .int 0, .int 0, .int 0, .int 0, .null, .int 0, .null])), (q1, .inl (cI, 32, .inl (fun _ => 0))), (q2, .inl (cI, 200, .inl (fun _ => 0)))] H := hP
  have hD : va_D A [(a0_, .inr (9, [.null, .ref q1, .int 0, .int 0, .int 0, .int 0, .null, .int 0, .null])), (q1, .inl (cI, 32, .inl (fun _ => 0))), (q2, .inl (cI, 200, .inl (fun _ => 0)))] := hD
  refine W.widen (k := 2) (n := 232) (by omega) (by omega) ?_
  refine va_putF (D := (dC, dI)) (ci := 9) (v := .ref q2) (ty := .array .int) (C := RX6) (T := TX6) (N := 9) hx hb ht itX6 tyX6 tyX6_ok nmX6 hown hK hP hD hS 0 rfl rfl 6 (by decide) (ht _ tw_804) (fun _ h9 => h9) rfl hin rfl (by decide +kernel) rfl rfl (Nat.le_of_ble_eq_true rfl) dX6_init_18 (fun H locs hP hD hS => ?_)
  have hP : va_P (dC, dI) vwCl [(a0_, .inr (9, [.null, .ref q1, .int 0, .int 0, .int 0, .int 0, .ref q2, .int 0, .null])), (q1, .inl (cI, 32, .inl (fun _ => 0))), (q2, .inl (cI, 200, .inl (fun _ => 0)))] H := hP
  have hD : va_D A [(a0_, .inr (9, [.null, .ref q1, .int 0, .int 0, .int 0, .int 0, .ref q2, .int 0, .null])), (q1, .inl (cI, 32, .inl (fun _ => 0))), (q2, .inl (cI, 200, .inl (fun _ => 0)))] := hD
  refine lv_aload_n hx hb dX6_init_21 rfl (lv_at hl 0 rfl) ?_
  refine lv_iload_n hx hb dX6_init_22 rfl (lv_at hl 1 rfl) ?_
  refine va_newE (atype := .int) (ty := .int) (a0 := (N, .inl (fun _ => 0))) (cE := cI) hx hb (ht _ tw_361) rfl hK hP hD hS hA 0 rfl (fun _ => rfl) (nI_pos (by omega)) (nI_clamp (by omega)) (show N * 4 ≤ 536870912 by omega) (Nat.le_of_ble_eq_true rfl) (show 232 + N ≤ 4328 by omega) dX6_init_23 (fun q3 H hP hD hS => ?_)
  have hP : va_P (dC, dI) vwCl [(a0_, .inr (9, [.null, .ref q1, .int 0, .int 0, .int 0, .int 0, .ref q2, .int 0, .null])), (q1, .inl (cI, 32, .inl (fun _ => 0))), (q2, .inl (cI, 200, .inl (fun _ => 0))), (q3, .inl (cI, N, .inl (fun _ => 0)))] H := hP
  have hD : va_D A [(a0_, .inr (9, [.null, .ref q1, .int 0, .int 0, .int 0, .int 0, .ref q2, .int 0, .null])), (q1, .inl (cI, 32, .inl (fun _ => 0))), (q2, .inl (cI, 200, .inl (fun _ => 0))), (q3, .inl (cI, N, .inl (fun _ => 0)))] := hD
  refine W.widen (k := 3) (n := 4328) (by omega) (by omega) ?_
  refine va_putF (D := (dC, dI)) (ci := 9) (v := .ref q3) (ty := .array .int) (C := RX6) (T := TX6) (N := 9) hx hb ht itX6 tyX6 tyX6_ok nmX6 hown hK hP hD hS 0 rfl rfl 0 (by decide) (ht _ tw_774) (fun _ h9 => h9) rfl hin rfl (by decide +kernel) rfl rfl (Nat.le_of_ble_eq_true rfl) dX6_init_25 (fun H locs hP hD hS => ?_)
  have hP : va_P (dC, dI) vwCl [(a0_, .inr (9, [.ref q3, .ref q1, .int 0, .int 0, .int 0, .int 0, .ref q2, .int 0, .null])), (q1, .inl (cI, 32, .inl (fun _ => 0))), (q2, .inl (cI, 200, .inl (fun _ => 0))), (q3, .inl (cI, N, .inl (fun _ => 0)))] H := hP
  have hD : va_D A [(a0_, .inr (9, [.ref q3, .ref q1, .int 0, .int 0, .int 0, .int 0, .ref q2, .int 0, .null])), (q1, .inl (cI, 32, .inl (fun _ => 0))), (q2, .inl (cI, 200, .inl (fun _ => 0))), (q3, .inl (cI, N, .inl (fun _ => 0)))] := hD
  refine lv_aload_n hx hb dX6_init_28 rfl (lv_at hl 0 rfl) ?_
  refine lv_aload_n hx hb dX6_init_29 rfl (lv_at hl 2 rfl) ?_
  refine va_putF (D := (dC, dI)) (ci := 9) (v := .ref a1_) (ty := .object "PocketCompiler$Gifts") (C := RX6) (T := TX6) (N := 9) hx hb ht itX6 tyX6 tyX6_ok nmX6 hown hK hP hD hS 0 rfl rfl 8 (by decide) (ht _ tw_800) (fun _ h9 => h9) rfl hin rfl (by decide +kernel) rfl rfl (Nat.le_of_ble_eq_true rfl) dX6_init_30 (fun H locs hP hD hS => ?_)
  have hP : va_P (dC, dI) vwCl [(a0_, .inr (9, [.ref q3, .ref q1, .int 0, .int 0, .int 0, .int 0, .ref q2, .int 0, .ref a1_])), (q1, .inl (cI, 32, .inl (fun _ => 0))), (q2, .inl (cI, 200, .inl (fun _ => 0))), (q3, .inl (cI, N, .inl (fun _ => 0)))] H := hP
  have hD : va_D A [(a0_, .inr (9, [.ref q3, .ref q1, .int 0, .int 0, .int 0, .int 0, .ref q2, .int 0, .ref a1_])), (q1, .inl (cI, 32, .inl (fun _ => 0))), (q2, .inl (cI, 200, .inl (fun _ => 0))), (q3, .inl (cI, N, .inl (fun _ => 0)))] := hD
  have hP9 := hP.sub (ws' := [(a0_, .inr (9, [.ref q3, .ref q1, .int 0, .int 0, .int 0, .int 0, .ref q2, .int 0, .ref a1_])), (q1, .inl (cI, 32, .inl (fun _ => 0))), (q2, .inl (cI, 200, .inl (fun _ => 0))), (q3, .inl (cI, N, .inl (fun _ => 0)))]) [0, 1, 2, 3] rfl
  have hD9 := hD.sub (ws' := [(a0_, .inr (9, [.ref q3, .ref q1, .int 0, .int 0, .int 0, .int 0, .ref q2, .int 0, .ref a1_])), (q1, .inl (cI, 32, .inl (fun _ => 0))), (q2, .inl (cI, 200, .inl (fun _ => 0))), (q3, .inl (cI, N, .inl (fun _ => 0)))]) [0, 1, 2, 3] (by decide) rfl
  refine W.widen (k := 3) (n := 4328) (by omega) (by omega) ?_
  exact W.vret hx hb hr (fun t ht9 hW => ⟨⟨(q3, q1, q2), rfl, trivial, by rw [ht9]; exact hP9, hD9⟩, hS.F ht9⟩) hS.2.2 dX6_init_33
set_option maxHeartbeats 4000000 in
set_option maxRecDepth 100000 in
/-- Worker -/
theorem c_X10_init (l : Launch) (dC : Nat → ClassId) (dI : Nat → Nat → Nat) (cI cB cZ cJ cR : ClassId) (tb : Nat → Nat) (sz : Nat) (a0_ : Nat) (a1_ : Nat) (N : Nat) (a2_ : Nat) (hf_N_0 : 256 ≤ N) (hf_N_1 : N ≤ 4096) : Met l yX10_init (Cond.code yX10_init cX10_init 4 none :: tw_W) ({ frames := 1, cells := 3, slots := 8392, locals := 12 }) (pc_ (dC, dI) (tyS cI cB cZ cJ cR) tb [(a0_, .inr (13, [.null, .null, .int 0, .null, .null, .null, .int 0, .int 0, .int 0, .int 0, .int 0, .int 0, .int 0, .int 0, .int 0, .int 0, .int 0]))] sz [.ref a0_, .ref a1_, .int (nI N), .ref a2_]) (qv_ (dC, dI) [(a0_, .inr (13, [.null, .null, .int 0, .null, .null, .null, .int 0, .int 0, .int 0, .int 0, .int 0, .int 0, .int 0, .int 0, .int 0, .int 0, .int 0]))] sz (fun (u : Nat × Nat × Nat) => True) (fun (u : Nat × Nat × Nat) => [(a0_, .inr (13, [.ref a1_, .ref a2_, .int (4 * (nI N)), .ref u.1, .ref u.2.1, .ref u.2.2, .int 0, .int 0, .int 0, .int 0, .int 0, .int 0, .int 0, .int 0, .int 0, .int 0, .int 0])), (u.2.2, .inl (cI, 200, .inl (fun _ => 0))), (u.1, .inl (cI, N, .inl (fun _ => 0))), (u.2.1, .inl (cI, N, .inl (fun _ => 0)))])) 3 8392 (va_A [(a0_, .inr (13, [.null, .null, .int 0, .null, .null, .null, .int 0, .int 0, .int 0, .int 0, .int 0, .int 0, .int 0, .int 0, .int 0, .int 0, .int 0]))] sz) := by
  refine Met.ofW (cc := cX10_init) (maxL := 4) (ret := none) (by decide) rfl ?_
  intro p e s m args below meth c s₁ B hml hv
  obtain ⟨rfl, hsz, hP, hKK, hD0, hFx⟩ := hv
  have hK := hKK.1
  have hx := B.exec
  have hb := B.bytes
  have hr := B.returns
  have ht : ∀ w ∈ tw_W, w.before _ s = true := fun w h => atoms_spec (ws := Cond.code yX10_init cX10_init 4 none :: tw_W) B.pre w (List.mem_cons_of_mem _ h)
  have hown : s.vm.findClass RX10 = some m.cls := findClass_of_methodNamed B.named
  have hlocks := B.notSynchronized
  have hin : meth.name = "<init>" := (name_of_methodNamed B.named B.method).1
  subst hsz
  unfold qv_
  have hD := hD0.self (sz := s.heap.size)
  generalize hAe : va_A [(a0_, .inr (13, [.null, .null, .int 0, .null, .null, .null, .int 0, .int 0, .int 0, .int 0, .int 0, .int 0, .int 0, .int 0, .int 0, .int 0, .int 0]))] s.heap.size = A at hD hFx ⊢
  have hA : ∀ q : Nat, s.heap.size ≤ q → A q := fun q h => by rw [← hAe]; exact Or.inr h
  have hS : va_S A s.heap s.heap [] := va_S.rf
  have hP : va_P (dC, dI) vwCl [(a0_, .inr (13, [.null, .null, .int 0, .null, .null, .null, .int 0, .int 0, .int 0, .int 0, .int 0, .int 0, .int 0, .int 0, .int 0, .int 0, .int 0]))] s.heap := hP
  have hl := lv_entry ([.ref a0_, .ref a1_, .int (nI N), .ref a2_]) (n := 4) (Nat.le_of_ble_eq_true rfl)
  rw [lg_entry_eq]
  generalize (lg_sl ([.ref a0_, .ref a1_, .int (nI N), .ref a2_]) ++ List.replicate (4 - (lg_sl ([.ref a0_, .ref a1_, .int (nI N), .ref a2_])).length) Slot.unset).toArray = ls at hl ⊢
  have hl : lv_has ls 4 [(0, .ref a0_), (1, .ref a1_), (2, .int (nI N)), (3, .ref a2_)] := hl
  refine lv_aload_n hx hb dX10_init_0 rfl (lv_at hl 0 rfl) ?_
  refine W.objInit hx hb hown (ht _ tw_1025) (ht _ tw_359) (ht _ tw_360) rfl (by rw [hml]; exact hl.1) rfl dX10_init_1 (Nat.le_of_ble_eq_true rfl) (Nat.le_of_ble_eq_true rfl) ?_
  refine W.eq (g2 := F0 m 4 ls []) rfl ?_
  refine lv_aload_n hx hb dX10_init_4 rfl (lv_at hl 0 rfl) ?_
  refine lv_sipush (v := 200) hx hb dX10_init_5 (by decide) ?_
  refine va_newE (atype := .int) (ty := .int) (a0 := (200, .inl (fun _ => 0))) (cE := cI) hx hb (ht _ tw_361) rfl hK hP hD hS hA 0 rfl (fun _ => rfl) (by decide) (by decide) (by decide) (Nat.le_of_ble_eq_true rfl) (Nat.le_of_ble_eq_true rfl) dX10_init_8 (fun q1 H hP hD hS => ?_)
  have hP : va_P (dC, dI) vwCl [(a0_, .inr (13, [.null, .null, .int 0, .null, .null, .null, .int 0, .int 0, .int 0, .int 0, .int 0, .int 0, .int 0, .int 0, .int 0, .int 0, .int 0])), (q1, .inl (cI, 200, .inl (fun _ => 0)))] H := hP
  have hD : va_D A [(a0_, .inr (13, [.null, .null, .int 0, .null, .null, .null, .int 0, .int 0, .int 0, .int 0, .int 0, .int 0, .int 0, .int 0, .int 0, .int 0, .int 0])), (q1, .inl (cI, 200, .inl (fun _ => 0)))] := hD
  refine W.widen (k := 1) (n := 200) (by omega) (by omega) ?_
  refine va_putF (D := (dC, dI)) (ci := 13) (v := .ref q1) (ty := .array .int) (C := RX10) (T := TX10) (N := 17) hx hb ht itX10 tyX10 tyX10_ok nmX10 hown hK hP hD hS 0 rfl rfl 5 (by decide) (ht _ tw_886) (fun _ h9 => h9) rfl hin rfl (by decide +kernel) rfl rfl (Nat.le_of_ble_eq_true rfl) dX10_init_10 (fun H locs hP hD hS => ?_)
  have hP : va_P (dC, dI) vwCl [(a0_, .inr (13, [.null, .null, .int 0, .null, .null, .ref q1, .int 0, .int 0, .int 0, .int 0, .int 0, .int 0, .int 0, .int 0, .int 0, .int 0, .int 0])), (q1, .inl (cI, 200, .inl (fun _ => 0)))] H := hP
  have hD : va_D A [(a0_, .inr (13, [.null, .null, .int 0, .null, .null, .ref q1, .int 0, .int 0, .int 0, .int 0, .int 0, .int 0, .int 0, .int 0, .int 0, .int 0, .int 0])), (q1, .inl (cI, 200, .inl (fun _ => 0)))] := hD
  refine lv_aload_n hx hb dX10_init_13 rfl (lv_at hl 0 rfl) ?_
  refine lv_aload_n hx hb dX10_init_14 rfl (lv_at hl 1 rfl) ?_
  refine va_put (D := (dC, dI)) (ci := 13) (v := .ref a1_) (ty := .object "PocketCompiler$Program") (C := RX10) (T := TX10) (N := 17) hx hb ht itX10 tyX10 tyX10_ok nmX10 hown hK hP hD hS 0 rfl rfl 0 (by decide) (ht _ tw_857) (fun _ h9 => h9) rfl (by decide +kernel) rfl rfl (Nat.le_of_ble_eq_true rfl) dX10_init_15 (fun H locs hP hD hS => ?_)
  have hP : va_P (dC, dI) vwCl [(a0_, .inr (13, [.ref a1_, .null, .int 0, .null, .null, .ref q1, .int 0, .int 0, .int 0, .int 0, .int 0, .int 0, .int 0, .int 0, .int 0, .int 0, .int 0])), (q1, .inl (cI, 200, .inl (fun _ => 0)))] H := hP
  have hD : va_D A [(a0_, .inr (13, [.ref a1_, .null, .int 0, .null, .null, .ref q1, .int 0, .int 0, .int 0, .int 0, .int 0, .int 0, .int 0, .int 0, .int 0, .int 0, .int 0])), (q1, .inl (cI, 200, .inl (fun _ => 0)))] := hD
  refine lv_aload_n hx hb dX10_init_18 rfl (lv_at hl 0 rfl) ?_
  refine lv_aload_n hx hb dX10_init_19 rfl (lv_at hl 3 rfl) ?_
  refine va_putF (D := (dC, dI)) (ci := 13) (v := .ref a2_) (ty := .object "PocketCompiler$Gifts") (C := RX10) (T := TX10) (N := 17) hx hb ht itX10 tyX10 tyX10_ok nmX10 hown hK hP hD hS 0 rfl rfl 1 (by decide) (ht _ tw_903) (fun _ h9 => h9) rfl hin rfl (by decide +kernel) rfl rfl (Nat.le_of_ble_eq_true rfl) dX10_init_20 (fun H locs hP hD hS => ?_)
  have hP : va_P (dC, dI) vwCl [(a0_, .inr (13, [.ref a1_, .ref a2_, .int 0, .null, .null, .ref q1, .int 0, .int 0, .int 0, .int 0, .int 0, .int 0, .int 0, .int 0, .int 0, .int 0, .int 0])), (q1, .inl (cI, 200, .inl (fun _ => 0)))] H := hP
  have hD : va_D A [(a0_, .inr (13, [.ref a1_, .ref a2_, .int 0, .null, .null, .ref q1, .int 0, .int 0, .int 0, .int 0, .int 0, .int 0, .int 0, .int 0, .int 0, .int 0, .int 0])), (q1, .inl (cI, 200, .inl (fun _ => 0)))] := hD
  refine lv_aload_n hx hb dX10_init_23 rfl (lv_at hl 0 rfl) ?_
  refine lv_iconst (v := 4) hx hb dX10_init_24 (by decide) ?_
  refine lv_iload_n hx hb dX10_init_25 rfl (lv_at hl 2 rfl) ?_
  refine lv_imul hx hb dX10_init_26 ?_
  refine va_putF (D := (dC, dI)) (ci := 13) (v := .int (4 * (nI N))) (ty := .int) (C := RX10) (T := TX10) (N := 17) hx hb ht itX10 tyX10 tyX10_ok nmX10 hown hK hP hD hS 0 rfl rfl 2 (by decide) (ht _ tw_860) (fun _ h9 => h9) rfl hin rfl (by decide +kernel) rfl rfl (Nat.le_of_ble_eq_true rfl) dX10_init_27 (fun H locs hP hD hS => ?_)
  have hP : va_P (dC, dI) vwCl [(a0_, .inr (13, [.ref a1_, .ref a2_, .int (4 * (nI N)), .null, .null, .ref q1, .int 0, .int 0, .int 0, .int 0, .int 0, .int 0, .int 0, .int 0, .int 0, .int 0, .int 0])), (q1, .inl (cI, 200, .inl (fun _ => 0)))] H := hP
  have hD : va_D A [(a0_, .inr (13, [.ref a1_, .ref a2_, .int (4 * (nI N)), .null, .null, .ref q1, .int 0, .int 0, .int 0, .int 0, .int 0, .int 0, .int 0, .int 0, .int 0, .int 0, .int 0])), (q1, .inl (cI, 200, .inl (fun _ => 0)))] := hD
  refine lv_aload_n hx hb dX10_init_30 rfl (lv_at hl 0 rfl) ?_
  refine lv_iload_n hx hb dX10_init_31 rfl (lv_at hl 2 rfl) ?_
  refine va_newE (atype := .int) (ty := .int) (a0 := (N, .inl (fun _ => 0))) (cE := cI) hx hb (ht _ tw_361) rfl hK hP hD hS hA 0 rfl (fun _ => rfl) (nI_pos (by omega)) (nI_clamp (by omega)) (show N * 4 ≤ 536870912 by omega) (Nat.le_of_ble_eq_true rfl) (show 200 + N ≤ 8392 by omega) dX10_init_32 (fun q2 H hP hD hS => ?_)
  have hP : va_P (dC, dI) vwCl [(a0_, .inr (13, [.ref a1_, .ref a2_, .int (4 * (nI N)), .null, .null, .ref q1, .int 0, .int 0, .int 0, .int 0, .int 0, .int 0, .int 0, .int 0, .int 0, .int 0, .int 0])), (q1, .inl (cI, 200, .inl (fun _ => 0))), (q2, .inl (cI, N, .inl (fun _ => 0)))] H := hP
  have hD : va_D A [(a0_, .inr (13, [.ref a1_, .ref a2_, .int (4 * (nI N)), .null, .null, .ref q1, .int 0, .int 0, .int 0, .int 0, .int 0, .int 0, .int 0, .int 0, .int 0, .int 0, .int 0])), (q1, .inl (cI, 200, .inl (fun _ => 0))), (q2, .inl (cI, N, .inl (fun _ => 0)))] := hD
  refine W.widen (k := 2) (n := 4296) (by omega) (by omega) ?_
  refine va_putF (D := (dC, dI)) (ci := 13) (v := .ref q2) (ty := .array .int) (C := RX10) (T := TX10) (N := 17) hx hb ht itX10 tyX10 tyX10_ok nmX10 hown hK hP hD hS 0 rfl rfl 3 (by decide) (ht _ tw_848) (fun _ h9 => h9) rfl hin rfl (by decide +kernel) rfl rfl (Nat.le_of_ble_eq_true rfl) dX10_init_34 (fun H locs hP hD hS => ?_)
  have hP : va_P (dC, dI) vwCl [(a0_, .inr (13, [.ref a1_, .ref a2_, .int (4 * (nI N)), .ref q2, .null, .ref q1, .int 0, .int 0, .int 0, .int 0, .int 0, .int 0, .int 0, .int 0, .int 0, .int 0, .int 0])), (q1, .inl (cI, 200, .inl (fun _ => 0))), (q2, .inl (cI, N, .inl (fun _ => 0)))] H := hP
  have hD : va_D A [(a0_, .inr (13, [.ref a1_, .ref a2_, .int (4 * (nI N)), .ref q2, .null, .ref q1, .int 0, .int 0, .int 0, .int 0, .int 0, .int 0, .int 0, .int 0, .int 0, .int 0, .int 0])), (q1, .inl (cI, 200, .inl (fun _ => 0))), (q2, .inl (cI, N, .inl (fun _ => 0)))] := hD
  refine lv_aload_n hx hb dX10_init_37 rfl (lv_at hl 0 rfl) ?_
  refine lv_iload_n hx hb dX10_init_38 rfl (lv_at hl 2 rfl) ?_
  refine va_newE (atype := .int) (ty := .int) (a0 := (N, .inl (fun _ => 0))) (cE := cI) hx hb (ht _ tw_361) rfl hK hP hD hS hA 0 rfl (fun _ => rfl) (nI_pos (by omega)) (nI_clamp (by omega)) (show N * 4 ≤ 536870912 by omega) (Nat.le_of_ble_eq_true rfl) (show 4296 + N ≤ 8392 by omega) dX10_init_39 (fun q3 H hP hD hS => ?_)
  have hP : va_P (dC, dI) vwCl [(a0_, .inr (13, [.ref a1_, .ref a2_, .int (4 * (nI N)), .ref q2, .null, .ref q1, .int 0, .int 0, .int 0, .int 0, .int 0, .int 0, .int 0, .int 0, .int 0, .int 0, .int 0])), (q1, .inl (cI, 200, .inl (fun _ => 0))), (q2, .inl (cI, N, .inl (fun _ => 0))), (q3, .inl (cI, N, .inl (fun _ => 0)))] H := hP
  have hD : va_D A [(a0_, .inr (13, [.ref a1_, .ref a2_, .int (4 * (nI N)), .ref q2, .null, .ref q1, .int 0, .int 0, .int 0, .int 0, .int 0, .int 0, .int 0, .int 0, .int 0, .int 0, .int 0])), (q1, .inl (cI, 200, .inl (fun _ => 0))), (q2, .inl (cI, N, .inl (fun _ => 0))), (q3, .inl (cI, N, .inl (fun _ => 0)))] := hD
  refine W.widen (k := 3) (n := 8392) (by omega) (by omega) ?_
  refine va_putF (D := (dC, dI)) (ci := 13) (v := .ref q3) (ty := .array .int) (C := RX10) (T := TX10) (N := 17) hx hb ht itX10 tyX10 tyX10_ok nmX10 hown hK hP hD hS 0 rfl rfl 4 (by decide) (ht _ tw_847) (fun _ h9 => h9) rfl hin rfl (by decide +kernel) rfl rfl (Nat.le_of_ble_eq_true rfl) dX10_init_41 (fun H locs hP hD hS => ?_)
  have hP : va_P (dC, dI) vwCl [(a0_, .inr (13, [.ref a1_, .ref a2_, .int (4 * (nI N)), .ref q2, .ref q3, .ref q1, .int 0, .int 0, .int 0, .int 0, .int 0, .int 0, .int 0, .int 0, .int 0, .int 0, .int 0])), (q1, .inl (cI, 200, .inl (fun _ => 0))), (q2, .inl (cI, N, .inl (fun _ => 0))), (q3, .inl (cI, N, .inl (fun _ => 0)))] H := hP
  have hD : va_D A [(a0_, .inr (13, [.ref a1_, .ref a2_, .int (4 * (nI N)), .ref q2, .ref q3, .ref q1, .int 0, .int 0, .int 0, .int 0, .int 0, .int 0, .int 0, .int 0, .int 0, .int 0, .int 0])), (q1, .inl (cI, 200, .inl (fun _ => 0))), (q2, .inl (cI, N, .inl (fun _ => 0))), (q3, .inl (cI, N, .inl (fun _ => 0)))] := hD
  have hP9 := hP.sub (ws' := [(a0_, .inr (13, [.ref a1_, .ref a2_, .int (4 * (nI N)), .ref q2, .ref q3, .ref q1, .int 0, .int 0, .int 0, .int 0, .int 0, .int 0, .int 0, .int 0, .int 0, .int 0, .int 0])), (q1, .inl (cI, 200, .inl (fun _ => 0))), (q2, .inl (cI, N, .inl (fun _ => 0))), (q3, .inl (cI, N, .inl (fun _ => 0)))]) [0, 1, 2, 3] rfl
  have hD9 := hD.sub (ws' := [(a0_, .inr (13, [.ref a1_, .ref a2_, .int (4 * (nI N)), .ref q2, .ref q3, .ref q1, .int 0, .int 0, .int 0, .int 0, .int 0, .int 0, .int 0, .int 0, .int 0, .int 0, .int 0])), (q1, .inl (cI, 200, .inl (fun _ => 0))), (q2, .inl (cI, N, .inl (fun _ => 0))), (q3, .inl (cI, N, .inl (fun _ => 0)))]) [0, 1, 2, 3] (by decide) rfl
  refine W.widen (k := 3) (n := 8392) (by omega) (by omega) ?_
  exact W.vret hx hb hr (fun t ht9 hW => ⟨⟨(q2, q3, q1), rfl, trivial, by rw [ht9]; exact hP9, hD9⟩, hS.F ht9⟩) hS.2.2 dX10_init_44
set_option maxHeartbeats 16000000 in
set_option maxRecDepth 100000 in
theorem c_k_X7_init (l : Launch) (dC : Nat → ClassId) (dI : Nat → Nat → Nat) (cI cB cZ cJ cR : ClassId) (tb : Nat → Nat) (sz : Nat) (h0 : Nat) (N : Nat) (hN1 : 256 ≤ N) (hN2 : N ≤ 4096) : Met l yX7_init (Cond.code yX7_init cX7_init 2 none :: tw_W) ({ frames := 1, cells := 107, slots := 17760, locals := 12 }) (pc_ (dC, dI) (tyS cI cB cZ cJ cR) tb [(h0, .inr (10, [.null, .int 0, .null, .int 0, .null, .int 0, .null, .null, .null, .int 0, .null, .int 0, .int 0]))] sz [.ref h0, .int (nI N)]) (qv_ (dC, dI) [(h0, .inr (10, [.null, .int 0, .null, .int 0, .null, .int 0, .null, .null, .null, .int 0, .null, .int 0, .int 0]))] sz (fun (u : Nat × Nat × Nat × Nat × Nat × Nat × Nat × List Nat × List Nat) => u.2.2.2.2.2.2.2.1.length = 40 ∧ u.2.2.2.2.2.2.2.2.length = 60) (fun (u : Nat × Nat × Nat × Nat × Nat × Nat × Nat × List Nat × List Nat) => prX h0 u.1 u.2.1 u.2.2.1 u.2.2.2.1 u.2.2.2.2.1 u.2.2.2.2.2.1 u.2.2.2.2.2.2.1 u.2.2.2.2.2.2.2.1 u.2.2.2.2.2.2.2.2 N cI cR)) 107 17760 (va_A [(h0, .inr (10, [.null, .int 0, .null, .int 0, .null, .int 0, .null, .null, .null, .int 0, .null, .int 0, .int 0]))] sz) := by
  refine Met.ofW (cc := cX7_init) (maxL := 2) (ret := none) (by decide) rfl ?_
  intro p e s m args below meth c s₁ B hml hv
  obtain ⟨rfl, hsz, hP, hKK, hD0, hFx⟩ := hv
  have hK := hKK.1
  have hx := B.exec
  have hb := B.bytes
  have hr := B.returns
  have ht : ∀ w ∈ tw_W, w.before _ s = true := fun w h => atoms_spec (ws := Cond.code yX7_init cX7_init 2 none :: tw_W) B.pre w (List.mem_cons_of_mem _ h)
  have hown : s.vm.findClass RX7 = some m.cls := findClass_of_methodNamed B.named
  have hlocks := B.notSynchronized
  have hin : meth.name = "<init>" := (name_of_methodNamed B.named B.method).1
  subst hsz
  unfold qv_
  have hD := hD0.self (sz := s.heap.size)
  generalize hAe : va_A [(h0, .inr (10, [.null, .int 0, .null, .int 0, .null, .int 0, .null, .null, .null, .int 0, .null, .int 0, .int 0]))] s.heap.size = A at hD hFx ⊢
  have hA : ∀ q : Nat, s.heap.size ≤ q → A q := fun q h => by rw [← hAe]; exact Or.inr h
  have hS : va_S A s.heap s.heap [] := va_S.rf
  have hP : va_P (dC, dI) vwCl [(h0, .inr (10, [.null, .int 0, .null, .int 0, .null, .int 0, .null, .null, .null, .int 0, .null, .int 0, .int 0]))] s.heap := hP
  have hl := lv_entry ([.ref h0, .int (nI N)]) (n := 2) (Nat.le_of_ble_eq_true rfl)
  rw [lg_entry_eq]
  generalize (lg_sl ([.ref h0, .int (nI N)]) ++ List.replicate (2 - (lg_sl ([.ref h0, .int (nI N)])).length) Slot.unset).toArray = ls at hl ⊢
  have hl : lv_has ls 2 [(0, .ref h0), (1, .int (nI N))] := hl
  refine lv_aload_n hx hb dX7_init_0 rfl (lv_at hl 0 rfl) ?_
  refine W.objInit hx hb hown (ht _ tw_1026) (ht _ tw_359) (ht _ tw_360) rfl (by rw [hml]; exact hl.1) rfl dX7_init_1 (Nat.le_of_ble_eq_true rfl) (Nat.le_of_ble_eq_true rfl) ?_
  refine W.eq (g2 := F0 m 4 ls []) rfl ?_
  refine lv_aload_n hx hb dX7_init_4 rfl (lv_at hl 0 rfl) ?_
  refine lv_sipush (v := 4000) hx hb dX7_init_5 (by decide) ?_
  refine va_newE (atype := .int) (ty := .int) (a0 := (4000, .inl (fun _ => 0))) (cE := cI) hx hb (ht _ tw_361) rfl hK hP hD hS hA 0 rfl (fun _ => rfl) (by decide) (by decide) (by decide) (Nat.le_of_ble_eq_true rfl) (Nat.le_of_ble_eq_true rfl) dX7_init_8 (fun q1 H hP hD hS => ?_)
  have hP : va_P (dC, dI) vwCl [(h0, .inr (10, [.null, .int 0, .null, .int 0, .null, .int 0, .null, .null, .null, .int 0, .null, .int 0, .int 0])), (q1, .inl (cI, 4000, .inl (fun _ => 0)))] H := hP
  have hD : va_D A [(h0, .inr (10, [.null, .int 0, .null, .int 0, .null, .int 0, .null, .null, .null, .int 0, .null, .int 0, .int 0])), (q1, .inl (cI, 4000, .inl (fun _ => 0)))] := hD
  refine W.widen (k := 1) (n := 4000) (by omega) (by omega) ?_
  refine va_putF (D := (dC, dI)) (ci := 10) (v := .ref q1) (ty := .array .int) (C := RX7) (T := TX7) (N := 13) hx hb ht itX7 tyX7 tyX7_ok nmX7 hown hK hP hD hS 0 rfl rfl 0 (by decide) (ht _ tw_391) (fun _ h9 => h9) rfl hin rfl (by decide +kernel) rfl rfl (Nat.le_of_ble_eq_true rfl) dX7_init_10 (fun H locs hP hD hS => ?_)
  have hP : va_P (dC, dI) vwCl [(h0, .inr (10, [.ref q1, .int 0, .null, .int 0, .null, .int 0, .null, .null, .null, .int 0, .null, .int 0, .int 0])), (q1, .inl (cI, 4000, .inl (fun _ => 0)))] H := hP
  have hD : va_D A [(h0, .inr (10, [.ref q1, .int 0, .null, .int 0, .null, .int 0, .null, .null, .null, .int 0, .null, .int 0, .int 0])), (q1, .inl (cI, 4000, .inl (fun _ => 0)))] := hD
  refine lv_aload_n hx hb dX7_init_13 rfl (lv_at hl 0 rfl) ?_
  refine lv_bipush (v := 40) hx hb dX7_init_14 (by decide) ?_
  refine lv_bipush (v := 6) hx hb dX7_init_16 (by decide) ?_
  refine va_mnK (N' := 40) (K' := 6) (cI := cI) (cR := cR) hx hb hown (ht _ tw_1027) (ht _ tw_361) hKK 0 4 rfl rfl hP hD hS hA (by decide) (by decide) (by decide) (by decide) (by decide) (by decide) (Nat.le_of_ble_eq_true rfl) (Nat.le_of_ble_eq_true rfl) dX7_init_18 (fun q2 L3 H hL3 hP hD hS => ?_)
  have hP : va_P (dC, dI) vwCl ([(h0, .inr (10, [.ref q1, .int 0, .null, .int 0, .null, .int 0, .null, .null, .null, .int 0, .null, .int 0, .int 0])), (q1, .inl (cI, 4000, .inl (fun _ => 0))), (q2, .inl (cR, 40, .inr (.inr (.inr (.inr (fun i => L3[i]?))))))] ++ va_pl L3 (fun _ => .inl (cI, 6, .inl (fun _ => 0)))) H := hP
  have hD : va_D A ([(h0, .inr (10, [.ref q1, .int 0, .null, .int 0, .null, .int 0, .null, .null, .null, .int 0, .null, .int 0, .int 0])), (q1, .inl (cI, 4000, .inl (fun _ => 0))), (q2, .inl (cR, 40, .inr (.inr (.inr (.inr (fun i => L3[i]?))))))] ++ va_pl L3 (fun _ => .inl (cI, 6, .inl (fun _ => 0)))) := hD
  refine W.widen (k := 42) (n := 4280) (by omega) (by omega) ?_
  refine va_putF (D := (dC, dI)) (ci := 10) (v := .ref q2) (ty := .array (.array .int)) (C := RX7) (T := TX7) (N := 13) hx hb ht itX7 tyX7 tyX7_ok nmX7 hown hK hP hD hS 0 rfl rfl 2 (by decide) (ht _ tw_397) (fun _ h9 => h9) rfl hin rfl (by decide +kernel) rfl rfl (Nat.le_of_ble_eq_true rfl) dX7_init_22 (fun H locs hP hD hS => ?_)
  have hP : va_P (dC, dI) vwCl ([(h0, .inr (10, [.ref q1, .int 0, .ref q2, .int 0, .null, .int 0, .null, .null, .null, .int 0, .null, .int 0, .int 0])), (q1, .inl (cI, 4000, .inl (fun _ => 0))), (q2, .inl (cR, 40, .inr (.inr (.inr (.inr (fun i => L3[i]?))))))] ++ va_pl L3 (fun _ => .inl (cI, 6, .inl (fun _ => 0)))) H := hP
  have hD : va_D A ([(h0, .inr (10, [.ref q1, .int 0, .ref q2, .int 0, .null, .int 0, .null, .null, .null, .int 0, .null, .int 0, .int 0])), (q1, .inl (cI, 4000, .inl (fun _ => 0))), (q2, .inl (cR, 40, .inr (.inr (.inr (.inr (fun i => L3[i]?))))))] ++ va_pl L3 (fun _ => .inl (cI, 6, .inl (fun _ => 0)))) := hD
  refine lv_aload_n hx hb dX7_init_25 rfl (lv_at hl 0 rfl) ?_
  refine lv_bipush (v := 60) hx hb dX7_init_26 (by decide) ?_
  refine lv_iconst (v := 5) hx hb dX7_init_28 (by decide) ?_
  refine va_mnK (N' := 60) (K' := 5) (cI := cI) (cR := cR) hx hb hown (ht _ tw_1027) (ht _ tw_361) hKK 0 4 rfl rfl hP hD hS hA (by decide) (by decide) (by decide) (by decide) (by decide) (by decide) (Nat.le_of_ble_eq_true rfl) (Nat.le_of_ble_eq_true rfl) dX7_init_29 (fun q4 L5 H hL5 hP hD hS => ?_)
  have hP : va_P (dC, dI) vwCl ([(h0, .inr (10, [.ref q1, .int 0, .ref q2, .int 0, .null, .int 0, .null, .null, .null, .int 0, .null, .int 0, .int 0])), (q1, .inl (cI, 4000, .inl (fun _ => 0))), (q2, .inl (cR, 40, .inr (.inr (.inr (.inr (fun i => L3[i]?)))))), (q4, .inl (cR, 60, .inr (.inr (.inr (.inr (fun i => L5[i]?))))))] ++ (va_pl L3 (fun _ => .inl (cI, 6, .inl (fun _ => 0))) ++ va_pl L5 (fun _ => .inl (cI, 5, .inl (fun _ => 0))))) H := va_P.perm hP (pmn _ _ _ _)
  have hD : va_D A ([(h0, .inr (10, [.ref q1, .int 0, .ref q2, .int 0, .null, .int 0, .null, .null, .null, .int 0, .null, .int 0, .int 0])), (q1, .inl (cI, 4000, .inl (fun _ => 0))), (q2, .inl (cR, 40, .inr (.inr (.inr (.inr (fun i => L3[i]?)))))), (q4, .inl (cR, 60, .inr (.inr (.inr (.inr (fun i => L5[i]?))))))] ++ (va_pl L3 (fun _ => .inl (cI, 6, .inl (fun _ => 0))) ++ va_pl L5 (fun _ => .inl (cI, 5, .inl (fun _ => 0))))) := va_D.perm hD (pmn _ _ _ _)
  refine W.widen (k := 103) (n := 4640) (by omega) (by omega) ?_
  refine va_putF (D := (dC, dI)) (ci := 10) (v := .ref q4) (ty := .array (.array .int)) (C := RX7) (T := TX7) (N := 13) hx hb ht itX7 tyX7 tyX7_ok nmX7 hown hK hP hD hS 0 rfl rfl 4 (by decide) (ht _ tw_401) (fun _ h9 => h9) rfl hin rfl (by decide +kernel) rfl rfl (Nat.le_of_ble_eq_true rfl) dX7_init_33 (fun H locs hP hD hS => ?_)
  have hP : va_P (dC, dI) vwCl ([(h0, .inr (10, [.ref q1, .int 0, .ref q2, .int 0, .ref q4, .int 0, .null, .null, .null, .int 0, .null, .int 0, .int 0])), (q1, .inl (cI, 4000, .inl (fun _ => 0))), (q2, .inl (cR, 40, .inr (.inr (.inr (.inr (fun i => L3[i]?)))))), (q4, .inl (cR, 60, .inr (.inr (.inr (.inr (fun i => L5[i]?))))))] ++ (va_pl L3 (fun _ => .inl (cI, 6, .inl (fun _ => 0))) ++ va_pl L5 (fun _ => .inl (cI, 5, .inl (fun _ => 0))))) H := hP
  have hD : va_D A ([(h0, .inr (10, [.ref q1, .int 0, .ref q2, .int 0, .ref q4, .int 0, .null, .null, .null, .int 0, .null, .int 0, .int 0])), (q1, .inl (cI, 4000, .inl (fun _ => 0))), (q2, .inl (cR, 40, .inr (.inr (.inr (.inr (fun i => L3[i]?)))))), (q4, .inl (cR, 60, .inr (.inr (.inr (.inr (fun i => L5[i]?))))))] ++ (va_pl L3 (fun _ => .inl (cI, 6, .inl (fun _ => 0))) ++ va_pl L5 (fun _ => .inl (cI, 5, .inl (fun _ => 0))))) := hD
  refine lv_aload_n hx hb dX7_init_36 rfl (lv_at hl 0 rfl) ?_
  refine lv_sipush (v := 3008) hx hb dX7_init_37 (by decide) ?_
  refine va_newE (atype := .int) (ty := .int) (a0 := (3008, .inl (fun _ => 0))) (cE := cI) hx hb (ht _ tw_361) rfl hK hP hD hS hA 0 rfl (fun _ => rfl) (by decide) (by decide) (by decide) (Nat.le_of_ble_eq_true rfl) (Nat.le_of_ble_eq_true rfl) dX7_init_40 (fun q6 H hP hD hS => ?_)
  have hP : va_P (dC, dI) vwCl ([(h0, .inr (10, [.ref q1, .int 0, .ref q2, .int 0, .ref q4, .int 0, .null, .null, .null, .int 0, .null, .int 0, .int 0])), (q1, .inl (cI, 4000, .inl (fun _ => 0))), (q2, .inl (cR, 40, .inr (.inr (.inr (.inr (fun i => L3[i]?)))))), (q4, .inl (cR, 60, .inr (.inr (.inr (.inr (fun i => L5[i]?)))))), (q6, .inl (cI, 3008, .inl (fun _ => 0)))] ++ (va_pl L3 (fun _ => .inl (cI, 6, .inl (fun _ => 0))) ++ va_pl L5 (fun _ => .inl (cI, 5, .inl (fun _ => 0))))) H := va_P.perm hP (pnw _ _ _)
  have hD : va_D A ([(h0, .inr (10, [.ref q1, .int 0, .ref q2, .int 0, .ref q4, .int 0, .null, .null, .null, .int 0, .null, .int 0, .int 0])), (q1, .inl (cI, 4000, .inl (fun _ => 0))), (q2, .inl (cR, 40, .inr (.inr (.inr (.inr (fun i => L3[i]?)))))), (q4, .inl (cR, 60, .inr (.inr (.inr (.inr (fun i => L5[i]?)))))), (q6, .inl (cI, 3008, .inl (fun _ => 0)))] ++ (va_pl L3 (fun _ => .inl (cI, 6, .inl (fun _ => 0))) ++ va_pl L5 (fun _ => .inl (cI, 5, .inl (fun _ => 0))))) := va_D.perm hD (pnw _ _ _)
  refine W.widen (k := 104) (n := 7648) (by omega) (by omega) ?_
  refine va_putF (D := (dC, dI)) (ci := 10) (v := .ref q6) (ty := .array .int) (C := RX7) (T := TX7) (N := 13) hx hb ht itX7 tyX7 tyX7_ok nmX7 hown hK hP hD hS 0 rfl rfl 6 (by decide) (ht _ tw_1028) (fun _ h9 => h9) rfl hin rfl (by decide +kernel) rfl rfl (Nat.le_of_ble_eq_true rfl) dX7_init_42 (fun H locs hP hD hS => ?_)
  have hP : va_P (dC, dI) vwCl ([(h0, .inr (10, [.ref q1, .int 0, .ref q2, .int 0, .ref q4, .int 0, .ref q6, .null, .null, .int 0, .null, .int 0, .int 0])), (q1, .inl (cI, 4000, .inl (fun _ => 0))), (q2, .inl (cR, 40, .inr (.inr (.inr (.inr (fun i => L3[i]?)))))), (q4, .inl (cR, 60, .inr (.inr (.inr (.inr (fun i => L5[i]?)))))), (q6, .inl (cI, 3008, .inl (fun _ => 0)))] ++ (va_pl L3 (fun _ => .inl (cI, 6, .inl (fun _ => 0))) ++ va_pl L5 (fun _ => .inl (cI, 5, .inl (fun _ => 0))))) H := hP
  have hD : va_D A ([(h0, .inr (10, [.ref q1, .int 0, .ref q2, .int 0, .ref q4, .int 0, .ref q6, .null, .null, .int 0, .null, .int 0, .int 0])), (q1, .inl (cI, 4000, .inl (fun _ => 0))), (q2, .inl (cR, 40, .inr (.inr (.inr (.inr (fun i => L3[i]?)))))), (q4, .inl (cR, 60, .inr (.inr (.inr (.inr (fun i => L5[i]?)))))), (q6, .inl (cI, 3008, .inl (fun _ => 0)))] ++ (va_pl L3 (fun _ => .inl (cI, 6, .inl (fun _ => 0))) ++ va_pl L5 (fun _ => .inl (cI, 5, .inl (fun _ => 0))))) := hD
  refine lv_aload_n hx hb dX7_init_45 rfl (lv_at hl 0 rfl) ?_
  refine lv_sipush (v := 3008) hx hb dX7_init_46 (by decide) ?_
  refine va_newE (atype := .int) (ty := .int) (a0 := (3008, .inl (fun _ => 0))) (cE := cI) hx hb (ht _ tw_361) rfl hK hP hD hS hA 0 rfl (fun _ => rfl) (by decide) (by decide) (by decide) (Nat.le_of_ble_eq_true rfl) (Nat.le_of_ble_eq_true rfl) dX7_init_49 (fun q7 H hP hD hS => ?_)
  have hP : va_P (dC, dI) vwCl ([(h0, .inr (10, [.ref q1, .int 0, .ref q2, .int 0, .ref q4, .int 0, .ref q6, .null, .null, .int 0, .null, .int 0, .int 0])), (q1, .inl (cI, 4000, .inl (fun _ => 0))), (q2, .inl (cR, 40, .inr (.inr (.inr (.inr (fun i => L3[i]?)))))), (q4, .inl (cR, 60, .inr (.inr (.inr (.inr (fun i => L5[i]?)))))), (q6, .inl (cI, 3008, .inl (fun _ => 0))), (q7, .inl (cI, 3008, .inl (fun _ => 0)))] ++ (va_pl L3 (fun _ => .inl (cI, 6, .inl (fun _ => 0))) ++ va_pl L5 (fun _ => .inl (cI, 5, .inl (fun _ => 0))))) H := va_P.perm hP (pnw _ _ _)
  have hD : va_D A ([(h0, .inr (10, [.ref q1, .int 0, .ref q2, .int 0, .ref q4, .int 0, .ref q6, .null, .null, .int 0, .null, .int 0, .int 0])), (q1, .inl (cI, 4000, .inl (fun _ => 0))), (q2, .inl (cR, 40, .inr (.inr (.inr (.inr (fun i => L3[i]?)))))), (q4, .inl (cR, 60, .inr (.inr (.inr (.inr (fun i => L5[i]?)))))), (q6, .inl (cI, 3008, .inl (fun _ => 0))), (q7, .inl (cI, 3008, .inl (fun _ => 0)))] ++ (va_pl L3 (fun _ => .inl (cI, 6, .inl (fun _ => 0))) ++ va_pl L5 (fun _ => .inl (cI, 5, .inl (fun _ => 0))))) := va_D.perm hD (pnw _ _ _)
  refine W.widen (k := 105) (n := 10656) (by omega) (by omega) ?_
  refine va_putF (D := (dC, dI)) (ci := 10) (v := .ref q7) (ty := .array .int) (C := RX7) (T := TX7) (N := 13) hx hb ht itX7 tyX7 tyX7_ok nmX7 hown hK hP hD hS 0 rfl rfl 7 (by decide) (ht _ tw_1029) (fun _ h9 => h9) rfl hin rfl (by decide +kernel) rfl rfl (Nat.le_of_ble_eq_true rfl) dX7_init_51 (fun H locs hP hD hS => ?_)
  have hP : va_P (dC, dI) vwCl ([(h0, .inr (10, [.ref q1, .int 0, .ref q2, .int 0, .ref q4, .int 0, .ref q6, .ref q7, .null, .int 0, .null, .int 0, .int 0])), (q1, .inl (cI, 4000, .inl (fun _ => 0))), (q2, .inl (cR, 40, .inr (.inr (.inr (.inr (fun i => L3[i]?)))))), (q4, .inl (cR, 60, .inr (.inr (.inr (.inr (fun i => L5[i]?)))))), (q6, .inl (cI, 3008, .inl (fun _ => 0))), (q7, .inl (cI, 3008, .inl (fun _ => 0)))] ++ (va_pl L3 (fun _ => .inl (cI, 6, .inl (fun _ => 0))) ++ va_pl L5 (fun _ => .inl (cI, 5, .inl (fun _ => 0))))) H := hP
  have hD : va_D A ([(h0, .inr (10, [.ref q1, .int 0, .ref q2, .int 0, .ref q4, .int 0, .ref q6, .ref q7, .null, .int 0, .null, .int 0, .int 0])), (q1, .inl (cI, 4000, .inl (fun _ => 0))), (q2, .inl (cR, 40, .inr (.inr (.inr (.inr (fun i => L3[i]?)))))), (q4, .inl (cR, 60, .inr (.inr (.inr (.inr (fun i => L5[i]?)))))), (q6, .inl (cI, 3008, .inl (fun _ => 0))), (q7, .inl (cI, 3008, .inl (fun _ => 0)))] ++ (va_pl L3 (fun _ => .inl (cI, 6, .inl (fun _ => 0))) ++ va_pl L5 (fun _ => .inl (cI, 5, .inl (fun _ => 0))))) := hD
  refine lv_aload_n hx hb dX7_init_54 rfl (lv_at hl 0 rfl) ?_
  refine lv_sipush (v := 3008) hx hb dX7_init_55 (by decide) ?_
  refine va_newE (atype := .int) (ty := .int) (a0 := (3008, .inl (fun _ => 0))) (cE := cI) hx hb (ht _ tw_361) rfl hK hP hD hS hA 0 rfl (fun _ => rfl) (by decide) (by decide) (by decide) (Nat.le_of_ble_eq_true rfl) (Nat.le_of_ble_eq_true rfl) dX7_init_58 (fun q8 H hP hD hS => ?_)
  have hP : va_P (dC, dI) vwCl ([(h0, .inr (10, [.ref q1, .int 0, .ref q2, .int 0, .ref q4, .int 0, .ref q6, .ref q7, .null, .int 0, .null, .int 0, .int 0])), (q1, .inl (cI, 4000, .inl (fun _ => 0))), (q2, .inl (cR, 40, .inr (.inr (.inr (.inr (fun i => L3[i]?)))))), (q4, .inl (cR, 60, .inr (.inr (.inr (.inr (fun i => L5[i]?)))))), (q6, .inl (cI, 3008, .inl (fun _ => 0))), (q7, .inl (cI, 3008, .inl (fun _ => 0))), (q8, .inl (cI, 3008, .inl (fun _ => 0)))] ++ (va_pl L3 (fun _ => .inl (cI, 6, .inl (fun _ => 0))) ++ va_pl L5 (fun _ => .inl (cI, 5, .inl (fun _ => 0))))) H := va_P.perm hP (pnw _ _ _)
  have hD : va_D A ([(h0, .inr (10, [.ref q1, .int 0, .ref q2, .int 0, .ref q4, .int 0, .ref q6, .ref q7, .null, .int 0, .null, .int 0, .int 0])), (q1, .inl (cI, 4000, .inl (fun _ => 0))), (q2, .inl (cR, 40, .inr (.inr (.inr (.inr (fun i => L3[i]?)))))), (q4, .inl (cR, 60, .inr (.inr (.inr (.inr (fun i => L5[i]?)))))), (q6, .inl (cI, 3008, .inl (fun _ => 0))), (q7, .inl (cI, 3008, .inl (fun _ => 0))), (q8, .inl (cI, 3008, .inl (fun _ => 0)))] ++ (va_pl L3 (fun _ => .inl (cI, 6, .inl (fun _ => 0))) ++ va_pl L5 (fun _ => .inl (cI, 5, .inl (fun _ => 0))))) := va_D.perm hD (pnw _ _ _)
  refine W.widen (k := 106) (n := 13664) (by omega) (by omega) ?_
  refine va_putF (D := (dC, dI)) (ci := 10) (v := .ref q8) (ty := .array .int) (C := RX7) (T := TX7) (N := 13) hx hb ht itX7 tyX7 tyX7_ok nmX7 hown hK hP hD hS 0 rfl rfl 8 (by decide) (ht _ tw_1030) (fun _ h9 => h9) rfl hin rfl (by decide +kernel) rfl rfl (Nat.le_of_ble_eq_true rfl) dX7_init_60 (fun H locs hP hD hS => ?_)
  have hP : va_P (dC, dI) vwCl ([(h0, .inr (10, [.ref q1, .int 0, .ref q2, .int 0, .ref q4, .int 0, .ref q6, .ref q7, .ref q8, .int 0, .null, .int 0, .int 0])), (q1, .inl (cI, 4000, .inl (fun _ => 0))), (q2, .inl (cR, 40, .inr (.inr (.inr (.inr (fun i => L3[i]?)))))), (q4, .inl (cR, 60, .inr (.inr (.inr (.inr (fun i => L5[i]?)))))), (q6, .inl (cI, 3008, .inl (fun _ => 0))), (q7, .inl (cI, 3008, .inl (fun _ => 0))), (q8, .inl (cI, 3008, .inl (fun _ => 0)))] ++ (va_pl L3 (fun _ => .inl (cI, 6, .inl (fun _ => 0))) ++ va_pl L5 (fun _ => .inl (cI, 5, .inl (fun _ => 0))))) H := hP
  have hD : va_D A ([(h0, .inr (10, [.ref q1, .int 0, .ref q2, .int 0, .ref q4, .int 0, .ref q6, .ref q7, .ref q8, .int 0, .null, .int 0, .int 0])), (q1, .inl (cI, 4000, .inl (fun _ => 0))), (q2, .inl (cR, 40, .inr (.inr (.inr (.inr (fun i => L3[i]?)))))), (q4, .inl (cR, 60, .inr (.inr (.inr (.inr (fun i => L5[i]?)))))), (q6, .inl (cI, 3008, .inl (fun _ => 0))), (q7, .inl (cI, 3008, .inl (fun _ => 0))), (q8, .inl (cI, 3008, .inl (fun _ => 0)))] ++ (va_pl L3 (fun _ => .inl (cI, 6, .inl (fun _ => 0))) ++ va_pl L5 (fun _ => .inl (cI, 5, .inl (fun _ => 0))))) := hD
  refine lv_aload_n hx hb dX7_init_63 rfl (lv_at hl 0 rfl) ?_
  refine lv_iload_n hx hb dX7_init_64 rfl (lv_at hl 1 rfl) ?_
  refine va_newE (atype := .int) (ty := .int) (a0 := (N, .inl (fun _ => 0))) (cE := cI) hx hb (ht _ tw_361) rfl hK hP hD hS hA 0 rfl (fun _ => rfl) (nI_pos (by omega)) (nI_clamp (by omega)) (show N * 4 ≤ 536870912 by omega) (Nat.le_of_ble_eq_true rfl) (show 13664 + N ≤ 17760 by omega) dX7_init_65 (fun q9 H hP hD hS => ?_)
  have hP : va_P (dC, dI) vwCl ([(h0, .inr (10, [.ref q1, .int 0, .ref q2, .int 0, .ref q4, .int 0, .ref q6, .ref q7, .ref q8, .int 0, .null, .int 0, .int 0])), (q1, .inl (cI, 4000, .inl (fun _ => 0))), (q2, .inl (cR, 40, .inr (.inr (.inr (.inr (fun i => L3[i]?)))))), (q4, .inl (cR, 60, .inr (.inr (.inr (.inr (fun i => L5[i]?)))))), (q6, .inl (cI, 3008, .inl (fun _ => 0))), (q7, .inl (cI, 3008, .inl (fun _ => 0))), (q8, .inl (cI, 3008, .inl (fun _ => 0))), (q9, .inl (cI, N, .inl (fun _ => 0)))] ++ (va_pl L3 (fun _ => .inl (cI, 6, .inl (fun _ => 0))) ++ va_pl L5 (fun _ => .inl (cI, 5, .inl (fun _ => 0))))) H := va_P.perm hP (pnw _ _ _)
  have hD : va_D A ([(h0, .inr (10, [.ref q1, .int 0, .ref q2, .int 0, .ref q4, .int 0, .ref q6, .ref q7, .ref q8, .int 0, .null, .int 0, .int 0])), (q1, .inl (cI, 4000, .inl (fun _ => 0))), (q2, .inl (cR, 40, .inr (.inr (.inr (.inr (fun i => L3[i]?)))))), (q4, .inl (cR, 60, .inr (.inr (.inr (.inr (fun i => L5[i]?)))))), (q6, .inl (cI, 3008, .inl (fun _ => 0))), (q7, .inl (cI, 3008, .inl (fun _ => 0))), (q8, .inl (cI, 3008, .inl (fun _ => 0))), (q9, .inl (cI, N, .inl (fun _ => 0)))] ++ (va_pl L3 (fun _ => .inl (cI, 6, .inl (fun _ => 0))) ++ va_pl L5 (fun _ => .inl (cI, 5, .inl (fun _ => 0))))) := va_D.perm hD (pnw _ _ _)
  refine W.widen (k := 107) (n := 17760) (by omega) (by omega) ?_
  refine va_putF (D := (dC, dI)) (ci := 10) (v := .ref q9) (ty := .array .int) (C := RX7) (T := TX7) (N := 13) hx hb ht itX7 tyX7 tyX7_ok nmX7 hown hK hP hD hS 0 rfl rfl 10 (by decide) (ht _ tw_405) (fun _ h9 => h9) rfl hin rfl (by decide +kernel) rfl rfl (Nat.le_of_ble_eq_true rfl) dX7_init_67 (fun H locs hP hD hS => ?_)
  have hP : va_P (dC, dI) vwCl ([(h0, .inr (10, [.ref q1, .int 0, .ref q2, .int 0, .ref q4, .int 0, .ref q6, .ref q7, .ref q8, .int 0, .ref q9, .int 0, .int 0])), (q1, .inl (cI, 4000, .inl (fun _ => 0))), (q2, .inl (cR, 40, .inr (.inr (.inr (.inr (fun i => L3[i]?)))))), (q4, .inl (cR, 60, .inr (.inr (.inr (.inr (fun i => L5[i]?)))))), (q6, .inl (cI, 3008, .inl (fun _ => 0))), (q7, .inl (cI, 3008, .inl (fun _ => 0))), (q8, .inl (cI, 3008, .inl (fun _ => 0))), (q9, .inl (cI, N, .inl (fun _ => 0)))] ++ (va_pl L3 (fun _ => .inl (cI, 6, .inl (fun _ => 0))) ++ va_pl L5 (fun _ => .inl (cI, 5, .inl (fun _ => 0))))) H := hP
  have hD : va_D A ([(h0, .inr (10, [.ref q1, .int 0, .ref q2, .int 0, .ref q4, .int 0, .ref q6, .ref q7, .ref q8, .int 0, .ref q9, .int 0, .int 0])), (q1, .inl (cI, 4000, .inl (fun _ => 0))), (q2, .inl (cR, 40, .inr (.inr (.inr (.inr (fun i => L3[i]?)))))), (q4, .inl (cR, 60, .inr (.inr (.inr (.inr (fun i => L5[i]?)))))), (q6, .inl (cI, 3008, .inl (fun _ => 0))), (q7, .inl (cI, 3008, .inl (fun _ => 0))), (q8, .inl (cI, 3008, .inl (fun _ => 0))), (q9, .inl (cI, N, .inl (fun _ => 0)))] ++ (va_pl L3 (fun _ => .inl (cI, 6, .inl (fun _ => 0))) ++ va_pl L5 (fun _ => .inl (cI, 5, .inl (fun _ => 0))))) := hD
  have hP : va_P (dC, dI) vwCl (prX h0 q1 q2 q4 q6 q7 q8 q9 L3 L5 N cI cR) H := hP
  have hD : va_D A (prX h0 q1 q2 q4 q6 q7 q8 q9 L3 L5 N cI cR) := hD
  refine W.widen (k := 107) (n := 17760) (Nat.le_refl _) (Nat.le_refl _) ?_
  exact W.vret hx hb hr (fun t ht9 hW => ⟨⟨(q1, q2, q4, q6, q7, q8, q9, L3, L5), rfl, ⟨hL3, hL5⟩, by rw [ht9]; exact hP, hD⟩, hS.F ht9⟩) hS.2.2 dX7_init_70
