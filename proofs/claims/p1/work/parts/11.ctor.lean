theorem dX7_init_0 : decode cX7_init 0 = .ok (.aload_n 0, 1) := by decide +kernel
theorem dX7_init_1 : decode cX7_init 1 = .ok (.invokespecial 3, 3) := by decide +kernel
theorem tw_0 : (.methodLink RX7 3 objectInit : Cond) ∈ tw_W := tw_in (by decide +kernel) (by decide +kernel)
theorem tw_1 : (.instanceMethod objectInit : Cond) ∈ tw_W := tw_in (by decide +kernel) (by decide +kernel)
theorem tw_2 : (.code objectInit ⟨#[0xb1]⟩ 1 none : Cond) ∈ tw_W := tw_in (by decide +kernel) (by decide +kernel)
theorem dX7_init_4 : decode cX7_init 4 = .ok (.aload_n 0, 1) := by decide +kernel
theorem dX7_init_5 : decode cX7_init 5 = .ok (.sipush 4000, 3) := by decide +kernel
theorem dX7_init_8 : decode cX7_init 8 = .ok (.newarray .int, 2) := by decide +kernel
theorem tw_3 : (.arrayClass .int : Cond) ∈ tw_W := tw_in (by decide +kernel) (by decide +kernel)
theorem dX7_init_10 : decode cX7_init 10 = .ok (.putfield 9, 3) := by decide +kernel
theorem tw_4 : (.fieldLink RX7 9 "PocketCompiler$Program" "text" "[I" : Cond) ∈ tw_W := tw_in (by decide +kernel) (by decide +kernel)
theorem itX7 : ∀ w ∈ wsX70, w ∈ tw_W := tw_all (by decide +kernel)
theorem dX7_init_13 : decode cX7_init 13 = .ok (.aload_n 0, 1) := by decide +kernel
theorem dX7_init_14 : decode cX7_init 14 = .ok (.bipush 40, 2) := by decide +kernel
theorem dX7_init_16 : decode cX7_init 16 = .ok (.bipush 6, 2) := by decide +kernel
theorem dX7_init_18 : decode cX7_init 18 = .ok (.multianewarray 15 2, 4) := by decide +kernel
theorem tw_5 : (.classLink RX7 15 "[[I" : Cond) ∈ tw_W := tw_in (by decide +kernel) (by decide +kernel)
theorem dX7_init_22 : decode cX7_init 22 = .ok (.putfield 17, 3) := by decide +kernel
theorem tw_6 : (.fieldLink RX7 17 "PocketCompiler$Program" "functions" "[[I" : Cond) ∈ tw_W := tw_in (by decide +kernel) (by decide +kernel)
theorem dX7_init_25 : decode cX7_init 25 = .ok (.aload_n 0, 1) := by decide +kernel
theorem dX7_init_26 : decode cX7_init 26 = .ok (.bipush 60, 2) := by decide +kernel
theorem dX7_init_28 : decode cX7_init 28 = .ok (.iconst 5, 1) := by decide +kernel
theorem dX7_init_29 : decode cX7_init 29 = .ok (.multianewarray 15 2, 4) := by decide +kernel
theorem dX7_init_33 : decode cX7_init 33 = .ok (.putfield 20, 3) := by decide +kernel
theorem tw_7 : (.fieldLink RX7 20 "PocketCompiler$Program" "globals" "[[I" : Cond) ∈ tw_W := tw_in (by decide +kernel) (by decide +kernel)
theorem dX7_init_36 : decode cX7_init 36 = .ok (.aload_n 0, 1) := by decide +kernel
theorem dX7_init_37 : decode cX7_init 37 = .ok (.sipush 3008, 3) := by decide +kernel
theorem dX7_init_40 : decode cX7_init 40 = .ok (.newarray .int, 2) := by decide +kernel
theorem dX7_init_42 : decode cX7_init 42 = .ok (.putfield 23, 3) := by decide +kernel
theorem tw_8 : (.fieldLink RX7 23 "PocketCompiler$Program" "deeds" "[I" : Cond) ∈ tw_W := tw_in (by decide +kernel) (by decide +kernel)
theorem dX7_init_45 : decode cX7_init 45 = .ok (.aload_n 0, 1) := by decide +kernel
theorem dX7_init_46 : decode cX7_init 46 = .ok (.sipush 3008, 3) := by decide +kernel
theorem dX7_init_49 : decode cX7_init 49 = .ok (.newarray .int, 2) := by decide +kernel
theorem dX7_init_51 : decode cX7_init 51 = .ok (.putfield 26, 3) := by decide +kernel
theorem tw_9 : (.fieldLink RX7 26 "PocketCompiler$Program" "xs" "[I" : Cond) ∈ tw_W := tw_in (by decide +kernel) (by decide +kernel)
theorem dX7_init_54 : decode cX7_init 54 = .ok (.aload_n 0, 1) := by decide +kernel
theorem dX7_init_55 : decode cX7_init 55 = .ok (.sipush 3008, 3) := by decide +kernel
theorem dX7_init_58 : decode cX7_init 58 = .ok (.newarray .int, 2) := by decide +kernel
theorem dX7_init_60 : decode cX7_init 60 = .ok (.putfield 29, 3) := by decide +kernel
theorem tw_10 : (.fieldLink RX7 29 "PocketCompiler$Program" "ys" "[I" : Cond) ∈ tw_W := tw_in (by decide +kernel) (by decide +kernel)
theorem dX7_init_63 : decode cX7_init 63 = .ok (.aload_n 0, 1) := by decide +kernel
theorem dX7_init_64 : decode cX7_init 64 = .ok (.iload_n 1, 1) := by decide +kernel
theorem dX7_init_65 : decode cX7_init 65 = .ok (.newarray .int, 2) := by decide +kernel
theorem dX7_init_67 : decode cX7_init 67 = .ok (.putfield 32, 3) := by decide +kernel
theorem tw_11 : (.fieldLink RX7 32 "PocketCompiler$Program" "words" "[I" : Cond) ∈ tw_W := tw_in (by decide +kernel) (by decide +kernel)
theorem dX7_init_70 : decode cX7_init 70 = .ok (.return_, 1) := by decide +kernel
theorem dX8_init_0 : decode cX8_init 0 = .ok (.aload_n 0, 1) := by decide +kernel
theorem dX8_init_1 : decode cX8_init 1 = .ok (.invokespecial 3, 3) := by decide +kernel
theorem tw_12 : (.methodLink RX8 3 objectInit : Cond) ∈ tw_W := tw_in (by decide +kernel) (by decide +kernel)
theorem dX8_init_4 : decode cX8_init 4 = .ok (.aload_n 0, 1) := by decide +kernel
theorem dX8_init_5 : decode cX8_init 5 = .ok (.new 9, 3) := by decide +kernel
theorem tw_13 : (.classLink RX8 9 RJ4 : Cond) ∈ tw_W := tw_in (by decide +kernel) (by decide +kernel)
theorem tw_14 : (.instantiable RJ4 4 : Cond) ∈ tw_W := tw_in (by decide +kernel) (by decide +kernel)
theorem tw_15 : (.initialized RJ4 : Cond) ∈ tw_W := tw_in (by decide +kernel) (by decide +kernel)
theorem itJ4 : ∀ w ∈ wsJ40, w ∈ tw_W := tw_all (by decide +kernel)
theorem dX8_init_8 : decode cX8_init 8 = .ok (.dup, 1) := by decide +kernel
theorem dX8_init_9 : decode cX8_init 9 = .ok (.invokespecial 11, 3) := by decide +kernel
theorem dJ4_init_da8c8_0 : decode cJ4_init_da8c8 0 = .ok (.aload_n 0, 1) := by decide +kernel
theorem dJ4_init_da8c8_1 : decode cJ4_init_da8c8 1 = .ok (.bipush 16, 2) := by decide +kernel
theorem dJ4_init_da8c8_3 : decode cJ4_init_da8c8 3 = .ok (.invokespecial 1, 3) := by decide +kernel
theorem dJ5_init_d00df_0 : decode cJ5_init_d00df 0 = .ok (.aload_n 0, 1) := by decide +kernel
theorem dJ5_init_d00df_1 : decode cJ5_init_d00df 1 = .ok (.invokespecial 3, 3) := by decide +kernel
theorem tw_16 : (.methodLink RJ5 3 objectInit : Cond) ∈ tw_W := tw_in (by decide +kernel) (by decide +kernel)
theorem dJ5_init_d00df_4 : decode cJ5_init_d00df 4 = .ok (.getstatic 18, 3) := by decide +kernel
theorem tw_17 : (.fieldLink RJ5 18 "java/lang/String" "COMPACT_STRINGS" "Z" : Cond) ∈ tw_W := tw_in (by decide +kernel) (by decide +kernel)
theorem dJ5_init_d00df_7 : decode cJ5_init_d00df 7 = .ok (.ifCond .eq 18, 3) := by decide +kernel
theorem dJ5_init_d00df_10 : decode cJ5_init_d00df 10 = .ok (.aload_n 0, 1) := by decide +kernel
theorem dJ5_init_d00df_11 : decode cJ5_init_d00df 11 = .ok (.iload_n 1, 1) := by decide +kernel
theorem dJ5_init_d00df_12 : decode cJ5_init_d00df 12 = .ok (.newarray .byte, 2) := by decide +kernel
theorem tw_18 : (.arrayClass .byte : Cond) ∈ tw_W := tw_in (by decide +kernel) (by decide +kernel)
theorem dJ5_init_d00df_14 : decode cJ5_init_d00df 14 = .ok (.putfield 15, 3) := by decide +kernel
theorem tw_19 : (.fieldLink RJ5 15 "java/lang/AbstractStringBuilder" "value" "[B" : Cond) ∈ tw_W := tw_in (by decide +kernel) (by decide +kernel)
theorem dJ5_init_d00df_17 : decode cJ5_init_d00df 17 = .ok (.aload_n 0, 1) := by decide +kernel
theorem dJ5_init_d00df_18 : decode cJ5_init_d00df 18 = .ok (.iconst 0, 1) := by decide +kernel
theorem dJ5_init_d00df_19 : decode cJ5_init_d00df 19 = .ok (.putfield 22, 3) := by decide +kernel
theorem tw_20 : (.fieldLink RJ5 22 "java/lang/AbstractStringBuilder" "coder" "B" : Cond) ∈ tw_W := tw_in (by decide +kernel) (by decide +kernel)
theorem dJ5_init_d00df_22 : decode cJ5_init_d00df 22 = .ok (.goto 16, 3) := by decide +kernel
theorem dJ5_init_d00df_38 : decode cJ5_init_d00df 38 = .ok (.return_, 1) := by decide +kernel
theorem tw_21 : (.code yJ5_init_d00df cJ5_init_d00df 2 none : Cond) ∈ tw_W := tw_in (by decide +kernel) (by decide +kernel)
theorem tw_22 : (.initialized yJ5_init_d00df.cls : Cond) ∈ tw_W := tw_in (by decide +kernel) (by decide +kernel)
theorem tw_23 : (.methodLink RJ4 1 yJ5_init_d00df : Cond) ∈ tw_W := tw_in (by decide +kernel) (by decide +kernel)
theorem tw_24 : (.instanceMethod yJ5_init_d00df : Cond) ∈ tw_W := tw_in (by decide +kernel) (by decide +kernel)
theorem dJ4_init_da8c8_6 : decode cJ4_init_da8c8 6 = .ok (.return_, 1) := by decide +kernel
theorem tw_25 : (.code yJ4_init_da8c8 cJ4_init_da8c8 1 none : Cond) ∈ tw_W := tw_in (by decide +kernel) (by decide +kernel)
theorem tw_26 : (.initialized yJ4_init_da8c8.cls : Cond) ∈ tw_W := tw_in (by decide +kernel) (by decide +kernel)
theorem tw_27 : (.methodLink RX8 11 yJ4_init_da8c8 : Cond) ∈ tw_W := tw_in (by decide +kernel) (by decide +kernel)
theorem tw_28 : (.instanceMethod yJ4_init_da8c8 : Cond) ∈ tw_W := tw_in (by decide +kernel) (by decide +kernel)
theorem dX8_init_12 : decode cX8_init 12 = .ok (.putfield 12, 3) := by decide +kernel
theorem tw_29 : (.fieldLink RX8 12 "PocketCompiler$Shower" "text" "Ljava/lang/StringBuilder;" : Cond) ∈ tw_W := tw_in (by decide +kernel) (by decide +kernel)
theorem itX8 : ∀ w ∈ wsX80, w ∈ tw_W := tw_all (by decide +kernel)
theorem dX8_init_15 : decode cX8_init 15 = .ok (.return_, 1) := by decide +kernel
theorem dX1_init_0 : decode cX1_init 0 = .ok (.aload_n 0, 1) := by decide +kernel
theorem dX1_init_1 : decode cX1_init 1 = .ok (.invokespecial 3, 3) := by decide +kernel
theorem tw_30 : (.methodLink RX1 3 objectInit : Cond) ∈ tw_W := tw_in (by decide +kernel) (by decide +kernel)
theorem dX1_init_4 : decode cX1_init 4 = .ok (.aload_n 0, 1) := by decide +kernel
theorem dX1_init_5 : decode cX1_init 5 = .ok (.sipush 500, 3) := by decide +kernel
theorem dX1_init_8 : decode cX1_init 8 = .ok (.newarray .int, 2) := by decide +kernel
theorem dX1_init_10 : decode cX1_init 10 = .ok (.putfield 9, 3) := by decide +kernel
theorem tw_31 : (.fieldLink RX1 9 "PocketCompiler$Builder" "known" "[I" : Cond) ∈ tw_W := tw_in (by decide +kernel) (by decide +kernel)
theorem itX1 : ∀ w ∈ wsX10, w ∈ tw_W := tw_all (by decide +kernel)
theorem dX1_init_13 : decode cX1_init 13 = .ok (.aload_n 0, 1) := by decide +kernel
theorem dX1_init_14 : decode cX1_init 14 = .ok (.sipush 1500, 3) := by decide +kernel
theorem dX1_init_17 : decode cX1_init 17 = .ok (.newarray .int, 2) := by decide +kernel
theorem dX1_init_19 : decode cX1_init 19 = .ok (.putfield 15, 3) := by decide +kernel
theorem tw_32 : (.fieldLink RX1 15 "PocketCompiler$Builder" "labels" "[I" : Cond) ∈ tw_W := tw_in (by decide +kernel) (by decide +kernel)
theorem dX1_init_22 : decode cX1_init 22 = .ok (.aload_n 0, 1) := by decide +kernel
theorem dX1_init_23 : decode cX1_init 23 = .ok (.sipush 501, 3) := by decide +kernel
theorem dX1_init_26 : decode cX1_init 26 = .ok (.newarray .int, 2) := by decide +kernel
theorem dX1_init_28 : decode cX1_init 28 = .ok (.putfield 18, 3) := by decide +kernel
theorem tw_33 : (.fieldLink RX1 18 "PocketCompiler$Builder" "callNames" "[I" : Cond) ∈ tw_W := tw_in (by decide +kernel) (by decide +kernel)
theorem dX1_init_31 : decode cX1_init 31 = .ok (.aload_n 0, 1) := by decide +kernel
theorem dX1_init_32 : decode cX1_init 32 = .ok (.sipush 501, 3) := by decide +kernel
theorem dX1_init_35 : decode cX1_init 35 = .ok (.newarray .int, 2) := by decide +kernel
theorem dX1_init_37 : decode cX1_init 37 = .ok (.putfield 21, 3) := by decide +kernel
theorem tw_34 : (.fieldLink RX1 21 "PocketCompiler$Builder" "callPlaces" "[I" : Cond) ∈ tw_W := tw_in (by decide +kernel) (by decide +kernel)
theorem dX1_init_40 : decode cX1_init 40 = .ok (.aload_n 0, 1) := by decide +kernel
theorem dX1_init_41 : decode cX1_init 41 = .ok (.sipush 501, 3) := by decide +kernel
theorem dX1_init_44 : decode cX1_init 44 = .ok (.newarray .int, 2) := by decide +kernel
theorem dX1_init_46 : decode cX1_init 46 = .ok (.putfield 24, 3) := by decide +kernel
theorem tw_35 : (.fieldLink RX1 24 "PocketCompiler$Builder" "callArguments" "[I" : Cond) ∈ tw_W := tw_in (by decide +kernel) (by decide +kernel)
theorem dX1_init_49 : decode cX1_init 49 = .ok (.aload_n 0, 1) := by decide +kernel
theorem dX1_init_50 : decode cX1_init 50 = .ok (.aload_n 1, 1) := by decide +kernel
theorem dX1_init_51 : decode cX1_init 51 = .ok (.putfield 27, 3) := by decide +kernel
theorem tw_36 : (.fieldLink RX1 27 "PocketCompiler$Builder" "program" "LPocketCompiler$Program;" : Cond) ∈ tw_W := tw_in (by decide +kernel) (by decide +kernel)
theorem dX1_init_54 : decode cX1_init 54 = .ok (.return_, 1) := by decide +kernel
theorem dX2_init_0 : decode cX2_init 0 = .ok (.aload_n 0, 1) := by decide +kernel
theorem dX2_init_1 : decode cX2_init 1 = .ok (.invokespecial 3, 3) := by decide +kernel
theorem tw_37 : (.methodLink RX2 3 objectInit : Cond) ∈ tw_W := tw_in (by decide +kernel) (by decide +kernel)
theorem dX2_init_4 : decode cX2_init 4 = .ok (.aload_n 0, 1) := by decide +kernel
theorem dX2_init_5 : decode cX2_init 5 = .ok (.sipush 420, 3) := by decide +kernel
theorem dX2_init_8 : decode cX2_init 8 = .ok (.newarray .int, 2) := by decide +kernel
theorem dX2_init_10 : decode cX2_init 10 = .ok (.putfield 11, 3) := by decide +kernel
theorem tw_38 : (.fieldLink RX2 11 "PocketCompiler$Expressions" "signs" "[I" : Cond) ∈ tw_W := tw_in (by decide +kernel) (by decide +kernel)
theorem itX2 : ∀ w ∈ wsX20, w ∈ tw_W := tw_all (by decide +kernel)
theorem dX2_init_13 : decode cX2_init 13 = .ok (.aload_n 0, 1) := by decide +kernel
theorem dX2_init_14 : decode cX2_init 14 = .ok (.sipush 420, 3) := by decide +kernel
theorem dX2_init_17 : decode cX2_init 17 = .ok (.newarray .int, 2) := by decide +kernel
theorem dX2_init_19 : decode cX2_init 19 = .ok (.putfield 15, 3) := by decide +kernel
theorem tw_39 : (.fieldLink RX2 15 "PocketCompiler$Expressions" "marks" "[I" : Cond) ∈ tw_W := tw_in (by decide +kernel) (by decide +kernel)
theorem dX2_init_22 : decode cX2_init 22 = .ok (.aload_n 0, 1) := by decide +kernel
theorem dX2_init_23 : decode cX2_init 23 = .ok (.aload_n 1, 1) := by decide +kernel
theorem dX2_init_24 : decode cX2_init 24 = .ok (.putfield 18, 3) := by decide +kernel
theorem tw_40 : (.fieldLink RX2 18 "PocketCompiler$Expressions" "tokens" "LPocketCompiler$Tokens;" : Cond) ∈ tw_W := tw_in (by decide +kernel) (by decide +kernel)
theorem dX2_init_27 : decode cX2_init 27 = .ok (.aload_n 0, 1) := by decide +kernel
theorem dX2_init_28 : decode cX2_init 28 = .ok (.aload_n 2, 1) := by decide +kernel
theorem dX2_init_29 : decode cX2_init 29 = .ok (.putfield 22, 3) := by decide +kernel
theorem tw_41 : (.fieldLink RX2 22 "PocketCompiler$Expressions" "builder" "LPocketCompiler$Builder;" : Cond) ∈ tw_W := tw_in (by decide +kernel) (by decide +kernel)
theorem dX2_init_32 : decode cX2_init 32 = .ok (.return_, 1) := by decide +kernel
theorem dX5_init_0 : decode cX5_init 0 = .ok (.aload_n 0, 1) := by decide +kernel
theorem dX5_init_1 : decode cX5_init 1 = .ok (.invokespecial 3, 3) := by decide +kernel
theorem tw_42 : (.methodLink RX5 3 objectInit : Cond) ∈ tw_W := tw_in (by decide +kernel) (by decide +kernel)
theorem dX5_init_4 : decode cX5_init 4 = .ok (.aload_n 0, 1) := by decide +kernel
theorem dX5_init_5 : decode cX5_init 5 = .ok (.aload_n 1, 1) := by decide +kernel
theorem dX5_init_6 : decode cX5_init 6 = .ok (.putfield 9, 3) := by decide +kernel
theorem tw_43 : (.fieldLink RX5 9 "PocketCompiler$Parser" "program" "LPocketCompiler$Program;" : Cond) ∈ tw_W := tw_in (by decide +kernel) (by decide +kernel)
theorem itX5 : ∀ w ∈ wsX50, w ∈ tw_W := tw_all (by decide +kernel)
theorem dX5_init_9 : decode cX5_init 9 = .ok (.aload_n 0, 1) := by decide +kernel
theorem dX5_init_10 : decode cX5_init 10 = .ok (.new 15, 3) := by decide +kernel
theorem tw_44 : (.classLink RX5 15 RX9 : Cond) ∈ tw_W := tw_in (by decide +kernel) (by decide +kernel)
theorem tw_45 : (.instantiable RX9 10 : Cond) ∈ tw_W := tw_in (by decide +kernel) (by decide +kernel)
theorem tw_46 : (.initialized RX9 : Cond) ∈ tw_W := tw_in (by decide +kernel) (by decide +kernel)
theorem itX9 : ∀ w ∈ wsX90, w ∈ tw_W := tw_all (by decide +kernel)
theorem dX5_init_13 : decode cX5_init 13 = .ok (.dup, 1) := by decide +kernel
theorem dX5_init_14 : decode cX5_init 14 = .ok (.aload_n 1, 1) := by decide +kernel
theorem dX5_init_15 : decode cX5_init 15 = .ok (.invokespecial 17, 3) := by decide +kernel
theorem dX9_init_0 : decode cX9_init 0 = .ok (.aload_n 0, 1) := by decide +kernel
theorem dX9_init_1 : decode cX9_init 1 = .ok (.invokespecial 5, 3) := by decide +kernel
theorem tw_47 : (.methodLink RX9 5 objectInit : Cond) ∈ tw_W := tw_in (by decide +kernel) (by decide +kernel)
theorem dX9_init_4 : decode cX9_init 4 = .ok (.aload_n 0, 1) := by decide +kernel
theorem dX9_init_5 : decode cX9_init 5 = .ok (.sipush 1503, 3) := by decide +kernel
theorem dX9_init_8 : decode cX9_init 8 = .ok (.newarray .int, 2) := by decide +kernel
theorem dX9_init_10 : decode cX9_init 10 = .ok (.putfield 11, 3) := by decide +kernel
theorem tw_48 : (.fieldLink RX9 11 "PocketCompiler$Tokens" "kinds" "[I" : Cond) ∈ tw_W := tw_in (by decide +kernel) (by decide +kernel)
theorem dX9_init_13 : decode cX9_init 13 = .ok (.aload_n 0, 1) := by decide +kernel
theorem dX9_init_14 : decode cX9_init 14 = .ok (.sipush 1503, 3) := by decide +kernel
theorem dX9_init_17 : decode cX9_init 17 = .ok (.newarray .int, 2) := by decide +kernel
theorem dX9_init_19 : decode cX9_init 19 = .ok (.putfield 15, 3) := by decide +kernel
theorem tw_49 : (.fieldLink RX9 15 "PocketCompiler$Tokens" "places" "[I" : Cond) ∈ tw_W := tw_in (by decide +kernel) (by decide +kernel)
theorem dX9_init_22 : decode cX9_init 22 = .ok (.aload_n 0, 1) := by decide +kernel
theorem dX9_init_23 : decode cX9_init 23 = .ok (.sipush 1503, 3) := by decide +kernel
theorem dX9_init_26 : decode cX9_init 26 = .ok (.newarray .int, 2) := by decide +kernel
theorem dX9_init_28 : decode cX9_init 28 = .ok (.putfield 18, 3) := by decide +kernel
theorem tw_50 : (.fieldLink RX9 18 "PocketCompiler$Tokens" "values" "[I" : Cond) ∈ tw_W := tw_in (by decide +kernel) (by decide +kernel)
theorem dX9_init_31 : decode cX9_init 31 = .ok (.aload_n 0, 1) := by decide +kernel
theorem dX9_init_32 : decode cX9_init 32 = .ok (.aload_n 1, 1) := by decide +kernel
theorem dX9_init_33 : decode cX9_init 33 = .ok (.putfield 21, 3) := by decide +kernel
theorem tw_51 : (.fieldLink RX9 21 "PocketCompiler$Tokens" "source" "LPocketCompiler$Program;" : Cond) ∈ tw_W := tw_in (by decide +kernel) (by decide +kernel)
theorem dX9_init_36 : decode cX9_init 36 = .ok (.return_, 1) := by decide +kernel
theorem tw_52 : (.code yX9_init cX9_init 2 none : Cond) ∈ tw_W := tw_in (by decide +kernel) (by decide +kernel)
theorem tw_53 : (.initialized yX9_init.cls : Cond) ∈ tw_W := tw_in (by decide +kernel) (by decide +kernel)
theorem tw_54 : (.methodLink RX5 17 yX9_init : Cond) ∈ tw_W := tw_in (by decide +kernel) (by decide +kernel)
theorem tw_55 : (.instanceMethod yX9_init : Cond) ∈ tw_W := tw_in (by decide +kernel) (by decide +kernel)
theorem dX5_init_18 : decode cX5_init 18 = .ok (.putfield 20, 3) := by decide +kernel
theorem tw_56 : (.fieldLink RX5 20 "PocketCompiler$Parser" "tokens" "LPocketCompiler$Tokens;" : Cond) ∈ tw_W := tw_in (by decide +kernel) (by decide +kernel)
theorem dX5_init_21 : decode cX5_init 21 = .ok (.aload_n 0, 1) := by decide +kernel
theorem dX5_init_22 : decode cX5_init 22 = .ok (.new 24, 3) := by decide +kernel
theorem tw_57 : (.classLink RX5 24 RX1 : Cond) ∈ tw_W := tw_in (by decide +kernel) (by decide +kernel)
theorem tw_58 : (.instantiable RX1 12 : Cond) ∈ tw_W := tw_in (by decide +kernel) (by decide +kernel)
theorem tw_59 : (.initialized RX1 : Cond) ∈ tw_W := tw_in (by decide +kernel) (by decide +kernel)
theorem dX5_init_25 : decode cX5_init 25 = .ok (.dup, 1) := by decide +kernel
theorem dX5_init_26 : decode cX5_init 26 = .ok (.aload_n 1, 1) := by decide +kernel
theorem dX5_init_27 : decode cX5_init 27 = .ok (.invokespecial 26, 3) := by decide +kernel
theorem tw_60 : (.code yX1_init cX1_init 2 none : Cond) ∈ tw_W := tw_in (by decide +kernel) (by decide +kernel)
theorem tw_61 : (.initialized yX1_init.cls : Cond) ∈ tw_W := tw_in (by decide +kernel) (by decide +kernel)
theorem tw_62 : (.methodLink RX5 26 yX1_init : Cond) ∈ tw_W := tw_in (by decide +kernel) (by decide +kernel)
theorem tw_63 : (.instanceMethod yX1_init : Cond) ∈ tw_W := tw_in (by decide +kernel) (by decide +kernel)
theorem dX5_init_30 : decode cX5_init 30 = .ok (.putfield 27, 3) := by decide +kernel
theorem tw_64 : (.fieldLink RX5 27 "PocketCompiler$Parser" "builder" "LPocketCompiler$Builder;" : Cond) ∈ tw_W := tw_in (by decide +kernel) (by decide +kernel)
theorem dX5_init_33 : decode cX5_init 33 = .ok (.aload_n 0, 1) := by decide +kernel
theorem dX5_init_34 : decode cX5_init 34 = .ok (.new 31, 3) := by decide +kernel
theorem tw_65 : (.classLink RX5 31 RX2 : Cond) ∈ tw_W := tw_in (by decide +kernel) (by decide +kernel)
theorem tw_66 : (.instantiable RX2 5 : Cond) ∈ tw_W := tw_in (by decide +kernel) (by decide +kernel)
theorem tw_67 : (.initialized RX2 : Cond) ∈ tw_W := tw_in (by decide +kernel) (by decide +kernel)
theorem dX5_init_37 : decode cX5_init 37 = .ok (.dup, 1) := by decide +kernel
theorem dX5_init_38 : decode cX5_init 38 = .ok (.aload_n 0, 1) := by decide +kernel
theorem dX5_init_39 : decode cX5_init 39 = .ok (.getfield 20, 3) := by decide +kernel
theorem dX5_init_42 : decode cX5_init 42 = .ok (.aload_n 0, 1) := by decide +kernel
theorem dX5_init_43 : decode cX5_init 43 = .ok (.getfield 27, 3) := by decide +kernel
theorem dX5_init_46 : decode cX5_init 46 = .ok (.invokespecial 33, 3) := by decide +kernel
theorem tw_68 : (.code yX2_init cX2_init 3 none : Cond) ∈ tw_W := tw_in (by decide +kernel) (by decide +kernel)
theorem tw_69 : (.initialized yX2_init.cls : Cond) ∈ tw_W := tw_in (by decide +kernel) (by decide +kernel)
theorem tw_70 : (.methodLink RX5 33 yX2_init : Cond) ∈ tw_W := tw_in (by decide +kernel) (by decide +kernel)
theorem tw_71 : (.instanceMethod yX2_init : Cond) ∈ tw_W := tw_in (by decide +kernel) (by decide +kernel)
theorem dX5_init_49 : decode cX5_init 49 = .ok (.putfield 36, 3) := by decide +kernel
theorem tw_72 : (.fieldLink RX5 36 "PocketCompiler$Parser" "expressions" "LPocketCompiler$Expressions;" : Cond) ∈ tw_W := tw_in (by decide +kernel) (by decide +kernel)
theorem dX5_init_52 : decode cX5_init 52 = .ok (.return_, 1) := by decide +kernel
theorem dX0_init_0 : decode cX0_init 0 = .ok (.aload_n 0, 1) := by decide +kernel
theorem dX0_init_1 : decode cX0_init 1 = .ok (.invokespecial 1, 3) := by decide +kernel
theorem tw_73 : (.methodLink RX0 1 objectInit : Cond) ∈ tw_W := tw_in (by decide +kernel) (by decide +kernel)
theorem dX0_init_4 : decode cX0_init 4 = .ok (.aload_n 0, 1) := by decide +kernel
theorem dX0_init_5 : decode cX0_init 5 = .ok (.sipush 3009, 3) := by decide +kernel
theorem dX0_init_8 : decode cX0_init 8 = .ok (.newarray .int, 2) := by decide +kernel
theorem dX0_init_10 : decode cX0_init 10 = .ok (.putfield 9, 3) := by decide +kernel
theorem tw_74 : (.fieldLink RX0 9 "PocketCompiler$Assembler" "addresses" "[I" : Cond) ∈ tw_W := tw_in (by decide +kernel) (by decide +kernel)
theorem itX0 : ∀ w ∈ wsX00, w ∈ tw_W := tw_all (by decide +kernel)
theorem dX0_init_13 : decode cX0_init 13 = .ok (.aload_n 0, 1) := by decide +kernel
theorem dX0_init_14 : decode cX0_init 14 = .ok (.aload_n 1, 1) := by decide +kernel
theorem dX0_init_15 : decode cX0_init 15 = .ok (.putfield 15, 3) := by decide +kernel
theorem tw_75 : (.fieldLink RX0 15 "PocketCompiler$Assembler" "program" "LPocketCompiler$Program;" : Cond) ∈ tw_W := tw_in (by decide +kernel) (by decide +kernel)
theorem dX0_init_18 : decode cX0_init 18 = .ok (.aload_n 0, 1) := by decide +kernel
theorem dX0_init_19 : decode cX0_init 19 = .ok (.iconst 4, 1) := by decide +kernel
theorem dX0_init_20 : decode cX0_init 20 = .ok (.iload_n 2, 1) := by decide +kernel
theorem dX0_init_21 : decode cX0_init 21 = .ok (.imul, 1) := by decide +kernel
theorem dX0_init_22 : decode cX0_init 22 = .ok (.putfield 19, 3) := by decide +kernel
theorem tw_76 : (.fieldLink RX0 19 "PocketCompiler$Assembler" "memoryBytes" "I" : Cond) ∈ tw_W := tw_in (by decide +kernel) (by decide +kernel)
theorem dX0_init_25 : decode cX0_init 25 = .ok (.return_, 1) := by decide +kernel
theorem dX10_init_0 : decode cX10_init 0 = .ok (.aload_n 0, 1) := by decide +kernel
theorem dX10_init_1 : decode cX10_init 1 = .ok (.invokespecial 3, 3) := by decide +kernel
theorem tw_77 : (.methodLink RX10 3 objectInit : Cond) ∈ tw_W := tw_in (by decide +kernel) (by decide +kernel)
theorem dX10_init_4 : decode cX10_init 4 = .ok (.aload_n 0, 1) := by decide +kernel
theorem dX10_init_5 : decode cX10_init 5 = .ok (.sipush 200, 3) := by decide +kernel
theorem dX10_init_8 : decode cX10_init 8 = .ok (.newarray .int, 2) := by decide +kernel
theorem dX10_init_10 : decode cX10_init 10 = .ok (.putfield 9, 3) := by decide +kernel
theorem tw_78 : (.fieldLink RX10 9 "PocketCompiler$Worker" "puts" "[I" : Cond) ∈ tw_W := tw_in (by decide +kernel) (by decide +kernel)
theorem itX10 : ∀ w ∈ wsX100, w ∈ tw_W := tw_all (by decide +kernel)
theorem dX10_init_13 : decode cX10_init 13 = .ok (.aload_n 0, 1) := by decide +kernel
theorem dX10_init_14 : decode cX10_init 14 = .ok (.aload_n 1, 1) := by decide +kernel
theorem dX10_init_15 : decode cX10_init 15 = .ok (.putfield 15, 3) := by decide +kernel
theorem tw_79 : (.fieldLink RX10 15 "PocketCompiler$Worker" "program" "LPocketCompiler$Program;" : Cond) ∈ tw_W := tw_in (by decide +kernel) (by decide +kernel)
theorem dX10_init_18 : decode cX10_init 18 = .ok (.aload_n 0, 1) := by decide +kernel
theorem dX10_init_19 : decode cX10_init 19 = .ok (.aload_n 3, 1) := by decide +kernel
theorem dX10_init_20 : decode cX10_init 20 = .ok (.putfield 19, 3) := by decide +kernel
theorem tw_80 : (.fieldLink RX10 19 "PocketCompiler$Worker" "gifts" "LPocketCompiler$Gifts;" : Cond) ∈ tw_W := tw_in (by decide +kernel) (by decide +kernel)
theorem dX10_init_23 : decode cX10_init 23 = .ok (.aload_n 0, 1) := by decide +kernel
theorem dX10_init_24 : decode cX10_init 24 = .ok (.iconst 4, 1) := by decide +kernel
theorem dX10_init_25 : decode cX10_init 25 = .ok (.iload_n 2, 1) := by decide +kernel
theorem dX10_init_26 : decode cX10_init 26 = .ok (.imul, 1) := by decide +kernel
theorem dX10_init_27 : decode cX10_init 27 = .ok (.putfield 23, 3) := by decide +kernel
theorem tw_81 : (.fieldLink RX10 23 "PocketCompiler$Worker" "memoryBytes" "I" : Cond) ∈ tw_W := tw_in (by decide +kernel) (by decide +kernel)
theorem dX10_init_30 : decode cX10_init 30 = .ok (.aload_n 0, 1) := by decide +kernel
theorem dX10_init_31 : decode cX10_init 31 = .ok (.iload_n 2, 1) := by decide +kernel
theorem dX10_init_32 : decode cX10_init 32 = .ok (.newarray .int, 2) := by decide +kernel
theorem dX10_init_34 : decode cX10_init 34 = .ok (.putfield 27, 3) := by decide +kernel
theorem tw_82 : (.fieldLink RX10 27 "PocketCompiler$Worker" "frames" "[I" : Cond) ∈ tw_W := tw_in (by decide +kernel) (by decide +kernel)
theorem dX10_init_37 : decode cX10_init 37 = .ok (.aload_n 0, 1) := by decide +kernel
theorem dX10_init_38 : decode cX10_init 38 = .ok (.iload_n 2, 1) := by decide +kernel
theorem dX10_init_39 : decode cX10_init 39 = .ok (.newarray .int, 2) := by decide +kernel
theorem dX10_init_41 : decode cX10_init 41 = .ok (.putfield 30, 3) := by decide +kernel
theorem tw_83 : (.fieldLink RX10 30 "PocketCompiler$Worker" "cells" "[I" : Cond) ∈ tw_W := tw_in (by decide +kernel) (by decide +kernel)
theorem dX10_init_44 : decode cX10_init 44 = .ok (.return_, 1) := by decide +kernel
theorem dX11_init_0 : decode cX11_init 0 = .ok (.aload_n 0, 1) := by decide +kernel
theorem dX11_init_1 : decode cX11_init 1 = .ok (.invokespecial 1, 3) := by decide +kernel
theorem tw_84 : (.methodLink RX11 1 objectInit : Cond) ∈ tw_W := tw_in (by decide +kernel) (by decide +kernel)
theorem dX11_init_4 : decode cX11_init 4 = .ok (.aload_n 0, 1) := by decide +kernel
theorem dX11_init_5 : decode cX11_init 5 = .ok (.sipush 4000, 3) := by decide +kernel
theorem dX11_init_8 : decode cX11_init 8 = .ok (.newarray .int, 2) := by decide +kernel
theorem dX11_init_10 : decode cX11_init 10 = .ok (.putfield 9, 3) := by decide +kernel
theorem tw_85 : (.fieldLink RX11 9 "PocketCompiler" "tape" "[I" : Cond) ∈ tw_W := tw_in (by decide +kernel) (by decide +kernel)
theorem itX11 : ∀ w ∈ wsX110, w ∈ tw_W := tw_all (by decide +kernel)
theorem dX11_init_13 : decode cX11_init 13 = .ok (.aload_n 0, 1) := by decide +kernel
theorem dX11_init_14 : decode cX11_init 14 = .ok (.iconst (-1), 1) := by decide +kernel
theorem dX11_init_15 : decode cX11_init 15 = .ok (.putfield 13, 3) := by decide +kernel
theorem tw_86 : (.fieldLink RX11 13 "PocketCompiler" "latestPlace" "I" : Cond) ∈ tw_W := tw_in (by decide +kernel) (by decide +kernel)
theorem dX11_init_18 : decode cX11_init 18 = .ok (.aload_n 0, 1) := by decide +kernel
theorem dX11_init_19 : decode cX11_init 19 = .ok (.new 17, 3) := by decide +kernel
theorem tw_87 : (.classLink RX11 17 RX3 : Cond) ∈ tw_W := tw_in (by decide +kernel) (by decide +kernel)
theorem tw_88 : (.instantiable RX3 3 : Cond) ∈ tw_W := tw_in (by decide +kernel) (by decide +kernel)
theorem tw_89 : (.initialized RX3 : Cond) ∈ tw_W := tw_in (by decide +kernel) (by decide +kernel)
theorem itX3 : ∀ w ∈ wsX30, w ∈ tw_W := tw_all (by decide +kernel)
theorem dX11_init_22 : decode cX11_init 22 = .ok (.dup, 1) := by decide +kernel
theorem dX11_init_23 : decode cX11_init 23 = .ok (.invokespecial 19, 3) := by decide +kernel
theorem dX3_init_0 : decode cX3_init 0 = .ok (.aload_n 0, 1) := by decide +kernel
theorem dX3_init_1 : decode cX3_init 1 = .ok (.invokespecial 3, 3) := by decide +kernel
theorem tw_90 : (.methodLink RX3 3 objectInit : Cond) ∈ tw_W := tw_in (by decide +kernel) (by decide +kernel)
theorem dX3_init_4 : decode cX3_init 4 = .ok (.aload_n 0, 1) := by decide +kernel
theorem dX3_init_5 : decode cX3_init 5 = .ok (.bipush 64, 2) := by decide +kernel
theorem dX3_init_7 : decode cX3_init 7 = .ok (.newarray .int, 2) := by decide +kernel
theorem dX3_init_9 : decode cX3_init 9 = .ok (.putfield 11, 3) := by decide +kernel
theorem tw_91 : (.fieldLink RX3 11 "PocketCompiler$Gifts" "numbers" "[I" : Cond) ∈ tw_W := tw_in (by decide +kernel) (by decide +kernel)
theorem dX3_init_12 : decode cX3_init 12 = .ok (.return_, 1) := by decide +kernel
theorem tw_92 : (.code yX3_init cX3_init 1 none : Cond) ∈ tw_W := tw_in (by decide +kernel) (by decide +kernel)
theorem tw_93 : (.initialized yX3_init.cls : Cond) ∈ tw_W := tw_in (by decide +kernel) (by decide +kernel)
theorem tw_94 : (.instanceMethod yX3_init : Cond) ∈ tw_W := tw_in (by decide +kernel) (by decide +kernel)
theorem dX11_init_26 : decode cX11_init 26 = .ok (.putfield 20, 3) := by decide +kernel
theorem tw_95 : (.fieldLink RX11 20 "PocketCompiler" "gifts" "LPocketCompiler$Gifts;" : Cond) ∈ tw_W := tw_in (by decide +kernel) (by decide +kernel)
theorem dX11_init_29 : decode cX11_init 29 = .ok (.aload_n 0, 1) := by decide +kernel
theorem dX11_init_30 : decode cX11_init 30 = .ok (.new 24, 3) := by decide +kernel
theorem tw_96 : (.classLink RX11 24 RX8 : Cond) ∈ tw_W := tw_in (by decide +kernel) (by decide +kernel)
theorem tw_97 : (.instantiable RX8 1 : Cond) ∈ tw_W := tw_in (by decide +kernel) (by decide +kernel)
theorem tw_98 : (.initialized RX8 : Cond) ∈ tw_W := tw_in (by decide +kernel) (by decide +kernel)
theorem dX11_init_33 : decode cX11_init 33 = .ok (.dup, 1) := by decide +kernel
theorem dX11_init_34 : decode cX11_init 34 = .ok (.invokespecial 26, 3) := by decide +kernel
theorem tw_99 : (.code yX8_init cX8_init 1 none : Cond) ∈ tw_W := tw_in (by decide +kernel) (by decide +kernel)
theorem tw_100 : (.initialized yX8_init.cls : Cond) ∈ tw_W := tw_in (by decide +kernel) (by decide +kernel)
theorem tw_101 : (.instanceMethod yX8_init : Cond) ∈ tw_W := tw_in (by decide +kernel) (by decide +kernel)
theorem dX11_init_37 : decode cX11_init 37 = .ok (.putfield 27, 3) := by decide +kernel
theorem tw_102 : (.fieldLink RX11 27 "PocketCompiler" "shower" "LPocketCompiler$Shower;" : Cond) ∈ tw_W := tw_in (by decide +kernel) (by decide +kernel)
theorem dX11_init_62 : decode cX11_init 62 = .ok (.aload_n 0, 1) := by decide +kernel
theorem dX11_init_63 : decode cX11_init 63 = .ok (.new 31, 3) := by decide +kernel
theorem tw_103 : (.classLink RX11 31 RX7 : Cond) ∈ tw_W := tw_in (by decide +kernel) (by decide +kernel)
theorem tw_104 : (.instantiable RX7 13 : Cond) ∈ tw_W := tw_in (by decide +kernel) (by decide +kernel)
theorem tw_105 : (.initialized RX7 : Cond) ∈ tw_W := tw_in (by decide +kernel) (by decide +kernel)
theorem dX11_init_66 : decode cX11_init 66 = .ok (.dup, 1) := by decide +kernel
theorem dX11_init_67 : decode cX11_init 67 = .ok (.iload_n 2, 1) := by decide +kernel
theorem dX11_init_68 : decode cX11_init 68 = .ok (.invokespecial 33, 3) := by decide +kernel
theorem tw_106 : (.code yX7_init cX7_init 2 none : Cond) ∈ tw_W := tw_in (by decide +kernel) (by decide +kernel)
theorem tw_107 : (.initialized yX7_init.cls : Cond) ∈ tw_W := tw_in (by decide +kernel) (by decide +kernel)
theorem tw_108 : (.methodLink RX11 33 yX7_init : Cond) ∈ tw_W := tw_in (by decide +kernel) (by decide +kernel)
theorem tw_109 : (.instanceMethod yX7_init : Cond) ∈ tw_W := tw_in (by decide +kernel) (by decide +kernel)
theorem dX11_init_71 : decode cX11_init 71 = .ok (.putfield 36, 3) := by decide +kernel
theorem tw_110 : (.fieldLink RX11 36 "PocketCompiler" "loaded" "LPocketCompiler$Program;" : Cond) ∈ tw_W := tw_in (by decide +kernel) (by decide +kernel)
theorem dX11_init_74 : decode cX11_init 74 = .ok (.aload_n 0, 1) := by decide +kernel
theorem dX11_init_75 : decode cX11_init 75 = .ok (.new 31, 3) := by decide +kernel
theorem dX11_init_78 : decode cX11_init 78 = .ok (.dup, 1) := by decide +kernel
theorem dX11_init_79 : decode cX11_init 79 = .ok (.iload_n 2, 1) := by decide +kernel
theorem dX11_init_80 : decode cX11_init 80 = .ok (.invokespecial 33, 3) := by decide +kernel
theorem dX11_init_83 : decode cX11_init 83 = .ok (.putfield 40, 3) := by decide +kernel
theorem tw_111 : (.fieldLink RX11 40 "PocketCompiler" "spare" "LPocketCompiler$Program;" : Cond) ∈ tw_W := tw_in (by decide +kernel) (by decide +kernel)
theorem dX11_init_86 : decode cX11_init 86 = .ok (.aload_n 0, 1) := by decide +kernel
theorem dX11_init_87 : decode cX11_init 87 = .ok (.new 43, 3) := by decide +kernel
theorem tw_112 : (.classLink RX11 43 RX5 : Cond) ∈ tw_W := tw_in (by decide +kernel) (by decide +kernel)
theorem tw_113 : (.instantiable RX5 7 : Cond) ∈ tw_W := tw_in (by decide +kernel) (by decide +kernel)
theorem tw_114 : (.initialized RX5 : Cond) ∈ tw_W := tw_in (by decide +kernel) (by decide +kernel)
theorem dX11_init_90 : decode cX11_init 90 = .ok (.dup, 1) := by decide +kernel
theorem dX11_init_91 : decode cX11_init 91 = .ok (.aload_n 0, 1) := by decide +kernel
theorem dX11_init_92 : decode cX11_init 92 = .ok (.getfield 36, 3) := by decide +kernel
theorem dX11_init_95 : decode cX11_init 95 = .ok (.invokespecial 45, 3) := by decide +kernel
theorem tw_115 : (.code yX5_init cX5_init 2 none : Cond) ∈ tw_W := tw_in (by decide +kernel) (by decide +kernel)
theorem tw_116 : (.initialized yX5_init.cls : Cond) ∈ tw_W := tw_in (by decide +kernel) (by decide +kernel)
theorem tw_117 : (.methodLink RX11 45 yX5_init : Cond) ∈ tw_W := tw_in (by decide +kernel) (by decide +kernel)
theorem tw_118 : (.instanceMethod yX5_init : Cond) ∈ tw_W := tw_in (by decide +kernel) (by decide +kernel)
theorem dX11_init_98 : decode cX11_init 98 = .ok (.putfield 48, 3) := by decide +kernel
theorem tw_119 : (.fieldLink RX11 48 "PocketCompiler" "parser" "LPocketCompiler$Parser;" : Cond) ∈ tw_W := tw_in (by decide +kernel) (by decide +kernel)
theorem dX11_init_101 : decode cX11_init 101 = .ok (.aload_n 0, 1) := by decide +kernel
theorem dX11_init_102 : decode cX11_init 102 = .ok (.new 52, 3) := by decide +kernel
theorem tw_120 : (.classLink RX11 52 RX0 : Cond) ∈ tw_W := tw_in (by decide +kernel) (by decide +kernel)
theorem tw_121 : (.instantiable RX0 9 : Cond) ∈ tw_W := tw_in (by decide +kernel) (by decide +kernel)
theorem tw_122 : (.initialized RX0 : Cond) ∈ tw_W := tw_in (by decide +kernel) (by decide +kernel)
theorem dX11_init_105 : decode cX11_init 105 = .ok (.dup, 1) := by decide +kernel
theorem dX11_init_106 : decode cX11_init 106 = .ok (.aload_n 0, 1) := by decide +kernel
theorem dX11_init_107 : decode cX11_init 107 = .ok (.getfield 36, 3) := by decide +kernel
theorem dX11_init_110 : decode cX11_init 110 = .ok (.iload_n 2, 1) := by decide +kernel
theorem dX11_init_111 : decode cX11_init 111 = .ok (.invokespecial 54, 3) := by decide +kernel
theorem tw_123 : (.code yX0_init cX0_init 3 none : Cond) ∈ tw_W := tw_in (by decide +kernel) (by decide +kernel)
theorem tw_124 : (.initialized yX0_init.cls : Cond) ∈ tw_W := tw_in (by decide +kernel) (by decide +kernel)
theorem tw_125 : (.methodLink RX11 54 yX0_init : Cond) ∈ tw_W := tw_in (by decide +kernel) (by decide +kernel)
theorem tw_126 : (.instanceMethod yX0_init : Cond) ∈ tw_W := tw_in (by decide +kernel) (by decide +kernel)
theorem dX11_init_114 : decode cX11_init 114 = .ok (.putfield 57, 3) := by decide +kernel
theorem tw_127 : (.fieldLink RX11 57 "PocketCompiler" "assembler" "LPocketCompiler$Assembler;" : Cond) ∈ tw_W := tw_in (by decide +kernel) (by decide +kernel)
theorem dX11_init_117 : decode cX11_init 117 = .ok (.aload_n 0, 1) := by decide +kernel
theorem dX11_init_118 : decode cX11_init 118 = .ok (.new 61, 3) := by decide +kernel
theorem tw_128 : (.classLink RX11 61 RX6 : Cond) ∈ tw_W := tw_in (by decide +kernel) (by decide +kernel)
theorem tw_129 : (.instantiable RX6 9 : Cond) ∈ tw_W := tw_in (by decide +kernel) (by decide +kernel)
theorem tw_130 : (.initialized RX6 : Cond) ∈ tw_W := tw_in (by decide +kernel) (by decide +kernel)
theorem itX6 : ∀ w ∈ wsX60, w ∈ tw_W := tw_all (by decide +kernel)
theorem dX11_init_121 : decode cX11_init 121 = .ok (.dup, 1) := by decide +kernel
theorem dX11_init_122 : decode cX11_init 122 = .ok (.iload_n 2, 1) := by decide +kernel
theorem dX11_init_123 : decode cX11_init 123 = .ok (.aload_n 0, 1) := by decide +kernel
theorem dX11_init_124 : decode cX11_init 124 = .ok (.getfield 20, 3) := by decide +kernel
theorem dX11_init_127 : decode cX11_init 127 = .ok (.invokespecial 63, 3) := by decide +kernel
theorem dX6_init_0 : decode cX6_init 0 = .ok (.aload_n 0, 1) := by decide +kernel
theorem dX6_init_1 : decode cX6_init 1 = .ok (.invokespecial 3, 3) := by decide +kernel
theorem tw_131 : (.methodLink RX6 3 objectInit : Cond) ∈ tw_W := tw_in (by decide +kernel) (by decide +kernel)
theorem dX6_init_4 : decode cX6_init 4 = .ok (.aload_n 0, 1) := by decide +kernel
theorem dX6_init_5 : decode cX6_init 5 = .ok (.bipush 32, 2) := by decide +kernel
theorem dX6_init_7 : decode cX6_init 7 = .ok (.newarray .int, 2) := by decide +kernel
theorem dX6_init_9 : decode cX6_init 9 = .ok (.putfield 9, 3) := by decide +kernel
theorem tw_132 : (.fieldLink RX6 9 "PocketCompiler$Processor" "registers" "[I" : Cond) ∈ tw_W := tw_in (by decide +kernel) (by decide +kernel)
theorem dX6_init_12 : decode cX6_init 12 = .ok (.aload_n 0, 1) := by decide +kernel
theorem dX6_init_13 : decode cX6_init 13 = .ok (.sipush 200, 3) := by decide +kernel
theorem dX6_init_16 : decode cX6_init 16 = .ok (.newarray .int, 2) := by decide +kernel
theorem dX6_init_18 : decode cX6_init 18 = .ok (.putfield 15, 3) := by decide +kernel
theorem tw_133 : (.fieldLink RX6 15 "PocketCompiler$Processor" "puts" "[I" : Cond) ∈ tw_W := tw_in (by decide +kernel) (by decide +kernel)
theorem dX6_init_21 : decode cX6_init 21 = .ok (.aload_n 0, 1) := by decide +kernel
theorem dX6_init_22 : decode cX6_init 22 = .ok (.iload_n 1, 1) := by decide +kernel
theorem dX6_init_23 : decode cX6_init 23 = .ok (.newarray .int, 2) := by decide +kernel
theorem dX6_init_25 : decode cX6_init 25 = .ok (.putfield 18, 3) := by decide +kernel
theorem tw_134 : (.fieldLink RX6 18 "PocketCompiler$Processor" "memory" "[I" : Cond) ∈ tw_W := tw_in (by decide +kernel) (by decide +kernel)
theorem dX6_init_28 : decode cX6_init 28 = .ok (.aload_n 0, 1) := by decide +kernel
theorem dX6_init_29 : decode cX6_init 29 = .ok (.aload_n 2, 1) := by decide +kernel
theorem dX6_init_30 : decode cX6_init 30 = .ok (.putfield 21, 3) := by decide +kernel
theorem tw_135 : (.fieldLink RX6 21 "PocketCompiler$Processor" "gifts" "LPocketCompiler$Gifts;" : Cond) ∈ tw_W := tw_in (by decide +kernel) (by decide +kernel)
theorem dX6_init_33 : decode cX6_init 33 = .ok (.return_, 1) := by decide +kernel
theorem tw_136 : (.code yX6_init cX6_init 3 none : Cond) ∈ tw_W := tw_in (by decide +kernel) (by decide +kernel)
theorem tw_137 : (.initialized yX6_init.cls : Cond) ∈ tw_W := tw_in (by decide +kernel) (by decide +kernel)
theorem tw_138 : (.methodLink RX11 63 yX6_init : Cond) ∈ tw_W := tw_in (by decide +kernel) (by decide +kernel)
theorem tw_139 : (.instanceMethod yX6_init : Cond) ∈ tw_W := tw_in (by decide +kernel) (by decide +kernel)
theorem dX11_init_130 : decode cX11_init 130 = .ok (.putfield 66, 3) := by decide +kernel
theorem tw_140 : (.fieldLink RX11 66 "PocketCompiler" "processor" "LPocketCompiler$Processor;" : Cond) ∈ tw_W := tw_in (by decide +kernel) (by decide +kernel)
theorem dX11_init_133 : decode cX11_init 133 = .ok (.aload_n 0, 1) := by decide +kernel
theorem dX11_init_134 : decode cX11_init 134 = .ok (.new 70, 3) := by decide +kernel
theorem tw_141 : (.classLink RX11 70 RX10 : Cond) ∈ tw_W := tw_in (by decide +kernel) (by decide +kernel)
theorem tw_142 : (.instantiable RX10 17 : Cond) ∈ tw_W := tw_in (by decide +kernel) (by decide +kernel)
theorem tw_143 : (.initialized RX10 : Cond) ∈ tw_W := tw_in (by decide +kernel) (by decide +kernel)
theorem dX11_init_137 : decode cX11_init 137 = .ok (.dup, 1) := by decide +kernel
theorem dX11_init_138 : decode cX11_init 138 = .ok (.aload_n 0, 1) := by decide +kernel
theorem dX11_init_139 : decode cX11_init 139 = .ok (.getfield 36, 3) := by decide +kernel
theorem dX11_init_142 : decode cX11_init 142 = .ok (.iload_n 2, 1) := by decide +kernel
theorem dX11_init_143 : decode cX11_init 143 = .ok (.aload_n 0, 1) := by decide +kernel
theorem dX11_init_144 : decode cX11_init 144 = .ok (.getfield 20, 3) := by decide +kernel
theorem dX11_init_147 : decode cX11_init 147 = .ok (.invokespecial 72, 3) := by decide +kernel
theorem tw_144 : (.code yX10_init cX10_init 4 none : Cond) ∈ tw_W := tw_in (by decide +kernel) (by decide +kernel)
theorem tw_145 : (.initialized yX10_init.cls : Cond) ∈ tw_W := tw_in (by decide +kernel) (by decide +kernel)
theorem tw_146 : (.methodLink RX11 72 yX10_init : Cond) ∈ tw_W := tw_in (by decide +kernel) (by decide +kernel)
theorem tw_147 : (.instanceMethod yX10_init : Cond) ∈ tw_W := tw_in (by decide +kernel) (by decide +kernel)
theorem dX11_init_150 : decode cX11_init 150 = .ok (.putfield 75, 3) := by decide +kernel
theorem tw_148 : (.fieldLink RX11 75 "PocketCompiler" "worker" "LPocketCompiler$Worker;" : Cond) ∈ tw_W := tw_in (by decide +kernel) (by decide +kernel)
theorem dX11_init_153 : decode cX11_init 153 = .ok (.aload_n 0, 1) := by decide +kernel
theorem dX11_init_154 : decode cX11_init 154 = .ok (.getfield 48, 3) := by decide +kernel
theorem dX11_init_157 : decode cX11_init 157 = .ok (.aload_n 0, 1) := by decide +kernel
theorem dX11_init_158 : decode cX11_init 158 = .ok (.getfield 36, 3) := by decide +kernel
theorem dX11_init_161 : decode cX11_init 161 = .ok (.invokevirtual 79, 3) := by decide +kernel
theorem dX5_readText_0 : decode cX5_readText 0 = .ok (.aload_n 0, 1) := by decide +kernel
theorem dX5_readText_1 : decode cX5_readText 1 = .ok (.aload_n 1, 1) := by decide +kernel
theorem dX5_readText_2 : decode cX5_readText 2 = .ok (.putfield 9, 3) := by decide +kernel
theorem dX5_readText_5 : decode cX5_readText 5 = .ok (.aload_n 0, 1) := by decide +kernel
theorem dX5_readText_6 : decode cX5_readText 6 = .ok (.getfield 20, 3) := by decide +kernel
theorem dX5_readText_9 : decode cX5_readText 9 = .ok (.aload_n 1, 1) := by decide +kernel
theorem dX5_readText_10 : decode cX5_readText 10 = .ok (.invokevirtual 40, 3) := by decide +kernel
theorem dX9_scan_0 : decode cX9_scan 0 = .ok (.aload_n 0, 1) := by decide +kernel
theorem dX9_scan_1 : decode cX9_scan 1 = .ok (.aload_n 1, 1) := by decide +kernel
theorem dX9_scan_2 : decode cX9_scan 2 = .ok (.putfield 21, 3) := by decide +kernel
theorem dX9_scan_5 : decode cX9_scan 5 = .ok (.aload_n 0, 1) := by decide +kernel
theorem dX9_scan_6 : decode cX9_scan 6 = .ok (.iconst 0, 1) := by decide +kernel
theorem dX9_scan_7 : decode cX9_scan 7 = .ok (.putfield 28, 3) := by decide +kernel
theorem tw_149 : (.fieldLink RX9 28 "PocketCompiler$Tokens" "size" "I" : Cond) ∈ tw_W := tw_in (by decide +kernel) (by decide +kernel)
theorem dX9_scan_10 : decode cX9_scan 10 = .ok (.aload_n 0, 1) := by decide +kernel
theorem dX9_scan_11 : decode cX9_scan 11 = .ok (.iconst 0, 1) := by decide +kernel
theorem dX9_scan_12 : decode cX9_scan 12 = .ok (.putfield 32, 3) := by decide +kernel
theorem tw_150 : (.fieldLink RX9 32 "PocketCompiler$Tokens" "at" "I" : Cond) ∈ tw_W := tw_in (by decide +kernel) (by decide +kernel)
theorem dX9_scan_15 : decode cX9_scan 15 = .ok (.aload_n 0, 1) := by decide +kernel
theorem dX9_scan_16 : decode cX9_scan 16 = .ok (.iconst 0, 1) := by decide +kernel
theorem dX9_scan_17 : decode cX9_scan 17 = .ok (.putfield 35, 3) := by decide +kernel
theorem tw_151 : (.fieldLink RX9 35 "PocketCompiler$Tokens" "opened" "I" : Cond) ∈ tw_W := tw_in (by decide +kernel) (by decide +kernel)
theorem dX9_scan_20 : decode cX9_scan 20 = .ok (.aload_n 0, 1) := by decide +kernel
theorem dX9_scan_21 : decode cX9_scan 21 = .ok (.iconst (-1), 1) := by decide +kernel
theorem dX9_scan_22 : decode cX9_scan 22 = .ok (.putfield 38, 3) := by decide +kernel
theorem tw_152 : (.fieldLink RX9 38 "PocketCompiler$Tokens" "dueAt" "I" : Cond) ∈ tw_W := tw_in (by decide +kernel) (by decide +kernel)
theorem dX9_scan_25 : decode cX9_scan 25 = .ok (.aload_n 0, 1) := by decide +kernel
theorem dX9_scan_26 : decode cX9_scan 26 = .ok (.iconst 0, 1) := by decide +kernel
theorem dX9_scan_27 : decode cX9_scan 27 = .ok (.putfield 41, 3) := by decide +kernel
theorem tw_153 : (.fieldLink RX9 41 "PocketCompiler$Tokens" "faultKind" "I" : Cond) ∈ tw_W := tw_in (by decide +kernel) (by decide +kernel)
theorem dX9_scan_30 : decode cX9_scan 30 = .ok (.aload_n 0, 1) := by decide +kernel
theorem dX9_scan_31 : decode cX9_scan 31 = .ok (.iconst (-1), 1) := by decide +kernel
theorem dX9_scan_32 : decode cX9_scan 32 = .ok (.putfield 44, 3) := by decide +kernel
theorem tw_154 : (.fieldLink RX9 44 "PocketCompiler$Tokens" "faultPlace" "I" : Cond) ∈ tw_W := tw_in (by decide +kernel) (by decide +kernel)
theorem dX9_scan_35 : decode cX9_scan 35 = .ok (.iconst 0, 1) := by decide +kernel
theorem dX9_scan_36 : decode cX9_scan 36 = .ok (.istore_n 2, 1) := by decide +kernel
theorem dX9_scan_37 : decode cX9_scan 37 = .ok (.iconst 0, 1) := by decide +kernel
theorem dX9_scan_38 : decode cX9_scan 38 = .ok (.istore_n 3, 1) := by decide +kernel
theorem dX9_scan_39 : decode cX9_scan 39 = .ok (.iload_n 3, 1) := by decide +kernel
theorem dX9_scan_40 : decode cX9_scan 40 = .ok (.sipush 1503, 3) := by decide +kernel
theorem dX9_scan_43 : decode cX9_scan 43 = .ok (.if_icmp .ge 39, 3) := by decide +kernel
theorem dX9_scan_46 : decode cX9_scan 46 = .ok (.aload_n 0, 1) := by decide +kernel
theorem dX9_scan_47 : decode cX9_scan 47 = .ok (.aload_n 0, 1) := by decide +kernel
theorem dX9_scan_48 : decode cX9_scan 48 = .ok (.iload_n 2, 1) := by decide +kernel
theorem dX9_scan_49 : decode cX9_scan 49 = .ok (.invokevirtual 47, 3) := by decide +kernel
theorem dX9_behindBlanks_0 : decode cX9_behindBlanks 0 = .ok (.iconst 0, 1) := by decide +kernel
theorem dX9_behindBlanks_1 : decode cX9_behindBlanks 1 = .ok (.istore_n 2, 1) := by decide +kernel
theorem dX9_behindBlanks_2 : decode cX9_behindBlanks 2 = .ok (.iload_n 1, 1) := by decide +kernel
theorem dX9_behindBlanks_3 : decode cX9_behindBlanks 3 = .ok (.istore_n 3, 1) := by decide +kernel
theorem dX9_behindBlanks_4 : decode cX9_behindBlanks 4 = .ok (.iload_n 3, 1) := by decide +kernel
theorem dX9_behindBlanks_5 : decode cX9_behindBlanks 5 = .ok (.aload_n 0, 1) := by decide +kernel
theorem dX9_behindBlanks_6 : decode cX9_behindBlanks 6 = .ok (.getfield 21, 3) := by decide +kernel
theorem dX9_behindBlanks_9 : decode cX9_behindBlanks 9 = .ok (.getfield 54, 3) := by decide +kernel
theorem tw_155 : (.fieldLink RX9 54 "PocketCompiler$Program" "length" "I" : Cond) ∈ tw_W := tw_in (by decide +kernel) (by decide +kernel)
theorem dX9_behindBlanks_12 : decode cX9_behindBlanks 12 = .ok (.if_icmp .ge 96, 3) := by decide +kernel
theorem dX9_behindBlanks_108 : decode cX9_behindBlanks 108 = .ok (.aload_n 0, 1) := by decide +kernel
theorem dX9_behindBlanks_109 : decode cX9_behindBlanks 109 = .ok (.getfield 21, 3) := by decide +kernel
theorem dX9_behindBlanks_112 : decode cX9_behindBlanks 112 = .ok (.getfield 54, 3) := by decide +kernel
theorem dX9_behindBlanks_115 : decode cX9_behindBlanks 115 = .ok (.ireturn, 1) := by decide +kernel
theorem tw_156 : (.code yX9_behindBlanks cX9_behindBlanks 5 (some .int) : Cond) ∈ tw_W := tw_in (by decide +kernel) (by decide +kernel)
theorem tw_157 : ∀ w ∈ ([.methodLink RX9 47 yX9_behindBlanks, .instanceMethod yX9_behindBlanks, .selects RX9 yX9_behindBlanks yX9_behindBlanks, .initialized RX9] : List Cond), w ∈ tw_W := tw_all (by decide +kernel)
theorem dX9_scan_52 : decode cX9_scan 52 = .ok (.invokevirtual 51, 3) := by decide +kernel
theorem dX9_scanOne_0 : decode cX9_scanOne 0 = .ok (.aload_n 0, 1) := by decide +kernel
theorem dX9_scanOne_1 : decode cX9_scanOne 1 = .ok (.getfield 21, 3) := by decide +kernel
theorem dX9_scanOne_4 : decode cX9_scanOne 4 = .ok (.iload_n 1, 1) := by decide +kernel
theorem dX9_scanOne_5 : decode cX9_scanOne 5 = .ok (.invokevirtual 59, 3) := by decide +kernel
theorem dX7_byteAt_0 : decode cX7_byteAt 0 = .ok (.iload_n 1, 1) := by decide +kernel
theorem dX7_byteAt_1 : decode cX7_byteAt 1 = .ok (.ifCond .lt 20, 3) := by decide +kernel
theorem dX7_byteAt_4 : decode cX7_byteAt 4 = .ok (.iload_n 1, 1) := by decide +kernel
theorem dX7_byteAt_5 : decode cX7_byteAt 5 = .ok (.aload_n 0, 1) := by decide +kernel
theorem dX7_byteAt_6 : decode cX7_byteAt 6 = .ok (.getfield 35, 3) := by decide +kernel
theorem tw_158 : (.fieldLink RX7 35 "PocketCompiler$Program" "length" "I" : Cond) ∈ tw_W := tw_in (by decide +kernel) (by decide +kernel)
theorem dX7_byteAt_9 : decode cX7_byteAt 9 = .ok (.if_icmp .ge 12, 3) := by decide +kernel
theorem dX7_byteAt_21 : decode cX7_byteAt 21 = .ok (.iconst (-1), 1) := by decide +kernel
theorem dX7_byteAt_22 : decode cX7_byteAt 22 = .ok (.ireturn, 1) := by decide +kernel
theorem tw_159 : (.code yX7_byteAt cX7_byteAt 2 (some .int) : Cond) ∈ tw_W := tw_in (by decide +kernel) (by decide +kernel)
theorem tw_160 : ∀ w ∈ ([.methodLink RX9 59 yX7_byteAt, .instanceMethod yX7_byteAt, .selects RX7 yX7_byteAt yX7_byteAt, .initialized RX7] : List Cond), w ∈ tw_W := tw_all (by decide +kernel)
theorem dX9_scanOne_8 : decode cX9_scanOne 8 = .ok (.istore_n 2, 1) := by decide +kernel
theorem dX9_scanOne_9 : decode cX9_scanOne 9 = .ok (.iload_n 2, 1) := by decide +kernel
theorem dX9_scanOne_10 : decode cX9_scanOne 10 = .ok (.iconst (-1), 1) := by decide +kernel
theorem dX9_scanOne_11 : decode cX9_scanOne 11 = .ok (.if_icmp .ne 12, 3) := by decide +kernel
theorem dX9_scanOne_14 : decode cX9_scanOne 14 = .ok (.aload_n 0, 1) := by decide +kernel
theorem dX9_scanOne_15 : decode cX9_scanOne 15 = .ok (.iconst 0, 1) := by decide +kernel
theorem dX9_scanOne_16 : decode cX9_scanOne 16 = .ok (.iload_n 1, 1) := by decide +kernel
theorem dX9_scanOne_17 : decode cX9_scanOne 17 = .ok (.iconst 0, 1) := by decide +kernel
theorem dX9_scanOne_18 : decode cX9_scanOne 18 = .ok (.iconst 0, 1) := by decide +kernel
theorem dX9_scanOne_19 : decode cX9_scanOne 19 = .ok (.invokevirtual 62, 3) := by decide +kernel
theorem dX9_add_0 : decode cX9_add 0 = .ok (.aload_n 0, 1) := by decide +kernel
theorem dX9_add_1 : decode cX9_add 1 = .ok (.getfield 28, 3) := by decide +kernel
theorem dX9_add_4 : decode cX9_add 4 = .ok (.sipush 1503, 3) := by decide +kernel
theorem dX9_add_7 : decode cX9_add 7 = .ok (.if_icmp .ge 43, 3) := by decide +kernel
theorem dX9_add_10 : decode cX9_add 10 = .ok (.aload_n 0, 1) := by decide +kernel
theorem dX9_add_11 : decode cX9_add 11 = .ok (.getfield 11, 3) := by decide +kernel
theorem dX9_add_14 : decode cX9_add 14 = .ok (.aload_n 0, 1) := by decide +kernel
theorem dX9_add_15 : decode cX9_add 15 = .ok (.getfield 28, 3) := by decide +kernel
theorem dX9_add_18 : decode cX9_add 18 = .ok (.iload_n 1, 1) := by decide +kernel
theorem dX9_add_19 : decode cX9_add 19 = .ok (.iastore, 1) := by decide +kernel
theorem dX9_add_20 : decode cX9_add 20 = .ok (.aload_n 0, 1) := by decide +kernel
theorem dX9_add_21 : decode cX9_add 21 = .ok (.getfield 15, 3) := by decide +kernel
theorem dX9_add_24 : decode cX9_add 24 = .ok (.aload_n 0, 1) := by decide +kernel
theorem dX9_add_25 : decode cX9_add 25 = .ok (.getfield 28, 3) := by decide +kernel
theorem dX9_add_28 : decode cX9_add 28 = .ok (.iload_n 2, 1) := by decide +kernel
theorem dX9_add_29 : decode cX9_add 29 = .ok (.iastore, 1) := by decide +kernel
theorem dX9_add_30 : decode cX9_add 30 = .ok (.aload_n 0, 1) := by decide +kernel
theorem dX9_add_31 : decode cX9_add 31 = .ok (.getfield 18, 3) := by decide +kernel
theorem dX9_add_34 : decode cX9_add 34 = .ok (.aload_n 0, 1) := by decide +kernel
theorem dX9_add_35 : decode cX9_add 35 = .ok (.getfield 28, 3) := by decide +kernel
theorem dX9_add_38 : decode cX9_add 38 = .ok (.iload_n 3, 1) := by decide +kernel
theorem dX9_add_39 : decode cX9_add 39 = .ok (.iastore, 1) := by decide +kernel
theorem dX9_add_40 : decode cX9_add 40 = .ok (.aload_n 0, 1) := by decide +kernel
theorem dX9_add_41 : decode cX9_add 41 = .ok (.dup, 1) := by decide +kernel
theorem dX9_add_42 : decode cX9_add 42 = .ok (.getfield 28, 3) := by decide +kernel
theorem dX9_add_45 : decode cX9_add 45 = .ok (.iconst 1, 1) := by decide +kernel
theorem dX9_add_46 : decode cX9_add 46 = .ok (.iadd, 1) := by decide +kernel
theorem dX9_add_47 : decode cX9_add 47 = .ok (.putfield 28, 3) := by decide +kernel
theorem dX9_add_50 : decode cX9_add 50 = .ok (.iload_n 2, 1) := by decide +kernel
theorem dX9_add_51 : decode cX9_add 51 = .ok (.iload 4, 2) := by decide +kernel
theorem dX9_add_53 : decode cX9_add 53 = .ok (.iadd, 1) := by decide +kernel
theorem dX9_add_54 : decode cX9_add 54 = .ok (.ireturn, 1) := by decide +kernel
theorem tw_161 : (.code yX9_add cX9_add 5 (some .int) : Cond) ∈ tw_W := tw_in (by decide +kernel) (by decide +kernel)
theorem tw_162 : ∀ w ∈ ([.methodLink RX9 62 yX9_add, .instanceMethod yX9_add, .selects RX9 yX9_add yX9_add, .initialized RX9] : List Cond), w ∈ tw_W := tw_all (by decide +kernel)
theorem dX9_scanOne_22 : decode cX9_scanOne 22 = .ok (.ireturn, 1) := by decide +kernel
theorem tw_163 : (.code yX9_scanOne cX9_scanOne 3 (some .int) : Cond) ∈ tw_W := tw_in (by decide +kernel) (by decide +kernel)
theorem tw_164 : ∀ w ∈ ([.methodLink RX9 51 yX9_scanOne, .instanceMethod yX9_scanOne, .selects RX9 yX9_scanOne yX9_scanOne, .initialized RX9] : List Cond), w ∈ tw_W := tw_all (by decide +kernel)
theorem dX9_scan_55 : decode cX9_scan 55 = .ok (.istore_n 2, 1) := by decide +kernel
theorem dX9_scan_56 : decode cX9_scan 56 = .ok (.aload_n 0, 1) := by decide +kernel
theorem dX9_scan_57 : decode cX9_scan 57 = .ok (.getfield 11, 3) := by decide +kernel
theorem dX9_scan_60 : decode cX9_scan 60 = .ok (.iload_n 3, 1) := by decide +kernel
theorem dX9_scan_61 : decode cX9_scan 61 = .ok (.iaload, 1) := by decide +kernel
theorem dX9_scan_62 : decode cX9_scan 62 = .ok (.ifCond .eq 13, 3) := by decide +kernel
theorem dX9_scan_75 : decode cX9_scan 75 = .ok (.return_, 1) := by decide +kernel
theorem tw_165 : (.code yX9_scan cX9_scan 4 none : Cond) ∈ tw_W := tw_in (by decide +kernel) (by decide +kernel)
theorem tw_166 : ∀ w ∈ ([.methodLink RX5 40 yX9_scan, .instanceMethod yX9_scan, .selects RX9 yX9_scan yX9_scan, .initialized RX9] : List Cond), w ∈ tw_W := tw_all (by decide +kernel)
theorem dX5_readText_13 : decode cX5_readText 13 = .ok (.aload_n 0, 1) := by decide +kernel
theorem dX5_readText_14 : decode cX5_readText 14 = .ok (.getfield 27, 3) := by decide +kernel
theorem dX5_readText_17 : decode cX5_readText 17 = .ok (.aload_n 1, 1) := by decide +kernel
theorem dX5_readText_18 : decode cX5_readText 18 = .ok (.invokevirtual 43, 3) := by decide +kernel
theorem dX1_begin_0 : decode cX1_begin 0 = .ok (.aload_n 0, 1) := by decide +kernel
theorem dX1_begin_1 : decode cX1_begin 1 = .ok (.aload_n 1, 1) := by decide +kernel
theorem dX1_begin_2 : decode cX1_begin 2 = .ok (.putfield 27, 3) := by decide +kernel
theorem dX1_begin_5 : decode cX1_begin 5 = .ok (.aload_n 0, 1) := by decide +kernel
theorem dX1_begin_6 : decode cX1_begin 6 = .ok (.getfield 27, 3) := by decide +kernel
theorem dX1_begin_9 : decode cX1_begin 9 = .ok (.invokevirtual 31, 3) := by decide +kernel
theorem dX7_clear_0 : decode cX7_clear 0 = .ok (.aload_n 0, 1) := by decide +kernel
theorem dX7_clear_1 : decode cX7_clear 1 = .ok (.iconst 0, 1) := by decide +kernel
theorem dX7_clear_2 : decode cX7_clear 2 = .ok (.putfield 45, 3) := by decide +kernel
theorem tw_167 : (.fieldLink RX7 45 "PocketCompiler$Program" "functionCount" "I" : Cond) ∈ tw_W := tw_in (by decide +kernel) (by decide +kernel)
theorem dX7_clear_5 : decode cX7_clear 5 = .ok (.aload_n 0, 1) := by decide +kernel
theorem dX7_clear_6 : decode cX7_clear 6 = .ok (.iconst 0, 1) := by decide +kernel
theorem dX7_clear_7 : decode cX7_clear 7 = .ok (.putfield 48, 3) := by decide +kernel
theorem tw_168 : (.fieldLink RX7 48 "PocketCompiler$Program" "globalCount" "I" : Cond) ∈ tw_W := tw_in (by decide +kernel) (by decide +kernel)
theorem dX7_clear_10 : decode cX7_clear 10 = .ok (.aload_n 0, 1) := by decide +kernel
theorem dX7_clear_11 : decode cX7_clear 11 = .ok (.iconst 0, 1) := by decide +kernel
theorem dX7_clear_12 : decode cX7_clear 12 = .ok (.putfield 51, 3) := by decide +kernel
theorem tw_169 : (.fieldLink RX7 51 "PocketCompiler$Program" "deedCount" "I" : Cond) ∈ tw_W := tw_in (by decide +kernel) (by decide +kernel)
theorem dX7_clear_15 : decode cX7_clear 15 = .ok (.aload_n 0, 1) := by decide +kernel
theorem dX7_clear_16 : decode cX7_clear 16 = .ok (.iconst 0, 1) := by decide +kernel
theorem dX7_clear_17 : decode cX7_clear 17 = .ok (.putfield 54, 3) := by decide +kernel
theorem tw_170 : (.fieldLink RX7 54 "PocketCompiler$Program" "wordCount" "I" : Cond) ∈ tw_W := tw_in (by decide +kernel) (by decide +kernel)
theorem dX7_clear_20 : decode cX7_clear 20 = .ok (.aload_n 0, 1) := by decide +kernel
theorem dX7_clear_21 : decode cX7_clear 21 = .ok (.iconst 0, 1) := by decide +kernel
theorem dX7_clear_22 : decode cX7_clear 22 = .ok (.putfield 57, 3) := by decide +kernel
theorem tw_171 : (.fieldLink RX7 57 "PocketCompiler$Program" "limit" "I" : Cond) ∈ tw_W := tw_in (by decide +kernel) (by decide +kernel)
theorem dX7_clear_25 : decode cX7_clear 25 = .ok (.return_, 1) := by decide +kernel
theorem tw_172 : (.code yX7_clear cX7_clear 1 none : Cond) ∈ tw_W := tw_in (by decide +kernel) (by decide +kernel)
theorem tw_173 : ∀ w ∈ ([.methodLink RX1 31 yX7_clear, .instanceMethod yX7_clear, .selects RX7 yX7_clear yX7_clear, .initialized RX7] : List Cond), w ∈ tw_W := tw_all (by decide +kernel)
theorem dX1_begin_12 : decode cX1_begin 12 = .ok (.aload_n 0, 1) := by decide +kernel
theorem dX1_begin_13 : decode cX1_begin 13 = .ok (.iconst 0, 1) := by decide +kernel
theorem dX1_begin_14 : decode cX1_begin 14 = .ok (.putfield 36, 3) := by decide +kernel
theorem tw_174 : (.fieldLink RX1 36 "PocketCompiler$Builder" "labelCount" "I" : Cond) ∈ tw_W := tw_in (by decide +kernel) (by decide +kernel)
theorem dX1_begin_17 : decode cX1_begin 17 = .ok (.aload_n 0, 1) := by decide +kernel
theorem dX1_begin_18 : decode cX1_begin 18 = .ok (.iconst 0, 1) := by decide +kernel
theorem dX1_begin_19 : decode cX1_begin 19 = .ok (.putfield 40, 3) := by decide +kernel
theorem tw_175 : (.fieldLink RX1 40 "PocketCompiler$Builder" "callCount" "I" : Cond) ∈ tw_W := tw_in (by decide +kernel) (by decide +kernel)
theorem dX1_begin_22 : decode cX1_begin 22 = .ok (.return_, 1) := by decide +kernel
theorem tw_176 : (.code yX1_begin cX1_begin 2 none : Cond) ∈ tw_W := tw_in (by decide +kernel) (by decide +kernel)
theorem tw_177 : ∀ w ∈ ([.methodLink RX5 43 yX1_begin, .instanceMethod yX1_begin, .selects RX1 yX1_begin yX1_begin, .initialized RX1] : List Cond), w ∈ tw_W := tw_all (by decide +kernel)
theorem dX5_readText_21 : decode cX5_readText 21 = .ok (.aload_n 0, 1) := by decide +kernel
theorem dX5_readText_22 : decode cX5_readText 22 = .ok (.getfield 36, 3) := by decide +kernel
theorem dX5_readText_25 : decode cX5_readText 25 = .ok (.invokevirtual 46, 3) := by decide +kernel
theorem dX2_begin_0 : decode cX2_begin 0 = .ok (.aload_n 0, 1) := by decide +kernel
theorem dX2_begin_1 : decode cX2_begin 1 = .ok (.iconst 0, 1) := by decide +kernel
theorem dX2_begin_2 : decode cX2_begin 2 = .ok (.putfield 26, 3) := by decide +kernel
theorem tw_178 : (.fieldLink RX2 26 "PocketCompiler$Expressions" "top" "I" : Cond) ∈ tw_W := tw_in (by decide +kernel) (by decide +kernel)
theorem dX2_begin_5 : decode cX2_begin 5 = .ok (.return_, 1) := by decide +kernel
theorem tw_179 : (.code yX2_begin cX2_begin 1 none : Cond) ∈ tw_W := tw_in (by decide +kernel) (by decide +kernel)
theorem tw_180 : ∀ w ∈ ([.methodLink RX5 46 yX2_begin, .instanceMethod yX2_begin, .selects RX2 yX2_begin yX2_begin, .initialized RX2] : List Cond), w ∈ tw_W := tw_all (by decide +kernel)
theorem dX5_readText_28 : decode cX5_readText 28 = .ok (.iconst 0, 1) := by decide +kernel
theorem dX5_readText_29 : decode cX5_readText 29 = .ok (.istore_n 2, 1) := by decide +kernel
theorem dX5_readText_30 : decode cX5_readText 30 = .ok (.iload_n 2, 1) := by decide +kernel
theorem dX5_readText_31 : decode cX5_readText 31 = .ok (.sipush 1500, 3) := by decide +kernel
theorem dX5_readText_34 : decode cX5_readText 34 = .ok (.if_icmp .ge 42, 3) := by decide +kernel
theorem dX5_readText_37 : decode cX5_readText 37 = .ok (.aload_n 0, 1) := by decide +kernel
theorem dX5_readText_38 : decode cX5_readText 38 = .ok (.getfield 20, 3) := by decide +kernel
theorem dX5_readText_41 : decode cX5_readText 41 = .ok (.invokevirtual 48, 3) := by decide +kernel
theorem dX9_kind_0 : decode cX9_kind 0 = .ok (.aload_n 0, 1) := by decide +kernel
theorem dX9_kind_1 : decode cX9_kind 1 = .ok (.getfield 32, 3) := by decide +kernel
theorem dX9_kind_4 : decode cX9_kind 4 = .ok (.ifCond .lt 26, 3) := by decide +kernel
theorem dX9_kind_7 : decode cX9_kind 7 = .ok (.aload_n 0, 1) := by decide +kernel
theorem dX9_kind_8 : decode cX9_kind 8 = .ok (.getfield 32, 3) := by decide +kernel
theorem dX9_kind_11 : decode cX9_kind 11 = .ok (.aload_n 0, 1) := by decide +kernel
theorem dX9_kind_12 : decode cX9_kind 12 = .ok (.getfield 28, 3) := by decide +kernel
theorem dX9_kind_15 : decode cX9_kind 15 = .ok (.if_icmp .ge 15, 3) := by decide +kernel
theorem dX9_kind_18 : decode cX9_kind 18 = .ok (.aload_n 0, 1) := by decide +kernel
theorem dX9_kind_19 : decode cX9_kind 19 = .ok (.getfield 11, 3) := by decide +kernel
theorem dX9_kind_22 : decode cX9_kind 22 = .ok (.aload_n 0, 1) := by decide +kernel
theorem dX9_kind_23 : decode cX9_kind 23 = .ok (.getfield 32, 3) := by decide +kernel
theorem dX9_kind_26 : decode cX9_kind 26 = .ok (.iaload, 1) := by decide +kernel
theorem dX9_kind_27 : decode cX9_kind 27 = .ok (.goto 4, 3) := by decide +kernel
theorem dX9_kind_31 : decode cX9_kind 31 = .ok (.ireturn, 1) := by decide +kernel
theorem tw_181 : (.code yX9_kind cX9_kind 1 (some .int) : Cond) ∈ tw_W := tw_in (by decide +kernel) (by decide +kernel)
theorem tw_182 : ∀ w ∈ ([.methodLink RX5 48 yX9_kind, .instanceMethod yX9_kind, .selects RX9 yX9_kind yX9_kind, .initialized RX9] : List Cond), w ∈ tw_W := tw_all (by decide +kernel)
theorem dX5_readText_44 : decode cX5_readText 44 = .ok (.ifCond .eq 32, 3) := by decide +kernel
theorem dX5_readText_76 : decode cX5_readText 76 = .ok (.aload_n 0, 1) := by decide +kernel
theorem dX5_readText_77 : decode cX5_readText 77 = .ok (.invokevirtual 62, 3) := by decide +kernel
theorem dX5_checkCalls_0 : decode cX5_checkCalls 0 = .ok (.iconst 0, 1) := by decide +kernel
theorem dX5_checkCalls_1 : decode cX5_checkCalls 1 = .ok (.istore_n 1, 1) := by decide +kernel
theorem dX5_checkCalls_2 : decode cX5_checkCalls 2 = .ok (.iload_n 1, 1) := by decide +kernel
theorem dX5_checkCalls_3 : decode cX5_checkCalls 3 = .ok (.aload_n 0, 1) := by decide +kernel
theorem dX5_checkCalls_4 : decode cX5_checkCalls 4 = .ok (.getfield 27, 3) := by decide +kernel
theorem dX5_checkCalls_7 : decode cX5_checkCalls 7 = .ok (.getfield 68, 3) := by decide +kernel
theorem dX5_checkCalls_10 : decode cX5_checkCalls 10 = .ok (.if_icmp .ge 64, 3) := by decide +kernel
theorem dX5_checkCalls_74 : decode cX5_checkCalls 74 = .ok (.return_, 1) := by decide +kernel
theorem tw_183 : (.code yX5_checkCalls cX5_checkCalls 2 none : Cond) ∈ tw_W := tw_in (by decide +kernel) (by decide +kernel)
theorem tw_184 : ∀ w ∈ ([.methodLink RX5 62 yX5_checkCalls, .instanceMethod yX5_checkCalls, .selects RX5 yX5_checkCalls yX5_checkCalls, .initialized RX5] : List Cond), w ∈ tw_W := tw_all (by decide +kernel)
theorem dX5_readText_80 : decode cX5_readText 80 = .ok (.aload_n 0, 1) := by decide +kernel
theorem dX5_readText_81 : decode cX5_readText 81 = .ok (.getfield 27, 3) := by decide +kernel
theorem dX5_readText_84 : decode cX5_readText 84 = .ok (.invokevirtual 65, 3) := by decide +kernel
theorem dX1_link_0 : decode cX1_link 0 = .ok (.iconst 0, 1) := by decide +kernel
theorem dX1_link_1 : decode cX1_link 1 = .ok (.istore_n 1, 1) := by decide +kernel
theorem dX1_link_2 : decode cX1_link 2 = .ok (.iload_n 1, 1) := by decide +kernel
theorem dX1_link_3 : decode cX1_link 3 = .ok (.aload_n 0, 1) := by decide +kernel
theorem dX1_link_4 : decode cX1_link 4 = .ok (.getfield 27, 3) := by decide +kernel
theorem dX1_link_7 : decode cX1_link 7 = .ok (.getfield 68, 3) := by decide +kernel
theorem tw_185 : (.fieldLink RX1 68 "PocketCompiler$Program" "deedCount" "I" : Cond) ∈ tw_W := tw_in (by decide +kernel) (by decide +kernel)
theorem dX1_link_10 : decode cX1_link 10 = .ok (.if_icmp .ge 96, 3) := by decide +kernel
theorem dX1_link_106 : decode cX1_link 106 = .ok (.return_, 1) := by decide +kernel
theorem tw_186 : (.code yX1_link cX1_link 4 none : Cond) ∈ tw_W := tw_in (by decide +kernel) (by decide +kernel)
theorem tw_187 : ∀ w ∈ ([.methodLink RX5 65 yX1_link, .instanceMethod yX1_link, .selects RX1 yX1_link yX1_link, .initialized RX1] : List Cond), w ∈ tw_W := tw_all (by decide +kernel)
theorem dX5_readText_87 : decode cX5_readText 87 = .ok (.return_, 1) := by decide +kernel
theorem tw_188 : (.code yX5_readText cX5_readText 4 none : Cond) ∈ tw_W := tw_in (by decide +kernel) (by decide +kernel)
theorem tw_189 : ∀ w ∈ ([.methodLink RX11 79 yX5_readText, .instanceMethod yX5_readText, .selects RX5 yX5_readText yX5_readText, .initialized RX5] : List Cond), w ∈ tw_W := tw_all (by decide +kernel)
theorem dX11_init_164 : decode cX11_init 164 = .ok (.aload_n 0, 1) := by decide +kernel
theorem dX11_init_165 : decode cX11_init 165 = .ok (.getfield 57, 3) := by decide +kernel
theorem dX11_init_168 : decode cX11_init 168 = .ok (.aload_n 0, 1) := by decide +kernel
theorem dX11_init_169 : decode cX11_init 169 = .ok (.getfield 36, 3) := by decide +kernel
theorem dX11_init_172 : decode cX11_init 172 = .ok (.invokevirtual 82, 3) := by decide +kernel
theorem dX0_assemble_0 : decode cX0_assemble 0 = .ok (.aload_n 0, 1) := by decide +kernel
theorem dX0_assemble_1 : decode cX0_assemble 1 = .ok (.aload_n 1, 1) := by decide +kernel
theorem dX0_assemble_2 : decode cX0_assemble 2 = .ok (.putfield 15, 3) := by decide +kernel
theorem dX0_assemble_5 : decode cX0_assemble 5 = .ok (.aload_n 0, 1) := by decide +kernel
theorem dX0_assemble_6 : decode cX0_assemble 6 = .ok (.iconst 0, 1) := by decide +kernel
theorem dX0_assemble_7 : decode cX0_assemble 7 = .ok (.putfield 23, 3) := by decide +kernel
theorem tw_190 : (.fieldLink RX0 23 "PocketCompiler$Assembler" "isWriting" "Z" : Cond) ∈ tw_W := tw_in (by decide +kernel) (by decide +kernel)
theorem dX0_assemble_10 : decode cX0_assemble 10 = .ok (.aload_n 0, 1) := by decide +kernel
theorem dX0_assemble_11 : decode cX0_assemble 11 = .ok (.invokevirtual 27, 3) := by decide +kernel
theorem dX0_layAll_0 : decode cX0_layAll 0 = .ok (.aload_n 0, 1) := by decide +kernel
theorem dX0_layAll_1 : decode cX0_layAll 1 = .ok (.iconst 0, 1) := by decide +kernel
theorem dX0_layAll_2 : decode cX0_layAll 2 = .ok (.putfield 33, 3) := by decide +kernel
theorem tw_191 : (.fieldLink RX0 33 "PocketCompiler$Assembler" "size" "I" : Cond) ∈ tw_W := tw_in (by decide +kernel) (by decide +kernel)
theorem dX0_layAll_5 : decode cX0_layAll 5 = .ok (.aload_n 0, 1) := by decide +kernel
theorem dX0_layAll_6 : decode cX0_layAll 6 = .ok (.iconst 0, 1) := by decide +kernel
theorem dX0_layAll_7 : decode cX0_layAll 7 = .ok (.putfield 36, 3) := by decide +kernel
theorem tw_192 : (.fieldLink RX0 36 "PocketCompiler$Assembler" "hasTimes" "Z" : Cond) ∈ tw_W := tw_in (by decide +kernel) (by decide +kernel)
theorem dX0_layAll_10 : decode cX0_layAll 10 = .ok (.aload_n 0, 1) := by decide +kernel
theorem dX0_layAll_11 : decode cX0_layAll 11 = .ok (.iconst 0, 1) := by decide +kernel
theorem dX0_layAll_12 : decode cX0_layAll 12 = .ok (.putfield 39, 3) := by decide +kernel
theorem tw_193 : (.fieldLink RX0 39 "PocketCompiler$Assembler" "hasOver" "Z" : Cond) ∈ tw_W := tw_in (by decide +kernel) (by decide +kernel)
theorem dX0_layAll_15 : decode cX0_layAll 15 = .ok (.aload_n 0, 1) := by decide +kernel
theorem dX0_layAll_16 : decode cX0_layAll 16 = .ok (.bipush 19, 2) := by decide +kernel
theorem dX0_layAll_18 : decode cX0_layAll 18 = .ok (.bipush 17, 2) := by decide +kernel
theorem dX0_layAll_20 : decode cX0_layAll 20 = .ok (.iconst 0, 1) := by decide +kernel
theorem dX0_layAll_21 : decode cX0_layAll 21 = .ok (.iconst 0, 1) := by decide +kernel
theorem dX0_layAll_22 : decode cX0_layAll 22 = .ok (.invokevirtual 42, 3) := by decide +kernel
theorem dX0_immediate_0 : decode cX0_immediate 0 = .ok (.aload_n 0, 1) := by decide +kernel
theorem dX0_immediate_1 : decode cX0_immediate 1 = .ok (.iload_n 1, 1) := by decide +kernel
theorem dX0_immediate_2 : decode cX0_immediate 2 = .ok (.iload_n 2, 1) := by decide +kernel
theorem dX0_immediate_3 : decode cX0_immediate 3 = .ok (.bipush 7, 2) := by decide +kernel
theorem dX0_immediate_5 : decode cX0_immediate 5 = .ok (.ishl, 1) := by decide +kernel
theorem dX0_immediate_6 : decode cX0_immediate 6 = .ok (.ior, 1) := by decide +kernel
theorem dX0_immediate_7 : decode cX0_immediate 7 = .ok (.iload_n 3, 1) := by decide +kernel
theorem dX0_immediate_8 : decode cX0_immediate 8 = .ok (.bipush 15, 2) := by decide +kernel
theorem dX0_immediate_10 : decode cX0_immediate 10 = .ok (.ishl, 1) := by decide +kernel
theorem dX0_immediate_11 : decode cX0_immediate 11 = .ok (.ior, 1) := by decide +kernel
theorem dX0_immediate_12 : decode cX0_immediate 12 = .ok (.iload 4, 2) := by decide +kernel
theorem dX0_immediate_14 : decode cX0_immediate 14 = .ok (.bipush 20, 2) := by decide +kernel
theorem dX0_immediate_16 : decode cX0_immediate 16 = .ok (.ishl, 1) := by decide +kernel
theorem dX0_immediate_17 : decode cX0_immediate 17 = .ok (.ior, 1) := by decide +kernel
theorem dX0_immediate_18 : decode cX0_immediate 18 = .ok (.invokevirtual 47, 3) := by decide +kernel
theorem dX0_emit_0 : decode cX0_emit 0 = .ok (.aload_n 0, 1) := by decide +kernel
theorem dX0_emit_1 : decode cX0_emit 1 = .ok (.getfield 23, 3) := by decide +kernel
theorem dX0_emit_4 : decode cX0_emit 4 = .ok (.ifCond .eq 31, 3) := by decide +kernel
theorem dX0_emit_35 : decode cX0_emit 35 = .ok (.aload_n 0, 1) := by decide +kernel
theorem dX0_emit_36 : decode cX0_emit 36 = .ok (.dup, 1) := by decide +kernel
theorem dX0_emit_37 : decode cX0_emit 37 = .ok (.getfield 33, 3) := by decide +kernel
theorem dX0_emit_40 : decode cX0_emit 40 = .ok (.iconst 1, 1) := by decide +kernel
theorem dX0_emit_41 : decode cX0_emit 41 = .ok (.iadd, 1) := by decide +kernel
theorem dX0_emit_42 : decode cX0_emit 42 = .ok (.putfield 33, 3) := by decide +kernel
theorem dX0_emit_45 : decode cX0_emit 45 = .ok (.return_, 1) := by decide +kernel
theorem tw_194 : (.code yX0_emit cX0_emit 2 none : Cond) ∈ tw_W := tw_in (by decide +kernel) (by decide +kernel)
theorem tw_195 : ∀ w ∈ ([.methodLink RX0 47 yX0_emit, .instanceMethod yX0_emit, .selects RX0 yX0_emit yX0_emit, .initialized RX0] : List Cond), w ∈ tw_W := tw_all (by decide +kernel)
theorem dX0_immediate_21 : decode cX0_immediate 21 = .ok (.return_, 1) := by decide +kernel
theorem tw_196 : (.code yX0_immediate cX0_immediate 5 none : Cond) ∈ tw_W := tw_in (by decide +kernel) (by decide +kernel)
theorem tw_197 : ∀ w ∈ ([.methodLink RX0 42 yX0_immediate, .instanceMethod yX0_immediate, .selects RX0 yX0_immediate yX0_immediate, .initialized RX0] : List Cond), w ∈ tw_W := tw_all (by decide +kernel)
theorem dX0_layAll_25 : decode cX0_layAll 25 = .ok (.aload_n 0, 1) := by decide +kernel
theorem dX0_layAll_26 : decode cX0_layAll 26 = .ok (.ldc 46, 2) := by decide +kernel
theorem tw_198 : (.constant RX0 46 (1048691) : Cond) ∈ tw_W := tw_in (by decide +kernel) (by decide +kernel)
theorem dX0_layAll_28 : decode cX0_layAll 28 = .ok (.invokevirtual 47, 3) := by decide +kernel
theorem dX0_layAll_31 : decode cX0_layAll 31 = .ok (.iconst 0, 1) := by decide +kernel
theorem dX0_layAll_32 : decode cX0_layAll 32 = .ok (.istore_n 1, 1) := by decide +kernel
theorem dX0_layAll_33 : decode cX0_layAll 33 = .ok (.iload_n 1, 1) := by decide +kernel
theorem dX0_layAll_34 : decode cX0_layAll 34 = .ok (.aload_n 0, 1) := by decide +kernel
theorem dX0_layAll_35 : decode cX0_layAll 35 = .ok (.getfield 15, 3) := by decide +kernel
theorem dX0_layAll_38 : decode cX0_layAll 38 = .ok (.getfield 51, 3) := by decide +kernel
theorem tw_199 : (.fieldLink RX0 51 "PocketCompiler$Program" "deedCount" "I" : Cond) ∈ tw_W := tw_in (by decide +kernel) (by decide +kernel)
theorem dX0_layAll_41 : decode cX0_layAll 41 = .ok (.if_icmp .ge 59, 3) := by decide +kernel
theorem dX0_layAll_100 : decode cX0_layAll 100 = .ok (.aload_n 0, 1) := by decide +kernel
theorem dX0_layAll_101 : decode cX0_layAll 101 = .ok (.iconst 4, 1) := by decide +kernel
theorem dX0_layAll_102 : decode cX0_layAll 102 = .ok (.aload_n 0, 1) := by decide +kernel
theorem dX0_layAll_103 : decode cX0_layAll 103 = .ok (.getfield 33, 3) := by decide +kernel
theorem dX0_layAll_106 : decode cX0_layAll 106 = .ok (.imul, 1) := by decide +kernel
theorem dX0_layAll_107 : decode cX0_layAll 107 = .ok (.putfield 67, 3) := by decide +kernel
theorem tw_200 : (.fieldLink RX0 67 "PocketCompiler$Assembler" "timesAddress" "I" : Cond) ∈ tw_W := tw_in (by decide +kernel) (by decide +kernel)
theorem dX0_layAll_110 : decode cX0_layAll 110 = .ok (.aload_n 0, 1) := by decide +kernel
theorem dX0_layAll_111 : decode cX0_layAll 111 = .ok (.getfield 36, 3) := by decide +kernel
theorem dX0_layAll_114 : decode cX0_layAll 114 = .ok (.ifCond .eq 7, 3) := by decide +kernel
theorem dX0_layAll_121 : decode cX0_layAll 121 = .ok (.aload_n 0, 1) := by decide +kernel
theorem dX0_layAll_122 : decode cX0_layAll 122 = .ok (.iconst 4, 1) := by decide +kernel
theorem dX0_layAll_123 : decode cX0_layAll 123 = .ok (.aload_n 0, 1) := by decide +kernel
theorem dX0_layAll_124 : decode cX0_layAll 124 = .ok (.getfield 33, 3) := by decide +kernel
theorem dX0_layAll_127 : decode cX0_layAll 127 = .ok (.imul, 1) := by decide +kernel
theorem dX0_layAll_128 : decode cX0_layAll 128 = .ok (.putfield 73, 3) := by decide +kernel
theorem tw_201 : (.fieldLink RX0 73 "PocketCompiler$Assembler" "overAddress" "I" : Cond) ∈ tw_W := tw_in (by decide +kernel) (by decide +kernel)
theorem dX0_layAll_131 : decode cX0_layAll 131 = .ok (.aload_n 0, 1) := by decide +kernel
theorem dX0_layAll_132 : decode cX0_layAll 132 = .ok (.getfield 39, 3) := by decide +kernel
theorem dX0_layAll_135 : decode cX0_layAll 135 = .ok (.ifCond .eq 7, 3) := by decide +kernel
theorem dX0_layAll_142 : decode cX0_layAll 142 = .ok (.aload_n 0, 1) := by decide +kernel
theorem dX0_layAll_143 : decode cX0_layAll 143 = .ok (.getfield 15, 3) := by decide +kernel
theorem dX0_layAll_146 : decode cX0_layAll 146 = .ok (.aload_n 0, 1) := by decide +kernel
theorem dX0_layAll_147 : decode cX0_layAll 147 = .ok (.getfield 33, 3) := by decide +kernel
theorem dX0_layAll_150 : decode cX0_layAll 150 = .ok (.putfield 79, 3) := by decide +kernel
theorem tw_202 : (.fieldLink RX0 79 "PocketCompiler$Program" "wordCount" "I" : Cond) ∈ tw_W := tw_in (by decide +kernel) (by decide +kernel)
theorem dX0_layAll_153 : decode cX0_layAll 153 = .ok (.aload_n 0, 1) := by decide +kernel
theorem dX0_layAll_154 : decode cX0_layAll 154 = .ok (.invokevirtual 82, 3) := by decide +kernel
theorem dX0_placeGlobals_0 : decode cX0_placeGlobals 0 = .ok (.iconst 4, 1) := by decide +kernel
theorem dX0_placeGlobals_1 : decode cX0_placeGlobals 1 = .ok (.aload_n 0, 1) := by decide +kernel
theorem dX0_placeGlobals_2 : decode cX0_placeGlobals 2 = .ok (.getfield 33, 3) := by decide +kernel
theorem dX0_placeGlobals_5 : decode cX0_placeGlobals 5 = .ok (.imul, 1) := by decide +kernel
theorem dX0_placeGlobals_6 : decode cX0_placeGlobals 6 = .ok (.istore_n 1, 1) := by decide +kernel
theorem dX0_placeGlobals_7 : decode cX0_placeGlobals 7 = .ok (.iconst 0, 1) := by decide +kernel
theorem dX0_placeGlobals_8 : decode cX0_placeGlobals 8 = .ok (.istore_n 2, 1) := by decide +kernel
theorem dX0_placeGlobals_9 : decode cX0_placeGlobals 9 = .ok (.iload_n 2, 1) := by decide +kernel
theorem dX0_placeGlobals_10 : decode cX0_placeGlobals 10 = .ok (.aload_n 0, 1) := by decide +kernel
theorem dX0_placeGlobals_11 : decode cX0_placeGlobals 11 = .ok (.getfield 15, 3) := by decide +kernel
theorem dX0_placeGlobals_14 : decode cX0_placeGlobals 14 = .ok (.getfield 85, 3) := by decide +kernel
theorem tw_203 : (.fieldLink RX0 85 "PocketCompiler$Program" "globalCount" "I" : Cond) ∈ tw_W := tw_in (by decide +kernel) (by decide +kernel)
theorem dX0_placeGlobals_17 : decode cX0_placeGlobals 17 = .ok (.if_icmp .ge 33, 3) := by decide +kernel
theorem dX0_placeGlobals_50 : decode cX0_placeGlobals 50 = .ok (.aload_n 0, 1) := by decide +kernel
theorem dX0_placeGlobals_51 : decode cX0_placeGlobals 51 = .ok (.getfield 15, 3) := by decide +kernel
theorem dX0_placeGlobals_54 : decode cX0_placeGlobals 54 = .ok (.iload_n 1, 1) := by decide +kernel
theorem dX0_placeGlobals_55 : decode cX0_placeGlobals 55 = .ok (.putfield 30, 3) := by decide +kernel
theorem tw_204 : (.fieldLink RX0 30 "PocketCompiler$Program" "limit" "I" : Cond) ∈ tw_W := tw_in (by decide +kernel) (by decide +kernel)
theorem dX0_placeGlobals_58 : decode cX0_placeGlobals 58 = .ok (.return_, 1) := by decide +kernel
theorem tw_205 : (.code yX0_placeGlobals cX0_placeGlobals 3 none : Cond) ∈ tw_W := tw_in (by decide +kernel) (by decide +kernel)
theorem tw_206 : ∀ w ∈ ([.methodLink RX0 82 yX0_placeGlobals, .instanceMethod yX0_placeGlobals, .selects RX0 yX0_placeGlobals yX0_placeGlobals, .initialized RX0] : List Cond), w ∈ tw_W := tw_all (by decide +kernel)
theorem dX0_layAll_157 : decode cX0_layAll 157 = .ok (.return_, 1) := by decide +kernel
theorem tw_207 : (.code yX0_layAll cX0_layAll 2 none : Cond) ∈ tw_W := tw_in (by decide +kernel) (by decide +kernel)
theorem tw_208 : ∀ w ∈ ([.methodLink RX0 27 yX0_layAll, .instanceMethod yX0_layAll, .selects RX0 yX0_layAll yX0_layAll, .initialized RX0] : List Cond), w ∈ tw_W := tw_all (by decide +kernel)
theorem dX0_assemble_14 : decode cX0_assemble 14 = .ok (.aload_n 0, 1) := by decide +kernel
theorem dX0_assemble_15 : decode cX0_assemble 15 = .ok (.getfield 15, 3) := by decide +kernel
theorem dX0_assemble_18 : decode cX0_assemble 18 = .ok (.getfield 30, 3) := by decide +kernel
theorem dX0_assemble_21 : decode cX0_assemble 21 = .ok (.bipush 64, 2) := by decide +kernel
theorem dX0_assemble_23 : decode cX0_assemble 23 = .ok (.iadd, 1) := by decide +kernel
theorem dX0_assemble_24 : decode cX0_assemble 24 = .ok (.aload_n 0, 1) := by decide +kernel
theorem dX0_assemble_25 : decode cX0_assemble 25 = .ok (.getfield 19, 3) := by decide +kernel
theorem dX0_assemble_28 : decode cX0_assemble 28 = .ok (.if_icmp .le 5, 3) := by decide +kernel
theorem dX0_assemble_33 : decode cX0_assemble 33 = .ok (.aload_n 0, 1) := by decide +kernel
theorem dX0_assemble_34 : decode cX0_assemble 34 = .ok (.iconst 1, 1) := by decide +kernel
theorem dX0_assemble_35 : decode cX0_assemble 35 = .ok (.putfield 23, 3) := by decide +kernel
theorem dX0_assemble_38 : decode cX0_assemble 38 = .ok (.aload_n 0, 1) := by decide +kernel
theorem dX0_assemble_39 : decode cX0_assemble 39 = .ok (.invokevirtual 27, 3) := by decide +kernel
theorem dX0_emit_7 : decode cX0_emit 7 = .ok (.aload_n 0, 1) := by decide +kernel
theorem dX0_emit_8 : decode cX0_emit 8 = .ok (.getfield 33, 3) := by decide +kernel
theorem dX0_emit_11 : decode cX0_emit 11 = .ok (.aload_n 0, 1) := by decide +kernel
theorem dX0_emit_12 : decode cX0_emit 12 = .ok (.getfield 15, 3) := by decide +kernel
theorem dX0_emit_15 : decode cX0_emit 15 = .ok (.getfield 95, 3) := by decide +kernel
theorem tw_209 : (.fieldLink RX0 95 "PocketCompiler$Program" "words" "[I" : Cond) ∈ tw_W := tw_in (by decide +kernel) (by decide +kernel)
theorem dX0_emit_18 : decode cX0_emit 18 = .ok (.arraylength, 1) := by decide +kernel
theorem dX0_emit_19 : decode cX0_emit 19 = .ok (.if_icmp .ge 16, 3) := by decide +kernel
theorem dX0_emit_22 : decode cX0_emit 22 = .ok (.aload_n 0, 1) := by decide +kernel
theorem dX0_emit_23 : decode cX0_emit 23 = .ok (.getfield 15, 3) := by decide +kernel
theorem dX0_emit_26 : decode cX0_emit 26 = .ok (.getfield 95, 3) := by decide +kernel
theorem dX0_emit_29 : decode cX0_emit 29 = .ok (.aload_n 0, 1) := by decide +kernel
theorem dX0_emit_30 : decode cX0_emit 30 = .ok (.getfield 33, 3) := by decide +kernel
theorem dX0_emit_33 : decode cX0_emit 33 = .ok (.iload_n 1, 1) := by decide +kernel
theorem dX0_emit_34 : decode cX0_emit 34 = .ok (.iastore, 1) := by decide +kernel
theorem dX0_assemble_42 : decode cX0_assemble 42 = .ok (.iconst 1, 1) := by decide +kernel
theorem dX0_assemble_43 : decode cX0_assemble 43 = .ok (.ireturn, 1) := by decide +kernel
theorem tw_210 : (.code yX0_assemble cX0_assemble 2 (some .boolean) : Cond) ∈ tw_W := tw_in (by decide +kernel) (by decide +kernel)
theorem tw_211 : ∀ w ∈ ([.methodLink RX11 82 yX0_assemble, .instanceMethod yX0_assemble, .selects RX0 yX0_assemble yX0_assemble, .initialized RX0] : List Cond), w ∈ tw_W := tw_all (by decide +kernel)
theorem dX11_init_175 : decode cX11_init 175 = .ok (.pop, 1) := by decide +kernel
theorem dX11_init_176 : decode cX11_init 176 = .ok (.return_, 1) := by decide +kernel
theorem dX11_init_40 : decode cX11_init 40 = .ok (.iload_n 1, 1) := by decide +kernel
theorem dX11_init_41 : decode cX11_init 41 = .ok (.sipush 256, 3) := by decide +kernel
theorem dX11_init_44 : decode cX11_init 44 = .ok (.if_icmp .lt 14, 3) := by decide +kernel
theorem dX11_init_58 : decode cX11_init 58 = .ok (.sipush 1024, 3) := by decide +kernel
theorem dX11_init_61 : decode cX11_init 61 = .ok (.istore_n 2, 1) := by decide +kernel
theorem dX11_init_47 : decode cX11_init 47 = .ok (.iload_n 1, 1) := by decide +kernel
theorem dX11_init_48 : decode cX11_init 48 = .ok (.sipush 4096, 3) := by decide +kernel
theorem dX11_init_51 : decode cX11_init 51 = .ok (.if_icmp .gt 7, 3) := by decide +kernel
theorem dX11_init_54 : decode cX11_init 54 = .ok (.iload_n 1, 1) := by decide +kernel
theorem dX11_init_55 : decode cX11_init 55 = .ok (.goto 6, 3) := by decide +kernel
set_option maxHeartbeats 4000000 in
set_option maxRecDepth 100000 in
/-- Program(N) -/
theorem c_X7_init (l : Launch) (dC : Nat → ClassId) (dI : Nat → Nat → Nat) (cI cB cZ cJ cR : ClassId) (tb : Nat → Nat) (sz : Nat) (a0_ : Nat) (N : Nat) (hf_N_0 : 256 ≤ N) (hf_N_1 : N ≤ 4096) : Met l yX7_init (Cond.code yX7_init cX7_init 2 none :: tw_W) ({ frames := 1, cells := 107, slots := 17760, locals := 12 }) (pc_ (dC, dI) (tyS cI cB cZ cJ cR) tb [(a0_, .inr (10, [.null, .int 0, .null, .int 0, .null, .int 0, .null, .null, .null, .int 0, .null, .int 0, .int 0]))] sz [.ref a0_, .int (nI N)]) (qv_ (dC, dI) [(a0_, .inr (10, [.null, .int 0, .null, .int 0, .null, .int 0, .null, .null, .null, .int 0, .null, .int 0, .int 0]))] sz (fun (u : Nat × Nat × Nat × Nat × Nat × Nat × Nat) => True) (fun (u : Nat × Nat × Nat × Nat × Nat × Nat × Nat) => [(a0_, .inr (10, [.ref u.1, .int 0, .ref u.2.1, .int 0, .ref u.2.2.1, .int 0, .ref u.2.2.2.1, .ref u.2.2.2.2.1, .ref u.2.2.2.2.2.1, .int 0, .ref u.2.2.2.2.2.2, .int 0, .int 0])), (u.1, .inl (cI, 4000, .inl (fun _ => 0))), (u.2.2.2.2.2.2, .inl (cI, N, .inl (fun _ => 0)))])) 107 17760 (va_A [(a0_, .inr (10, [.null, .int 0, .null, .int 0, .null, .int 0, .null, .null, .null, .int 0, .null, .int 0, .int 0]))] sz) := by
  refine Met.ofW (cc := cX7_init) (maxL := 2) (ret := none) (by decide) rfl ?_
  intro p e s m args below meth c s₁ B hml hv
  obtain ⟨rfl, hsz, hP, hKK, hD0, hFx⟩ := hv
  have hK := hKK.1
  have hx := B.exec
  have hb := B.bytes
  have hr := B.returns
  have ht : ∀ w ∈ tw_W, w.before _ s = true := fun w h => atoms_spec (ws := Cond.code yX7_init cX7_init 2 none :: tw_W) B.pre w (List.mem_cons_of_mem _ h)
  have hown : s.vm.findClass RX7 = some m.cls := findClass_of_methodNamed B.named
  have hlocks := B.notSynchronized
  have hin : meth.name = "<init>" := (name_of_methodNamed B.named B.method).1
  subst hsz
  unfold qv_
  have hD := hD0.self (sz := s.heap.size)
  generalize hAe : va_A [(a0_, .inr (10, [.null, .int 0, .null, .int 0, .null, .int 0, .null, .null, .null, .int 0, .null, .int 0, .int 0]))] s.heap.size = A at hD hFx ⊢
  have hA : ∀ q : Nat, s.heap.size ≤ q → A q := fun q h => by rw [← hAe]; exact Or.inr h
  have hS : va_S A s.heap s.heap [] := va_S.rf
  have hP : va_P (dC, dI) vwCl [(a0_, .inr (10, [.null, .int 0, .null, .int 0, .null, .int 0, .null, .null, .null, .int 0, .null, .int 0, .int 0]))] s.heap := hP
  have hl := lv_entry ([.ref a0_, .int (nI N)]) (n := 2) (Nat.le_of_ble_eq_true rfl)
  rw [lg_entry_eq]
  generalize (lg_sl ([.ref a0_, .int (nI N)]) ++ List.replicate (2 - (lg_sl ([.ref a0_, .int (nI N)])).length) Slot.unset).toArray = ls at hl ⊢
  have hl : lv_has ls 2 [(0, .ref a0_), (1, .int (nI N))] := hl
  refine lv_aload_n hx hb dX7_init_0 rfl (lv_at hl 0 rfl) ?_
  refine W.objInit hx hb hown (ht _ tw_0) (ht _ tw_1) (ht _ tw_2) rfl (by rw [hml]; exact hl.1) rfl dX7_init_1 (Nat.le_of_ble_eq_true rfl) (Nat.le_of_ble_eq_true rfl) ?_
  refine W.eq (g2 := F0 m 4 ls []) rfl ?_
  refine lv_aload_n hx hb dX7_init_4 rfl (lv_at hl 0 rfl) ?_
  refine lv_sipush (v := 4000) hx hb dX7_init_5 (by decide) ?_
  refine va_newE (atype := .int) (ty := .int) (a0 := (4000, .inl (fun _ => 0))) (cE := cI) hx hb (ht _ tw_3) rfl hK hP hD hS hA 0 rfl (fun _ => rfl) (by decide) (by decide) (by decide) (Nat.le_of_ble_eq_true rfl) (Nat.le_of_ble_eq_true rfl) dX7_init_8 (fun q1 H hP hD hS => ?_)
  have hP : va_P (dC, dI) vwCl [(a0_, .inr (10, [.null, .int 0, .null, .int 0, .null, .int 0, .null, .null, .null, .int 0, .null, .int 0, .int 0])), (q1, .inl (cI, 4000, .inl (fun _ => 0)))] H := hP
  have hD : va_D A [(a0_, .inr (10, [.null, .int 0, .null, .int 0, .null, .int 0, .null, .null, .null, .int 0, .null, .int 0, .int 0])), (q1, .inl (cI, 4000, .inl (fun _ => 0)))] := hD
  refine W.widen (k := 1) (n := 4000) (by omega) (by omega) ?_
  refine va_putF (D := (dC, dI)) (ci := 10) (v := .ref q1) (ty := .array .int) (C := RX7) (T := TX7) (N := 13) hx hb ht itX7 tyX7 tyX7_ok nmX7 hown hK hP hD hS 0 rfl rfl 0 (by decide) (ht _ tw_4) (fun _ h9 => h9) rfl hin rfl (by decide +kernel) rfl rfl (Nat.le_of_ble_eq_true rfl) dX7_init_10 (fun H locs hP hD hS => ?_)
  have hP : va_P (dC, dI) vwCl [(a0_, .inr (10, [.ref q1, .int 0, .null, .int 0, .null, .int 0, .null, .null, .null, .int 0, .null, .int 0, .int 0])), (q1, .inl (cI, 4000, .inl (fun _ => 0)))] H := hP
  have hD : va_D A [(a0_, .inr (10, [.ref q1, .int 0, .null, .int 0, .null, .int 0, .null, .null, .null, .int 0, .null, .int 0, .int 0])), (q1, .inl (cI, 4000, .inl (fun _ => 0)))] := hD
  refine lv_aload_n hx hb dX7_init_13 rfl (lv_at hl 0 rfl) ?_
  refine lv_bipush (v := 40) hx hb dX7_init_14 (by decide) ?_
  refine lv_bipush (v := 6) hx hb dX7_init_16 (by decide) ?_
  refine va_mnD (N' := 40) (K' := 6) hx hb hown (ht _ tw_5) (ht _ tw_3) hKK 0 rfl hP hD hS hA (by decide) (by decide) (by decide) (by decide) (by decide) (by decide) (Nat.le_of_ble_eq_true rfl) (Nat.le_of_ble_eq_true rfl) dX7_init_18 (fun q2 H hP hD hS => ?_)
  refine W.widen (k := 42) (n := 4280) (by omega) (by omega) ?_
  refine va_putF (D := (dC, dI)) (ci := 10) (v := .ref q2) (ty := .array (.array .int)) (C := RX7) (T := TX7) (N := 13) hx hb ht itX7 tyX7 tyX7_ok nmX7 hown hK hP hD hS 0 rfl rfl 2 (by decide) (ht _ tw_6) (fun _ h9 => h9) rfl hin rfl (by decide +kernel) rfl rfl (Nat.le_of_ble_eq_true rfl) dX7_init_22 (fun H locs hP hD hS => ?_)
  have hP : va_P (dC, dI) vwCl [(a0_, .inr (10, [.ref q1, .int 0, .ref q2, .int 0, .null, .int 0, .null, .null, .null, .int 0, .null, .int 0, .int 0])), (q1, .inl (cI, 4000, .inl (fun _ => 0)))] H := hP
  have hD : va_D A [(a0_, .inr (10, [.ref q1, .int 0, .ref q2, .int 0, .null, .int 0, .null, .null, .null, .int 0, .null, .int 0, .int 0])), (q1, .inl (cI, 4000, .inl (fun _ => 0)))] := hD
  refine lv_aload_n hx hb dX7_init_25 rfl (lv_at hl 0 rfl) ?_
  refine lv_bipush (v := 60) hx hb dX7_init_26 (by decide) ?_
  refine lv_iconst (v := 5) hx hb dX7_init_28 (by decide) ?_
  refine va_mnD (N' := 60) (K' := 5) hx hb hown (ht _ tw_5) (ht _ tw_3) hKK 0 rfl hP hD hS hA (by decide) (by decide) (by decide) (by decide) (by decide) (by decide) (Nat.le_of_ble_eq_true rfl) (Nat.le_of_ble_eq_true rfl) dX7_init_29 (fun q3 H hP hD hS => ?_)
  refine W.widen (k := 103) (n := 4640) (by omega) (by omega) ?_
  refine va_putF (D := (dC, dI)) (ci := 10) (v := .ref q3) (ty := .array (.array .int)) (C := RX7) (T := TX7) (N := 13) hx hb ht itX7 tyX7 tyX7_ok nmX7 hown hK hP hD hS 0 rfl rfl 4 (by decide) (ht _ tw_7) (fun _ h9 => h9) rfl hin rfl (by decide +kernel) rfl rfl (Nat.le_of_ble_eq_true rfl) dX7_init_33 (fun H locs hP hD hS => ?_)
  have hP : va_P (dC, dI) vwCl [(a0_, .inr (10, [.ref q1, .int 0, .ref q2, .int 0, .ref q3, .int 0, .null, .null, .null, .int 0, .null, .int 0, .int 0])), (q1, .inl (cI, 4000, .inl (fun _ => 0)))] H := hP
  have hD : va_D A [(a0_, .inr (10, [.ref q1, .int 0, .ref q2, .int 0, .ref q3, .int 0, .null, .null, .null, .int 0, .null, .int 0, .int 0])), (q1, .inl (cI, 4000, .inl (fun _ => 0)))] := hD
  refine lv_aload_n hx hb dX7_init_36 rfl (lv_at hl 0 rfl) ?_
  refine lv_sipush (v := 3008) hx hb dX7_init_37 (by decide) ?_
  refine va_newE (atype := .int) (ty := .int) (a0 := (3008, .inl (fun _ => 0))) (cE := cI) hx hb (ht _ tw_3) rfl hK hP hD hS hA 0 rfl (fun _ => rfl) (by decide) (by decide) (by decide) (Nat.le_of_ble_eq_true rfl) (Nat.le_of_ble_eq_true rfl) dX7_init_40 (fun q4 H hP hD hS => ?_)
  have hP : va_P (dC, dI) vwCl [(a0_, .inr (10, [.ref q1, .int 0, .ref q2, .int 0, .ref q3, .int 0, .null, .null, .null, .int 0, .null, .int 0, .int 0])), (q1, .inl (cI, 4000, .inl (fun _ => 0))), (q4, .inl (cI, 3008, .inl (fun _ => 0)))] H := hP
  have hD : va_D A [(a0_, .inr (10, [.ref q1, .int 0, .ref q2, .int 0, .ref q3, .int 0, .null, .null, .null, .int 0, .null, .int 0, .int 0])), (q1, .inl (cI, 4000, .inl (fun _ => 0))), (q4, .inl (cI, 3008, .inl (fun _ => 0)))] := hD
  refine W.widen (k := 104) (n := 7648) (by omega) (by omega) ?_
  refine va_putF (D := (dC, dI)) (ci := 10) (v := .ref q4) (ty := .array .int) (C := RX7) (T := TX7) (N := 13) hx hb ht itX7 tyX7 tyX7_ok nmX7 hown hK hP hD hS 0 rfl rfl 6 (by decide) (ht _ tw_8) (fun _ h9 => h9) rfl hin rfl (by decide +kernel) rfl rfl (Nat.le_of_ble_eq_true rfl) dX7_init_42 (fun H locs hP hD hS => ?_)
  have hP : va_P (dC, dI) vwCl [(a0_, .inr (10, [.ref q1, .int 0, .ref q2, .int 0, .ref q3, .int 0, .ref q4, .null, .null, .int 0, .null, .int 0, .int 0])), (q1, .inl (cI, 4000, .inl (fun _ => 0))), (q4, .inl (cI, 3008, .inl (fun _ => 0)))] H := hP
  have hD : va_D A [(a0_, .inr (10, [.ref q1, .int 0, .ref q2, .int 0, .ref q3, .int 0, .ref q4, .null, .null, .int 0, .null, .int 0, .int 0])), (q1, .inl (cI, 4000, .inl (fun _ => 0))), (q4, .inl (cI, 3008, .inl (fun _ => 0)))] := hD
  refine lv_aload_n hx hb dX7_init_45 rfl (lv_at hl 0 rfl) ?_
  refine lv_sipush (v := 3008) hx hb dX7_init_46 (by decide) ?_
  refine va_newE (atype := .int) (ty := .int) (a0 := (3008, .inl (fun _ => 0))) (cE := cI) hx hb (ht _ tw_3) rfl hK hP hD hS hA 0 rfl (fun _ => rfl) (by decide) (by decide) (by decide) (Nat.le_of_ble_eq_true rfl) (Nat.le_of_ble_eq_true rfl) dX7_init_49 (fun q5 H hP hD hS => ?_)
  have hP : va_P (dC, dI) vwCl [(a0_, .inr (10, [.ref q1, .int 0, .ref q2, .int 0, .ref q3, .int 0, .ref q4, .null, .null, .int 0, .null, .int 0, .int 0])), (q1, .inl (cI, 4000, .inl (fun _ => 0))), (q4, .inl (cI, 3008, .inl (fun _ => 0))), (q5, .inl (cI, 3008, .inl (fun _ => 0)))] H := hP
  have hD : va_D A [(a0_, .inr (10, [.ref q1, .int 0, .ref q2, .int 0, .ref q3, .int 0, .ref q4, .null, .null, .int 0, .null, .int 0, .int 0])), (q1, .inl (cI, 4000, .inl (fun _ => 0))), (q4, .inl (cI, 3008, .inl (fun _ => 0))), (q5, .inl (cI, 3008, .inl (fun _ => 0)))] := hD
  refine W.widen (k := 105) (n := 10656) (by omega) (by omega) ?_
  refine va_putF (D := (dC, dI)) (ci := 10) (v := .ref q5) (ty := .array .int) (C := RX7) (T := TX7) (N := 13) hx hb ht itX7 tyX7 tyX7_ok nmX7 hown hK hP hD hS 0 rfl rfl 7 (by decide) (ht _ tw_9) (fun _ h9 => h9) rfl hin rfl (by decide +kernel) rfl rfl (Nat.le_of_ble_eq_true rfl) dX7_init_51 (fun H locs hP hD hS => ?_)
  have hP : va_P (dC, dI) vwCl [(a0_, .inr (10, [.ref q1, .int 0, .ref q2, .int 0, .ref q3, .int 0, .ref q4, .ref q5, .null, .int 0, .null, .int 0, .int 0])), (q1, .inl (cI, 4000, .inl (fun _ => 0))), (q4, .inl (cI, 3008, .inl (fun _ => 0))), (q5, .inl (cI, 3008, .inl (fun _ => 0)))] H := hP
  have hD : va_D A [(a0_, .inr (10, [.ref q1, .int 0, .ref q2, .int 0, .ref q3, .int 0, .ref q4, .ref q5, .null, .int 0, .null, .int 0, .int 0])), (q1, .inl (cI, 4000, .inl (fun _ => 0))), (q4, .inl (cI, 3008, .inl (fun _ => 0))), (q5, .inl (cI, 3008, .inl (fun _ => 0)))] := hD
  refine lv_aload_n hx hb dX7_init_54 rfl (lv_at hl 0 rfl) ?_
  refine lv_sipush (v := 3008) hx hb dX7_init_55 (by decide) ?_
  refine va_newE (atype := .int) (ty := .int) (a0 := (3008, .inl (fun _ => 0))) (cE := cI) hx hb (ht _ tw_3) rfl hK hP hD hS hA 0 rfl (fun _ => rfl) (by decide) (by decide) (by decide) (Nat.le_of_ble_eq_true rfl) (Nat.le_of_ble_eq_true rfl) dX7_init_58 (fun q6 H hP hD hS => ?_)
  have hP : va_P (dC, dI) vwCl [(a0_, .inr (10, [.ref q1, .int 0, .ref q2, .int 0, .ref q3, .int 0, .ref q4, .ref q5, .null, .int 0, .null, .int 0, .int 0])), (q1, .inl (cI, 4000, .inl (fun _ => 0))), (q4, .inl (cI, 3008, .inl (fun _ => 0))), (q5, .inl (cI, 3008, .inl (fun _ => 0))), (q6, .inl (cI, 3008, .inl (fun _ => 0)))] H := hP
  have hD : va_D A [(a0_, .inr (10, [.ref q1, .int 0, .ref q2, .int 0, .ref q3, .int 0, .ref q4, .ref q5, .null, .int 0, .null, .int 0, .int 0])), (q1, .inl (cI, 4000, .inl (fun _ => 0))), (q4, .inl (cI, 3008, .inl (fun _ => 0))), (q5, .inl (cI, 3008, .inl (fun _ => 0))), (q6, .inl (cI, 3008, .inl (fun _ => 0)))] := hD
  refine W.widen (k := 106) (n := 13664) (by omega) (by omega) ?_
  refine va_putF (D := (dC, dI)) (ci := 10) (v := .ref q6) (ty := .array .int) (C := RX7) (T := TX7) (N := 13) hx hb ht itX7 tyX7 tyX7_ok nmX7 hown hK hP hD hS 0 rfl rfl 8 (by decide) (ht _ tw_10) (fun _ h9 => h9) rfl hin rfl (by decide +kernel) rfl rfl (Nat.le_of_ble_eq_true rfl) dX7_init_60 (fun H locs hP hD hS => ?_)
  have hP : va_P (dC, dI) vwCl [(a0_, .inr (10, [.ref q1, .int 0, .ref q2, .int 0, .ref q3, .int 0, .ref q4, .ref q5, .ref q6, .int 0, .null, .int 0, .int 0])), (q1, .inl (cI, 4000, .inl (fun _ => 0))), (q4, .inl (cI, 3008, .inl (fun _ => 0))), (q5, .inl (cI, 3008, .inl (fun _ => 0))), (q6, .inl (cI, 3008, .inl (fun _ => 0)))] H := hP
  have hD : va_D A [(a0_, .inr (10, [.ref q1, .int 0, .ref q2, .int 0, .ref q3, .int 0, .ref q4, .ref q5, .ref q6, .int 0, .null, .int 0, .int 0])), (q1, .inl (cI, 4000, .inl (fun _ => 0))), (q4, .inl (cI, 3008, .inl (fun _ => 0))), (q5, .inl (cI, 3008, .inl (fun _ => 0))), (q6, .inl (cI, 3008, .inl (fun _ => 0)))] := hD
  refine lv_aload_n hx hb dX7_init_63 rfl (lv_at hl 0 rfl) ?_
  refine lv_iload_n hx hb dX7_init_64 rfl (lv_at hl 1 rfl) ?_
  refine va_newE (atype := .int) (ty := .int) (a0 := (N, .inl (fun _ => 0))) (cE := cI) hx hb (ht _ tw_3) rfl hK hP hD hS hA 0 rfl (fun _ => rfl) (nI_pos (by omega)) (nI_clamp (by omega)) (show N * 4 ≤ 536870912 by omega) (Nat.le_of_ble_eq_true rfl) (show 13664 + N ≤ 17760 by omega) dX7_init_65 (fun q7 H hP hD hS => ?_)
  have hP : va_P (dC, dI) vwCl [(a0_, .inr (10, [.ref q1, .int 0, .ref q2, .int 0, .ref q3, .int 0, .ref q4, .ref q5, .ref q6, .int 0, .null, .int 0, .int 0])), (q1, .inl (cI, 4000, .inl (fun _ => 0))), (q4, .inl (cI, 3008, .inl (fun _ => 0))), (q5, .inl (cI, 3008, .inl (fun _ => 0))), (q6, .inl (cI, 3008, .inl (fun _ => 0))), (q7, .inl (cI, N, .inl (fun _ => 0)))] H := hP
  have hD : va_D A [(a0_, .inr (10, [.ref q1, .int 0, .ref q2, .int 0, .ref q3, .int 0, .ref q4, .ref q5, .ref q6, .int 0, .null, .int 0, .int 0])), (q1, .inl (cI, 4000, .inl (fun _ => 0))), (q4, .inl (cI, 3008, .inl (fun _ => 0))), (q5, .inl (cI, 3008, .inl (fun _ => 0))), (q6, .inl (cI, 3008, .inl (fun _ => 0))), (q7, .inl (cI, N, .inl (fun _ => 0)))] := hD
  refine W.widen (k := 107) (n := 17760) (by omega) (by omega) ?_
  refine va_putF (D := (dC, dI)) (ci := 10) (v := .ref q7) (ty := .array .int) (C := RX7) (T := TX7) (N := 13) hx hb ht itX7 tyX7 tyX7_ok nmX7 hown hK hP hD hS 0 rfl rfl 10 (by decide) (ht _ tw_11) (fun _ h9 => h9) rfl hin rfl (by decide +kernel) rfl rfl (Nat.le_of_ble_eq_true rfl) dX7_init_67 (fun H locs hP hD hS => ?_)
  have hP : va_P (dC, dI) vwCl [(a0_, .inr (10, [.ref q1, .int 0, .ref q2, .int 0, .ref q3, .int 0, .ref q4, .ref q5, .ref q6, .int 0, .ref q7, .int 0, .int 0])), (q1, .inl (cI, 4000, .inl (fun _ => 0))), (q4, .inl (cI, 3008, .inl (fun _ => 0))), (q5, .inl (cI, 3008, .inl (fun _ => 0))), (q6, .inl (cI, 3008, .inl (fun _ => 0))), (q7, .inl (cI, N, .inl (fun _ => 0)))] H := hP
  have hD : va_D A [(a0_, .inr (10, [.ref q1, .int 0, .ref q2, .int 0, .ref q3, .int 0, .ref q4, .ref q5, .ref q6, .int 0, .ref q7, .int 0, .int 0])), (q1, .inl (cI, 4000, .inl (fun _ => 0))), (q4, .inl (cI, 3008, .inl (fun _ => 0))), (q5, .inl (cI, 3008, .inl (fun _ => 0))), (q6, .inl (cI, 3008, .inl (fun _ => 0))), (q7, .inl (cI, N, .inl (fun _ => 0)))] := hD
  have hP9 := hP.sub (ws' := [(a0_, .inr (10, [.ref q1, .int 0, .ref q2, .int 0, .ref q3, .int 0, .ref q4, .ref q5, .ref q6, .int 0, .ref q7, .int 0, .int 0])), (q1, .inl (cI, 4000, .inl (fun _ => 0))), (q7, .inl (cI, N, .inl (fun _ => 0)))]) [0, 1, 5] rfl
  have hD9 := hD.sub (ws' := [(a0_, .inr (10, [.ref q1, .int 0, .ref q2, .int 0, .ref q3, .int 0, .ref q4, .ref q5, .ref q6, .int 0, .ref q7, .int 0, .int 0])), (q1, .inl (cI, 4000, .inl (fun _ => 0))), (q7, .inl (cI, N, .inl (fun _ => 0)))]) [0, 1, 5] (by decide) rfl
  refine W.widen (k := 107) (n := 17760) (by omega) (by omega) ?_
  exact W.vret hx hb hr (fun t ht9 hW => ⟨⟨(q1, q2, q3, q4, q5, q6, q7), rfl, trivial, by rw [ht9]; exact hP9, hD9⟩, hS.F ht9⟩) hS.2.2 dX7_init_70
set_option maxHeartbeats 4000000 in
set_option maxRecDepth 100000 in
theorem c_J5_init_d00df (l : Launch) (dC : Nat → ClassId) (dI : Nat → Nat → Nat) (cI cB cZ cJ cR : ClassId) (tb : Nat → Nat) (sz : Nat) (a0_ : Nat)  : Met l yJ5_init_d00df (Cond.code yJ5_init_d00df cJ5_init_d00df 2 none :: tw_W) ({ frames := 1, cells := 1, slots := 16, locals := 12 }) (pc_ (dC, dI) (tyS cI cB cZ cJ cR) tb [(a0_, .inr (1, [.null, .int 0, .int 0, .int 0]))] sz [.ref a0_, .int 16]) (qv_ (dC, dI) [(a0_, .inr (1, [.null, .int 0, .int 0, .int 0]))] sz (fun (u : Nat) => True) (fun (u : Nat) => [(a0_, .inr (1, [.ref u, .int 0, .int 0, .int 0])), (u, .inl (cB, 16, .inl (fun _ => 0)))])) 1 16 (va_A [(a0_, .inr (1, [.null, .int 0, .int 0, .int 0]))] sz) := by
  refine Met.ofW (cc := cJ5_init_d00df) (maxL := 2) (ret := none) (by decide) rfl ?_
  intro p e s m args below meth c s₁ B hml hv
  obtain ⟨rfl, hsz, hP, hKK, hD0, hFx⟩ := hv
  have hK := hKK.1
  have hx := B.exec
  have hb := B.bytes
  have hr := B.returns
  have ht : ∀ w ∈ tw_W, w.before _ s = true := fun w h => atoms_spec (ws := Cond.code yJ5_init_d00df cJ5_init_d00df 2 none :: tw_W) B.pre w (List.mem_cons_of_mem _ h)
  have hown : s.vm.findClass RJ5 = some m.cls := findClass_of_methodNamed B.named
  have hlocks := B.notSynchronized
  have hin : meth.name = "<init>" := (name_of_methodNamed B.named B.method).1
  subst hsz
  unfold qv_
  have hD := hD0.self (sz := s.heap.size)
  generalize hAe : va_A [(a0_, .inr (1, [.null, .int 0, .int 0, .int 0]))] s.heap.size = A at hD hFx ⊢
  have hA : ∀ q : Nat, s.heap.size ≤ q → A q := fun q h => by rw [← hAe]; exact Or.inr h
  have hS : va_S A s.heap s.heap [] := va_S.rf
  have hP : va_P (dC, dI) vwCl [(a0_, .inr (1, [.null, .int 0, .int 0, .int 0]))] s.heap := hP
  have hl := lv_entry ([.ref a0_, .int 16]) (n := 2) (Nat.le_of_ble_eq_true rfl)
  rw [lg_entry_eq]
  generalize (lg_sl ([.ref a0_, .int 16]) ++ List.replicate (2 - (lg_sl ([.ref a0_, .int 16])).length) Slot.unset).toArray = ls at hl ⊢
  have hl : lv_has ls 2 [(0, .ref a0_), (1, .int 16)] := hl
  refine lv_aload_n hx hb dJ5_init_d00df_0 rfl (lv_at hl 0 rfl) ?_
  refine W.objInit hx hb hown (ht _ tw_16) (ht _ tw_1) (ht _ tw_2) rfl (by rw [hml]; exact hl.1) rfl dJ5_init_d00df_1 (Nat.le_of_ble_eq_true rfl) (Nat.le_of_ble_eq_true rfl) ?_
  refine W.eq (g2 := F0 m 4 ls []) rfl ?_
  refine va_gets hx hb hFx.1 hS hown (ht _ tw_17) (fun _ h9 => h9) dJ5_init_d00df_4 ?_
  refine lv_if_eq (tgt := 25) hx hb dJ5_init_d00df_7 (by decide) (fun k1 => absurd k1 (by decide)) (fun _ => ?_)
  refine lv_aload_n hx hb dJ5_init_d00df_10 rfl (lv_at hl 0 rfl) ?_
  refine lv_iload_n hx hb dJ5_init_d00df_11 rfl (lv_at hl 1 rfl) ?_
  refine va_newE (atype := .byte) (ty := .byte) (a0 := (16, .inl (fun _ => 0))) (cE := cB) hx hb (ht _ tw_18) rfl hK hP hD hS hA 1 rfl (fun _ => rfl) (by decide) (by decide) (by decide) (Nat.le_of_ble_eq_true rfl) (Nat.le_of_ble_eq_true rfl) dJ5_init_d00df_12 (fun q2 H hP hD hS => ?_)
  have hP : va_P (dC, dI) vwCl [(a0_, .inr (1, [.null, .int 0, .int 0, .int 0])), (q2, .inl (cB, 16, .inl (fun _ => 0)))] H := hP
  have hD : va_D A [(a0_, .inr (1, [.null, .int 0, .int 0, .int 0])), (q2, .inl (cB, 16, .inl (fun _ => 0)))] := hD
  refine W.widen (k := 1) (n := 16) (by omega) (by omega) ?_
  refine va_put (D := (dC, dI)) (ci := 1) (v := .ref q2) (ty := .array .byte) (C := RJ4) (T := TJ4) (N := 4) hx hb ht itJ4 tyJ4 tyJ4_ok nmJ4 hown hK hP hD hS 0 rfl rfl 0 (by decide) (ht _ tw_19) (fun _ h9 => h9) rfl (by decide +kernel) rfl rfl (Nat.le_of_ble_eq_true rfl) dJ5_init_d00df_14 (fun H locs hP hD hS => ?_)
  have hP : va_P (dC, dI) vwCl [(a0_, .inr (1, [.ref q2, .int 0, .int 0, .int 0])), (q2, .inl (cB, 16, .inl (fun _ => 0)))] H := hP
  have hD : va_D A [(a0_, .inr (1, [.ref q2, .int 0, .int 0, .int 0])), (q2, .inl (cB, 16, .inl (fun _ => 0)))] := hD
  refine lv_aload_n hx hb dJ5_init_d00df_17 rfl (lv_at hl 0 rfl) ?_
  refine lv_iconst (v := 0) hx hb dJ5_init_d00df_18 (by decide) ?_
  refine va_put (D := (dC, dI)) (ci := 1) (v := .int 0) (ty := .byte) (C := RJ4) (T := TJ4) (N := 4) hx hb ht itJ4 tyJ4 tyJ4_ok nmJ4 hown hK hP hD hS 0 rfl rfl 1 (by decide) (ht _ tw_20) (fun _ h9 => h9) rfl (by decide +kernel) rfl rfl (Nat.le_of_ble_eq_true rfl) dJ5_init_d00df_19 (fun H locs hP hD hS => ?_)
  have hP : va_P (dC, dI) vwCl [(a0_, .inr (1, [.ref q2, .int 0, .int 0, .int 0])), (q2, .inl (cB, 16, .inl (fun _ => 0)))] H := hP
  have hD : va_D A [(a0_, .inr (1, [.ref q2, .int 0, .int 0, .int 0])), (q2, .inl (cB, 16, .inl (fun _ => 0)))] := hD
  refine lv_goto (tgt := 38) hx hb dJ5_init_d00df_22 (by decide) ?_
  have hP9 := hP.sub (ws' := [(a0_, .inr (1, [.ref q2, .int 0, .int 0, .int 0])), (q2, .inl (cB, 16, .inl (fun _ => 0)))]) [0, 1] rfl
  have hD9 := hD.sub (ws' := [(a0_, .inr (1, [.ref q2, .int 0, .int 0, .int 0])), (q2, .inl (cB, 16, .inl (fun _ => 0)))]) [0, 1] (by decide) rfl
  refine W.widen (k := 1) (n := 16) (by omega) (by omega) ?_
  exact W.vret hx hb hr (fun t ht9 hW => ⟨⟨q2, rfl, trivial, by rw [ht9]; exact hP9, hD9⟩, hS.F ht9⟩) hS.2.2 dJ5_init_d00df_38
set_option maxHeartbeats 4000000 in
set_option maxRecDepth 100000 in
theorem c_J4_init_da8c8 (l : Launch) (dC : Nat → ClassId) (dI : Nat → Nat → Nat) (cI cB cZ cJ cR : ClassId) (tb : Nat → Nat) (sz : Nat) (a0_ : Nat)  : Met l yJ4_init_da8c8 (Cond.code yJ4_init_da8c8 cJ4_init_da8c8 1 none :: tw_W) ({ frames := 2, cells := 1, slots := 16, locals := 33 }) (pc_ (dC, dI) (tyS cI cB cZ cJ cR) tb [(a0_, .inr (1, [.null, .int 0, .int 0, .int 0]))] sz [.ref a0_]) (qv_ (dC, dI) [(a0_, .inr (1, [.null, .int 0, .int 0, .int 0]))] sz (fun (u : Nat) => True) (fun (u : Nat) => [(a0_, .inr (1, [.ref u, .int 0, .int 0, .int 0])), (u, .inl (cB, 16, .inl (fun _ => 0)))])) 1 16 (va_A [(a0_, .inr (1, [.null, .int 0, .int 0, .int 0]))] sz) := by
  refine Met.ofW (cc := cJ4_init_da8c8) (maxL := 1) (ret := none) (by decide) rfl ?_
  intro p e s m args below meth c s₁ B hml hv
  obtain ⟨rfl, hsz, hP, hKK, hD0, hFx⟩ := hv
  have hK := hKK.1
  have hx := B.exec
  have hb := B.bytes
  have hr := B.returns
  have ht : ∀ w ∈ tw_W, w.before _ s = true := fun w h => atoms_spec (ws := Cond.code yJ4_init_da8c8 cJ4_init_da8c8 1 none :: tw_W) B.pre w (List.mem_cons_of_mem _ h)
  have hown : s.vm.findClass RJ4 = some m.cls := findClass_of_methodNamed B.named
  have hlocks := B.notSynchronized
  have hin : meth.name = "<init>" := (name_of_methodNamed B.named B.method).1
  subst hsz
  unfold qv_
  have hD := hD0.self (sz := s.heap.size)
  generalize hAe : va_A [(a0_, .inr (1, [.null, .int 0, .int 0, .int 0]))] s.heap.size = A at hD hFx ⊢
  have hA : ∀ q : Nat, s.heap.size ≤ q → A q := fun q h => by rw [← hAe]; exact Or.inr h
  have hS : va_S A s.heap s.heap [] := va_S.rf
  have hP : va_P (dC, dI) vwCl [(a0_, .inr (1, [.null, .int 0, .int 0, .int 0]))] s.heap := hP
  have hl := lv_entry ([.ref a0_]) (n := 1) (Nat.le_of_ble_eq_true rfl)
  rw [lg_entry_eq]
  generalize (lg_sl ([.ref a0_]) ++ List.replicate (1 - (lg_sl ([.ref a0_])).length) Slot.unset).toArray = ls at hl ⊢
  have hl : lv_has ls 1 [(0, .ref a0_)] := hl
  refine lv_aload_n hx hb dJ4_init_da8c8_0 rfl (lv_at hl 0 rfl) ?_
  refine lv_bipush (v := 16) hx hb dJ4_init_da8c8_1 (by decide) ?_
  refine ca_v (wr := []) (rn_I (n := 1) (As := [.int 16]) (rest := []) hx hb hml hown ht hKK hFx hP hD hS hA (c_J5_init_d00df l dC dI cI cB cZ cJ cR tb s.heap.size a0_) tw_21 tw_22 tw_23 tw_24 rfl (by decide +kernel) rfl rfl ⟨Nat.le_of_ble_eq_true rfl, Nat.le_of_ble_eq_true rfl⟩ [0] rfl (by decide) rfl hl.1 rfl (Nat.le_of_ble_eq_true rfl) dJ4_init_da8c8_3 ⟨Nat.le_of_ble_eq_true rfl, Nat.le_of_ble_eq_true rfl⟩) hP hD hS hA (isC := [0]) (isR := []) rfl rfl (by decide) (by decide) (fun u H locs hw1 hP hD hS => ?_)
  obtain ⟨q2, hq9⟩ : ∃ z, z = u := ⟨_, rfl⟩
  subst hq9
  have hP : va_P (dC, dI) vwCl [(a0_, .inr (1, [.ref q2, .int 0, .int 0, .int 0])), (q2, .inl (cB, 16, .inl (fun _ => 0)))] H := hP
  have hD : va_D A [(a0_, .inr (1, [.ref q2, .int 0, .int 0, .int 0])), (q2, .inl (cB, 16, .inl (fun _ => 0)))] := hD
  refine W.widen (k := 1) (n := 16) (by omega) (by omega) ?_
  have hP9 := hP.sub (ws' := [(a0_, .inr (1, [.ref q2, .int 0, .int 0, .int 0])), (q2, .inl (cB, 16, .inl (fun _ => 0)))]) [0, 1] rfl
  have hD9 := hD.sub (ws' := [(a0_, .inr (1, [.ref q2, .int 0, .int 0, .int 0])), (q2, .inl (cB, 16, .inl (fun _ => 0)))]) [0, 1] (by decide) rfl
  refine W.widen (k := 1) (n := 16) (by omega) (by omega) ?_
  exact W.vret hx hb hr (fun t ht9 hW => ⟨⟨q2, rfl, trivial, by rw [ht9]; exact hP9, hD9⟩, hS.F ht9⟩) hS.2.2 dJ4_init_da8c8_6
set_option maxHeartbeats 4000000 in
set_option maxRecDepth 100000 in
/-- Shower -/
theorem c_X8_init (l : Launch) (dC : Nat → ClassId) (dI : Nat → Nat → Nat) (cI cB cZ cJ cR : ClassId) (tb : Nat → Nat) (sz : Nat) (a0_ : Nat)  : Met l yX8_init (Cond.code yX8_init cX8_init 1 none :: tw_W) ({ frames := 3, cells := 2, slots := 20, locals := 53 }) (pc_ (dC, dI) (tyS cI cB cZ cJ cR) tb [(a0_, .inr (11, [.null]))] sz [.ref a0_]) (qv_ (dC, dI) [(a0_, .inr (11, [.null]))] sz (fun (u : Nat × Nat) => True) (fun (u : Nat × Nat) => [(a0_, .inr (11, [.ref u.1])), (u.1, .inr (1, [.ref u.2, .int 0, .int 0, .int 0])), (u.2, .inl (cB, 16, .inl (fun _ => 0)))])) 2 20 (va_A [(a0_, .inr (11, [.null]))] sz) := by
  refine Met.ofW (cc := cX8_init) (maxL := 1) (ret := none) (by decide) rfl ?_
  intro p e s m args below meth c s₁ B hml hv
  obtain ⟨rfl, hsz, hP, hKK, hD0, hFx⟩ := hv
  have hK := hKK.1
  have hx := B.exec
  have hb := B.bytes
  have hr := B.returns
  have ht : ∀ w ∈ tw_W, w.before _ s = true := fun w h => atoms_spec (ws := Cond.code yX8_init cX8_init 1 none :: tw_W) B.pre w (List.mem_cons_of_mem _ h)
  have hown : s.vm.findClass RX8 = some m.cls := findClass_of_methodNamed B.named
  have hlocks := B.notSynchronized
  have hin : meth.name = "<init>" := (name_of_methodNamed B.named B.method).1
  subst hsz
  unfold qv_
  have hD := hD0.self (sz := s.heap.size)
  generalize hAe : va_A [(a0_, .inr (11, [.null]))] s.heap.size = A at hD hFx ⊢
  have hA : ∀ q : Nat, s.heap.size ≤ q → A q := fun q h => by rw [← hAe]; exact Or.inr h
  have hS : va_S A s.heap s.heap [] := va_S.rf
  have hP : va_P (dC, dI) vwCl [(a0_, .inr (11, [.null]))] s.heap := hP
  have hl := lv_entry ([.ref a0_]) (n := 1) (Nat.le_of_ble_eq_true rfl)
  rw [lg_entry_eq]
  generalize (lg_sl ([.ref a0_]) ++ List.replicate (1 - (lg_sl ([.ref a0_])).length) Slot.unset).toArray = ls at hl ⊢
  have hl : lv_has ls 1 [(0, .ref a0_)] := hl
  refine lv_aload_n hx hb dX8_init_0 rfl (lv_at hl 0 rfl) ?_
  refine W.objInit hx hb hown (ht _ tw_12) (ht _ tw_1) (ht _ tw_2) rfl (by rw [hml]; exact hl.1) rfl dX8_init_1 (Nat.le_of_ble_eq_true rfl) (Nat.le_of_ble_eq_true rfl) ?_
  refine W.eq (g2 := F0 m 4 ls []) rfl ?_
  refine lv_aload_n hx hb dX8_init_4 rfl (lv_at hl 0 rfl) ?_
  refine va_new (ci := 1) (fs := [.null, .int 0, .int 0, .int 0]) (C := RJ4) (T := TJ4) (N := 4) hx hb ht itJ4 tyJ4 tyJ4_ok hown (ht _ tw_13) (ht _ tw_14) (ht _ tw_15) hK hP hD hS hA rfl (by decide +kernel) (Nat.le_of_ble_eq_true rfl) (Nat.le_of_ble_eq_true rfl) dX8_init_5 (fun q1 H hP hD hS => ?_)
  have hP : va_P (dC, dI) vwCl [(a0_, .inr (11, [.null])), (q1, .inr (1, [.null, .int 0, .int 0, .int 0]))] H := hP
  have hD : va_D A [(a0_, .inr (11, [.null])), (q1, .inr (1, [.null, .int 0, .int 0, .int 0]))] := hD
  refine W.widen (k := 1) (n := 4) (by omega) (by omega) ?_
  refine lv_dup hx hb dX8_init_8 rfl ?_
  refine ca_v (wr := [(a0_, .inr (11, [.null]))]) (rn_I (n := 0) (As := []) (rest := [.ref q1, .ref a0_]) hx hb hml hown ht hKK hFx hP hD hS hA (c_J4_init_da8c8 l dC dI cI cB cZ cJ cR tb H.size q1) tw_25 tw_26 tw_27 tw_28 rfl (by decide +kernel) rfl rfl ⟨Nat.le_of_ble_eq_true rfl, Nat.le_of_ble_eq_true rfl⟩ [1] rfl (by decide) rfl hl.1 rfl (Nat.le_of_ble_eq_true rfl) dX8_init_9 ⟨Nat.le_of_ble_eq_true rfl, Nat.le_of_ble_eq_true rfl⟩) hP hD hS hA (isC := [1]) (isR := [0]) rfl rfl (by decide) (by decide) (fun u H locs hw2 hP hD hS => ?_)
  obtain ⟨q3, hq9⟩ : ∃ z, z = u := ⟨_, rfl⟩
  subst hq9
  have hP : va_P (dC, dI) vwCl [(a0_, .inr (11, [.null])), (q1, .inr (1, [.ref q3, .int 0, .int 0, .int 0])), (q3, .inl (cB, 16, .inl (fun _ => 0)))] H := hP
  have hD : va_D A [(a0_, .inr (11, [.null])), (q1, .inr (1, [.ref q3, .int 0, .int 0, .int 0])), (q3, .inl (cB, 16, .inl (fun _ => 0)))] := hD
  refine W.widen (k := 2) (n := 20) (by omega) (by omega) ?_
  refine va_putF (D := (dC, dI)) (ci := 11) (v := .ref q1) (ty := .object "java/lang/StringBuilder") (C := RX8) (T := TX8) (N := 1) hx hb ht itX8 tyX8 tyX8_ok nmX8 hown hK hP hD hS 0 rfl rfl 0 (by decide) (ht _ tw_29) (fun _ h9 => h9) rfl hin rfl (by decide +kernel) rfl rfl (Nat.le_of_ble_eq_true rfl) dX8_init_12 (fun H locs hP hD hS => ?_)
  have hP : va_P (dC, dI) vwCl [(a0_, .inr (11, [.ref q1])), (q1, .inr (1, [.ref q3, .int 0, .int 0, .int 0])), (q3, .inl (cB, 16, .inl (fun _ => 0)))] H := hP
  have hD : va_D A [(a0_, .inr (11, [.ref q1])), (q1, .inr (1, [.ref q3, .int 0, .int 0, .int 0])), (q3, .inl (cB, 16, .inl (fun _ => 0)))] := hD
  have hP9 := hP.sub (ws' := [(a0_, .inr (11, [.ref q1])), (q1, .inr (1, [.ref q3, .int 0, .int 0, .int 0])), (q3, .inl (cB, 16, .inl (fun _ => 0)))]) [0, 1, 2] rfl
  have hD9 := hD.sub (ws' := [(a0_, .inr (11, [.ref q1])), (q1, .inr (1, [.ref q3, .int 0, .int 0, .int 0])), (q3, .inl (cB, 16, .inl (fun _ => 0)))]) [0, 1, 2] (by decide) rfl
  refine W.widen (k := 2) (n := 20) (by omega) (by omega) ?_
  exact W.vret hx hb hr (fun t ht9 hW => ⟨⟨(q1, q3), rfl, trivial, by rw [ht9]; exact hP9, hD9⟩, hS.F ht9⟩) hS.2.2 dX8_init_15
set_option maxHeartbeats 4000000 in
set_option maxRecDepth 100000 in
/-- Builder -/
theorem c_X1_init (l : Launch) (dC : Nat → ClassId) (dI : Nat → Nat → Nat) (cI cB cZ cJ cR : ClassId) (tb : Nat → Nat) (sz : Nat) (a0_ : Nat) (a1_ : Nat)  : Met l yX1_init (Cond.code yX1_init cX1_init 2 none :: tw_W) ({ frames := 1, cells := 5, slots := 3503, locals := 12 }) (pc_ (dC, dI) (tyS cI cB cZ cJ cR) tb [(a0_, .inr (5, [.null, .null, .int 0, .int 0, .int 0, .int 0, .null, .int 0, .null, .null, .null, .int 0]))] sz [.ref a0_, .ref a1_]) (qv_ (dC, dI) [(a0_, .inr (5, [.null, .null, .int 0, .int 0, .int 0, .int 0, .null, .int 0, .null, .null, .null, .int 0]))] sz (fun (u : Nat × Nat × Nat × Nat × Nat) => True) (fun (u : Nat × Nat × Nat × Nat × Nat) => [(a0_, .inr (5, [.ref a1_, .ref u.1, .int 0, .int 0, .int 0, .int 0, .ref u.2.1, .int 0, .ref u.2.2.1, .ref u.2.2.2.1, .ref u.2.2.2.2, .int 0]))])) 5 3503 (va_A [(a0_, .inr (5, [.null, .null, .int 0, .int 0, .int 0, .int 0, .null, .int 0, .null, .null, .null, .int 0]))] sz) := by
  refine Met.ofW (cc := cX1_init) (maxL := 2) (ret := none) (by decide) rfl ?_
  intro p e s m args below meth c s₁ B hml hv
  obtain ⟨rfl, hsz, hP, hKK, hD0, hFx⟩ := hv
  have hK := hKK.1
  have hx := B.exec
  have hb := B.bytes
  have hr := B.returns
  have ht : ∀ w ∈ tw_W, w.before _ s = true := fun w h => atoms_spec (ws := Cond.code yX1_init cX1_init 2 none :: tw_W) B.pre w (List.mem_cons_of_mem _ h)
  have hown : s.vm.findClass RX1 = some m.cls := findClass_of_methodNamed B.named
  have hlocks := B.notSynchronized
  have hin : meth.name = "<init>" := (name_of_methodNamed B.named B.method).1
  subst hsz
  unfold qv_
  have hD := hD0.self (sz := s.heap.size)
  generalize hAe : va_A [(a0_, .inr (5, [.null, .null, .int 0, .int 0, .int 0, .int 0, .null, .int 0, .null, .null, .null, .int 0]))] s.heap.size = A at hD hFx ⊢
  have hA : ∀ q : Nat, s.heap.size ≤ q → A q := fun q h => by rw [← hAe]; exact Or.inr h
  have hS : va_S A s.heap s.heap [] := va_S.rf
  have hP : va_P (dC, dI) vwCl [(a0_, .inr (5, [.null, .null, .int 0, .int 0, .int 0, .int 0, .null, .int 0, .null, .null, .null, .int 0]))] s.heap := hP
  have hl := lv_entry ([.ref a0_, .ref a1_]) (n := 2) (Nat.le_of_ble_eq_true rfl)
  rw [lg_entry_eq]
  generalize (lg_sl ([.ref a0_, .ref a1_]) ++ List.replicate (2 - (lg_sl ([.ref a0_, .ref a1_])).length) Slot.unset).toArray = ls at hl ⊢
  have hl : lv_has ls 2 [(0, .ref a0_), (1, .ref a1_)] := hl
  refine lv_aload_n hx hb dX1_init_0 rfl (lv_at hl 0 rfl) ?_
  refine W.objInit hx hb hown (ht _ tw_30) (ht _ tw_1) (ht _ tw_2) rfl (by rw [hml]; exact hl.1) rfl dX1_init_1 (Nat.le_of_ble_eq_true rfl) (Nat.le_of_ble_eq_true rfl) ?_
  refine W.eq (g2 := F0 m 4 ls []) rfl ?_
  refine lv_aload_n hx hb dX1_init_4 rfl (lv_at hl 0 rfl) ?_
  refine lv_sipush (v := 500) hx hb dX1_init_5 (by decide) ?_
  refine va_newE (atype := .int) (ty := .int) (a0 := (500, .inl (fun _ => 0))) (cE := cI) hx hb (ht _ tw_3) rfl hK hP hD hS hA 0 rfl (fun _ => rfl) (by decide) (by decide) (by decide) (Nat.le_of_ble_eq_true rfl) (Nat.le_of_ble_eq_true rfl) dX1_init_8 (fun q1 H hP hD hS => ?_)
  have hP : va_P (dC, dI) vwCl [(a0_, .inr (5, [.null, .null, .int 0, .int 0, .int 0, .int 0, .null, .int 0, .null, .null, .null, .int 0])), (q1, .inl (cI, 500, .inl (fun _ => 0)))] H := hP
  have hD : va_D A [(a0_, .inr (5, [.null, .null, .int 0, .int 0, .int 0, .int 0, .null, .int 0, .null, .null, .null, .int 0])), (q1, .inl (cI, 500, .inl (fun _ => 0)))] := hD
  refine W.widen (k := 1) (n := 500) (by omega) (by omega) ?_
  refine va_putF (D := (dC, dI)) (ci := 5) (v := .ref q1) (ty := .array .int) (C := RX1) (T := TX1) (N := 12) hx hb ht itX1 tyX1 tyX1_ok nmX1 hown hK hP hD hS 0 rfl rfl 1 (by decide) (ht _ tw_31) (fun _ h9 => h9) rfl hin rfl (by decide +kernel) rfl rfl (Nat.le_of_ble_eq_true rfl) dX1_init_10 (fun H locs hP hD hS => ?_)
  have hP : va_P (dC, dI) vwCl [(a0_, .inr (5, [.null, .ref q1, .int 0, .int 0, .int 0, .int 0, .null, .int 0, .null, .null, .null, .int 0])), (q1, .inl (cI, 500, .inl (fun _ => 0)))] H := hP
  have hD : va_D A [(a0_, .inr (5, [.null, .ref q1, .int 0, .int 0, .int 0, .int 0, .null, .int 0, .null, .null, .null, .int 0])), (q1, .inl (cI, 500, .inl (fun _ => 0)))] := hD
  refine lv_aload_n hx hb dX1_init_13 rfl (lv_at hl 0 rfl) ?_
  refine lv_sipush (v := 1500) hx hb dX1_init_14 (by decide) ?_
  refine va_newE (atype := .int) (ty := .int) (a0 := (1500, .inl (fun _ => 0))) (cE := cI) hx hb (ht _ tw_3) rfl hK hP hD hS hA 0 rfl (fun _ => rfl) (by decide) (by decide) (by decide) (Nat.le_of_ble_eq_true rfl) (Nat.le_of_ble_eq_true rfl) dX1_init_17 (fun q2 H hP hD hS => ?_)
  have hP : va_P (dC, dI) vwCl [(a0_, .inr (5, [.null, .ref q1, .int 0, .int 0, .int 0, .int 0, .null, .int 0, .null, .null, .null, .int 0])), (q1, .inl (cI, 500, .inl (fun _ => 0))), (q2, .inl (cI, 1500, .inl (fun _ => 0)))] H := hP
  have hD : va_D A [(a0_, .inr (5, [.null, .ref q1, .int 0, .int 0, .int 0, .int 0, .null, .int 0, .null, .null, .null, .int 0])), (q1, .inl (cI, 500, .inl (fun _ => 0))), (q2, .inl (cI, 1500, .inl (fun _ => 0)))] := hD
  refine W.widen (k := 2) (n := 2000) (by omega) (by omega) ?_
  refine va_putF (D := (dC, dI)) (ci := 5) (v := .ref q2) (ty := .array .int) (C := RX1) (T := TX1) (N := 12) hx hb ht itX1 tyX1 tyX1_ok nmX1 hown hK hP hD hS 0 rfl rfl 6 (by decide) (ht _ tw_32) (fun _ h9 => h9) rfl hin rfl (by decide +kernel) rfl rfl (Nat.le_of_ble_eq_true rfl) dX1_init_19 (fun H locs hP hD hS => ?_)
  have hP : va_P (dC, dI) vwCl [(a0_, .inr (5, [.null, .ref q1, .int 0, .int 0, .int 0, .int 0, .ref q2, .int 0, .null, .null, .null, .int 0])), (q1, .inl (cI, 500, .inl (fun _ => 0))), (q2, .inl (cI, 1500, .inl (fun _ => 0)))] H := hP
  have hD : va_D A [(a0_, .inr (5, [.null, .ref q1, .int 0, .int 0, .int 0, .int 0, .ref q2, .int 0, .null, .null, .null, .int 0])), (q1, .inl (cI, 500, .inl (fun _ => 0))), (q2, .inl (cI, 1500, .inl (fun _ => 0)))] := hD
  refine lv_aload_n hx hb dX1_init_22 rfl (lv_at hl 0 rfl) ?_
  refine lv_sipush (v := 501) hx hb dX1_init_23 (by decide) ?_
  refine va_newE (atype := .int) (ty := .int) (a0 := (501, .inl (fun _ => 0))) (cE := cI) hx hb (ht _ tw_3) rfl hK hP hD hS hA 0 rfl (fun _ => rfl) (by decide) (by decide) (by decide) (Nat.le_of_ble_eq_true rfl) (Nat.le_of_ble_eq_true rfl) dX1_init_26 (fun q3 H hP hD hS => ?_)
  have hP : va_P (dC, dI) vwCl [(a0_, .inr (5, [.null, .ref q1, .int 0, .int 0, .int 0, .int 0, .ref q2, .int 0, .null, .null, .null, .int 0])), (q1, .inl (cI, 500, .inl (fun _ => 0))), (q2, .inl (cI, 1500, .inl (fun _ => 0))), (q3, .inl (cI, 501, .inl (fun _ => 0)))] H := hP
  have hD : va_D A [(a0_, .inr (5, [.null, .ref q1, .int 0, .int 0, .int 0, .int 0, .ref q2, .int 0, .null, .null, .null, .int 0])), (q1, .inl (cI, 500, .inl (fun _ => 0))), (q2, .inl (cI, 1500, .inl (fun _ => 0))), (q3, .inl (cI, 501, .inl (fun _ => 0)))] := hD
  refine W.widen (k := 3) (n := 2501) (by omega) (by omega) ?_
  refine va_putF (D := (dC, dI)) (ci := 5) (v := .ref q3) (ty := .array .int) (C := RX1) (T := TX1) (N := 12) hx hb ht itX1 tyX1 tyX1_ok nmX1 hown hK hP hD hS 0 rfl rfl 8 (by decide) (ht _ tw_33) (fun _ h9 => h9) rfl hin rfl (by decide +kernel) rfl rfl (Nat.le_of_ble_eq_true rfl) dX1_init_28 (fun H locs hP hD hS => ?_)
  have hP : va_P (dC, dI) vwCl [(a0_, .inr (5, [.null, .ref q1, .int 0, .int 0, .int 0, .int 0, .ref q2, .int 0, .ref q3, .null, .null, .int 0])), (q1, .inl (cI, 500, .inl (fun _ => 0))), (q2, .inl (cI, 1500, .inl (fun _ => 0))), (q3, .inl (cI, 501, .inl (fun _ => 0)))] H := hP
  have hD : va_D A [(a0_, .inr (5, [.null, .ref q1, .int 0, .int 0, .int 0, .int 0, .ref q2, .int 0, .ref q3, .null, .null, .int 0])), (q1, .inl (cI, 500, .inl (fun _ => 0))), (q2, .inl (cI, 1500, .inl (fun _ => 0))), (q3, .inl (cI, 501, .inl (fun _ => 0)))] := hD
  refine lv_aload_n hx hb dX1_init_31 rfl (lv_at hl 0 rfl) ?_
  refine lv_sipush (v := 501) hx hb dX1_init_32 (by decide) ?_
  refine va_newE (atype := .int) (ty := .int) (a0 := (501, .inl (fun _ => 0))) (cE := cI) hx hb (ht _ tw_3) rfl hK hP hD hS hA 0 rfl (fun _ => rfl) (by decide) (by decide) (by decide) (Nat.le_of_ble_eq_true rfl) (Nat.le_of_ble_eq_true rfl) dX1_init_35 (fun q4 H hP hD hS => ?_)
  have hP : va_P (dC, dI) vwCl [(a0_, .inr (5, [.null, .ref q1, .int 0, .int 0, .int 0, .int 0, .ref q2, .int 0, .ref q3, .null, .null, .int 0])), (q1, .inl (cI, 500, .inl (fun _ => 0))), (q2, .inl (cI, 1500, .inl (fun _ => 0))), (q3, .inl (cI, 501, .inl (fun _ => 0))), (q4, .inl (cI, 501, .inl (fun _ => 0)))] H := hP
  have hD : va_D A [(a0_, .inr (5, [.null, .ref q1, .int 0, .int 0, .int 0, .int 0, .ref q2, .int 0, .ref q3, .null, .null, .int 0])), (q1, .inl (cI, 500, .inl (fun _ => 0))), (q2, .inl (cI, 1500, .inl (fun _ => 0))), (q3, .inl (cI, 501, .inl (fun _ => 0))), (q4, .inl (cI, 501, .inl (fun _ => 0)))] := hD
  refine W.widen (k := 4) (n := 3002) (by omega) (by omega) ?_
  refine va_putF (D := (dC, dI)) (ci := 5) (v := .ref q4) (ty := .array .int) (C := RX1) (T := TX1) (N := 12) hx hb ht itX1 tyX1 tyX1_ok nmX1 hown hK hP hD hS 0 rfl rfl 9 (by decide) (ht _ tw_34) (fun _ h9 => h9) rfl hin rfl (by decide +kernel) rfl rfl (Nat.le_of_ble_eq_true rfl) dX1_init_37 (fun H locs hP hD hS => ?_)
  have hP : va_P (dC, dI) vwCl [(a0_, .inr (5, [.null, .ref q1, .int 0, .int 0, .int 0, .int 0, .ref q2, .int 0, .ref q3, .ref q4, .null, .int 0])), (q1, .inl (cI, 500, .inl (fun _ => 0))), (q2, .inl (cI, 1500, .inl (fun _ => 0))), (q3, .inl (cI, 501, .inl (fun _ => 0))), (q4, .inl (cI, 501, .inl (fun _ => 0)))] H := hP
  have hD : va_D A [(a0_, .inr (5, [.null, .ref q1, .int 0, .int 0, .int 0, .int 0, .ref q2, .int 0, .ref q3, .ref q4, .null, .int 0])), (q1, .inl (cI, 500, .inl (fun _ => 0))), (q2, .inl (cI, 1500, .inl (fun _ => 0))), (q3, .inl (cI, 501, .inl (fun _ => 0))), (q4, .inl (cI, 501, .inl (fun _ => 0)))] := hD
  refine lv_aload_n hx hb dX1_init_40 rfl (lv_at hl 0 rfl) ?_
  refine lv_sipush (v := 501) hx hb dX1_init_41 (by decide) ?_
  refine va_newE (atype := .int) (ty := .int) (a0 := (501, .inl (fun _ => 0))) (cE := cI) hx hb (ht _ tw_3) rfl hK hP hD hS hA 0 rfl (fun _ => rfl) (by decide) (by decide) (by decide) (Nat.le_of_ble_eq_true rfl) (Nat.le_of_ble_eq_true rfl) dX1_init_44 (fun q5 H hP hD hS => ?_)
  have hP : va_P (dC, dI) vwCl [(a0_, .inr (5, [.null, .ref q1, .int 0, .int 0, .int 0, .int 0, .ref q2, .int 0, .ref q3, .ref q4, .null, .int 0])), (q1, .inl (cI, 500, .inl (fun _ => 0))), (q2, .inl (cI, 1500, .inl (fun _ => 0))), (q3, .inl (cI, 501, .inl (fun _ => 0))), (q4, .inl (cI, 501, .inl (fun _ => 0))), (q5, .inl (cI, 501, .inl (fun _ => 0)))] H := hP
  have hD : va_D A [(a0_, .inr (5, [.null, .ref q1, .int 0, .int 0, .int 0, .int 0, .ref q2, .int 0, .ref q3, .ref q4, .null, .int 0])), (q1, .inl (cI, 500, .inl (fun _ => 0))), (q2, .inl (cI, 1500, .inl (fun _ => 0))), (q3, .inl (cI, 501, .inl (fun _ => 0))), (q4, .inl (cI, 501, .inl (fun _ => 0))), (q5, .inl (cI, 501, .inl (fun _ => 0)))] := hD
  refine W.widen (k := 5) (n := 3503) (by omega) (by omega) ?_
  refine va_putF (D := (dC, dI)) (ci := 5) (v := .ref q5) (ty := .array .int) (C := RX1) (T := TX1) (N := 12) hx hb ht itX1 tyX1 tyX1_ok nmX1 hown hK hP hD hS 0 rfl rfl 10 (by decide) (ht _ tw_35) (fun _ h9 => h9) rfl hin rfl (by decide +kernel) rfl rfl (Nat.le_of_ble_eq_true rfl) dX1_init_46 (fun H locs hP hD hS => ?_)
  have hP : va_P (dC, dI) vwCl [(a0_, .inr (5, [.null, .ref q1, .int 0, .int 0, .int 0, .int 0, .ref q2, .int 0, .ref q3, .ref q4, .ref q5, .int 0])), (q1, .inl (cI, 500, .inl (fun _ => 0))), (q2, .inl (cI, 1500, .inl (fun _ => 0))), (q3, .inl (cI, 501, .inl (fun _ => 0))), (q4, .inl (cI, 501, .inl (fun _ => 0))), (q5, .inl (cI, 501, .inl (fun _ => 0)))] H := hP
  have hD : va_D A [(a0_, .inr (5, [.null, .ref q1, .int 0, .int 0, .int 0, .int 0, .ref q2, .int 0, .ref q3, .ref q4, .ref q5, .int 0])), (q1, .inl (cI, 500, .inl (fun _ => 0))), (q2, .inl (cI, 1500, .inl (fun _ => 0))), (q3, .inl (cI, 501, .inl (fun _ => 0))), (q4, .inl (cI, 501, .inl (fun _ => 0))), (q5, .inl (cI, 501, .inl (fun _ => 0)))] := hD
  refine lv_aload_n hx hb dX1_init_49 rfl (lv_at hl 0 rfl) ?_
  refine lv_aload_n hx hb dX1_init_50 rfl (lv_at hl 1 rfl) ?_
  refine va_put (D := (dC, dI)) (ci := 5) (v := .ref a1_) (ty := .object "PocketCompiler$Program") (C := RX1) (T := TX1) (N := 12) hx hb ht itX1 tyX1 tyX1_ok nmX1 hown hK hP hD hS 0 rfl rfl 0 (by decide) (ht _ tw_36) (fun _ h9 => h9) rfl (by decide +kernel) rfl rfl (Nat.le_of_ble_eq_true rfl) dX1_init_51 (fun H locs hP hD hS => ?_)
  have hP : va_P (dC, dI) vwCl [(a0_, .inr (5, [.ref a1_, .ref q1, .int 0, .int 0, .int 0, .int 0, .ref q2, .int 0, .ref q3, .ref q4, .ref q5, .int 0])), (q1, .inl (cI, 500, .inl (fun _ => 0))), (q2, .inl (cI, 1500, .inl (fun _ => 0))), (q3, .inl (cI, 501, .inl (fun _ => 0))), (q4, .inl (cI, 501, .inl (fun _ => 0))), (q5, .inl (cI, 501, .inl (fun _ => 0)))] H := hP
  have hD : va_D A [(a0_, .inr (5, [.ref a1_, .ref q1, .int 0, .int 0, .int 0, .int 0, .ref q2, .int 0, .ref q3, .ref q4, .ref q5, .int 0])), (q1, .inl (cI, 500, .inl (fun _ => 0))), (q2, .inl (cI, 1500, .inl (fun _ => 0))), (q3, .inl (cI, 501, .inl (fun _ => 0))), (q4, .inl (cI, 501, .inl (fun _ => 0))), (q5, .inl (cI, 501, .inl (fun _ => 0)))] := hD
  have hP9 := hP.sub (ws' := [(a0_, .inr (5, [.ref a1_, .ref q1, .int 0, .int 0, .int 0, .int 0, .ref q2, .int 0, .ref q3, .ref q4, .ref q5, .int 0]))]) [0] rfl
  have hD9 := hD.sub (ws' := [(a0_, .inr (5, [.ref a1_, .ref q1, .int 0, .int 0, .int 0, .int 0, .ref q2, .int 0, .ref q3, .ref q4, .ref q5, .int 0]))]) [0] (by decide) rfl
  refine W.widen (k := 5) (n := 3503) (by omega) (by omega) ?_
  exact W.vret hx hb hr (fun t ht9 hW => ⟨⟨(q1, q2, q3, q4, q5), rfl, trivial, by rw [ht9]; exact hP9, hD9⟩, hS.F ht9⟩) hS.2.2 dX1_init_54
set_option maxHeartbeats 4000000 in
set_option maxRecDepth 100000 in
/-- Expressions -/
theorem c_X2_init (l : Launch) (dC : Nat → ClassId) (dI : Nat → Nat → Nat) (cI cB cZ cJ cR : ClassId) (tb : Nat → Nat) (sz : Nat) (a0_ : Nat) (a1_ : Nat) (a2_ : Nat)  : Met l yX2_init (Cond.code yX2_init cX2_init 3 none :: tw_W) ({ frames := 1, cells := 2, slots := 840, locals := 12 }) (pc_ (dC, dI) (tyS cI cB cZ cJ cR) tb [(a0_, .inr (6, [.null, .null, .null, .null, .int 0]))] sz [.ref a0_, .ref a1_, .ref a2_]) (qv_ (dC, dI) [(a0_, .inr (6, [.null, .null, .null, .null, .int 0]))] sz (fun (u : Nat × Nat) => True) (fun (u : Nat × Nat) => [(a0_, .inr (6, [.ref a1_, .ref a2_, .ref u.1, .ref u.2, .int 0]))])) 2 840 (va_A [(a0_, .inr (6, [.null, .null, .null, .null, .int 0]))] sz) := by
  refine Met.ofW (cc := cX2_init) (maxL := 3) (ret := none) (by decide) rfl ?_
  intro p e s m args below meth c s₁ B hml hv
  obtain ⟨rfl, hsz, hP, hKK, hD0, hFx⟩ := hv
  have hK := hKK.1
  have hx := B.exec
  have hb := B.bytes
  have hr := B.returns
  have ht : ∀ w ∈ tw_W, w.before _ s = true := fun w h => atoms_spec (ws := Cond.code yX2_init cX2_init 3 none :: tw_W) B.pre w (List.mem_cons_of_mem _ h)
  have hown : s.vm.findClass RX2 = some m.cls := findClass_of_methodNamed B.named
  have hlocks := B.notSynchronized
  have hin : meth.name = "<init>" := (name_of_methodNamed B.named B.method).1
  subst hsz
  unfold qv_
  have hD := hD0.self (sz := s.heap.size)
  generalize hAe : va_A [(a0_, .inr (6, [.null, .null, .null, .null, .int 0]))] s.heap.size = A at hD hFx ⊢
  have hA : ∀ q : Nat, s.heap.size ≤ q → A q := fun q h => by rw [← hAe]; exact Or.inr h
  have hS : va_S A s.heap s.heap [] := va_S.rf
  have hP : va_P (dC, dI) vwCl [(a0_, .inr (6, [.null, .null, .null, .null, .int 0]))] s.heap := hP
  have hl := lv_entry ([.ref a0_, .ref a1_, .ref a2_]) (n := 3) (Nat.le_of_ble_eq_true rfl)
  rw [lg_entry_eq]
  generalize (lg_sl ([.ref a0_, .ref a1_, .ref a2_]) ++ List.replicate (3 - (lg_sl ([.ref a0_, .ref a1_, .ref a2_])).length) Slot.unset).toArray = ls at hl ⊢
  have hl : lv_has ls 3 [(0, .ref a0_), (1, .ref a1_), (2, .ref a2_)] := hl
  refine lv_aload_n hx hb dX2_init_0 rfl (lv_at hl 0 rfl) ?_
  refine W.objInit hx hb hown (ht _ tw_37) (ht _ tw_1) (ht _ tw_2) rfl (by rw [hml]; exact hl.1) rfl dX2_init_1 (Nat.le_of_ble_eq_true rfl) (Nat.le_of_ble_eq_true rfl) ?_
  refine W.eq (g2 := F0 m 4 ls []) rfl ?_
  refine lv_aload_n hx hb dX2_init_4 rfl (lv_at hl 0 rfl) ?_
  refine lv_sipush (v := 420) hx hb dX2_init_5 (by decide) ?_
  refine va_newE (atype := .int) (ty := .int) (a0 := (420, .inl (fun _ => 0))) (cE := cI) hx hb (ht _ tw_3) rfl hK hP hD hS hA 0 rfl (fun _ => rfl) (by decide) (by decide) (by decide) (Nat.le_of_ble_eq_true rfl) (Nat.le_of_ble_eq_true rfl) dX2_init_8 (fun q1 H hP hD hS => ?_)
  have hP : va_P (dC, dI) vwCl [(a0_, .inr (6, [.null, .null, .null, .null, .int 0])), (q1, .inl (cI, 420, .inl (fun _ => 0)))] H := hP
  have hD : va_D A [(a0_, .inr (6, [.null, .null, .null, .null, .int 0])), (q1, .inl (cI, 420, .inl (fun _ => 0)))] := hD
  refine W.widen (k := 1) (n := 420) (by omega) (by omega) ?_
  refine va_putF (D := (dC, dI)) (ci := 6) (v := .ref q1) (ty := .array .int) (C := RX2) (T := TX2) (N := 5) hx hb ht itX2 tyX2 tyX2_ok nmX2 hown hK hP hD hS 0 rfl rfl 2 (by decide) (ht _ tw_38) (fun _ h9 => h9) rfl hin rfl (by decide +kernel) rfl rfl (Nat.le_of_ble_eq_true rfl) dX2_init_10 (fun H locs hP hD hS => ?_)
  have hP : va_P (dC, dI) vwCl [(a0_, .inr (6, [.null, .null, .ref q1, .null, .int 0])), (q1, .inl (cI, 420, .inl (fun _ => 0)))] H := hP
  have hD : va_D A [(a0_, .inr (6, [.null, .null, .ref q1, .null, .int 0])), (q1, .inl (cI, 420, .inl (fun _ => 0)))] := hD
  refine lv_aload_n hx hb dX2_init_13 rfl (lv_at hl 0 rfl) ?_
  refine lv_sipush (v := 420) hx hb dX2_init_14 (by decide) ?_
  refine va_newE (atype := .int) (ty := .int) (a0 := (420, .inl (fun _ => 0))) (cE := cI) hx hb (ht _ tw_3) rfl hK hP hD hS hA 0 rfl (fun _ => rfl) (by decide) (by decide) (by decide) (Nat.le_of_ble_eq_true rfl) (Nat.le_of_ble_eq_true rfl) dX2_init_17 (fun q2 H hP hD hS => ?_)
  have hP : va_P (dC, dI) vwCl [(a0_, .inr (6, [.null, .null, .ref q1, .null, .int 0])), (q1, .inl (cI, 420, .inl (fun _ => 0))), (q2, .inl (cI, 420, .inl (fun _ => 0)))] H := hP
  have hD : va_D A [(a0_, .inr (6, [.null, .null, .ref q1, .null, .int 0])), (q1, .inl (cI, 420, .inl (fun _ => 0))), (q2, .inl (cI, 420, .inl (fun _ => 0)))] := hD
  refine W.widen (k := 2) (n := 840) (by omega) (by omega) ?_
  refine va_putF (D := (dC, dI)) (ci := 6) (v := .ref q2) (ty := .array .int) (C := RX2) (T := TX2) (N := 5) hx hb ht itX2 tyX2 tyX2_ok nmX2 hown hK hP hD hS 0 rfl rfl 3 (by decide) (ht _ tw_39) (fun _ h9 => h9) rfl hin rfl (by decide +kernel) rfl rfl (Nat.le_of_ble_eq_true rfl) dX2_init_19 (fun H locs hP hD hS => ?_)
  have hP : va_P (dC, dI) vwCl [(a0_, .inr (6, [.null, .null, .ref q1, .ref q2, .int 0])), (q1, .inl (cI, 420, .inl (fun _ => 0))), (q2, .inl (cI, 420, .inl (fun _ => 0)))] H := hP
  have hD : va_D A [(a0_, .inr (6, [.null, .null, .ref q1, .ref q2, .int 0])), (q1, .inl (cI, 420, .inl (fun _ => 0))), (q2, .inl (cI, 420, .inl (fun _ => 0)))] := hD
  refine lv_aload_n hx hb dX2_init_22 rfl (lv_at hl 0 rfl) ?_
  refine lv_aload_n hx hb dX2_init_23 rfl (lv_at hl 1 rfl) ?_
  refine va_putF (D := (dC, dI)) (ci := 6) (v := .ref a1_) (ty := .object "PocketCompiler$Tokens") (C := RX2) (T := TX2) (N := 5) hx hb ht itX2 tyX2 tyX2_ok nmX2 hown hK hP hD hS 0 rfl rfl 0 (by decide) (ht _ tw_40) (fun _ h9 => h9) rfl hin rfl (by decide +kernel) rfl rfl (Nat.le_of_ble_eq_true rfl) dX2_init_24 (fun H locs hP hD hS => ?_)
  have hP : va_P (dC, dI) vwCl [(a0_, .inr (6, [.ref a1_, .null, .ref q1, .ref q2, .int 0])), (q1, .inl (cI, 420, .inl (fun _ => 0))), (q2, .inl (cI, 420, .inl (fun _ => 0)))] H := hP
  have hD : va_D A [(a0_, .inr (6, [.ref a1_, .null, .ref q1, .ref q2, .int 0])), (q1, .inl (cI, 420, .inl (fun _ => 0))), (q2, .inl (cI, 420, .inl (fun _ => 0)))] := hD
  refine lv_aload_n hx hb dX2_init_27 rfl (lv_at hl 0 rfl) ?_
  refine lv_aload_n hx hb dX2_init_28 rfl (lv_at hl 2 rfl) ?_
  refine va_putF (D := (dC, dI)) (ci := 6) (v := .ref a2_) (ty := .object "PocketCompiler$Builder") (C := RX2) (T := TX2) (N := 5) hx hb ht itX2 tyX2 tyX2_ok nmX2 hown hK hP hD hS 0 rfl rfl 1 (by decide) (ht _ tw_41) (fun _ h9 => h9) rfl hin rfl (by decide +kernel) rfl rfl (Nat.le_of_ble_eq_true rfl) dX2_init_29 (fun H locs hP hD hS => ?_)
  have hP : va_P (dC, dI) vwCl [(a0_, .inr (6, [.ref a1_, .ref a2_, .ref q1, .ref q2, .int 0])), (q1, .inl (cI, 420, .inl (fun _ => 0))), (q2, .inl (cI, 420, .inl (fun _ => 0)))] H := hP
  have hD : va_D A [(a0_, .inr (6, [.ref a1_, .ref a2_, .ref q1, .ref q2, .int 0])), (q1, .inl (cI, 420, .inl (fun _ => 0))), (q2, .inl (cI, 420, .inl (fun _ => 0)))] := hD
  have hP9 := hP.sub (ws' := [(a0_, .inr (6, [.ref a1_, .ref a2_, .ref q1, .ref q2, .int 0]))]) [0] rfl
  have hD9 := hD.sub (ws' := [(a0_, .inr (6, [.ref a1_, .ref a2_, .ref q1, .ref q2, .int 0]))]) [0] (by decide) rfl
  refine W.widen (k := 2) (n := 840) (by omega) (by omega) ?_
  exact W.vret hx hb hr (fun t ht9 hW => ⟨⟨(q1, q2), rfl, trivial, by rw [ht9]; exact hP9, hD9⟩, hS.F ht9⟩) hS.2.2 dX2_init_32
set_option maxHeartbeats 4000000 in
set_option maxRecDepth 100000 in
theorem c_X9_init (l : Launch) (dC : Nat → ClassId) (dI : Nat → Nat → Nat) (cI cB cZ cJ cR : ClassId) (tb : Nat → Nat) (sz : Nat) (a0_ : Nat) (a1_ : Nat)  : Met l yX9_init (Cond.code yX9_init cX9_init 2 none :: tw_W) ({ frames := 1, cells := 3, slots := 4509, locals := 12 }) (pc_ (dC, dI) (tyS cI cB cZ cJ cR) tb [(a0_, .inr (12, [.null, .null, .null, .null, .int 0, .int 0, .int 0, .int 0, .int 0, .int 0]))] sz [.ref a0_, .ref a1_]) (qv_ (dC, dI) [(a0_, .inr (12, [.null, .null, .null, .null, .int 0, .int 0, .int 0, .int 0, .int 0, .int 0]))] sz (fun (u : Nat × Nat × Nat) => True) (fun (u : Nat × Nat × Nat) => [(a0_, .inr (12, [.ref a1_, .ref u.1, .ref u.2.1, .ref u.2.2, .int 0, .int 0, .int 0, .int 0, .int 0, .int 0])), (u.1, .inl (cI, 1503, .inl (fun _ => 0))), (u.2.1, .inl (cI, 1503, .inl (fun _ => 0))), (u.2.2, .inl (cI, 1503, .inl (fun _ => 0)))])) 3 4509 (va_A [(a0_, .inr (12, [.null, .null, .null, .null, .int 0, .int 0, .int 0, .int 0, .int 0, .int 0]))] sz) := by
  refine Met.ofW (cc := cX9_init) (maxL := 2) (ret := none) (by decide) rfl ?_
  intro p e s m args below meth c s₁ B hml hv
  obtain ⟨rfl, hsz, hP, hKK, hD0, hFx⟩ := hv
  have hK := hKK.1
  have hx := B.exec
  have hb := B.bytes
  have hr := B.returns
  have ht : ∀ w ∈ tw_W, w.before _ s = true := fun w h => atoms_spec (ws := Cond.code yX9_init cX9_init 2 none :: tw_W) B.pre w (List.mem_cons_of_mem _ h)
  have hown : s.vm.findClass RX9 = some m.cls := findClass_of_methodNamed B.named
  have hlocks := B.notSynchronized
  have hin : meth.name = "<init>" := (name_of_methodNamed B.named B.method).1
  subst hsz
  unfold qv_
  have hD := hD0.self (sz := s.heap.size)
  generalize hAe : va_A [(a0_, .inr (12, [.null, .null, .null, .null, .int 0, .int 0, .int 0, .int 0, .int 0, .int 0]))] s.heap.size = A at hD hFx ⊢
  have hA : ∀ q : Nat, s.heap.size ≤ q → A q := fun q h => by rw [← hAe]; exact Or.inr h
  have hS : va_S A s.heap s.heap [] := va_S.rf
  have hP : va_P (dC, dI) vwCl [(a0_, .inr (12, [.null, .null, .null, .null, .int 0, .int 0, .int 0, .int 0, .int 0, .int 0]))] s.heap := hP
  have hl := lv_entry ([.ref a0_, .ref a1_]) (n := 2) (Nat.le_of_ble_eq_true rfl)
  rw [lg_entry_eq]
  generalize (lg_sl ([.ref a0_, .ref a1_]) ++ List.replicate (2 - (lg_sl ([.ref a0_, .ref a1_])).length) Slot.unset).toArray = ls at hl ⊢
  have hl : lv_has ls 2 [(0, .ref a0_), (1, .ref a1_)] := hl
  refine lv_aload_n hx hb dX9_init_0 rfl (lv_at hl 0 rfl) ?_
  refine W.objInit hx hb hown (ht _ tw_47) (ht _ tw_1) (ht _ tw_2) rfl (by rw [hml]; exact hl.1) rfl dX9_init_1 (Nat.le_of_ble_eq_true rfl) (Nat.le_of_ble_eq_true rfl) ?_
  refine W.eq (g2 := F0 m 4 ls []) rfl ?_
  refine lv_aload_n hx hb dX9_init_4 rfl (lv_at hl 0 rfl) ?_
  refine lv_sipush (v := 1503) hx hb dX9_init_5 (by decide) ?_
  refine va_newE (atype := .int) (ty := .int) (a0 := (1503, .inl (fun _ => 0))) (cE := cI) hx hb (ht _ tw_3) rfl hK hP hD hS hA 0 rfl (fun _ => rfl) (by decide) (by decide) (by decide) (Nat.le_of_ble_eq_true rfl) (Nat.le_of_ble_eq_true rfl) dX9_init_8 (fun q1 H hP hD hS => ?_)
  have hP : va_P (dC, dI) vwCl [(a0_, .inr (12, [.null, .null, .null, .null, .int 0, .int 0, .int 0, .int 0, .int 0, .int 0])), (q1, .inl (cI, 1503, .inl (fun _ => 0)))] H := hP
  have hD : va_D A [(a0_, .inr (12, [.null, .null, .null, .null, .int 0, .int 0, .int 0, .int 0, .int 0, .int 0])), (q1, .inl (cI, 1503, .inl (fun _ => 0)))] := hD
  refine W.widen (k := 1) (n := 1503) (by omega) (by omega) ?_
  refine va_putF (D := (dC, dI)) (ci := 12) (v := .ref q1) (ty := .array .int) (C := RX9) (T := TX9) (N := 10) hx hb ht itX9 tyX9 tyX9_ok nmX9 hown hK hP hD hS 0 rfl rfl 1 (by decide) (ht _ tw_48) (fun _ h9 => h9) rfl hin rfl (by decide +kernel) rfl rfl (Nat.le_of_ble_eq_true rfl) dX9_init_10 (fun H locs hP hD hS => ?_)
  have hP : va_P (dC, dI) vwCl [(a0_, .inr (12, [.null, .ref q1, .null, .null, .int 0, .int 0, .int 0, .int 0, .int 0, .int 0])), (q1, .inl (cI, 1503, .inl (fun _ => 0)))] H := hP
  have hD : va_D A [(a0_, .inr (12, [.null, .ref q1, .null, .null, .int 0, .int 0, .int 0, .int 0, .int 0, .int 0])), (q1, .inl (cI, 1503, .inl (fun _ => 0)))] := hD
  refine lv_aload_n hx hb dX9_init_13 rfl (lv_at hl 0 rfl) ?_
  refine lv_sipush (v := 1503) hx hb dX9_init_14 (by decide) ?_
  refine va_newE (atype := .int) (ty := .int) (a0 := (1503, .inl (fun _ => 0))) (cE := cI) hx hb (ht _ tw_3) rfl hK hP hD hS hA 0 rfl (fun _ => rfl) (by decide) (by decide) (by decide) (Nat.le_of_ble_eq_true rfl) (Nat.le_of_ble_eq_true rfl) dX9_init_17 (fun q2 H hP hD hS => ?_)
  have hP : va_P (dC, dI) vwCl [(a0_, .inr (12, [.null, .ref q1, .null, .null, .int 0, .int 0, .int 0, .int 0, .int 0, .int 0])), (q1, .inl (cI, 1503, .inl (fun _ => 0))), (q2, .inl (cI, 1503, .inl (fun _ => 0)))] H := hP
  have hD : va_D A [(a0_, .inr (12, [.null, .ref q1, .null, .null, .int 0, .int 0, .int 0, .int 0, .int 0, .int 0])), (q1, .inl (cI, 1503, .inl (fun _ => 0))), (q2, .inl (cI, 1503, .inl (fun _ => 0)))] := hD
  refine W.widen (k := 2) (n := 3006) (by omega) (by omega) ?_
  refine va_putF (D := (dC, dI)) (ci := 12) (v := .ref q2) (ty := .array .int) (C := RX9) (T := TX9) (N := 10) hx hb ht itX9 tyX9 tyX9_ok nmX9 hown hK hP hD hS 0 rfl rfl 2 (by decide) (ht _ tw_49) (fun _ h9 => h9) rfl hin rfl (by decide +kernel) rfl rfl (Nat.le_of_ble_eq_true rfl) dX9_init_19 (fun H locs hP hD hS => ?_)
  have hP : va_P (dC, dI) vwCl [(a0_, .inr (12, [.null, .ref q1, .ref q2, .null, .int 0, .int 0, .int 0, .int 0, .int 0, .int 0])), (q1, .inl (cI, 1503, .inl (fun _ => 0))), (q2, .inl (cI, 1503, .inl (fun _ => 0)))] H := hP
  have hD : va_D A [(a0_, .inr (12, [.null, .ref q1, .ref q2, .null, .int 0, .int 0, .int 0, .int 0, .int 0, .int 0])), (q1, .inl (cI, 1503, .inl (fun _ => 0))), (q2, .inl (cI, 1503, .inl (fun _ => 0)))] := hD
  refine lv_aload_n hx hb dX9_init_22 rfl (lv_at hl 0 rfl) ?_
  refine lv_sipush (v := 1503) hx hb dX9_init_23 (by decide) ?_
  refine va_newE (atype := .int) (ty := .int) (a0 := (1503, .inl (fun _ => 0))) (cE := cI) hx hb (ht _ tw_3) rfl hK hP hD hS hA 0 rfl (fun _ => rfl) (by decide) (by decide) (by decide) (Nat.le_of_ble_eq_true rfl) (Nat.le_of_ble_eq_true rfl) dX9_init_26 (fun q3 H hP hD hS => ?_)
  have hP : va_P (dC, dI) vwCl [(a0_, .inr (12, [.null, .ref q1, .ref q2, .null, .int 0, .int 0, .int 0, .int 0, .int 0, .int 0])), (q1, .inl (cI, 1503, .inl (fun _ => 0))), (q2, .inl (cI, 1503, .inl (fun _ => 0))), (q3, .inl (cI, 1503, .inl (fun _ => 0)))] H := hP
  have hD : va_D A [(a0_, .inr (12, [.null, .ref q1, .ref q2, .null, .int 0, .int 0, .int 0, .int 0, .int 0, .int 0])), (q1, .inl (cI, 1503, .inl (fun _ => 0))), (q2, .inl (cI, 1503, .inl (fun _ => 0))), (q3, .inl (cI, 1503, .inl (fun _ => 0)))] := hD
  refine W.widen (k := 3) (n := 4509) (by omega) (by omega) ?_
  refine va_putF (D := (dC, dI)) (ci := 12) (v := .ref q3) (ty := .array .int) (C := RX9) (T := TX9) (N := 10) hx hb ht itX9 tyX9 tyX9_ok nmX9 hown hK hP hD hS 0 rfl rfl 3 (by decide) (ht _ tw_50) (fun _ h9 => h9) rfl hin rfl (by decide +kernel) rfl rfl (Nat.le_of_ble_eq_true rfl) dX9_init_28 (fun H locs hP hD hS => ?_)
  have hP : va_P (dC, dI) vwCl [(a0_, .inr (12, [.null, .ref q1, .ref q2, .ref q3, .int 0, .int 0, .int 0, .int 0, .int 0, .int 0])), (q1, .inl (cI, 1503, .inl (fun _ => 0))), (q2, .inl (cI, 1503, .inl (fun _ => 0))), (q3, .inl (cI, 1503, .inl (fun _ => 0)))] H := hP
  have hD : va_D A [(a0_, .inr (12, [.null, .ref q1, .ref q2, .ref q3, .int 0, .int 0, .int 0, .int 0, .int 0, .int 0])), (q1, .inl (cI, 1503, .inl (fun _ => 0))), (q2, .inl (cI, 1503, .inl (fun _ => 0))), (q3, .inl (cI, 1503, .inl (fun _ => 0)))] := hD
  refine lv_aload_n hx hb dX9_init_31 rfl (lv_at hl 0 rfl) ?_
  refine lv_aload_n hx hb dX9_init_32 rfl (lv_at hl 1 rfl) ?_
  refine va_put (D := (dC, dI)) (ci := 12) (v := .ref a1_) (ty := .object "PocketCompiler$Program") (C := RX9) (T := TX9) (N := 10) hx hb ht itX9 tyX9 tyX9_ok nmX9 hown hK hP hD hS 0 rfl rfl 0 (by decide) (ht _ tw_51) (fun _ h9 => h9) rfl (by decide +kernel) rfl rfl (Nat.le_of_ble_eq_true rfl) dX9_init_33 (fun H locs hP hD hS => ?_)
  have hP : va_P (dC, dI) vwCl [(a0_, .inr (12, [.ref a1_, .ref q1, .ref q2, .ref q3, .int 0, .int 0, .int 0, .int 0, .int 0, .int 0])), (q1, .inl (cI, 1503, .inl (fun _ => 0))), (q2, .inl (cI, 1503, .inl (fun _ => 0))), (q3, .inl (cI, 1503, .inl (fun _ => 0)))] H := hP
  have hD : va_D A [(a0_, .inr (12, [.ref a1_, .ref q1, .ref q2, .ref q3, .int 0, .int 0, .int 0, .int 0, .int 0, .int 0])), (q1, .inl (cI, 1503, .inl (fun _ => 0))), (q2, .inl (cI, 1503, .inl (fun _ => 0))), (q3, .inl (cI, 1503, .inl (fun _ => 0)))] := hD
  have hP9 := hP.sub (ws' := [(a0_, .inr (12, [.ref a1_, .ref q1, .ref q2, .ref q3, .int 0, .int 0, .int 0, .int 0, .int 0, .int 0])), (q1, .inl (cI, 1503, .inl (fun _ => 0))), (q2, .inl (cI, 1503, .inl (fun _ => 0))), (q3, .inl (cI, 1503, .inl (fun _ => 0)))]) [0, 1, 2, 3] rfl
  have hD9 := hD.sub (ws' := [(a0_, .inr (12, [.ref a1_, .ref q1, .ref q2, .ref q3, .int 0, .int 0, .int 0, .int 0, .int 0, .int 0])), (q1, .inl (cI, 1503, .inl (fun _ => 0))), (q2, .inl (cI, 1503, .inl (fun _ => 0))), (q3, .inl (cI, 1503, .inl (fun _ => 0)))]) [0, 1, 2, 3] (by decide) rfl
  refine W.widen (k := 3) (n := 4509) (by omega) (by omega) ?_
  exact W.vret hx hb hr (fun t ht9 hW => ⟨⟨(q1, q2, q3), rfl, trivial, by rw [ht9]; exact hP9, hD9⟩, hS.F ht9⟩) hS.2.2 dX9_init_36
set_option maxHeartbeats 4000000 in
set_option maxRecDepth 100000 in
/-- Parser -/
theorem c_X5_init (l : Launch) (dC : Nat → ClassId) (dI : Nat → Nat → Nat) (cI cB cZ cJ cR : ClassId) (tb : Nat → Nat) (sz : Nat) (a0_ : Nat) (a1_ : Nat)  : Met l yX5_init (Cond.code yX5_init cX5_init 2 none :: tw_W) ({ frames := 2, cells := 13, slots := 8879, locals := 34 }) (pc_ (dC, dI) (tyS cI cB cZ cJ cR) tb [(a0_, .inr (8, [.null, .null, .null, .null, .int 0, .int 0, .int 0]))] sz [.ref a0_, .ref a1_]) (qv_ (dC, dI) [(a0_, .inr (8, [.null, .null, .null, .null, .int 0, .int 0, .int 0]))] sz (fun (u : Nat × Nat × Nat × Nat × Nat × Nat × Nat × Nat × Nat × Nat × Nat × Nat × Nat) => True) (fun (u : Nat × Nat × Nat × Nat × Nat × Nat × Nat × Nat × Nat × Nat × Nat × Nat × Nat) => [(a0_, .inr (8, [.ref a1_, .ref u.1, .ref u.2.1, .ref u.2.2.1, .int 0, .int 0, .int 0])), (u.1, .inr (12, [.ref a1_, .ref u.2.2.2.1, .ref u.2.2.2.2.1, .ref u.2.2.2.2.2.1, .int 0, .int 0, .int 0, .int 0, .int 0, .int 0])), (u.2.2.2.1, .inl (cI, 1503, .inl (fun _ => 0))), (u.2.2.2.2.1, .inl (cI, 1503, .inl (fun _ => 0))), (u.2.2.2.2.2.1, .inl (cI, 1503, .inl (fun _ => 0))), (u.2.1, .inr (5, [.ref a1_, .ref u.2.2.2.2.2.2.1, .int 0, .int 0, .int 0, .int 0, .ref u.2.2.2.2.2.2.2.1, .int 0, .ref u.2.2.2.2.2.2.2.2.1, .ref u.2.2.2.2.2.2.2.2.2.1, .ref u.2.2.2.2.2.2.2.2.2.2.1, .int 0])), (u.2.2.1, .inr (6, [.ref u.1, .ref u.2.1, .ref u.2.2.2.2.2.2.2.2.2.2.2.1, .ref u.2.2.2.2.2.2.2.2.2.2.2.2, .int 0]))])) 13 8879 (va_A [(a0_, .inr (8, [.null, .null, .null, .null, .int 0, .int 0, .int 0]))] sz) := by
  refine Met.ofW (cc := cX5_init) (maxL := 2) (ret := none) (by decide) rfl ?_
  intro p e s m args below meth c s₁ B hml hv
  obtain ⟨rfl, hsz, hP, hKK, hD0, hFx⟩ := hv
  have hK := hKK.1
  have hx := B.exec
  have hb := B.bytes
  have hr := B.returns
  have ht : ∀ w ∈ tw_W, w.before _ s = true := fun w h => atoms_spec (ws := Cond.code yX5_init cX5_init 2 none :: tw_W) B.pre w (List.mem_cons_of_mem _ h)
  have hown : s.vm.findClass RX5 = some m.cls := findClass_of_methodNamed B.named
  have hlocks := B.notSynchronized
  have hin : meth.name = "<init>" := (name_of_methodNamed B.named B.method).1
  subst hsz
  unfold qv_
  have hD := hD0.self (sz := s.heap.size)
  generalize hAe : va_A [(a0_, .inr (8, [.null, .null, .null, .null, .int 0, .int 0, .int 0]))] s.heap.size = A at hD hFx ⊢
  have hA : ∀ q : Nat, s.heap.size ≤ q → A q := fun q h => by rw [← hAe]; exact Or.inr h
  have hS : va_S A s.heap s.heap [] := va_S.rf
  have hP : va_P (dC, dI) vwCl [(a0_, .inr (8, [.null, .null, .null, .null, .int 0, .int 0, .int 0]))] s.heap := hP
  have hl := lv_entry ([.ref a0_, .ref a1_]) (n := 2) (Nat.le_of_ble_eq_true rfl)
  rw [lg_entry_eq]
  generalize (lg_sl ([.ref a0_, .ref a1_]) ++ List.replicate (2 - (lg_sl ([.ref a0_, .ref a1_])).length) Slot.unset).toArray = ls at hl ⊢
  have hl : lv_has ls 2 [(0, .ref a0_), (1, .ref a1_)] := hl
  refine lv_aload_n hx hb dX5_init_0 rfl (lv_at hl 0 rfl) ?_
  refine W.objInit hx hb hown (ht _ tw_42) (ht _ tw_1) (ht _ tw_2) rfl (by rw [hml]; exact hl.1) rfl dX5_init_1 (Nat.le_of_ble_eq_true rfl) (Nat.le_of_ble_eq_true rfl) ?_
  refine W.eq (g2 := F0 m 4 ls []) rfl ?_
  refine lv_aload_n hx hb dX5_init_4 rfl (lv_at hl 0 rfl) ?_
  refine lv_aload_n hx hb dX5_init_5 rfl (lv_at hl 1 rfl) ?_
  refine va_put (D := (dC, dI)) (ci := 8) (v := .ref a1_) (ty := .object "PocketCompiler$Program") (C := RX5) (T := TX5) (N := 7) hx hb ht itX5 tyX5 tyX5_ok nmX5 hown hK hP hD hS 0 rfl rfl 0 (by decide) (ht _ tw_43) (fun _ h9 => h9) rfl (by decide +kernel) rfl rfl (Nat.le_of_ble_eq_true rfl) dX5_init_6 (fun H locs hP hD hS => ?_)
  have hP : va_P (dC, dI) vwCl [(a0_, .inr (8, [.ref a1_, .null, .null, .null, .int 0, .int 0, .int 0]))] H := hP
  have hD : va_D A [(a0_, .inr (8, [.ref a1_, .null, .null, .null, .int 0, .int 0, .int 0]))] := hD
  refine lv_aload_n hx hb dX5_init_9 rfl (lv_at hl 0 rfl) ?_
  refine va_new (ci := 12) (fs := [.null, .null, .null, .null, .int 0, .int 0, .int 0, .int 0, .int 0, .int 0]) (C := RX9) (T := TX9) (N := 10) hx hb ht itX9 tyX9 tyX9_ok hown (ht _ tw_44) (ht _ tw_45) (ht _ tw_46) hK hP hD hS hA rfl (by decide +kernel) (Nat.le_of_ble_eq_true rfl) (Nat.le_of_ble_eq_true rfl) dX5_init_10 (fun q1 H hP hD hS => ?_)
  have hP : va_P (dC, dI) vwCl [(a0_, .inr (8, [.ref a1_, .null, .null, .null, .int 0, .int 0, .int 0])), (q1, .inr (12, [.null, .null, .null, .null, .int 0, .int 0, .int 0, .int 0, .int 0, .int 0]))] H := hP
  have hD : va_D A [(a0_, .inr (8, [.ref a1_, .null, .null, .null, .int 0, .int 0, .int 0])), (q1, .inr (12, [.null, .null, .null, .null, .int 0, .int 0, .int 0, .int 0, .int 0, .int 0]))] := hD
  refine W.widen (k := 1) (n := 10) (by omega) (by omega) ?_
  refine lv_dup hx hb dX5_init_13 rfl ?_
  refine lv_aload_n hx hb dX5_init_14 rfl (lv_at hl 1 rfl) ?_
  refine ca_v (wr := [(a0_, .inr (8, [.ref a1_, .null, .null, .null, .int 0, .int 0, .int 0]))]) (rn_I (n := 1) (As := [.ref a1_]) (rest := [.ref q1, .ref a0_]) hx hb hml hown ht hKK hFx hP hD hS hA (c_X9_init l dC dI cI cB cZ cJ cR tb H.size q1 a1_) tw_52 tw_53 tw_54 tw_55 rfl (by decide +kernel) rfl rfl ⟨Nat.le_of_ble_eq_true rfl, Nat.le_of_ble_eq_true rfl⟩ [1] rfl (by decide) rfl hl.1 rfl (Nat.le_of_ble_eq_true rfl) dX5_init_15 ⟨Nat.le_of_ble_eq_true rfl, Nat.le_of_ble_eq_true rfl⟩) hP hD hS hA (isC := [1]) (isR := [0]) rfl rfl (by decide) (by decide) (fun u H locs hw2 hP hD hS => ?_)
  obtain ⟨q3, q4, q5⟩ := u
  have hP : va_P (dC, dI) vwCl [(a0_, .inr (8, [.ref a1_, .null, .null, .null, .int 0, .int 0, .int 0])), (q1, .inr (12, [.ref a1_, .ref q3, .ref q4, .ref q5, .int 0, .int 0, .int 0, .int 0, .int 0, .int 0])), (q3, .inl (cI, 1503, .inl (fun _ => 0))), (q4, .inl (cI, 1503, .inl (fun _ => 0))), (q5, .inl (cI, 1503, .inl (fun _ => 0)))] H := hP
  have hD : va_D A [(a0_, .inr (8, [.ref a1_, .null, .null, .null, .int 0, .int 0, .int 0])), (q1, .inr (12, [.ref a1_, .ref q3, .ref q4, .ref q5, .int 0, .int 0, .int 0, .int 0, .int 0, .int 0])), (q3, .inl (cI, 1503, .inl (fun _ => 0))), (q4, .inl (cI, 1503, .inl (fun _ => 0))), (q5, .inl (cI, 1503, .inl (fun _ => 0)))] := hD
  refine W.widen (k := 4) (n := 4519) (by omega) (by omega) ?_
  refine va_putF (D := (dC, dI)) (ci := 8) (v := .ref q1) (ty := .object "PocketCompiler$Tokens") (C := RX5) (T := TX5) (N := 7) hx hb ht itX5 tyX5 tyX5_ok nmX5 hown hK hP hD hS 0 rfl rfl 1 (by decide) (ht _ tw_56) (fun _ h9 => h9) rfl hin rfl (by decide +kernel) rfl rfl (Nat.le_of_ble_eq_true rfl) dX5_init_18 (fun H locs hP hD hS => ?_)
  have hP : va_P (dC, dI) vwCl [(a0_, .inr (8, [.ref a1_, .ref q1, .null, .null, .int 0, .int 0, .int 0])), (q1, .inr (12, [.ref a1_, .ref q3, .ref q4, .ref q5, .int 0, .int 0, .int 0, .int 0, .int 0, .int 0])), (q3, .inl (cI, 1503, .inl (fun _ => 0))), (q4, .inl (cI, 1503, .inl (fun _ => 0))), (q5, .inl (cI, 1503, .inl (fun _ => 0)))] H := hP
  have hD : va_D A [(a0_, .inr (8, [.ref a1_, .ref q1, .null, .null, .int 0, .int 0, .int 0])), (q1, .inr (12, [.ref a1_, .ref q3, .ref q4, .ref q5, .int 0, .int 0, .int 0, .int 0, .int 0, .int 0])), (q3, .inl (cI, 1503, .inl (fun _ => 0))), (q4, .inl (cI, 1503, .inl (fun _ => 0))), (q5, .inl (cI, 1503, .inl (fun _ => 0)))] := hD
  refine lv_aload_n hx hb dX5_init_21 rfl (lv_at hl 0 rfl) ?_
  refine va_new (ci := 5) (fs := [.null, .null, .int 0, .int 0, .int 0, .int 0, .null, .int 0, .null, .null, .null, .int 0]) (C := RX1) (T := TX1) (N := 12) hx hb ht itX1 tyX1 tyX1_ok hown (ht _ tw_57) (ht _ tw_58) (ht _ tw_59) hK hP hD hS hA rfl (by decide +kernel) (Nat.le_of_ble_eq_true rfl) (Nat.le_of_ble_eq_true rfl) dX5_init_22 (fun q6 H hP hD hS => ?_)
  have hP : va_P (dC, dI) vwCl [(a0_, .inr (8, [.ref a1_, .ref q1, .null, .null, .int 0, .int 0, .int 0])), (q1, .inr (12, [.ref a1_, .ref q3, .ref q4, .ref q5, .int 0, .int 0, .int 0, .int 0, .int 0, .int 0])), (q3, .inl (cI, 1503, .inl (fun _ => 0))), (q4, .inl (cI, 1503, .inl (fun _ => 0))), (q5, .inl (cI, 1503, .inl (fun _ => 0))), (q6, .inr (5, [.null, .null, .int 0, .int 0, .int 0, .int 0, .null, .int 0, .null, .null, .null, .int 0]))] H := hP
  have hD : va_D A [(a0_, .inr (8, [.ref a1_, .ref q1, .null, .null, .int 0, .int 0, .int 0])), (q1, .inr (12, [.ref a1_, .ref q3, .ref q4, .ref q5, .int 0, .int 0, .int 0, .int 0, .int 0, .int 0])), (q3, .inl (cI, 1503, .inl (fun _ => 0))), (q4, .inl (cI, 1503, .inl (fun _ => 0))), (q5, .inl (cI, 1503, .inl (fun _ => 0))), (q6, .inr (5, [.null, .null, .int 0, .int 0, .int 0, .int 0, .null, .int 0, .null, .null, .null, .int 0]))] := hD
  refine W.widen (k := 5) (n := 4531) (by omega) (by omega) ?_
  refine lv_dup hx hb dX5_init_25 rfl ?_
  refine lv_aload_n hx hb dX5_init_26 rfl (lv_at hl 1 rfl) ?_
  refine ca_v (wr := [(a0_, .inr (8, [.ref a1_, .ref q1, .null, .null, .int 0, .int 0, .int 0])), (q1, .inr (12, [.ref a1_, .ref q3, .ref q4, .ref q5, .int 0, .int 0, .int 0, .int 0, .int 0, .int 0])), (q3, .inl (cI, 1503, .inl (fun _ => 0))), (q4, .inl (cI, 1503, .inl (fun _ => 0))), (q5, .inl (cI, 1503, .inl (fun _ => 0)))]) (rn_I (n := 1) (As := [.ref a1_]) (rest := [.ref q6, .ref a0_]) hx hb hml hown ht hKK hFx hP hD hS hA (c_X1_init l dC dI cI cB cZ cJ cR tb H.size q6 a1_) tw_60 tw_61 tw_62 tw_63 rfl (by decide +kernel) rfl rfl ⟨Nat.le_of_ble_eq_true rfl, Nat.le_of_ble_eq_true rfl⟩ [5] rfl (by decide) rfl hl.1 rfl (Nat.le_of_ble_eq_true rfl) dX5_init_27 ⟨Nat.le_of_ble_eq_true rfl, Nat.le_of_ble_eq_true rfl⟩) hP hD hS hA (isC := [5]) (isR := [0, 1, 2, 3, 4]) rfl rfl (by decide) (by decide) (fun u H locs hw7 hP hD hS => ?_)
  obtain ⟨q8, q9, q10, q11, q12⟩ := u
  have hP : va_P (dC, dI) vwCl [(a0_, .inr (8, [.ref a1_, .ref q1, .null, .null, .int 0, .int 0, .int 0])), (q1, .inr (12, [.ref a1_, .ref q3, .ref q4, .ref q5, .int 0, .int 0, .int 0, .int 0, .int 0, .int 0])), (q3, .inl (cI, 1503, .inl (fun _ => 0))), (q4, .inl (cI, 1503, .inl (fun _ => 0))), (q5, .inl (cI, 1503, .inl (fun _ => 0))), (q6, .inr (5, [.ref a1_, .ref q8, .int 0, .int 0, .int 0, .int 0, .ref q9, .int 0, .ref q10, .ref q11, .ref q12, .int 0]))] H := hP
  have hD : va_D A [(a0_, .inr (8, [.ref a1_, .ref q1, .null, .null, .int 0, .int 0, .int 0])), (q1, .inr (12, [.ref a1_, .ref q3, .ref q4, .ref q5, .int 0, .int 0, .int 0, .int 0, .int 0, .int 0])), (q3, .inl (cI, 1503, .inl (fun _ => 0))), (q4, .inl (cI, 1503, .inl (fun _ => 0))), (q5, .inl (cI, 1503, .inl (fun _ => 0))), (q6, .inr (5, [.ref a1_, .ref q8, .int 0, .int 0, .int 0, .int 0, .ref q9, .int 0, .ref q10, .ref q11, .ref q12, .int 0]))] := hD
  refine W.widen (k := 10) (n := 8034) (by omega) (by omega) ?_
  refine va_putF (D := (dC, dI)) (ci := 8) (v := .ref q6) (ty := .object "PocketCompiler$Builder") (C := RX5) (T := TX5) (N := 7) hx hb ht itX5 tyX5 tyX5_ok nmX5 hown hK hP hD hS 0 rfl rfl 2 (by decide) (ht _ tw_64) (fun _ h9 => h9) rfl hin rfl (by decide +kernel) rfl rfl (Nat.le_of_ble_eq_true rfl) dX5_init_30 (fun H locs hP hD hS => ?_)
  have hP : va_P (dC, dI) vwCl [(a0_, .inr (8, [.ref a1_, .ref q1, .ref q6, .null, .int 0, .int 0, .int 0])), (q1, .inr (12, [.ref a1_, .ref q3, .ref q4, .ref q5, .int 0, .int 0, .int 0, .int 0, .int 0, .int 0])), (q3, .inl (cI, 1503, .inl (fun _ => 0))), (q4, .inl (cI, 1503, .inl (fun _ => 0))), (q5, .inl (cI, 1503, .inl (fun _ => 0))), (q6, .inr (5, [.ref a1_, .ref q8, .int 0, .int 0, .int 0, .int 0, .ref q9, .int 0, .ref q10, .ref q11, .ref q12, .int 0]))] H := hP
  have hD : va_D A [(a0_, .inr (8, [.ref a1_, .ref q1, .ref q6, .null, .int 0, .int 0, .int 0])), (q1, .inr (12, [.ref a1_, .ref q3, .ref q4, .ref q5, .int 0, .int 0, .int 0, .int 0, .int 0, .int 0])), (q3, .inl (cI, 1503, .inl (fun _ => 0))), (q4, .inl (cI, 1503, .inl (fun _ => 0))), (q5, .inl (cI, 1503, .inl (fun _ => 0))), (q6, .inr (5, [.ref a1_, .ref q8, .int 0, .int 0, .int 0, .int 0, .ref q9, .int 0, .ref q10, .ref q11, .ref q12, .int 0]))] := hD
  refine lv_aload_n hx hb dX5_init_33 rfl (lv_at hl 0 rfl) ?_
  refine va_new (ci := 6) (fs := [.null, .null, .null, .null, .int 0]) (C := RX2) (T := TX2) (N := 5) hx hb ht itX2 tyX2 tyX2_ok hown (ht _ tw_65) (ht _ tw_66) (ht _ tw_67) hK hP hD hS hA rfl (by decide +kernel) (Nat.le_of_ble_eq_true rfl) (Nat.le_of_ble_eq_true rfl) dX5_init_34 (fun q13 H hP hD hS => ?_)
  have hP : va_P (dC, dI) vwCl [(a0_, .inr (8, [.ref a1_, .ref q1, .ref q6, .null, .int 0, .int 0, .int 0])), (q1, .inr (12, [.ref a1_, .ref q3, .ref q4, .ref q5, .int 0, .int 0, .int 0, .int 0, .int 0, .int 0])), (q3, .inl (cI, 1503, .inl (fun _ => 0))), (q4, .inl (cI, 1503, .inl (fun _ => 0))), (q5, .inl (cI, 1503, .inl (fun _ => 0))), (q6, .inr (5, [.ref a1_, .ref q8, .int 0, .int 0, .int 0, .int 0, .ref q9, .int 0, .ref q10, .ref q11, .ref q12, .int 0])), (q13, .inr (6, [.null, .null, .null, .null, .int 0]))] H := hP
  have hD : va_D A [(a0_, .inr (8, [.ref a1_, .ref q1, .ref q6, .null, .int 0, .int 0, .int 0])), (q1, .inr (12, [.ref a1_, .ref q3, .ref q4, .ref q5, .int 0, .int 0, .int 0, .int 0, .int 0, .int 0])), (q3, .inl (cI, 1503, .inl (fun _ => 0))), (q4, .inl (cI, 1503, .inl (fun _ => 0))), (q5, .inl (cI, 1503, .inl (fun _ => 0))), (q6, .inr (5, [.ref a1_, .ref q8, .int 0, .int 0, .int 0, .int 0, .ref q9, .int 0, .ref q10, .ref q11, .ref q12, .int 0])), (q13, .inr (6, [.null, .null, .null, .null, .int 0]))] := hD
  refine W.widen (k := 11) (n := 8039) (by omega) (by omega) ?_
  refine lv_dup hx hb dX5_init_37 rfl ?_
  refine lv_aload_n hx hb dX5_init_38 rfl (lv_at hl 0 rfl) ?_
  refine va_get (D := (dC, dI)) (ci := 8) (v := .ref q1) (C := RX5) (T := TX5) (N := 7) hx hb ht itX5 hown hK hP 0 rfl rfl 1 (by decide) (ht _ tw_56) (fun _ h9 => h9) rfl dX5_init_39 ?_
  refine lv_aload_n hx hb dX5_init_42 rfl (lv_at hl 0 rfl) ?_
  refine va_get (D := (dC, dI)) (ci := 8) (v := .ref q6) (C := RX5) (T := TX5) (N := 7) hx hb ht itX5 hown hK hP 0 rfl rfl 2 (by decide) (ht _ tw_64) (fun _ h9 => h9) rfl dX5_init_43 ?_
  refine ca_v (wr := [(a0_, .inr (8, [.ref a1_, .ref q1, .ref q6, .null, .int 0, .int 0, .int 0])), (q1, .inr (12, [.ref a1_, .ref q3, .ref q4, .ref q5, .int 0, .int 0, .int 0, .int 0, .int 0, .int 0])), (q3, .inl (cI, 1503, .inl (fun _ => 0))), (q4, .inl (cI, 1503, .inl (fun _ => 0))), (q5, .inl (cI, 1503, .inl (fun _ => 0))), (q6, .inr (5, [.ref a1_, .ref q8, .int 0, .int 0, .int 0, .int 0, .ref q9, .int 0, .ref q10, .ref q11, .ref q12, .int 0]))]) (rn_I (n := 2) (As := [.ref q1, .ref q6]) (rest := [.ref q13, .ref a0_]) hx hb hml hown ht hKK hFx hP hD hS hA (c_X2_init l dC dI cI cB cZ cJ cR tb H.size q13 q1 q6) tw_68 tw_69 tw_70 tw_71 rfl (by decide +kernel) rfl rfl ⟨Nat.le_of_ble_eq_true rfl, Nat.le_of_ble_eq_true rfl⟩ [6] rfl (by decide) rfl hl.1 rfl (Nat.le_of_ble_eq_true rfl) dX5_init_46 ⟨Nat.le_of_ble_eq_true rfl, Nat.le_of_ble_eq_true rfl⟩) hP hD hS hA (isC := [6]) (isR := [0, 1, 2, 3, 4, 5]) rfl rfl (by decide) (by decide) (fun u H locs hw14 hP hD hS => ?_)
  obtain ⟨q15, q16⟩ := u
  have hP : va_P (dC, dI) vwCl [(a0_, .inr (8, [.ref a1_, .ref q1, .ref q6, .null, .int 0, .int 0, .int 0])), (q1, .inr (12, [.ref a1_, .ref q3, .ref q4, .ref q5, .int 0, .int 0, .int 0, .int 0, .int 0, .int 0])), (q3, .inl (cI, 1503, .inl (fun _ => 0))), (q4, .inl (cI, 1503, .inl (fun _ => 0))), (q5, .inl (cI, 1503, .inl (fun _ => 0))), (q6, .inr (5, [.ref a1_, .ref q8, .int 0, .int 0, .int 0, .int 0, .ref q9, .int 0, .ref q10, .ref q11, .ref q12, .int 0])), (q13, .inr (6, [.ref q1, .ref q6, .ref q15, .ref q16, .int 0]))] H := hP
  have hD : va_D A [(a0_, .inr (8, [.ref a1_, .ref q1, .ref q6, .null, .int 0, .int 0, .int 0])), (q1, .inr (12, [.ref a1_, .ref q3, .ref q4, .ref q5, .int 0, .int 0, .int 0, .int 0, .int 0, .int 0])), (q3, .inl (cI, 1503, .inl (fun _ => 0))), (q4, .inl (cI, 1503, .inl (fun _ => 0))), (q5, .inl (cI, 1503, .inl (fun _ => 0))), (q6, .inr (5, [.ref a1_, .ref q8, .int 0, .int 0, .int 0, .int 0, .ref q9, .int 0, .ref q10, .ref q11, .ref q12, .int 0])), (q13, .inr (6, [.ref q1, .ref q6, .ref q15, .ref q16, .int 0]))] := hD
  refine W.widen (k := 13) (n := 8879) (by omega) (by omega) ?_
  refine va_putF (D := (dC, dI)) (ci := 8) (v := .ref q13) (ty := .object "PocketCompiler$Expressions") (C := RX5) (T := TX5) (N := 7) hx hb ht itX5 tyX5 tyX5_ok nmX5 hown hK hP hD hS 0 rfl rfl 3 (by decide) (ht _ tw_72) (fun _ h9 => h9) rfl hin rfl (by decide +kernel) rfl rfl (Nat.le_of_ble_eq_true rfl) dX5_init_49 (fun H locs hP hD hS => ?_)
  have hP : va_P (dC, dI) vwCl [(a0_, .inr (8, [.ref a1_, .ref q1, .ref q6, .ref q13, .int 0, .int 0, .int 0])), (q1, .inr (12, [.ref a1_, .ref q3, .ref q4, .ref q5, .int 0, .int 0, .int 0, .int 0, .int 0, .int 0])), (q3, .inl (cI, 1503, .inl (fun _ => 0))), (q4, .inl (cI, 1503, .inl (fun _ => 0))), (q5, .inl (cI, 1503, .inl (fun _ => 0))), (q6, .inr (5, [.ref a1_, .ref q8, .int 0, .int 0, .int 0, .int 0, .ref q9, .int 0, .ref q10, .ref q11, .ref q12, .int 0])), (q13, .inr (6, [.ref q1, .ref q6, .ref q15, .ref q16, .int 0]))] H := hP
  have hD : va_D A [(a0_, .inr (8, [.ref a1_, .ref q1, .ref q6, .ref q13, .int 0, .int 0, .int 0])), (q1, .inr (12, [.ref a1_, .ref q3, .ref q4, .ref q5, .int 0, .int 0, .int 0, .int 0, .int 0, .int 0])), (q3, .inl (cI, 1503, .inl (fun _ => 0))), (q4, .inl (cI, 1503, .inl (fun _ => 0))), (q5, .inl (cI, 1503, .inl (fun _ => 0))), (q6, .inr (5, [.ref a1_, .ref q8, .int 0, .int 0, .int 0, .int 0, .ref q9, .int 0, .ref q10, .ref q11, .ref q12, .int 0])), (q13, .inr (6, [.ref q1, .ref q6, .ref q15, .ref q16, .int 0]))] := hD
  have hP9 := hP.sub (ws' := [(a0_, .inr (8, [.ref a1_, .ref q1, .ref q6, .ref q13, .int 0, .int 0, .int 0])), (q1, .inr (12, [.ref a1_, .ref q3, .ref q4, .ref q5, .int 0, .int 0, .int 0, .int 0, .int 0, .int 0])), (q3, .inl (cI, 1503, .inl (fun _ => 0))), (q4, .inl (cI, 1503, .inl (fun _ => 0))), (q5, .inl (cI, 1503, .inl (fun _ => 0))), (q6, .inr (5, [.ref a1_, .ref q8, .int 0, .int 0, .int 0, .int 0, .ref q9, .int 0, .ref q10, .ref q11, .ref q12, .int 0])), (q13, .inr (6, [.ref q1, .ref q6, .ref q15, .ref q16, .int 0]))]) [0, 1, 2, 3, 4, 5, 6] rfl
  have hD9 := hD.sub (ws' := [(a0_, .inr (8, [.ref a1_, .ref q1, .ref q6, .ref q13, .int 0, .int 0, .int 0])), (q1, .inr (12, [.ref a1_, .ref q3, .ref q4, .ref q5, .int 0, .int 0, .int 0, .int 0, .int 0, .int 0])), (q3, .inl (cI, 1503, .inl (fun _ => 0))), (q4, .inl (cI, 1503, .inl (fun _ => 0))), (q5, .inl (cI, 1503, .inl (fun _ => 0))), (q6, .inr (5, [.ref a1_, .ref q8, .int 0, .int 0, .int 0, .int 0, .ref q9, .int 0, .ref q10, .ref q11, .ref q12, .int 0])), (q13, .inr (6, [.ref q1, .ref q6, .ref q15, .ref q16, .int 0]))]) [0, 1, 2, 3, 4, 5, 6] (by decide) rfl
  refine W.widen (k := 13) (n := 8879) (by omega) (by omega) ?_
  exact W.vret hx hb hr (fun t ht9 hW => ⟨⟨(q1, q6, q13, q3, q4, q5, q8, q9, q10, q11, q12, q15, q16), rfl, trivial, by rw [ht9]; exact hP9, hD9⟩, hS.F ht9⟩) hS.2.2 dX5_init_52
set_option maxHeartbeats 4000000 in
set_option maxRecDepth 100000 in
/-- Assembler -/
theorem c_X0_init (l : Launch) (dC : Nat → ClassId) (dI : Nat → Nat → Nat) (cI cB cZ cJ cR : ClassId) (tb : Nat → Nat) (sz : Nat) (a0_ : Nat) (a1_ : Nat) (N : Nat) (hf_N_0 : 256 ≤ N) (hf_N_1 : N ≤ 4096) : Met l yX0_init (Cond.code yX0_init cX0_init 3 none :: tw_W) ({ frames := 1, cells := 1, slots := 3009, locals := 12 }) (pc_ (dC, dI) (tyS cI cB cZ cJ cR) tb [(a0_, .inr (4, [.null, .int 0, .null, .int 0, .int 0, .int 0, .int 0, .int 0, .int 0]))] sz [.ref a0_, .ref a1_, .int (nI N)]) (qv_ (dC, dI) [(a0_, .inr (4, [.null, .int 0, .null, .int 0, .int 0, .int 0, .int 0, .int 0, .int 0]))] sz (fun (u : Nat) => True) (fun (u : Nat) => [(a0_, .inr (4, [.ref a1_, .int (4 * (nI N)), .ref u, .int 0, .int 0, .int 0, .int 0, .int 0, .int 0]))])) 1 3009 (va_A [(a0_, .inr (4, [.null, .int 0, .null, .int 0, .int 0, .int 0, .int 0, .int 0, .int 0]))] sz) := by
  refine Met.ofW (cc := cX0_init) (maxL := 3) (ret := none) (by decide) rfl ?_
  intro p e s m args below meth c s₁ B hml hv
  obtain ⟨rfl, hsz, hP, hKK, hD0, hFx⟩ := hv
  have hK := hKK.1
  have hx := B.exec
  have hb := B.bytes
  have hr := B.returns
  have ht : ∀ w ∈ tw_W, w.before _ s = true := fun w h => atoms_spec (ws := Cond.code yX0_init cX0_init 3 none :: tw_W) B.pre w (List.mem_cons_of_mem _ h)
  have hown : s.vm.findClass RX0 = some m.cls := findClass_of_methodNamed B.named
  have hlocks := B.notSynchronized
  have hin : meth.name = "<init>" := (name_of_methodNamed B.named B.method).1
  subst hsz
  unfold qv_
  have hD := hD0.self (sz := s.heap.size)
  generalize hAe : va_A [(a0_, .inr (4, [.null, .int 0, .null, .int 0, .int 0, .int 0, .int 0, .int 0, .int 0]))] s.heap.size = A at hD hFx ⊢
  have hA : ∀ q : Nat, s.heap.size ≤ q → A q := fun q h => by rw [← hAe]; exact Or.inr h
  have hS : va_S A s.heap s.heap [] := va_S.rf
  have hP : va_P (dC, dI) vwCl [(a0_, .inr (4, [.null, .int 0, .null, .int 0, .int 0, .int 0, .int 0, .int 0, .int 0]))] s.heap := hP
  have hl := lv_entry ([.ref a0_, .ref a1_, .int (nI N)]) (n := 3) (Nat.le_of_ble_eq_true rfl)
  rw [lg_entry_eq]
  generalize (lg_sl ([.ref a0_, .ref a1_, .int (nI N)]) ++ List.replicate (3 - (lg_sl ([.ref a0_, .ref a1_, .int (nI N)])).length) Slot.unset).toArray = ls at hl ⊢
  have hl : lv_has ls 3 [(0, .ref a0_), (1, .ref a1_), (2, .int (nI N))] := hl
  refine lv_aload_n hx hb dX0_init_0 rfl (lv_at hl 0 rfl) ?_
  refine W.objInit hx hb hown (ht _ tw_73) (ht _ tw_1) (ht _ tw_2) rfl (by rw [hml]; exact hl.1) rfl dX0_init_1 (Nat.le_of_ble_eq_true rfl) (Nat.le_of_ble_eq_true rfl) ?_
  refine W.eq (g2 := F0 m 4 ls []) rfl ?_
  refine lv_aload_n hx hb dX0_init_4 rfl (lv_at hl 0 rfl) ?_
  refine lv_sipush (v := 3009) hx hb dX0_init_5 (by decide) ?_
  refine va_newE (atype := .int) (ty := .int) (a0 := (3009, .inl (fun _ => 0))) (cE := cI) hx hb (ht _ tw_3) rfl hK hP hD hS hA 0 rfl (fun _ => rfl) (by decide) (by decide) (by decide) (Nat.le_of_ble_eq_true rfl) (Nat.le_of_ble_eq_true rfl) dX0_init_8 (fun q1 H hP hD hS => ?_)
  have hP : va_P (dC, dI) vwCl [(a0_, .inr (4, [.null, .int 0, .null, .int 0, .int 0, .int 0, .int 0, .int 0, .int 0])), (q1, .inl (cI, 3009, .inl (fun _ => 0)))] H := hP
  have hD : va_D A [(a0_, .inr (4, [.null, .int 0, .null, .int 0, .int 0, .int 0, .int 0, .int 0, .int 0])), (q1, .inl (cI, 3009, .inl (fun _ => 0)))] := hD
  refine W.widen (k := 1) (n := 3009) (by omega) (by omega) ?_
  refine va_putF (D := (dC, dI)) (ci := 4) (v := .ref q1) (ty := .array .int) (C := RX0) (T := TX0) (N := 9) hx hb ht itX0 tyX0 tyX0_ok nmX0 hown hK hP hD hS 0 rfl rfl 2 (by decide) (ht _ tw_74) (fun _ h9 => h9) rfl hin rfl (by decide +kernel) rfl rfl (Nat.le_of_ble_eq_true rfl) dX0_init_10 (fun H locs hP hD hS => ?_)
  have hP : va_P (dC, dI) vwCl [(a0_, .inr (4, [.null, .int 0, .ref q1, .int 0, .int 0, .int 0, .int 0, .int 0, .int 0])), (q1, .inl (cI, 3009, .inl (fun _ => 0)))] H := hP
  have hD : va_D A [(a0_, .inr (4, [.null, .int 0, .ref q1, .int 0, .int 0, .int 0, .int 0, .int 0, .int 0])), (q1, .inl (cI, 3009, .inl (fun _ => 0)))] := hD
  refine lv_aload_n hx hb dX0_init_13 rfl (lv_at hl 0 rfl) ?_
  refine lv_aload_n hx hb dX0_init_14 rfl (lv_at hl 1 rfl) ?_
  refine va_put (D := (dC, dI)) (ci := 4) (v := .ref a1_) (ty := .object "PocketCompiler$Program") (C := RX0) (T := TX0) (N := 9) hx hb ht itX0 tyX0 tyX0_ok nmX0 hown hK hP hD hS 0 rfl rfl 0 (by decide) (ht _ tw_75) (fun _ h9 => h9) rfl (by decide +kernel) rfl rfl (Nat.le_of_ble_eq_true rfl) dX0_init_15 (fun H locs hP hD hS => ?_)
  have hP : va_P (dC, dI) vwCl [(a0_, .inr (4, [.ref a1_, .int 0, .ref q1, .int 0, .int 0, .int 0, .int 0, .int 0, .int 0])), (q1, .inl (cI, 3009, .inl (fun _ => 0)))] H := hP
  have hD : va_D A [(a0_, .inr (4, [.ref a1_, .int 0, .ref q1, .int 0, .int 0, .int 0, .int 0, .int 0, .int 0])), (q1, .inl (cI, 3009, .inl (fun _ => 0)))] := hD
  refine lv_aload_n hx hb dX0_init_18 rfl (lv_at hl 0 rfl) ?_
  refine lv_iconst (v := 4) hx hb dX0_init_19 (by decide) ?_
  refine lv_iload_n hx hb dX0_init_20 rfl (lv_at hl 2 rfl) ?_
  refine lv_imul hx hb dX0_init_21 ?_
  refine va_putF (D := (dC, dI)) (ci := 4) (v := .int (4 * (nI N))) (ty := .int) (C := RX0) (T := TX0) (N := 9) hx hb ht itX0 tyX0 tyX0_ok nmX0 hown hK hP hD hS 0 rfl rfl 1 (by decide) (ht _ tw_76) (fun _ h9 => h9) rfl hin rfl (by decide +kernel) rfl rfl (Nat.le_of_ble_eq_true rfl) dX0_init_22 (fun H locs hP hD hS => ?_)
  have hP : va_P (dC, dI) vwCl [(a0_, .inr (4, [.ref a1_, .int (4 * (nI N)), .ref q1, .int 0, .int 0, .int 0, .int 0, .int 0, .int 0])), (q1, .inl (cI, 3009, .inl (fun _ => 0)))] H := hP
  have hD : va_D A [(a0_, .inr (4, [.ref a1_, .int (4 * (nI N)), .ref q1, .int 0, .int 0, .int 0, .int 0, .int 0, .int 0])), (q1, .inl (cI, 3009, .inl (fun _ => 0)))] := hD
  have hP9 := hP.sub (ws' := [(a0_, .inr (4, [.ref a1_, .int (4 * (nI N)), .ref q1, .int 0, .int 0, .int 0, .int 0, .int 0, .int 0]))]) [0] rfl
  have hD9 := hD.sub (ws' := [(a0_, .inr (4, [.ref a1_, .int (4 * (nI N)), .ref q1, .int 0, .int 0, .int 0, .int 0, .int 0, .int 0]))]) [0] (by decide) rfl
  refine W.widen (k := 1) (n := 3009) (by omega) (by omega) ?_
  exact W.vret hx hb hr (fun t ht9 hW => ⟨⟨q1, rfl, trivial, by rw [ht9]; exact hP9, hD9⟩, hS.F ht9⟩) hS.2.2 dX0_init_25
set_option maxHeartbeats 4000000 in
set_option maxRecDepth 100000 in
/-- Worker -/
theorem c_X10_init (l : Launch) (dC : Nat → ClassId) (dI : Nat → Nat → Nat) (cI cB cZ cJ cR : ClassId) (tb : Nat → Nat) (sz : Nat) (a0_ : Nat) (a1_ : Nat) (N : Nat) (a2_ : Nat) (hf_N_0 : 256 ≤ N) (hf_N_1 : N ≤ 4096) : Met l yX10_init (Cond.code yX10_init cX10_init 4 none :: tw_W) ({ frames := 1, cells := 3, slots := 8392, locals := 12 }) (pc_ (dC, dI) (tyS cI cB cZ cJ cR) tb [(a0_, .inr (13, [.null, .null, .int 0, .null, .null, .null, .int 0, .int 0, .int 0, .int 0, .int 0, .int 0, .int 0, .int 0, .int 0, .int 0, .int 0]))] sz [.ref a0_, .ref a1_, .int (nI N), .ref a2_]) (qv_ (dC, dI) [(a0_, .inr (13, [.null, .null, .int 0, .null, .null, .null, .int 0, .int 0, .int 0, .int 0, .int 0, .int 0, .int 0, .int 0, .int 0, .int 0, .int 0]))] sz (fun (u : Nat × Nat × Nat) => True) (fun (u : Nat × Nat × Nat) => [(a0_, .inr (13, [.ref a1_, .ref a2_, .int (4 * (nI N)), .ref u.1, .ref u.2.1, .ref u.2.2, .int 0, .int 0, .int 0, .int 0, .int 0, .int 0, .int 0, .int 0, .int 0, .int 0, .int 0]))])) 3 8392 (va_A [(a0_, .inr (13, [.null, .null, .int 0, .null, .null, .null, .int 0, .int 0, .int 0, .int 0, .int 0, .int 0, .int 0, .int 0, .int 0, .int 0, .int 0]))] sz) := by
  refine Met.ofW (cc := cX10_init) (maxL := 4) (ret := none) (by decide) rfl ?_
  intro p e s m args below meth c s₁ B hml hv
  obtain ⟨rfl, hsz, hP, hKK, hD0, hFx⟩ := hv
  have hK := hKK.1
  have hx := B.exec
  have hb := B.bytes
  have hr := B.returns
  have ht : ∀ w ∈ tw_W, w.before _ s = true := fun w h => atoms_spec (ws := Cond.code yX10_init cX10_init 4 none :: tw_W) B.pre w (List.mem_cons_of_mem _ h)
  have hown : s.vm.findClass RX10 = some m.cls := findClass_of_methodNamed B.named
  have hlocks := B.notSynchronized
  have hin : meth.name = "<init>" := (name_of_methodNamed B.named B.method).1
  subst hsz
  unfold qv_
  have hD := hD0.self (sz := s.heap.size)
  generalize hAe : va_A [(a0_, .inr (13, [.null, .null, .int 0, .null, .null, .null, .int 0, .int 0, .int 0, .int 0, .int 0, .int 0, .int 0, .int 0, .int 0, .int 0, .int 0]))] s.heap.size = A at hD hFx ⊢
  have hA : ∀ q : Nat, s.heap.size ≤ q → A q := fun q h => by rw [← hAe]; exact Or.inr h
  have hS : va_S A s.heap s.heap [] := va_S.rf
  have hP : va_P (dC, dI) vwCl [(a0_, .inr (13, [.null, .null, .int 0, .null, .null, .null, .int 0, .int 0, .int 0, .int 0, .int 0, .int 0, .int 0, .int 0, .int 0, .int 0, .int 0]))] s.heap := hP
  have hl := lv_entry ([.ref a0_, .ref a1_, .int (nI N), .ref a2_]) (n := 4) (Nat.le_of_ble_eq_true rfl)
  rw [lg_entry_eq]
  generalize (lg_sl ([.ref a0_, .ref a1_, .int (nI N), .ref a2_]) ++ List.replicate (4 - (lg_sl ([.ref a0_, .ref a1_, .int (nI N), .ref a2_])).length) Slot.unset).toArray = ls at hl ⊢
  have hl : lv_has ls 4 [(0, .ref a0_), (1, .ref a1_), (2, .int (nI N)), (3, .ref a2_)] := hl
  refine lv_aload_n hx hb dX10_init_0 rfl (lv_at hl 0 rfl) ?_
  refine W.objInit hx hb hown (ht _ tw_77) (ht _ tw_1) (ht _ tw_2) rfl (by rw [hml]; exact hl.1) rfl dX10_init_1 (Nat.le_of_ble_eq_true rfl) (Nat.le_of_ble_eq_true rfl) ?_
  refine W.eq (g2 := F0 m 4 ls []) rfl ?_
  refine lv_aload_n hx hb dX10_init_4 rfl (lv_at hl 0 rfl) ?_
  refine lv_sipush (v := 200) hx hb dX10_init_5 (by decide) ?_
  refine va_newE (atype := .int) (ty := .int) (a0 := (200, .inl (fun _ => 0))) (cE := cI) hx hb (ht _ tw_3) rfl hK hP hD hS hA 0 rfl (fun _ => rfl) (by decide) (by decide) (by decide) (Nat.le_of_ble_eq_true rfl) (Nat.le_of_ble_eq_true rfl) dX10_init_8 (fun q1 H hP hD hS => ?_)
  have hP : va_P (dC, dI) vwCl [(a0_, .inr (13, [.null, .null, .int 0, .null, .null, .null, .int 0, .int 0, .int 0, .int 0, .int 0, .int 0, .int 0, .int 0, .int 0, .int 0, .int 0])), (q1, .inl (cI, 200, .inl (fun _ => 0)))] H := hP
  have hD : va_D A [(a0_, .inr (13, [.null, .null, .int 0, .null, .null, .null, .int 0, .int 0, .int 0, .int 0, .int 0, .int 0, .int 0, .int 0, .int 0, .int 0, .int 0])), (q1, .inl (cI, 200, .inl (fun _ => 0)))] := hD
  refine W.widen (k := 1) (n := 200) (by omega) (by omega) ?_
  refine va_putF (D := (dC, dI)) (ci := 13) (v := .ref q1) (ty := .array .int) (C := RX10) (T := TX10) (N := 17) hx hb ht itX10 tyX10 tyX10_ok nmX10 hown hK hP hD hS 0 rfl rfl 5 (by decide) (ht _ tw_78) (fun _ h9 => h9) rfl hin rfl (by decide +kernel) rfl rfl (Nat.le_of_ble_eq_true rfl) dX10_init_10 (fun H locs hP hD hS => ?_)
  have hP : va_P (dC, dI) vwCl [(a0_, .inr (13, [.null, .null, .int 0, .null, .null, .ref q1, .int 0, .int 0, .int 0, .int 0, .int 0, .int 0, .int 0, .int 0, .int 0, .int 0, .int 0])), (q1, .inl (cI, 200, .inl (fun _ => 0)))] H := hP
  have hD : va_D A [(a0_, .inr (13, [.null, .null, .int 0, .null, .null, .ref q1, .int 0, .int 0, .int 0, .int 0, .int 0, .int 0, .int 0, .int 0, .int 0, .int 0, .int 0])), (q1, .inl (cI, 200, .inl (fun _ => 0)))] := hD
  refine lv_aload_n hx hb dX10_init_13 rfl (lv_at hl 0 rfl) ?_
  refine lv_aload_n hx hb dX10_init_14 rfl (lv_at hl 1 rfl) ?_
  refine va_put (D := (dC, dI)) (ci := 13) (v := .ref a1_) (ty := .object "PocketCompiler$Program") (C := RX10) (T := TX10) (N := 17) hx hb ht itX10 tyX10 tyX10_ok nmX10 hown hK hP hD hS 0 rfl rfl 0 (by decide) (ht _ tw_79) (fun _ h9 => h9) rfl (by decide +kernel) rfl rfl (Nat.le_of_ble_eq_true rfl) dX10_init_15 (fun H locs hP hD hS => ?_)
  have hP : va_P (dC, dI) vwCl [(a0_, .inr (13, [.ref a1_, .null, .int 0, .null, .null, .ref q1, .int 0, .int 0, .int 0, .int 0, .int 0, .int 0, .int 0, .int 0, .int 0, .int 0, .int 0])), (q1, .inl (cI, 200, .inl (fun _ => 0)))] H := hP
  have hD : va_D A [(a0_, .inr (13, [.ref a1_, .null, .int 0, .null, .null, .ref q1, .int 0, .int 0, .int 0, .int 0, .int 0, .int 0, .int 0, .int 0, .int 0, .int 0, .int 0])), (q1, .inl (cI, 200, .inl (fun _ => 0)))] := hD
  refine lv_aload_n hx hb dX10_init_18 rfl (lv_at hl 0 rfl) ?_
  refine lv_aload_n hx hb dX10_init_19 rfl (lv_at hl 3 rfl) ?_
  refine va_putF (D := (dC, dI)) (ci := 13) (v := .ref a2_) (ty := .object "PocketCompiler$Gifts") (C := RX10) (T := TX10) (N := 17) hx hb ht itX10 tyX10 tyX10_ok nmX10 hown hK hP hD hS 0 rfl rfl 1 (by decide) (ht _ tw_80) (fun _ h9 => h9) rfl hin rfl (by decide +kernel) rfl rfl (Nat.le_of_ble_eq_true rfl) dX10_init_20 (fun H locs hP hD hS => ?_)
  have hP : va_P (dC, dI) vwCl [(a0_, .inr (13, [.ref a1_, .ref a2_, .int 0, .null, .null, .ref q1, .int 0, .int 0, .int 0, .int 0, .int 0, .int 0, .int 0, .int 0, .int 0, .int 0, .int 0])), (q1, .inl (cI, 200, .inl (fun _ => 0)))] H := hP
  have hD : va_D A [(a0_, .inr (13, [.ref a1_, .ref a2_, .int 0, .null, .null, .ref q1, .int 0, .int 0, .int 0, .int 0, .int 0, .int 0, .int 0, .int 0, .int 0, .int 0, .int 0])), (q1, .inl (cI, 200, .inl (fun _ => 0)))] := hD
  refine lv_aload_n hx hb dX10_init_23 rfl (lv_at hl 0 rfl) ?_
  refine lv_iconst (v := 4) hx hb dX10_init_24 (by decide) ?_
  refine lv_iload_n hx hb dX10_init_25 rfl (lv_at hl 2 rfl) ?_
  refine lv_imul hx hb dX10_init_26 ?_
  refine va_putF (D := (dC, dI)) (ci := 13) (v := .int (4 * (nI N))) (ty := .int) (C := RX10) (T := TX10) (N := 17) hx hb ht itX10 tyX10 tyX10_ok nmX10 hown hK hP hD hS 0 rfl rfl 2 (by decide) (ht _ tw_81) (fun _ h9 => h9) rfl hin rfl (by decide +kernel) rfl rfl (Nat.le_of_ble_eq_true rfl) dX10_init_27 (fun H locs hP hD hS => ?_)
  have hP : va_P (dC, dI) vwCl [(a0_, .inr (13, [.ref a1_, .ref a2_, .int (4 * (nI N)), .null, .null, .ref q1, .int 0, .int 0, .int 0, .int 0, .int 0, .int 0, .int 0, .int 0, .int 0, .int 0, .int 0])), (q1, .inl (cI, 200, .inl (fun _ => 0)))] H := hP
  have hD : va_D A [(a0_, .inr (13, [.ref a1_, .ref a2_, .int (4 * (nI N)), .null, .null, .ref q1, .int 0, .int 0, .int 0, .int 0, .int 0, .int 0, .int 0, .int 0, .int 0, .int 0, .int 0])), (q1, .inl (cI, 200, .inl (fun _ => 0)))] := hD
  refine lv_aload_n hx hb dX10_init_30 rfl (lv_at hl 0 rfl) ?_
  refine lv_iload_n hx hb dX10_init_31 rfl (lv_at hl 2 rfl) ?_
  refine va_newE (atype := .int) (ty := .int) (a0 := (N, .inl (fun _ => 0))) (cE := cI) hx hb (ht _ tw_3) rfl hK hP hD hS hA 0 rfl (fun _ => rfl) (nI_pos (by omega)) (nI_clamp (by omega)) (show N * 4 ≤ 536870912 by omega) (Nat.le_of_ble_eq_true rfl) (show 200 + N ≤ 8392 by omega) dX10_init_32 (fun q2 H hP hD hS => ?_)
  have hP : va_P (dC, dI) vwCl [(a0_, .inr (13, [.ref a1_, .ref a2_, .int (4 * (nI N)), .null, .null, .ref q1, .int 0, .int 0, .int 0, .int 0, .int 0, .int 0, .int 0, .int 0, .int 0, .int 0, .int 0])), (q1, .inl (cI, 200, .inl (fun _ => 0))), (q2, .inl (cI, N, .inl (fun _ => 0)))] H := hP
  have hD : va_D A [(a0_, .inr (13, [.ref a1_, .ref a2_, .int (4 * (nI N)), .null, .null, .ref q1, .int 0, .int 0, .int 0, .int 0, .int 0, .int 0, .int 0, .int 0, .int 0, .int 0, .int 0])), (q1, .inl (cI, 200, .inl (fun _ => 0))), (q2, .inl (cI, N, .inl (fun _ => 0)))] := hD
  refine W.widen (k := 2) (n := 4296) (by omega) (by omega) ?_
  refine va_putF (D := (dC, dI)) (ci := 13) (v := .ref q2) (ty := .array .int) (C := RX10) (T := TX10) (N := 17) hx hb ht itX10 tyX10 tyX10_ok nmX10 hown hK hP hD hS 0 rfl rfl 3 (by decide) (ht _ tw_82) (fun _ h9 => h9) rfl hin rfl (by decide +kernel) rfl rfl (Nat.le_of_ble_eq_true rfl) dX10_init_34 (fun H locs hP hD hS => ?_)
  have hP : va_P (dC, dI) vwCl [(a0_, .inr (13, [.ref a1_, .ref a2_, .int (4 * (nI N)), .ref q2, .null, .ref q1, .int 0, .int 0, .int 0, .int 0, .int 0, .int 0, .int 0, .int 0, .int 0, .int 0, .int 0])), (q1, .inl (cI, 200, .inl (fun _ => 0))), (q2, .inl (cI, N, .inl (fun _ => 0)))] H := hP
  have hD : va_D A [(a0_, .inr (13, [.ref a1_, .ref a2_, .int (4 * (nI N)), .ref q2, .null, .ref q1, .int 0, .int 0, .int 0, .int 0, .int 0, .int 0, .int 0, .int 0, .int 0, .int 0, .int 0])), (q1, .inl (cI, 200, .inl (fun _ => 0))), (q2, .inl (cI, N, .inl (fun _ => 0)))] := hD
  refine lv_aload_n hx hb dX10_init_37 rfl (lv_at hl 0 rfl) ?_
  refine lv_iload_n hx hb dX10_init_38 rfl (lv_at hl 2 rfl) ?_
  refine va_newE (atype := .int) (ty := .int) (a0 := (N, .inl (fun _ => 0))) (cE := cI) hx hb (ht _ tw_3) rfl hK hP hD hS hA 0 rfl (fun _ => rfl) (nI_pos (by omega)) (nI_clamp (by omega)) (show N * 4 ≤ 536870912 by omega) (Nat.le_of_ble_eq_true rfl) (show 4296 + N ≤ 8392 by omega) dX10_init_39 (fun q3 H hP hD hS => ?_)
  have hP : va_P (dC, dI) vwCl [(a0_, .inr (13, [.ref a1_, .ref a2_, .int (4 * (nI N)), .ref q2, .null, .ref q1, .int 0, .int 0, .int 0, .int 0, .int 0, .int 0, .int 0, .int 0, .int 0, .int 0, .int 0])), (q1, .inl (cI, 200, .inl (fun _ => 0))), (q2, .inl (cI, N, .inl (fun _ => 0))), (q3, .inl (cI, N, .inl (fun _ => 0)))] H := hP
  have hD : va_D A [(a0_, .inr (13, [.ref a1_, .ref a2_, .int (4 * (nI N)), .ref q2, .null, .ref q1, .int 0, .int 0, .int 0, .int 0, .int 0, .int 0, .int 0, .int 0, .int 0, .int 0, .int 0])), (q1, .inl (cI, 200, .inl (fun _ => 0))), (q2, .inl (cI, N, .inl (fun _ => 0))), (q3, .inl (cI, N, .inl (fun _ => 0)))] := hD
  refine W.widen (k := 3) (n := 8392) (by omega) (by omega) ?_
  refine va_putF (D := (dC, dI)) (ci := 13) (v := .ref q3) (ty := .array .int) (C := RX10) (T := TX10) (N := 17) hx hb ht itX10 tyX10 tyX10_ok nmX10 hown hK hP hD hS 0 rfl rfl 4 (by decide) (ht _ tw_83) (fun _ h9 => h9) rfl hin rfl (by decide +kernel) rfl rfl (Nat.le_of_ble_eq_true rfl) dX10_init_41 (fun H locs hP hD hS => ?_)
  have hP : va_P (dC, dI) vwCl [(a0_, .inr (13, [.ref a1_, .ref a2_, .int (4 * (nI N)), .ref q2, .ref q3, .ref q1, .int 0, .int 0, .int 0, .int 0, .int 0, .int 0, .int 0, .int 0, .int 0, .int 0, .int 0])), (q1, .inl (cI, 200, .inl (fun _ => 0))), (q2, .inl (cI, N, .inl (fun _ => 0))), (q3, .inl (cI, N, .inl (fun _ => 0)))] H := hP
  have hD : va_D A [(a0_, .inr (13, [.ref a1_, .ref a2_, .int (4 * (nI N)), .ref q2, .ref q3, .ref q1, .int 0, .int 0, .int 0, .int 0, .int 0, .int 0, .int 0, .int 0, .int 0, .int 0, .int 0])), (q1, .inl (cI, 200, .inl (fun _ => 0))), (q2, .inl (cI, N, .inl (fun _ => 0))), (q3, .inl (cI, N, .inl (fun _ => 0)))] := hD
  have hP9 := hP.sub (ws' := [(a0_, .inr (13, [.ref a1_, .ref a2_, .int (4 * (nI N)), .ref q2, .ref q3, .ref q1, .int 0, .int 0, .int 0, .int 0, .int 0, .int 0, .int 0, .int 0, .int 0, .int 0, .int 0]))]) [0] rfl
  have hD9 := hD.sub (ws' := [(a0_, .inr (13, [.ref a1_, .ref a2_, .int (4 * (nI N)), .ref q2, .ref q3, .ref q1, .int 0, .int 0, .int 0, .int 0, .int 0, .int 0, .int 0, .int 0, .int 0, .int 0, .int 0]))]) [0] (by decide) rfl
  refine W.widen (k := 3) (n := 8392) (by omega) (by omega) ?_
  exact W.vret hx hb hr (fun t ht9 hW => ⟨⟨(q2, q3, q1), rfl, trivial, by rw [ht9]; exact hP9, hD9⟩, hS.F ht9⟩) hS.2.2 dX10_init_44
set_option maxHeartbeats 4000000 in
set_option maxRecDepth 100000 in
theorem c_X3_init (l : Launch) (dC : Nat → ClassId) (dI : Nat → Nat → Nat) (cI cB cZ cJ cR : ClassId) (tb : Nat → Nat) (sz : Nat) (a0_ : Nat)  : Met l yX3_init (Cond.code yX3_init cX3_init 1 none :: tw_W) ({ frames := 1, cells := 1, slots := 64, locals := 12 }) (pc_ (dC, dI) (tyS cI cB cZ cJ cR) tb [(a0_, .inr (7, [.null, .int 0, .int 0]))] sz [.ref a0_]) (qv_ (dC, dI) [(a0_, .inr (7, [.null, .int 0, .int 0]))] sz (fun (u : Nat) => True) (fun (u : Nat) => [(a0_, .inr (7, [.ref u, .int 0, .int 0])), (u, .inl (cI, 64, .inl (fun _ => 0)))])) 1 64 (va_A [(a0_, .inr (7, [.null, .int 0, .int 0]))] sz) := by
  refine Met.ofW (cc := cX3_init) (maxL := 1) (ret := none) (by decide) rfl ?_
  intro p e s m args below meth c s₁ B hml hv
  obtain ⟨rfl, hsz, hP, hKK, hD0, hFx⟩ := hv
  have hK := hKK.1
  have hx := B.exec
  have hb := B.bytes
  have hr := B.returns
  have ht : ∀ w ∈ tw_W, w.before _ s = true := fun w h => atoms_spec (ws := Cond.code yX3_init cX3_init 1 none :: tw_W) B.pre w (List.mem_cons_of_mem _ h)
  have hown : s.vm.findClass RX3 = some m.cls := findClass_of_methodNamed B.named
  have hlocks := B.notSynchronized
  have hin : meth.name = "<init>" := (name_of_methodNamed B.named B.method).1
  subst hsz
  unfold qv_
  have hD := hD0.self (sz := s.heap.size)
  generalize hAe : va_A [(a0_, .inr (7, [.null, .int 0, .int 0]))] s.heap.size = A at hD hFx ⊢
  have hA : ∀ q : Nat, s.heap.size ≤ q → A q := fun q h => by rw [← hAe]; exact Or.inr h
  have hS : va_S A s.heap s.heap [] := va_S.rf
  have hP : va_P (dC, dI) vwCl [(a0_, .inr (7, [.null, .int 0, .int 0]))] s.heap := hP
  have hl := lv_entry ([.ref a0_]) (n := 1) (Nat.le_of_ble_eq_true rfl)
  rw [lg_entry_eq]
  generalize (lg_sl ([.ref a0_]) ++ List.replicate (1 - (lg_sl ([.ref a0_])).length) Slot.unset).toArray = ls at hl ⊢
  have hl : lv_has ls 1 [(0, .ref a0_)] := hl
  refine lv_aload_n hx hb dX3_init_0 rfl (lv_at hl 0 rfl) ?_
  refine W.objInit hx hb hown (ht _ tw_90) (ht _ tw_1) (ht _ tw_2) rfl (by rw [hml]; exact hl.1) rfl dX3_init_1 (Nat.le_of_ble_eq_true rfl) (Nat.le_of_ble_eq_true rfl) ?_
  refine W.eq (g2 := F0 m 4 ls []) rfl ?_
  refine lv_aload_n hx hb dX3_init_4 rfl (lv_at hl 0 rfl) ?_
  refine lv_bipush (v := 64) hx hb dX3_init_5 (by decide) ?_
  refine va_newE (atype := .int) (ty := .int) (a0 := (64, .inl (fun _ => 0))) (cE := cI) hx hb (ht _ tw_3) rfl hK hP hD hS hA 0 rfl (fun _ => rfl) (by decide) (by decide) (by decide) (Nat.le_of_ble_eq_true rfl) (Nat.le_of_ble_eq_true rfl) dX3_init_7 (fun q1 H hP hD hS => ?_)
  have hP : va_P (dC, dI) vwCl [(a0_, .inr (7, [.null, .int 0, .int 0])), (q1, .inl (cI, 64, .inl (fun _ => 0)))] H := hP
  have hD : va_D A [(a0_, .inr (7, [.null, .int 0, .int 0])), (q1, .inl (cI, 64, .inl (fun _ => 0)))] := hD
  refine W.widen (k := 1) (n := 64) (by omega) (by omega) ?_
  refine va_putF (D := (dC, dI)) (ci := 7) (v := .ref q1) (ty := .array .int) (C := RX3) (T := TX3) (N := 3) hx hb ht itX3 tyX3 tyX3_ok nmX3 hown hK hP hD hS 0 rfl rfl 0 (by decide) (ht _ tw_91) (fun _ h9 => h9) rfl hin rfl (by decide +kernel) rfl rfl (Nat.le_of_ble_eq_true rfl) dX3_init_9 (fun H locs hP hD hS => ?_)
  have hP : va_P (dC, dI) vwCl [(a0_, .inr (7, [.ref q1, .int 0, .int 0])), (q1, .inl (cI, 64, .inl (fun _ => 0)))] H := hP
  have hD : va_D A [(a0_, .inr (7, [.ref q1, .int 0, .int 0])), (q1, .inl (cI, 64, .inl (fun _ => 0)))] := hD
  have hP9 := hP.sub (ws' := [(a0_, .inr (7, [.ref q1, .int 0, .int 0])), (q1, .inl (cI, 64, .inl (fun _ => 0)))]) [0, 1] rfl
  have hD9 := hD.sub (ws' := [(a0_, .inr (7, [.ref q1, .int 0, .int 0])), (q1, .inl (cI, 64, .inl (fun _ => 0)))]) [0, 1] (by decide) rfl
  refine W.widen (k := 1) (n := 64) (by omega) (by omega) ?_
  exact W.vret hx hb hr (fun t ht9 hW => ⟨⟨q1, rfl, trivial, by rw [ht9]; exact hP9, hD9⟩, hS.F ht9⟩) hS.2.2 dX3_init_12
set_option maxHeartbeats 4000000 in
set_option maxRecDepth 100000 in
theorem c_X6_init (l : Launch) (dC : Nat → ClassId) (dI : Nat → Nat → Nat) (cI cB cZ cJ cR : ClassId) (tb : Nat → Nat) (sz : Nat) (a0_ : Nat) (N : Nat) (a1_ : Nat) (hf_N_0 : 256 ≤ N) (hf_N_1 : N ≤ 4096) : Met l yX6_init (Cond.code yX6_init cX6_init 3 none :: tw_W) ({ frames := 1, cells := 3, slots := 4328, locals := 12 }) (pc_ (dC, dI) (tyS cI cB cZ cJ cR) tb [(a0_, .inr (9, [.null, .null, .int 0, .int 0, .int 0, .int 0, .null, .int 0, .null]))] sz [.ref a0_, .int (nI N), .ref a1_]) (qv_ (dC, dI) [(a0_, .inr (9, [.null, .null, .int 0, .int 0, .int 0, .int 0, .null, .int 0, .null]))] sz (fun (u : Nat × Nat × Nat) => True) (fun (u : Nat × Nat × Nat) => [(a0_, .inr (9, [.ref u.1, .ref u.2.1, .int 0, .int 0, .int 0, .int 0, .ref u.2.2, .int 0, .ref a1_])), (u.2.1, .inl (cI, 32, .inl (fun _ => 0))), (u.2.2, .inl (cI, 200, .inl (fun _ => 0))), (u.1, .inl (cI, N, .inl (fun _ => 0)))])) 3 4328 (va_A [(a0_, .inr (9, [.null, .null, .int 0, .int 0, .int 0, .int 0, .null, .int 0, .null]))] sz) := by
  refine Met.ofW (cc := cX6_init) (maxL := 3) (ret := none) (by decide) rfl ?_
  intro p e s m args below meth c s₁ B hml hv
  obtain ⟨rfl, hsz, hP, hKK, hD0, hFx⟩ := hv
  have hK := hKK.1
  have hx := B.exec
  have hb := B.bytes
  have hr := B.returns
  have ht : ∀ w ∈ tw_W, w.before _ s = true := fun w h => atoms_spec (ws := Cond.code yX6_init cX6_init 3 none :: tw_W) B.pre w (List.mem_cons_of_mem _ h)
  have hown : s.vm.findClass RX6 = some m.cls := findClass_of_methodNamed B.named
  have hlocks := B.notSynchronized
  have hin : meth.name = "<init>" := (name_of_methodNamed B.named B.method).1
  subst hsz
  unfold qv_
  have hD := hD0.self (sz := s.heap.size)
  generalize hAe : va_A [(a0_, .inr (9, [.null, .null, .int 0, .int 0, .int 0, .int 0, .null, .int 0, .null]))] s.heap.size = A at hD hFx ⊢
  have hA : ∀ q : Nat, s.heap.size ≤ q → A q := fun q h => by rw [← hAe]; exact Or.inr h
  have hS : va_S A s.heap s.heap [] := va_S.rf
  have hP : va_P (dC, dI) vwCl [(a0_, .inr (9, [.null, .null, .int 0, .int 0, .int 0, .int 0, .null, .int 0, .null]))] s.heap := hP
  have hl := lv_entry ([.ref a0_, .int (nI N), .ref a1_]) (n := 3) (Nat.le_of_ble_eq_true rfl)
  rw [lg_entry_eq]
  generalize (lg_sl ([.ref a0_, .int (nI N), .ref a1_]) ++ List.replicate (3 - (lg_sl ([.ref a0_, .int (nI N), .ref a1_])).length) Slot.unset).toArray = ls at hl ⊢
  have hl : lv_has ls 3 [(0, .ref a0_), (1, .int (nI N)), (2, .ref a1_)] := hl
  refine lv_aload_n hx hb dX6_init_0 rfl (lv_at hl 0 rfl) ?_
  refine W.objInit hx hb hown (ht _ tw_131) (ht _ tw_1) (ht _ tw_2) rfl (by rw [hml]; exact hl.1) rfl dX6_init_1 (Nat.le_of_ble_eq_true rfl) (Nat.le_of_ble_eq_true rfl) ?_
  refine W.eq (g2 := F0 m 4 ls []) rfl ?_
  refine lv_aload_n hx hb dX6_init_4 rfl (lv_at hl 0 rfl) ?_
  refine lv_bipush (v := 32) hx hb dX6_init_5 (by decide) ?_
  refine va_newE (atype := .int) (ty := .int) (a0 := (32, .inl (fun _ => 0))) (cE := cI) hx hb (ht _ tw_3) rfl hK hP hD hS hA 0 rfl (fun _ => rfl) (by decide) (by decide) (by decide) (Nat.le_of_ble_eq_true rfl) (Nat.le_of_ble_eq_true rfl) dX6_init_7 (fun q1 H hP hD hS => ?_)
  have hP : va_P (dC, dI) vwCl [(a0_, .inr (9, [.null, .null, .int 0, .int 0, .int 0, .int 0, .null, .int 0, .null])), (q1, .inl (cI, 32, .inl (fun _ => 0)))] H := hP
  have hD : va_D A [(a0_, .inr (9, [.null, .null, .int 0, .int 0, .int 0, .int 0, .null, .int 0, .null])), (q1, .inl (cI, 32, .inl (fun _ => 0)))] := hD
  refine W.widen (k := 1) (n := 32) (by omega) (by omega) ?_
  refine va_putF (D := (dC, dI)) (ci := 9) (v := .ref q1) (ty := .array .int) (C := RX6) (T := TX6) (N := 9) hx hb ht itX6 tyX6 tyX6_ok nmX6 hown hK hP hD hS 0 rfl rfl 1 (by decide) (ht _ tw_132) (fun _ h9 => h9) rfl hin rfl (by decide +kernel) rfl rfl (Nat.le_of_ble_eq_true rfl) dX6_init_9 (fun H locs hP hD hS => ?_)
  have hP : va_P (dC, dI) vwCl [(a0_, .inr (9, [.null, .ref q1, .int 0, .int 0, .int 0, .int 0, .null, .int 0, .null])), (q1, .inl (cI, 32, .inl (fun _ => 0)))] H := hP
  have hD : va_D A [(a0_, .inr (9, [.null, .ref q1, .int 0, .int 0, .int 0, .int 0, .null, .int 0, .null])), (q1, .inl (cI, 32, .inl (fun _ => 0)))] := hD
  refine lv_aload_n hx hb dX6_init_12 rfl (lv_at hl 0 rfl) ?_
  refine lv_sipush (v := 200) hx hb dX6_init_13 (by decide) ?_
  refine va_newE (atype := .int) (ty := .int) (a0 := (200, .inl (fun _ => 0))) (cE := cI) hx hb (ht _ tw_3) rfl hK hP hD hS hA 0 rfl (fun _ => rfl) (by decide) (by decide) (by decide) (Nat.le_of_ble_eq_true rfl) (Nat.le_of_ble_eq_true rfl) dX6_init_16 (fun q2 H hP hD hS => ?_)
  have hP : va_P (dC, dI) vwCl [(a0_, .inr (9, [.null, .ref q1, .int 0, .int 0, .int 0, .int 0, .null, .int 0, .null])), (q1, .inl (cI, 32, .inl (fun _ => 0))), (q2, .inl (cI, 200, .inl (fun _ => 0)))] H := hP
  have hD : va_D A [(a0_, .inr (9, [.null, .ref q1, .int 0, .int 0, .int 0, .int 0, .null, .int 0, .null])), (q1, .inl (cI, 32, .inl (fun _ => 0))), (q2, .inl (cI, 200, .inl (fun _ => 0)))] := hD
  refine W.widen (k := 2) (n := 232) (by omega) (by omega) ?_
  refine va_putF (D := (dC, dI)) (ci := 9) (v := .ref q2) (ty := .array .int) (C := RX6) (T := TX6) (N := 9) hx hb ht itX6 tyX6 tyX6_ok nmX6 hown hK hP hD hS 0 rfl rfl 6 (by decide) (ht _ tw_133) (fun _ h9 => h9) rfl hin rfl (by decide +kernel) rfl rfl (Nat.le_of_ble_eq_true rfl) dX6_init_18 (fun H locs hP hD hS => ?_)
  have hP : va_P (dC, dI) vwCl [(a0_, .inr (9, [.null, .ref q1, .int 0, .int 0, .int 0, .int 0, .ref q2, .int 0, .null])), (q1, .inl (cI, 32, .inl (fun _ => 0))), (q2, .inl (cI, 200, .inl (fun _ => 0)))] H := hP
  have hD : va_D A [(a0_, .inr (9, [.null, .ref q1, .int 0, .int 0, .int 0, .int 0, .ref q2, .int 0, .null])), (q1, .inl (cI, 32, .inl (fun _ => 0))), (q2, .inl (cI, 200, .inl (fun _ => 0)))] := hD
  refine lv_aload_n hx hb dX6_init_21 rfl (lv_at hl 0 rfl) ?_
  refine lv_iload_n hx hb dX6_init_22 rfl (lv_at hl 1 rfl) ?_
  refine va_newE (atype := .int) (ty := .int) (a0 := (N, .inl (fun _ => 0))) (cE := cI) hx hb (ht _ tw_3) rfl hK hP hD hS hA 0 rfl (fun _ => rfl) (nI_pos (by omega)) (nI_clamp (by omega)) (show N * 4 ≤ 536870912 by omega) (Nat.le_of_ble_eq_true rfl) (show 232 + N ≤ 4328 by omega) dX6_init_23 (fun q3 H hP hD hS => ?_)
  have hP : va_P (dC, dI) vwCl [(a0_, .inr (9, [.null, .ref q1, .int 0, .int 0, .int 0, .int 0, .ref q2, .int 0, .null])), (q1, .inl (cI, 32, .inl (fun _ => 0))), (q2, .inl (cI, 200, .inl (fun _ => 0))), (q3, .inl (cI, N, .inl (fun _ => 0)))] H := hP
  have hD : va_D A [(a0_, .inr (9, [.null, .ref q1, .int 0, .int 0, .int 0, .int 0, .ref q2, .int 0, .null])), (q1, .inl (cI, 32, .inl (fun _ => 0))), (q2, .inl (cI, 200, .inl (fun _ => 0))), (q3, .inl (cI, N, .inl (fun _ => 0)))] := hD
  refine W.widen (k := 3) (n := 4328) (by omega) (by omega) ?_
  refine va_putF (D := (dC, dI)) (ci := 9) (v := .ref q3) (ty := .array .int) (C := RX6) (T := TX6) (N := 9) hx hb ht itX6 tyX6 tyX6_ok nmX6 hown hK hP hD hS 0 rfl rfl 0 (by decide) (ht _ tw_134) (fun _ h9 => h9) rfl hin rfl (by decide +kernel) rfl rfl (Nat.le_of_ble_eq_true rfl) dX6_init_25 (fun H locs hP hD hS => ?_)
  have hP : va_P (dC, dI) vwCl [(a0_, .inr (9, [.ref q3, .ref q1, .int 0, .int 0, .int 0, .int 0, .ref q2, .int 0, .null])), (q1, .inl (cI, 32, .inl (fun _ => 0))), (q2, .inl (cI, 200, .inl (fun _ => 0))), (q3, .inl (cI, N, .inl (fun _ => 0)))] H := hP
  have hD : va_D A [(a0_, .inr (9, [.ref q3, .ref q1, .int 0, .int 0, .int 0, .int 0, .ref q2, .int 0, .null])), (q1, .inl (cI, 32, .inl (fun _ => 0))), (q2, .inl (cI, 200, .inl (fun _ => 0))), (q3, .inl (cI, N, .inl (fun _ => 0)))] := hD
  refine lv_aload_n hx hb dX6_init_28 rfl (lv_at hl 0 rfl) ?_
  refine lv_aload_n hx hb dX6_init_29 rfl (lv_at hl 2 rfl) ?_
  refine va_putF (D := (dC, dI)) (ci := 9) (v := .ref a1_) (ty := .object "PocketCompiler$Gifts") (C := RX6) (T := TX6) (N := 9) hx hb ht itX6 tyX6 tyX6_ok nmX6 hown hK hP hD hS 0 rfl rfl 8 (by decide) (ht _ tw_135) (fun _ h9 => h9) rfl hin rfl (by decide +kernel) rfl rfl (Nat.le_of_ble_eq_true rfl) dX6_init_30 (fun H locs hP hD hS => ?_)
  have hP : va_P (dC, dI) vwCl [(a0_, .inr (9, [.ref q3, .ref q1, .int 0, .int 0, .int 0, .int 0, .ref q2, .int 0, .ref a1_])), (q1, .inl (cI, 32, .inl (fun _ => 0))), (q2, .inl (cI, 200, .inl (fun _ => 0))), (q3, .inl (cI, N, .inl (fun _ => 0)))] H := hP
  have hD : va_D A [(a0_, .inr (9, [.ref q3, .ref q1, .int 0, .int 0, .int 0, .int 0, .ref q2, .int 0, .ref a1_])), (q1, .inl (cI, 32, .inl (fun _ => 0))), (q2, .inl (cI, 200, .inl (fun _ => 0))), (q3, .inl (cI, N, .inl (fun _ => 0)))] := hD
  have hP9 := hP.sub (ws' := [(a0_, .inr (9, [.ref q3, .ref q1, .int 0, .int 0, .int 0, .int 0, .ref q2, .int 0, .ref a1_])), (q1, .inl (cI, 32, .inl (fun _ => 0))), (q2, .inl (cI, 200, .inl (fun _ => 0))), (q3, .inl (cI, N, .inl (fun _ => 0)))]) [0, 1, 2, 3] rfl
  have hD9 := hD.sub (ws' := [(a0_, .inr (9, [.ref q3, .ref q1, .int 0, .int 0, .int 0, .int 0, .ref q2, .int 0, .ref a1_])), (q1, .inl (cI, 32, .inl (fun _ => 0))), (q2, .inl (cI, 200, .inl (fun _ => 0))), (q3, .inl (cI, N, .inl (fun _ => 0)))]) [0, 1, 2, 3] (by decide) rfl
  refine W.widen (k := 3) (n := 4328) (by omega) (by omega) ?_
  exact W.vret hx hb hr (fun t ht9 hW => ⟨⟨(q3, q1, q2), rfl, trivial, by rw [ht9]; exact hP9, hD9⟩, hS.F ht9⟩) hS.2.2 dX6_init_33
set_option maxHeartbeats 4000000 in
set_option maxRecDepth 100000 in
theorem c_X9_behindBlanks (l : Launch) (dC : Nat → ClassId) (dI : Nat → Nat → Nat) (cI cB cZ cJ cR : ClassId) (tb : Nat → Nat) (sz : Nat) (a0_ : Nat) (a1_ : Nat) (a2_ : Nat) (a3_ : Nat) (a4_ : Nat) (a5_ : Nat) (a6_ : Nat) (a7_ : Nat) (a8_ : Nat) (a9_ : Nat) (a10_ : Nat) (a11_ : Nat)  : Met l yX9_behindBlanks (Cond.code yX9_behindBlanks cX9_behindBlanks 5 (some .int) :: tw_W) ({ frames := 0, cells := 0, slots := 0, locals := 0 }) (pc_ (dC, dI) (tyS cI cB cZ cJ cR) tb [(a0_, .inr (12, [.ref a1_, .ref a2_, .ref a3_, .ref a4_, .int 0, .int 0, .int 0, .int (-1), .int 0, .int (-1)])), (a1_, .inr (10, [.ref a5_, .int 0, .ref a6_, .int 0, .ref a7_, .int 0, .ref a8_, .ref a9_, .ref a10_, .int 0, .ref a11_, .int 0, .int 0]))] sz [.ref a0_, .int 0]) (qi_ (dC, dI) [(a0_, .inr (12, [.ref a1_, .ref a2_, .ref a3_, .ref a4_, .int 0, .int 0, .int 0, .int (-1), .int 0, .int (-1)])), (a1_, .inr (10, [.ref a5_, .int 0, .ref a6_, .int 0, .ref a7_, .int 0, .ref a8_, .ref a9_, .ref a10_, .int 0, .ref a11_, .int 0, .int 0]))] sz (fun (r : Int32) (u : Unit) => r = 0) (fun (u : Unit) => [(a0_, .inr (12, [.ref a1_, .ref a2_, .ref a3_, .ref a4_, .int 0, .int 0, .int 0, .int (-1), .int 0, .int (-1)])), (a1_, .inr (10, [.ref a5_, .int 0, .ref a6_, .int 0, .ref a7_, .int 0, .ref a8_, .ref a9_, .ref a10_, .int 0, .ref a11_, .int 0, .int 0]))])) 0 0 (va_A [(a0_, .inr (12, [.ref a1_, .ref a2_, .ref a3_, .ref a4_, .int 0, .int 0, .int 0, .int (-1), .int 0, .int (-1)])), (a1_, .inr (10, [.ref a5_, .int 0, .ref a6_, .int 0, .ref a7_, .int 0, .ref a8_, .ref a9_, .ref a10_, .int 0, .ref a11_, .int 0, .int 0]))] sz) := by
  refine Met.ofW (cc := cX9_behindBlanks) (maxL := 5) (ret := (some .int)) (by decide) rfl ?_
  intro p e s m args below meth c s₁ B hml hv
  obtain ⟨rfl, hsz, hP, hKK, hD0, hFx⟩ := hv
  have hK := hKK.1
  have hx := B.exec
  have hb := B.bytes
  have hr := B.returns
  have ht : ∀ w ∈ tw_W, w.before _ s = true := fun w h => atoms_spec (ws := Cond.code yX9_behindBlanks cX9_behindBlanks 5 (some .int) :: tw_W) B.pre w (List.mem_cons_of_mem _ h)
  have hown : s.vm.findClass RX9 = some m.cls := findClass_of_methodNamed B.named
  have hlocks := B.notSynchronized
  subst hsz
  unfold qi_
  have hD := hD0.self (sz := s.heap.size)
  generalize hAe : va_A [(a0_, .inr (12, [.ref a1_, .ref a2_, .ref a3_, .ref a4_, .int 0, .int 0, .int 0, .int (-1), .int 0, .int (-1)])), (a1_, .inr (10, [.ref a5_, .int 0, .ref a6_, .int 0, .ref a7_, .int 0, .ref a8_, .ref a9_, .ref a10_, .int 0, .ref a11_, .int 0, .int 0]))] s.heap.size = A at hD hFx ⊢
  have hA : ∀ q : Nat, s.heap.size ≤ q → A q := fun q h => by rw [← hAe]; exact Or.inr h
  have hS : va_S A s.heap s.heap [] := va_S.rf
  have hP : va_P (dC, dI) vwCl [(a0_, .inr (12, [.ref a1_, .ref a2_, .ref a3_, .ref a4_, .int 0, .int 0, .int 0, .int (-1), .int 0, .int (-1)])), (a1_, .inr (10, [.ref a5_, .int 0, .ref a6_, .int 0, .ref a7_, .int 0, .ref a8_, .ref a9_, .ref a10_, .int 0, .ref a11_, .int 0, .int 0]))] s.heap := hP
  have hl := lv_entry ([.ref a0_, .int 0]) (n := 5) (Nat.le_of_ble_eq_true rfl)
  rw [lg_entry_eq]
  generalize (lg_sl ([.ref a0_, .int 0]) ++ List.replicate (5 - (lg_sl ([.ref a0_, .int 0])).length) Slot.unset).toArray = ls at hl ⊢
  have hl : lv_has ls 5 [(0, .ref a0_), (1, .int 0)] := hl
  refine lv_iconst (v := 0) hx hb dX9_behindBlanks_0 (by decide) ?_
  refine lv_istore_n (lv' := [(2, .int 0), (0, .ref a0_), (1, .int 0)]) hx hb dX9_behindBlanks_1 rfl hl (by decide) rfl (fun ls hl => ?_)
  refine lv_iload_n hx hb dX9_behindBlanks_2 rfl (lv_at hl 2 rfl) ?_
  refine lv_istore_n (lv' := [(3, .int 0), (2, .int 0), (0, .ref a0_), (1, .int 0)]) hx hb dX9_behindBlanks_3 rfl hl (by decide) rfl (fun ls hl => ?_)
  refine lv_iload_n hx hb dX9_behindBlanks_4 rfl (lv_at hl 0 rfl) ?_
  refine lv_aload_n hx hb dX9_behindBlanks_5 rfl (lv_at hl 2 rfl) ?_
  refine va_get (D := (dC, dI)) (ci := 12) (v := .ref a1_) (C := RX9) (T := TX9) (N := 10) hx hb ht itX9 hown hK hP 0 rfl rfl 0 (by decide) (ht _ tw_51) (fun _ h9 => h9) rfl dX9_behindBlanks_6 ?_
  refine va_get (D := (dC, dI)) (ci := 10) (v := .int 0) (C := RX7) (T := TX7) (N := 13) hx hb ht itX7 hown hK hP 1 rfl rfl 1 (by decide) (ht _ tw_155) (fun _ h9 => h9) rfl dX9_behindBlanks_9 ?_
  refine lv_icmp_ge (tgt := 108) hx hb dX9_behindBlanks_12 (by decide) (fun _ => ?_) (fun k1 => absurd k1 (by decide))
  refine lv_aload_n hx hb dX9_behindBlanks_108 rfl (lv_at hl 2 rfl) ?_
  refine va_get (D := (dC, dI)) (ci := 12) (v := .ref a1_) (C := RX9) (T := TX9) (N := 10) hx hb ht itX9 hown hK hP 0 rfl rfl 0 (by decide) (ht _ tw_51) (fun _ h9 => h9) rfl dX9_behindBlanks_109 ?_
  refine va_get (D := (dC, dI)) (ci := 10) (v := .int 0) (C := RX7) (T := TX7) (N := 13) hx hb ht itX7 hown hK hP 1 rfl rfl 1 (by decide) (ht _ tw_155) (fun _ h9 => h9) rfl dX9_behindBlanks_112 ?_
  have hP9 := hP.sub (ws' := [(a0_, .inr (12, [.ref a1_, .ref a2_, .ref a3_, .ref a4_, .int 0, .int 0, .int 0, .int (-1), .int 0, .int (-1)])), (a1_, .inr (10, [.ref a5_, .int 0, .ref a6_, .int 0, .ref a7_, .int 0, .ref a8_, .ref a9_, .ref a10_, .int 0, .ref a11_, .int 0, .int 0]))]) [0, 1] rfl
  have hD9 := hD.sub (ws' := [(a0_, .inr (12, [.ref a1_, .ref a2_, .ref a3_, .ref a4_, .int 0, .int 0, .int 0, .int (-1), .int 0, .int (-1)])), (a1_, .inr (10, [.ref a5_, .int 0, .ref a6_, .int 0, .ref a7_, .int 0, .ref a8_, .ref a9_, .ref a10_, .int 0, .ref a11_, .int 0, .int 0]))]) [0, 1] (by decide) rfl
  refine W.widen (k := 0) (n := 0) (by omega) (by omega) ?_
  exact W.iret (v := 0) hx hb hr (fun t ht9 hW => ⟨⟨0, (), rfl, rfl, by rw [ht9]; exact hP9, hD9⟩, hS.F ht9⟩) hS.2.2 dX9_behindBlanks_115
set_option maxHeartbeats 4000000 in
set_option maxRecDepth 100000 in
theorem c_X7_byteAt (l : Launch) (dC : Nat → ClassId) (dI : Nat → Nat → Nat) (cI cB cZ cJ cR : ClassId) (tb : Nat → Nat) (sz : Nat) (a0_ : Nat) (a1_ : Nat) (a2_ : Nat) (a3_ : Nat) (a4_ : Nat) (a5_ : Nat) (a6_ : Nat) (a7_ : Nat)  : Met l yX7_byteAt (Cond.code yX7_byteAt cX7_byteAt 2 (some .int) :: tw_W) ({ frames := 0, cells := 0, slots := 0, locals := 0 }) (pc_ (dC, dI) (tyS cI cB cZ cJ cR) tb [(a0_, .inr (10, [.ref a1_, .int 0, .ref a2_, .int 0, .ref a3_, .int 0, .ref a4_, .ref a5_, .ref a6_, .int 0, .ref a7_, .int 0, .int 0]))] sz [.ref a0_, .int 0]) (qi_ (dC, dI) [(a0_, .inr (10, [.ref a1_, .int 0, .ref a2_, .int 0, .ref a3_, .int 0, .ref a4_, .ref a5_, .ref a6_, .int 0, .ref a7_, .int 0, .int 0]))] sz (fun (r : Int32) (u : Unit) => r = (-1)) (fun (u : Unit) => [(a0_, .inr (10, [.ref a1_, .int 0, .ref a2_, .int 0, .ref a3_, .int 0, .ref a4_, .ref a5_, .ref a6_, .int 0, .ref a7_, .int 0, .int 0]))])) 0 0 (va_A [(a0_, .inr (10, [.ref a1_, .int 0, .ref a2_, .int 0, .ref a3_, .int 0, .ref a4_, .ref a5_, .ref a6_, .int 0, .ref a7_, .int 0, .int 0]))] sz) := by
  refine Met.ofW (cc := cX7_byteAt) (maxL := 2) (ret := (some .int)) (by decide) rfl ?_
  intro p e s m args below meth c s₁ B hml hv
  obtain ⟨rfl, hsz, hP, hKK, hD0, hFx⟩ := hv
  have hK := hKK.1
  have hx := B.exec
  have hb := B.bytes
  have hr := B.returns
  have ht : ∀ w ∈ tw_W, w.before _ s = true := fun w h => atoms_spec (ws := Cond.code yX7_byteAt cX7_byteAt 2 (some .int) :: tw_W) B.pre w (List.mem_cons_of_mem _ h)
  have hown : s.vm.findClass RX7 = some m.cls := findClass_of_methodNamed B.named
  have hlocks := B.notSynchronized
  subst hsz
  unfold qi_
  have hD := hD0.self (sz := s.heap.size)
  generalize hAe : va_A [(a0_, .inr (10, [.ref a1_, .int 0, .ref a2_, .int 0, .ref a3_, .int 0, .ref a4_, .ref a5_, .ref a6_, .int 0, .ref a7_, .int 0, .int 0]))] s.heap.size = A at hD hFx ⊢
  have hA : ∀ q : Nat, s.heap.size ≤ q → A q := fun q h => by rw [← hAe]; exact Or.inr h
  have hS : va_S A s.heap s.heap [] := va_S.rf
  have hP : va_P (dC, dI) vwCl [(a0_, .inr (10, [.ref a1_, .int 0, .ref a2_, .int 0, .ref a3_, .int 0, .ref a4_, .ref a5_, .ref a6_, .int 0, .ref a7_, .int 0, .int 0]))] s.heap := hP
  have hl := lv_entry ([.ref a0_, .int 0]) (n := 2) (Nat.le_of_ble_eq_true rfl)
  rw [lg_entry_eq]
  generalize (lg_sl ([.ref a0_, .int 0]) ++ List.replicate (2 - (lg_sl ([.ref a0_, .int 0])).length) Slot.unset).toArray = ls at hl ⊢
  have hl : lv_has ls 2 [(0, .ref a0_), (1, .int 0)] := hl
  refine lv_iload_n hx hb dX7_byteAt_0 rfl (lv_at hl 1 rfl) ?_
  refine lv_if_lt (tgt := 21) hx hb dX7_byteAt_1 (by decide) (fun k1 => absurd k1 (by decide)) (fun _ => ?_)
  refine lv_iload_n hx hb dX7_byteAt_4 rfl (lv_at hl 1 rfl) ?_
  refine lv_aload_n hx hb dX7_byteAt_5 rfl (lv_at hl 0 rfl) ?_
  refine va_get (D := (dC, dI)) (ci := 10) (v := .int 0) (C := RX7) (T := TX7) (N := 13) hx hb ht itX7 hown hK hP 0 rfl rfl 1 (by decide) (ht _ tw_158) (fun _ h9 => h9) rfl dX7_byteAt_6 ?_
  refine lv_icmp_ge (tgt := 21) hx hb dX7_byteAt_9 (by decide) (fun _ => ?_) (fun k2 => absurd k2 (by decide))
  refine lv_iconst (v := -1) hx hb dX7_byteAt_21 (by decide) ?_
  have hP9 := hP.sub (ws' := [(a0_, .inr (10, [.ref a1_, .int 0, .ref a2_, .int 0, .ref a3_, .int 0, .ref a4_, .ref a5_, .ref a6_, .int 0, .ref a7_, .int 0, .int 0]))]) [0] rfl
  have hD9 := hD.sub (ws' := [(a0_, .inr (10, [.ref a1_, .int 0, .ref a2_, .int 0, .ref a3_, .int 0, .ref a4_, .ref a5_, .ref a6_, .int 0, .ref a7_, .int 0, .int 0]))]) [0] (by decide) rfl
  refine W.widen (k := 0) (n := 0) (by omega) (by omega) ?_
  exact W.iret (v := (-1)) hx hb hr (fun t ht9 hW => ⟨⟨(-1), (), rfl, rfl, by rw [ht9]; exact hP9, hD9⟩, hS.F ht9⟩) hS.2.2 dX7_byteAt_22
set_option maxHeartbeats 4000000 in
set_option maxRecDepth 100000 in
theorem c_X9_add (l : Launch) (dC : Nat → ClassId) (dI : Nat → Nat → Nat) (cI cB cZ cJ cR : ClassId) (tb : Nat → Nat) (sz : Nat) (a0_ : Nat) (a1_ : Nat) (a2_ : Nat) (a3_ : Nat) (a4_ : Nat)  : Met l yX9_add (Cond.code yX9_add cX9_add 5 (some .int) :: tw_W) ({ frames := 0, cells := 0, slots := 0, locals := 0 }) (pc_ (dC, dI) (tyS cI cB cZ cJ cR) tb [(a0_, .inr (12, [.ref a1_, .ref a2_, .ref a3_, .ref a4_, .int 0, .int 0, .int 0, .int (-1), .int 0, .int (-1)])), (a2_, .inl (cI, 1503, .inl (fun _ => 0))), (a3_, .inl (cI, 1503, .inl (fun _ => 0))), (a4_, .inl (cI, 1503, .inl (fun _ => 0)))] sz [.ref a0_, .int 0, .int 0, .int 0, .int 0]) (qi_ (dC, dI) [(a0_, .inr (12, [.ref a1_, .ref a2_, .ref a3_, .ref a4_, .int 0, .int 0, .int 0, .int (-1), .int 0, .int (-1)])), (a2_, .inl (cI, 1503, .inl (fun _ => 0))), (a3_, .inl (cI, 1503, .inl (fun _ => 0))), (a4_, .inl (cI, 1503, .inl (fun _ => 0)))] sz (fun (r : Int32) (u : Unit) => r = 0) (fun (u : Unit) => [(a0_, .inr (12, [.ref a1_, .ref a2_, .ref a3_, .ref a4_, .int 1, .int 0, .int 0, .int (-1), .int 0, .int (-1)])), (a2_, .inl (cI, 1503, .inl (upd (fun _ => 0) 0 0))), (a3_, .inl (cI, 1503, .inl (upd (fun _ => 0) 0 0))), (a4_, .inl (cI, 1503, .inl (upd (fun _ => 0) 0 0)))])) 0 0 (va_A [(a0_, .inr (12, [.ref a1_, .ref a2_, .ref a3_, .ref a4_, .int 0, .int 0, .int 0, .int (-1), .int 0, .int (-1)])), (a2_, .inl (cI, 1503, .inl (fun _ => 0))), (a3_, .inl (cI, 1503, .inl (fun _ => 0))), (a4_, .inl (cI, 1503, .inl (fun _ => 0)))] sz) := by
  refine Met.ofW (cc := cX9_add) (maxL := 5) (ret := (some .int)) (by decide) rfl ?_
  intro p e s m args below meth c s₁ B hml hv
  obtain ⟨rfl, hsz, hP, hKK, hD0, hFx⟩ := hv
  have hK := hKK.1
  have hx := B.exec
  have hb := B.bytes
  have hr := B.returns
  have ht : ∀ w ∈ tw_W, w.before _ s = true := fun w h => atoms_spec (ws := Cond.code yX9_add cX9_add 5 (some .int) :: tw_W) B.pre w (List.mem_cons_of_mem _ h)
  have hown : s.vm.findClass RX9 = some m.cls := findClass_of_methodNamed B.named
  have hlocks := B.notSynchronized
  subst hsz
  unfold qi_
  have hD := hD0.self (sz := s.heap.size)
  generalize hAe : va_A [(a0_, .inr (12, [.ref a1_, .ref a2_, .ref a3_, .ref a4_, .int 0, .int 0, .int 0, .int (-1), .int 0, .int (-1)])), (a2_, .inl (cI, 1503, .inl (fun _ => 0))), (a3_, .inl (cI, 1503, .inl (fun _ => 0))), (a4_, .inl (cI, 1503, .inl (fun _ => 0)))] s.heap.size = A at hD hFx ⊢
  have hA : ∀ q : Nat, s.heap.size ≤ q → A q := fun q h => by rw [← hAe]; exact Or.inr h
  have hS : va_S A s.heap s.heap [] := va_S.rf
  have hP : va_P (dC, dI) vwCl [(a0_, .inr (12, [.ref a1_, .ref a2_, .ref a3_, .ref a4_, .int 0, .int 0, .int 0, .int (-1), .int 0, .int (-1)])), (a2_, .inl (cI, 1503, .inl (fun _ => 0))), (a3_, .inl (cI, 1503, .inl (fun _ => 0))), (a4_, .inl (cI, 1503, .inl (fun _ => 0)))] s.heap := hP
  have hl := lv_entry ([.ref a0_, .int 0, .int 0, .int 0, .int 0]) (n := 5) (Nat.le_of_ble_eq_true rfl)
  rw [lg_entry_eq]
  generalize (lg_sl ([.ref a0_, .int 0, .int 0, .int 0, .int 0]) ++ List.replicate (5 - (lg_sl ([.ref a0_, .int 0, .int 0, .int 0, .int 0])).length) Slot.unset).toArray = ls at hl ⊢
  have hl : lv_has ls 5 [(0, .ref a0_), (1, .int 0), (2, .int 0), (3, .int 0), (4, .int 0)] := hl
  refine lv_aload_n hx hb dX9_add_0 rfl (lv_at hl 0 rfl) ?_
  refine va_get (D := (dC, dI)) (ci := 12) (v := .int 0) (C := RX9) (T := TX9) (N := 10) hx hb ht itX9 hown hK hP 0 rfl rfl 4 (by decide) (ht _ tw_149) (fun _ h9 => h9) rfl dX9_add_1 ?_
  refine lv_sipush (v := 1503) hx hb dX9_add_4 (by decide) ?_
  refine lv_icmp_ge (tgt := 50) hx hb dX9_add_7 (by decide) (fun k1 => absurd k1 (by decide)) (fun _ => ?_)
  refine lv_aload_n hx hb dX9_add_10 rfl (lv_at hl 0 rfl) ?_
  refine va_get (D := (dC, dI)) (ci := 12) (v := .ref a2_) (C := RX9) (T := TX9) (N := 10) hx hb ht itX9 hown hK hP 0 rfl rfl 1 (by decide) (ht _ tw_48) (fun _ h9 => h9) rfl dX9_add_11 ?_
  refine lv_aload_n hx hb dX9_add_14 rfl (lv_at hl 0 rfl) ?_
  refine va_get (D := (dC, dI)) (ci := 12) (v := .int 0) (C := RX9) (T := TX9) (N := 10) hx hb ht itX9 hown hK hP 0 rfl rfl 4 (by decide) (ht _ tw_149) (fun _ h9 => h9) rfl dX9_add_15 ?_
  refine lv_iload_n hx hb dX9_add_18 rfl (lv_at hl 1 rfl) ?_
  refine va_iast (D := (dC, dI)) hx hb hK hP hD hS 1 0 rfl rfl (vp_in_iff.mpr (by decide)) dX9_add_19 (fun H locs hP hD hS => ?_)
  have hP : va_P (dC, dI) vwCl [(a0_, .inr (12, [.ref a1_, .ref a2_, .ref a3_, .ref a4_, .int 0, .int 0, .int 0, .int (-1), .int 0, .int (-1)])), (a2_, .inl (cI, 1503, .inl (upd (fun _ => 0) 0 0))), (a3_, .inl (cI, 1503, .inl (fun _ => 0))), (a4_, .inl (cI, 1503, .inl (fun _ => 0)))] H := hP
  have hD : va_D A [(a0_, .inr (12, [.ref a1_, .ref a2_, .ref a3_, .ref a4_, .int 0, .int 0, .int 0, .int (-1), .int 0, .int (-1)])), (a2_, .inl (cI, 1503, .inl (upd (fun _ => 0) 0 0))), (a3_, .inl (cI, 1503, .inl (fun _ => 0))), (a4_, .inl (cI, 1503, .inl (fun _ => 0)))] := hD
  refine lv_aload_n hx hb dX9_add_20 rfl (lv_at hl 0 rfl) ?_
  refine va_get (D := (dC, dI)) (ci := 12) (v := .ref a3_) (C := RX9) (T := TX9) (N := 10) hx hb ht itX9 hown hK hP 0 rfl rfl 2 (by decide) (ht _ tw_49) (fun _ h9 => h9) rfl dX9_add_21 ?_
  refine lv_aload_n hx hb dX9_add_24 rfl (lv_at hl 0 rfl) ?_
  refine va_get (D := (dC, dI)) (ci := 12) (v := .int 0) (C := RX9) (T := TX9) (N := 10) hx hb ht itX9 hown hK hP 0 rfl rfl 4 (by decide) (ht _ tw_149) (fun _ h9 => h9) rfl dX9_add_25 ?_
  refine lv_iload_n hx hb dX9_add_28 rfl (lv_at hl 2 rfl) ?_
  refine va_iast (D := (dC, dI)) hx hb hK hP hD hS 2 0 rfl rfl (vp_in_iff.mpr (by decide)) dX9_add_29 (fun H locs hP hD hS => ?_)
  have hP : va_P (dC, dI) vwCl [(a0_, .inr (12, [.ref a1_, .ref a2_, .ref a3_, .ref a4_, .int 0, .int 0, .int 0, .int (-1), .int 0, .int (-1)])), (a2_, .inl (cI, 1503, .inl (upd (fun _ => 0) 0 0))), (a3_, .inl (cI, 1503, .inl (upd (fun _ => 0) 0 0))), (a4_, .inl (cI, 1503, .inl (fun _ => 0)))] H := hP
  have hD : va_D A [(a0_, .inr (12, [.ref a1_, .ref a2_, .ref a3_, .ref a4_, .int 0, .int 0, .int 0, .int (-1), .int 0, .int (-1)])), (a2_, .inl (cI, 1503, .inl (upd (fun _ => 0) 0 0))), (a3_, .inl (cI, 1503, .inl (upd (fun _ => 0) 0 0))), (a4_, .inl (cI, 1503, .inl (fun _ => 0)))] := hD
  refine lv_aload_n hx hb dX9_add_30 rfl (lv_at hl 0 rfl) ?_
  refine va_get (D := (dC, dI)) (ci := 12) (v := .ref a4_) (C := RX9) (T := TX9) (N := 10) hx hb ht itX9 hown hK hP 0 rfl rfl 3 (by decide) (ht _ tw_50) (fun _ h9 => h9) rfl dX9_add_31 ?_
  refine lv_aload_n hx hb dX9_add_34 rfl (lv_at hl 0 rfl) ?_
  refine va_get (D := (dC, dI)) (ci := 12) (v := .int 0) (C := RX9) (T := TX9) (N := 10) hx hb ht itX9 hown hK hP 0 rfl rfl 4 (by decide) (ht _ tw_149) (fun _ h9 => h9) rfl dX9_add_35 ?_
  refine lv_iload_n hx hb dX9_add_38 rfl (lv_at hl 3 rfl) ?_
  refine va_iast (D := (dC, dI)) hx hb hK hP hD hS 3 0 rfl rfl (vp_in_iff.mpr (by decide)) dX9_add_39 (fun H locs hP hD hS => ?_)
  have hP : va_P (dC, dI) vwCl [(a0_, .inr (12, [.ref a1_, .ref a2_, .ref a3_, .ref a4_, .int 0, .int 0, .int 0, .int (-1), .int 0, .int (-1)])), (a2_, .inl (cI, 1503, .inl (upd (fun _ => 0) 0 0))), (a3_, .inl (cI, 1503, .inl (upd (fun _ => 0) 0 0))), (a4_, .inl (cI, 1503, .inl (upd (fun _ => 0) 0 0)))] H := hP
  have hD : va_D A [(a0_, .inr (12, [.ref a1_, .ref a2_, .ref a3_, .ref a4_, .int 0, .int 0, .int 0, .int (-1), .int 0, .int (-1)])), (a2_, .inl (cI, 1503, .inl (upd (fun _ => 0) 0 0))), (a3_, .inl (cI, 1503, .inl (upd (fun _ => 0) 0 0))), (a4_, .inl (cI, 1503, .inl (upd (fun _ => 0) 0 0)))] := hD
  refine lv_aload_n hx hb dX9_add_40 rfl (lv_at hl 0 rfl) ?_
  refine lv_dup hx hb dX9_add_41 rfl ?_
  refine va_get (D := (dC, dI)) (ci := 12) (v := .int 0) (C := RX9) (T := TX9) (N := 10) hx hb ht itX9 hown hK hP 0 rfl rfl 4 (by decide) (ht _ tw_149) (fun _ h9 => h9) rfl dX9_add_42 ?_
  refine lv_iconst (v := 1) hx hb dX9_add_45 (by decide) ?_
  refine lv_iadd hx hb dX9_add_46 ?_
  refine tp_i (y := 1) (by decide) ?_
  refine va_put (D := (dC, dI)) (ci := 12) (v := .int 1) (ty := .int) (C := RX9) (T := TX9) (N := 10) hx hb ht itX9 tyX9 tyX9_ok nmX9 hown hK hP hD hS 0 rfl rfl 4 (by decide) (ht _ tw_149) (fun _ h9 => h9) rfl (by decide +kernel) rfl rfl (Nat.le_of_ble_eq_true rfl) dX9_add_47 (fun H locs hP hD hS => ?_)
  have hP : va_P (dC, dI) vwCl [(a0_, .inr (12, [.ref a1_, .ref a2_, .ref a3_, .ref a4_, .int 1, .int 0, .int 0, .int (-1), .int 0, .int (-1)])), (a2_, .inl (cI, 1503, .inl (upd (fun _ => 0) 0 0))), (a3_, .inl (cI, 1503, .inl (upd (fun _ => 0) 0 0))), (a4_, .inl (cI, 1503, .inl (upd (fun _ => 0) 0 0)))] H := hP
  have hD : va_D A [(a0_, .inr (12, [.ref a1_, .ref a2_, .ref a3_, .ref a4_, .int 1, .int 0, .int 0, .int (-1), .int 0, .int (-1)])), (a2_, .inl (cI, 1503, .inl (upd (fun _ => 0) 0 0))), (a3_, .inl (cI, 1503, .inl (upd (fun _ => 0) 0 0))), (a4_, .inl (cI, 1503, .inl (upd (fun _ => 0) 0 0)))] := hD
  refine lv_iload_n hx hb dX9_add_50 rfl (lv_at hl 2 rfl) ?_
  refine lv_iload hx hb dX9_add_51 (lv_at hl 4 rfl) ?_
  refine lv_iadd hx hb dX9_add_53 ?_
  refine tp_i (y := 0) (by decide) ?_
  have hP9 := hP.sub (ws' := [(a0_, .inr (12, [.ref a1_, .ref a2_, .ref a3_, .ref a4_, .int 1, .int 0, .int 0, .int (-1), .int 0, .int (-1)])), (a2_, .inl (cI, 1503, .inl (upd (fun _ => 0) 0 0))), (a3_, .inl (cI, 1503, .inl (upd (fun _ => 0) 0 0))), (a4_, .inl (cI, 1503, .inl (upd (fun _ => 0) 0 0)))]) [0, 1, 2, 3] rfl
  have hD9 := hD.sub (ws' := [(a0_, .inr (12, [.ref a1_, .ref a2_, .ref a3_, .ref a4_, .int 1, .int 0, .int 0, .int (-1), .int 0, .int (-1)])), (a2_, .inl (cI, 1503, .inl (upd (fun _ => 0) 0 0))), (a3_, .inl (cI, 1503, .inl (upd (fun _ => 0) 0 0))), (a4_, .inl (cI, 1503, .inl (upd (fun _ => 0) 0 0)))]) [0, 1, 2, 3] (by decide) rfl
  refine W.widen (k := 0) (n := 0) (by omega) (by omega) ?_
  exact W.iret (v := 0) hx hb hr (fun t ht9 hW => ⟨⟨0, (), rfl, rfl, by rw [ht9]; exact hP9, hD9⟩, hS.F ht9⟩) hS.2.2 dX9_add_54
set_option maxHeartbeats 4000000 in
set_option maxRecDepth 100000 in
theorem c_X9_scanOne (l : Launch) (dC : Nat → ClassId) (dI : Nat → Nat → Nat) (cI cB cZ cJ cR : ClassId) (tb : Nat → Nat) (sz : Nat) (a0_ : Nat) (a1_ : Nat) (a2_ : Nat) (a3_ : Nat) (a4_ : Nat) (a5_ : Nat) (a6_ : Nat) (a7_ : Nat) (a8_ : Nat) (a9_ : Nat) (a10_ : Nat) (a11_ : Nat)  : Met l yX9_scanOne (Cond.code yX9_scanOne cX9_scanOne 3 (some .int) :: tw_W) ({ frames := 1, cells := 0, slots := 0, locals := 24 }) (pc_ (dC, dI) (tyS cI cB cZ cJ cR) tb [(a0_, .inr (12, [.ref a1_, .ref a2_, .ref a3_, .ref a4_, .int 0, .int 0, .int 0, .int (-1), .int 0, .int (-1)])), (a2_, .inl (cI, 1503, .inl (fun _ => 0))), (a3_, .inl (cI, 1503, .inl (fun _ => 0))), (a4_, .inl (cI, 1503, .inl (fun _ => 0))), (a1_, .inr (10, [.ref a5_, .int 0, .ref a6_, .int 0, .ref a7_, .int 0, .ref a8_, .ref a9_, .ref a10_, .int 0, .ref a11_, .int 0, .int 0]))] sz [.ref a0_, .int 0]) (qi_ (dC, dI) [(a0_, .inr (12, [.ref a1_, .ref a2_, .ref a3_, .ref a4_, .int 0, .int 0, .int 0, .int (-1), .int 0, .int (-1)])), (a2_, .inl (cI, 1503, .inl (fun _ => 0))), (a3_, .inl (cI, 1503, .inl (fun _ => 0))), (a4_, .inl (cI, 1503, .inl (fun _ => 0))), (a1_, .inr (10, [.ref a5_, .int 0, .ref a6_, .int 0, .ref a7_, .int 0, .ref a8_, .ref a9_, .ref a10_, .int 0, .ref a11_, .int 0, .int 0]))] sz (fun (r : Int32) (u : Unit) => r = 0) (fun (u : Unit) => [(a0_, .inr (12, [.ref a1_, .ref a2_, .ref a3_, .ref a4_, .int 1, .int 0, .int 0, .int (-1), .int 0, .int (-1)])), (a2_, .inl (cI, 1503, .inl (upd (fun _ => 0) 0 0))), (a3_, .inl (cI, 1503, .inl (upd (fun _ => 0) 0 0))), (a4_, .inl (cI, 1503, .inl (upd (fun _ => 0) 0 0))), (a1_, .inr (10, [.ref a5_, .int 0, .ref a6_, .int 0, .ref a7_, .int 0, .ref a8_, .ref a9_, .ref a10_, .int 0, .ref a11_, .int 0, .int 0]))])) 0 0 (va_A [(a0_, .inr (12, [.ref a1_, .ref a2_, .ref a3_, .ref a4_, .int 0, .int 0, .int 0, .int (-1), .int 0, .int (-1)])), (a2_, .inl (cI, 1503, .inl (fun _ => 0))), (a3_, .inl (cI, 1503, .inl (fun _ => 0))), (a4_, .inl (cI, 1503, .inl (fun _ => 0))), (a1_, .inr (10, [.ref a5_, .int 0, .ref a6_, .int 0, .ref a7_, .int 0, .ref a8_, .ref a9_, .ref a10_, .int 0, .ref a11_, .int 0, .int 0]))] sz) := by
  refine Met.ofW (cc := cX9_scanOne) (maxL := 3) (ret := (some .int)) (by decide) rfl ?_
  intro p e s m args below meth c s₁ B hml hv
  obtain ⟨rfl, hsz, hP, hKK, hD0, hFx⟩ := hv
  have hK := hKK.1
  have hx := B.exec
  have hb := B.bytes
  have hr := B.returns
  have ht : ∀ w ∈ tw_W, w.before _ s = true := fun w h => atoms_spec (ws := Cond.code yX9_scanOne cX9_scanOne 3 (some .int) :: tw_W) B.pre w (List.mem_cons_of_mem _ h)
  have hown : s.vm.findClass RX9 = some m.cls := findClass_of_methodNamed B.named
  have hlocks := B.notSynchronized
  subst hsz
  unfold qi_
  have hD := hD0.self (sz := s.heap.size)
  generalize hAe : va_A [(a0_, .inr (12, [.ref a1_, .ref a2_, .ref a3_, .ref a4_, .int 0, .int 0, .int 0, .int (-1), .int 0, .int (-1)])), (a2_, .inl (cI, 1503, .inl (fun _ => 0))), (a3_, .inl (cI, 1503, .inl (fun _ => 0))), (a4_, .inl (cI, 1503, .inl (fun _ => 0))), (a1_, .inr (10, [.ref a5_, .int 0, .ref a6_, .int 0, .ref a7_, .int 0, .ref a8_, .ref a9_, .ref a10_, .int 0, .ref a11_, .int 0, .int 0]))] s.heap.size = A at hD hFx ⊢
  have hA : ∀ q : Nat, s.heap.size ≤ q → A q := fun q h => by rw [← hAe]; exact Or.inr h
  have hS : va_S A s.heap s.heap [] := va_S.rf
  have hP : va_P (dC, dI) vwCl [(a0_, .inr (12, [.ref a1_, .ref a2_, .ref a3_, .ref a4_, .int 0, .int 0, .int 0, .int (-1), .int 0, .int (-1)])), (a2_, .inl (cI, 1503, .inl (fun _ => 0))), (a3_, .inl (cI, 1503, .inl (fun _ => 0))), (a4_, .inl (cI, 1503, .inl (fun _ => 0))), (a1_, .inr (10, [.ref a5_, .int 0, .ref a6_, .int 0, .ref a7_, .int 0, .ref a8_, .ref a9_, .ref a10_, .int 0, .ref a11_, .int 0, .int 0]))] s.heap := hP
  have hl := lv_entry ([.ref a0_, .int 0]) (n := 3) (Nat.le_of_ble_eq_true rfl)
  rw [lg_entry_eq]
  generalize (lg_sl ([.ref a0_, .int 0]) ++ List.replicate (3 - (lg_sl ([.ref a0_, .int 0])).length) Slot.unset).toArray = ls at hl ⊢
  have hl : lv_has ls 3 [(0, .ref a0_), (1, .int 0)] := hl
  refine lv_aload_n hx hb dX9_scanOne_0 rfl (lv_at hl 0 rfl) ?_
  refine va_get (D := (dC, dI)) (ci := 12) (v := .ref a1_) (C := RX9) (T := TX9) (N := 10) hx hb ht itX9 hown hK hP 0 rfl rfl 0 (by decide) (ht _ tw_51) (fun _ h9 => h9) rfl dX9_scanOne_1 ?_
  refine lv_iload_n hx hb dX9_scanOne_4 rfl (lv_at hl 1 rfl) ?_
  refine ca_i (wr := [(a0_, .inr (12, [.ref a1_, .ref a2_, .ref a3_, .ref a4_, .int 0, .int 0, .int 0, .int (-1), .int 0, .int (-1)])), (a2_, .inl (cI, 1503, .inl (fun _ => 0))), (a3_, .inl (cI, 1503, .inl (fun _ => 0))), (a4_, .inl (cI, 1503, .inl (fun _ => 0)))]) (rn_V (n := 1) (As := [.int 0]) (rest := []) hx hb hml hown ht hKK hFx hP hD hS hA (c_X7_byteAt l dC dI cI cB cZ cJ cR tb s.heap.size a1_ a5_ a6_ a7_ a8_ a9_ a10_ a11_) tw_159 tw_160 (by decide +kernel) rfl rfl ⟨Nat.le_of_ble_eq_true rfl, Nat.le_of_ble_eq_true rfl⟩ [4] rfl (by decide) rfl rfl rfl rfl hl.1 rfl (Nat.le_of_ble_eq_true rfl) dX9_scanOne_5 ⟨Nat.le_of_ble_eq_true rfl, Nat.le_of_ble_eq_true rfl⟩) hP hD hS hA (isC := [4]) (isR := [0, 1, 2, 3]) rfl rfl (by decide) (by decide) (fun r2 u H locs hw1 hP hD hS => ?_)
  subst hw1
  have hP : va_P (dC, dI) vwCl [(a0_, .inr (12, [.ref a1_, .ref a2_, .ref a3_, .ref a4_, .int 0, .int 0, .int 0, .int (-1), .int 0, .int (-1)])), (a2_, .inl (cI, 1503, .inl (fun _ => 0))), (a3_, .inl (cI, 1503, .inl (fun _ => 0))), (a4_, .inl (cI, 1503, .inl (fun _ => 0))), (a1_, .inr (10, [.ref a5_, .int 0, .ref a6_, .int 0, .ref a7_, .int 0, .ref a8_, .ref a9_, .ref a10_, .int 0, .ref a11_, .int 0, .int 0]))] H := hP
  have hD : va_D A [(a0_, .inr (12, [.ref a1_, .ref a2_, .ref a3_, .ref a4_, .int 0, .int 0, .int 0, .int (-1), .int 0, .int (-1)])), (a2_, .inl (cI, 1503, .inl (fun _ => 0))), (a3_, .inl (cI, 1503, .inl (fun _ => 0))), (a4_, .inl (cI, 1503, .inl (fun _ => 0))), (a1_, .inr (10, [.ref a5_, .int 0, .ref a6_, .int 0, .ref a7_, .int 0, .ref a8_, .ref a9_, .ref a10_, .int 0, .ref a11_, .int 0, .int 0]))] := hD
  refine W.widen (k := 0) (n := 0) (by omega) (by omega) ?_
  refine lv_istore_n (lv' := [(2, .int (-1)), (0, .ref a0_), (1, .int 0)]) hx hb dX9_scanOne_8 rfl hl (by decide) rfl (fun ls hl => ?_)
  refine lv_iload_n hx hb dX9_scanOne_9 rfl (lv_at hl 0 rfl) ?_
  refine lv_iconst (v := -1) hx hb dX9_scanOne_10 (by decide) ?_
  refine lv_icmp_ne (tgt := 23) hx hb dX9_scanOne_11 (by decide) (fun k3 => absurd k3 (by decide)) (fun _ => ?_)
  refine lv_aload_n hx hb dX9_scanOne_14 rfl (lv_at hl 1 rfl) ?_
  refine lv_iconst (v := 0) hx hb dX9_scanOne_15 (by decide) ?_
  refine lv_iload_n hx hb dX9_scanOne_16 rfl (lv_at hl 2 rfl) ?_
  refine lv_iconst (v := 0) hx hb dX9_scanOne_17 (by decide) ?_
  refine lv_iconst (v := 0) hx hb dX9_scanOne_18 (by decide) ?_
  refine ca_i (wr := [(a1_, .inr (10, [.ref a5_, .int 0, .ref a6_, .int 0, .ref a7_, .int 0, .ref a8_, .ref a9_, .ref a10_, .int 0, .ref a11_, .int 0, .int 0]))]) (rn_V (n := 4) (As := [.int 0, .int 0, .int 0, .int 0]) (rest := []) hx hb hml hown ht hKK hFx hP hD hS hA (c_X9_add l dC dI cI cB cZ cJ cR tb H.size a0_ a1_ a2_ a3_ a4_) tw_161 tw_162 (by decide +kernel) rfl rfl ⟨Nat.le_of_ble_eq_true rfl, Nat.le_of_ble_eq_true rfl⟩ [0, 1, 2, 3] rfl (by decide) rfl rfl rfl rfl hl.1 rfl (Nat.le_of_ble_eq_true rfl) dX9_scanOne_19 ⟨Nat.le_of_ble_eq_true rfl, Nat.le_of_ble_eq_true rfl⟩) hP hD hS hA (isC := [0, 1, 2, 3]) (isR := [4]) rfl rfl (by decide) (by decide) (fun r5 u H locs hw4 hP hD hS => ?_)
  subst hw4
  have hP : va_P (dC, dI) vwCl [(a1_, .inr (10, [.ref a5_, .int 0, .ref a6_, .int 0, .ref a7_, .int 0, .ref a8_, .ref a9_, .ref a10_, .int 0, .ref a11_, .int 0, .int 0])), (a0_, .inr (12, [.ref a1_, .ref a2_, .ref a3_, .ref a4_, .int 1, .int 0, .int 0, .int (-1), .int 0, .int (-1)])), (a2_, .inl (cI, 1503, .inl (upd (fun _ => 0) 0 0))), (a3_, .inl (cI, 1503, .inl (upd (fun _ => 0) 0 0))), (a4_, .inl (cI, 1503, .inl (upd (fun _ => 0) 0 0)))] H := hP
  have hD : va_D A [(a1_, .inr (10, [.ref a5_, .int 0, .ref a6_, .int 0, .ref a7_, .int 0, .ref a8_, .ref a9_, .ref a10_, .int 0, .ref a11_, .int 0, .int 0])), (a0_, .inr (12, [.ref a1_, .ref a2_, .ref a3_, .ref a4_, .int 1, .int 0, .int 0, .int (-1), .int 0, .int (-1)])), (a2_, .inl (cI, 1503, .inl (upd (fun _ => 0) 0 0))), (a3_, .inl (cI, 1503, .inl (upd (fun _ => 0) 0 0))), (a4_, .inl (cI, 1503, .inl (upd (fun _ => 0) 0 0)))] := hD
  refine W.widen (k := 0) (n := 0) (by omega) (by omega) ?_
  have hP9 := hP.sub (ws' := [(a0_, .inr (12, [.ref a1_, .ref a2_, .ref a3_, .ref a4_, .int 1, .int 0, .int 0, .int (-1), .int 0, .int (-1)])), (a2_, .inl (cI, 1503, .inl (upd (fun _ => 0) 0 0))), (a3_, .inl (cI, 1503, .inl (upd (fun _ => 0) 0 0))), (a4_, .inl (cI, 1503, .inl (upd (fun _ => 0) 0 0))), (a1_, .inr (10, [.ref a5_, .int 0, .ref a6_, .int 0, .ref a7_, .int 0, .ref a8_, .ref a9_, .ref a10_, .int 0, .ref a11_, .int 0, .int 0]))]) [1, 2, 3, 4, 0] rfl
  have hD9 := hD.sub (ws' := [(a0_, .inr (12, [.ref a1_, .ref a2_, .ref a3_, .ref a4_, .int 1, .int 0, .int 0, .int (-1), .int 0, .int (-1)])), (a2_, .inl (cI, 1503, .inl (upd (fun _ => 0) 0 0))), (a3_, .inl (cI, 1503, .inl (upd (fun _ => 0) 0 0))), (a4_, .inl (cI, 1503, .inl (upd (fun _ => 0) 0 0))), (a1_, .inr (10, [.ref a5_, .int 0, .ref a6_, .int 0, .ref a7_, .int 0, .ref a8_, .ref a9_, .ref a10_, .int 0, .ref a11_, .int 0, .int 0]))]) [1, 2, 3, 4, 0] (by decide) rfl
  refine W.widen (k := 0) (n := 0) (by omega) (by omega) ?_
  exact W.iret (v := 0) hx hb hr (fun t ht9 hW => ⟨⟨0, (), rfl, rfl, by rw [ht9]; exact hP9, hD9⟩, hS.F ht9⟩) hS.2.2 dX9_scanOne_22
set_option maxHeartbeats 4000000 in
set_option maxRecDepth 100000 in
theorem c_X9_scan (l : Launch) (dC : Nat → ClassId) (dI : Nat → Nat → Nat) (cI cB cZ cJ cR : ClassId) (tb : Nat → Nat) (sz : Nat) (a0_ : Nat) (a1_ : Nat) (a2_ : Nat) (a3_ : Nat) (a4_ : Nat) (a5_ : Nat) (a6_ : Nat) (a7_ : Nat) (a8_ : Nat) (a9_ : Nat) (a10_ : Nat) (a11_ : Nat)  : Met l yX9_scan (Cond.code yX9_scan cX9_scan 4 none :: tw_W) ({ frames := 2, cells := 0, slots := 0, locals := 46 }) (pc_ (dC, dI) (tyS cI cB cZ cJ cR) tb [(a0_, .inr (12, [.ref a1_, .ref a2_, .ref a3_, .ref a4_, .int 0, .int 0, .int 0, .int 0, .int 0, .int 0])), (a1_, .inr (10, [.ref a5_, .int 0, .ref a6_, .int 0, .ref a7_, .int 0, .ref a8_, .ref a9_, .ref a10_, .int 0, .ref a11_, .int 0, .int 0])), (a2_, .inl (cI, 1503, .inl (fun _ => 0))), (a3_, .inl (cI, 1503, .inl (fun _ => 0))), (a4_, .inl (cI, 1503, .inl (fun _ => 0)))] sz [.ref a0_, .ref a1_]) (qv_ (dC, dI) [(a0_, .inr (12, [.ref a1_, .ref a2_, .ref a3_, .ref a4_, .int 0, .int 0, .int 0, .int 0, .int 0, .int 0])), (a1_, .inr (10, [.ref a5_, .int 0, .ref a6_, .int 0, .ref a7_, .int 0, .ref a8_, .ref a9_, .ref a10_, .int 0, .ref a11_, .int 0, .int 0])), (a2_, .inl (cI, 1503, .inl (fun _ => 0))), (a3_, .inl (cI, 1503, .inl (fun _ => 0))), (a4_, .inl (cI, 1503, .inl (fun _ => 0)))] sz (fun (u : Unit) => True) (fun (u : Unit) => [(a0_, .inr (12, [.ref a1_, .ref a2_, .ref a3_, .ref a4_, .int 1, .int 0, .int 0, .int (-1), .int 0, .int (-1)])), (a1_, .inr (10, [.ref a5_, .int 0, .ref a6_, .int 0, .ref a7_, .int 0, .ref a8_, .ref a9_, .ref a10_, .int 0, .ref a11_, .int 0, .int 0])), (a2_, .inl (cI, 1503, .inl (upd (fun _ => 0) 0 0))), (a3_, .inl (cI, 1503, .inl (upd (fun _ => 0) 0 0))), (a4_, .inl (cI, 1503, .inl (upd (fun _ => 0) 0 0)))])) 0 0 (va_A [(a0_, .inr (12, [.ref a1_, .ref a2_, .ref a3_, .ref a4_, .int 0, .int 0, .int 0, .int 0, .int 0, .int 0])), (a1_, .inr (10, [.ref a5_, .int 0, .ref a6_, .int 0, .ref a7_, .int 0, .ref a8_, .ref a9_, .ref a10_, .int 0, .ref a11_, .int 0, .int 0])), (a2_, .inl (cI, 1503, .inl (fun _ => 0))), (a3_, .inl (cI, 1503, .inl (fun _ => 0))), (a4_, .inl (cI, 1503, .inl (fun _ => 0)))] sz) := by
  refine Met.ofW (cc := cX9_scan) (maxL := 4) (ret := none) (by decide) rfl ?_
  intro p e s m args below meth c s₁ B hml hv
  obtain ⟨rfl, hsz, hP, hKK, hD0, hFx⟩ := hv
  have hK := hKK.1
  have hx := B.exec
  have hb := B.bytes
  have hr := B.returns
  have ht : ∀ w ∈ tw_W, w.before _ s = true := fun w h => atoms_spec (ws := Cond.code yX9_scan cX9_scan 4 none :: tw_W) B.pre w (List.mem_cons_of_mem _ h)
  have hown : s.vm.findClass RX9 = some m.cls := findClass_of_methodNamed B.named
  have hlocks := B.notSynchronized
  subst hsz
  unfold qv_
  have hD := hD0.self (sz := s.heap.size)
  generalize hAe : va_A [(a0_, .inr (12, [.ref a1_, .ref a2_, .ref a3_, .ref a4_, .int 0, .int 0, .int 0, .int 0, .int 0, .int 0])), (a1_, .inr (10, [.ref a5_, .int 0, .ref a6_, .int 0, .ref a7_, .int 0, .ref a8_, .ref a9_, .ref a10_, .int 0, .ref a11_, .int 0, .int 0])), (a2_, .inl (cI, 1503, .inl (fun _ => 0))), (a3_, .inl (cI, 1503, .inl (fun _ => 0))), (a4_, .inl (cI, 1503, .inl (fun _ => 0)))] s.heap.size = A at hD hFx ⊢
  have hA : ∀ q : Nat, s.heap.size ≤ q → A q := fun q h => by rw [← hAe]; exact Or.inr h
  have hS : va_S A s.heap s.heap [] := va_S.rf
  have hP : va_P (dC, dI) vwCl [(a0_, .inr (12, [.ref a1_, .ref a2_, .ref a3_, .ref a4_, .int 0, .int 0, .int 0, .int 0, .int 0, .int 0])), (a1_, .inr (10, [.ref a5_, .int 0, .ref a6_, .int 0, .ref a7_, .int 0, .ref a8_, .ref a9_, .ref a10_, .int 0, .ref a11_, .int 0, .int 0])), (a2_, .inl (cI, 1503, .inl (fun _ => 0))), (a3_, .inl (cI, 1503, .inl (fun _ => 0))), (a4_, .inl (cI, 1503, .inl (fun _ => 0)))] s.heap := hP
  have hl := lv_entry ([.ref a0_, .ref a1_]) (n := 4) (Nat.le_of_ble_eq_true rfl)
  rw [lg_entry_eq]
  generalize (lg_sl ([.ref a0_, .ref a1_]) ++ List.replicate (4 - (lg_sl ([.ref a0_, .ref a1_])).length) Slot.unset).toArray = ls at hl ⊢
  have hl : lv_has ls 4 [(0, .ref a0_), (1, .ref a1_)] := hl
  refine lv_aload_n hx hb dX9_scan_0 rfl (lv_at hl 0 rfl) ?_
  refine lv_aload_n hx hb dX9_scan_1 rfl (lv_at hl 1 rfl) ?_
  refine va_put (D := (dC, dI)) (ci := 12) (v := .ref a1_) (ty := .object "PocketCompiler$Program") (C := RX9) (T := TX9) (N := 10) hx hb ht itX9 tyX9 tyX9_ok nmX9 hown hK hP hD hS 0 rfl rfl 0 (by decide) (ht _ tw_51) (fun _ h9 => h9) rfl (by decide +kernel) rfl rfl (Nat.le_of_ble_eq_true rfl) dX9_scan_2 (fun H locs hP hD hS => ?_)
  have hP : va_P (dC, dI) vwCl [(a0_, .inr (12, [.ref a1_, .ref a2_, .ref a3_, .ref a4_, .int 0, .int 0, .int 0, .int 0, .int 0, .int 0])), (a1_, .inr (10, [.ref a5_, .int 0, .ref a6_, .int 0, .ref a7_, .int 0, .ref a8_, .ref a9_, .ref a10_, .int 0, .ref a11_, .int 0, .int 0])), (a2_, .inl (cI, 1503, .inl (fun _ => 0))), (a3_, .inl (cI, 1503, .inl (fun _ => 0))), (a4_, .inl (cI, 1503, .inl (fun _ => 0)))] H := hP
  have hD : va_D A [(a0_, .inr (12, [.ref a1_, .ref a2_, .ref a3_, .ref a4_, .int 0, .int 0, .int 0, .int 0, .int 0, .int 0])), (a1_, .inr (10, [.ref a5_, .int 0, .ref a6_, .int 0, .ref a7_, .int 0, .ref a8_, .ref a9_, .ref a10_, .int 0, .ref a11_, .int 0, .int 0])), (a2_, .inl (cI, 1503, .inl (fun _ => 0))), (a3_, .inl (cI, 1503, .inl (fun _ => 0))), (a4_, .inl (cI, 1503, .inl (fun _ => 0)))] := hD
  refine lv_aload_n hx hb dX9_scan_5 rfl (lv_at hl 0 rfl) ?_
  refine lv_iconst (v := 0) hx hb dX9_scan_6 (by decide) ?_
  refine va_put (D := (dC, dI)) (ci := 12) (v := .int 0) (ty := .int) (C := RX9) (T := TX9) (N := 10) hx hb ht itX9 tyX9 tyX9_ok nmX9 hown hK hP hD hS 0 rfl rfl 4 (by decide) (ht _ tw_149) (fun _ h9 => h9) rfl (by decide +kernel) rfl rfl (Nat.le_of_ble_eq_true rfl) dX9_scan_7 (fun H locs hP hD hS => ?_)
  have hP : va_P (dC, dI) vwCl [(a0_, .inr (12, [.ref a1_, .ref a2_, .ref a3_, .ref a4_, .int 0, .int 0, .int 0, .int 0, .int 0, .int 0])), (a1_, .inr (10, [.ref a5_, .int 0, .ref a6_, .int 0, .ref a7_, .int 0, .ref a8_, .ref a9_, .ref a10_, .int 0, .ref a11_, .int 0, .int 0])), (a2_, .inl (cI, 1503, .inl (fun _ => 0))), (a3_, .inl (cI, 1503, .inl (fun _ => 0))), (a4_, .inl (cI, 1503, .inl (fun _ => 0)))] H := hP
  have hD : va_D A [(a0_, .inr (12, [.ref a1_, .ref a2_, .ref a3_, .ref a4_, .int 0, .int 0, .int 0, .int 0, .int 0, .int 0])), (a1_, .inr (10, [.ref a5_, .int 0, .ref a6_, .int 0, .ref a7_, .int 0, .ref a8_, .ref a9_, .ref a10_, .int 0, .ref a11_, .int 0, .int 0])), (a2_, .inl (cI, 1503, .inl (fun _ => 0))), (a3_, .inl (cI, 1503, .inl (fun _ => 0))), (a4_, .inl (cI, 1503, .inl (fun _ => 0)))] := hD
  refine lv_aload_n hx hb dX9_scan_10 rfl (lv_at hl 0 rfl) ?_
  refine lv_iconst (v := 0) hx hb dX9_scan_11 (by decide) ?_
  refine va_put (D := (dC, dI)) (ci := 12) (v := .int 0) (ty := .int) (C := RX9) (T := TX9) (N := 10) hx hb ht itX9 tyX9 tyX9_ok nmX9 hown hK hP hD hS 0 rfl rfl 5 (by decide) (ht _ tw_150) (fun _ h9 => h9) rfl (by decide +kernel) rfl rfl (Nat.le_of_ble_eq_true rfl) dX9_scan_12 (fun H locs hP hD hS => ?_)
  have hP : va_P (dC, dI) vwCl [(a0_, .inr (12, [.ref a1_, .ref a2_, .ref a3_, .ref a4_, .int 0, .int 0, .int 0, .int 0, .int 0, .int 0])), (a1_, .inr (10, [.ref a5_, .int 0, .ref a6_, .int 0, .ref a7_, .int 0, .ref a8_, .ref a9_, .ref a10_, .int 0, .ref a11_, .int 0, .int 0])), (a2_, .inl (cI, 1503, .inl (fun _ => 0))), (a3_, .inl (cI, 1503, .inl (fun _ => 0))), (a4_, .inl (cI, 1503, .inl (fun _ => 0)))] H := hP
  have hD : va_D A [(a0_, .inr (12, [.ref a1_, .ref a2_, .ref a3_, .ref a4_, .int 0, .int 0, .int 0, .int 0, .int 0, .int 0])), (a1_, .inr (10, [.ref a5_, .int 0, .ref a6_, .int 0, .ref a7_, .int 0, .ref a8_, .ref a9_, .ref a10_, .int 0, .ref a11_, .int 0, .int 0])), (a2_, .inl (cI, 1503, .inl (fun _ => 0))), (a3_, .inl (cI, 1503, .inl (fun _ => 0))), (a4_, .inl (cI, 1503, .inl (fun _ => 0)))] := hD
  refine lv_aload_n hx hb dX9_scan_15 rfl (lv_at hl 0 rfl) ?_
  refine lv_iconst (v := 0) hx hb dX9_scan_16 (by decide) ?_
  refine va_put (D := (dC, dI)) (ci := 12) (v := .int 0) (ty := .int) (C := RX9) (T := TX9) (N := 10) hx hb ht itX9 tyX9 tyX9_ok nmX9 hown hK hP hD hS 0 rfl rfl 6 (by decide) (ht _ tw_151) (fun _ h9 => h9) rfl (by decide +kernel) rfl rfl (Nat.le_of_ble_eq_true rfl) dX9_scan_17 (fun H locs hP hD hS => ?_)
  have hP : va_P (dC, dI) vwCl [(a0_, .inr (12, [.ref a1_, .ref a2_, .ref a3_, .ref a4_, .int 0, .int 0, .int 0, .int 0, .int 0, .int 0])), (a1_, .inr (10, [.ref a5_, .int 0, .ref a6_, .int 0, .ref a7_, .int 0, .ref a8_, .ref a9_, .ref a10_, .int 0, .ref a11_, .int 0, .int 0])), (a2_, .inl (cI, 1503, .inl (fun _ => 0))), (a3_, .inl (cI, 1503, .inl (fun _ => 0))), (a4_, .inl (cI, 1503, .inl (fun _ => 0)))] H := hP
  have hD : va_D A [(a0_, .inr (12, [.ref a1_, .ref a2_, .ref a3_, .ref a4_, .int 0, .int 0, .int 0, .int 0, .int 0, .int 0])), (a1_, .inr (10, [.ref a5_, .int 0, .ref a6_, .int 0, .ref a7_, .int 0, .ref a8_, .ref a9_, .ref a10_, .int 0, .ref a11_, .int 0, .int 0])), (a2_, .inl (cI, 1503, .inl (fun _ => 0))), (a3_, .inl (cI, 1503, .inl (fun _ => 0))), (a4_, .inl (cI, 1503, .inl (fun _ => 0)))] := hD
  refine lv_aload_n hx hb dX9_scan_20 rfl (lv_at hl 0 rfl) ?_
  refine lv_iconst (v := -1) hx hb dX9_scan_21 (by decide) ?_
  refine va_put (D := (dC, dI)) (ci := 12) (v := .int (-1)) (ty := .int) (C := RX9) (T := TX9) (N := 10) hx hb ht itX9 tyX9 tyX9_ok nmX9 hown hK hP hD hS 0 rfl rfl 7 (by decide) (ht _ tw_152) (fun _ h9 => h9) rfl (by decide +kernel) rfl rfl (Nat.le_of_ble_eq_true rfl) dX9_scan_22 (fun H locs hP hD hS => ?_)
  have hP : va_P (dC, dI) vwCl [(a0_, .inr (12, [.ref a1_, .ref a2_, .ref a3_, .ref a4_, .int 0, .int 0, .int 0, .int (-1), .int 0, .int 0])), (a1_, .inr (10, [.ref a5_, .int 0, .ref a6_, .int 0, .ref a7_, .int 0, .ref a8_, .ref a9_, .ref a10_, .int 0, .ref a11_, .int 0, .int 0])), (a2_, .inl (cI, 1503, .inl (fun _ => 0))), (a3_, .inl (cI, 1503, .inl (fun _ => 0))), (a4_, .inl (cI, 1503, .inl (fun _ => 0)))] H := hP
  have hD : va_D A [(a0_, .inr (12, [.ref a1_, .ref a2_, .ref a3_, .ref a4_, .int 0, .int 0, .int 0, .int (-1), .int 0, .int 0])), (a1_, .inr (10, [.ref a5_, .int 0, .ref a6_, .int 0, .ref a7_, .int 0, .ref a8_, .ref a9_, .ref a10_, .int 0, .ref a11_, .int 0, .int 0])), (a2_, .inl (cI, 1503, .inl (fun _ => 0))), (a3_, .inl (cI, 1503, .inl (fun _ => 0))), (a4_, .inl (cI, 1503, .inl (fun _ => 0)))] := hD
  refine lv_aload_n hx hb dX9_scan_25 rfl (lv_at hl 0 rfl) ?_
  refine lv_iconst (v := 0) hx hb dX9_scan_26 (by decide) ?_
  refine va_put (D := (dC, dI)) (ci := 12) (v := .int 0) (ty := .int) (C := RX9) (T := TX9) (N := 10) hx hb ht itX9 tyX9 tyX9_ok nmX9 hown hK hP hD hS 0 rfl rfl 8 (by decide) (ht _ tw_153) (fun _ h9 => h9) rfl (by decide +kernel) rfl rfl (Nat.le_of_ble_eq_true rfl) dX9_scan_27 (fun H locs hP hD hS => ?_)
  have hP : va_P (dC, dI) vwCl [(a0_, .inr (12, [.ref a1_, .ref a2_, .ref a3_, .ref a4_, .int 0, .int 0, .int 0, .int (-1), .int 0, .int 0])), (a1_, .inr (10, [.ref a5_, .int 0, .ref a6_, .int 0, .ref a7_, .int 0, .ref a8_, .ref a9_, .ref a10_, .int 0, .ref a11_, .int 0, .int 0])), (a2_, .inl (cI, 1503, .inl (fun _ => 0))), (a3_, .inl (cI, 1503, .inl (fun _ => 0))), (a4_, .inl (cI, 1503, .inl (fun _ => 0)))] H := hP
  have hD : va_D A [(a0_, .inr (12, [.ref a1_, .ref a2_, .ref a3_, .ref a4_, .int 0, .int 0, .int 0, .int (-1), .int 0, .int 0])), (a1_, .inr (10, [.ref a5_, .int 0, .ref a6_, .int 0, .ref a7_, .int 0, .ref a8_, .ref a9_, .ref a10_, .int 0, .ref a11_, .int 0, .int 0])), (a2_, .inl (cI, 1503, .inl (fun _ => 0))), (a3_, .inl (cI, 1503, .inl (fun _ => 0))), (a4_, .inl (cI, 1503, .inl (fun _ => 0)))] := hD
  refine lv_aload_n hx hb dX9_scan_30 rfl (lv_at hl 0 rfl) ?_
  refine lv_iconst (v := -1) hx hb dX9_scan_31 (by decide) ?_
  refine va_put (D := (dC, dI)) (ci := 12) (v := .int (-1)) (ty := .int) (C := RX9) (T := TX9) (N := 10) hx hb ht itX9 tyX9 tyX9_ok nmX9 hown hK hP hD hS 0 rfl rfl 9 (by decide) (ht _ tw_154) (fun _ h9 => h9) rfl (by decide +kernel) rfl rfl (Nat.le_of_ble_eq_true rfl) dX9_scan_32 (fun H locs hP hD hS => ?_)
  have hP : va_P (dC, dI) vwCl [(a0_, .inr (12, [.ref a1_, .ref a2_, .ref a3_, .ref a4_, .int 0, .int 0, .int 0, .int (-1), .int 0, .int (-1)])), (a1_, .inr (10, [.ref a5_, .int 0, .ref a6_, .int 0, .ref a7_, .int 0, .ref a8_, .ref a9_, .ref a10_, .int 0, .ref a11_, .int 0, .int 0])), (a2_, .inl (cI, 1503, .inl (fun _ => 0))), (a3_, .inl (cI, 1503, .inl (fun _ => 0))), (a4_, .inl (cI, 1503, .inl (fun _ => 0)))] H := hP
  have hD : va_D A [(a0_, .inr (12, [.ref a1_, .ref a2_, .ref a3_, .ref a4_, .int 0, .int 0, .int 0, .int (-1), .int 0, .int (-1)])), (a1_, .inr (10, [.ref a5_, .int 0, .ref a6_, .int 0, .ref a7_, .int 0, .ref a8_, .ref a9_, .ref a10_, .int 0, .ref a11_, .int 0, .int 0])), (a2_, .inl (cI, 1503, .inl (fun _ => 0))), (a3_, .inl (cI, 1503, .inl (fun _ => 0))), (a4_, .inl (cI, 1503, .inl (fun _ => 0)))] := hD
  refine lv_iconst (v := 0) hx hb dX9_scan_35 (by decide) ?_
  refine lv_istore_n (lv' := [(2, .int 0), (0, .ref a0_), (1, .ref a1_)]) hx hb dX9_scan_36 rfl hl (by decide) rfl (fun ls hl => ?_)
  refine lv_iconst (v := 0) hx hb dX9_scan_37 (by decide) ?_
  refine lv_istore_n (lv' := [(3, .int 0), (2, .int 0), (0, .ref a0_), (1, .ref a1_)]) hx hb dX9_scan_38 rfl hl (by decide) rfl (fun ls hl => ?_)
  refine lv_iload_n hx hb dX9_scan_39 rfl (lv_at hl 0 rfl) ?_
  refine lv_sipush (v := 1503) hx hb dX9_scan_40 (by decide) ?_
  refine lv_icmp_ge (tgt := 82) hx hb dX9_scan_43 (by decide) (fun k1 => absurd k1 (by decide)) (fun _ => ?_)
  refine lv_aload_n hx hb dX9_scan_46 rfl (lv_at hl 2 rfl) ?_
  refine lv_aload_n hx hb dX9_scan_47 rfl (lv_at hl 2 rfl) ?_
  refine lv_iload_n hx hb dX9_scan_48 rfl (lv_at hl 1 rfl) ?_
  refine ca_i (wr := [(a2_, .inl (cI, 1503, .inl (fun _ => 0))), (a3_, .inl (cI, 1503, .inl (fun _ => 0))), (a4_, .inl (cI, 1503, .inl (fun _ => 0)))]) (rn_V (n := 1) (As := [.int 0]) (rest := [.ref a0_]) hx hb hml hown ht hKK hFx hP hD hS hA (c_X9_behindBlanks l dC dI cI cB cZ cJ cR tb H.size a0_ a1_ a2_ a3_ a4_ a5_ a6_ a7_ a8_ a9_ a10_ a11_) tw_156 tw_157 (by decide +kernel) rfl rfl ⟨Nat.le_of_ble_eq_true rfl, Nat.le_of_ble_eq_true rfl⟩ [0, 1] rfl (by decide) rfl rfl rfl rfl hl.1 rfl (Nat.le_of_ble_eq_true rfl) dX9_scan_49 ⟨Nat.le_of_ble_eq_true rfl, Nat.le_of_ble_eq_true rfl⟩) hP hD hS hA (isC := [0, 1]) (isR := [2, 3, 4]) rfl rfl (by decide) (by decide) (fun r3 u H locs hw2 hP hD hS => ?_)
  subst hw2
  have hP : va_P (dC, dI) vwCl [(a2_, .inl (cI, 1503, .inl (fun _ => 0))), (a3_, .inl (cI, 1503, .inl (fun _ => 0))), (a4_, .inl (cI, 1503, .inl (fun _ => 0))), (a0_, .inr (12, [.ref a1_, .ref a2_, .ref a3_, .ref a4_, .int 0, .int 0, .int 0, .int (-1), .int 0, .int (-1)])), (a1_, .inr (10, [.ref a5_, .int 0, .ref a6_, .int 0, .ref a7_, .int 0, .ref a8_, .ref a9_, .ref a10_, .int 0, .ref a11_, .int 0, .int 0]))] H := hP
  have hD : va_D A [(a2_, .inl (cI, 1503, .inl (fun _ => 0))), (a3_, .inl (cI, 1503, .inl (fun _ => 0))), (a4_, .inl (cI, 1503, .inl (fun _ => 0))), (a0_, .inr (12, [.ref a1_, .ref a2_, .ref a3_, .ref a4_, .int 0, .int 0, .int 0, .int (-1), .int 0, .int (-1)])), (a1_, .inr (10, [.ref a5_, .int 0, .ref a6_, .int 0, .ref a7_, .int 0, .ref a8_, .ref a9_, .ref a10_, .int 0, .ref a11_, .int 0, .int 0]))] := hD
  refine W.widen (k := 0) (n := 0) (by omega) (by omega) ?_
  refine ca_i (wr := []) (rn_V (n := 1) (As := [.int 0]) (rest := []) hx hb hml hown ht hKK hFx hP hD hS hA (c_X9_scanOne l dC dI cI cB cZ cJ cR tb H.size a0_ a1_ a2_ a3_ a4_ a5_ a6_ a7_ a8_ a9_ a10_ a11_) tw_163 tw_164 (by decide +kernel) rfl rfl ⟨Nat.le_of_ble_eq_true rfl, Nat.le_of_ble_eq_true rfl⟩ [3, 0, 1, 2, 4] rfl (by decide) rfl rfl rfl rfl hl.1 rfl (Nat.le_of_ble_eq_true rfl) dX9_scan_52 ⟨Nat.le_of_ble_eq_true rfl, Nat.le_of_ble_eq_true rfl⟩) hP hD hS hA (isC := [3, 0, 1, 2, 4]) (isR := []) rfl rfl (by decide) (by decide) (fun r5 u H locs hw4 hP hD hS => ?_)
  subst hw4
  have hP : va_P (dC, dI) vwCl [(a0_, .inr (12, [.ref a1_, .ref a2_, .ref a3_, .ref a4_, .int 1, .int 0, .int 0, .int (-1), .int 0, .int (-1)])), (a2_, .inl (cI, 1503, .inl (upd (fun _ => 0) 0 0))), (a3_, .inl (cI, 1503, .inl (upd (fun _ => 0) 0 0))), (a4_, .inl (cI, 1503, .inl (upd (fun _ => 0) 0 0))), (a1_, .inr (10, [.ref a5_, .int 0, .ref a6_, .int 0, .ref a7_, .int 0, .ref a8_, .ref a9_, .ref a10_, .int 0, .ref a11_, .int 0, .int 0]))] H := hP
  have hD : va_D A [(a0_, .inr (12, [.ref a1_, .ref a2_, .ref a3_, .ref a4_, .int 1, .int 0, .int 0, .int (-1), .int 0, .int (-1)])), (a2_, .inl (cI, 1503, .inl (upd (fun _ => 0) 0 0))), (a3_, .inl (cI, 1503, .inl (upd (fun _ => 0) 0 0))), (a4_, .inl (cI, 1503, .inl (upd (fun _ => 0) 0 0))), (a1_, .inr (10, [.ref a5_, .int 0, .ref a6_, .int 0, .ref a7_, .int 0, .ref a8_, .ref a9_, .ref a10_, .int 0, .ref a11_, .int 0, .int 0]))] := hD
  refine W.widen (k := 0) (n := 0) (by omega) (by omega) ?_
  refine lv_istore_n (lv' := [(2, .int 0), (3, .int 0), (0, .ref a0_), (1, .ref a1_)]) hx hb dX9_scan_55 rfl hl (by decide) rfl (fun ls hl => ?_)
  refine lv_aload_n hx hb dX9_scan_56 rfl (lv_at hl 2 rfl) ?_
  refine va_get (D := (dC, dI)) (ci := 12) (v := .ref a2_) (C := RX9) (T := TX9) (N := 10) hx hb ht itX9 hown hK hP 0 rfl rfl 1 (by decide) (ht _ tw_48) (fun _ h9 => h9) rfl dX9_scan_57 ?_
  refine lv_iload_n hx hb dX9_scan_60 rfl (lv_at hl 1 rfl) ?_
  refine va_iald (D := (dC, dI)) hx hb hK hP 1 0 rfl rfl (vp_in_iff.mpr (by decide)) dX9_scan_61 ?_
  refine tp_i (y := 0) (rfl) ?_
  refine lv_if_eq (tgt := 75) hx hb dX9_scan_62 (by decide) (fun _ => ?_) (fun k6 => absurd k6 (by decide))
  have hP9 := hP.sub (ws' := [(a0_, .inr (12, [.ref a1_, .ref a2_, .ref a3_, .ref a4_, .int 1, .int 0, .int 0, .int (-1), .int 0, .int (-1)])), (a1_, .inr (10, [.ref a5_, .int 0, .ref a6_, .int 0, .ref a7_, .int 0, .ref a8_, .ref a9_, .ref a10_, .int 0, .ref a11_, .int 0, .int 0])), (a2_, .inl (cI, 1503, .inl (upd (fun _ => 0) 0 0))), (a3_, .inl (cI, 1503, .inl (upd (fun _ => 0) 0 0))), (a4_, .inl (cI, 1503, .inl (upd (fun _ => 0) 0 0)))]) [0, 4, 1, 2, 3] rfl
  have hD9 := hD.sub (ws' := [(a0_, .inr (12, [.ref a1_, .ref a2_, .ref a3_, .ref a4_, .int 1, .int 0, .int 0, .int (-1), .int 0, .int (-1)])), (a1_, .inr (10, [.ref a5_, .int 0, .ref a6_, .int 0, .ref a7_, .int 0, .ref a8_, .ref a9_, .ref a10_, .int 0, .ref a11_, .int 0, .int 0])), (a2_, .inl (cI, 1503, .inl (upd (fun _ => 0) 0 0))), (a3_, .inl (cI, 1503, .inl (upd (fun _ => 0) 0 0))), (a4_, .inl (cI, 1503, .inl (upd (fun _ => 0) 0 0)))]) [0, 4, 1, 2, 3] (by decide) rfl
  refine W.widen (k := 0) (n := 0) (by omega) (by omega) ?_
  exact W.vret hx hb hr (fun t ht9 hW => ⟨⟨(), rfl, trivial, by rw [ht9]; exact hP9, hD9⟩, hS.F ht9⟩) hS.2.2 dX9_scan_75
set_option maxHeartbeats 4000000 in
set_option maxRecDepth 100000 in
theorem c_X7_clear (l : Launch) (dC : Nat → ClassId) (dI : Nat → Nat → Nat) (cI cB cZ cJ cR : ClassId) (tb : Nat → Nat) (sz : Nat) (a0_ : Nat) (a1_ : Nat) (a2_ : Nat) (a3_ : Nat) (a4_ : Nat) (a5_ : Nat) (a6_ : Nat) (a7_ : Nat)  : Met l yX7_clear (Cond.code yX7_clear cX7_clear 1 none :: tw_W) ({ frames := 0, cells := 0, slots := 0, locals := 0 }) (pc_ (dC, dI) (tyS cI cB cZ cJ cR) tb [(a0_, .inr (10, [.ref a1_, .int 0, .ref a2_, .int 0, .ref a3_, .int 0, .ref a4_, .ref a5_, .ref a6_, .int 0, .ref a7_, .int 0, .int 0]))] sz [.ref a0_]) (qv_ (dC, dI) [(a0_, .inr (10, [.ref a1_, .int 0, .ref a2_, .int 0, .ref a3_, .int 0, .ref a4_, .ref a5_, .ref a6_, .int 0, .ref a7_, .int 0, .int 0]))] sz (fun (u : Unit) => True) (fun (u : Unit) => [(a0_, .inr (10, [.ref a1_, .int 0, .ref a2_, .int 0, .ref a3_, .int 0, .ref a4_, .ref a5_, .ref a6_, .int 0, .ref a7_, .int 0, .int 0]))])) 0 0 (va_A [(a0_, .inr (10, [.ref a1_, .int 0, .ref a2_, .int 0, .ref a3_, .int 0, .ref a4_, .ref a5_, .ref a6_, .int 0, .ref a7_, .int 0, .int 0]))] sz) := by
  refine Met.ofW (cc := cX7_clear) (maxL := 1) (ret := none) (by decide) rfl ?_
  intro p e s m args below meth c s₁ B hml hv
  obtain ⟨rfl, hsz, hP, hKK, hD0, hFx⟩ := hv
  have hK := hKK.1
  have hx := B.exec
  have hb := B.bytes
  have hr := B.returns
  have ht : ∀ w ∈ tw_W, w.before _ s = true := fun w h => atoms_spec (ws := Cond.code yX7_clear cX7_clear 1 none :: tw_W) B.pre w (List.mem_cons_of_mem _ h)
  have hown : s.vm.findClass RX7 = some m.cls := findClass_of_methodNamed B.named
  have hlocks := B.notSynchronized
  subst hsz
  unfold qv_
  have hD := hD0.self (sz := s.heap.size)
  generalize hAe : va_A [(a0_, .inr (10, [.ref a1_, .int 0, .ref a2_, .int 0, .ref a3_, .int 0, .ref a4_, .ref a5_, .ref a6_, .int 0, .ref a7_, .int 0, .int 0]))] s.heap.size = A at hD hFx ⊢
  have hA : ∀ q : Nat, s.heap.size ≤ q → A q := fun q h => by rw [← hAe]; exact Or.inr h
  have hS : va_S A s.heap s.heap [] := va_S.rf
  have hP : va_P (dC, dI) vwCl [(a0_, .inr (10, [.ref a1_, .int 0, .ref a2_, .int 0, .ref a3_, .int 0, .ref a4_, .ref a5_, .ref a6_, .int 0, .ref a7_, .int 0, .int 0]))] s.heap := hP
  have hl := lv_entry ([.ref a0_]) (n := 1) (Nat.le_of_ble_eq_true rfl)
  rw [lg_entry_eq]
  generalize (lg_sl ([.ref a0_]) ++ List.replicate (1 - (lg_sl ([.ref a0_])).length) Slot.unset).toArray = ls at hl ⊢
  have hl : lv_has ls 1 [(0, .ref a0_)] := hl
  refine lv_aload_n hx hb dX7_clear_0 rfl (lv_at hl 0 rfl) ?_
  refine lv_iconst (v := 0) hx hb dX7_clear_1 (by decide) ?_
  refine va_put (D := (dC, dI)) (ci := 10) (v := .int 0) (ty := .int) (C := RX7) (T := TX7) (N := 13) hx hb ht itX7 tyX7 tyX7_ok nmX7 hown hK hP hD hS 0 rfl rfl 3 (by decide) (ht _ tw_167) (fun _ h9 => h9) rfl (by decide +kernel) rfl rfl (Nat.le_of_ble_eq_true rfl) dX7_clear_2 (fun H locs hP hD hS => ?_)
  have hP : va_P (dC, dI) vwCl [(a0_, .inr (10, [.ref a1_, .int 0, .ref a2_, .int 0, .ref a3_, .int 0, .ref a4_, .ref a5_, .ref a6_, .int 0, .ref a7_, .int 0, .int 0]))] H := hP
  have hD : va_D A [(a0_, .inr (10, [.ref a1_, .int 0, .ref a2_, .int 0, .ref a3_, .int 0, .ref a4_, .ref a5_, .ref a6_, .int 0, .ref a7_, .int 0, .int 0]))] := hD
  refine lv_aload_n hx hb dX7_clear_5 rfl (lv_at hl 0 rfl) ?_
  refine lv_iconst (v := 0) hx hb dX7_clear_6 (by decide) ?_
  refine va_put (D := (dC, dI)) (ci := 10) (v := .int 0) (ty := .int) (C := RX7) (T := TX7) (N := 13) hx hb ht itX7 tyX7 tyX7_ok nmX7 hown hK hP hD hS 0 rfl rfl 5 (by decide) (ht _ tw_168) (fun _ h9 => h9) rfl (by decide +kernel) rfl rfl (Nat.le_of_ble_eq_true rfl) dX7_clear_7 (fun H locs hP hD hS => ?_)
  have hP : va_P (dC, dI) vwCl [(a0_, .inr (10, [.ref a1_, .int 0, .ref a2_, .int 0, .ref a3_, .int 0, .ref a4_, .ref a5_, .ref a6_, .int 0, .ref a7_, .int 0, .int 0]))] H := hP
  have hD : va_D A [(a0_, .inr (10, [.ref a1_, .int 0, .ref a2_, .int 0, .ref a3_, .int 0, .ref a4_, .ref a5_, .ref a6_, .int 0, .ref a7_, .int 0, .int 0]))] := hD
  refine lv_aload_n hx hb dX7_clear_10 rfl (lv_at hl 0 rfl) ?_
  refine lv_iconst (v := 0) hx hb dX7_clear_11 (by decide) ?_
  refine va_put (D := (dC, dI)) (ci := 10) (v := .int 0) (ty := .int) (C := RX7) (T := TX7) (N := 13) hx hb ht itX7 tyX7 tyX7_ok nmX7 hown hK hP hD hS 0 rfl rfl 9 (by decide) (ht _ tw_169) (fun _ h9 => h9) rfl (by decide +kernel) rfl rfl (Nat.le_of_ble_eq_true rfl) dX7_clear_12 (fun H locs hP hD hS => ?_)
  have hP : va_P (dC, dI) vwCl [(a0_, .inr (10, [.ref a1_, .int 0, .ref a2_, .int 0, .ref a3_, .int 0, .ref a4_, .ref a5_, .ref a6_, .int 0, .ref a7_, .int 0, .int 0]))] H := hP
  have hD : va_D A [(a0_, .inr (10, [.ref a1_, .int 0, .ref a2_, .int 0, .ref a3_, .int 0, .ref a4_, .ref a5_, .ref a6_, .int 0, .ref a7_, .int 0, .int 0]))] := hD
  refine lv_aload_n hx hb dX7_clear_15 rfl (lv_at hl 0 rfl) ?_
  refine lv_iconst (v := 0) hx hb dX7_clear_16 (by decide) ?_
  refine va_put (D := (dC, dI)) (ci := 10) (v := .int 0) (ty := .int) (C := RX7) (T := TX7) (N := 13) hx hb ht itX7 tyX7 tyX7_ok nmX7 hown hK hP hD hS 0 rfl rfl 11 (by decide) (ht _ tw_170) (fun _ h9 => h9) rfl (by decide +kernel) rfl rfl (Nat.le_of_ble_eq_true rfl) dX7_clear_17 (fun H locs hP hD hS => ?_)
  have hP : va_P (dC, dI) vwCl [(a0_, .inr (10, [.ref a1_, .int 0, .ref a2_, .int 0, .ref a3_, .int 0, .ref a4_, .ref a5_, .ref a6_, .int 0, .ref a7_, .int 0, .int 0]))] H := hP
  have hD : va_D A [(a0_, .inr (10, [.ref a1_, .int 0, .ref a2_, .int 0, .ref a3_, .int 0, .ref a4_, .ref a5_, .ref a6_, .int 0, .ref a7_, .int 0, .int 0]))] := hD
  refine lv_aload_n hx hb dX7_clear_20 rfl (lv_at hl 0 rfl) ?_
  refine lv_iconst (v := 0) hx hb dX7_clear_21 (by decide) ?_
  refine va_put (D := (dC, dI)) (ci := 10) (v := .int 0) (ty := .int) (C := RX7) (T := TX7) (N := 13) hx hb ht itX7 tyX7 tyX7_ok nmX7 hown hK hP hD hS 0 rfl rfl 12 (by decide) (ht _ tw_171) (fun _ h9 => h9) rfl (by decide +kernel) rfl rfl (Nat.le_of_ble_eq_true rfl) dX7_clear_22 (fun H locs hP hD hS => ?_)
  have hP : va_P (dC, dI) vwCl [(a0_, .inr (10, [.ref a1_, .int 0, .ref a2_, .int 0, .ref a3_, .int 0, .ref a4_, .ref a5_, .ref a6_, .int 0, .ref a7_, .int 0, .int 0]))] H := hP
  have hD : va_D A [(a0_, .inr (10, [.ref a1_, .int 0, .ref a2_, .int 0, .ref a3_, .int 0, .ref a4_, .ref a5_, .ref a6_, .int 0, .ref a7_, .int 0, .int 0]))] := hD
  have hP9 := hP.sub (ws' := [(a0_, .inr (10, [.ref a1_, .int 0, .ref a2_, .int 0, .ref a3_, .int 0, .ref a4_, .ref a5_, .ref a6_, .int 0, .ref a7_, .int 0, .int 0]))]) [0] rfl
  have hD9 := hD.sub (ws' := [(a0_, .inr (10, [.ref a1_, .int 0, .ref a2_, .int 0, .ref a3_, .int 0, .ref a4_, .ref a5_, .ref a6_, .int 0, .ref a7_, .int 0, .int 0]))]) [0] (by decide) rfl
  refine W.widen (k := 0) (n := 0) (by omega) (by omega) ?_
  exact W.vret hx hb hr (fun t ht9 hW => ⟨⟨(), rfl, trivial, by rw [ht9]; exact hP9, hD9⟩, hS.F ht9⟩) hS.2.2 dX7_clear_25
set_option maxHeartbeats 4000000 in
set_option maxRecDepth 100000 in
theorem c_X1_begin (l : Launch) (dC : Nat → ClassId) (dI : Nat → Nat → Nat) (cI cB cZ cJ cR : ClassId) (tb : Nat → Nat) (sz : Nat) (a0_ : Nat) (a1_ : Nat) (a2_ : Nat) (a3_ : Nat) (a4_ : Nat) (a5_ : Nat) (a6_ : Nat) (a7_ : Nat) (a8_ : Nat) (a9_ : Nat) (a10_ : Nat) (a11_ : Nat) (a12_ : Nat) (a13_ : Nat)  : Met l yX1_begin (Cond.code yX1_begin cX1_begin 2 none :: tw_W) ({ frames := 1, cells := 0, slots := 0, locals := 20 }) (pc_ (dC, dI) (tyS cI cB cZ cJ cR) tb [(a0_, .inr (5, [.ref a1_, .ref a2_, .int 0, .int 0, .int 0, .int 0, .ref a3_, .int 0, .ref a4_, .ref a5_, .ref a6_, .int 0])), (a1_, .inr (10, [.ref a7_, .int 0, .ref a8_, .int 0, .ref a9_, .int 0, .ref a10_, .ref a11_, .ref a12_, .int 0, .ref a13_, .int 0, .int 0]))] sz [.ref a0_, .ref a1_]) (qv_ (dC, dI) [(a0_, .inr (5, [.ref a1_, .ref a2_, .int 0, .int 0, .int 0, .int 0, .ref a3_, .int 0, .ref a4_, .ref a5_, .ref a6_, .int 0])), (a1_, .inr (10, [.ref a7_, .int 0, .ref a8_, .int 0, .ref a9_, .int 0, .ref a10_, .ref a11_, .ref a12_, .int 0, .ref a13_, .int 0, .int 0]))] sz (fun (u : Unit) => True) (fun (u : Unit) => [(a0_, .inr (5, [.ref a1_, .ref a2_, .int 0, .int 0, .int 0, .int 0, .ref a3_, .int 0, .ref a4_, .ref a5_, .ref a6_, .int 0])), (a1_, .inr (10, [.ref a7_, .int 0, .ref a8_, .int 0, .ref a9_, .int 0, .ref a10_, .ref a11_, .ref a12_, .int 0, .ref a13_, .int 0, .int 0]))])) 0 0 (va_A [(a0_, .inr (5, [.ref a1_, .ref a2_, .int 0, .int 0, .int 0, .int 0, .ref a3_, .int 0, .ref a4_, .ref a5_, .ref a6_, .int 0])), (a1_, .inr (10, [.ref a7_, .int 0, .ref a8_, .int 0, .ref a9_, .int 0, .ref a10_, .ref a11_, .ref a12_, .int 0, .ref a13_, .int 0, .int 0]))] sz) := by
  refine Met.ofW (cc := cX1_begin) (maxL := 2) (ret := none) (by decide) rfl ?_
  intro p e s m args below meth c s₁ B hml hv
  obtain ⟨rfl, hsz, hP, hKK, hD0, hFx⟩ := hv
  have hK := hKK.1
  have hx := B.exec
  have hb := B.bytes
  have hr := B.returns
  have ht : ∀ w ∈ tw_W, w.before _ s = true := fun w h => atoms_spec (ws := Cond.code yX1_begin cX1_begin 2 none :: tw_W) B.pre w (List.mem_cons_of_mem _ h)
  have hown : s.vm.findClass RX1 = some m.cls := findClass_of_methodNamed B.named
  have hlocks := B.notSynchronized
  subst hsz
  unfold qv_
  have hD := hD0.self (sz := s.heap.size)
  generalize hAe : va_A [(a0_, .inr (5, [.ref a1_, .ref a2_, .int 0, .int 0, .int 0, .int 0, .ref a3_, .int 0, .ref a4_, .ref a5_, .ref a6_, .int 0])), (a1_, .inr (10, [.ref a7_, .int 0, .ref a8_, .int 0, .ref a9_, .int 0, .ref a10_, .ref a11_, .ref a12_, .int 0, .ref a13_, .int 0, .int 0]))] s.heap.size = A at hD hFx ⊢
  have hA : ∀ q : Nat, s.heap.size ≤ q → A q := fun q h => by rw [← hAe]; exact Or.inr h
  have hS : va_S A s.heap s.heap [] := va_S.rf
  have hP : va_P (dC, dI) vwCl [(a0_, .inr (5, [.ref a1_, .ref a2_, .int 0, .int 0, .int 0, .int 0, .ref a3_, .int 0, .ref a4_, .ref a5_, .ref a6_, .int 0])), (a1_, .inr (10, [.ref a7_, .int 0, .ref a8_, .int 0, .ref a9_, .int 0, .ref a10_, .ref a11_, .ref a12_, .int 0, .ref a13_, .int 0, .int 0]))] s.heap := hP
  have hl := lv_entry ([.ref a0_, .ref a1_]) (n := 2) (Nat.le_of_ble_eq_true rfl)
  rw [lg_entry_eq]
  generalize (lg_sl ([.ref a0_, .ref a1_]) ++ List.replicate (2 - (lg_sl ([.ref a0_, .ref a1_])).length) Slot.unset).toArray = ls at hl ⊢
  have hl : lv_has ls 2 [(0, .ref a0_), (1, .ref a1_)] := hl
  refine lv_aload_n hx hb dX1_begin_0 rfl (lv_at hl 0 rfl) ?_
  refine lv_aload_n hx hb dX1_begin_1 rfl (lv_at hl 1 rfl) ?_
  refine va_put (D := (dC, dI)) (ci := 5) (v := .ref a1_) (ty := .object "PocketCompiler$Program") (C := RX1) (T := TX1) (N := 12) hx hb ht itX1 tyX1 tyX1_ok nmX1 hown hK hP hD hS 0 rfl rfl 0 (by decide) (ht _ tw_36) (fun _ h9 => h9) rfl (by decide +kernel) rfl rfl (Nat.le_of_ble_eq_true rfl) dX1_begin_2 (fun H locs hP hD hS => ?_)
  have hP : va_P (dC, dI) vwCl [(a0_, .inr (5, [.ref a1_, .ref a2_, .int 0, .int 0, .int 0, .int 0, .ref a3_, .int 0, .ref a4_, .ref a5_, .ref a6_, .int 0])), (a1_, .inr (10, [.ref a7_, .int 0, .ref a8_, .int 0, .ref a9_, .int 0, .ref a10_, .ref a11_, .ref a12_, .int 0, .ref a13_, .int 0, .int 0]))] H := hP
  have hD : va_D A [(a0_, .inr (5, [.ref a1_, .ref a2_, .int 0, .int 0, .int 0, .int 0, .ref a3_, .int 0, .ref a4_, .ref a5_, .ref a6_, .int 0])), (a1_, .inr (10, [.ref a7_, .int 0, .ref a8_, .int 0, .ref a9_, .int 0, .ref a10_, .ref a11_, .ref a12_, .int 0, .ref a13_, .int 0, .int 0]))] := hD
  refine lv_aload_n hx hb dX1_begin_5 rfl (lv_at hl 0 rfl) ?_
  refine va_get (D := (dC, dI)) (ci := 5) (v := .ref a1_) (C := RX1) (T := TX1) (N := 12) hx hb ht itX1 hown hK hP 0 rfl rfl 0 (by decide) (ht _ tw_36) (fun _ h9 => h9) rfl dX1_begin_6 ?_
  refine ca_v (wr := [(a0_, .inr (5, [.ref a1_, .ref a2_, .int 0, .int 0, .int 0, .int 0, .ref a3_, .int 0, .ref a4_, .ref a5_, .ref a6_, .int 0]))]) (rn_V (n := 0) (As := []) (rest := []) hx hb hml hown ht hKK hFx hP hD hS hA (c_X7_clear l dC dI cI cB cZ cJ cR tb H.size a1_ a7_ a8_ a9_ a10_ a11_ a12_ a13_) tw_172 tw_173 (by decide +kernel) rfl rfl ⟨Nat.le_of_ble_eq_true rfl, Nat.le_of_ble_eq_true rfl⟩ [1] rfl (by decide) rfl rfl rfl rfl hl.1 rfl (Nat.le_of_ble_eq_true rfl) dX1_begin_9 ⟨Nat.le_of_ble_eq_true rfl, Nat.le_of_ble_eq_true rfl⟩) hP hD hS hA (isC := [1]) (isR := [0]) rfl rfl (by decide) (by decide) (fun u H locs hw1 hP hD hS => ?_)
  have hP : va_P (dC, dI) vwCl [(a0_, .inr (5, [.ref a1_, .ref a2_, .int 0, .int 0, .int 0, .int 0, .ref a3_, .int 0, .ref a4_, .ref a5_, .ref a6_, .int 0])), (a1_, .inr (10, [.ref a7_, .int 0, .ref a8_, .int 0, .ref a9_, .int 0, .ref a10_, .ref a11_, .ref a12_, .int 0, .ref a13_, .int 0, .int 0]))] H := hP
  have hD : va_D A [(a0_, .inr (5, [.ref a1_, .ref a2_, .int 0, .int 0, .int 0, .int 0, .ref a3_, .int 0, .ref a4_, .ref a5_, .ref a6_, .int 0])), (a1_, .inr (10, [.ref a7_, .int 0, .ref a8_, .int 0, .ref a9_, .int 0, .ref a10_, .ref a11_, .ref a12_, .int 0, .ref a13_, .int 0, .int 0]))] := hD
  refine W.widen (k := 0) (n := 0) (by omega) (by omega) ?_
  refine lv_aload_n hx hb dX1_begin_12 rfl (lv_at hl 0 rfl) ?_
  refine lv_iconst (v := 0) hx hb dX1_begin_13 (by decide) ?_
  refine va_put (D := (dC, dI)) (ci := 5) (v := .int 0) (ty := .int) (C := RX1) (T := TX1) (N := 12) hx hb ht itX1 tyX1 tyX1_ok nmX1 hown hK hP hD hS 0 rfl rfl 7 (by decide) (ht _ tw_174) (fun _ h9 => h9) rfl (by decide +kernel) rfl rfl (Nat.le_of_ble_eq_true rfl) dX1_begin_14 (fun H locs hP hD hS => ?_)
  have hP : va_P (dC, dI) vwCl [(a0_, .inr (5, [.ref a1_, .ref a2_, .int 0, .int 0, .int 0, .int 0, .ref a3_, .int 0, .ref a4_, .ref a5_, .ref a6_, .int 0])), (a1_, .inr (10, [.ref a7_, .int 0, .ref a8_, .int 0, .ref a9_, .int 0, .ref a10_, .ref a11_, .ref a12_, .int 0, .ref a13_, .int 0, .int 0]))] H := hP
  have hD : va_D A [(a0_, .inr (5, [.ref a1_, .ref a2_, .int 0, .int 0, .int 0, .int 0, .ref a3_, .int 0, .ref a4_, .ref a5_, .ref a6_, .int 0])), (a1_, .inr (10, [.ref a7_, .int 0, .ref a8_, .int 0, .ref a9_, .int 0, .ref a10_, .ref a11_, .ref a12_, .int 0, .ref a13_, .int 0, .int 0]))] := hD
  refine lv_aload_n hx hb dX1_begin_17 rfl (lv_at hl 0 rfl) ?_
  refine lv_iconst (v := 0) hx hb dX1_begin_18 (by decide) ?_
  refine va_put (D := (dC, dI)) (ci := 5) (v := .int 0) (ty := .int) (C := RX1) (T := TX1) (N := 12) hx hb ht itX1 tyX1 tyX1_ok nmX1 hown hK hP hD hS 0 rfl rfl 11 (by decide) (ht _ tw_175) (fun _ h9 => h9) rfl (by decide +kernel) rfl rfl (Nat.le_of_ble_eq_true rfl) dX1_begin_19 (fun H locs hP hD hS => ?_)
  have hP : va_P (dC, dI) vwCl [(a0_, .inr (5, [.ref a1_, .ref a2_, .int 0, .int 0, .int 0, .int 0, .ref a3_, .int 0, .ref a4_, .ref a5_, .ref a6_, .int 0])), (a1_, .inr (10, [.ref a7_, .int 0, .ref a8_, .int 0, .ref a9_, .int 0, .ref a10_, .ref a11_, .ref a12_, .int 0, .ref a13_, .int 0, .int 0]))] H := hP
  have hD : va_D A [(a0_, .inr (5, [.ref a1_, .ref a2_, .int 0, .int 0, .int 0, .int 0, .ref a3_, .int 0, .ref a4_, .ref a5_, .ref a6_, .int 0])), (a1_, .inr (10, [.ref a7_, .int 0, .ref a8_, .int 0, .ref a9_, .int 0, .ref a10_, .ref a11_, .ref a12_, .int 0, .ref a13_, .int 0, .int 0]))] := hD
  have hP9 := hP.sub (ws' := [(a0_, .inr (5, [.ref a1_, .ref a2_, .int 0, .int 0, .int 0, .int 0, .ref a3_, .int 0, .ref a4_, .ref a5_, .ref a6_, .int 0])), (a1_, .inr (10, [.ref a7_, .int 0, .ref a8_, .int 0, .ref a9_, .int 0, .ref a10_, .ref a11_, .ref a12_, .int 0, .ref a13_, .int 0, .int 0]))]) [0, 1] rfl
  have hD9 := hD.sub (ws' := [(a0_, .inr (5, [.ref a1_, .ref a2_, .int 0, .int 0, .int 0, .int 0, .ref a3_, .int 0, .ref a4_, .ref a5_, .ref a6_, .int 0])), (a1_, .inr (10, [.ref a7_, .int 0, .ref a8_, .int 0, .ref a9_, .int 0, .ref a10_, .ref a11_, .ref a12_, .int 0, .ref a13_, .int 0, .int 0]))]) [0, 1] (by decide) rfl
  refine W.widen (k := 0) (n := 0) (by omega) (by omega) ?_
  exact W.vret hx hb hr (fun t ht9 hW => ⟨⟨(), rfl, trivial, by rw [ht9]; exact hP9, hD9⟩, hS.F ht9⟩) hS.2.2 dX1_begin_22
set_option maxHeartbeats 4000000 in
set_option maxRecDepth 100000 in
theorem c_X2_begin (l : Launch) (dC : Nat → ClassId) (dI : Nat → Nat → Nat) (cI cB cZ cJ cR : ClassId) (tb : Nat → Nat) (sz : Nat) (a0_ : Nat) (a1_ : Nat) (a2_ : Nat) (a3_ : Nat) (a4_ : Nat)  : Met l yX2_begin (Cond.code yX2_begin cX2_begin 1 none :: tw_W) ({ frames := 0, cells := 0, slots := 0, locals := 0 }) (pc_ (dC, dI) (tyS cI cB cZ cJ cR) tb [(a0_, .inr (6, [.ref a1_, .ref a2_, .ref a3_, .ref a4_, .int 0]))] sz [.ref a0_]) (qv_ (dC, dI) [(a0_, .inr (6, [.ref a1_, .ref a2_, .ref a3_, .ref a4_, .int 0]))] sz (fun (u : Unit) => True) (fun (u : Unit) => [(a0_, .inr (6, [.ref a1_, .ref a2_, .ref a3_, .ref a4_, .int 0]))])) 0 0 (va_A [(a0_, .inr (6, [.ref a1_, .ref a2_, .ref a3_, .ref a4_, .int 0]))] sz) := by
  refine Met.ofW (cc := cX2_begin) (maxL := 1) (ret := none) (by decide) rfl ?_
  intro p e s m args below meth c s₁ B hml hv
  obtain ⟨rfl, hsz, hP, hKK, hD0, hFx⟩ := hv
  have hK := hKK.1
  have hx := B.exec
  have hb := B.bytes
  have hr := B.returns
  have ht : ∀ w ∈ tw_W, w.before _ s = true := fun w h => atoms_spec (ws := Cond.code yX2_begin cX2_begin 1 none :: tw_W) B.pre w (List.mem_cons_of_mem _ h)
  have hown : s.vm.findClass RX2 = some m.cls := findClass_of_methodNamed B.named
  have hlocks := B.notSynchronized
  subst hsz
  unfold qv_
  have hD := hD0.self (sz := s.heap.size)
  generalize hAe : va_A [(a0_, .inr (6, [.ref a1_, .ref a2_, .ref a3_, .ref a4_, .int 0]))] s.heap.size = A at hD hFx ⊢
  have hA : ∀ q : Nat, s.heap.size ≤ q → A q := fun q h => by rw [← hAe]; exact Or.inr h
  have hS : va_S A s.heap s.heap [] := va_S.rf
  have hP : va_P (dC, dI) vwCl [(a0_, .inr (6, [.ref a1_, .ref a2_, .ref a3_, .ref a4_, .int 0]))] s.heap := hP
  have hl := lv_entry ([.ref a0_]) (n := 1) (Nat.le_of_ble_eq_true rfl)
  rw [lg_entry_eq]
  generalize (lg_sl ([.ref a0_]) ++ List.replicate (1 - (lg_sl ([.ref a0_])).length) Slot.unset).toArray = ls at hl ⊢
  have hl : lv_has ls 1 [(0, .ref a0_)] := hl
  refine lv_aload_n hx hb dX2_begin_0 rfl (lv_at hl 0 rfl) ?_
  refine lv_iconst (v := 0) hx hb dX2_begin_1 (by decide) ?_
  refine va_put (D := (dC, dI)) (ci := 6) (v := .int 0) (ty := .int) (C := RX2) (T := TX2) (N := 5) hx hb ht itX2 tyX2 tyX2_ok nmX2 hown hK hP hD hS 0 rfl rfl 4 (by decide) (ht _ tw_178) (fun _ h9 => h9) rfl (by decide +kernel) rfl rfl (Nat.le_of_ble_eq_true rfl) dX2_begin_2 (fun H locs hP hD hS => ?_)
  have hP : va_P (dC, dI) vwCl [(a0_, .inr (6, [.ref a1_, .ref a2_, .ref a3_, .ref a4_, .int 0]))] H := hP
  have hD : va_D A [(a0_, .inr (6, [.ref a1_, .ref a2_, .ref a3_, .ref a4_, .int 0]))] := hD
  have hP9 := hP.sub (ws' := [(a0_, .inr (6, [.ref a1_, .ref a2_, .ref a3_, .ref a4_, .int 0]))]) [0] rfl
  have hD9 := hD.sub (ws' := [(a0_, .inr (6, [.ref a1_, .ref a2_, .ref a3_, .ref a4_, .int 0]))]) [0] (by decide) rfl
  refine W.widen (k := 0) (n := 0) (by omega) (by omega) ?_
  exact W.vret hx hb hr (fun t ht9 hW => ⟨⟨(), rfl, trivial, by rw [ht9]; exact hP9, hD9⟩, hS.F ht9⟩) hS.2.2 dX2_begin_5
set_option maxHeartbeats 4000000 in
set_option maxRecDepth 100000 in
theorem c_X9_kind (l : Launch) (dC : Nat → ClassId) (dI : Nat → Nat → Nat) (cI cB cZ cJ cR : ClassId) (tb : Nat → Nat) (sz : Nat) (a0_ : Nat) (a1_ : Nat) (a2_ : Nat) (a3_ : Nat) (a4_ : Nat)  : Met l yX9_kind (Cond.code yX9_kind cX9_kind 1 (some .int) :: tw_W) ({ frames := 0, cells := 0, slots := 0, locals := 0 }) (pc_ (dC, dI) (tyS cI cB cZ cJ cR) tb [(a0_, .inr (12, [.ref a1_, .ref a2_, .ref a3_, .ref a4_, .int 1, .int 0, .int 0, .int (-1), .int 0, .int (-1)])), (a2_, .inl (cI, 1503, .inl (upd (fun _ => 0) 0 0)))] sz [.ref a0_]) (qi_ (dC, dI) [(a0_, .inr (12, [.ref a1_, .ref a2_, .ref a3_, .ref a4_, .int 1, .int 0, .int 0, .int (-1), .int 0, .int (-1)])), (a2_, .inl (cI, 1503, .inl (upd (fun _ => 0) 0 0)))] sz (fun (r : Int32) (u : Unit) => r = 0) (fun (u : Unit) => [(a0_, .inr (12, [.ref a1_, .ref a2_, .ref a3_, .ref a4_, .int 1, .int 0, .int 0, .int (-1), .int 0, .int (-1)])), (a2_, .inl (cI, 1503, .inl (upd (fun _ => 0) 0 0)))])) 0 0 (va_A [(a0_, .inr (12, [.ref a1_, .ref a2_, .ref a3_, .ref a4_, .int 1, .int 0, .int 0, .int (-1), .int 0, .int (-1)])), (a2_, .inl (cI, 1503, .inl (upd (fun _ => 0) 0 0)))] sz) := by
  refine Met.ofW (cc := cX9_kind) (maxL := 1) (ret := (some .int)) (by decide) rfl ?_
  intro p e s m args below meth c s₁ B hml hv
  obtain ⟨rfl, hsz, hP, hKK, hD0, hFx⟩ := hv
  have hK := hKK.1
  have hx := B.exec
  have hb := B.bytes
  have hr := B.returns
  have ht : ∀ w ∈ tw_W, w.before _ s = true := fun w h => atoms_spec (ws := Cond.code yX9_kind cX9_kind 1 (some .int) :: tw_W) B.pre w (List.mem_cons_of_mem _ h)
  have hown : s.vm.findClass RX9 = some m.cls := findClass_of_methodNamed B.named
  have hlocks := B.notSynchronized
  subst hsz
  unfold qi_
  have hD := hD0.self (sz := s.heap.size)
  generalize hAe : va_A [(a0_, .inr (12, [.ref a1_, .ref a2_, .ref a3_, .ref a4_, .int 1, .int 0, .int 0, .int (-1), .int 0, .int (-1)])), (a2_, .inl (cI, 1503, .inl (upd (fun _ => 0) 0 0)))] s.heap.size = A at hD hFx ⊢
  have hA : ∀ q : Nat, s.heap.size ≤ q → A q := fun q h => by rw [← hAe]; exact Or.inr h
  have hS : va_S A s.heap s.heap [] := va_S.rf
  have hP : va_P (dC, dI) vwCl [(a0_, .inr (12, [.ref a1_, .ref a2_, .ref a3_, .ref a4_, .int 1, .int 0, .int 0, .int (-1), .int 0, .int (-1)])), (a2_, .inl (cI, 1503, .inl (upd (fun _ => 0) 0 0)))] s.heap := hP
  have hl := lv_entry ([.ref a0_]) (n := 1) (Nat.le_of_ble_eq_true rfl)
  rw [lg_entry_eq]
  generalize (lg_sl ([.ref a0_]) ++ List.replicate (1 - (lg_sl ([.ref a0_])).length) Slot.unset).toArray = ls at hl ⊢
  have hl : lv_has ls 1 [(0, .ref a0_)] := hl
  refine lv_aload_n hx hb dX9_kind_0 rfl (lv_at hl 0 rfl) ?_
  refine va_get (D := (dC, dI)) (ci := 12) (v := .int 0) (C := RX9) (T := TX9) (N := 10) hx hb ht itX9 hown hK hP 0 rfl rfl 5 (by decide) (ht _ tw_150) (fun _ h9 => h9) rfl dX9_kind_1 ?_
  refine lv_if_lt (tgt := 30) hx hb dX9_kind_4 (by decide) (fun k1 => absurd k1 (by decide)) (fun _ => ?_)
  refine lv_aload_n hx hb dX9_kind_7 rfl (lv_at hl 0 rfl) ?_
  refine va_get (D := (dC, dI)) (ci := 12) (v := .int 0) (C := RX9) (T := TX9) (N := 10) hx hb ht itX9 hown hK hP 0 rfl rfl 5 (by decide) (ht _ tw_150) (fun _ h9 => h9) rfl dX9_kind_8 ?_
  refine lv_aload_n hx hb dX9_kind_11 rfl (lv_at hl 0 rfl) ?_
  refine va_get (D := (dC, dI)) (ci := 12) (v := .int 1) (C := RX9) (T := TX9) (N := 10) hx hb ht itX9 hown hK hP 0 rfl rfl 4 (by decide) (ht _ tw_149) (fun _ h9 => h9) rfl dX9_kind_12 ?_
  refine lv_icmp_ge (tgt := 30) hx hb dX9_kind_15 (by decide) (fun k2 => absurd k2 (by decide)) (fun _ => ?_)
  refine lv_aload_n hx hb dX9_kind_18 rfl (lv_at hl 0 rfl) ?_
  refine va_get (D := (dC, dI)) (ci := 12) (v := .ref a2_) (C := RX9) (T := TX9) (N := 10) hx hb ht itX9 hown hK hP 0 rfl rfl 1 (by decide) (ht _ tw_48) (fun _ h9 => h9) rfl dX9_kind_19 ?_
  refine lv_aload_n hx hb dX9_kind_22 rfl (lv_at hl 0 rfl) ?_
  refine va_get (D := (dC, dI)) (ci := 12) (v := .int 0) (C := RX9) (T := TX9) (N := 10) hx hb ht itX9 hown hK hP 0 rfl rfl 5 (by decide) (ht _ tw_150) (fun _ h9 => h9) rfl dX9_kind_23 ?_
  refine va_iald (D := (dC, dI)) hx hb hK hP 1 0 rfl rfl (vp_in_iff.mpr (by decide)) dX9_kind_26 ?_
  refine tp_i (y := 0) (rfl) ?_
  refine lv_goto (tgt := 31) hx hb dX9_kind_27 (by decide) ?_
  have hP9 := hP.sub (ws' := [(a0_, .inr (12, [.ref a1_, .ref a2_, .ref a3_, .ref a4_, .int 1, .int 0, .int 0, .int (-1), .int 0, .int (-1)])), (a2_, .inl (cI, 1503, .inl (upd (fun _ => 0) 0 0)))]) [0, 1] rfl
  have hD9 := hD.sub (ws' := [(a0_, .inr (12, [.ref a1_, .ref a2_, .ref a3_, .ref a4_, .int 1, .int 0, .int 0, .int (-1), .int 0, .int (-1)])), (a2_, .inl (cI, 1503, .inl (upd (fun _ => 0) 0 0)))]) [0, 1] (by decide) rfl
  refine W.widen (k := 0) (n := 0) (by omega) (by omega) ?_
  exact W.iret (v := 0) hx hb hr (fun t ht9 hW => ⟨⟨0, (), rfl, rfl, by rw [ht9]; exact hP9, hD9⟩, hS.F ht9⟩) hS.2.2 dX9_kind_31
set_option maxHeartbeats 4000000 in
set_option maxRecDepth 100000 in
theorem c_X5_checkCalls (l : Launch) (dC : Nat → ClassId) (dI : Nat → Nat → Nat) (cI cB cZ cJ cR : ClassId) (tb : Nat → Nat) (sz : Nat) (a0_ : Nat) (a1_ : Nat) (a2_ : Nat) (a3_ : Nat) (a4_ : Nat) (a5_ : Nat) (a6_ : Nat) (a7_ : Nat) (a8_ : Nat) (a9_ : Nat)  : Met l yX5_checkCalls (Cond.code yX5_checkCalls cX5_checkCalls 2 none :: tw_W) ({ frames := 0, cells := 0, slots := 0, locals := 0 }) (pc_ (dC, dI) (tyS cI cB cZ cJ cR) tb [(a0_, .inr (8, [.ref a1_, .ref a2_, .ref a3_, .ref a4_, .int 0, .int 0, .int 0])), (a3_, .inr (5, [.ref a1_, .ref a5_, .int 0, .int 0, .int 0, .int 0, .ref a6_, .int 0, .ref a7_, .ref a8_, .ref a9_, .int 0]))] sz [.ref a0_]) (qv_ (dC, dI) [(a0_, .inr (8, [.ref a1_, .ref a2_, .ref a3_, .ref a4_, .int 0, .int 0, .int 0])), (a3_, .inr (5, [.ref a1_, .ref a5_, .int 0, .int 0, .int 0, .int 0, .ref a6_, .int 0, .ref a7_, .ref a8_, .ref a9_, .int 0]))] sz (fun (u : Unit) => True) (fun (u : Unit) => [(a0_, .inr (8, [.ref a1_, .ref a2_, .ref a3_, .ref a4_, .int 0, .int 0, .int 0])), (a3_, .inr (5, [.ref a1_, .ref a5_, .int 0, .int 0, .int 0, .int 0, .ref a6_, .int 0, .ref a7_, .ref a8_, .ref a9_, .int 0]))])) 0 0 (va_A [(a0_, .inr (8, [.ref a1_, .ref a2_, .ref a3_, .ref a4_, .int 0, .int 0, .int 0])), (a3_, .inr (5, [.ref a1_, .ref a5_, .int 0, .int 0, .int 0, .int 0, .ref a6_, .int 0, .ref a7_, .ref a8_, .ref a9_, .int 0]))] sz) := by
  refine Met.ofW (cc := cX5_checkCalls) (maxL := 2) (ret := none) (by decide) rfl ?_
  intro p e s m args below meth c s₁ B hml hv
  obtain ⟨rfl, hsz, hP, hKK, hD0, hFx⟩ := hv
  have hK := hKK.1
  have hx := B.exec
  have hb := B.bytes
  have hr := B.returns
  have ht : ∀ w ∈ tw_W, w.before _ s = true := fun w h => atoms_spec (ws := Cond.code yX5_checkCalls cX5_checkCalls 2 none :: tw_W) B.pre w (List.mem_cons_of_mem _ h)
  have hown : s.vm.findClass RX5 = some m.cls := findClass_of_methodNamed B.named
  have hlocks := B.notSynchronized
  subst hsz
  unfold qv_
  have hD := hD0.self (sz := s.heap.size)
  generalize hAe : va_A [(a0_, .inr (8, [.ref a1_, .ref a2_, .ref a3_, .ref a4_, .int 0, .int 0, .int 0])), (a3_, .inr (5, [.ref a1_, .ref a5_, .int 0, .int 0, .int 0, .int 0, .ref a6_, .int 0, .ref a7_, .ref a8_, .ref a9_, .int 0]))] s.heap.size = A at hD hFx ⊢
  have hA : ∀ q : Nat, s.heap.size ≤ q → A q := fun q h => by rw [← hAe]; exact Or.inr h
  have hS : va_S A s.heap s.heap [] := va_S.rf
  have hP : va_P (dC, dI) vwCl [(a0_, .inr (8, [.ref a1_, .ref a2_, .ref a3_, .ref a4_, .int 0, .int 0, .int 0])), (a3_, .inr (5, [.ref a1_, .ref a5_, .int 0, .int 0, .int 0, .int 0, .ref a6_, .int 0, .ref a7_, .ref a8_, .ref a9_, .int 0]))] s.heap := hP
  have hl := lv_entry ([.ref a0_]) (n := 2) (Nat.le_of_ble_eq_true rfl)
  rw [lg_entry_eq]
  generalize (lg_sl ([.ref a0_]) ++ List.replicate (2 - (lg_sl ([.ref a0_])).length) Slot.unset).toArray = ls at hl ⊢
  have hl : lv_has ls 2 [(0, .ref a0_)] := hl
  refine lv_iconst (v := 0) hx hb dX5_checkCalls_0 (by decide) ?_
  refine lv_istore_n (lv' := [(1, .int 0), (0, .ref a0_)]) hx hb dX5_checkCalls_1 rfl hl (by decide) rfl (fun ls hl => ?_)
  refine lv_iload_n hx hb dX5_checkCalls_2 rfl (lv_at hl 0 rfl) ?_
  refine lv_aload_n hx hb dX5_checkCalls_3 rfl (lv_at hl 1 rfl) ?_
  refine va_get (D := (dC, dI)) (ci := 8) (v := .ref a3_) (C := RX5) (T := TX5) (N := 7) hx hb ht itX5 hown hK hP 0 rfl rfl 2 (by decide) (ht _ tw_64) (fun _ h9 => h9) rfl dX5_checkCalls_4 ?_
  refine va_getN (D := (dC, dI)) (ci := 5) (v := .int 0) (C := RX1) (T := TX1) (N := 12) hx hb ht itX1 hown hK hP 1 rfl rfl 11 (by decide) (hKK.fld 7 rfl) (fun _ h9 => h9) rfl dX5_checkCalls_7 ?_
  refine lv_icmp_ge (tgt := 74) hx hb dX5_checkCalls_10 (by decide) (fun _ => ?_) (fun k1 => absurd k1 (by decide))
  have hP9 := hP.sub (ws' := [(a0_, .inr (8, [.ref a1_, .ref a2_, .ref a3_, .ref a4_, .int 0, .int 0, .int 0])), (a3_, .inr (5, [.ref a1_, .ref a5_, .int 0, .int 0, .int 0, .int 0, .ref a6_, .int 0, .ref a7_, .ref a8_, .ref a9_, .int 0]))]) [0, 1] rfl
  have hD9 := hD.sub (ws' := [(a0_, .inr (8, [.ref a1_, .ref a2_, .ref a3_, .ref a4_, .int 0, .int 0, .int 0])), (a3_, .inr (5, [.ref a1_, .ref a5_, .int 0, .int 0, .int 0, .int 0, .ref a6_, .int 0, .ref a7_, .ref a8_, .ref a9_, .int 0]))]) [0, 1] (by decide) rfl
  refine W.widen (k := 0) (n := 0) (by omega) (by omega) ?_
  exact W.vret hx hb hr (fun t ht9 hW => ⟨⟨(), rfl, trivial, by rw [ht9]; exact hP9, hD9⟩, hS.F ht9⟩) hS.2.2 dX5_checkCalls_74
set_option maxHeartbeats 4000000 in
set_option maxRecDepth 100000 in
theorem c_X1_link (l : Launch) (dC : Nat → ClassId) (dI : Nat → Nat → Nat) (cI cB cZ cJ cR : ClassId) (tb : Nat → Nat) (sz : Nat) (a0_ : Nat) (a1_ : Nat) (a2_ : Nat) (a3_ : Nat) (a4_ : Nat) (a5_ : Nat) (a6_ : Nat) (a7_ : Nat) (a8_ : Nat) (a9_ : Nat) (a10_ : Nat) (a11_ : Nat) (a12_ : Nat) (a13_ : Nat)  : Met l yX1_link (Cond.code yX1_link cX1_link 4 none :: tw_W) ({ frames := 0, cells := 0, slots := 0, locals := 0 }) (pc_ (dC, dI) (tyS cI cB cZ cJ cR) tb [(a0_, .inr (5, [.ref a1_, .ref a2_, .int 0, .int 0, .int 0, .int 0, .ref a3_, .int 0, .ref a4_, .ref a5_, .ref a6_, .int 0])), (a1_, .inr (10, [.ref a7_, .int 0, .ref a8_, .int 0, .ref a9_, .int 0, .ref a10_, .ref a11_, .ref a12_, .int 0, .ref a13_, .int 0, .int 0]))] sz [.ref a0_]) (qv_ (dC, dI) [(a0_, .inr (5, [.ref a1_, .ref a2_, .int 0, .int 0, .int 0, .int 0, .ref a3_, .int 0, .ref a4_, .ref a5_, .ref a6_, .int 0])), (a1_, .inr (10, [.ref a7_, .int 0, .ref a8_, .int 0, .ref a9_, .int 0, .ref a10_, .ref a11_, .ref a12_, .int 0, .ref a13_, .int 0, .int 0]))] sz (fun (u : Unit) => True) (fun (u : Unit) => [(a0_, .inr (5, [.ref a1_, .ref a2_, .int 0, .int 0, .int 0, .int 0, .ref a3_, .int 0, .ref a4_, .ref a5_, .ref a6_, .int 0])), (a1_, .inr (10, [.ref a7_, .int 0, .ref a8_, .int 0, .ref a9_, .int 0, .ref a10_, .ref a11_, .ref a12_, .int 0, .ref a13_, .int 0, .int 0]))])) 0 0 (va_A [(a0_, .inr (5, [.ref a1_, .ref a2_, .int 0, .int 0, .int 0, .int 0, .ref a3_, .int 0, .ref a4_, .ref a5_, .ref a6_, .int 0])), (a1_, .inr (10, [.ref a7_, .int 0, .ref a8_, .int 0, .ref a9_, .int 0, .ref a10_, .ref a11_, .ref a12_, .int 0, .ref a13_, .int 0, .int 0]))] sz) := by
  refine Met.ofW (cc := cX1_link) (maxL := 4) (ret := none) (by decide) rfl ?_
  intro p e s m args below meth c s₁ B hml hv
  obtain ⟨rfl, hsz, hP, hKK, hD0, hFx⟩ := hv
  have hK := hKK.1
  have hx := B.exec
  have hb := B.bytes
  have hr := B.returns
  have ht : ∀ w ∈ tw_W, w.before _ s = true := fun w h => atoms_spec (ws := Cond.code yX1_link cX1_link 4 none :: tw_W) B.pre w (List.mem_cons_of_mem _ h)
  have hown : s.vm.findClass RX1 = some m.cls := findClass_of_methodNamed B.named
  have hlocks := B.notSynchronized
  subst hsz
  unfold qv_
  have hD := hD0.self (sz := s.heap.size)
  generalize hAe : va_A [(a0_, .inr (5, [.ref a1_, .ref a2_, .int 0, .int 0, .int 0, .int 0, .ref a3_, .int 0, .ref a4_, .ref a5_, .ref a6_, .int 0])), (a1_, .inr (10, [.ref a7_, .int 0, .ref a8_, .int 0, .ref a9_, .int 0, .ref a10_, .ref a11_, .ref a12_, .int 0, .ref a13_, .int 0, .int 0]))] s.heap.size = A at hD hFx ⊢
  have hA : ∀ q : Nat, s.heap.size ≤ q → A q := fun q h => by rw [← hAe]; exact Or.inr h
  have hS : va_S A s.heap s.heap [] := va_S.rf
  have hP : va_P (dC, dI) vwCl [(a0_, .inr (5, [.ref a1_, .ref a2_, .int 0, .int 0, .int 0, .int 0, .ref a3_, .int 0, .ref a4_, .ref a5_, .ref a6_, .int 0])), (a1_, .inr (10, [.ref a7_, .int 0, .ref a8_, .int 0, .ref a9_, .int 0, .ref a10_, .ref a11_, .ref a12_, .int 0, .ref a13_, .int 0, .int 0]))] s.heap := hP
  have hl := lv_entry ([.ref a0_]) (n := 4) (Nat.le_of_ble_eq_true rfl)
  rw [lg_entry_eq]
  generalize (lg_sl ([.ref a0_]) ++ List.replicate (4 - (lg_sl ([.ref a0_])).length) Slot.unset).toArray = ls at hl ⊢
  have hl : lv_has ls 4 [(0, .ref a0_)] := hl
  refine lv_iconst (v := 0) hx hb dX1_link_0 (by decide) ?_
  refine lv_istore_n (lv' := [(1, .int 0), (0, .ref a0_)]) hx hb dX1_link_1 rfl hl (by decide) rfl (fun ls hl => ?_)
  refine lv_iload_n hx hb dX1_link_2 rfl (lv_at hl 0 rfl) ?_
  refine lv_aload_n hx hb dX1_link_3 rfl (lv_at hl 1 rfl) ?_
  refine va_get (D := (dC, dI)) (ci := 5) (v := .ref a1_) (C := RX1) (T := TX1) (N := 12) hx hb ht itX1 hown hK hP 0 rfl rfl 0 (by decide) (ht _ tw_36) (fun _ h9 => h9) rfl dX1_link_4 ?_
  refine va_get (D := (dC, dI)) (ci := 10) (v := .int 0) (C := RX7) (T := TX7) (N := 13) hx hb ht itX7 hown hK hP 1 rfl rfl 9 (by decide) (ht _ tw_185) (fun _ h9 => h9) rfl dX1_link_7 ?_
  refine lv_icmp_ge (tgt := 106) hx hb dX1_link_10 (by decide) (fun _ => ?_) (fun k1 => absurd k1 (by decide))
  have hP9 := hP.sub (ws' := [(a0_, .inr (5, [.ref a1_, .ref a2_, .int 0, .int 0, .int 0, .int 0, .ref a3_, .int 0, .ref a4_, .ref a5_, .ref a6_, .int 0])), (a1_, .inr (10, [.ref a7_, .int 0, .ref a8_, .int 0, .ref a9_, .int 0, .ref a10_, .ref a11_, .ref a12_, .int 0, .ref a13_, .int 0, .int 0]))]) [0, 1] rfl
  have hD9 := hD.sub (ws' := [(a0_, .inr (5, [.ref a1_, .ref a2_, .int 0, .int 0, .int 0, .int 0, .ref a3_, .int 0, .ref a4_, .ref a5_, .ref a6_, .int 0])), (a1_, .inr (10, [.ref a7_, .int 0, .ref a8_, .int 0, .ref a9_, .int 0, .ref a10_, .ref a11_, .ref a12_, .int 0, .ref a13_, .int 0, .int 0]))]) [0, 1] (by decide) rfl
  refine W.widen (k := 0) (n := 0) (by omega) (by omega) ?_
  exact W.vret hx hb hr (fun t ht9 hW => ⟨⟨(), rfl, trivial, by rw [ht9]; exact hP9, hD9⟩, hS.F ht9⟩) hS.2.2 dX1_link_106
set_option maxHeartbeats 4000000 in
set_option maxRecDepth 100000 in
theorem c_X5_readText (l : Launch) (dC : Nat → ClassId) (dI : Nat → Nat → Nat) (cI cB cZ cJ cR : ClassId) (tb : Nat → Nat) (sz : Nat) (a0_ : Nat) (a1_ : Nat) (a2_ : Nat) (a3_ : Nat) (a4_ : Nat) (a5_ : Nat) (a6_ : Nat) (a7_ : Nat) (a8_ : Nat) (a9_ : Nat) (a10_ : Nat) (a11_ : Nat) (a12_ : Nat) (a13_ : Nat) (a14_ : Nat) (a15_ : Nat) (a16_ : Nat) (a17_ : Nat) (a18_ : Nat) (a19_ : Nat) (a20_ : Nat) (a21_ : Nat)  : Met l yX5_readText (Cond.code yX5_readText cX5_readText 4 none :: tw_W) ({ frames := 3, cells := 0, slots := 0, locals := 69 }) (pc_ (dC, dI) (tyS cI cB cZ cJ cR) tb [(a0_, .inr (8, [.ref a1_, .ref a2_, .ref a3_, .ref a4_, .int 0, .int 0, .int 0])), (a1_, .inr (10, [.ref a5_, .int 0, .ref a6_, .int 0, .ref a7_, .int 0, .ref a8_, .ref a9_, .ref a10_, .int 0, .ref a11_, .int 0, .int 0])), (a2_, .inr (12, [.ref a1_, .ref a12_, .ref a13_, .ref a14_, .int 0, .int 0, .int 0, .int 0, .int 0, .int 0])), (a12_, .inl (cI, 1503, .inl (fun _ => 0))), (a13_, .inl (cI, 1503, .inl (fun _ => 0))), (a14_, .inl (cI, 1503, .inl (fun _ => 0))), (a3_, .inr (5, [.ref a1_, .ref a15_, .int 0, .int 0, .int 0, .int 0, .ref a16_, .int 0, .ref a17_, .ref a18_, .ref a19_, .int 0])), (a4_, .inr (6, [.ref a2_, .ref a3_, .ref a20_, .ref a21_, .int 0]))] sz [.ref a0_, .ref a1_]) (qv_ (dC, dI) [(a0_, .inr (8, [.ref a1_, .ref a2_, .ref a3_, .ref a4_, .int 0, .int 0, .int 0])), (a1_, .inr (10, [.ref a5_, .int 0, .ref a6_, .int 0, .ref a7_, .int 0, .ref a8_, .ref a9_, .ref a10_, .int 0, .ref a11_, .int 0, .int 0])), (a2_, .inr (12, [.ref a1_, .ref a12_, .ref a13_, .ref a14_, .int 0, .int 0, .int 0, .int 0, .int 0, .int 0])), (a12_, .inl (cI, 1503, .inl (fun _ => 0))), (a13_, .inl (cI, 1503, .inl (fun _ => 0))), (a14_, .inl (cI, 1503, .inl (fun _ => 0))), (a3_, .inr (5, [.ref a1_, .ref a15_, .int 0, .int 0, .int 0, .int 0, .ref a16_, .int 0, .ref a17_, .ref a18_, .ref a19_, .int 0])), (a4_, .inr (6, [.ref a2_, .ref a3_, .ref a20_, .ref a21_, .int 0]))] sz (fun (u : Unit) => True) (fun (u : Unit) => [(a0_, .inr (8, [.ref a1_, .ref a2_, .ref a3_, .ref a4_, .int 0, .int 0, .int 0])), (a1_, .inr (10, [.ref a5_, .int 0, .ref a6_, .int 0, .ref a7_, .int 0, .ref a8_, .ref a9_, .ref a10_, .int 0, .ref a11_, .int 0, .int 0])), (a2_, .inr (12, [.ref a1_, .ref a12_, .ref a13_, .ref a14_, .int 1, .int 0, .int 0, .int (-1), .int 0, .int (-1)])), (a12_, .inl (cI, 1503, .inl (upd (fun _ => 0) 0 0))), (a13_, .inl (cI, 1503, .inl (upd (fun _ => 0) 0 0))), (a14_, .inl (cI, 1503, .inl (upd (fun _ => 0) 0 0))), (a3_, .inr (5, [.ref a1_, .ref a15_, .int 0, .int 0, .int 0, .int 0, .ref a16_, .int 0, .ref a17_, .ref a18_, .ref a19_, .int 0])), (a4_, .inr (6, [.ref a2_, .ref a3_, .ref a20_, .ref a21_, .int 0]))])) 0 0 (va_A [(a0_, .inr (8, [.ref a1_, .ref a2_, .ref a3_, .ref a4_, .int 0, .int 0, .int 0])), (a1_, .inr (10, [.ref a5_, .int 0, .ref a6_, .int 0, .ref a7_, .int 0, .ref a8_, .ref a9_, .ref a10_, .int 0, .ref a11_, .int 0, .int 0])), (a2_, .inr (12, [.ref a1_, .ref a12_, .ref a13_, .ref a14_, .int 0, .int 0, .int 0, .int 0, .int 0, .int 0])), (a12_, .inl (cI, 1503, .inl (fun _ => 0))), (a13_, .inl (cI, 1503, .inl (fun _ => 0))), (a14_, .inl (cI, 1503, .inl (fun _ => 0))), (a3_, .inr (5, [.ref a1_, .ref a15_, .int 0, .int 0, .int 0, .int 0, .ref a16_, .int 0, .ref a17_, .ref a18_, .ref a19_, .int 0])), (a4_, .inr (6, [.ref a2_, .ref a3_, .ref a20_, .ref a21_, .int 0]))] sz) := by
  refine Met.ofW (cc := cX5_readText) (maxL := 4) (ret := none) (by decide) rfl ?_
  intro p e s m args below meth c s₁ B hml hv
  obtain ⟨rfl, hsz, hP, hKK, hD0, hFx⟩ := hv
  have hK := hKK.1
  have hx := B.exec
  have hb := B.bytes
  have hr := B.returns
  have ht : ∀ w ∈ tw_W, w.before _ s = true := fun w h => atoms_spec (ws := Cond.code yX5_readText cX5_readText 4 none :: tw_W) B.pre w (List.mem_cons_of_mem _ h)
  have hown : s.vm.findClass RX5 = some m.cls := findClass_of_methodNamed B.named
  have hlocks := B.notSynchronized
  subst hsz
  unfold qv_
  have hD := hD0.self (sz := s.heap.size)
  generalize hAe : va_A [(a0_, .inr (8, [.ref a1_, .ref a2_, .ref a3_, .ref a4_, .int 0, .int 0, .int 0])), (a1_, .inr (10, [.ref a5_, .int 0, .ref a6_, .int 0, .ref a7_, .int 0, .ref a8_, .ref a9_, .ref a10_, .int 0, .ref a11_, .int 0, .int 0])), (a2_, .inr (12, [.ref a1_, .ref a12_, .ref a13_, .ref a14_, .int 0, .int 0, .int 0, .int 0, .int 0, .int 0])), (a12_, .inl (cI, 1503, .inl (fun _ => 0))), (a13_, .inl (cI, 1503, .inl (fun _ => 0))), (a14_, .inl (cI, 1503, .inl (fun _ => 0))), (a3_, .inr (5, [.ref a1_, .ref a15_, .int 0, .int 0, .int 0, .int 0, .ref a16_, .int 0, .ref a17_, .ref a18_, .ref a19_, .int 0])), (a4_, .inr (6, [.ref a2_, .ref a3_, .ref a20_, .ref a21_, .int 0]))] s.heap.size = A at hD hFx ⊢
  have hA : ∀ q : Nat, s.heap.size ≤ q → A q := fun q h => by rw [← hAe]; exact Or.inr h
  have hS : va_S A s.heap s.heap [] := va_S.rf
  have hP : va_P (dC, dI) vwCl [(a0_, .inr (8, [.ref a1_, .ref a2_, .ref a3_, .ref a4_, .int 0, .int 0, .int 0])), (a1_, .inr (10, [.ref a5_, .int 0, .ref a6_, .int 0, .ref a7_, .int 0, .ref a8_, .ref a9_, .ref a10_, .int 0, .ref a11_, .int 0, .int 0])), (a2_, .inr (12, [.ref a1_, .ref a12_, .ref a13_, .ref a14_, .int 0, .int 0, .int 0, .int 0, .int 0, .int 0])), (a12_, .inl (cI, 1503, .inl (fun _ => 0))), (a13_, .inl (cI, 1503, .inl (fun _ => 0))), (a14_, .inl (cI, 1503, .inl (fun _ => 0))), (a3_, .inr (5, [.ref a1_, .ref a15_, .int 0, .int 0, .int 0, .int 0, .ref a16_, .int 0, .ref a17_, .ref a18_, .ref a19_, .int 0])), (a4_, .inr (6, [.ref a2_, .ref a3_, .ref a20_, .ref a21_, .int 0]))] s.heap := hP
  have hl := lv_entry ([.ref a0_, .ref a1_]) (n := 4) (Nat.le_of_ble_eq_true rfl)
  rw [lg_entry_eq]
  generalize (lg_sl ([.ref a0_, .ref a1_]) ++ List.replicate (4 - (lg_sl ([.ref a0_, .ref a1_])).length) Slot.unset).toArray = ls at hl ⊢
  have hl : lv_has ls 4 [(0, .ref a0_), (1, .ref a1_)] := hl
  refine lv_aload_n hx hb dX5_readText_0 rfl (lv_at hl 0 rfl) ?_
  refine lv_aload_n hx hb dX5_readText_1 rfl (lv_at hl 1 rfl) ?_
  refine va_put (D := (dC, dI)) (ci := 8) (v := .ref a1_) (ty := .object "PocketCompiler$Program") (C := RX5) (T := TX5) (N := 7) hx hb ht itX5 tyX5 tyX5_ok nmX5 hown hK hP hD hS 0 rfl rfl 0 (by decide) (ht _ tw_43) (fun _ h9 => h9) rfl (by decide +kernel) rfl rfl (Nat.le_of_ble_eq_true rfl) dX5_readText_2 (fun H locs hP hD hS => ?_)
  have hP : va_P (dC, dI) vwCl [(a0_, .inr (8, [.ref a1_, .ref a2_, .ref a3_, .ref a4_, .int 0, .int 0, .int 0])), (a1_, .inr (10, [.ref a5_, .int 0, .ref a6_, .int 0, .ref a7_, .int 0, .ref a8_, .ref a9_, .ref a10_, .int 0, .ref a11_, .int 0, .int 0])), (a2_, .inr (12, [.ref a1_, .ref a12_, .ref a13_, .ref a14_, .int 0, .int 0, .int 0, .int 0, .int 0, .int 0])), (a12_, .inl (cI, 1503, .inl (fun _ => 0))), (a13_, .inl (cI, 1503, .inl (fun _ => 0))), (a14_, .inl (cI, 1503, .inl (fun _ => 0))), (a3_, .inr (5, [.ref a1_, .ref a15_, .int 0, .int 0, .int 0, .int 0, .ref a16_, .int 0, .ref a17_, .ref a18_, .ref a19_, .int 0])), (a4_, .inr (6, [.ref a2_, .ref a3_, .ref a20_, .ref a21_, .int 0]))] H := hP
  have hD : va_D A [(a0_, .inr (8, [.ref a1_, .ref a2_, .ref a3_, .ref a4_, .int 0, .int 0, .int 0])), (a1_, .inr (10, [.ref a5_, .int 0, .ref a6_, .int 0, .ref a7_, .int 0, .ref a8_, .ref a9_, .ref a10_, .int 0, .ref a11_, .int 0, .int 0])), (a2_, .inr (12, [.ref a1_, .ref a12_, .ref a13_, .ref a14_, .int 0, .int 0, .int 0, .int 0, .int 0, .int 0])), (a12_, .inl (cI, 1503, .inl (fun _ => 0))), (a13_, .inl (cI, 1503, .inl (fun _ => 0))), (a14_, .inl (cI, 1503, .inl (fun _ => 0))), (a3_, .inr (5, [.ref a1_, .ref a15_, .int 0, .int 0, .int 0, .int 0, .ref a16_, .int 0, .ref a17_, .ref a18_, .ref a19_, .int 0])), (a4_, .inr (6, [.ref a2_, .ref a3_, .ref a20_, .ref a21_, .int 0]))] := hD
  refine lv_aload_n hx hb dX5_readText_5 rfl (lv_at hl 0 rfl) ?_
  refine va_get (D := (dC, dI)) (ci := 8) (v := .ref a2_) (C := RX5) (T := TX5) (N := 7) hx hb ht itX5 hown hK hP 0 rfl rfl 1 (by decide) (ht _ tw_56) (fun _ h9 => h9) rfl dX5_readText_6 ?_
  refine lv_aload_n hx hb dX5_readText_9 rfl (lv_at hl 1 rfl) ?_
  refine ca_v (wr := [(a0_, .inr (8, [.ref a1_, .ref a2_, .ref a3_, .ref a4_, .int 0, .int 0, .int 0])), (a3_, .inr (5, [.ref a1_, .ref a15_, .int 0, .int 0, .int 0, .int 0, .ref a16_, .int 0, .ref a17_, .ref a18_, .ref a19_, .int 0])), (a4_, .inr (6, [.ref a2_, .ref a3_, .ref a20_, .ref a21_, .int 0]))]) (rn_V (n := 1) (As := [.ref a1_]) (rest := []) hx hb hml hown ht hKK hFx hP hD hS hA (c_X9_scan l dC dI cI cB cZ cJ cR tb H.size a2_ a1_ a12_ a13_ a14_ a5_ a6_ a7_ a8_ a9_ a10_ a11_) tw_165 tw_166 (by decide +kernel) rfl rfl ⟨Nat.le_of_ble_eq_true rfl, Nat.le_of_ble_eq_true rfl⟩ [2, 1, 3, 4, 5] rfl (by decide) rfl rfl rfl rfl hl.1 rfl (Nat.le_of_ble_eq_true rfl) dX5_readText_10 ⟨Nat.le_of_ble_eq_true rfl, Nat.le_of_ble_eq_true rfl⟩) hP hD hS hA (isC := [2, 1, 3, 4, 5]) (isR := [0, 6, 7]) rfl rfl (by decide) (by decide) (fun u H locs hw1 hP hD hS => ?_)
  have hP : va_P (dC, dI) vwCl [(a0_, .inr (8, [.ref a1_, .ref a2_, .ref a3_, .ref a4_, .int 0, .int 0, .int 0])), (a3_, .inr (5, [.ref a1_, .ref a15_, .int 0, .int 0, .int 0, .int 0, .ref a16_, .int 0, .ref a17_, .ref a18_, .ref a19_, .int 0])), (a4_, .inr (6, [.ref a2_, .ref a3_, .ref a20_, .ref a21_, .int 0])), (a2_, .inr (12, [.ref a1_, .ref a12_, .ref a13_, .ref a14_, .int 1, .int 0, .int 0, .int (-1), .int 0, .int (-1)])), (a1_, .inr (10, [.ref a5_, .int 0, .ref a6_, .int 0, .ref a7_, .int 0, .ref a8_, .ref a9_, .ref a10_, .int 0, .ref a11_, .int 0, .int 0])), (a12_, .inl (cI, 1503, .inl (upd (fun _ => 0) 0 0))), (a13_, .inl (cI, 1503, .inl (upd (fun _ => 0) 0 0))), (a14_, .inl (cI, 1503, .inl (upd (fun _ => 0) 0 0)))] H := hP
  have hD : va_D A [(a0_, .inr (8, [.ref a1_, .ref a2_, .ref a3_, .ref a4_, .int 0, .int 0, .int 0])), (a3_, .inr (5, [.ref a1_, .ref a15_, .int 0, .int 0, .int 0, .int 0, .ref a16_, .int 0, .ref a17_, .ref a18_, .ref a19_, .int 0])), (a4_, .inr (6, [.ref a2_, .ref a3_, .ref a20_, .ref a21_, .int 0])), (a2_, .inr (12, [.ref a1_, .ref a12_, .ref a13_, .ref a14_, .int 1, .int 0, .int 0, .int (-1), .int 0, .int (-1)])), (a1_, .inr (10, [.ref a5_, .int 0, .ref a6_, .int 0, .ref a7_, .int 0, .ref a8_, .ref a9_, .ref a10_, .int 0, .ref a11_, .int 0, .int 0])), (a12_, .inl (cI, 1503, .inl (upd (fun _ => 0) 0 0))), (a13_, .inl (cI, 1503, .inl (upd (fun _ => 0) 0 0))), (a14_, .inl (cI, 1503, .inl (upd (fun _ => 0) 0 0)))] := hD
  refine W.widen (k := 0) (n := 0) (by omega) (by omega) ?_
  refine lv_aload_n hx hb dX5_readText_13 rfl (lv_at hl 0 rfl) ?_
  refine va_get (D := (dC, dI)) (ci := 8) (v := .ref a3_) (C := RX5) (T := TX5) (N := 7) hx hb ht itX5 hown hK hP 0 rfl rfl 2 (by decide) (ht _ tw_64) (fun _ h9 => h9) rfl dX5_readText_14 ?_
  refine lv_aload_n hx hb dX5_readText_17 rfl (lv_at hl 1 rfl) ?_
  refine ca_v (wr := [(a0_, .inr (8, [.ref a1_, .ref a2_, .ref a3_, .ref a4_, .int 0, .int 0, .int 0])), (a4_, .inr (6, [.ref a2_, .ref a3_, .ref a20_, .ref a21_, .int 0])), (a2_, .inr (12, [.ref a1_, .ref a12_, .ref a13_, .ref a14_, .int 1, .int 0, .int 0, .int (-1), .int 0, .int (-1)])), (a12_, .inl (cI, 1503, .inl (upd (fun _ => 0) 0 0))), (a13_, .inl (cI, 1503, .inl (upd (fun _ => 0) 0 0))), (a14_, .inl (cI, 1503, .inl (upd (fun _ => 0) 0 0)))]) (rn_V (n := 1) (As := [.ref a1_]) (rest := []) hx hb hml hown ht hKK hFx hP hD hS hA (c_X1_begin l dC dI cI cB cZ cJ cR tb H.size a3_ a1_ a15_ a16_ a17_ a18_ a19_ a5_ a6_ a7_ a8_ a9_ a10_ a11_) tw_176 tw_177 (by decide +kernel) rfl rfl ⟨Nat.le_of_ble_eq_true rfl, Nat.le_of_ble_eq_true rfl⟩ [1, 4] rfl (by decide) rfl rfl rfl rfl hl.1 rfl (Nat.le_of_ble_eq_true rfl) dX5_readText_18 ⟨Nat.le_of_ble_eq_true rfl, Nat.le_of_ble_eq_true rfl⟩) hP hD hS hA (isC := [1, 4]) (isR := [0, 2, 3, 5, 6, 7]) rfl rfl (by decide) (by decide) (fun u H locs hw2 hP hD hS => ?_)
  have hP : va_P (dC, dI) vwCl [(a0_, .inr (8, [.ref a1_, .ref a2_, .ref a3_, .ref a4_, .int 0, .int 0, .int 0])), (a4_, .inr (6, [.ref a2_, .ref a3_, .ref a20_, .ref a21_, .int 0])), (a2_, .inr (12, [.ref a1_, .ref a12_, .ref a13_, .ref a14_, .int 1, .int 0, .int 0, .int (-1), .int 0, .int (-1)])), (a12_, .inl (cI, 1503, .inl (upd (fun _ => 0) 0 0))), (a13_, .inl (cI, 1503, .inl (upd (fun _ => 0) 0 0))), (a14_, .inl (cI, 1503, .inl (upd (fun _ => 0) 0 0))), (a3_, .inr (5, [.ref a1_, .ref a15_, .int 0, .int 0, .int 0, .int 0, .ref a16_, .int 0, .ref a17_, .ref a18_, .ref a19_, .int 0])), (a1_, .inr (10, [.ref a5_, .int 0, .ref a6_, .int 0, .ref a7_, .int 0, .ref a8_, .ref a9_, .ref a10_, .int 0, .ref a11_, .int 0, .int 0]))] H := hP
  have hD : va_D A [(a0_, .inr (8, [.ref a1_, .ref a2_, .ref a3_, .ref a4_, .int 0, .int 0, .int 0])), (a4_, .inr (6, [.ref a2_, .ref a3_, .ref a20_, .ref a21_, .int 0])), (a2_, .inr (12, [.ref a1_, .ref a12_, .ref a13_, .ref a14_, .int 1, .int 0, .int 0, .int (-1), .int 0, .int (-1)])), (a12_, .inl (cI, 1503, .inl (upd (fun _ => 0) 0 0))), (a13_, .inl (cI, 1503, .inl (upd (fun _ => 0) 0 0))), (a14_, .inl (cI, 1503, .inl (upd (fun _ => 0) 0 0))), (a3_, .inr (5, [.ref a1_, .ref a15_, .int 0, .int 0, .int 0, .int 0, .ref a16_, .int 0, .ref a17_, .ref a18_, .ref a19_, .int 0])), (a1_, .inr (10, [.ref a5_, .int 0, .ref a6_, .int 0, .ref a7_, .int 0, .ref a8_, .ref a9_, .ref a10_, .int 0, .ref a11_, .int 0, .int 0]))] := hD
  refine W.widen (k := 0) (n := 0) (by omega) (by omega) ?_
  refine lv_aload_n hx hb dX5_readText_21 rfl (lv_at hl 0 rfl) ?_
  refine va_get (D := (dC, dI)) (ci := 8) (v := .ref a4_) (C := RX5) (T := TX5) (N := 7) hx hb ht itX5 hown hK hP 0 rfl rfl 3 (by decide) (ht _ tw_72) (fun _ h9 => h9) rfl dX5_readText_22 ?_
  refine ca_v (wr := [(a0_, .inr (8, [.ref a1_, .ref a2_, .ref a3_, .ref a4_, .int 0, .int 0, .int 0])), (a2_, .inr (12, [.ref a1_, .ref a12_, .ref a13_, .ref a14_, .int 1, .int 0, .int 0, .int (-1), .int 0, .int (-1)])), (a12_, .inl (cI, 1503, .inl (upd (fun _ => 0) 0 0))), (a13_, .inl (cI, 1503, .inl (upd (fun _ => 0) 0 0))), (a14_, .inl (cI, 1503, .inl (upd (fun _ => 0) 0 0))), (a3_, .inr (5, [.ref a1_, .ref a15_, .int 0, .int 0, .int 0, .int 0, .ref a16_, .int 0, .ref a17_, .ref a18_, .ref a19_, .int 0])), (a1_, .inr (10, [.ref a5_, .int 0, .ref a6_, .int 0, .ref a7_, .int 0, .ref a8_, .ref a9_, .ref a10_, .int 0, .ref a11_, .int 0, .int 0]))]) (rn_V (n := 0) (As := []) (rest := []) hx hb hml hown ht hKK hFx hP hD hS hA (c_X2_begin l dC dI cI cB cZ cJ cR tb H.size a4_ a2_ a3_ a20_ a21_) tw_179 tw_180 (by decide +kernel) rfl rfl ⟨Nat.le_of_ble_eq_true rfl, Nat.le_of_ble_eq_true rfl⟩ [1] rfl (by decide) rfl rfl rfl rfl hl.1 rfl (Nat.le_of_ble_eq_true rfl) dX5_readText_25 ⟨Nat.le_of_ble_eq_true rfl, Nat.le_of_ble_eq_true rfl⟩) hP hD hS hA (isC := [1]) (isR := [0, 2, 3, 4, 5, 6, 7]) rfl rfl (by decide) (by decide) (fun u H locs hw3 hP hD hS => ?_)
  have hP : va_P (dC, dI) vwCl [(a0_, .inr (8, [.ref a1_, .ref a2_, .ref a3_, .ref a4_, .int 0, .int 0, .int 0])), (a2_, .inr (12, [.ref a1_, .ref a12_, .ref a13_, .ref a14_, .int 1, .int 0, .int 0, .int (-1), .int 0, .int (-1)])), (a12_, .inl (cI, 1503, .inl (upd (fun _ => 0) 0 0))), (a13_, .inl (cI, 1503, .inl (upd (fun _ => 0) 0 0))), (a14_, .inl (cI, 1503, .inl (upd (fun _ => 0) 0 0))), (a3_, .inr (5, [.ref a1_, .ref a15_, .int 0, .int 0, .int 0, .int 0, .ref a16_, .int 0, .ref a17_, .ref a18_, .ref a19_, .int 0])), (a1_, .inr (10, [.ref a5_, .int 0, .ref a6_, .int 0, .ref a7_, .int 0, .ref a8_, .ref a9_, .ref a10_, .int 0, .ref a11_, .int 0, .int 0])), (a4_, .inr (6, [.ref a2_, .ref a3_, .ref a20_, .ref a21_, .int 0]))] H := hP
  have hD : va_D A [(a0_, .inr (8, [.ref a1_, .ref a2_, .ref a3_, .ref a4_, .int 0, .int 0, .int 0])), (a2_, .inr (12, [.ref a1_, .ref a12_, .ref a13_, .ref a14_, .int 1, .int 0, .int 0, .int (-1), .int 0, .int (-1)])), (a12_, .inl (cI, 1503, .inl (upd (fun _ => 0) 0 0))), (a13_, .inl (cI, 1503, .inl (upd (fun _ => 0) 0 0))), (a14_, .inl (cI, 1503, .inl (upd (fun _ => 0) 0 0))), (a3_, .inr (5, [.ref a1_, .ref a15_, .int 0, .int 0, .int 0, .int 0, .ref a16_, .int 0, .ref a17_, .ref a18_, .ref a19_, .int 0])), (a1_, .inr (10, [.ref a5_, .int 0, .ref a6_, .int 0, .ref a7_, .int 0, .ref a8_, .ref a9_, .ref a10_, .int 0, .ref a11_, .int 0, .int 0])), (a4_, .inr (6, [.ref a2_, .ref a3_, .ref a20_, .ref a21_, .int 0]))] := hD
  refine W.widen (k := 0) (n := 0) (by omega) (by omega) ?_
  refine lv_iconst (v := 0) hx hb dX5_readText_28 (by decide) ?_
  refine lv_istore_n (lv' := [(2, .int 0), (0, .ref a0_), (1, .ref a1_)]) hx hb dX5_readText_29 rfl hl (by decide) rfl (fun ls hl => ?_)
  refine lv_iload_n hx hb dX5_readText_30 rfl (lv_at hl 0 rfl) ?_
  refine lv_sipush (v := 1500) hx hb dX5_readText_31 (by decide) ?_
  refine lv_icmp_ge (tgt := 76) hx hb dX5_readText_34 (by decide) (fun k4 => absurd k4 (by decide)) (fun _ => ?_)
  refine lv_aload_n hx hb dX5_readText_37 rfl (lv_at hl 1 rfl) ?_
  refine va_get (D := (dC, dI)) (ci := 8) (v := .ref a2_) (C := RX5) (T := TX5) (N := 7) hx hb ht itX5 hown hK hP 0 rfl rfl 1 (by decide) (ht _ tw_56) (fun _ h9 => h9) rfl dX5_readText_38 ?_
  refine ca_i (wr := [(a0_, .inr (8, [.ref a1_, .ref a2_, .ref a3_, .ref a4_, .int 0, .int 0, .int 0])), (a13_, .inl (cI, 1503, .inl (upd (fun _ => 0) 0 0))), (a14_, .inl (cI, 1503, .inl (upd (fun _ => 0) 0 0))), (a3_, .inr (5, [.ref a1_, .ref a15_, .int 0, .int 0, .int 0, .int 0, .ref a16_, .int 0, .ref a17_, .ref a18_, .ref a19_, .int 0])), (a1_, .inr (10, [.ref a5_, .int 0, .ref a6_, .int 0, .ref a7_, .int 0, .ref a8_, .ref a9_, .ref a10_, .int 0, .ref a11_, .int 0, .int 0])), (a4_, .inr (6, [.ref a2_, .ref a3_, .ref a20_, .ref a21_, .int 0]))]) (rn_V (n := 0) (As := []) (rest := []) hx hb hml hown ht hKK hFx hP hD hS hA (c_X9_kind l dC dI cI cB cZ cJ cR tb H.size a2_ a1_ a12_ a13_ a14_) tw_181 tw_182 (by decide +kernel) rfl rfl ⟨Nat.le_of_ble_eq_true rfl, Nat.le_of_ble_eq_true rfl⟩ [1, 2] rfl (by decide) rfl rfl rfl rfl hl.1 rfl (Nat.le_of_ble_eq_true rfl) dX5_readText_41 ⟨Nat.le_of_ble_eq_true rfl, Nat.le_of_ble_eq_true rfl⟩) hP hD hS hA (isC := [1, 2]) (isR := [0, 3, 4, 5, 6, 7]) rfl rfl (by decide) (by decide) (fun r6 u H locs hw5 hP hD hS => ?_)
  subst hw5
  have hP : va_P (dC, dI) vwCl [(a0_, .inr (8, [.ref a1_, .ref a2_, .ref a3_, .ref a4_, .int 0, .int 0, .int 0])), (a13_, .inl (cI, 1503, .inl (upd (fun _ => 0) 0 0))), (a14_, .inl (cI, 1503, .inl (upd (fun _ => 0) 0 0))), (a3_, .inr (5, [.ref a1_, .ref a15_, .int 0, .int 0, .int 0, .int 0, .ref a16_, .int 0, .ref a17_, .ref a18_, .ref a19_, .int 0])), (a1_, .inr (10, [.ref a5_, .int 0, .ref a6_, .int 0, .ref a7_, .int 0, .ref a8_, .ref a9_, .ref a10_, .int 0, .ref a11_, .int 0, .int 0])), (a4_, .inr (6, [.ref a2_, .ref a3_, .ref a20_, .ref a21_, .int 0])), (a2_, .inr (12, [.ref a1_, .ref a12_, .ref a13_, .ref a14_, .int 1, .int 0, .int 0, .int (-1), .int 0, .int (-1)])), (a12_, .inl (cI, 1503, .inl (upd (fun _ => 0) 0 0)))] H := hP
  have hD : va_D A [(a0_, .inr (8, [.ref a1_, .ref a2_, .ref a3_, .ref a4_, .int 0, .int 0, .int 0])), (a13_, .inl (cI, 1503, .inl (upd (fun _ => 0) 0 0))), (a14_, .inl (cI, 1503, .inl (upd (fun _ => 0) 0 0))), (a3_, .inr (5, [.ref a1_, .ref a15_, .int 0, .int 0, .int 0, .int 0, .ref a16_, .int 0, .ref a17_, .ref a18_, .ref a19_, .int 0])), (a1_, .inr (10, [.ref a5_, .int 0, .ref a6_, .int 0, .ref a7_, .int 0, .ref a8_, .ref a9_, .ref a10_, .int 0, .ref a11_, .int 0, .int 0])), (a4_, .inr (6, [.ref a2_, .ref a3_, .ref a20_, .ref a21_, .int 0])), (a2_, .inr (12, [.ref a1_, .ref a12_, .ref a13_, .ref a14_, .int 1, .int 0, .int 0, .int (-1), .int 0, .int (-1)])), (a12_, .inl (cI, 1503, .inl (upd (fun _ => 0) 0 0)))] := hD
  refine W.widen (k := 0) (n := 0) (by omega) (by omega) ?_
  refine lv_if_eq (tgt := 76) hx hb dX5_readText_44 (by decide) (fun _ => ?_) (fun k7 => absurd k7 (by decide))
  refine lv_aload_n hx hb dX5_readText_76 rfl (lv_at hl 1 rfl) ?_
  refine ca_v (wr := [(a13_, .inl (cI, 1503, .inl (upd (fun _ => 0) 0 0))), (a14_, .inl (cI, 1503, .inl (upd (fun _ => 0) 0 0))), (a1_, .inr (10, [.ref a5_, .int 0, .ref a6_, .int 0, .ref a7_, .int 0, .ref a8_, .ref a9_, .ref a10_, .int 0, .ref a11_, .int 0, .int 0])), (a4_, .inr (6, [.ref a2_, .ref a3_, .ref a20_, .ref a21_, .int 0])), (a2_, .inr (12, [.ref a1_, .ref a12_, .ref a13_, .ref a14_, .int 1, .int 0, .int 0, .int (-1), .int 0, .int (-1)])), (a12_, .inl (cI, 1503, .inl (upd (fun _ => 0) 0 0)))]) (rn_V (n := 0) (As := []) (rest := []) hx hb hml hown ht hKK hFx hP hD hS hA (c_X5_checkCalls l dC dI cI cB cZ cJ cR tb H.size a0_ a1_ a2_ a3_ a4_ a15_ a16_ a17_ a18_ a19_) tw_183 tw_184 (by decide +kernel) rfl rfl ⟨Nat.le_of_ble_eq_true rfl, Nat.le_of_ble_eq_true rfl⟩ [0, 3] rfl (by decide) rfl rfl rfl rfl hl.1 rfl (Nat.le_of_ble_eq_true rfl) dX5_readText_77 ⟨Nat.le_of_ble_eq_true rfl, Nat.le_of_ble_eq_true rfl⟩) hP hD hS hA (isC := [0, 3]) (isR := [1, 2, 4, 5, 6, 7]) rfl rfl (by decide) (by decide) (fun u H locs hw8 hP hD hS => ?_)
  have hP : va_P (dC, dI) vwCl [(a13_, .inl (cI, 1503, .inl (upd (fun _ => 0) 0 0))), (a14_, .inl (cI, 1503, .inl (upd (fun _ => 0) 0 0))), (a1_, .inr (10, [.ref a5_, .int 0, .ref a6_, .int 0, .ref a7_, .int 0, .ref a8_, .ref a9_, .ref a10_, .int 0, .ref a11_, .int 0, .int 0])), (a4_, .inr (6, [.ref a2_, .ref a3_, .ref a20_, .ref a21_, .int 0])), (a2_, .inr (12, [.ref a1_, .ref a12_, .ref a13_, .ref a14_, .int 1, .int 0, .int 0, .int (-1), .int 0, .int (-1)])), (a12_, .inl (cI, 1503, .inl (upd (fun _ => 0) 0 0))), (a0_, .inr (8, [.ref a1_, .ref a2_, .ref a3_, .ref a4_, .int 0, .int 0, .int 0])), (a3_, .inr (5, [.ref a1_, .ref a15_, .int 0, .int 0, .int 0, .int 0, .ref a16_, .int 0, .ref a17_, .ref a18_, .ref a19_, .int 0]))] H := hP
  have hD : va_D A [(a13_, .inl (cI, 1503, .inl (upd (fun _ => 0) 0 0))), (a14_, .inl (cI, 1503, .inl (upd (fun _ => 0) 0 0))), (a1_, .inr (10, [.ref a5_, .int 0, .ref a6_, .int 0, .ref a7_, .int 0, .ref a8_, .ref a9_, .ref a10_, .int 0, .ref a11_, .int 0, .int 0])), (a4_, .inr (6, [.ref a2_, .ref a3_, .ref a20_, .ref a21_, .int 0])), (a2_, .inr (12, [.ref a1_, .ref a12_, .ref a13_, .ref a14_, .int 1, .int 0, .int 0, .int (-1), .int 0, .int (-1)])), (a12_, .inl (cI, 1503, .inl (upd (fun _ => 0) 0 0))), (a0_, .inr (8, [.ref a1_, .ref a2_, .ref a3_, .ref a4_, .int 0, .int 0, .int 0])), (a3_, .inr (5, [.ref a1_, .ref a15_, .int 0, .int 0, .int 0, .int 0, .ref a16_, .int 0, .ref a17_, .ref a18_, .ref a19_, .int 0]))] := hD
  refine W.widen (k := 0) (n := 0) (by omega) (by omega) ?_
  refine lv_aload_n hx hb dX5_readText_80 rfl (lv_at hl 1 rfl) ?_
  refine va_get (D := (dC, dI)) (ci := 8) (v := .ref a3_) (C := RX5) (T := TX5) (N := 7) hx hb ht itX5 hown hK hP 6 rfl rfl 2 (by decide) (ht _ tw_64) (fun _ h9 => h9) rfl dX5_readText_81 ?_
  refine ca_v (wr := [(a13_, .inl (cI, 1503, .inl (upd (fun _ => 0) 0 0))), (a14_, .inl (cI, 1503, .inl (upd (fun _ => 0) 0 0))), (a4_, .inr (6, [.ref a2_, .ref a3_, .ref a20_, .ref a21_, .int 0])), (a2_, .inr (12, [.ref a1_, .ref a12_, .ref a13_, .ref a14_, .int 1, .int 0, .int 0, .int (-1), .int 0, .int (-1)])), (a12_, .inl (cI, 1503, .inl (upd (fun _ => 0) 0 0))), (a0_, .inr (8, [.ref a1_, .ref a2_, .ref a3_, .ref a4_, .int 0, .int 0, .int 0]))]) (rn_V (n := 0) (As := []) (rest := []) hx hb hml hown ht hKK hFx hP hD hS hA (c_X1_link l dC dI cI cB cZ cJ cR tb H.size a3_ a1_ a15_ a16_ a17_ a18_ a19_ a5_ a6_ a7_ a8_ a9_ a10_ a11_) tw_186 tw_187 (by decide +kernel) rfl rfl ⟨Nat.le_of_ble_eq_true rfl, Nat.le_of_ble_eq_true rfl⟩ [7, 2] rfl (by decide) rfl rfl rfl rfl hl.1 rfl (Nat.le_of_ble_eq_true rfl) dX5_readText_84 ⟨Nat.le_of_ble_eq_true rfl, Nat.le_of_ble_eq_true rfl⟩) hP hD hS hA (isC := [7, 2]) (isR := [0, 1, 3, 4, 5, 6]) rfl rfl (by decide) (by decide) (fun u H locs hw9 hP hD hS => ?_)
  have hP : va_P (dC, dI) vwCl [(a13_, .inl (cI, 1503, .inl (upd (fun _ => 0) 0 0))), (a14_, .inl (cI, 1503, .inl (upd (fun _ => 0) 0 0))), (a4_, .inr (6, [.ref a2_, .ref a3_, .ref a20_, .ref a21_, .int 0])), (a2_, .inr (12, [.ref a1_, .ref a12_, .ref a13_, .ref a14_, .int 1, .int 0, .int 0, .int (-1), .int 0, .int (-1)])), (a12_, .inl (cI, 1503, .inl (upd (fun _ => 0) 0 0))), (a0_, .inr (8, [.ref a1_, .ref a2_, .ref a3_, .ref a4_, .int 0, .int 0, .int 0])), (a3_, .inr (5, [.ref a1_, .ref a15_, .int 0, .int 0, .int 0, .int 0, .ref a16_, .int 0, .ref a17_, .ref a18_, .ref a19_, .int 0])), (a1_, .inr (10, [.ref a5_, .int 0, .ref a6_, .int 0, .ref a7_, .int 0, .ref a8_, .ref a9_, .ref a10_, .int 0, .ref a11_, .int 0, .int 0]))] H := hP
  have hD : va_D A [(a13_, .inl (cI, 1503, .inl (upd (fun _ => 0) 0 0))), (a14_, .inl (cI, 1503, .inl (upd (fun _ => 0) 0 0))), (a4_, .inr (6, [.ref a2_, .ref a3_, .ref a20_, .ref a21_, .int 0])), (a2_, .inr (12, [.ref a1_, .ref a12_, .ref a13_, .ref a14_, .int 1, .int 0, .int 0, .int (-1), .int 0, .int (-1)])), (a12_, .inl (cI, 1503, .inl (upd (fun _ => 0) 0 0))), (a0_, .inr (8, [.ref a1_, .ref a2_, .ref a3_, .ref a4_, .int 0, .int 0, .int 0])), (a3_, .inr (5, [.ref a1_, .ref a15_, .int 0, .int 0, .int 0, .int 0, .ref a16_, .int 0, .ref a17_, .ref a18_, .ref a19_, .int 0])), (a1_, .inr (10, [.ref a5_, .int 0, .ref a6_, .int 0, .ref a7_, .int 0, .ref a8_, .ref a9_, .ref a10_, .int 0, .ref a11_, .int 0, .int 0]))] := hD
  refine W.widen (k := 0) (n := 0) (by omega) (by omega) ?_
  have hP9 := hP.sub (ws' := [(a0_, .inr (8, [.ref a1_, .ref a2_, .ref a3_, .ref a4_, .int 0, .int 0, .int 0])), (a1_, .inr (10, [.ref a5_, .int 0, .ref a6_, .int 0, .ref a7_, .int 0, .ref a8_, .ref a9_, .ref a10_, .int 0, .ref a11_, .int 0, .int 0])), (a2_, .inr (12, [.ref a1_, .ref a12_, .ref a13_, .ref a14_, .int 1, .int 0, .int 0, .int (-1), .int 0, .int (-1)])), (a12_, .inl (cI, 1503, .inl (upd (fun _ => 0) 0 0))), (a13_, .inl (cI, 1503, .inl (upd (fun _ => 0) 0 0))), (a14_, .inl (cI, 1503, .inl (upd (fun _ => 0) 0 0))), (a3_, .inr (5, [.ref a1_, .ref a15_, .int 0, .int 0, .int 0, .int 0, .ref a16_, .int 0, .ref a17_, .ref a18_, .ref a19_, .int 0])), (a4_, .inr (6, [.ref a2_, .ref a3_, .ref a20_, .ref a21_, .int 0]))]) [5, 7, 3, 4, 0, 1, 6, 2] rfl
  have hD9 := hD.sub (ws' := [(a0_, .inr (8, [.ref a1_, .ref a2_, .ref a3_, .ref a4_, .int 0, .int 0, .int 0])), (a1_, .inr (10, [.ref a5_, .int 0, .ref a6_, .int 0, .ref a7_, .int 0, .ref a8_, .ref a9_, .ref a10_, .int 0, .ref a11_, .int 0, .int 0])), (a2_, .inr (12, [.ref a1_, .ref a12_, .ref a13_, .ref a14_, .int 1, .int 0, .int 0, .int (-1), .int 0, .int (-1)])), (a12_, .inl (cI, 1503, .inl (upd (fun _ => 0) 0 0))), (a13_, .inl (cI, 1503, .inl (upd (fun _ => 0) 0 0))), (a14_, .inl (cI, 1503, .inl (upd (fun _ => 0) 0 0))), (a3_, .inr (5, [.ref a1_, .ref a15_, .int 0, .int 0, .int 0, .int 0, .ref a16_, .int 0, .ref a17_, .ref a18_, .ref a19_, .int 0])), (a4_, .inr (6, [.ref a2_, .ref a3_, .ref a20_, .ref a21_, .int 0]))]) [5, 7, 3, 4, 0, 1, 6, 2] (by decide) rfl
  refine W.widen (k := 0) (n := 0) (by omega) (by omega) ?_
  exact W.vret hx hb hr (fun t ht9 hW => ⟨⟨(), rfl, trivial, by rw [ht9]; exact hP9, hD9⟩, hS.F ht9⟩) hS.2.2 dX5_readText_87
set_option maxHeartbeats 4000000 in
set_option maxRecDepth 100000 in
theorem c_X0_emit (l : Launch) (dC : Nat → ClassId) (dI : Nat → Nat → Nat) (cI cB cZ cJ cR : ClassId) (tb : Nat → Nat) (sz : Nat) (a0_ : Nat) (a1_ : Nat) (N : Nat) (a2_ : Nat) (hf_N_0 : 256 ≤ N) (hf_N_1 : N ≤ 4096) : Met l yX0_emit (Cond.code yX0_emit cX0_emit 2 none :: tw_W) ({ frames := 0, cells := 0, slots := 0, locals := 0 }) (pc_ (dC, dI) (tyS cI cB cZ cJ cR) tb [(a0_, .inr (4, [.ref a1_, .int (4 * (nI N)), .ref a2_, .int 0, .int 0, .int 0, .int 0, .int 0, .int 0]))] sz [.ref a0_, .int 2195]) (qv_ (dC, dI) [(a0_, .inr (4, [.ref a1_, .int (4 * (nI N)), .ref a2_, .int 0, .int 0, .int 0, .int 0, .int 0, .int 0]))] sz (fun (u : Unit) => True) (fun (u : Unit) => [(a0_, .inr (4, [.ref a1_, .int (4 * (nI N)), .ref a2_, .int 1, .int 0, .int 0, .int 0, .int 0, .int 0]))])) 0 0 (va_A [(a0_, .inr (4, [.ref a1_, .int (4 * (nI N)), .ref a2_, .int 0, .int 0, .int 0, .int 0, .int 0, .int 0]))] sz) := by
  refine Met.ofW (cc := cX0_emit) (maxL := 2) (ret := none) (by decide) rfl ?_
  intro p e s m args below meth c s₁ B hml hv
  obtain ⟨rfl, hsz, hP, hKK, hD0, hFx⟩ := hv
  have hK := hKK.1
  have hx := B.exec
  have hb := B.bytes
  have hr := B.returns
  have ht : ∀ w ∈ tw_W, w.before _ s = true := fun w h => atoms_spec (ws := Cond.code yX0_emit cX0_emit 2 none :: tw_W) B.pre w (List.mem_cons_of_mem _ h)
  have hown : s.vm.findClass RX0 = some m.cls := findClass_of_methodNamed B.named
  have hlocks := B.notSynchronized
  subst hsz
  unfold qv_
  have hD := hD0.self (sz := s.heap.size)
  generalize hAe : va_A [(a0_, .inr (4, [.ref a1_, .int (4 * (nI N)), .ref a2_, .int 0, .int 0, .int 0, .int 0, .int 0, .int 0]))] s.heap.size = A at hD hFx ⊢
  have hA : ∀ q : Nat, s.heap.size ≤ q → A q := fun q h => by rw [← hAe]; exact Or.inr h
  have hS : va_S A s.heap s.heap [] := va_S.rf
  have hP : va_P (dC, dI) vwCl [(a0_, .inr (4, [.ref a1_, .int (4 * (nI N)), .ref a2_, .int 0, .int 0, .int 0, .int 0, .int 0, .int 0]))] s.heap := hP
  have hl := lv_entry ([.ref a0_, .int 2195]) (n := 2) (Nat.le_of_ble_eq_true rfl)
  rw [lg_entry_eq]
  generalize (lg_sl ([.ref a0_, .int 2195]) ++ List.replicate (2 - (lg_sl ([.ref a0_, .int 2195])).length) Slot.unset).toArray = ls at hl ⊢
  have hl : lv_has ls 2 [(0, .ref a0_), (1, .int 2195)] := hl
  refine lv_aload_n hx hb dX0_emit_0 rfl (lv_at hl 0 rfl) ?_
  refine va_get (D := (dC, dI)) (ci := 4) (v := .int 0) (C := RX0) (T := TX0) (N := 9) hx hb ht itX0 hown hK hP 0 rfl rfl 4 (by decide) (ht _ tw_190) (fun _ h9 => h9) rfl dX0_emit_1 ?_
  refine lv_if_eq (tgt := 35) hx hb dX0_emit_4 (by decide) (fun _ => ?_) (fun k1 => absurd k1 (by decide))
  refine lv_aload_n hx hb dX0_emit_35 rfl (lv_at hl 0 rfl) ?_
  refine lv_dup hx hb dX0_emit_36 rfl ?_
  refine va_get (D := (dC, dI)) (ci := 4) (v := .int 0) (C := RX0) (T := TX0) (N := 9) hx hb ht itX0 hown hK hP 0 rfl rfl 3 (by decide) (ht _ tw_191) (fun _ h9 => h9) rfl dX0_emit_37 ?_
  refine lv_iconst (v := 1) hx hb dX0_emit_40 (by decide) ?_
  refine lv_iadd hx hb dX0_emit_41 ?_
  refine tp_i (y := 1) (by decide) ?_
  refine va_put (D := (dC, dI)) (ci := 4) (v := .int 1) (ty := .int) (C := RX0) (T := TX0) (N := 9) hx hb ht itX0 tyX0 tyX0_ok nmX0 hown hK hP hD hS 0 rfl rfl 3 (by decide) (ht _ tw_191) (fun _ h9 => h9) rfl (by decide +kernel) rfl rfl (Nat.le_of_ble_eq_true rfl) dX0_emit_42 (fun H locs hP hD hS => ?_)
  have hP : va_P (dC, dI) vwCl [(a0_, .inr (4, [.ref a1_, .int (4 * (nI N)), .ref a2_, .int 1, .int 0, .int 0, .int 0, .int 0, .int 0]))] H := hP
  have hD : va_D A [(a0_, .inr (4, [.ref a1_, .int (4 * (nI N)), .ref a2_, .int 1, .int 0, .int 0, .int 0, .int 0, .int 0]))] := hD
  have hP9 := hP.sub (ws' := [(a0_, .inr (4, [.ref a1_, .int (4 * (nI N)), .ref a2_, .int 1, .int 0, .int 0, .int 0, .int 0, .int 0]))]) [0] rfl
  have hD9 := hD.sub (ws' := [(a0_, .inr (4, [.ref a1_, .int (4 * (nI N)), .ref a2_, .int 1, .int 0, .int 0, .int 0, .int 0, .int 0]))]) [0] (by decide) rfl
  refine W.widen (k := 0) (n := 0) (by omega) (by omega) ?_
  exact W.vret hx hb hr (fun t ht9 hW => ⟨⟨(), rfl, trivial, by rw [ht9]; exact hP9, hD9⟩, hS.F ht9⟩) hS.2.2 dX0_emit_45
set_option maxHeartbeats 4000000 in
set_option maxRecDepth 100000 in
theorem c_X0_immediate (l : Launch) (dC : Nat → ClassId) (dI : Nat → Nat → Nat) (cI cB cZ cJ cR : ClassId) (tb : Nat → Nat) (sz : Nat) (a0_ : Nat) (a1_ : Nat) (N : Nat) (a2_ : Nat) (hf_N_0 : 256 ≤ N) (hf_N_1 : N ≤ 4096) : Met l yX0_immediate (Cond.code yX0_immediate cX0_immediate 5 none :: tw_W) ({ frames := 1, cells := 0, slots := 0, locals := 21 }) (pc_ (dC, dI) (tyS cI cB cZ cJ cR) tb [(a0_, .inr (4, [.ref a1_, .int (4 * (nI N)), .ref a2_, .int 0, .int 0, .int 0, .int 0, .int 0, .int 0]))] sz [.ref a0_, .int 19, .int 17, .int 0, .int 0]) (qv_ (dC, dI) [(a0_, .inr (4, [.ref a1_, .int (4 * (nI N)), .ref a2_, .int 0, .int 0, .int 0, .int 0, .int 0, .int 0]))] sz (fun (u : Unit) => True) (fun (u : Unit) => [(a0_, .inr (4, [.ref a1_, .int (4 * (nI N)), .ref a2_, .int 1, .int 0, .int 0, .int 0, .int 0, .int 0]))])) 0 0 (va_A [(a0_, .inr (4, [.ref a1_, .int (4 * (nI N)), .ref a2_, .int 0, .int 0, .int 0, .int 0, .int 0, .int 0]))] sz) := by
  refine Met.ofW (cc := cX0_immediate) (maxL := 5) (ret := none) (by decide) rfl ?_
  intro p e s m args below meth c s₁ B hml hv
  obtain ⟨rfl, hsz, hP, hKK, hD0, hFx⟩ := hv
  have hK := hKK.1
  have hx := B.exec
  have hb := B.bytes
  have hr := B.returns
  have ht : ∀ w ∈ tw_W, w.before _ s = true := fun w h => atoms_spec (ws := Cond.code yX0_immediate cX0_immediate 5 none :: tw_W) B.pre w (List.mem_cons_of_mem _ h)
  have hown : s.vm.findClass RX0 = some m.cls := findClass_of_methodNamed B.named
  have hlocks := B.notSynchronized
  subst hsz
  unfold qv_
  have hD := hD0.self (sz := s.heap.size)
  generalize hAe : va_A [(a0_, .inr (4, [.ref a1_, .int (4 * (nI N)), .ref a2_, .int 0, .int 0, .int 0, .int 0, .int 0, .int 0]))] s.heap.size = A at hD hFx ⊢
  have hA : ∀ q : Nat, s.heap.size ≤ q → A q := fun q h => by rw [← hAe]; exact Or.inr h
  have hS : va_S A s.heap s.heap [] := va_S.rf
  have hP : va_P (dC, dI) vwCl [(a0_, .inr (4, [.ref a1_, .int (4 * (nI N)), .ref a2_, .int 0, .int 0, .int 0, .int 0, .int 0, .int 0]))] s.heap := hP
  have hl := lv_entry ([.ref a0_, .int 19, .int 17, .int 0, .int 0]) (n := 5) (Nat.le_of_ble_eq_true rfl)
  rw [lg_entry_eq]
  generalize (lg_sl ([.ref a0_, .int 19, .int 17, .int 0, .int 0]) ++ List.replicate (5 - (lg_sl ([.ref a0_, .int 19, .int 17, .int 0, .int 0])).length) Slot.unset).toArray = ls at hl ⊢
  have hl : lv_has ls 5 [(0, .ref a0_), (1, .int 19), (2, .int 17), (3, .int 0), (4, .int 0)] := hl
  refine lv_aload_n hx hb dX0_immediate_0 rfl (lv_at hl 0 rfl) ?_
  refine lv_iload_n hx hb dX0_immediate_1 rfl (lv_at hl 1 rfl) ?_
  refine lv_iload_n hx hb dX0_immediate_2 rfl (lv_at hl 2 rfl) ?_
  refine lv_bipush (v := 7) hx hb dX0_immediate_3 (by decide) ?_
  refine lv_ishl hx hb dX0_immediate_5 ?_
  refine tp_i (y := 2176) (by decide) ?_
  refine lv_ior hx hb dX0_immediate_6 ?_
  refine tp_i (y := 2195) (by decide) ?_
  refine lv_iload_n hx hb dX0_immediate_7 rfl (lv_at hl 3 rfl) ?_
  refine lv_bipush (v := 15) hx hb dX0_immediate_8 (by decide) ?_
  refine lv_ishl hx hb dX0_immediate_10 ?_
  refine tp_i (y := 0) (by decide) ?_
  refine lv_ior hx hb dX0_immediate_11 ?_
  refine tp_i (y := 2195) (by decide) ?_
  refine lv_iload hx hb dX0_immediate_12 (lv_at hl 4 rfl) ?_
  refine lv_bipush (v := 20) hx hb dX0_immediate_14 (by decide) ?_
  refine lv_ishl hx hb dX0_immediate_16 ?_
  refine tp_i (y := 0) (by decide) ?_
  refine lv_ior hx hb dX0_immediate_17 ?_
  refine tp_i (y := 2195) (by decide) ?_
  refine ca_v (wr := []) (rn_V (n := 1) (As := [.int 2195]) (rest := []) hx hb hml hown ht hKK hFx hP hD hS hA (c_X0_emit l dC dI cI cB cZ cJ cR tb s.heap.size a0_ a1_ N a2_ (by omega) (by omega)) tw_194 tw_195 (by decide +kernel) rfl rfl ⟨Nat.le_of_ble_eq_true rfl, Nat.le_of_ble_eq_true rfl⟩ [0] rfl (by decide) rfl rfl rfl rfl hl.1 rfl (Nat.le_of_ble_eq_true rfl) dX0_immediate_18 ⟨Nat.le_of_ble_eq_true rfl, Nat.le_of_ble_eq_true rfl⟩) hP hD hS hA (isC := [0]) (isR := []) rfl rfl (by decide) (by decide) (fun u H locs hw1 hP hD hS => ?_)
  have hP : va_P (dC, dI) vwCl [(a0_, .inr (4, [.ref a1_, .int (4 * (nI N)), .ref a2_, .int 1, .int 0, .int 0, .int 0, .int 0, .int 0]))] H := hP
  have hD : va_D A [(a0_, .inr (4, [.ref a1_, .int (4 * (nI N)), .ref a2_, .int 1, .int 0, .int 0, .int 0, .int 0, .int 0]))] := hD
  refine W.widen (k := 0) (n := 0) (by omega) (by omega) ?_
  have hP9 := hP.sub (ws' := [(a0_, .inr (4, [.ref a1_, .int (4 * (nI N)), .ref a2_, .int 1, .int 0, .int 0, .int 0, .int 0, .int 0]))]) [0] rfl
  have hD9 := hD.sub (ws' := [(a0_, .inr (4, [.ref a1_, .int (4 * (nI N)), .ref a2_, .int 1, .int 0, .int 0, .int 0, .int 0, .int 0]))]) [0] (by decide) rfl
  refine W.widen (k := 0) (n := 0) (by omega) (by omega) ?_
  exact W.vret hx hb hr (fun t ht9 hW => ⟨⟨(), rfl, trivial, by rw [ht9]; exact hP9, hD9⟩, hS.F ht9⟩) hS.2.2 dX0_immediate_21
set_option maxHeartbeats 4000000 in
set_option maxRecDepth 100000 in
theorem c_X0_emit_2 (l : Launch) (dC : Nat → ClassId) (dI : Nat → Nat → Nat) (cI cB cZ cJ cR : ClassId) (tb : Nat → Nat) (sz : Nat) (a0_ : Nat) (a1_ : Nat) (N : Nat) (a2_ : Nat) (hf_N_0 : 256 ≤ N) (hf_N_1 : N ≤ 4096) : Met l yX0_emit (Cond.code yX0_emit cX0_emit 2 none :: tw_W) ({ frames := 0, cells := 0, slots := 0, locals := 0 }) (pc_ (dC, dI) (tyS cI cB cZ cJ cR) tb [(a0_, .inr (4, [.ref a1_, .int (4 * (nI N)), .ref a2_, .int 1, .int 0, .int 0, .int 0, .int 0, .int 0]))] sz [.ref a0_, .int 1048691]) (qv_ (dC, dI) [(a0_, .inr (4, [.ref a1_, .int (4 * (nI N)), .ref a2_, .int 1, .int 0, .int 0, .int 0, .int 0, .int 0]))] sz (fun (u : Unit) => True) (fun (u : Unit) => [(a0_, .inr (4, [.ref a1_, .int (4 * (nI N)), .ref a2_, .int 2, .int 0, .int 0, .int 0, .int 0, .int 0]))])) 0 0 (va_A [(a0_, .inr (4, [.ref a1_, .int (4 * (nI N)), .ref a2_, .int 1, .int 0, .int 0, .int 0, .int 0, .int 0]))] sz) := by
  refine Met.ofW (cc := cX0_emit) (maxL := 2) (ret := none) (by decide) rfl ?_
  intro p e s m args below meth c s₁ B hml hv
  obtain ⟨rfl, hsz, hP, hKK, hD0, hFx⟩ := hv
  have hK := hKK.1
  have hx := B.exec
  have hb := B.bytes
  have hr := B.returns
  have ht : ∀ w ∈ tw_W, w.before _ s = true := fun w h => atoms_spec (ws := Cond.code yX0_emit cX0_emit 2 none :: tw_W) B.pre w (List.mem_cons_of_mem _ h)
  have hown : s.vm.findClass RX0 = some m.cls := findClass_of_methodNamed B.named
  have hlocks := B.notSynchronized
  subst hsz
  unfold qv_
  have hD := hD0.self (sz := s.heap.size)
  generalize hAe : va_A [(a0_, .inr (4, [.ref a1_, .int (4 * (nI N)), .ref a2_, .int 1, .int 0, .int 0, .int 0, .int 0, .int 0]))] s.heap.size = A at hD hFx ⊢
  have hA : ∀ q : Nat, s.heap.size ≤ q → A q := fun q h => by rw [← hAe]; exact Or.inr h
  have hS : va_S A s.heap s.heap [] := va_S.rf
  have hP : va_P (dC, dI) vwCl [(a0_, .inr (4, [.ref a1_, .int (4 * (nI N)), .ref a2_, .int 1, .int 0, .int 0, .int 0, .int 0, .int 0]))] s.heap := hP
  have hl := lv_entry ([.ref a0_, .int 1048691]) (n := 2) (Nat.le_of_ble_eq_true rfl)
  rw [lg_entry_eq]
  generalize (lg_sl ([.ref a0_, .int 1048691]) ++ List.replicate (2 - (lg_sl ([.ref a0_, .int 1048691])).length) Slot.unset).toArray = ls at hl ⊢
  have hl : lv_has ls 2 [(0, .ref a0_), (1, .int 1048691)] := hl
  refine lv_aload_n hx hb dX0_emit_0 rfl (lv_at hl 0 rfl) ?_
  refine va_get (D := (dC, dI)) (ci := 4) (v := .int 0) (C := RX0) (T := TX0) (N := 9) hx hb ht itX0 hown hK hP 0 rfl rfl 4 (by decide) (ht _ tw_190) (fun _ h9 => h9) rfl dX0_emit_1 ?_
  refine lv_if_eq (tgt := 35) hx hb dX0_emit_4 (by decide) (fun _ => ?_) (fun k1 => absurd k1 (by decide))
  refine lv_aload_n hx hb dX0_emit_35 rfl (lv_at hl 0 rfl) ?_
  refine lv_dup hx hb dX0_emit_36 rfl ?_
  refine va_get (D := (dC, dI)) (ci := 4) (v := .int 1) (C := RX0) (T := TX0) (N := 9) hx hb ht itX0 hown hK hP 0 rfl rfl 3 (by decide) (ht _ tw_191) (fun _ h9 => h9) rfl dX0_emit_37 ?_
  refine lv_iconst (v := 1) hx hb dX0_emit_40 (by decide) ?_
  refine lv_iadd hx hb dX0_emit_41 ?_
  refine tp_i (y := 2) (by decide) ?_
  refine va_put (D := (dC, dI)) (ci := 4) (v := .int 2) (ty := .int) (C := RX0) (T := TX0) (N := 9) hx hb ht itX0 tyX0 tyX0_ok nmX0 hown hK hP hD hS 0 rfl rfl 3 (by decide) (ht _ tw_191) (fun _ h9 => h9) rfl (by decide +kernel) rfl rfl (Nat.le_of_ble_eq_true rfl) dX0_emit_42 (fun H locs hP hD hS => ?_)
  have hP : va_P (dC, dI) vwCl [(a0_, .inr (4, [.ref a1_, .int (4 * (nI N)), .ref a2_, .int 2, .int 0, .int 0, .int 0, .int 0, .int 0]))] H := hP
  have hD : va_D A [(a0_, .inr (4, [.ref a1_, .int (4 * (nI N)), .ref a2_, .int 2, .int 0, .int 0, .int 0, .int 0, .int 0]))] := hD
  have hP9 := hP.sub (ws' := [(a0_, .inr (4, [.ref a1_, .int (4 * (nI N)), .ref a2_, .int 2, .int 0, .int 0, .int 0, .int 0, .int 0]))]) [0] rfl
  have hD9 := hD.sub (ws' := [(a0_, .inr (4, [.ref a1_, .int (4 * (nI N)), .ref a2_, .int 2, .int 0, .int 0, .int 0, .int 0, .int 0]))]) [0] (by decide) rfl
  refine W.widen (k := 0) (n := 0) (by omega) (by omega) ?_
  exact W.vret hx hb hr (fun t ht9 hW => ⟨⟨(), rfl, trivial, by rw [ht9]; exact hP9, hD9⟩, hS.F ht9⟩) hS.2.2 dX0_emit_45
set_option maxHeartbeats 4000000 in
set_option maxRecDepth 100000 in
theorem c_X0_placeGlobals (l : Launch) (dC : Nat → ClassId) (dI : Nat → Nat → Nat) (cI cB cZ cJ cR : ClassId) (tb : Nat → Nat) (sz : Nat) (a0_ : Nat) (a1_ : Nat) (N : Nat) (a2_ : Nat) (a3_ : Nat) (a4_ : Nat) (a5_ : Nat) (a6_ : Nat) (a7_ : Nat) (a8_ : Nat) (a9_ : Nat) (hf_N_0 : 256 ≤ N) (hf_N_1 : N ≤ 4096) : Met l yX0_placeGlobals (Cond.code yX0_placeGlobals cX0_placeGlobals 3 none :: tw_W) ({ frames := 0, cells := 0, slots := 0, locals := 0 }) (pc_ (dC, dI) (tyS cI cB cZ cJ cR) tb [(a0_, .inr (4, [.ref a1_, .int (4 * (nI N)), .ref a2_, .int 2, .int 0, .int 0, .int 0, .int 8, .int 8])), (a1_, .inr (10, [.ref a3_, .int 0, .ref a4_, .int 0, .ref a5_, .int 0, .ref a6_, .ref a7_, .ref a8_, .int 0, .ref a9_, .int 2, .int 0]))] sz [.ref a0_]) (qv_ (dC, dI) [(a0_, .inr (4, [.ref a1_, .int (4 * (nI N)), .ref a2_, .int 2, .int 0, .int 0, .int 0, .int 8, .int 8])), (a1_, .inr (10, [.ref a3_, .int 0, .ref a4_, .int 0, .ref a5_, .int 0, .ref a6_, .ref a7_, .ref a8_, .int 0, .ref a9_, .int 2, .int 0]))] sz (fun (u : Unit) => True) (fun (u : Unit) => [(a0_, .inr (4, [.ref a1_, .int (4 * (nI N)), .ref a2_, .int 2, .int 0, .int 0, .int 0, .int 8, .int 8])), (a1_, .inr (10, [.ref a3_, .int 0, .ref a4_, .int 0, .ref a5_, .int 0, .ref a6_, .ref a7_, .ref a8_, .int 0, .ref a9_, .int 2, .int 8]))])) 0 0 (va_A [(a0_, .inr (4, [.ref a1_, .int (4 * (nI N)), .ref a2_, .int 2, .int 0, .int 0, .int 0, .int 8, .int 8])), (a1_, .inr (10, [.ref a3_, .int 0, .ref a4_, .int 0, .ref a5_, .int 0, .ref a6_, .ref a7_, .ref a8_, .int 0, .ref a9_, .int 2, .int 0]))] sz) := by
  refine Met.ofW (cc := cX0_placeGlobals) (maxL := 3) (ret := none) (by decide) rfl ?_
  intro p e s m args below meth c s₁ B hml hv
  obtain ⟨rfl, hsz, hP, hKK, hD0, hFx⟩ := hv
  have hK := hKK.1
  have hx := B.exec
  have hb := B.bytes
  have hr := B.returns
  have ht : ∀ w ∈ tw_W, w.before _ s = true := fun w h => atoms_spec (ws := Cond.code yX0_placeGlobals cX0_placeGlobals 3 none :: tw_W) B.pre w (List.mem_cons_of_mem _ h)
  have hown : s.vm.findClass RX0 = some m.cls := findClass_of_methodNamed B.named
  have hlocks := B.notSynchronized
  subst hsz
  unfold qv_
  have hD := hD0.self (sz := s.heap.size)
  generalize hAe : va_A [(a0_, .inr (4, [.ref a1_, .int (4 * (nI N)), .ref a2_, .int 2, .int 0, .int 0, .int 0, .int 8, .int 8])), (a1_, .inr (10, [.ref a3_, .int 0, .ref a4_, .int 0, .ref a5_, .int 0, .ref a6_, .ref a7_, .ref a8_, .int 0, .ref a9_, .int 2, .int 0]))] s.heap.size = A at hD hFx ⊢
  have hA : ∀ q : Nat, s.heap.size ≤ q → A q := fun q h => by rw [← hAe]; exact Or.inr h
  have hS : va_S A s.heap s.heap [] := va_S.rf
  have hP : va_P (dC, dI) vwCl [(a0_, .inr (4, [.ref a1_, .int (4 * (nI N)), .ref a2_, .int 2, .int 0, .int 0, .int 0, .int 8, .int 8])), (a1_, .inr (10, [.ref a3_, .int 0, .ref a4_, .int 0, .ref a5_, .int 0, .ref a6_, .ref a7_, .ref a8_, .int 0, .ref a9_, .int 2, .int 0]))] s.heap := hP
  have hl := lv_entry ([.ref a0_]) (n := 3) (Nat.le_of_ble_eq_true rfl)
  rw [lg_entry_eq]
  generalize (lg_sl ([.ref a0_]) ++ List.replicate (3 - (lg_sl ([.ref a0_])).length) Slot.unset).toArray = ls at hl ⊢
  have hl : lv_has ls 3 [(0, .ref a0_)] := hl
  refine lv_iconst (v := 4) hx hb dX0_placeGlobals_0 (by decide) ?_
  refine lv_aload_n hx hb dX0_placeGlobals_1 rfl (lv_at hl 0 rfl) ?_
  refine va_get (D := (dC, dI)) (ci := 4) (v := .int 2) (C := RX0) (T := TX0) (N := 9) hx hb ht itX0 hown hK hP 0 rfl rfl 3 (by decide) (ht _ tw_191) (fun _ h9 => h9) rfl dX0_placeGlobals_2 ?_
  refine lv_imul hx hb dX0_placeGlobals_5 ?_
  refine tp_i (y := 8) (by decide) ?_
  refine lv_istore_n (lv' := [(1, .int 8), (0, .ref a0_)]) hx hb dX0_placeGlobals_6 rfl hl (by decide) rfl (fun ls hl => ?_)
  refine lv_iconst (v := 0) hx hb dX0_placeGlobals_7 (by decide) ?_
  refine lv_istore_n (lv' := [(2, .int 0), (1, .int 8), (0, .ref a0_)]) hx hb dX0_placeGlobals_8 rfl hl (by decide) rfl (fun ls hl => ?_)
  refine lv_iload_n hx hb dX0_placeGlobals_9 rfl (lv_at hl 0 rfl) ?_
  refine lv_aload_n hx hb dX0_placeGlobals_10 rfl (lv_at hl 2 rfl) ?_
  refine va_get (D := (dC, dI)) (ci := 4) (v := .ref a1_) (C := RX0) (T := TX0) (N := 9) hx hb ht itX0 hown hK hP 0 rfl rfl 0 (by decide) (ht _ tw_75) (fun _ h9 => h9) rfl dX0_placeGlobals_11 ?_
  refine va_get (D := (dC, dI)) (ci := 10) (v := .int 0) (C := RX7) (T := TX7) (N := 13) hx hb ht itX7 hown hK hP 1 rfl rfl 5 (by decide) (ht _ tw_203) (fun _ h9 => h9) rfl dX0_placeGlobals_14 ?_
  refine lv_icmp_ge (tgt := 50) hx hb dX0_placeGlobals_17 (by decide) (fun _ => ?_) (fun k1 => absurd k1 (by decide))
  refine lv_aload_n hx hb dX0_placeGlobals_50 rfl (lv_at hl 2 rfl) ?_
  refine va_get (D := (dC, dI)) (ci := 4) (v := .ref a1_) (C := RX0) (T := TX0) (N := 9) hx hb ht itX0 hown hK hP 0 rfl rfl 0 (by decide) (ht _ tw_75) (fun _ h9 => h9) rfl dX0_placeGlobals_51 ?_
  refine lv_iload_n hx hb dX0_placeGlobals_54 rfl (lv_at hl 1 rfl) ?_
  refine va_put (D := (dC, dI)) (ci := 10) (v := .int 8) (ty := .int) (C := RX7) (T := TX7) (N := 13) hx hb ht itX7 tyX7 tyX7_ok nmX7 hown hK hP hD hS 1 rfl rfl 12 (by decide) (ht _ tw_204) (fun _ h9 => h9) rfl (by decide +kernel) rfl rfl (Nat.le_of_ble_eq_true rfl) dX0_placeGlobals_55 (fun H locs hP hD hS => ?_)
  have hP : va_P (dC, dI) vwCl [(a0_, .inr (4, [.ref a1_, .int (4 * (nI N)), .ref a2_, .int 2, .int 0, .int 0, .int 0, .int 8, .int 8])), (a1_, .inr (10, [.ref a3_, .int 0, .ref a4_, .int 0, .ref a5_, .int 0, .ref a6_, .ref a7_, .ref a8_, .int 0, .ref a9_, .int 2, .int 8]))] H := hP
  have hD : va_D A [(a0_, .inr (4, [.ref a1_, .int (4 * (nI N)), .ref a2_, .int 2, .int 0, .int 0, .int 0, .int 8, .int 8])), (a1_, .inr (10, [.ref a3_, .int 0, .ref a4_, .int 0, .ref a5_, .int 0, .ref a6_, .ref a7_, .ref a8_, .int 0, .ref a9_, .int 2, .int 8]))] := hD
  have hP9 := hP.sub (ws' := [(a0_, .inr (4, [.ref a1_, .int (4 * (nI N)), .ref a2_, .int 2, .int 0, .int 0, .int 0, .int 8, .int 8])), (a1_, .inr (10, [.ref a3_, .int 0, .ref a4_, .int 0, .ref a5_, .int 0, .ref a6_, .ref a7_, .ref a8_, .int 0, .ref a9_, .int 2, .int 8]))]) [0, 1] rfl
  have hD9 := hD.sub (ws' := [(a0_, .inr (4, [.ref a1_, .int (4 * (nI N)), .ref a2_, .int 2, .int 0, .int 0, .int 0, .int 8, .int 8])), (a1_, .inr (10, [.ref a3_, .int 0, .ref a4_, .int 0, .ref a5_, .int 0, .ref a6_, .ref a7_, .ref a8_, .int 0, .ref a9_, .int 2, .int 8]))]) [0, 1] (by decide) rfl
  refine W.widen (k := 0) (n := 0) (by omega) (by omega) ?_
  exact W.vret hx hb hr (fun t ht9 hW => ⟨⟨(), rfl, trivial, by rw [ht9]; exact hP9, hD9⟩, hS.F ht9⟩) hS.2.2 dX0_placeGlobals_58
set_option maxHeartbeats 4000000 in
set_option maxRecDepth 100000 in
theorem c_X0_layAll (l : Launch) (dC : Nat → ClassId) (dI : Nat → Nat → Nat) (cI cB cZ cJ cR : ClassId) (tb : Nat → Nat) (sz : Nat) (a0_ : Nat) (a1_ : Nat) (N : Nat) (a2_ : Nat) (a3_ : Nat) (a4_ : Nat) (a5_ : Nat) (a6_ : Nat) (a7_ : Nat) (a8_ : Nat) (a9_ : Nat) (hf_N_0 : 256 ≤ N) (hf_N_1 : N ≤ 4096) : Met l yX0_layAll (Cond.code yX0_layAll cX0_layAll 2 none :: tw_W) ({ frames := 2, cells := 0, slots := 0, locals := 45 }) (pc_ (dC, dI) (tyS cI cB cZ cJ cR) tb [(a0_, .inr (4, [.ref a1_, .int (4 * (nI N)), .ref a2_, .int 0, .int 0, .int 0, .int 0, .int 0, .int 0])), (a1_, .inr (10, [.ref a3_, .int 0, .ref a4_, .int 0, .ref a5_, .int 0, .ref a6_, .ref a7_, .ref a8_, .int 0, .ref a9_, .int 0, .int 0]))] sz [.ref a0_]) (qv_ (dC, dI) [(a0_, .inr (4, [.ref a1_, .int (4 * (nI N)), .ref a2_, .int 0, .int 0, .int 0, .int 0, .int 0, .int 0])), (a1_, .inr (10, [.ref a3_, .int 0, .ref a4_, .int 0, .ref a5_, .int 0, .ref a6_, .ref a7_, .ref a8_, .int 0, .ref a9_, .int 0, .int 0]))] sz (fun (u : Unit) => True) (fun (u : Unit) => [(a0_, .inr (4, [.ref a1_, .int (4 * (nI N)), .ref a2_, .int 2, .int 0, .int 0, .int 0, .int 8, .int 8])), (a1_, .inr (10, [.ref a3_, .int 0, .ref a4_, .int 0, .ref a5_, .int 0, .ref a6_, .ref a7_, .ref a8_, .int 0, .ref a9_, .int 2, .int 8]))])) 0 0 (va_A [(a0_, .inr (4, [.ref a1_, .int (4 * (nI N)), .ref a2_, .int 0, .int 0, .int 0, .int 0, .int 0, .int 0])), (a1_, .inr (10, [.ref a3_, .int 0, .ref a4_, .int 0, .ref a5_, .int 0, .ref a6_, .ref a7_, .ref a8_, .int 0, .ref a9_, .int 0, .int 0]))] sz) := by
  refine Met.ofW (cc := cX0_layAll) (maxL := 2) (ret := none) (by decide) rfl ?_
  intro p e s m args below meth c s₁ B hml hv
  obtain ⟨rfl, hsz, hP, hKK, hD0, hFx⟩ := hv
  have hK := hKK.1
  have hx := B.exec
  have hb := B.bytes
  have hr := B.returns
  have ht : ∀ w ∈ tw_W, w.before _ s = true := fun w h => atoms_spec (ws := Cond.code yX0_layAll cX0_layAll 2 none :: tw_W) B.pre w (List.mem_cons_of_mem _ h)
  have hown : s.vm.findClass RX0 = some m.cls := findClass_of_methodNamed B.named
  have hlocks := B.notSynchronized
  subst hsz
  unfold qv_
  have hD := hD0.self (sz := s.heap.size)
  generalize hAe : va_A [(a0_, .inr (4, [.ref a1_, .int (4 * (nI N)), .ref a2_, .int 0, .int 0, .int 0, .int 0, .int 0, .int 0])), (a1_, .inr (10, [.ref a3_, .int 0, .ref a4_, .int 0, .ref a5_, .int 0, .ref a6_, .ref a7_, .ref a8_, .int 0, .ref a9_, .int 0, .int 0]))] s.heap.size = A at hD hFx ⊢
  have hA : ∀ q : Nat, s.heap.size ≤ q → A q := fun q h => by rw [← hAe]; exact Or.inr h
  have hS : va_S A s.heap s.heap [] := va_S.rf
  have hP : va_P (dC, dI) vwCl [(a0_, .inr (4, [.ref a1_, .int (4 * (nI N)), .ref a2_, .int 0, .int 0, .int 0, .int 0, .int 0, .int 0])), (a1_, .inr (10, [.ref a3_, .int 0, .ref a4_, .int 0, .ref a5_, .int 0, .ref a6_, .ref a7_, .ref a8_, .int 0, .ref a9_, .int 0, .int 0]))] s.heap := hP
  have hl := lv_entry ([.ref a0_]) (n := 2) (Nat.le_of_ble_eq_true rfl)
  rw [lg_entry_eq]
  generalize (lg_sl ([.ref a0_]) ++ List.replicate (2 - (lg_sl ([.ref a0_])).length) Slot.unset).toArray = ls at hl ⊢
  have hl : lv_has ls 2 [(0, .ref a0_)] := hl
  refine lv_aload_n hx hb dX0_layAll_0 rfl (lv_at hl 0 rfl) ?_
  refine lv_iconst (v := 0) hx hb dX0_layAll_1 (by decide) ?_
  refine va_put (D := (dC, dI)) (ci := 4) (v := .int 0) (ty := .int) (C := RX0) (T := TX0) (N := 9) hx hb ht itX0 tyX0 tyX0_ok nmX0 hown hK hP hD hS 0 rfl rfl 3 (by decide) (ht _ tw_191) (fun _ h9 => h9) rfl (by decide +kernel) rfl rfl (Nat.le_of_ble_eq_true rfl) dX0_layAll_2 (fun H locs hP hD hS => ?_)
  have hP : va_P (dC, dI) vwCl [(a0_, .inr (4, [.ref a1_, .int (4 * (nI N)), .ref a2_, .int 0, .int 0, .int 0, .int 0, .int 0, .int 0])), (a1_, .inr (10, [.ref a3_, .int 0, .ref a4_, .int 0, .ref a5_, .int 0, .ref a6_, .ref a7_, .ref a8_, .int 0, .ref a9_, .int 0, .int 0]))] H := hP
  have hD : va_D A [(a0_, .inr (4, [.ref a1_, .int (4 * (nI N)), .ref a2_, .int 0, .int 0, .int 0, .int 0, .int 0, .int 0])), (a1_, .inr (10, [.ref a3_, .int 0, .ref a4_, .int 0, .ref a5_, .int 0, .ref a6_, .ref a7_, .ref a8_, .int 0, .ref a9_, .int 0, .int 0]))] := hD
  refine lv_aload_n hx hb dX0_layAll_5 rfl (lv_at hl 0 rfl) ?_
  refine lv_iconst (v := 0) hx hb dX0_layAll_6 (by decide) ?_
  refine va_put (D := (dC, dI)) (ci := 4) (v := .int 0) (ty := .boolean) (C := RX0) (T := TX0) (N := 9) hx hb ht itX0 tyX0 tyX0_ok nmX0 hown hK hP hD hS 0 rfl rfl 5 (by decide) (ht _ tw_192) (fun _ h9 => h9) rfl (by decide +kernel) rfl rfl (Nat.le_of_ble_eq_true rfl) dX0_layAll_7 (fun H locs hP hD hS => ?_)
  have hP : va_P (dC, dI) vwCl [(a0_, .inr (4, [.ref a1_, .int (4 * (nI N)), .ref a2_, .int 0, .int 0, .int 0, .int 0, .int 0, .int 0])), (a1_, .inr (10, [.ref a3_, .int 0, .ref a4_, .int 0, .ref a5_, .int 0, .ref a6_, .ref a7_, .ref a8_, .int 0, .ref a9_, .int 0, .int 0]))] H := hP
  have hD : va_D A [(a0_, .inr (4, [.ref a1_, .int (4 * (nI N)), .ref a2_, .int 0, .int 0, .int 0, .int 0, .int 0, .int 0])), (a1_, .inr (10, [.ref a3_, .int 0, .ref a4_, .int 0, .ref a5_, .int 0, .ref a6_, .ref a7_, .ref a8_, .int 0, .ref a9_, .int 0, .int 0]))] := hD
  refine lv_aload_n hx hb dX0_layAll_10 rfl (lv_at hl 0 rfl) ?_
  refine lv_iconst (v := 0) hx hb dX0_layAll_11 (by decide) ?_
  refine va_put (D := (dC, dI)) (ci := 4) (v := .int 0) (ty := .boolean) (C := RX0) (T := TX0) (N := 9) hx hb ht itX0 tyX0 tyX0_ok nmX0 hown hK hP hD hS 0 rfl rfl 6 (by decide) (ht _ tw_193) (fun _ h9 => h9) rfl (by decide +kernel) rfl rfl (Nat.le_of_ble_eq_true rfl) dX0_layAll_12 (fun H locs hP hD hS => ?_)
  have hP : va_P (dC, dI) vwCl [(a0_, .inr (4, [.ref a1_, .int (4 * (nI N)), .ref a2_, .int 0, .int 0, .int 0, .int 0, .int 0, .int 0])), (a1_, .inr (10, [.ref a3_, .int 0, .ref a4_, .int 0, .ref a5_, .int 0, .ref a6_, .ref a7_, .ref a8_, .int 0, .ref a9_, .int 0, .int 0]))] H := hP
  have hD : va_D A [(a0_, .inr (4, [.ref a1_, .int (4 * (nI N)), .ref a2_, .int 0, .int 0, .int 0, .int 0, .int 0, .int 0])), (a1_, .inr (10, [.ref a3_, .int 0, .ref a4_, .int 0, .ref a5_, .int 0, .ref a6_, .ref a7_, .ref a8_, .int 0, .ref a9_, .int 0, .int 0]))] := hD
  refine lv_aload_n hx hb dX0_layAll_15 rfl (lv_at hl 0 rfl) ?_
  refine lv_bipush (v := 19) hx hb dX0_layAll_16 (by decide) ?_
  refine lv_bipush (v := 17) hx hb dX0_layAll_18 (by decide) ?_
  refine lv_iconst (v := 0) hx hb dX0_layAll_20 (by decide) ?_
  refine lv_iconst (v := 0) hx hb dX0_layAll_21 (by decide) ?_
  refine ca_v (wr := [(a1_, .inr (10, [.ref a3_, .int 0, .ref a4_, .int 0, .ref a5_, .int 0, .ref a6_, .ref a7_, .ref a8_, .int 0, .ref a9_, .int 0, .int 0]))]) (rn_V (n := 4) (As := [.int 19, .int 17, .int 0, .int 0]) (rest := []) hx hb hml hown ht hKK hFx hP hD hS hA (c_X0_immediate l dC dI cI cB cZ cJ cR tb H.size a0_ a1_ N a2_ (by omega) (by omega)) tw_196 tw_197 (by decide +kernel) rfl rfl ⟨Nat.le_of_ble_eq_true rfl, Nat.le_of_ble_eq_true rfl⟩ [0] rfl (by decide) rfl rfl rfl rfl hl.1 rfl (Nat.le_of_ble_eq_true rfl) dX0_layAll_22 ⟨Nat.le_of_ble_eq_true rfl, Nat.le_of_ble_eq_true rfl⟩) hP hD hS hA (isC := [0]) (isR := [1]) rfl rfl (by decide) (by decide) (fun u H locs hw1 hP hD hS => ?_)
  have hP : va_P (dC, dI) vwCl [(a1_, .inr (10, [.ref a3_, .int 0, .ref a4_, .int 0, .ref a5_, .int 0, .ref a6_, .ref a7_, .ref a8_, .int 0, .ref a9_, .int 0, .int 0])), (a0_, .inr (4, [.ref a1_, .int (4 * (nI N)), .ref a2_, .int 1, .int 0, .int 0, .int 0, .int 0, .int 0]))] H := hP
  have hD : va_D A [(a1_, .inr (10, [.ref a3_, .int 0, .ref a4_, .int 0, .ref a5_, .int 0, .ref a6_, .ref a7_, .ref a8_, .int 0, .ref a9_, .int 0, .int 0])), (a0_, .inr (4, [.ref a1_, .int (4 * (nI N)), .ref a2_, .int 1, .int 0, .int 0, .int 0, .int 0, .int 0]))] := hD
  refine W.widen (k := 0) (n := 0) (by omega) (by omega) ?_
  refine lv_aload_n hx hb dX0_layAll_25 rfl (lv_at hl 0 rfl) ?_
  refine lv_ldc (v := 1048691) hx hb hown (ht _ tw_198) dX0_layAll_26 ?_
  refine ca_v (wr := [(a1_, .inr (10, [.ref a3_, .int 0, .ref a4_, .int 0, .ref a5_, .int 0, .ref a6_, .ref a7_, .ref a8_, .int 0, .ref a9_, .int 0, .int 0]))]) (rn_V (n := 1) (As := [.int 1048691]) (rest := []) hx hb hml hown ht hKK hFx hP hD hS hA (c_X0_emit_2 l dC dI cI cB cZ cJ cR tb H.size a0_ a1_ N a2_ (by omega) (by omega)) tw_194 tw_195 (by decide +kernel) rfl rfl ⟨Nat.le_of_ble_eq_true rfl, Nat.le_of_ble_eq_true rfl⟩ [1] rfl (by decide) rfl rfl rfl rfl hl.1 rfl (Nat.le_of_ble_eq_true rfl) dX0_layAll_28 ⟨Nat.le_of_ble_eq_true rfl, Nat.le_of_ble_eq_true rfl⟩) hP hD hS hA (isC := [1]) (isR := [0]) rfl rfl (by decide) (by decide) (fun u H locs hw2 hP hD hS => ?_)
  have hP : va_P (dC, dI) vwCl [(a1_, .inr (10, [.ref a3_, .int 0, .ref a4_, .int 0, .ref a5_, .int 0, .ref a6_, .ref a7_, .ref a8_, .int 0, .ref a9_, .int 0, .int 0])), (a0_, .inr (4, [.ref a1_, .int (4 * (nI N)), .ref a2_, .int 2, .int 0, .int 0, .int 0, .int 0, .int 0]))] H := hP
  have hD : va_D A [(a1_, .inr (10, [.ref a3_, .int 0, .ref a4_, .int 0, .ref a5_, .int 0, .ref a6_, .ref a7_, .ref a8_, .int 0, .ref a9_, .int 0, .int 0])), (a0_, .inr (4, [.ref a1_, .int (4 * (nI N)), .ref a2_, .int 2, .int 0, .int 0, .int 0, .int 0, .int 0]))] := hD
  refine W.widen (k := 0) (n := 0) (by omega) (by omega) ?_
  refine lv_iconst (v := 0) hx hb dX0_layAll_31 (by decide) ?_
  refine lv_istore_n (lv' := [(1, .int 0), (0, .ref a0_)]) hx hb dX0_layAll_32 rfl hl (by decide) rfl (fun ls hl => ?_)
  refine lv_iload_n hx hb dX0_layAll_33 rfl (lv_at hl 0 rfl) ?_
  refine lv_aload_n hx hb dX0_layAll_34 rfl (lv_at hl 1 rfl) ?_
  refine va_get (D := (dC, dI)) (ci := 4) (v := .ref a1_) (C := RX0) (T := TX0) (N := 9) hx hb ht itX0 hown hK hP 1 rfl rfl 0 (by decide) (ht _ tw_75) (fun _ h9 => h9) rfl dX0_layAll_35 ?_
  refine va_get (D := (dC, dI)) (ci := 10) (v := .int 0) (C := RX7) (T := TX7) (N := 13) hx hb ht itX7 hown hK hP 0 rfl rfl 9 (by decide) (ht _ tw_199) (fun _ h9 => h9) rfl dX0_layAll_38 ?_
  refine lv_icmp_ge (tgt := 100) hx hb dX0_layAll_41 (by decide) (fun _ => ?_) (fun k3 => absurd k3 (by decide))
  refine lv_aload_n hx hb dX0_layAll_100 rfl (lv_at hl 1 rfl) ?_
  refine lv_iconst (v := 4) hx hb dX0_layAll_101 (by decide) ?_
  refine lv_aload_n hx hb dX0_layAll_102 rfl (lv_at hl 1 rfl) ?_
  refine va_get (D := (dC, dI)) (ci := 4) (v := .int 2) (C := RX0) (T := TX0) (N := 9) hx hb ht itX0 hown hK hP 1 rfl rfl 3 (by decide) (ht _ tw_191) (fun _ h9 => h9) rfl dX0_layAll_103 ?_
  refine lv_imul hx hb dX0_layAll_106 ?_
  refine tp_i (y := 8) (by decide) ?_
  refine va_put (D := (dC, dI)) (ci := 4) (v := .int 8) (ty := .int) (C := RX0) (T := TX0) (N := 9) hx hb ht itX0 tyX0 tyX0_ok nmX0 hown hK hP hD hS 1 rfl rfl 7 (by decide) (ht _ tw_200) (fun _ h9 => h9) rfl (by decide +kernel) rfl rfl (Nat.le_of_ble_eq_true rfl) dX0_layAll_107 (fun H locs hP hD hS => ?_)
  have hP : va_P (dC, dI) vwCl [(a1_, .inr (10, [.ref a3_, .int 0, .ref a4_, .int 0, .ref a5_, .int 0, .ref a6_, .ref a7_, .ref a8_, .int 0, .ref a9_, .int 0, .int 0])), (a0_, .inr (4, [.ref a1_, .int (4 * (nI N)), .ref a2_, .int 2, .int 0, .int 0, .int 0, .int 8, .int 0]))] H := hP
  have hD : va_D A [(a1_, .inr (10, [.ref a3_, .int 0, .ref a4_, .int 0, .ref a5_, .int 0, .ref a6_, .ref a7_, .ref a8_, .int 0, .ref a9_, .int 0, .int 0])), (a0_, .inr (4, [.ref a1_, .int (4 * (nI N)), .ref a2_, .int 2, .int 0, .int 0, .int 0, .int 8, .int 0]))] := hD
  refine lv_aload_n hx hb dX0_layAll_110 rfl (lv_at hl 1 rfl) ?_
  refine va_get (D := (dC, dI)) (ci := 4) (v := .int 0) (C := RX0) (T := TX0) (N := 9) hx hb ht itX0 hown hK hP 1 rfl rfl 5 (by decide) (ht _ tw_192) (fun _ h9 => h9) rfl dX0_layAll_111 ?_
  refine lv_if_eq (tgt := 121) hx hb dX0_layAll_114 (by decide) (fun _ => ?_) (fun k4 => absurd k4 (by decide))
  refine lv_aload_n hx hb dX0_layAll_121 rfl (lv_at hl 1 rfl) ?_
  refine lv_iconst (v := 4) hx hb dX0_layAll_122 (by decide) ?_
  refine lv_aload_n hx hb dX0_layAll_123 rfl (lv_at hl 1 rfl) ?_
  refine va_get (D := (dC, dI)) (ci := 4) (v := .int 2) (C := RX0) (T := TX0) (N := 9) hx hb ht itX0 hown hK hP 1 rfl rfl 3 (by decide) (ht _ tw_191) (fun _ h9 => h9) rfl dX0_layAll_124 ?_
  refine lv_imul hx hb dX0_layAll_127 ?_
  refine tp_i (y := 8) (by decide) ?_
  refine va_put (D := (dC, dI)) (ci := 4) (v := .int 8) (ty := .int) (C := RX0) (T := TX0) (N := 9) hx hb ht itX0 tyX0 tyX0_ok nmX0 hown hK hP hD hS 1 rfl rfl 8 (by decide) (ht _ tw_201) (fun _ h9 => h9) rfl (by decide +kernel) rfl rfl (Nat.le_of_ble_eq_true rfl) dX0_layAll_128 (fun H locs hP hD hS => ?_)
  have hP : va_P (dC, dI) vwCl [(a1_, .inr (10, [.ref a3_, .int 0, .ref a4_, .int 0, .ref a5_, .int 0, .ref a6_, .ref a7_, .ref a8_, .int 0, .ref a9_, .int 0, .int 0])), (a0_, .inr (4, [.ref a1_, .int (4 * (nI N)), .ref a2_, .int 2, .int 0, .int 0, .int 0, .int 8, .int 8]))] H := hP
  have hD : va_D A [(a1_, .inr (10, [.ref a3_, .int 0, .ref a4_, .int 0, .ref a5_, .int 0, .ref a6_, .ref a7_, .ref a8_, .int 0, .ref a9_, .int 0, .int 0])), (a0_, .inr (4, [.ref a1_, .int (4 * (nI N)), .ref a2_, .int 2, .int 0, .int 0, .int 0, .int 8, .int 8]))] := hD
  refine lv_aload_n hx hb dX0_layAll_131 rfl (lv_at hl 1 rfl) ?_
  refine va_get (D := (dC, dI)) (ci := 4) (v := .int 0) (C := RX0) (T := TX0) (N := 9) hx hb ht itX0 hown hK hP 1 rfl rfl 6 (by decide) (ht _ tw_193) (fun _ h9 => h9) rfl dX0_layAll_132 ?_
  refine lv_if_eq (tgt := 142) hx hb dX0_layAll_135 (by decide) (fun _ => ?_) (fun k5 => absurd k5 (by decide))
  refine lv_aload_n hx hb dX0_layAll_142 rfl (lv_at hl 1 rfl) ?_
  refine va_get (D := (dC, dI)) (ci := 4) (v := .ref a1_) (C := RX0) (T := TX0) (N := 9) hx hb ht itX0 hown hK hP 1 rfl rfl 0 (by decide) (ht _ tw_75) (fun _ h9 => h9) rfl dX0_layAll_143 ?_
  refine lv_aload_n hx hb dX0_layAll_146 rfl (lv_at hl 1 rfl) ?_
  refine va_get (D := (dC, dI)) (ci := 4) (v := .int 2) (C := RX0) (T := TX0) (N := 9) hx hb ht itX0 hown hK hP 1 rfl rfl 3 (by decide) (ht _ tw_191) (fun _ h9 => h9) rfl dX0_layAll_147 ?_
  refine va_put (D := (dC, dI)) (ci := 10) (v := .int 2) (ty := .int) (C := RX7) (T := TX7) (N := 13) hx hb ht itX7 tyX7 tyX7_ok nmX7 hown hK hP hD hS 0 rfl rfl 11 (by decide) (ht _ tw_202) (fun _ h9 => h9) rfl (by decide +kernel) rfl rfl (Nat.le_of_ble_eq_true rfl) dX0_layAll_150 (fun H locs hP hD hS => ?_)
  have hP : va_P (dC, dI) vwCl [(a1_, .inr (10, [.ref a3_, .int 0, .ref a4_, .int 0, .ref a5_, .int 0, .ref a6_, .ref a7_, .ref a8_, .int 0, .ref a9_, .int 2, .int 0])), (a0_, .inr (4, [.ref a1_, .int (4 * (nI N)), .ref a2_, .int 2, .int 0, .int 0, .int 0, .int 8, .int 8]))] H := hP
  have hD : va_D A [(a1_, .inr (10, [.ref a3_, .int 0, .ref a4_, .int 0, .ref a5_, .int 0, .ref a6_, .ref a7_, .ref a8_, .int 0, .ref a9_, .int 2, .int 0])), (a0_, .inr (4, [.ref a1_, .int (4 * (nI N)), .ref a2_, .int 2, .int 0, .int 0, .int 0, .int 8, .int 8]))] := hD
  refine lv_aload_n hx hb dX0_layAll_153 rfl (lv_at hl 1 rfl) ?_
  refine ca_v (wr := []) (rn_V (n := 0) (As := []) (rest := []) hx hb hml hown ht hKK hFx hP hD hS hA (c_X0_placeGlobals l dC dI cI cB cZ cJ cR tb H.size a0_ a1_ N a2_ a3_ a4_ a5_ a6_ a7_ a8_ a9_ (by omega) (by omega)) tw_205 tw_206 (by decide +kernel) rfl rfl ⟨Nat.le_of_ble_eq_true rfl, Nat.le_of_ble_eq_true rfl⟩ [1, 0] rfl (by decide) rfl rfl rfl rfl hl.1 rfl (Nat.le_of_ble_eq_true rfl) dX0_layAll_154 ⟨Nat.le_of_ble_eq_true rfl, Nat.le_of_ble_eq_true rfl⟩) hP hD hS hA (isC := [1, 0]) (isR := []) rfl rfl (by decide) (by decide) (fun u H locs hw6 hP hD hS => ?_)
  have hP : va_P (dC, dI) vwCl [(a0_, .inr (4, [.ref a1_, .int (4 * (nI N)), .ref a2_, .int 2, .int 0, .int 0, .int 0, .int 8, .int 8])), (a1_, .inr (10, [.ref a3_, .int 0, .ref a4_, .int 0, .ref a5_, .int 0, .ref a6_, .ref a7_, .ref a8_, .int 0, .ref a9_, .int 2, .int 8]))] H := hP
  have hD : va_D A [(a0_, .inr (4, [.ref a1_, .int (4 * (nI N)), .ref a2_, .int 2, .int 0, .int 0, .int 0, .int 8, .int 8])), (a1_, .inr (10, [.ref a3_, .int 0, .ref a4_, .int 0, .ref a5_, .int 0, .ref a6_, .ref a7_, .ref a8_, .int 0, .ref a9_, .int 2, .int 8]))] := hD
  refine W.widen (k := 0) (n := 0) (by omega) (by omega) ?_
  have hP9 := hP.sub (ws' := [(a0_, .inr (4, [.ref a1_, .int (4 * (nI N)), .ref a2_, .int 2, .int 0, .int 0, .int 0, .int 8, .int 8])), (a1_, .inr (10, [.ref a3_, .int 0, .ref a4_, .int 0, .ref a5_, .int 0, .ref a6_, .ref a7_, .ref a8_, .int 0, .ref a9_, .int 2, .int 8]))]) [0, 1] rfl
  have hD9 := hD.sub (ws' := [(a0_, .inr (4, [.ref a1_, .int (4 * (nI N)), .ref a2_, .int 2, .int 0, .int 0, .int 0, .int 8, .int 8])), (a1_, .inr (10, [.ref a3_, .int 0, .ref a4_, .int 0, .ref a5_, .int 0, .ref a6_, .ref a7_, .ref a8_, .int 0, .ref a9_, .int 2, .int 8]))]) [0, 1] (by decide) rfl
  refine W.widen (k := 0) (n := 0) (by omega) (by omega) ?_
  exact W.vret hx hb hr (fun t ht9 hW => ⟨⟨(), rfl, trivial, by rw [ht9]; exact hP9, hD9⟩, hS.F ht9⟩) hS.2.2 dX0_layAll_157
set_option maxHeartbeats 4000000 in
set_option maxRecDepth 100000 in
theorem c_X0_emit_3 (l : Launch) (dC : Nat → ClassId) (dI : Nat → Nat → Nat) (cI cB cZ cJ cR : ClassId) (tb : Nat → Nat) (sz : Nat) (a0_ : Nat) (a1_ : Nat) (N : Nat) (a2_ : Nat) (a3_ : Nat) (a4_ : Nat) (a5_ : Nat) (a6_ : Nat) (a7_ : Nat) (a8_ : Nat) (a9_ : Nat) (hf_N_0 : 256 ≤ N) (hf_N_1 : N ≤ 4096) : Met l yX0_emit (Cond.code yX0_emit cX0_emit 2 none :: tw_W) ({ frames := 0, cells := 0, slots := 0, locals := 0 }) (pc_ (dC, dI) (tyS cI cB cZ cJ cR) tb [(a0_, .inr (4, [.ref a1_, .int (4 * (nI N)), .ref a2_, .int 0, .int 1, .int 0, .int 0, .int 8, .int 8])), (a3_, .inl (cI, N, .inl (fun _ => 0))), (a1_, .inr (10, [.ref a4_, .int 0, .ref a5_, .int 0, .ref a6_, .int 0, .ref a7_, .ref a8_, .ref a9_, .int 0, .ref a3_, .int 2, .int 8]))] sz [.ref a0_, .int 2195]) (qv_ (dC, dI) [(a0_, .inr (4, [.ref a1_, .int (4 * (nI N)), .ref a2_, .int 0, .int 1, .int 0, .int 0, .int 8, .int 8])), (a3_, .inl (cI, N, .inl (fun _ => 0))), (a1_, .inr (10, [.ref a4_, .int 0, .ref a5_, .int 0, .ref a6_, .int 0, .ref a7_, .ref a8_, .ref a9_, .int 0, .ref a3_, .int 2, .int 8]))] sz (fun (u : Unit) => True) (fun (u : Unit) => [(a0_, .inr (4, [.ref a1_, .int (4 * (nI N)), .ref a2_, .int 1, .int 1, .int 0, .int 0, .int 8, .int 8])), (a3_, .inl (cI, N, .inl (upd (fun _ => 0) 0 2195))), (a1_, .inr (10, [.ref a4_, .int 0, .ref a5_, .int 0, .ref a6_, .int 0, .ref a7_, .ref a8_, .ref a9_, .int 0, .ref a3_, .int 2, .int 8]))])) 0 0 (va_A [(a0_, .inr (4, [.ref a1_, .int (4 * (nI N)), .ref a2_, .int 0, .int 1, .int 0, .int 0, .int 8, .int 8])), (a3_, .inl (cI, N, .inl (fun _ => 0))), (a1_, .inr (10, [.ref a4_, .int 0, .ref a5_, .int 0, .ref a6_, .int 0, .ref a7_, .ref a8_, .ref a9_, .int 0, .ref a3_, .int 2, .int 8]))] sz) := by
  refine Met.ofW (cc := cX0_emit) (maxL := 2) (ret := none) (by decide) rfl ?_
  intro p e s m args below meth c s₁ B hml hv
  obtain ⟨rfl, hsz, hP, hKK, hD0, hFx⟩ := hv
  have hK := hKK.1
  have hx := B.exec
  have hb := B.bytes
  have hr := B.returns
  have ht : ∀ w ∈ tw_W, w.before _ s = true := fun w h => atoms_spec (ws := Cond.code yX0_emit cX0_emit 2 none :: tw_W) B.pre w (List.mem_cons_of_mem _ h)
  have hown : s.vm.findClass RX0 = some m.cls := findClass_of_methodNamed B.named
  have hlocks := B.notSynchronized
  subst hsz
  unfold qv_
  have hD := hD0.self (sz := s.heap.size)
  generalize hAe : va_A [(a0_, .inr (4, [.ref a1_, .int (4 * (nI N)), .ref a2_, .int 0, .int 1, .int 0, .int 0, .int 8, .int 8])), (a3_, .inl (cI, N, .inl (fun _ => 0))), (a1_, .inr (10, [.ref a4_, .int 0, .ref a5_, .int 0, .ref a6_, .int 0, .ref a7_, .ref a8_, .ref a9_, .int 0, .ref a3_, .int 2, .int 8]))] s.heap.size = A at hD hFx ⊢
  have hA : ∀ q : Nat, s.heap.size ≤ q → A q := fun q h => by rw [← hAe]; exact Or.inr h
  have hS : va_S A s.heap s.heap [] := va_S.rf
  have hP : va_P (dC, dI) vwCl [(a0_, .inr (4, [.ref a1_, .int (4 * (nI N)), .ref a2_, .int 0, .int 1, .int 0, .int 0, .int 8, .int 8])), (a3_, .inl (cI, N, .inl (fun _ => 0))), (a1_, .inr (10, [.ref a4_, .int 0, .ref a5_, .int 0, .ref a6_, .int 0, .ref a7_, .ref a8_, .ref a9_, .int 0, .ref a3_, .int 2, .int 8]))] s.heap := hP
  have hl := lv_entry ([.ref a0_, .int 2195]) (n := 2) (Nat.le_of_ble_eq_true rfl)
  rw [lg_entry_eq]
  generalize (lg_sl ([.ref a0_, .int 2195]) ++ List.replicate (2 - (lg_sl ([.ref a0_, .int 2195])).length) Slot.unset).toArray = ls at hl ⊢
  have hl : lv_has ls 2 [(0, .ref a0_), (1, .int 2195)] := hl
  refine lv_aload_n hx hb dX0_emit_0 rfl (lv_at hl 0 rfl) ?_
  refine va_get (D := (dC, dI)) (ci := 4) (v := .int 1) (C := RX0) (T := TX0) (N := 9) hx hb ht itX0 hown hK hP 0 rfl rfl 4 (by decide) (ht _ tw_190) (fun _ h9 => h9) rfl dX0_emit_1 ?_
  refine lv_if_eq (tgt := 35) hx hb dX0_emit_4 (by decide) (fun k1 => absurd k1 (by decide)) (fun _ => ?_)
  refine lv_aload_n hx hb dX0_emit_7 rfl (lv_at hl 0 rfl) ?_
  refine va_get (D := (dC, dI)) (ci := 4) (v := .int 0) (C := RX0) (T := TX0) (N := 9) hx hb ht itX0 hown hK hP 0 rfl rfl 3 (by decide) (ht _ tw_191) (fun _ h9 => h9) rfl dX0_emit_8 ?_
  refine lv_aload_n hx hb dX0_emit_11 rfl (lv_at hl 0 rfl) ?_
  refine va_get (D := (dC, dI)) (ci := 4) (v := .ref a1_) (C := RX0) (T := TX0) (N := 9) hx hb ht itX0 hown hK hP 0 rfl rfl 0 (by decide) (ht _ tw_75) (fun _ h9 => h9) rfl dX0_emit_12 ?_
  refine va_get (D := (dC, dI)) (ci := 10) (v := .ref a3_) (C := RX7) (T := TX7) (N := 13) hx hb ht itX7 hown hK hP 2 rfl rfl 10 (by decide) (ht _ tw_209) (fun _ h9 => h9) rfl dX0_emit_15 ?_
  refine va_alen (D := (dC, dI)) (v := (nI N)) hx hb hK hP 1 0 rfl rfl rfl dX0_emit_18 ?_
  refine lv_icmp_ge (tgt := 35) hx hb dX0_emit_19 (by decide) (fun k2 => absurd k2 (nge_c (j := 0) (by decide) (by omega) (by omega))) (fun _ => ?_)
  refine lv_aload_n hx hb dX0_emit_22 rfl (lv_at hl 0 rfl) ?_
  refine va_get (D := (dC, dI)) (ci := 4) (v := .ref a1_) (C := RX0) (T := TX0) (N := 9) hx hb ht itX0 hown hK hP 0 rfl rfl 0 (by decide) (ht _ tw_75) (fun _ h9 => h9) rfl dX0_emit_23 ?_
  refine va_get (D := (dC, dI)) (ci := 10) (v := .ref a3_) (C := RX7) (T := TX7) (N := 13) hx hb ht itX7 hown hK hP 2 rfl rfl 10 (by decide) (ht _ tw_209) (fun _ h9 => h9) rfl dX0_emit_26 ?_
  refine lv_aload_n hx hb dX0_emit_29 rfl (lv_at hl 0 rfl) ?_
  refine va_get (D := (dC, dI)) (ci := 4) (v := .int 0) (C := RX0) (T := TX0) (N := 9) hx hb ht itX0 hown hK hP 0 rfl rfl 3 (by decide) (ht _ tw_191) (fun _ h9 => h9) rfl dX0_emit_30 ?_
  refine lv_iload_n hx hb dX0_emit_33 rfl (lv_at hl 1 rfl) ?_
  refine va_iast (D := (dC, dI)) hx hb hK hP hD hS 1 0 rfl rfl (in_c (j := 0) (by decide) (by omega) (by omega)) dX0_emit_34 (fun H locs hP hD hS => ?_)
  have hP : va_P (dC, dI) vwCl [(a0_, .inr (4, [.ref a1_, .int (4 * (nI N)), .ref a2_, .int 0, .int 1, .int 0, .int 0, .int 8, .int 8])), (a3_, .inl (cI, N, .inl (upd (fun _ => 0) 0 2195))), (a1_, .inr (10, [.ref a4_, .int 0, .ref a5_, .int 0, .ref a6_, .int 0, .ref a7_, .ref a8_, .ref a9_, .int 0, .ref a3_, .int 2, .int 8]))] H := hP
  have hD : va_D A [(a0_, .inr (4, [.ref a1_, .int (4 * (nI N)), .ref a2_, .int 0, .int 1, .int 0, .int 0, .int 8, .int 8])), (a3_, .inl (cI, N, .inl (upd (fun _ => 0) 0 2195))), (a1_, .inr (10, [.ref a4_, .int 0, .ref a5_, .int 0, .ref a6_, .int 0, .ref a7_, .ref a8_, .ref a9_, .int 0, .ref a3_, .int 2, .int 8]))] := hD
  refine lv_aload_n hx hb dX0_emit_35 rfl (lv_at hl 0 rfl) ?_
  refine lv_dup hx hb dX0_emit_36 rfl ?_
  refine va_get (D := (dC, dI)) (ci := 4) (v := .int 0) (C := RX0) (T := TX0) (N := 9) hx hb ht itX0 hown hK hP 0 rfl rfl 3 (by decide) (ht _ tw_191) (fun _ h9 => h9) rfl dX0_emit_37 ?_
  refine lv_iconst (v := 1) hx hb dX0_emit_40 (by decide) ?_
  refine lv_iadd hx hb dX0_emit_41 ?_
  refine tp_i (y := 1) (by decide) ?_
  refine va_put (D := (dC, dI)) (ci := 4) (v := .int 1) (ty := .int) (C := RX0) (T := TX0) (N := 9) hx hb ht itX0 tyX0 tyX0_ok nmX0 hown hK hP hD hS 0 rfl rfl 3 (by decide) (ht _ tw_191) (fun _ h9 => h9) rfl (by decide +kernel) rfl rfl (Nat.le_of_ble_eq_true rfl) dX0_emit_42 (fun H locs hP hD hS => ?_)
  have hP : va_P (dC, dI) vwCl [(a0_, .inr (4, [.ref a1_, .int (4 * (nI N)), .ref a2_, .int 1, .int 1, .int 0, .int 0, .int 8, .int 8])), (a3_, .inl (cI, N, .inl (upd (fun _ => 0) 0 2195))), (a1_, .inr (10, [.ref a4_, .int 0, .ref a5_, .int 0, .ref a6_, .int 0, .ref a7_, .ref a8_, .ref a9_, .int 0, .ref a3_, .int 2, .int 8]))] H := hP
  have hD : va_D A [(a0_, .inr (4, [.ref a1_, .int (4 * (nI N)), .ref a2_, .int 1, .int 1, .int 0, .int 0, .int 8, .int 8])), (a3_, .inl (cI, N, .inl (upd (fun _ => 0) 0 2195))), (a1_, .inr (10, [.ref a4_, .int 0, .ref a5_, .int 0, .ref a6_, .int 0, .ref a7_, .ref a8_, .ref a9_, .int 0, .ref a3_, .int 2, .int 8]))] := hD
  have hP9 := hP.sub (ws' := [(a0_, .inr (4, [.ref a1_, .int (4 * (nI N)), .ref a2_, .int 1, .int 1, .int 0, .int 0, .int 8, .int 8])), (a3_, .inl (cI, N, .inl (upd (fun _ => 0) 0 2195))), (a1_, .inr (10, [.ref a4_, .int 0, .ref a5_, .int 0, .ref a6_, .int 0, .ref a7_, .ref a8_, .ref a9_, .int 0, .ref a3_, .int 2, .int 8]))]) [0, 1, 2] rfl
  have hD9 := hD.sub (ws' := [(a0_, .inr (4, [.ref a1_, .int (4 * (nI N)), .ref a2_, .int 1, .int 1, .int 0, .int 0, .int 8, .int 8])), (a3_, .inl (cI, N, .inl (upd (fun _ => 0) 0 2195))), (a1_, .inr (10, [.ref a4_, .int 0, .ref a5_, .int 0, .ref a6_, .int 0, .ref a7_, .ref a8_, .ref a9_, .int 0, .ref a3_, .int 2, .int 8]))]) [0, 1, 2] (by decide) rfl
  refine W.widen (k := 0) (n := 0) (by omega) (by omega) ?_
  exact W.vret hx hb hr (fun t ht9 hW => ⟨⟨(), rfl, trivial, by rw [ht9]; exact hP9, hD9⟩, hS.F ht9⟩) hS.2.2 dX0_emit_45
set_option maxHeartbeats 4000000 in
set_option maxRecDepth 100000 in
theorem c_X0_immediate_2 (l : Launch) (dC : Nat → ClassId) (dI : Nat → Nat → Nat) (cI cB cZ cJ cR : ClassId) (tb : Nat → Nat) (sz : Nat) (a0_ : Nat) (a1_ : Nat) (N : Nat) (a2_ : Nat) (a3_ : Nat) (a4_ : Nat) (a5_ : Nat) (a6_ : Nat) (a7_ : Nat) (a8_ : Nat) (a9_ : Nat) (hf_N_0 : 256 ≤ N) (hf_N_1 : N ≤ 4096) : Met l yX0_immediate (Cond.code yX0_immediate cX0_immediate 5 none :: tw_W) ({ frames := 1, cells := 0, slots := 0, locals := 21 }) (pc_ (dC, dI) (tyS cI cB cZ cJ cR) tb [(a0_, .inr (4, [.ref a1_, .int (4 * (nI N)), .ref a2_, .int 0, .int 1, .int 0, .int 0, .int 8, .int 8])), (a3_, .inl (cI, N, .inl (fun _ => 0))), (a1_, .inr (10, [.ref a4_, .int 0, .ref a5_, .int 0, .ref a6_, .int 0, .ref a7_, .ref a8_, .ref a9_, .int 0, .ref a3_, .int 2, .int 8]))] sz [.ref a0_, .int 19, .int 17, .int 0, .int 0]) (qv_ (dC, dI) [(a0_, .inr (4, [.ref a1_, .int (4 * (nI N)), .ref a2_, .int 0, .int 1, .int 0, .int 0, .int 8, .int 8])), (a3_, .inl (cI, N, .inl (fun _ => 0))), (a1_, .inr (10, [.ref a4_, .int 0, .ref a5_, .int 0, .ref a6_, .int 0, .ref a7_, .ref a8_, .ref a9_, .int 0, .ref a3_, .int 2, .int 8]))] sz (fun (u : Unit) => True) (fun (u : Unit) => [(a0_, .inr (4, [.ref a1_, .int (4 * (nI N)), .ref a2_, .int 1, .int 1, .int 0, .int 0, .int 8, .int 8])), (a3_, .inl (cI, N, .inl (upd (fun _ => 0) 0 2195))), (a1_, .inr (10, [.ref a4_, .int 0, .ref a5_, .int 0, .ref a6_, .int 0, .ref a7_, .ref a8_, .ref a9_, .int 0, .ref a3_, .int 2, .int 8]))])) 0 0 (va_A [(a0_, .inr (4, [.ref a1_, .int (4 * (nI N)), .ref a2_, .int 0, .int 1, .int 0, .int 0, .int 8, .int 8])), (a3_, .inl (cI, N, .inl (fun _ => 0))), (a1_, .inr (10, [.ref a4_, .int 0, .ref a5_, .int 0, .ref a6_, .int 0, .ref a7_, .ref a8_, .ref a9_, .int 0, .ref a3_, .int 2, .int 8]))] sz) := by
  refine Met.ofW (cc := cX0_immediate) (maxL := 5) (ret := none) (by decide) rfl ?_
  intro p e s m args below meth c s₁ B hml hv
  obtain ⟨rfl, hsz, hP, hKK, hD0, hFx⟩ := hv
  have hK := hKK.1
  have hx := B.exec
  have hb := B.bytes
  have hr := B.returns
  have ht : ∀ w ∈ tw_W, w.before _ s = true := fun w h => atoms_spec (ws := Cond.code yX0_immediate cX0_immediate 5 none :: tw_W) B.pre w (List.mem_cons_of_mem _ h)
  have hown : s.vm.findClass RX0 = some m.cls := findClass_of_methodNamed B.named
  have hlocks := B.notSynchronized
  subst hsz
  unfold qv_
  have hD := hD0.self (sz := s.heap.size)
  generalize hAe : va_A [(a0_, .inr (4, [.ref a1_, .int (4 * (nI N)), .ref a2_, .int 0, .int 1, .int 0, .int 0, .int 8, .int 8])), (a3_, .inl (cI, N, .inl (fun _ => 0))), (a1_, .inr (10, [.ref a4_, .int 0, .ref a5_, .int 0, .ref a6_, .int 0, .ref a7_, .ref a8_, .ref a9_, .int 0, .ref a3_, .int 2, .int 8]))] s.heap.size = A at hD hFx ⊢
  have hA : ∀ q : Nat, s.heap.size ≤ q → A q := fun q h => by rw [← hAe]; exact Or.inr h
  have hS : va_S A s.heap s.heap [] := va_S.rf
  have hP : va_P (dC, dI) vwCl [(a0_, .inr (4, [.ref a1_, .int (4 * (nI N)), .ref a2_, .int 0, .int 1, .int 0, .int 0, .int 8, .int 8])), (a3_, .inl (cI, N, .inl (fun _ => 0))), (a1_, .inr (10, [.ref a4_, .int 0, .ref a5_, .int 0, .ref a6_, .int 0, .ref a7_, .ref a8_, .ref a9_, .int 0, .ref a3_, .int 2, .int 8]))] s.heap := hP
  have hl := lv_entry ([.ref a0_, .int 19, .int 17, .int 0, .int 0]) (n := 5) (Nat.le_of_ble_eq_true rfl)
  rw [lg_entry_eq]
  generalize (lg_sl ([.ref a0_, .int 19, .int 17, .int 0, .int 0]) ++ List.replicate (5 - (lg_sl ([.ref a0_, .int 19, .int 17, .int 0, .int 0])).length) Slot.unset).toArray = ls at hl ⊢
  have hl : lv_has ls 5 [(0, .ref a0_), (1, .int 19), (2, .int 17), (3, .int 0), (4, .int 0)] := hl
  refine lv_aload_n hx hb dX0_immediate_0 rfl (lv_at hl 0 rfl) ?_
  refine lv_iload_n hx hb dX0_immediate_1 rfl (lv_at hl 1 rfl) ?_
  refine lv_iload_n hx hb dX0_immediate_2 rfl (lv_at hl 2 rfl) ?_
  refine lv_bipush (v := 7) hx hb dX0_immediate_3 (by decide) ?_
  refine lv_ishl hx hb dX0_immediate_5 ?_
  refine tp_i (y := 2176) (by decide) ?_
  refine lv_ior hx hb dX0_immediate_6 ?_
  refine tp_i (y := 2195) (by decide) ?_
  refine lv_iload_n hx hb dX0_immediate_7 rfl (lv_at hl 3 rfl) ?_
  refine lv_bipush (v := 15) hx hb dX0_immediate_8 (by decide) ?_
  refine lv_ishl hx hb dX0_immediate_10 ?_
  refine tp_i (y := 0) (by decide) ?_
  refine lv_ior hx hb dX0_immediate_11 ?_
  refine tp_i (y := 2195) (by decide) ?_
  refine lv_iload hx hb dX0_immediate_12 (lv_at hl 4 rfl) ?_
  refine lv_bipush (v := 20) hx hb dX0_immediate_14 (by decide) ?_
  refine lv_ishl hx hb dX0_immediate_16 ?_
  refine tp_i (y := 0) (by decide) ?_
  refine lv_ior hx hb dX0_immediate_17 ?_
  refine tp_i (y := 2195) (by decide) ?_
  refine ca_v (wr := []) (rn_V (n := 1) (As := [.int 2195]) (rest := []) hx hb hml hown ht hKK hFx hP hD hS hA (c_X0_emit_3 l dC dI cI cB cZ cJ cR tb s.heap.size a0_ a1_ N a2_ a3_ a4_ a5_ a6_ a7_ a8_ a9_ (by omega) (by omega)) tw_194 tw_195 (by decide +kernel) rfl rfl ⟨Nat.le_of_ble_eq_true rfl, Nat.le_of_ble_eq_true rfl⟩ [0, 1, 2] rfl (by decide) rfl rfl rfl rfl hl.1 rfl (Nat.le_of_ble_eq_true rfl) dX0_immediate_18 ⟨Nat.le_of_ble_eq_true rfl, Nat.le_of_ble_eq_true rfl⟩) hP hD hS hA (isC := [0, 1, 2]) (isR := []) rfl rfl (by decide) (by decide) (fun u H locs hw1 hP hD hS => ?_)
  have hP : va_P (dC, dI) vwCl [(a0_, .inr (4, [.ref a1_, .int (4 * (nI N)), .ref a2_, .int 1, .int 1, .int 0, .int 0, .int 8, .int 8])), (a3_, .inl (cI, N, .inl (upd (fun _ => 0) 0 2195))), (a1_, .inr (10, [.ref a4_, .int 0, .ref a5_, .int 0, .ref a6_, .int 0, .ref a7_, .ref a8_, .ref a9_, .int 0, .ref a3_, .int 2, .int 8]))] H := hP
  have hD : va_D A [(a0_, .inr (4, [.ref a1_, .int (4 * (nI N)), .ref a2_, .int 1, .int 1, .int 0, .int 0, .int 8, .int 8])), (a3_, .inl (cI, N, .inl (upd (fun _ => 0) 0 2195))), (a1_, .inr (10, [.ref a4_, .int 0, .ref a5_, .int 0, .ref a6_, .int 0, .ref a7_, .ref a8_, .ref a9_, .int 0, .ref a3_, .int 2, .int 8]))] := hD
  refine W.widen (k := 0) (n := 0) (by omega) (by omega) ?_
  have hP9 := hP.sub (ws' := [(a0_, .inr (4, [.ref a1_, .int (4 * (nI N)), .ref a2_, .int 1, .int 1, .int 0, .int 0, .int 8, .int 8])), (a3_, .inl (cI, N, .inl (upd (fun _ => 0) 0 2195))), (a1_, .inr (10, [.ref a4_, .int 0, .ref a5_, .int 0, .ref a6_, .int 0, .ref a7_, .ref a8_, .ref a9_, .int 0, .ref a3_, .int 2, .int 8]))]) [0, 1, 2] rfl
  have hD9 := hD.sub (ws' := [(a0_, .inr (4, [.ref a1_, .int (4 * (nI N)), .ref a2_, .int 1, .int 1, .int 0, .int 0, .int 8, .int 8])), (a3_, .inl (cI, N, .inl (upd (fun _ => 0) 0 2195))), (a1_, .inr (10, [.ref a4_, .int 0, .ref a5_, .int 0, .ref a6_, .int 0, .ref a7_, .ref a8_, .ref a9_, .int 0, .ref a3_, .int 2, .int 8]))]) [0, 1, 2] (by decide) rfl
  refine W.widen (k := 0) (n := 0) (by omega) (by omega) ?_
  exact W.vret hx hb hr (fun t ht9 hW => ⟨⟨(), rfl, trivial, by rw [ht9]; exact hP9, hD9⟩, hS.F ht9⟩) hS.2.2 dX0_immediate_21
set_option maxHeartbeats 4000000 in
set_option maxRecDepth 100000 in
theorem c_X0_emit_4 (l : Launch) (dC : Nat → ClassId) (dI : Nat → Nat → Nat) (cI cB cZ cJ cR : ClassId) (tb : Nat → Nat) (sz : Nat) (a0_ : Nat) (a1_ : Nat) (N : Nat) (a2_ : Nat) (a3_ : Nat) (a4_ : Nat) (a5_ : Nat) (a6_ : Nat) (a7_ : Nat) (a8_ : Nat) (a9_ : Nat) (hf_N_0 : 256 ≤ N) (hf_N_1 : N ≤ 4096) : Met l yX0_emit (Cond.code yX0_emit cX0_emit 2 none :: tw_W) ({ frames := 0, cells := 0, slots := 0, locals := 0 }) (pc_ (dC, dI) (tyS cI cB cZ cJ cR) tb [(a0_, .inr (4, [.ref a1_, .int (4 * (nI N)), .ref a2_, .int 1, .int 1, .int 0, .int 0, .int 8, .int 8])), (a3_, .inl (cI, N, .inl (upd (fun _ => 0) 0 2195))), (a1_, .inr (10, [.ref a4_, .int 0, .ref a5_, .int 0, .ref a6_, .int 0, .ref a7_, .ref a8_, .ref a9_, .int 0, .ref a3_, .int 2, .int 8]))] sz [.ref a0_, .int 1048691]) (qv_ (dC, dI) [(a0_, .inr (4, [.ref a1_, .int (4 * (nI N)), .ref a2_, .int 1, .int 1, .int 0, .int 0, .int 8, .int 8])), (a3_, .inl (cI, N, .inl (upd (fun _ => 0) 0 2195))), (a1_, .inr (10, [.ref a4_, .int 0, .ref a5_, .int 0, .ref a6_, .int 0, .ref a7_, .ref a8_, .ref a9_, .int 0, .ref a3_, .int 2, .int 8]))] sz (fun (u : Unit) => True) (fun (u : Unit) => [(a0_, .inr (4, [.ref a1_, .int (4 * (nI N)), .ref a2_, .int 2, .int 1, .int 0, .int 0, .int 8, .int 8])), (a3_, .inl (cI, N, .inl (upd (upd (fun _ => 0) 0 2195) 1 1048691))), (a1_, .inr (10, [.ref a4_, .int 0, .ref a5_, .int 0, .ref a6_, .int 0, .ref a7_, .ref a8_, .ref a9_, .int 0, .ref a3_, .int 2, .int 8]))])) 0 0 (va_A [(a0_, .inr (4, [.ref a1_, .int (4 * (nI N)), .ref a2_, .int 1, .int 1, .int 0, .int 0, .int 8, .int 8])), (a3_, .inl (cI, N, .inl (upd (fun _ => 0) 0 2195))), (a1_, .inr (10, [.ref a4_, .int 0, .ref a5_, .int 0, .ref a6_, .int 0, .ref a7_, .ref a8_, .ref a9_, .int 0, .ref a3_, .int 2, .int 8]))] sz) := by
  refine Met.ofW (cc := cX0_emit) (maxL := 2) (ret := none) (by decide) rfl ?_
  intro p e s m args below meth c s₁ B hml hv
  obtain ⟨rfl, hsz, hP, hKK, hD0, hFx⟩ := hv
  have hK := hKK.1
  have hx := B.exec
  have hb := B.bytes
  have hr := B.returns
  have ht : ∀ w ∈ tw_W, w.before _ s = true := fun w h => atoms_spec (ws := Cond.code yX0_emit cX0_emit 2 none :: tw_W) B.pre w (List.mem_cons_of_mem _ h)
  have hown : s.vm.findClass RX0 = some m.cls := findClass_of_methodNamed B.named
  have hlocks := B.notSynchronized
  subst hsz
  unfold qv_
  have hD := hD0.self (sz := s.heap.size)
  generalize hAe : va_A [(a0_, .inr (4, [.ref a1_, .int (4 * (nI N)), .ref a2_, .int 1, .int 1, .int 0, .int 0, .int 8, .int 8])), (a3_, .inl (cI, N, .inl (upd (fun _ => 0) 0 2195))), (a1_, .inr (10, [.ref a4_, .int 0, .ref a5_, .int 0, .ref a6_, .int 0, .ref a7_, .ref a8_, .ref a9_, .int 0, .ref a3_, .int 2, .int 8]))] s.heap.size = A at hD hFx ⊢
  have hA : ∀ q : Nat, s.heap.size ≤ q → A q := fun q h => by rw [← hAe]; exact Or.inr h
  have hS : va_S A s.heap s.heap [] := va_S.rf
  have hP : va_P (dC, dI) vwCl [(a0_, .inr (4, [.ref a1_, .int (4 * (nI N)), .ref a2_, .int 1, .int 1, .int 0, .int 0, .int 8, .int 8])), (a3_, .inl (cI, N, .inl (upd (fun _ => 0) 0 2195))), (a1_, .inr (10, [.ref a4_, .int 0, .ref a5_, .int 0, .ref a6_, .int 0, .ref a7_, .ref a8_, .ref a9_, .int 0, .ref a3_, .int 2, .int 8]))] s.heap := hP
  have hl := lv_entry ([.ref a0_, .int 1048691]) (n := 2) (Nat.le_of_ble_eq_true rfl)
  rw [lg_entry_eq]
  generalize (lg_sl ([.ref a0_, .int 1048691]) ++ List.replicate (2 - (lg_sl ([.ref a0_, .int 1048691])).length) Slot.unset).toArray = ls at hl ⊢
  have hl : lv_has ls 2 [(0, .ref a0_), (1, .int 1048691)] := hl
  refine lv_aload_n hx hb dX0_emit_0 rfl (lv_at hl 0 rfl) ?_
  refine va_get (D := (dC, dI)) (ci := 4) (v := .int 1) (C := RX0) (T := TX0) (N := 9) hx hb ht itX0 hown hK hP 0 rfl rfl 4 (by decide) (ht _ tw_190) (fun _ h9 => h9) rfl dX0_emit_1 ?_
  refine lv_if_eq (tgt := 35) hx hb dX0_emit_4 (by decide) (fun k1 => absurd k1 (by decide)) (fun _ => ?_)
  refine lv_aload_n hx hb dX0_emit_7 rfl (lv_at hl 0 rfl) ?_
  refine va_get (D := (dC, dI)) (ci := 4) (v := .int 1) (C := RX0) (T := TX0) (N := 9) hx hb ht itX0 hown hK hP 0 rfl rfl 3 (by decide) (ht _ tw_191) (fun _ h9 => h9) rfl dX0_emit_8 ?_
  refine lv_aload_n hx hb dX0_emit_11 rfl (lv_at hl 0 rfl) ?_
  refine va_get (D := (dC, dI)) (ci := 4) (v := .ref a1_) (C := RX0) (T := TX0) (N := 9) hx hb ht itX0 hown hK hP 0 rfl rfl 0 (by decide) (ht _ tw_75) (fun _ h9 => h9) rfl dX0_emit_12 ?_
  refine va_get (D := (dC, dI)) (ci := 10) (v := .ref a3_) (C := RX7) (T := TX7) (N := 13) hx hb ht itX7 hown hK hP 2 rfl rfl 10 (by decide) (ht _ tw_209) (fun _ h9 => h9) rfl dX0_emit_15 ?_
  refine va_alen (D := (dC, dI)) (v := (nI N)) hx hb hK hP 1 0 rfl rfl rfl dX0_emit_18 ?_
  refine lv_icmp_ge (tgt := 35) hx hb dX0_emit_19 (by decide) (fun k2 => absurd k2 (nge_c (j := 1) (by decide) (by omega) (by omega))) (fun _ => ?_)
  refine lv_aload_n hx hb dX0_emit_22 rfl (lv_at hl 0 rfl) ?_
  refine va_get (D := (dC, dI)) (ci := 4) (v := .ref a1_) (C := RX0) (T := TX0) (N := 9) hx hb ht itX0 hown hK hP 0 rfl rfl 0 (by decide) (ht _ tw_75) (fun _ h9 => h9) rfl dX0_emit_23 ?_
  refine va_get (D := (dC, dI)) (ci := 10) (v := .ref a3_) (C := RX7) (T := TX7) (N := 13) hx hb ht itX7 hown hK hP 2 rfl rfl 10 (by decide) (ht _ tw_209) (fun _ h9 => h9) rfl dX0_emit_26 ?_
  refine lv_aload_n hx hb dX0_emit_29 rfl (lv_at hl 0 rfl) ?_
  refine va_get (D := (dC, dI)) (ci := 4) (v := .int 1) (C := RX0) (T := TX0) (N := 9) hx hb ht itX0 hown hK hP 0 rfl rfl 3 (by decide) (ht _ tw_191) (fun _ h9 => h9) rfl dX0_emit_30 ?_
  refine lv_iload_n hx hb dX0_emit_33 rfl (lv_at hl 1 rfl) ?_
  refine va_iast (D := (dC, dI)) hx hb hK hP hD hS 1 0 rfl rfl (in_c (j := 1) (by decide) (by omega) (by omega)) dX0_emit_34 (fun H locs hP hD hS => ?_)
  have hP : va_P (dC, dI) vwCl [(a0_, .inr (4, [.ref a1_, .int (4 * (nI N)), .ref a2_, .int 1, .int 1, .int 0, .int 0, .int 8, .int 8])), (a3_, .inl (cI, N, .inl (upd (upd (fun _ => 0) 0 2195) 1 1048691))), (a1_, .inr (10, [.ref a4_, .int 0, .ref a5_, .int 0, .ref a6_, .int 0, .ref a7_, .ref a8_, .ref a9_, .int 0, .ref a3_, .int 2, .int 8]))] H := hP
  have hD : va_D A [(a0_, .inr (4, [.ref a1_, .int (4 * (nI N)), .ref a2_, .int 1, .int 1, .int 0, .int 0, .int 8, .int 8])), (a3_, .inl (cI, N, .inl (upd (upd (fun _ => 0) 0 2195) 1 1048691))), (a1_, .inr (10, [.ref a4_, .int 0, .ref a5_, .int 0, .ref a6_, .int 0, .ref a7_, .ref a8_, .ref a9_, .int 0, .ref a3_, .int 2, .int 8]))] := hD
  refine lv_aload_n hx hb dX0_emit_35 rfl (lv_at hl 0 rfl) ?_
  refine lv_dup hx hb dX0_emit_36 rfl ?_
  refine va_get (D := (dC, dI)) (ci := 4) (v := .int 1) (C := RX0) (T := TX0) (N := 9) hx hb ht itX0 hown hK hP 0 rfl rfl 3 (by decide) (ht _ tw_191) (fun _ h9 => h9) rfl dX0_emit_37 ?_
  refine lv_iconst (v := 1) hx hb dX0_emit_40 (by decide) ?_
  refine lv_iadd hx hb dX0_emit_41 ?_
  refine tp_i (y := 2) (by decide) ?_
  refine va_put (D := (dC, dI)) (ci := 4) (v := .int 2) (ty := .int) (C := RX0) (T := TX0) (N := 9) hx hb ht itX0 tyX0 tyX0_ok nmX0 hown hK hP hD hS 0 rfl rfl 3 (by decide) (ht _ tw_191) (fun _ h9 => h9) rfl (by decide +kernel) rfl rfl (Nat.le_of_ble_eq_true rfl) dX0_emit_42 (fun H locs hP hD hS => ?_)
  have hP : va_P (dC, dI) vwCl [(a0_, .inr (4, [.ref a1_, .int (4 * (nI N)), .ref a2_, .int 2, .int 1, .int 0, .int 0, .int 8, .int 8])), (a3_, .inl (cI, N, .inl (upd (upd (fun _ => 0) 0 2195) 1 1048691))), (a1_, .inr (10, [.ref a4_, .int 0, .ref a5_, .int 0, .ref a6_, .int 0, .ref a7_, .ref a8_, .ref a9_, .int 0, .ref a3_, .int 2, .int 8]))] H := hP
  have hD : va_D A [(a0_, .inr (4, [.ref a1_, .int (4 * (nI N)), .ref a2_, .int 2, .int 1, .int 0, .int 0, .int 8, .int 8])), (a3_, .inl (cI, N, .inl (upd (upd (fun _ => 0) 0 2195) 1 1048691))), (a1_, .inr (10, [.ref a4_, .int 0, .ref a5_, .int 0, .ref a6_, .int 0, .ref a7_, .ref a8_, .ref a9_, .int 0, .ref a3_, .int 2, .int 8]))] := hD
  have hP9 := hP.sub (ws' := [(a0_, .inr (4, [.ref a1_, .int (4 * (nI N)), .ref a2_, .int 2, .int 1, .int 0, .int 0, .int 8, .int 8])), (a3_, .inl (cI, N, .inl (upd (upd (fun _ => 0) 0 2195) 1 1048691))), (a1_, .inr (10, [.ref a4_, .int 0, .ref a5_, .int 0, .ref a6_, .int 0, .ref a7_, .ref a8_, .ref a9_, .int 0, .ref a3_, .int 2, .int 8]))]) [0, 1, 2] rfl
  have hD9 := hD.sub (ws' := [(a0_, .inr (4, [.ref a1_, .int (4 * (nI N)), .ref a2_, .int 2, .int 1, .int 0, .int 0, .int 8, .int 8])), (a3_, .inl (cI, N, .inl (upd (upd (fun _ => 0) 0 2195) 1 1048691))), (a1_, .inr (10, [.ref a4_, .int 0, .ref a5_, .int 0, .ref a6_, .int 0, .ref a7_, .ref a8_, .ref a9_, .int 0, .ref a3_, .int 2, .int 8]))]) [0, 1, 2] (by decide) rfl
  refine W.widen (k := 0) (n := 0) (by omega) (by omega) ?_
  exact W.vret hx hb hr (fun t ht9 hW => ⟨⟨(), rfl, trivial, by rw [ht9]; exact hP9, hD9⟩, hS.F ht9⟩) hS.2.2 dX0_emit_45
set_option maxHeartbeats 4000000 in
set_option maxRecDepth 100000 in
theorem c_X0_placeGlobals_2 (l : Launch) (dC : Nat → ClassId) (dI : Nat → Nat → Nat) (cI cB cZ cJ cR : ClassId) (tb : Nat → Nat) (sz : Nat) (a0_ : Nat) (a1_ : Nat) (N : Nat) (a2_ : Nat) (a3_ : Nat) (a4_ : Nat) (a5_ : Nat) (a6_ : Nat) (a7_ : Nat) (a8_ : Nat) (a9_ : Nat) (hf_N_0 : 256 ≤ N) (hf_N_1 : N ≤ 4096) : Met l yX0_placeGlobals (Cond.code yX0_placeGlobals cX0_placeGlobals 3 none :: tw_W) ({ frames := 0, cells := 0, slots := 0, locals := 0 }) (pc_ (dC, dI) (tyS cI cB cZ cJ cR) tb [(a0_, .inr (4, [.ref a1_, .int (4 * (nI N)), .ref a2_, .int 2, .int 1, .int 0, .int 0, .int 8, .int 8])), (a1_, .inr (10, [.ref a3_, .int 0, .ref a4_, .int 0, .ref a5_, .int 0, .ref a6_, .ref a7_, .ref a8_, .int 0, .ref a9_, .int 2, .int 8]))] sz [.ref a0_]) (qv_ (dC, dI) [(a0_, .inr (4, [.ref a1_, .int (4 * (nI N)), .ref a2_, .int 2, .int 1, .int 0, .int 0, .int 8, .int 8])), (a1_, .inr (10, [.ref a3_, .int 0, .ref a4_, .int 0, .ref a5_, .int 0, .ref a6_, .ref a7_, .ref a8_, .int 0, .ref a9_, .int 2, .int 8]))] sz (fun (u : Unit) => True) (fun (u : Unit) => [(a0_, .inr (4, [.ref a1_, .int (4 * (nI N)), .ref a2_, .int 2, .int 1, .int 0, .int 0, .int 8, .int 8])), (a1_, .inr (10, [.ref a3_, .int 0, .ref a4_, .int 0, .ref a5_, .int 0, .ref a6_, .ref a7_, .ref a8_, .int 0, .ref a9_, .int 2, .int 8]))])) 0 0 (va_A [(a0_, .inr (4, [.ref a1_, .int (4 * (nI N)), .ref a2_, .int 2, .int 1, .int 0, .int 0, .int 8, .int 8])), (a1_, .inr (10, [.ref a3_, .int 0, .ref a4_, .int 0, .ref a5_, .int 0, .ref a6_, .ref a7_, .ref a8_, .int 0, .ref a9_, .int 2, .int 8]))] sz) := by
  refine Met.ofW (cc := cX0_placeGlobals) (maxL := 3) (ret := none) (by decide) rfl ?_
  intro p e s m args below meth c s₁ B hml hv
  obtain ⟨rfl, hsz, hP, hKK, hD0, hFx⟩ := hv
  have hK := hKK.1
  have hx := B.exec
  have hb := B.bytes
  have hr := B.returns
  have ht : ∀ w ∈ tw_W, w.before _ s = true := fun w h => atoms_spec (ws := Cond.code yX0_placeGlobals cX0_placeGlobals 3 none :: tw_W) B.pre w (List.mem_cons_of_mem _ h)
  have hown : s.vm.findClass RX0 = some m.cls := findClass_of_methodNamed B.named
  have hlocks := B.notSynchronized
  subst hsz
  unfold qv_
  have hD := hD0.self (sz := s.heap.size)
  generalize hAe : va_A [(a0_, .inr (4, [.ref a1_, .int (4 * (nI N)), .ref a2_, .int 2, .int 1, .int 0, .int 0, .int 8, .int 8])), (a1_, .inr (10, [.ref a3_, .int 0, .ref a4_, .int 0, .ref a5_, .int 0, .ref a6_, .ref a7_, .ref a8_, .int 0, .ref a9_, .int 2, .int 8]))] s.heap.size = A at hD hFx ⊢
  have hA : ∀ q : Nat, s.heap.size ≤ q → A q := fun q h => by rw [← hAe]; exact Or.inr h
  have hS : va_S A s.heap s.heap [] := va_S.rf
  have hP : va_P (dC, dI) vwCl [(a0_, .inr (4, [.ref a1_, .int (4 * (nI N)), .ref a2_, .int 2, .int 1, .int 0, .int 0, .int 8, .int 8])), (a1_, .inr (10, [.ref a3_, .int 0, .ref a4_, .int 0, .ref a5_, .int 0, .ref a6_, .ref a7_, .ref a8_, .int 0, .ref a9_, .int 2, .int 8]))] s.heap := hP
  have hl := lv_entry ([.ref a0_]) (n := 3) (Nat.le_of_ble_eq_true rfl)
  rw [lg_entry_eq]
  generalize (lg_sl ([.ref a0_]) ++ List.replicate (3 - (lg_sl ([.ref a0_])).length) Slot.unset).toArray = ls at hl ⊢
  have hl : lv_has ls 3 [(0, .ref a0_)] := hl
  refine lv_iconst (v := 4) hx hb dX0_placeGlobals_0 (by decide) ?_
  refine lv_aload_n hx hb dX0_placeGlobals_1 rfl (lv_at hl 0 rfl) ?_
  refine va_get (D := (dC, dI)) (ci := 4) (v := .int 2) (C := RX0) (T := TX0) (N := 9) hx hb ht itX0 hown hK hP 0 rfl rfl 3 (by decide) (ht _ tw_191) (fun _ h9 => h9) rfl dX0_placeGlobals_2 ?_
  refine lv_imul hx hb dX0_placeGlobals_5 ?_
  refine tp_i (y := 8) (by decide) ?_
  refine lv_istore_n (lv' := [(1, .int 8), (0, .ref a0_)]) hx hb dX0_placeGlobals_6 rfl hl (by decide) rfl (fun ls hl => ?_)
  refine lv_iconst (v := 0) hx hb dX0_placeGlobals_7 (by decide) ?_
  refine lv_istore_n (lv' := [(2, .int 0), (1, .int 8), (0, .ref a0_)]) hx hb dX0_placeGlobals_8 rfl hl (by decide) rfl (fun ls hl => ?_)
  refine lv_iload_n hx hb dX0_placeGlobals_9 rfl (lv_at hl 0 rfl) ?_
  refine lv_aload_n hx hb dX0_placeGlobals_10 rfl (lv_at hl 2 rfl) ?_
  refine va_get (D := (dC, dI)) (ci := 4) (v := .ref a1_) (C := RX0) (T := TX0) (N := 9) hx hb ht itX0 hown hK hP 0 rfl rfl 0 (by decide) (ht _ tw_75) (fun _ h9 => h9) rfl dX0_placeGlobals_11 ?_
  refine va_get (D := (dC, dI)) (ci := 10) (v := .int 0) (C := RX7) (T := TX7) (N := 13) hx hb ht itX7 hown hK hP 1 rfl rfl 5 (by decide) (ht _ tw_203) (fun _ h9 => h9) rfl dX0_placeGlobals_14 ?_
  refine lv_icmp_ge (tgt := 50) hx hb dX0_placeGlobals_17 (by decide) (fun _ => ?_) (fun k1 => absurd k1 (by decide))
  refine lv_aload_n hx hb dX0_placeGlobals_50 rfl (lv_at hl 2 rfl) ?_
  refine va_get (D := (dC, dI)) (ci := 4) (v := .ref a1_) (C := RX0) (T := TX0) (N := 9) hx hb ht itX0 hown hK hP 0 rfl rfl 0 (by decide) (ht _ tw_75) (fun _ h9 => h9) rfl dX0_placeGlobals_51 ?_
  refine lv_iload_n hx hb dX0_placeGlobals_54 rfl (lv_at hl 1 rfl) ?_
  refine va_put (D := (dC, dI)) (ci := 10) (v := .int 8) (ty := .int) (C := RX7) (T := TX7) (N := 13) hx hb ht itX7 tyX7 tyX7_ok nmX7 hown hK hP hD hS 1 rfl rfl 12 (by decide) (ht _ tw_204) (fun _ h9 => h9) rfl (by decide +kernel) rfl rfl (Nat.le_of_ble_eq_true rfl) dX0_placeGlobals_55 (fun H locs hP hD hS => ?_)
  have hP : va_P (dC, dI) vwCl [(a0_, .inr (4, [.ref a1_, .int (4 * (nI N)), .ref a2_, .int 2, .int 1, .int 0, .int 0, .int 8, .int 8])), (a1_, .inr (10, [.ref a3_, .int 0, .ref a4_, .int 0, .ref a5_, .int 0, .ref a6_, .ref a7_, .ref a8_, .int 0, .ref a9_, .int 2, .int 8]))] H := hP
  have hD : va_D A [(a0_, .inr (4, [.ref a1_, .int (4 * (nI N)), .ref a2_, .int 2, .int 1, .int 0, .int 0, .int 8, .int 8])), (a1_, .inr (10, [.ref a3_, .int 0, .ref a4_, .int 0, .ref a5_, .int 0, .ref a6_, .ref a7_, .ref a8_, .int 0, .ref a9_, .int 2, .int 8]))] := hD
  have hP9 := hP.sub (ws' := [(a0_, .inr (4, [.ref a1_, .int (4 * (nI N)), .ref a2_, .int 2, .int 1, .int 0, .int 0, .int 8, .int 8])), (a1_, .inr (10, [.ref a3_, .int 0, .ref a4_, .int 0, .ref a5_, .int 0, .ref a6_, .ref a7_, .ref a8_, .int 0, .ref a9_, .int 2, .int 8]))]) [0, 1] rfl
  have hD9 := hD.sub (ws' := [(a0_, .inr (4, [.ref a1_, .int (4 * (nI N)), .ref a2_, .int 2, .int 1, .int 0, .int 0, .int 8, .int 8])), (a1_, .inr (10, [.ref a3_, .int 0, .ref a4_, .int 0, .ref a5_, .int 0, .ref a6_, .ref a7_, .ref a8_, .int 0, .ref a9_, .int 2, .int 8]))]) [0, 1] (by decide) rfl
  refine W.widen (k := 0) (n := 0) (by omega) (by omega) ?_
  exact W.vret hx hb hr (fun t ht9 hW => ⟨⟨(), rfl, trivial, by rw [ht9]; exact hP9, hD9⟩, hS.F ht9⟩) hS.2.2 dX0_placeGlobals_58
set_option maxHeartbeats 4000000 in
set_option maxRecDepth 100000 in
theorem c_X0_layAll_2 (l : Launch) (dC : Nat → ClassId) (dI : Nat → Nat → Nat) (cI cB cZ cJ cR : ClassId) (tb : Nat → Nat) (sz : Nat) (a0_ : Nat) (a1_ : Nat) (N : Nat) (a2_ : Nat) (a3_ : Nat) (a4_ : Nat) (a5_ : Nat) (a6_ : Nat) (a7_ : Nat) (a8_ : Nat) (a9_ : Nat) (hf_N_0 : 256 ≤ N) (hf_N_1 : N ≤ 4096) : Met l yX0_layAll (Cond.code yX0_layAll cX0_layAll 2 none :: tw_W) ({ frames := 2, cells := 0, slots := 0, locals := 45 }) (pc_ (dC, dI) (tyS cI cB cZ cJ cR) tb [(a0_, .inr (4, [.ref a1_, .int (4 * (nI N)), .ref a2_, .int 2, .int 1, .int 0, .int 0, .int 8, .int 8])), (a3_, .inl (cI, N, .inl (fun _ => 0))), (a1_, .inr (10, [.ref a4_, .int 0, .ref a5_, .int 0, .ref a6_, .int 0, .ref a7_, .ref a8_, .ref a9_, .int 0, .ref a3_, .int 2, .int 8]))] sz [.ref a0_]) (qv_ (dC, dI) [(a0_, .inr (4, [.ref a1_, .int (4 * (nI N)), .ref a2_, .int 2, .int 1, .int 0, .int 0, .int 8, .int 8])), (a3_, .inl (cI, N, .inl (fun _ => 0))), (a1_, .inr (10, [.ref a4_, .int 0, .ref a5_, .int 0, .ref a6_, .int 0, .ref a7_, .ref a8_, .ref a9_, .int 0, .ref a3_, .int 2, .int 8]))] sz (fun (u : Unit) => True) (fun (u : Unit) => [(a0_, .inr (4, [.ref a1_, .int (4 * (nI N)), .ref a2_, .int 2, .int 1, .int 0, .int 0, .int 8, .int 8])), (a3_, .inl (cI, N, .inl (upd (upd (fun _ => 0) 0 2195) 1 1048691))), (a1_, .inr (10, [.ref a4_, .int 0, .ref a5_, .int 0, .ref a6_, .int 0, .ref a7_, .ref a8_, .ref a9_, .int 0, .ref a3_, .int 2, .int 8]))])) 0 0 (va_A [(a0_, .inr (4, [.ref a1_, .int (4 * (nI N)), .ref a2_, .int 2, .int 1, .int 0, .int 0, .int 8, .int 8])), (a3_, .inl (cI, N, .inl (fun _ => 0))), (a1_, .inr (10, [.ref a4_, .int 0, .ref a5_, .int 0, .ref a6_, .int 0, .ref a7_, .ref a8_, .ref a9_, .int 0, .ref a3_, .int 2, .int 8]))] sz) := by
  refine Met.ofW (cc := cX0_layAll) (maxL := 2) (ret := none) (by decide) rfl ?_
  intro p e s m args below meth c s₁ B hml hv
  obtain ⟨rfl, hsz, hP, hKK, hD0, hFx⟩ := hv
  have hK := hKK.1
  have hx := B.exec
  have hb := B.bytes
  have hr := B.returns
  have ht : ∀ w ∈ tw_W, w.before _ s = true := fun w h => atoms_spec (ws := Cond.code yX0_layAll cX0_layAll 2 none :: tw_W) B.pre w (List.mem_cons_of_mem _ h)
  have hown : s.vm.findClass RX0 = some m.cls := findClass_of_methodNamed B.named
  have hlocks := B.notSynchronized
  subst hsz
  unfold qv_
  have hD := hD0.self (sz := s.heap.size)
  generalize hAe : va_A [(a0_, .inr (4, [.ref a1_, .int (4 * (nI N)), .ref a2_, .int 2, .int 1, .int 0, .int 0, .int 8, .int 8])), (a3_, .inl (cI, N, .inl (fun _ => 0))), (a1_, .inr (10, [.ref a4_, .int 0, .ref a5_, .int 0, .ref a6_, .int 0, .ref a7_, .ref a8_, .ref a9_, .int 0, .ref a3_, .int 2, .int 8]))] s.heap.size = A at hD hFx ⊢
  have hA : ∀ q : Nat, s.heap.size ≤ q → A q := fun q h => by rw [← hAe]; exact Or.inr h
  have hS : va_S A s.heap s.heap [] := va_S.rf
  have hP : va_P (dC, dI) vwCl [(a0_, .inr (4, [.ref a1_, .int (4 * (nI N)), .ref a2_, .int 2, .int 1, .int 0, .int 0, .int 8, .int 8])), (a3_, .inl (cI, N, .inl (fun _ => 0))), (a1_, .inr (10, [.ref a4_, .int 0, .ref a5_, .int 0, .ref a6_, .int 0, .ref a7_, .ref a8_, .ref a9_, .int 0, .ref a3_, .int 2, .int 8]))] s.heap := hP
  have hl := lv_entry ([.ref a0_]) (n := 2) (Nat.le_of_ble_eq_true rfl)
  rw [lg_entry_eq]
  generalize (lg_sl ([.ref a0_]) ++ List.replicate (2 - (lg_sl ([.ref a0_])).length) Slot.unset).toArray = ls at hl ⊢
  have hl : lv_has ls 2 [(0, .ref a0_)] := hl
  refine lv_aload_n hx hb dX0_layAll_0 rfl (lv_at hl 0 rfl) ?_
  refine lv_iconst (v := 0) hx hb dX0_layAll_1 (by decide) ?_
  refine va_put (D := (dC, dI)) (ci := 4) (v := .int 0) (ty := .int) (C := RX0) (T := TX0) (N := 9) hx hb ht itX0 tyX0 tyX0_ok nmX0 hown hK hP hD hS 0 rfl rfl 3 (by decide) (ht _ tw_191) (fun _ h9 => h9) rfl (by decide +kernel) rfl rfl (Nat.le_of_ble_eq_true rfl) dX0_layAll_2 (fun H locs hP hD hS => ?_)
  have hP : va_P (dC, dI) vwCl [(a0_, .inr (4, [.ref a1_, .int (4 * (nI N)), .ref a2_, .int 0, .int 1, .int 0, .int 0, .int 8, .int 8])), (a3_, .inl (cI, N, .inl (fun _ => 0))), (a1_, .inr (10, [.ref a4_, .int 0, .ref a5_, .int 0, .ref a6_, .int 0, .ref a7_, .ref a8_, .ref a9_, .int 0, .ref a3_, .int 2, .int 8]))] H := hP
  have hD : va_D A [(a0_, .inr (4, [.ref a1_, .int (4 * (nI N)), .ref a2_, .int 0, .int 1, .int 0, .int 0, .int 8, .int 8])), (a3_, .inl (cI, N, .inl (fun _ => 0))), (a1_, .inr (10, [.ref a4_, .int 0, .ref a5_, .int 0, .ref a6_, .int 0, .ref a7_, .ref a8_, .ref a9_, .int 0, .ref a3_, .int 2, .int 8]))] := hD
  refine lv_aload_n hx hb dX0_layAll_5 rfl (lv_at hl 0 rfl) ?_
  refine lv_iconst (v := 0) hx hb dX0_layAll_6 (by decide) ?_
  refine va_put (D := (dC, dI)) (ci := 4) (v := .int 0) (ty := .boolean) (C := RX0) (T := TX0) (N := 9) hx hb ht itX0 tyX0 tyX0_ok nmX0 hown hK hP hD hS 0 rfl rfl 5 (by decide) (ht _ tw_192) (fun _ h9 => h9) rfl (by decide +kernel) rfl rfl (Nat.le_of_ble_eq_true rfl) dX0_layAll_7 (fun H locs hP hD hS => ?_)
  have hP : va_P (dC, dI) vwCl [(a0_, .inr (4, [.ref a1_, .int (4 * (nI N)), .ref a2_, .int 0, .int 1, .int 0, .int 0, .int 8, .int 8])), (a3_, .inl (cI, N, .inl (fun _ => 0))), (a1_, .inr (10, [.ref a4_, .int 0, .ref a5_, .int 0, .ref a6_, .int 0, .ref a7_, .ref a8_, .ref a9_, .int 0, .ref a3_, .int 2, .int 8]))] H := hP
  have hD : va_D A [(a0_, .inr (4, [.ref a1_, .int (4 * (nI N)), .ref a2_, .int 0, .int 1, .int 0, .int 0, .int 8, .int 8])), (a3_, .inl (cI, N, .inl (fun _ => 0))), (a1_, .inr (10, [.ref a4_, .int 0, .ref a5_, .int 0, .ref a6_, .int 0, .ref a7_, .ref a8_, .ref a9_, .int 0, .ref a3_, .int 2, .int 8]))] := hD
  refine lv_aload_n hx hb dX0_layAll_10 rfl (lv_at hl 0 rfl) ?_
  refine lv_iconst (v := 0) hx hb dX0_layAll_11 (by decide) ?_
  refine va_put (D := (dC, dI)) (ci := 4) (v := .int 0) (ty := .boolean) (C := RX0) (T := TX0) (N := 9) hx hb ht itX0 tyX0 tyX0_ok nmX0 hown hK hP hD hS 0 rfl rfl 6 (by decide) (ht _ tw_193) (fun _ h9 => h9) rfl (by decide +kernel) rfl rfl (Nat.le_of_ble_eq_true rfl) dX0_layAll_12 (fun H locs hP hD hS => ?_)
  have hP : va_P (dC, dI) vwCl [(a0_, .inr (4, [.ref a1_, .int (4 * (nI N)), .ref a2_, .int 0, .int 1, .int 0, .int 0, .int 8, .int 8])), (a3_, .inl (cI, N, .inl (fun _ => 0))), (a1_, .inr (10, [.ref a4_, .int 0, .ref a5_, .int 0, .ref a6_, .int 0, .ref a7_, .ref a8_, .ref a9_, .int 0, .ref a3_, .int 2, .int 8]))] H := hP
  have hD : va_D A [(a0_, .inr (4, [.ref a1_, .int (4 * (nI N)), .ref a2_, .int 0, .int 1, .int 0, .int 0, .int 8, .int 8])), (a3_, .inl (cI, N, .inl (fun _ => 0))), (a1_, .inr (10, [.ref a4_, .int 0, .ref a5_, .int 0, .ref a6_, .int 0, .ref a7_, .ref a8_, .ref a9_, .int 0, .ref a3_, .int 2, .int 8]))] := hD
  refine lv_aload_n hx hb dX0_layAll_15 rfl (lv_at hl 0 rfl) ?_
  refine lv_bipush (v := 19) hx hb dX0_layAll_16 (by decide) ?_
  refine lv_bipush (v := 17) hx hb dX0_layAll_18 (by decide) ?_
  refine lv_iconst (v := 0) hx hb dX0_layAll_20 (by decide) ?_
  refine lv_iconst (v := 0) hx hb dX0_layAll_21 (by decide) ?_
  refine ca_v (wr := []) (rn_V (n := 4) (As := [.int 19, .int 17, .int 0, .int 0]) (rest := []) hx hb hml hown ht hKK hFx hP hD hS hA (c_X0_immediate_2 l dC dI cI cB cZ cJ cR tb H.size a0_ a1_ N a2_ a3_ a4_ a5_ a6_ a7_ a8_ a9_ (by omega) (by omega)) tw_196 tw_197 (by decide +kernel) rfl rfl ⟨Nat.le_of_ble_eq_true rfl, Nat.le_of_ble_eq_true rfl⟩ [0, 1, 2] rfl (by decide) rfl rfl rfl rfl hl.1 rfl (Nat.le_of_ble_eq_true rfl) dX0_layAll_22 ⟨Nat.le_of_ble_eq_true rfl, Nat.le_of_ble_eq_true rfl⟩) hP hD hS hA (isC := [0, 1, 2]) (isR := []) rfl rfl (by decide) (by decide) (fun u H locs hw1 hP hD hS => ?_)
  have hP : va_P (dC, dI) vwCl [(a0_, .inr (4, [.ref a1_, .int (4 * (nI N)), .ref a2_, .int 1, .int 1, .int 0, .int 0, .int 8, .int 8])), (a3_, .inl (cI, N, .inl (upd (fun _ => 0) 0 2195))), (a1_, .inr (10, [.ref a4_, .int 0, .ref a5_, .int 0, .ref a6_, .int 0, .ref a7_, .ref a8_, .ref a9_, .int 0, .ref a3_, .int 2, .int 8]))] H := hP
  have hD : va_D A [(a0_, .inr (4, [.ref a1_, .int (4 * (nI N)), .ref a2_, .int 1, .int 1, .int 0, .int 0, .int 8, .int 8])), (a3_, .inl (cI, N, .inl (upd (fun _ => 0) 0 2195))), (a1_, .inr (10, [.ref a4_, .int 0, .ref a5_, .int 0, .ref a6_, .int 0, .ref a7_, .ref a8_, .ref a9_, .int 0, .ref a3_, .int 2, .int 8]))] := hD
  refine W.widen (k := 0) (n := 0) (by omega) (by omega) ?_
  refine lv_aload_n hx hb dX0_layAll_25 rfl (lv_at hl 0 rfl) ?_
  refine lv_ldc (v := 1048691) hx hb hown (ht _ tw_198) dX0_layAll_26 ?_
  refine ca_v (wr := []) (rn_V (n := 1) (As := [.int 1048691]) (rest := []) hx hb hml hown ht hKK hFx hP hD hS hA (c_X0_emit_4 l dC dI cI cB cZ cJ cR tb H.size a0_ a1_ N a2_ a3_ a4_ a5_ a6_ a7_ a8_ a9_ (by omega) (by omega)) tw_194 tw_195 (by decide +kernel) rfl rfl ⟨Nat.le_of_ble_eq_true rfl, Nat.le_of_ble_eq_true rfl⟩ [0, 1, 2] rfl (by decide) rfl rfl rfl rfl hl.1 rfl (Nat.le_of_ble_eq_true rfl) dX0_layAll_28 ⟨Nat.le_of_ble_eq_true rfl, Nat.le_of_ble_eq_true rfl⟩) hP hD hS hA (isC := [0, 1, 2]) (isR := []) rfl rfl (by decide) (by decide) (fun u H locs hw2 hP hD hS => ?_)
  have hP : va_P (dC, dI) vwCl [(a0_, .inr (4, [.ref a1_, .int (4 * (nI N)), .ref a2_, .int 2, .int 1, .int 0, .int 0, .int 8, .int 8])), (a3_, .inl (cI, N, .inl (upd (upd (fun _ => 0) 0 2195) 1 1048691))), (a1_, .inr (10, [.ref a4_, .int 0, .ref a5_, .int 0, .ref a6_, .int 0, .ref a7_, .ref a8_, .ref a9_, .int 0, .ref a3_, .int 2, .int 8]))] H := hP
  have hD : va_D A [(a0_, .inr (4, [.ref a1_, .int (4 * (nI N)), .ref a2_, .int 2, .int 1, .int 0, .int 0, .int 8, .int 8])), (a3_, .inl (cI, N, .inl (upd (upd (fun _ => 0) 0 2195) 1 1048691))), (a1_, .inr (10, [.ref a4_, .int 0, .ref a5_, .int 0, .ref a6_, .int 0, .ref a7_, .ref a8_, .ref a9_, .int 0, .ref a3_, .int 2, .int 8]))] := hD
  refine W.widen (k := 0) (n := 0) (by omega) (by omega) ?_
  refine lv_iconst (v := 0) hx hb dX0_layAll_31 (by decide) ?_
  refine lv_istore_n (lv' := [(1, .int 0), (0, .ref a0_)]) hx hb dX0_layAll_32 rfl hl (by decide) rfl (fun ls hl => ?_)
  refine lv_iload_n hx hb dX0_layAll_33 rfl (lv_at hl 0 rfl) ?_
  refine lv_aload_n hx hb dX0_layAll_34 rfl (lv_at hl 1 rfl) ?_
  refine va_get (D := (dC, dI)) (ci := 4) (v := .ref a1_) (C := RX0) (T := TX0) (N := 9) hx hb ht itX0 hown hK hP 0 rfl rfl 0 (by decide) (ht _ tw_75) (fun _ h9 => h9) rfl dX0_layAll_35 ?_
  refine va_get (D := (dC, dI)) (ci := 10) (v := .int 0) (C := RX7) (T := TX7) (N := 13) hx hb ht itX7 hown hK hP 2 rfl rfl 9 (by decide) (ht _ tw_199) (fun _ h9 => h9) rfl dX0_layAll_38 ?_
  refine lv_icmp_ge (tgt := 100) hx hb dX0_layAll_41 (by decide) (fun _ => ?_) (fun k3 => absurd k3 (by decide))
  refine lv_aload_n hx hb dX0_layAll_100 rfl (lv_at hl 1 rfl) ?_
  refine lv_iconst (v := 4) hx hb dX0_layAll_101 (by decide) ?_
  refine lv_aload_n hx hb dX0_layAll_102 rfl (lv_at hl 1 rfl) ?_
  refine va_get (D := (dC, dI)) (ci := 4) (v := .int 2) (C := RX0) (T := TX0) (N := 9) hx hb ht itX0 hown hK hP 0 rfl rfl 3 (by decide) (ht _ tw_191) (fun _ h9 => h9) rfl dX0_layAll_103 ?_
  refine lv_imul hx hb dX0_layAll_106 ?_
  refine tp_i (y := 8) (by decide) ?_
  refine va_put (D := (dC, dI)) (ci := 4) (v := .int 8) (ty := .int) (C := RX0) (T := TX0) (N := 9) hx hb ht itX0 tyX0 tyX0_ok nmX0 hown hK hP hD hS 0 rfl rfl 7 (by decide) (ht _ tw_200) (fun _ h9 => h9) rfl (by decide +kernel) rfl rfl (Nat.le_of_ble_eq_true rfl) dX0_layAll_107 (fun H locs hP hD hS => ?_)
  have hP : va_P (dC, dI) vwCl [(a0_, .inr (4, [.ref a1_, .int (4 * (nI N)), .ref a2_, .int 2, .int 1, .int 0, .int 0, .int 8, .int 8])), (a3_, .inl (cI, N, .inl (upd (upd (fun _ => 0) 0 2195) 1 1048691))), (a1_, .inr (10, [.ref a4_, .int 0, .ref a5_, .int 0, .ref a6_, .int 0, .ref a7_, .ref a8_, .ref a9_, .int 0, .ref a3_, .int 2, .int 8]))] H := hP
  have hD : va_D A [(a0_, .inr (4, [.ref a1_, .int (4 * (nI N)), .ref a2_, .int 2, .int 1, .int 0, .int 0, .int 8, .int 8])), (a3_, .inl (cI, N, .inl (upd (upd (fun _ => 0) 0 2195) 1 1048691))), (a1_, .inr (10, [.ref a4_, .int 0, .ref a5_, .int 0, .ref a6_, .int 0, .ref a7_, .ref a8_, .ref a9_, .int 0, .ref a3_, .int 2, .int 8]))] := hD
  refine lv_aload_n hx hb dX0_layAll_110 rfl (lv_at hl 1 rfl) ?_
  refine va_get (D := (dC, dI)) (ci := 4) (v := .int 0) (C := RX0) (T := TX0) (N := 9) hx hb ht itX0 hown hK hP 0 rfl rfl 5 (by decide) (ht _ tw_192) (fun _ h9 => h9) rfl dX0_layAll_111 ?_
  refine lv_if_eq (tgt := 121) hx hb dX0_layAll_114 (by decide) (fun _ => ?_) (fun k4 => absurd k4 (by decide))
  refine lv_aload_n hx hb dX0_layAll_121 rfl (lv_at hl 1 rfl) ?_
  refine lv_iconst (v := 4) hx hb dX0_layAll_122 (by decide) ?_
  refine lv_aload_n hx hb dX0_layAll_123 rfl (lv_at hl 1 rfl) ?_
  refine va_get (D := (dC, dI)) (ci := 4) (v := .int 2) (C := RX0) (T := TX0) (N := 9) hx hb ht itX0 hown hK hP 0 rfl rfl 3 (by decide) (ht _ tw_191) (fun _ h9 => h9) rfl dX0_layAll_124 ?_
  refine lv_imul hx hb dX0_layAll_127 ?_
  refine tp_i (y := 8) (by decide) ?_
  refine va_put (D := (dC, dI)) (ci := 4) (v := .int 8) (ty := .int) (C := RX0) (T := TX0) (N := 9) hx hb ht itX0 tyX0 tyX0_ok nmX0 hown hK hP hD hS 0 rfl rfl 8 (by decide) (ht _ tw_201) (fun _ h9 => h9) rfl (by decide +kernel) rfl rfl (Nat.le_of_ble_eq_true rfl) dX0_layAll_128 (fun H locs hP hD hS => ?_)
  have hP : va_P (dC, dI) vwCl [(a0_, .inr (4, [.ref a1_, .int (4 * (nI N)), .ref a2_, .int 2, .int 1, .int 0, .int 0, .int 8, .int 8])), (a3_, .inl (cI, N, .inl (upd (upd (fun _ => 0) 0 2195) 1 1048691))), (a1_, .inr (10, [.ref a4_, .int 0, .ref a5_, .int 0, .ref a6_, .int 0, .ref a7_, .ref a8_, .ref a9_, .int 0, .ref a3_, .int 2, .int 8]))] H := hP
  have hD : va_D A [(a0_, .inr (4, [.ref a1_, .int (4 * (nI N)), .ref a2_, .int 2, .int 1, .int 0, .int 0, .int 8, .int 8])), (a3_, .inl (cI, N, .inl (upd (upd (fun _ => 0) 0 2195) 1 1048691))), (a1_, .inr (10, [.ref a4_, .int 0, .ref a5_, .int 0, .ref a6_, .int 0, .ref a7_, .ref a8_, .ref a9_, .int 0, .ref a3_, .int 2, .int 8]))] := hD
  refine lv_aload_n hx hb dX0_layAll_131 rfl (lv_at hl 1 rfl) ?_
  refine va_get (D := (dC, dI)) (ci := 4) (v := .int 0) (C := RX0) (T := TX0) (N := 9) hx hb ht itX0 hown hK hP 0 rfl rfl 6 (by decide) (ht _ tw_193) (fun _ h9 => h9) rfl dX0_layAll_132 ?_
  refine lv_if_eq (tgt := 142) hx hb dX0_layAll_135 (by decide) (fun _ => ?_) (fun k5 => absurd k5 (by decide))
  refine lv_aload_n hx hb dX0_layAll_142 rfl (lv_at hl 1 rfl) ?_
  refine va_get (D := (dC, dI)) (ci := 4) (v := .ref a1_) (C := RX0) (T := TX0) (N := 9) hx hb ht itX0 hown hK hP 0 rfl rfl 0 (by decide) (ht _ tw_75) (fun _ h9 => h9) rfl dX0_layAll_143 ?_
  refine lv_aload_n hx hb dX0_layAll_146 rfl (lv_at hl 1 rfl) ?_
  refine va_get (D := (dC, dI)) (ci := 4) (v := .int 2) (C := RX0) (T := TX0) (N := 9) hx hb ht itX0 hown hK hP 0 rfl rfl 3 (by decide) (ht _ tw_191) (fun _ h9 => h9) rfl dX0_layAll_147 ?_
  refine va_put (D := (dC, dI)) (ci := 10) (v := .int 2) (ty := .int) (C := RX7) (T := TX7) (N := 13) hx hb ht itX7 tyX7 tyX7_ok nmX7 hown hK hP hD hS 2 rfl rfl 11 (by decide) (ht _ tw_202) (fun _ h9 => h9) rfl (by decide +kernel) rfl rfl (Nat.le_of_ble_eq_true rfl) dX0_layAll_150 (fun H locs hP hD hS => ?_)
  have hP : va_P (dC, dI) vwCl [(a0_, .inr (4, [.ref a1_, .int (4 * (nI N)), .ref a2_, .int 2, .int 1, .int 0, .int 0, .int 8, .int 8])), (a3_, .inl (cI, N, .inl (upd (upd (fun _ => 0) 0 2195) 1 1048691))), (a1_, .inr (10, [.ref a4_, .int 0, .ref a5_, .int 0, .ref a6_, .int 0, .ref a7_, .ref a8_, .ref a9_, .int 0, .ref a3_, .int 2, .int 8]))] H := hP
  have hD : va_D A [(a0_, .inr (4, [.ref a1_, .int (4 * (nI N)), .ref a2_, .int 2, .int 1, .int 0, .int 0, .int 8, .int 8])), (a3_, .inl (cI, N, .inl (upd (upd (fun _ => 0) 0 2195) 1 1048691))), (a1_, .inr (10, [.ref a4_, .int 0, .ref a5_, .int 0, .ref a6_, .int 0, .ref a7_, .ref a8_, .ref a9_, .int 0, .ref a3_, .int 2, .int 8]))] := hD
  refine lv_aload_n hx hb dX0_layAll_153 rfl (lv_at hl 1 rfl) ?_
  refine ca_v (wr := [(a3_, .inl (cI, N, .inl (upd (upd (fun _ => 0) 0 2195) 1 1048691)))]) (rn_V (n := 0) (As := []) (rest := []) hx hb hml hown ht hKK hFx hP hD hS hA (c_X0_placeGlobals_2 l dC dI cI cB cZ cJ cR tb H.size a0_ a1_ N a2_ a4_ a5_ a6_ a7_ a8_ a9_ a3_ (by omega) (by omega)) tw_205 tw_206 (by decide +kernel) rfl rfl ⟨Nat.le_of_ble_eq_true rfl, Nat.le_of_ble_eq_true rfl⟩ [0, 2] rfl (by decide) rfl rfl rfl rfl hl.1 rfl (Nat.le_of_ble_eq_true rfl) dX0_layAll_154 ⟨Nat.le_of_ble_eq_true rfl, Nat.le_of_ble_eq_true rfl⟩) hP hD hS hA (isC := [0, 2]) (isR := [1]) rfl rfl (by decide) (by decide) (fun u H locs hw6 hP hD hS => ?_)
  have hP : va_P (dC, dI) vwCl [(a3_, .inl (cI, N, .inl (upd (upd (fun _ => 0) 0 2195) 1 1048691))), (a0_, .inr (4, [.ref a1_, .int (4 * (nI N)), .ref a2_, .int 2, .int 1, .int 0, .int 0, .int 8, .int 8])), (a1_, .inr (10, [.ref a4_, .int 0, .ref a5_, .int 0, .ref a6_, .int 0, .ref a7_, .ref a8_, .ref a9_, .int 0, .ref a3_, .int 2, .int 8]))] H := hP
  have hD : va_D A [(a3_, .inl (cI, N, .inl (upd (upd (fun _ => 0) 0 2195) 1 1048691))), (a0_, .inr (4, [.ref a1_, .int (4 * (nI N)), .ref a2_, .int 2, .int 1, .int 0, .int 0, .int 8, .int 8])), (a1_, .inr (10, [.ref a4_, .int 0, .ref a5_, .int 0, .ref a6_, .int 0, .ref a7_, .ref a8_, .ref a9_, .int 0, .ref a3_, .int 2, .int 8]))] := hD
  refine W.widen (k := 0) (n := 0) (by omega) (by omega) ?_
  have hP9 := hP.sub (ws' := [(a0_, .inr (4, [.ref a1_, .int (4 * (nI N)), .ref a2_, .int 2, .int 1, .int 0, .int 0, .int 8, .int 8])), (a3_, .inl (cI, N, .inl (upd (upd (fun _ => 0) 0 2195) 1 1048691))), (a1_, .inr (10, [.ref a4_, .int 0, .ref a5_, .int 0, .ref a6_, .int 0, .ref a7_, .ref a8_, .ref a9_, .int 0, .ref a3_, .int 2, .int 8]))]) [1, 0, 2] rfl
  have hD9 := hD.sub (ws' := [(a0_, .inr (4, [.ref a1_, .int (4 * (nI N)), .ref a2_, .int 2, .int 1, .int 0, .int 0, .int 8, .int 8])), (a3_, .inl (cI, N, .inl (upd (upd (fun _ => 0) 0 2195) 1 1048691))), (a1_, .inr (10, [.ref a4_, .int 0, .ref a5_, .int 0, .ref a6_, .int 0, .ref a7_, .ref a8_, .ref a9_, .int 0, .ref a3_, .int 2, .int 8]))]) [1, 0, 2] (by decide) rfl
  refine W.widen (k := 0) (n := 0) (by omega) (by omega) ?_
  exact W.vret hx hb hr (fun t ht9 hW => ⟨⟨(), rfl, trivial, by rw [ht9]; exact hP9, hD9⟩, hS.F ht9⟩) hS.2.2 dX0_layAll_157
set_option maxHeartbeats 4000000 in
set_option maxRecDepth 100000 in
theorem c_X0_assemble (l : Launch) (dC : Nat → ClassId) (dI : Nat → Nat → Nat) (cI cB cZ cJ cR : ClassId) (tb : Nat → Nat) (sz : Nat) (a0_ : Nat) (a1_ : Nat) (N : Nat) (a2_ : Nat) (a3_ : Nat) (a4_ : Nat) (a5_ : Nat) (a6_ : Nat) (a7_ : Nat) (a8_ : Nat) (a9_ : Nat) (hf_N_0 : 256 ≤ N) (hf_N_1 : N ≤ 4096) : Met l yX0_assemble (Cond.code yX0_assemble cX0_assemble 2 (some .boolean) :: tw_W) ({ frames := 3, cells := 0, slots := 0, locals := 66 }) (pc_ (dC, dI) (tyS cI cB cZ cJ cR) tb [(a0_, .inr (4, [.ref a1_, .int (4 * (nI N)), .ref a2_, .int 0, .int 0, .int 0, .int 0, .int 0, .int 0])), (a3_, .inl (cI, N, .inl (fun _ => 0))), (a1_, .inr (10, [.ref a4_, .int 0, .ref a5_, .int 0, .ref a6_, .int 0, .ref a7_, .ref a8_, .ref a9_, .int 0, .ref a3_, .int 0, .int 0]))] sz [.ref a0_, .ref a1_]) (qi_ (dC, dI) [(a0_, .inr (4, [.ref a1_, .int (4 * (nI N)), .ref a2_, .int 0, .int 0, .int 0, .int 0, .int 0, .int 0])), (a3_, .inl (cI, N, .inl (fun _ => 0))), (a1_, .inr (10, [.ref a4_, .int 0, .ref a5_, .int 0, .ref a6_, .int 0, .ref a7_, .ref a8_, .ref a9_, .int 0, .ref a3_, .int 0, .int 0]))] sz (fun (r : Int32) (u : Unit) => r = 1) (fun (u : Unit) => [(a0_, .inr (4, [.ref a1_, .int (4 * (nI N)), .ref a2_, .int 2, .int 1, .int 0, .int 0, .int 8, .int 8])), (a3_, .inl (cI, N, .inl (upd (upd (fun _ => 0) 0 2195) 1 1048691))), (a1_, .inr (10, [.ref a4_, .int 0, .ref a5_, .int 0, .ref a6_, .int 0, .ref a7_, .ref a8_, .ref a9_, .int 0, .ref a3_, .int 2, .int 8]))])) 0 0 (va_A [(a0_, .inr (4, [.ref a1_, .int (4 * (nI N)), .ref a2_, .int 0, .int 0, .int 0, .int 0, .int 0, .int 0])), (a3_, .inl (cI, N, .inl (fun _ => 0))), (a1_, .inr (10, [.ref a4_, .int 0, .ref a5_, .int 0, .ref a6_, .int 0, .ref a7_, .ref a8_, .ref a9_, .int 0, .ref a3_, .int 0, .int 0]))] sz) := by
  refine Met.ofW (cc := cX0_assemble) (maxL := 2) (ret := (some .boolean)) (by decide) rfl ?_
  intro p e s m args below meth c s₁ B hml hv
  obtain ⟨rfl, hsz, hP, hKK, hD0, hFx⟩ := hv
  have hK := hKK.1
  have hx := B.exec
  have hb := B.bytes
  have hr := B.returns
  have ht : ∀ w ∈ tw_W, w.before _ s = true := fun w h => atoms_spec (ws := Cond.code yX0_assemble cX0_assemble 2 (some .boolean) :: tw_W) B.pre w (List.mem_cons_of_mem _ h)
  have hown : s.vm.findClass RX0 = some m.cls := findClass_of_methodNamed B.named
  have hlocks := B.notSynchronized
  subst hsz
  unfold qi_
  have hD := hD0.self (sz := s.heap.size)
  generalize hAe : va_A [(a0_, .inr (4, [.ref a1_, .int (4 * (nI N)), .ref a2_, .int 0, .int 0, .int 0, .int 0, .int 0, .int 0])), (a3_, .inl (cI, N, .inl (fun _ => 0))), (a1_, .inr (10, [.ref a4_, .int 0, .ref a5_, .int 0, .ref a6_, .int 0, .ref a7_, .ref a8_, .ref a9_, .int 0, .ref a3_, .int 0, .int 0]))] s.heap.size = A at hD hFx ⊢
  have hA : ∀ q : Nat, s.heap.size ≤ q → A q := fun q h => by rw [← hAe]; exact Or.inr h
  have hS : va_S A s.heap s.heap [] := va_S.rf
  have hP : va_P (dC, dI) vwCl [(a0_, .inr (4, [.ref a1_, .int (4 * (nI N)), .ref a2_, .int 0, .int 0, .int 0, .int 0, .int 0, .int 0])), (a3_, .inl (cI, N, .inl (fun _ => 0))), (a1_, .inr (10, [.ref a4_, .int 0, .ref a5_, .int 0, .ref a6_, .int 0, .ref a7_, .ref a8_, .ref a9_, .int 0, .ref a3_, .int 0, .int 0]))] s.heap := hP
  have hl := lv_entry ([.ref a0_, .ref a1_]) (n := 2) (Nat.le_of_ble_eq_true rfl)
  rw [lg_entry_eq]
  generalize (lg_sl ([.ref a0_, .ref a1_]) ++ List.replicate (2 - (lg_sl ([.ref a0_, .ref a1_])).length) Slot.unset).toArray = ls at hl ⊢
  have hl : lv_has ls 2 [(0, .ref a0_), (1, .ref a1_)] := hl
  refine lv_aload_n hx hb dX0_assemble_0 rfl (lv_at hl 0 rfl) ?_
  refine lv_aload_n hx hb dX0_assemble_1 rfl (lv_at hl 1 rfl) ?_
  refine va_put (D := (dC, dI)) (ci := 4) (v := .ref a1_) (ty := .object "PocketCompiler$Program") (C := RX0) (T := TX0) (N := 9) hx hb ht itX0 tyX0 tyX0_ok nmX0 hown hK hP hD hS 0 rfl rfl 0 (by decide) (ht _ tw_75) (fun _ h9 => h9) rfl (by decide +kernel) rfl rfl (Nat.le_of_ble_eq_true rfl) dX0_assemble_2 (fun H locs hP hD hS => ?_)
  have hP : va_P (dC, dI) vwCl [(a0_, .inr (4, [.ref a1_, .int (4 * (nI N)), .ref a2_, .int 0, .int 0, .int 0, .int 0, .int 0, .int 0])), (a3_, .inl (cI, N, .inl (fun _ => 0))), (a1_, .inr (10, [.ref a4_, .int 0, .ref a5_, .int 0, .ref a6_, .int 0, .ref a7_, .ref a8_, .ref a9_, .int 0, .ref a3_, .int 0, .int 0]))] H := hP
  have hD : va_D A [(a0_, .inr (4, [.ref a1_, .int (4 * (nI N)), .ref a2_, .int 0, .int 0, .int 0, .int 0, .int 0, .int 0])), (a3_, .inl (cI, N, .inl (fun _ => 0))), (a1_, .inr (10, [.ref a4_, .int 0, .ref a5_, .int 0, .ref a6_, .int 0, .ref a7_, .ref a8_, .ref a9_, .int 0, .ref a3_, .int 0, .int 0]))] := hD
  refine lv_aload_n hx hb dX0_assemble_5 rfl (lv_at hl 0 rfl) ?_
  refine lv_iconst (v := 0) hx hb dX0_assemble_6 (by decide) ?_
  refine va_put (D := (dC, dI)) (ci := 4) (v := .int 0) (ty := .boolean) (C := RX0) (T := TX0) (N := 9) hx hb ht itX0 tyX0 tyX0_ok nmX0 hown hK hP hD hS 0 rfl rfl 4 (by decide) (ht _ tw_190) (fun _ h9 => h9) rfl (by decide +kernel) rfl rfl (Nat.le_of_ble_eq_true rfl) dX0_assemble_7 (fun H locs hP hD hS => ?_)
  have hP : va_P (dC, dI) vwCl [(a0_, .inr (4, [.ref a1_, .int (4 * (nI N)), .ref a2_, .int 0, .int 0, .int 0, .int 0, .int 0, .int 0])), (a3_, .inl (cI, N, .inl (fun _ => 0))), (a1_, .inr (10, [.ref a4_, .int 0, .ref a5_, .int 0, .ref a6_, .int 0, .ref a7_, .ref a8_, .ref a9_, .int 0, .ref a3_, .int 0, .int 0]))] H := hP
  have hD : va_D A [(a0_, .inr (4, [.ref a1_, .int (4 * (nI N)), .ref a2_, .int 0, .int 0, .int 0, .int 0, .int 0, .int 0])), (a3_, .inl (cI, N, .inl (fun _ => 0))), (a1_, .inr (10, [.ref a4_, .int 0, .ref a5_, .int 0, .ref a6_, .int 0, .ref a7_, .ref a8_, .ref a9_, .int 0, .ref a3_, .int 0, .int 0]))] := hD
  refine lv_aload_n hx hb dX0_assemble_10 rfl (lv_at hl 0 rfl) ?_
  refine ca_v (wr := [(a3_, .inl (cI, N, .inl (fun _ => 0)))]) (rn_V (n := 0) (As := []) (rest := []) hx hb hml hown ht hKK hFx hP hD hS hA (c_X0_layAll l dC dI cI cB cZ cJ cR tb H.size a0_ a1_ N a2_ a4_ a5_ a6_ a7_ a8_ a9_ a3_ (by omega) (by omega)) tw_207 tw_208 (by decide +kernel) rfl rfl ⟨Nat.le_of_ble_eq_true rfl, Nat.le_of_ble_eq_true rfl⟩ [0, 2] rfl (by decide) rfl rfl rfl rfl hl.1 rfl (Nat.le_of_ble_eq_true rfl) dX0_assemble_11 ⟨Nat.le_of_ble_eq_true rfl, Nat.le_of_ble_eq_true rfl⟩) hP hD hS hA (isC := [0, 2]) (isR := [1]) rfl rfl (by decide) (by decide) (fun u H locs hw1 hP hD hS => ?_)
  have hP : va_P (dC, dI) vwCl [(a3_, .inl (cI, N, .inl (fun _ => 0))), (a0_, .inr (4, [.ref a1_, .int (4 * (nI N)), .ref a2_, .int 2, .int 0, .int 0, .int 0, .int 8, .int 8])), (a1_, .inr (10, [.ref a4_, .int 0, .ref a5_, .int 0, .ref a6_, .int 0, .ref a7_, .ref a8_, .ref a9_, .int 0, .ref a3_, .int 2, .int 8]))] H := hP
  have hD : va_D A [(a3_, .inl (cI, N, .inl (fun _ => 0))), (a0_, .inr (4, [.ref a1_, .int (4 * (nI N)), .ref a2_, .int 2, .int 0, .int 0, .int 0, .int 8, .int 8])), (a1_, .inr (10, [.ref a4_, .int 0, .ref a5_, .int 0, .ref a6_, .int 0, .ref a7_, .ref a8_, .ref a9_, .int 0, .ref a3_, .int 2, .int 8]))] := hD
  refine W.widen (k := 0) (n := 0) (by omega) (by omega) ?_
  refine lv_aload_n hx hb dX0_assemble_14 rfl (lv_at hl 0 rfl) ?_
  refine va_get (D := (dC, dI)) (ci := 4) (v := .ref a1_) (C := RX0) (T := TX0) (N := 9) hx hb ht itX0 hown hK hP 1 rfl rfl 0 (by decide) (ht _ tw_75) (fun _ h9 => h9) rfl dX0_assemble_15 ?_
  refine va_get (D := (dC, dI)) (ci := 10) (v := .int 8) (C := RX7) (T := TX7) (N := 13) hx hb ht itX7 hown hK hP 2 rfl rfl 12 (by decide) (ht _ tw_204) (fun _ h9 => h9) rfl dX0_assemble_18 ?_
  refine lv_bipush (v := 64) hx hb dX0_assemble_21 (by decide) ?_
  refine lv_iadd hx hb dX0_assemble_23 ?_
  refine tp_i (y := 72) (by decide) ?_
  refine lv_aload_n hx hb dX0_assemble_24 rfl (lv_at hl 0 rfl) ?_
  refine va_get (D := (dC, dI)) (ci := 4) (v := .int (4 * (nI N))) (C := RX0) (T := TX0) (N := 9) hx hb ht itX0 hown hK hP 1 rfl rfl 1 (by decide) (ht _ tw_76) (fun _ h9 => h9) rfl dX0_assemble_25 ?_
  refine lv_icmp_le (tgt := 33) hx hb dX0_assemble_28 (by decide) (fun _ => ?_) (fun k2 => absurd (le_4 (j := 72) (by decide) (by omega) (by omega)) k2)
  refine lv_aload_n hx hb dX0_assemble_33 rfl (lv_at hl 0 rfl) ?_
  refine lv_iconst (v := 1) hx hb dX0_assemble_34 (by decide) ?_
  refine va_put (D := (dC, dI)) (ci := 4) (v := .int 1) (ty := .boolean) (C := RX0) (T := TX0) (N := 9) hx hb ht itX0 tyX0 tyX0_ok nmX0 hown hK hP hD hS 1 rfl rfl 4 (by decide) (ht _ tw_190) (fun _ h9 => h9) rfl (by decide +kernel) rfl rfl (Nat.le_of_ble_eq_true rfl) dX0_assemble_35 (fun H locs hP hD hS => ?_)
  have hP : va_P (dC, dI) vwCl [(a3_, .inl (cI, N, .inl (fun _ => 0))), (a0_, .inr (4, [.ref a1_, .int (4 * (nI N)), .ref a2_, .int 2, .int 1, .int 0, .int 0, .int 8, .int 8])), (a1_, .inr (10, [.ref a4_, .int 0, .ref a5_, .int 0, .ref a6_, .int 0, .ref a7_, .ref a8_, .ref a9_, .int 0, .ref a3_, .int 2, .int 8]))] H := hP
  have hD : va_D A [(a3_, .inl (cI, N, .inl (fun _ => 0))), (a0_, .inr (4, [.ref a1_, .int (4 * (nI N)), .ref a2_, .int 2, .int 1, .int 0, .int 0, .int 8, .int 8])), (a1_, .inr (10, [.ref a4_, .int 0, .ref a5_, .int 0, .ref a6_, .int 0, .ref a7_, .ref a8_, .ref a9_, .int 0, .ref a3_, .int 2, .int 8]))] := hD
  refine lv_aload_n hx hb dX0_assemble_38 rfl (lv_at hl 0 rfl) ?_
  refine ca_v (wr := []) (rn_V (n := 0) (As := []) (rest := []) hx hb hml hown ht hKK hFx hP hD hS hA (c_X0_layAll_2 l dC dI cI cB cZ cJ cR tb H.size a0_ a1_ N a2_ a3_ a4_ a5_ a6_ a7_ a8_ a9_ (by omega) (by omega)) tw_207 tw_208 (by decide +kernel) rfl rfl ⟨Nat.le_of_ble_eq_true rfl, Nat.le_of_ble_eq_true rfl⟩ [1, 0, 2] rfl (by decide) rfl rfl rfl rfl hl.1 rfl (Nat.le_of_ble_eq_true rfl) dX0_assemble_39 ⟨Nat.le_of_ble_eq_true rfl, Nat.le_of_ble_eq_true rfl⟩) hP hD hS hA (isC := [1, 0, 2]) (isR := []) rfl rfl (by decide) (by decide) (fun u H locs hw3 hP hD hS => ?_)
  have hP : va_P (dC, dI) vwCl [(a0_, .inr (4, [.ref a1_, .int (4 * (nI N)), .ref a2_, .int 2, .int 1, .int 0, .int 0, .int 8, .int 8])), (a3_, .inl (cI, N, .inl (upd (upd (fun _ => 0) 0 2195) 1 1048691))), (a1_, .inr (10, [.ref a4_, .int 0, .ref a5_, .int 0, .ref a6_, .int 0, .ref a7_, .ref a8_, .ref a9_, .int 0, .ref a3_, .int 2, .int 8]))] H := hP
  have hD : va_D A [(a0_, .inr (4, [.ref a1_, .int (4 * (nI N)), .ref a2_, .int 2, .int 1, .int 0, .int 0, .int 8, .int 8])), (a3_, .inl (cI, N, .inl (upd (upd (fun _ => 0) 0 2195) 1 1048691))), (a1_, .inr (10, [.ref a4_, .int 0, .ref a5_, .int 0, .ref a6_, .int 0, .ref a7_, .ref a8_, .ref a9_, .int 0, .ref a3_, .int 2, .int 8]))] := hD
  refine W.widen (k := 0) (n := 0) (by omega) (by omega) ?_
  refine lv_iconst (v := 1) hx hb dX0_assemble_42 (by decide) ?_
  have hP9 := hP.sub (ws' := [(a0_, .inr (4, [.ref a1_, .int (4 * (nI N)), .ref a2_, .int 2, .int 1, .int 0, .int 0, .int 8, .int 8])), (a3_, .inl (cI, N, .inl (upd (upd (fun _ => 0) 0 2195) 1 1048691))), (a1_, .inr (10, [.ref a4_, .int 0, .ref a5_, .int 0, .ref a6_, .int 0, .ref a7_, .ref a8_, .ref a9_, .int 0, .ref a3_, .int 2, .int 8]))]) [0, 1, 2] rfl
  have hD9 := hD.sub (ws' := [(a0_, .inr (4, [.ref a1_, .int (4 * (nI N)), .ref a2_, .int 2, .int 1, .int 0, .int 0, .int 8, .int 8])), (a3_, .inl (cI, N, .inl (upd (upd (fun _ => 0) 0 2195) 1 1048691))), (a1_, .inr (10, [.ref a4_, .int 0, .ref a5_, .int 0, .ref a6_, .int 0, .ref a7_, .ref a8_, .ref a9_, .int 0, .ref a3_, .int 2, .int 8]))]) [0, 1, 2] (by decide) rfl
  refine W.widen (k := 0) (n := 0) (by omega) (by omega) ?_
  exact W.zret (v := 1) hx hb hr rfl (fun t ht9 hW => ⟨⟨1, (), rfl, rfl, by rw [ht9]; exact hP9, hD9⟩, hS.F ht9⟩) hS.2.2 dX0_assemble_43
set_option maxHeartbeats 4000000 in
set_option maxRecDepth 100000 in
/-- PocketCompiler(w) -/
theorem c_X11_init (l : Launch) (dC : Nat → ClassId) (dI : Nat → Nat → Nat) (cI cB cZ cJ cR : ClassId) (tb : Nat → Nat) (sz : Nat) (h0 : Nat) (w : Int32) (N : Nat) (hN1 : 256 ≤ N) (hN2 : N ≤ 4096) (hNw : N = sizeW w) : Met l yX11_init (Cond.code yX11_init cX11_init 3 none :: tw_W) ({ frames := 4, cells := 246, slots := 64284, locals := 92 }) (pc_ (dC, dI) (tyS cI cB cZ cJ cR) tb [(h0, .inr (14, [.null, .int 0, .null, .null, .null, .null, .int 0, .int 0, .null, .null, .null, .null]))] sz [.ref h0, .int w]) (qv_ (dC, dI) [(h0, .inr (14, [.null, .int 0, .null, .null, .null, .null, .int 0, .int 0, .null, .null, .null, .null]))] sz (fun (u : Nat × Nat × Nat × Nat × Nat × Nat × Nat × Nat × Nat × Nat × Nat × Nat × Nat × Nat × Nat × Nat × Nat × Nat × Nat × Nat × Nat × Nat × Nat × Nat × Nat × Nat × Nat × Nat × Nat × Nat × Nat × Nat × Nat × Nat × Nat × Nat × Nat × Nat × Nat × Nat × Nat × Nat × Nat × Nat × Nat × Nat) => True) (fun (u : Nat × Nat × Nat × Nat × Nat × Nat × Nat × Nat × Nat × Nat × Nat × Nat × Nat × Nat × Nat × Nat × Nat × Nat × Nat × Nat × Nat × Nat × Nat × Nat × Nat × Nat × Nat × Nat × Nat × Nat × Nat × Nat × Nat × Nat × Nat × Nat × Nat × Nat × Nat × Nat × Nat × Nat × Nat × Nat × Nat × Nat) => [(h0, .inr (14, [.ref u.1, .int 0, .ref u.2.1, .ref u.2.2.1, .ref u.2.2.2.1, .ref u.2.2.2.2.1, .int 0, .int (-1), .ref u.2.2.2.2.2.1, .ref u.2.2.2.2.2.2.1, .ref u.2.2.2.2.2.2.2.1, .ref u.2.2.2.2.2.2.2.2.1])), (u.1, .inl (cI, 4000, .inl (fun _ => 0))), (u.2.2.2.2.2.1, .inr (7, [.ref u.2.2.2.2.2.2.2.2.2.1, .int 0, .int 0])), (u.2.2.2.2.2.2.2.2.2.1, .inl (cI, 64, .inl (fun _ => 0))), (u.2.2.2.2.2.2.2.2.1, .inr (11, [.ref u.2.2.2.2.2.2.2.2.2.2.1])), (u.2.2.2.2.2.2.2.2.2.2.1, .inr (1, [.ref u.2.2.2.2.2.2.2.2.2.2.2.1, .int 0, .int 0, .int 0])), (u.2.2.2.2.2.2.2.2.2.2.2.1, .inl (cB, 16, .inl (fun _ => 0))), (u.2.2.2.2.2.2.2.2.2.2.2.2.1, .inl (cI, 4000, .inl (fun _ => 0))), (u.2.2.1, .inr (10, [.ref u.2.2.2.2.2.2.2.2.2.2.2.2.2.1, .int 0, .ref u.2.2.2.2.2.2.2.2.2.2.2.2.2.2.1, .int 0, .ref u.2.2.2.2.2.2.2.2.2.2.2.2.2.2.2.1, .int 0, .ref u.2.2.2.2.2.2.2.2.2.2.2.2.2.2.2.2.1, .ref u.2.2.2.2.2.2.2.2.2.2.2.2.2.2.2.2.2.1, .ref u.2.2.2.2.2.2.2.2.2.2.2.2.2.2.2.2.2.2.1, .int 0, .ref u.2.2.2.2.2.2.2.2.2.2.2.2.2.2.2.2.2.2.2.1, .int 0, .int 0])), (u.2.2.2.2.2.2.2.2.2.2.2.2.2.1, .inl (cI, 4000, .inl (fun _ => 0))), (u.2.2.2.2.2.2.2.2.2.2.2.2.2.2.2.2.2.2.2.1, .inl (cI, N, .inl (fun _ => 0))), (u.2.2.2.2.2.2.1, .inr (9, [.ref u.2.2.2.2.2.2.2.2.2.2.2.2.2.2.2.2.2.2.2.2.1, .ref u.2.2.2.2.2.2.2.2.2.2.2.2.2.2.2.2.2.2.2.2.2.1, .int 0, .int 0, .int 0, .int 0, .ref u.2.2.2.2.2.2.2.2.2.2.2.2.2.2.2.2.2.2.2.2.2.2.1, .int 0, .ref u.2.2.2.2.2.1])), (u.2.2.2.2.2.2.2.2.2.2.2.2.2.2.2.2.2.2.2.2.2.1, .inl (cI, 32, .inl (fun _ => 0))), (u.2.2.2.2.2.2.2.2.2.2.2.2.2.2.2.2.2.2.2.2.2.2.1, .inl (cI, 200, .inl (fun _ => 0))), (u.2.2.2.2.2.2.2.2.2.2.2.2.2.2.2.2.2.2.2.2.1, .inl (cI, N, .inl (fun _ => 0))), (u.2.2.2.2.2.2.2.1, .inr (13, [.ref u.2.1, .ref u.2.2.2.2.2.1, .int (4 * (nI N)), .ref u.2.2.2.2.2.2.2.2.2.2.2.2.2.2.2.2.2.2.2.2.2.2.2.1, .ref u.2.2.2.2.2.2.2.2.2.2.2.2.2.2.2.2.2.2.2.2.2.2.2.2.1, .ref u.2.2.2.2.2.2.2.2.2.2.2.2.2.2.2.2.2.2.2.2.2.2.2.2.2.1, .int 0, .int 0, .int 0, .int 0, .int 0, .int 0, .int 0, .int 0, .int 0, .int 0, .int 0])), (u.2.2.2.1, .inr (8, [.ref u.2.1, .ref u.2.2.2.2.2.2.2.2.2.2.2.2.2.2.2.2.2.2.2.2.2.2.2.2.2.2.1, .ref u.2.2.2.2.2.2.2.2.2.2.2.2.2.2.2.2.2.2.2.2.2.2.2.2.2.2.2.1, .ref u.2.2.2.2.2.2.2.2.2.2.2.2.2.2.2.2.2.2.2.2.2.2.2.2.2.2.2.2.1, .int 0, .int 0, .int 0])), (u.2.2.2.2.2.2.2.2.2.2.2.2.2.2.2.2.2.2.2.2.2.2.2.2.2.2.1, .inr (12, [.ref u.2.1, .ref u.2.2.2.2.2.2.2.2.2.2.2.2.2.2.2.2.2.2.2.2.2.2.2.2.2.2.2.2.2.1, .ref u.2.2.2.2.2.2.2.2.2.2.2.2.2.2.2.2.2.2.2.2.2.2.2.2.2.2.2.2.2.2.1, .ref u.2.2.2.2.2.2.2.2.2.2.2.2.2.2.2.2.2.2.2.2.2.2.2.2.2.2.2.2.2.2.2.1, .int 1, .int 0, .int 0, .int (-1), .int 0, .int (-1)])), (u.2.2.2.2.2.2.2.2.2.2.2.2.2.2.2.2.2.2.2.2.2.2.2.2.2.2.2.2.2.1, .inl (cI, 1503, .inl (upd (fun _ => 0) 0 0))), (u.2.2.2.2.2.2.2.2.2.2.2.2.2.2.2.2.2.2.2.2.2.2.2.2.2.2.2.2.2.2.1, .inl (cI, 1503, .inl (upd (fun _ => 0) 0 0))), (u.2.2.2.2.2.2.2.2.2.2.2.2.2.2.2.2.2.2.2.2.2.2.2.2.2.2.2.2.2.2.2.1, .inl (cI, 1503, .inl (upd (fun _ => 0) 0 0))), (u.2.2.2.2.2.2.2.2.2.2.2.2.2.2.2.2.2.2.2.2.2.2.2.2.2.2.2.1, .inr (5, [.ref u.2.1, .ref u.2.2.2.2.2.2.2.2.2.2.2.2.2.2.2.2.2.2.2.2.2.2.2.2.2.2.2.2.2.2.2.2.1, .int 0, .int 0, .int 0, .int 0, .ref u.2.2.2.2.2.2.2.2.2.2.2.2.2.2.2.2.2.2.2.2.2.2.2.2.2.2.2.2.2.2.2.2.2.1, .int 0, .ref u.2.2.2.2.2.2.2.2.2.2.2.2.2.2.2.2.2.2.2.2.2.2.2.2.2.2.2.2.2.2.2.2.2.2.1, .ref u.2.2.2.2.2.2.2.2.2.2.2.2.2.2.2.2.2.2.2.2.2.2.2.2.2.2.2.2.2.2.2.2.2.2.2.1, .ref u.2.2.2.2.2.2.2.2.2.2.2.2.2.2.2.2.2.2.2.2.2.2.2.2.2.2.2.2.2.2.2.2.2.2.2.2.1, .int 0])), (u.2.2.2.2.2.2.2.2.2.2.2.2.2.2.2.2.2.2.2.2.2.2.2.2.2.2.2.2.1, .inr (6, [.ref u.2.2.2.2.2.2.2.2.2.2.2.2.2.2.2.2.2.2.2.2.2.2.2.2.2.2.1, .ref u.2.2.2.2.2.2.2.2.2.2.2.2.2.2.2.2.2.2.2.2.2.2.2.2.2.2.2.1, .ref u.2.2.2.2.2.2.2.2.2.2.2.2.2.2.2.2.2.2.2.2.2.2.2.2.2.2.2.2.2.2.2.2.2.2.2.2.2.1, .ref u.2.2.2.2.2.2.2.2.2.2.2.2.2.2.2.2.2.2.2.2.2.2.2.2.2.2.2.2.2.2.2.2.2.2.2.2.2.2.1, .int 0])), (u.2.2.2.2.1, .inr (4, [.ref u.2.1, .int (4 * (nI N)), .ref u.2.2.2.2.2.2.2.2.2.2.2.2.2.2.2.2.2.2.2.2.2.2.2.2.2.2.2.2.2.2.2.2.2.2.2.2.2.2.2.1, .int 2, .int 1, .int 0, .int 0, .int 8, .int 8])), (u.2.2.2.2.2.2.2.2.2.2.2.2.2.2.2.2.2.2.2.2.2.2.2.2.2.2.2.2.2.2.2.2.2.2.2.2.2.2.2.2.1, .inl (cI, N, .inl (upd (upd (fun _ => 0) 0 2195) 1 1048691))), (u.2.1, .inr (10, [.ref u.2.2.2.2.2.2.2.2.2.2.2.2.1, .int 0, .ref u.2.2.2.2.2.2.2.2.2.2.2.2.2.2.2.2.2.2.2.2.2.2.2.2.2.2.2.2.2.2.2.2.2.2.2.2.2.2.2.2.2.1, .int 0, .ref u.2.2.2.2.2.2.2.2.2.2.2.2.2.2.2.2.2.2.2.2.2.2.2.2.2.2.2.2.2.2.2.2.2.2.2.2.2.2.2.2.2.2.1, .int 0, .ref u.2.2.2.2.2.2.2.2.2.2.2.2.2.2.2.2.2.2.2.2.2.2.2.2.2.2.2.2.2.2.2.2.2.2.2.2.2.2.2.2.2.2.2.1, .ref u.2.2.2.2.2.2.2.2.2.2.2.2.2.2.2.2.2.2.2.2.2.2.2.2.2.2.2.2.2.2.2.2.2.2.2.2.2.2.2.2.2.2.2.2.1, .ref u.2.2.2.2.2.2.2.2.2.2.2.2.2.2.2.2.2.2.2.2.2.2.2.2.2.2.2.2.2.2.2.2.2.2.2.2.2.2.2.2.2.2.2.2.2, .int 0, .ref u.2.2.2.2.2.2.2.2.2.2.2.2.2.2.2.2.2.2.2.2.2.2.2.2.2.2.2.2.2.2.2.2.2.2.2.2.2.2.2.2.1, .int 2, .int 8]))])) 246 64284 (va_A [(h0, .inr (14, [.null, .int 0, .null, .null, .null, .null, .int 0, .int 0, .null, .null, .null, .null]))] sz) := by
  refine Met.ofW (cc := cX11_init) (maxL := 3) (ret := none) (by decide) rfl ?_
  intro p e s m args below meth c s₁ B hml hv
  obtain ⟨rfl, hsz, hP, hKK, hD0, hFx⟩ := hv
  have hK := hKK.1
  have hx := B.exec
  have hb := B.bytes
  have hr := B.returns
  have ht : ∀ w ∈ tw_W, w.before _ s = true := fun w h => atoms_spec (ws := Cond.code yX11_init cX11_init 3 none :: tw_W) B.pre w (List.mem_cons_of_mem _ h)
  have hown : s.vm.findClass RX11 = some m.cls := findClass_of_methodNamed B.named
  have hlocks := B.notSynchronized
  have hin : meth.name = "<init>" := (name_of_methodNamed B.named B.method).1
  subst hsz
  unfold qv_
  have hD := hD0.self (sz := s.heap.size)
  generalize hAe : va_A [(h0, .inr (14, [.null, .int 0, .null, .null, .null, .null, .int 0, .int 0, .null, .null, .null, .null]))] s.heap.size = A at hD hFx ⊢
  have hA : ∀ q : Nat, s.heap.size ≤ q → A q := fun q h => by rw [← hAe]; exact Or.inr h
  have hS : va_S A s.heap s.heap [] := va_S.rf
  have hP : va_P (dC, dI) vwCl [(h0, .inr (14, [.null, .int 0, .null, .null, .null, .null, .int 0, .int 0, .null, .null, .null, .null]))] s.heap := hP
  have hl := lv_entry ([.ref h0, .int w]) (n := 3) (Nat.le_of_ble_eq_true rfl)
  rw [lg_entry_eq]
  generalize (lg_sl ([.ref h0, .int w]) ++ List.replicate (3 - (lg_sl ([.ref h0, .int w])).length) Slot.unset).toArray = ls at hl ⊢
  have hl : lv_has ls 3 [(0, .ref h0), (1, .int w)] := hl
  refine lv_aload_n hx hb dX11_init_0 rfl (lv_at hl 0 rfl) ?_
  refine W.objInit hx hb hown (ht _ tw_84) (ht _ tw_1) (ht _ tw_2) rfl (by rw [hml]; exact hl.1) rfl dX11_init_1 (Nat.le_of_ble_eq_true rfl) (Nat.le_of_ble_eq_true rfl) ?_
  refine W.eq (g2 := F0 m 4 ls []) rfl ?_
  refine lv_aload_n hx hb dX11_init_4 rfl (lv_at hl 0 rfl) ?_
  refine lv_sipush (v := 4000) hx hb dX11_init_5 (by decide) ?_
  refine va_newE (atype := .int) (ty := .int) (a0 := (4000, .inl (fun _ => 0))) (cE := cI) hx hb (ht _ tw_3) rfl hK hP hD hS hA 0 rfl (fun _ => rfl) (by decide) (by decide) (by decide) (Nat.le_of_ble_eq_true rfl) (Nat.le_of_ble_eq_true rfl) dX11_init_8 (fun q1 H hP hD hS => ?_)
  have hP : va_P (dC, dI) vwCl [(h0, .inr (14, [.null, .int 0, .null, .null, .null, .null, .int 0, .int 0, .null, .null, .null, .null])), (q1, .inl (cI, 4000, .inl (fun _ => 0)))] H := hP
  have hD : va_D A [(h0, .inr (14, [.null, .int 0, .null, .null, .null, .null, .int 0, .int 0, .null, .null, .null, .null])), (q1, .inl (cI, 4000, .inl (fun _ => 0)))] := hD
  refine W.widen (k := 1) (n := 4000) (by omega) (by omega) ?_
  refine va_putF (D := (dC, dI)) (ci := 14) (v := .ref q1) (ty := .array .int) (C := RX11) (T := TX11) (N := 12) hx hb ht itX11 tyX11 tyX11_ok nmX11 hown hK hP hD hS 0 rfl rfl 0 (by decide) (ht _ tw_85) (fun _ h9 => h9) rfl hin rfl (by decide +kernel) rfl rfl (Nat.le_of_ble_eq_true rfl) dX11_init_10 (fun H locs hP hD hS => ?_)
  have hP : va_P (dC, dI) vwCl [(h0, .inr (14, [.ref q1, .int 0, .null, .null, .null, .null, .int 0, .int 0, .null, .null, .null, .null])), (q1, .inl (cI, 4000, .inl (fun _ => 0)))] H := hP
  have hD : va_D A [(h0, .inr (14, [.ref q1, .int 0, .null, .null, .null, .null, .int 0, .int 0, .null, .null, .null, .null])), (q1, .inl (cI, 4000, .inl (fun _ => 0)))] := hD
  refine lv_aload_n hx hb dX11_init_13 rfl (lv_at hl 0 rfl) ?_
  refine lv_iconst (v := -1) hx hb dX11_init_14 (by decide) ?_
  refine va_put (D := (dC, dI)) (ci := 14) (v := .int (-1)) (ty := .int) (C := RX11) (T := TX11) (N := 12) hx hb ht itX11 tyX11 tyX11_ok nmX11 hown hK hP hD hS 0 rfl rfl 7 (by decide) (ht _ tw_86) (fun _ h9 => h9) rfl (by decide +kernel) rfl rfl (Nat.le_of_ble_eq_true rfl) dX11_init_15 (fun H locs hP hD hS => ?_)
  have hP : va_P (dC, dI) vwCl [(h0, .inr (14, [.ref q1, .int 0, .null, .null, .null, .null, .int 0, .int (-1), .null, .null, .null, .null])), (q1, .inl (cI, 4000, .inl (fun _ => 0)))] H := hP
  have hD : va_D A [(h0, .inr (14, [.ref q1, .int 0, .null, .null, .null, .null, .int 0, .int (-1), .null, .null, .null, .null])), (q1, .inl (cI, 4000, .inl (fun _ => 0)))] := hD
  refine lv_aload_n hx hb dX11_init_18 rfl (lv_at hl 0 rfl) ?_
  refine va_new (ci := 7) (fs := [.null, .int 0, .int 0]) (C := RX3) (T := TX3) (N := 3) hx hb ht itX3 tyX3 tyX3_ok hown (ht _ tw_87) (ht _ tw_88) (ht _ tw_89) hK hP hD hS hA rfl (by decide +kernel) (Nat.le_of_ble_eq_true rfl) (Nat.le_of_ble_eq_true rfl) dX11_init_19 (fun q2 H hP hD hS => ?_)
  have hP : va_P (dC, dI) vwCl [(h0, .inr (14, [.ref q1, .int 0, .null, .null, .null, .null, .int 0, .int (-1), .null, .null, .null, .null])), (q1, .inl (cI, 4000, .inl (fun _ => 0))), (q2, .inr (7, [.null, .int 0, .int 0]))] H := hP
  have hD : va_D A [(h0, .inr (14, [.ref q1, .int 0, .null, .null, .null, .null, .int 0, .int (-1), .null, .null, .null, .null])), (q1, .inl (cI, 4000, .inl (fun _ => 0))), (q2, .inr (7, [.null, .int 0, .int 0]))] := hD
  refine W.widen (k := 2) (n := 4003) (by omega) (by omega) ?_
  refine lv_dup hx hb dX11_init_22 rfl ?_
  refine ca_v (wr := [(h0, .inr (14, [.ref q1, .int 0, .null, .null, .null, .null, .int 0, .int (-1), .null, .null, .null, .null])), (q1, .inl (cI, 4000, .inl (fun _ => 0)))]) (rn_IN (n := 0) (As := []) (rest := [.ref q2, .ref h0]) hx hb hml hown ht hKK hFx hP hD hS hA (c_X3_init l dC dI cI cB cZ cJ cR tb H.size q2) tw_92 tw_93 0 rfl tw_94 rfl (by decide +kernel) rfl rfl ⟨Nat.le_of_ble_eq_true rfl, Nat.le_of_ble_eq_true rfl⟩ [2] rfl (by decide) rfl hl.1 rfl (Nat.le_of_ble_eq_true rfl) dX11_init_23 ⟨Nat.le_of_ble_eq_true rfl, Nat.le_of_ble_eq_true rfl⟩) hP hD hS hA (isC := [2]) (isR := [0, 1]) rfl rfl (by decide) (by decide) (fun u H locs hw3 hP hD hS => ?_)
  obtain ⟨q4, hq9⟩ : ∃ z, z = u := ⟨_, rfl⟩
  subst hq9
  have hP : va_P (dC, dI) vwCl [(h0, .inr (14, [.ref q1, .int 0, .null, .null, .null, .null, .int 0, .int (-1), .null, .null, .null, .null])), (q1, .inl (cI, 4000, .inl (fun _ => 0))), (q2, .inr (7, [.ref q4, .int 0, .int 0])), (q4, .inl (cI, 64, .inl (fun _ => 0)))] H := hP
  have hD : va_D A [(h0, .inr (14, [.ref q1, .int 0, .null, .null, .null, .null, .int 0, .int (-1), .null, .null, .null, .null])), (q1, .inl (cI, 4000, .inl (fun _ => 0))), (q2, .inr (7, [.ref q4, .int 0, .int 0])), (q4, .inl (cI, 64, .inl (fun _ => 0)))] := hD
  refine W.widen (k := 3) (n := 4067) (by omega) (by omega) ?_
  refine va_putF (D := (dC, dI)) (ci := 14) (v := .ref q2) (ty := .object "PocketCompiler$Gifts") (C := RX11) (T := TX11) (N := 12) hx hb ht itX11 tyX11 tyX11_ok nmX11 hown hK hP hD hS 0 rfl rfl 8 (by decide) (ht _ tw_95) (fun _ h9 => h9) rfl hin rfl (by decide +kernel) rfl rfl (Nat.le_of_ble_eq_true rfl) dX11_init_26 (fun H locs hP hD hS => ?_)
  have hP : va_P (dC, dI) vwCl [(h0, .inr (14, [.ref q1, .int 0, .null, .null, .null, .null, .int 0, .int (-1), .ref q2, .null, .null, .null])), (q1, .inl (cI, 4000, .inl (fun _ => 0))), (q2, .inr (7, [.ref q4, .int 0, .int 0])), (q4, .inl (cI, 64, .inl (fun _ => 0)))] H := hP
  have hD : va_D A [(h0, .inr (14, [.ref q1, .int 0, .null, .null, .null, .null, .int 0, .int (-1), .ref q2, .null, .null, .null])), (q1, .inl (cI, 4000, .inl (fun _ => 0))), (q2, .inr (7, [.ref q4, .int 0, .int 0])), (q4, .inl (cI, 64, .inl (fun _ => 0)))] := hD
  refine lv_aload_n hx hb dX11_init_29 rfl (lv_at hl 0 rfl) ?_
  refine va_new (ci := 11) (fs := [.null]) (C := RX8) (T := TX8) (N := 1) hx hb ht itX8 tyX8 tyX8_ok hown (ht _ tw_96) (ht _ tw_97) (ht _ tw_98) hK hP hD hS hA rfl (by decide +kernel) (Nat.le_of_ble_eq_true rfl) (Nat.le_of_ble_eq_true rfl) dX11_init_30 (fun q5 H hP hD hS => ?_)
  have hP : va_P (dC, dI) vwCl [(h0, .inr (14, [.ref q1, .int 0, .null, .null, .null, .null, .int 0, .int (-1), .ref q2, .null, .null, .null])), (q1, .inl (cI, 4000, .inl (fun _ => 0))), (q2, .inr (7, [.ref q4, .int 0, .int 0])), (q4, .inl (cI, 64, .inl (fun _ => 0))), (q5, .inr (11, [.null]))] H := hP
  have hD : va_D A [(h0, .inr (14, [.ref q1, .int 0, .null, .null, .null, .null, .int 0, .int (-1), .ref q2, .null, .null, .null])), (q1, .inl (cI, 4000, .inl (fun _ => 0))), (q2, .inr (7, [.ref q4, .int 0, .int 0])), (q4, .inl (cI, 64, .inl (fun _ => 0))), (q5, .inr (11, [.null]))] := hD
  refine W.widen (k := 4) (n := 4068) (by omega) (by omega) ?_
  refine lv_dup hx hb dX11_init_33 rfl ?_
  refine ca_v (wr := [(h0, .inr (14, [.ref q1, .int 0, .null, .null, .null, .null, .int 0, .int (-1), .ref q2, .null, .null, .null])), (q1, .inl (cI, 4000, .inl (fun _ => 0))), (q2, .inr (7, [.ref q4, .int 0, .int 0])), (q4, .inl (cI, 64, .inl (fun _ => 0)))]) (rn_IN (n := 0) (As := []) (rest := [.ref q5, .ref h0]) hx hb hml hown ht hKK hFx hP hD hS hA (c_X8_init l dC dI cI cB cZ cJ cR tb H.size q5) tw_99 tw_100 1 rfl tw_101 rfl (by decide +kernel) rfl rfl ⟨Nat.le_of_ble_eq_true rfl, Nat.le_of_ble_eq_true rfl⟩ [4] rfl (by decide) rfl hl.1 rfl (Nat.le_of_ble_eq_true rfl) dX11_init_34 ⟨Nat.le_of_ble_eq_true rfl, Nat.le_of_ble_eq_true rfl⟩) hP hD hS hA (isC := [4]) (isR := [0, 1, 2, 3]) rfl rfl (by decide) (by decide) (fun u H locs hw6 hP hD hS => ?_)
  obtain ⟨q7, q8⟩ := u
  have hP : va_P (dC, dI) vwCl [(h0, .inr (14, [.ref q1, .int 0, .null, .null, .null, .null, .int 0, .int (-1), .ref q2, .null, .null, .null])), (q1, .inl (cI, 4000, .inl (fun _ => 0))), (q2, .inr (7, [.ref q4, .int 0, .int 0])), (q4, .inl (cI, 64, .inl (fun _ => 0))), (q5, .inr (11, [.ref q7])), (q7, .inr (1, [.ref q8, .int 0, .int 0, .int 0])), (q8, .inl (cB, 16, .inl (fun _ => 0)))] H := hP
  have hD : va_D A [(h0, .inr (14, [.ref q1, .int 0, .null, .null, .null, .null, .int 0, .int (-1), .ref q2, .null, .null, .null])), (q1, .inl (cI, 4000, .inl (fun _ => 0))), (q2, .inr (7, [.ref q4, .int 0, .int 0])), (q4, .inl (cI, 64, .inl (fun _ => 0))), (q5, .inr (11, [.ref q7])), (q7, .inr (1, [.ref q8, .int 0, .int 0, .int 0])), (q8, .inl (cB, 16, .inl (fun _ => 0)))] := hD
  refine W.widen (k := 6) (n := 4088) (by omega) (by omega) ?_
  refine va_putF (D := (dC, dI)) (ci := 14) (v := .ref q5) (ty := .object "PocketCompiler$Shower") (C := RX11) (T := TX11) (N := 12) hx hb ht itX11 tyX11 tyX11_ok nmX11 hown hK hP hD hS 0 rfl rfl 11 (by decide) (ht _ tw_102) (fun _ h9 => h9) rfl hin rfl (by decide +kernel) rfl rfl (Nat.le_of_ble_eq_true rfl) dX11_init_37 (fun H locs hP hD hS => ?_)
  have hP : va_P (dC, dI) vwCl [(h0, .inr (14, [.ref q1, .int 0, .null, .null, .null, .null, .int 0, .int (-1), .ref q2, .null, .null, .ref q5])), (q1, .inl (cI, 4000, .inl (fun _ => 0))), (q2, .inr (7, [.ref q4, .int 0, .int 0])), (q4, .inl (cI, 64, .inl (fun _ => 0))), (q5, .inr (11, [.ref q7])), (q7, .inr (1, [.ref q8, .int 0, .int 0, .int 0])), (q8, .inl (cB, 16, .inl (fun _ => 0)))] H := hP
  have hD : va_D A [(h0, .inr (14, [.ref q1, .int 0, .null, .null, .null, .null, .int 0, .int (-1), .ref q2, .null, .null, .ref q5])), (q1, .inl (cI, 4000, .inl (fun _ => 0))), (q2, .inr (7, [.ref q4, .int 0, .int 0])), (q4, .inl (cI, 64, .inl (fun _ => 0))), (q5, .inr (11, [.ref q7])), (q7, .inr (1, [.ref q8, .int 0, .int 0, .int 0])), (q8, .inl (cB, 16, .inl (fun _ => 0)))] := hD
  refine jn_ (P := fun ls => lv_has ls 3 [(2, .int (nI N)), (0, .ref h0), (1, .int w)]) 62 [] (fun ls hl => ?_) (fun key => ?_)
  · refine lv_aload_n hx hb dX11_init_62 rfl (lv_at hl 1 rfl) ?_
    refine va_new (ci := 10) (fs := [.null, .int 0, .null, .int 0, .null, .int 0, .null, .null, .null, .int 0, .null, .int 0, .int 0]) (C := RX7) (T := TX7) (N := 13) hx hb ht itX7 tyX7 tyX7_ok hown (ht _ tw_103) (ht _ tw_104) (ht _ tw_105) hK hP hD hS hA rfl (by decide +kernel) (Nat.le_of_ble_eq_true rfl) (Nat.le_of_ble_eq_true rfl) dX11_init_63 (fun q9 H hP hD hS => ?_)
    have hP : va_P (dC, dI) vwCl [(h0, .inr (14, [.ref q1, .int 0, .null, .null, .null, .null, .int 0, .int (-1), .ref q2, .null, .null, .ref q5])), (q1, .inl (cI, 4000, .inl (fun _ => 0))), (q2, .inr (7, [.ref q4, .int 0, .int 0])), (q4, .inl (cI, 64, .inl (fun _ => 0))), (q5, .inr (11, [.ref q7])), (q7, .inr (1, [.ref q8, .int 0, .int 0, .int 0])), (q8, .inl (cB, 16, .inl (fun _ => 0))), (q9, .inr (10, [.null, .int 0, .null, .int 0, .null, .int 0, .null, .null, .null, .int 0, .null, .int 0, .int 0]))] H := hP
    have hD : va_D A [(h0, .inr (14, [.ref q1, .int 0, .null, .null, .null, .null, .int 0, .int (-1), .ref q2, .null, .null, .ref q5])), (q1, .inl (cI, 4000, .inl (fun _ => 0))), (q2, .inr (7, [.ref q4, .int 0, .int 0])), (q4, .inl (cI, 64, .inl (fun _ => 0))), (q5, .inr (11, [.ref q7])), (q7, .inr (1, [.ref q8, .int 0, .int 0, .int 0])), (q8, .inl (cB, 16, .inl (fun _ => 0))), (q9, .inr (10, [.null, .int 0, .null, .int 0, .null, .int 0, .null, .null, .null, .int 0, .null, .int 0, .int 0]))] := hD
    refine W.widen (k := 7) (n := 4101) (by omega) (by omega) ?_
    refine lv_dup hx hb dX11_init_66 rfl ?_
    refine lv_iload_n hx hb dX11_init_67 rfl (lv_at hl 0 rfl) ?_
    refine ca_v (wr := [(h0, .inr (14, [.ref q1, .int 0, .null, .null, .null, .null, .int 0, .int (-1), .ref q2, .null, .null, .ref q5])), (q1, .inl (cI, 4000, .inl (fun _ => 0))), (q2, .inr (7, [.ref q4, .int 0, .int 0])), (q4, .inl (cI, 64, .inl (fun _ => 0))), (q5, .inr (11, [.ref q7])), (q7, .inr (1, [.ref q8, .int 0, .int 0, .int 0])), (q8, .inl (cB, 16, .inl (fun _ => 0)))]) (rn_I (n := 1) (As := [.int (nI N)]) (rest := [.ref q9, .ref h0]) hx hb hml hown ht hKK hFx hP hD hS hA (c_X7_init l dC dI cI cB cZ cJ cR tb H.size q9 N (by omega) (by omega)) tw_106 tw_107 tw_108 tw_109 rfl (by decide +kernel) rfl rfl ⟨Nat.le_of_ble_eq_true rfl, Nat.le_of_ble_eq_true rfl⟩ [7] rfl (by decide) rfl hl.1 rfl (Nat.le_of_ble_eq_true rfl) dX11_init_68 ⟨Nat.le_of_ble_eq_true rfl, Nat.le_of_ble_eq_true rfl⟩) hP hD hS hA (isC := [7]) (isR := [0, 1, 2, 3, 4, 5, 6]) rfl rfl (by decide) (by decide) (fun u H locs hw10 hP hD hS => ?_)
    obtain ⟨q11, q12, q13, q14, q15, q16, q17⟩ := u
    have hP : va_P (dC, dI) vwCl [(h0, .inr (14, [.ref q1, .int 0, .null, .null, .null, .null, .int 0, .int (-1), .ref q2, .null, .null, .ref q5])), (q1, .inl (cI, 4000, .inl (fun _ => 0))), (q2, .inr (7, [.ref q4, .int 0, .int 0])), (q4, .inl (cI, 64, .inl (fun _ => 0))), (q5, .inr (11, [.ref q7])), (q7, .inr (1, [.ref q8, .int 0, .int 0, .int 0])), (q8, .inl (cB, 16, .inl (fun _ => 0))), (q9, .inr (10, [.ref q11, .int 0, .ref q12, .int 0, .ref q13, .int 0, .ref q14, .ref q15, .ref q16, .int 0, .ref q17, .int 0, .int 0])), (q11, .inl (cI, 4000, .inl (fun _ => 0))), (q17, .inl (cI, N, .inl (fun _ => 0)))] H := hP
    have hD : va_D A [(h0, .inr (14, [.ref q1, .int 0, .null, .null, .null, .null, .int 0, .int (-1), .ref q2, .null, .null, .ref q5])), (q1, .inl (cI, 4000, .inl (fun _ => 0))), (q2, .inr (7, [.ref q4, .int 0, .int 0])), (q4, .inl (cI, 64, .inl (fun _ => 0))), (q5, .inr (11, [.ref q7])), (q7, .inr (1, [.ref q8, .int 0, .int 0, .int 0])), (q8, .inl (cB, 16, .inl (fun _ => 0))), (q9, .inr (10, [.ref q11, .int 0, .ref q12, .int 0, .ref q13, .int 0, .ref q14, .ref q15, .ref q16, .int 0, .ref q17, .int 0, .int 0])), (q11, .inl (cI, 4000, .inl (fun _ => 0))), (q17, .inl (cI, N, .inl (fun _ => 0)))] := hD
    refine W.widen (k := 114) (n := 21861) (by omega) (by omega) ?_
    refine va_put (D := (dC, dI)) (ci := 14) (v := .ref q9) (ty := .object "PocketCompiler$Program") (C := RX11) (T := TX11) (N := 12) hx hb ht itX11 tyX11 tyX11_ok nmX11 hown hK hP hD hS 0 rfl rfl 2 (by decide) (ht _ tw_110) (fun _ h9 => h9) rfl (by decide +kernel) rfl rfl (Nat.le_of_ble_eq_true rfl) dX11_init_71 (fun H locs hP hD hS => ?_)
    have hP : va_P (dC, dI) vwCl [(h0, .inr (14, [.ref q1, .int 0, .ref q9, .null, .null, .null, .int 0, .int (-1), .ref q2, .null, .null, .ref q5])), (q1, .inl (cI, 4000, .inl (fun _ => 0))), (q2, .inr (7, [.ref q4, .int 0, .int 0])), (q4, .inl (cI, 64, .inl (fun _ => 0))), (q5, .inr (11, [.ref q7])), (q7, .inr (1, [.ref q8, .int 0, .int 0, .int 0])), (q8, .inl (cB, 16, .inl (fun _ => 0))), (q9, .inr (10, [.ref q11, .int 0, .ref q12, .int 0, .ref q13, .int 0, .ref q14, .ref q15, .ref q16, .int 0, .ref q17, .int 0, .int 0])), (q11, .inl (cI, 4000, .inl (fun _ => 0))), (q17, .inl (cI, N, .inl (fun _ => 0)))] H := hP
    have hD : va_D A [(h0, .inr (14, [.ref q1, .int 0, .ref q9, .null, .null, .null, .int 0, .int (-1), .ref q2, .null, .null, .ref q5])), (q1, .inl (cI, 4000, .inl (fun _ => 0))), (q2, .inr (7, [.ref q4, .int 0, .int 0])), (q4, .inl (cI, 64, .inl (fun _ => 0))), (q5, .inr (11, [.ref q7])), (q7, .inr (1, [.ref q8, .int 0, .int 0, .int 0])), (q8, .inl (cB, 16, .inl (fun _ => 0))), (q9, .inr (10, [.ref q11, .int 0, .ref q12, .int 0, .ref q13, .int 0, .ref q14, .ref q15, .ref q16, .int 0, .ref q17, .int 0, .int 0])), (q11, .inl (cI, 4000, .inl (fun _ => 0))), (q17, .inl (cI, N, .inl (fun _ => 0)))] := hD
    refine lv_aload_n hx hb dX11_init_74 rfl (lv_at hl 1 rfl) ?_
    refine va_new (ci := 10) (fs := [.null, .int 0, .null, .int 0, .null, .int 0, .null, .null, .null, .int 0, .null, .int 0, .int 0]) (C := RX7) (T := TX7) (N := 13) hx hb ht itX7 tyX7 tyX7_ok hown (ht _ tw_103) (ht _ tw_104) (ht _ tw_105) hK hP hD hS hA rfl (by decide +kernel) (Nat.le_of_ble_eq_true rfl) (Nat.le_of_ble_eq_true rfl) dX11_init_75 (fun q18 H hP hD hS => ?_)
    have hP : va_P (dC, dI) vwCl [(h0, .inr (14, [.ref q1, .int 0, .ref q9, .null, .null, .null, .int 0, .int (-1), .ref q2, .null, .null, .ref q5])), (q1, .inl (cI, 4000, .inl (fun _ => 0))), (q2, .inr (7, [.ref q4, .int 0, .int 0])), (q4, .inl (cI, 64, .inl (fun _ => 0))), (q5, .inr (11, [.ref q7])), (q7, .inr (1, [.ref q8, .int 0, .int 0, .int 0])), (q8, .inl (cB, 16, .inl (fun _ => 0))), (q9, .inr (10, [.ref q11, .int 0, .ref q12, .int 0, .ref q13, .int 0, .ref q14, .ref q15, .ref q16, .int 0, .ref q17, .int 0, .int 0])), (q11, .inl (cI, 4000, .inl (fun _ => 0))), (q17, .inl (cI, N, .inl (fun _ => 0))), (q18, .inr (10, [.null, .int 0, .null, .int 0, .null, .int 0, .null, .null, .null, .int 0, .null, .int 0, .int 0]))] H := hP
    have hD : va_D A [(h0, .inr (14, [.ref q1, .int 0, .ref q9, .null, .null, .null, .int 0, .int (-1), .ref q2, .null, .null, .ref q5])), (q1, .inl (cI, 4000, .inl (fun _ => 0))), (q2, .inr (7, [.ref q4, .int 0, .int 0])), (q4, .inl (cI, 64, .inl (fun _ => 0))), (q5, .inr (11, [.ref q7])), (q7, .inr (1, [.ref q8, .int 0, .int 0, .int 0])), (q8, .inl (cB, 16, .inl (fun _ => 0))), (q9, .inr (10, [.ref q11, .int 0, .ref q12, .int 0, .ref q13, .int 0, .ref q14, .ref q15, .ref q16, .int 0, .ref q17, .int 0, .int 0])), (q11, .inl (cI, 4000, .inl (fun _ => 0))), (q17, .inl (cI, N, .inl (fun _ => 0))), (q18, .inr (10, [.null, .int 0, .null, .int 0, .null, .int 0, .null, .null, .null, .int 0, .null, .int 0, .int 0]))] := hD
    refine W.widen (k := 115) (n := 21874) (by omega) (by omega) ?_
    refine lv_dup hx hb dX11_init_78 rfl ?_
    refine lv_iload_n hx hb dX11_init_79 rfl (lv_at hl 0 rfl) ?_
    refine ca_v (wr := [(h0, .inr (14, [.ref q1, .int 0, .ref q9, .null, .null, .null, .int 0, .int (-1), .ref q2, .null, .null, .ref q5])), (q1, .inl (cI, 4000, .inl (fun _ => 0))), (q2, .inr (7, [.ref q4, .int 0, .int 0])), (q4, .inl (cI, 64, .inl (fun _ => 0))), (q5, .inr (11, [.ref q7])), (q7, .inr (1, [.ref q8, .int 0, .int 0, .int 0])), (q8, .inl (cB, 16, .inl (fun _ => 0))), (q9, .inr (10, [.ref q11, .int 0, .ref q12, .int 0, .ref q13, .int 0, .ref q14, .ref q15, .ref q16, .int 0, .ref q17, .int 0, .int 0])), (q11, .inl (cI, 4000, .inl (fun _ => 0))), (q17, .inl (cI, N, .inl (fun _ => 0)))]) (rn_I (n := 1) (As := [.int (nI N)]) (rest := [.ref q18, .ref h0]) hx hb hml hown ht hKK hFx hP hD hS hA (c_X7_init l dC dI cI cB cZ cJ cR tb H.size q18 N (by omega) (by omega)) tw_106 tw_107 tw_108 tw_109 rfl (by decide +kernel) rfl rfl ⟨Nat.le_of_ble_eq_true rfl, Nat.le_of_ble_eq_true rfl⟩ [10] rfl (by decide) rfl hl.1 rfl (Nat.le_of_ble_eq_true rfl) dX11_init_80 ⟨Nat.le_of_ble_eq_true rfl, Nat.le_of_ble_eq_true rfl⟩) hP hD hS hA (isC := [10]) (isR := [0, 1, 2, 3, 4, 5, 6, 7, 8, 9]) rfl rfl (by decide) (by decide) (fun u H locs hw19 hP hD hS => ?_)
    obtain ⟨q20, q21, q22, q23, q24, q25, q26⟩ := u
    have hP : va_P (dC, dI) vwCl [(h0, .inr (14, [.ref q1, .int 0, .ref q9, .null, .null, .null, .int 0, .int (-1), .ref q2, .null, .null, .ref q5])), (q1, .inl (cI, 4000, .inl (fun _ => 0))), (q2, .inr (7, [.ref q4, .int 0, .int 0])), (q4, .inl (cI, 64, .inl (fun _ => 0))), (q5, .inr (11, [.ref q7])), (q7, .inr (1, [.ref q8, .int 0, .int 0, .int 0])), (q8, .inl (cB, 16, .inl (fun _ => 0))), (q9, .inr (10, [.ref q11, .int 0, .ref q12, .int 0, .ref q13, .int 0, .ref q14, .ref q15, .ref q16, .int 0, .ref q17, .int 0, .int 0])), (q11, .inl (cI, 4000, .inl (fun _ => 0))), (q17, .inl (cI, N, .inl (fun _ => 0))), (q18, .inr (10, [.ref q20, .int 0, .ref q21, .int 0, .ref q22, .int 0, .ref q23, .ref q24, .ref q25, .int 0, .ref q26, .int 0, .int 0])), (q20, .inl (cI, 4000, .inl (fun _ => 0))), (q26, .inl (cI, N, .inl (fun _ => 0)))] H := hP
    have hD : va_D A [(h0, .inr (14, [.ref q1, .int 0, .ref q9, .null, .null, .null, .int 0, .int (-1), .ref q2, .null, .null, .ref q5])), (q1, .inl (cI, 4000, .inl (fun _ => 0))), (q2, .inr (7, [.ref q4, .int 0, .int 0])), (q4, .inl (cI, 64, .inl (fun _ => 0))), (q5, .inr (11, [.ref q7])), (q7, .inr (1, [.ref q8, .int 0, .int 0, .int 0])), (q8, .inl (cB, 16, .inl (fun _ => 0))), (q9, .inr (10, [.ref q11, .int 0, .ref q12, .int 0, .ref q13, .int 0, .ref q14, .ref q15, .ref q16, .int 0, .ref q17, .int 0, .int 0])), (q11, .inl (cI, 4000, .inl (fun _ => 0))), (q17, .inl (cI, N, .inl (fun _ => 0))), (q18, .inr (10, [.ref q20, .int 0, .ref q21, .int 0, .ref q22, .int 0, .ref q23, .ref q24, .ref q25, .int 0, .ref q26, .int 0, .int 0])), (q20, .inl (cI, 4000, .inl (fun _ => 0))), (q26, .inl (cI, N, .inl (fun _ => 0)))] := hD
    refine W.widen (k := 222) (n := 39634) (by omega) (by omega) ?_
    refine va_put (D := (dC, dI)) (ci := 14) (v := .ref q18) (ty := .object "PocketCompiler$Program") (C := RX11) (T := TX11) (N := 12) hx hb ht itX11 tyX11 tyX11_ok nmX11 hown hK hP hD hS 0 rfl rfl 3 (by decide) (ht _ tw_111) (fun _ h9 => h9) rfl (by decide +kernel) rfl rfl (Nat.le_of_ble_eq_true rfl) dX11_init_83 (fun H locs hP hD hS => ?_)
    have hP : va_P (dC, dI) vwCl [(h0, .inr (14, [.ref q1, .int 0, .ref q9, .ref q18, .null, .null, .int 0, .int (-1), .ref q2, .null, .null, .ref q5])), (q1, .inl (cI, 4000, .inl (fun _ => 0))), (q2, .inr (7, [.ref q4, .int 0, .int 0])), (q4, .inl (cI, 64, .inl (fun _ => 0))), (q5, .inr (11, [.ref q7])), (q7, .inr (1, [.ref q8, .int 0, .int 0, .int 0])), (q8, .inl (cB, 16, .inl (fun _ => 0))), (q9, .inr (10, [.ref q11, .int 0, .ref q12, .int 0, .ref q13, .int 0, .ref q14, .ref q15, .ref q16, .int 0, .ref q17, .int 0, .int 0])), (q11, .inl (cI, 4000, .inl (fun _ => 0))), (q17, .inl (cI, N, .inl (fun _ => 0))), (q18, .inr (10, [.ref q20, .int 0, .ref q21, .int 0, .ref q22, .int 0, .ref q23, .ref q24, .ref q25, .int 0, .ref q26, .int 0, .int 0])), (q20, .inl (cI, 4000, .inl (fun _ => 0))), (q26, .inl (cI, N, .inl (fun _ => 0)))] H := hP
    have hD : va_D A [(h0, .inr (14, [.ref q1, .int 0, .ref q9, .ref q18, .null, .null, .int 0, .int (-1), .ref q2, .null, .null, .ref q5])), (q1, .inl (cI, 4000, .inl (fun _ => 0))), (q2, .inr (7, [.ref q4, .int 0, .int 0])), (q4, .inl (cI, 64, .inl (fun _ => 0))), (q5, .inr (11, [.ref q7])), (q7, .inr (1, [.ref q8, .int 0, .int 0, .int 0])), (q8, .inl (cB, 16, .inl (fun _ => 0))), (q9, .inr (10, [.ref q11, .int 0, .ref q12, .int 0, .ref q13, .int 0, .ref q14, .ref q15, .ref q16, .int 0, .ref q17, .int 0, .int 0])), (q11, .inl (cI, 4000, .inl (fun _ => 0))), (q17, .inl (cI, N, .inl (fun _ => 0))), (q18, .inr (10, [.ref q20, .int 0, .ref q21, .int 0, .ref q22, .int 0, .ref q23, .ref q24, .ref q25, .int 0, .ref q26, .int 0, .int 0])), (q20, .inl (cI, 4000, .inl (fun _ => 0))), (q26, .inl (cI, N, .inl (fun _ => 0)))] := hD
    refine lv_aload_n hx hb dX11_init_86 rfl (lv_at hl 1 rfl) ?_
    refine va_new (ci := 8) (fs := [.null, .null, .null, .null, .int 0, .int 0, .int 0]) (C := RX5) (T := TX5) (N := 7) hx hb ht itX5 tyX5 tyX5_ok hown (ht _ tw_112) (ht _ tw_113) (ht _ tw_114) hK hP hD hS hA rfl (by decide +kernel) (Nat.le_of_ble_eq_true rfl) (Nat.le_of_ble_eq_true rfl) dX11_init_87 (fun q27 H hP hD hS => ?_)
    have hP : va_P (dC, dI) vwCl [(h0, .inr (14, [.ref q1, .int 0, .ref q9, .ref q18, .null, .null, .int 0, .int (-1), .ref q2, .null, .null, .ref q5])), (q1, .inl (cI, 4000, .inl (fun _ => 0))), (q2, .inr (7, [.ref q4, .int 0, .int 0])), (q4, .inl (cI, 64, .inl (fun _ => 0))), (q5, .inr (11, [.ref q7])), (q7, .inr (1, [.ref q8, .int 0, .int 0, .int 0])), (q8, .inl (cB, 16, .inl (fun _ => 0))), (q9, .inr (10, [.ref q11, .int 0, .ref q12, .int 0, .ref q13, .int 0, .ref q14, .ref q15, .ref q16, .int 0, .ref q17, .int 0, .int 0])), (q11, .inl (cI, 4000, .inl (fun _ => 0))), (q17, .inl (cI, N, .inl (fun _ => 0))), (q18, .inr (10, [.ref q20, .int 0, .ref q21, .int 0, .ref q22, .int 0, .ref q23, .ref q24, .ref q25, .int 0, .ref q26, .int 0, .int 0])), (q20, .inl (cI, 4000, .inl (fun _ => 0))), (q26, .inl (cI, N, .inl (fun _ => 0))), (q27, .inr (8, [.null, .null, .null, .null, .int 0, .int 0, .int 0]))] H := hP
    have hD : va_D A [(h0, .inr (14, [.ref q1, .int 0, .ref q9, .ref q18, .null, .null, .int 0, .int (-1), .ref q2, .null, .null, .ref q5])), (q1, .inl (cI, 4000, .inl (fun _ => 0))), (q2, .inr (7, [.ref q4, .int 0, .int 0])), (q4, .inl (cI, 64, .inl (fun _ => 0))), (q5, .inr (11, [.ref q7])), (q7, .inr (1, [.ref q8, .int 0, .int 0, .int 0])), (q8, .inl (cB, 16, .inl (fun _ => 0))), (q9, .inr (10, [.ref q11, .int 0, .ref q12, .int 0, .ref q13, .int 0, .ref q14, .ref q15, .ref q16, .int 0, .ref q17, .int 0, .int 0])), (q11, .inl (cI, 4000, .inl (fun _ => 0))), (q17, .inl (cI, N, .inl (fun _ => 0))), (q18, .inr (10, [.ref q20, .int 0, .ref q21, .int 0, .ref q22, .int 0, .ref q23, .ref q24, .ref q25, .int 0, .ref q26, .int 0, .int 0])), (q20, .inl (cI, 4000, .inl (fun _ => 0))), (q26, .inl (cI, N, .inl (fun _ => 0))), (q27, .inr (8, [.null, .null, .null, .null, .int 0, .int 0, .int 0]))] := hD
    refine W.widen (k := 223) (n := 39641) (by omega) (by omega) ?_
    refine lv_dup hx hb dX11_init_90 rfl ?_
    refine lv_aload_n hx hb dX11_init_91 rfl (lv_at hl 1 rfl) ?_
    refine va_get (D := (dC, dI)) (ci := 14) (v := .ref q9) (C := RX11) (T := TX11) (N := 12) hx hb ht itX11 hown hK hP 0 rfl rfl 2 (by decide) (ht _ tw_110) (fun _ h9 => h9) rfl dX11_init_92 ?_
    refine ca_v (wr := [(h0, .inr (14, [.ref q1, .int 0, .ref q9, .ref q18, .null, .null, .int 0, .int (-1), .ref q2, .null, .null, .ref q5])), (q1, .inl (cI, 4000, .inl (fun _ => 0))), (q2, .inr (7, [.ref q4, .int 0, .int 0])), (q4, .inl (cI, 64, .inl (fun _ => 0))), (q5, .inr (11, [.ref q7])), (q7, .inr (1, [.ref q8, .int 0, .int 0, .int 0])), (q8, .inl (cB, 16, .inl (fun _ => 0))), (q9, .inr (10, [.ref q11, .int 0, .ref q12, .int 0, .ref q13, .int 0, .ref q14, .ref q15, .ref q16, .int 0, .ref q17, .int 0, .int 0])), (q11, .inl (cI, 4000, .inl (fun _ => 0))), (q17, .inl (cI, N, .inl (fun _ => 0))), (q18, .inr (10, [.ref q20, .int 0, .ref q21, .int 0, .ref q22, .int 0, .ref q23, .ref q24, .ref q25, .int 0, .ref q26, .int 0, .int 0])), (q20, .inl (cI, 4000, .inl (fun _ => 0))), (q26, .inl (cI, N, .inl (fun _ => 0)))]) (rn_I (n := 1) (As := [.ref q9]) (rest := [.ref q27, .ref h0]) hx hb hml hown ht hKK hFx hP hD hS hA (c_X5_init l dC dI cI cB cZ cJ cR tb H.size q27 q9) tw_115 tw_116 tw_117 tw_118 rfl (by decide +kernel) rfl rfl ⟨Nat.le_of_ble_eq_true rfl, Nat.le_of_ble_eq_true rfl⟩ [13] rfl (by decide) rfl hl.1 rfl (Nat.le_of_ble_eq_true rfl) dX11_init_95 ⟨Nat.le_of_ble_eq_true rfl, Nat.le_of_ble_eq_true rfl⟩) hP hD hS hA (isC := [13]) (isR := [0, 1, 2, 3, 4, 5, 6, 7, 8, 9, 10, 11, 12]) rfl rfl (by decide) (by decide) (fun u H locs hw28 hP hD hS => ?_)
    obtain ⟨q29, q30, q31, q32, q33, q34, q35, q36, q37, q38, q39, q40, q41⟩ := u
    have hP : va_P (dC, dI) vwCl [(h0, .inr (14, [.ref q1, .int 0, .ref q9, .ref q18, .null, .null, .int 0, .int (-1), .ref q2, .null, .null, .ref q5])), (q1, .inl (cI, 4000, .inl (fun _ => 0))), (q2, .inr (7, [.ref q4, .int 0, .int 0])), (q4, .inl (cI, 64, .inl (fun _ => 0))), (q5, .inr (11, [.ref q7])), (q7, .inr (1, [.ref q8, .int 0, .int 0, .int 0])), (q8, .inl (cB, 16, .inl (fun _ => 0))), (q9, .inr (10, [.ref q11, .int 0, .ref q12, .int 0, .ref q13, .int 0, .ref q14, .ref q15, .ref q16, .int 0, .ref q17, .int 0, .int 0])), (q11, .inl (cI, 4000, .inl (fun _ => 0))), (q17, .inl (cI, N, .inl (fun _ => 0))), (q18, .inr (10, [.ref q20, .int 0, .ref q21, .int 0, .ref q22, .int 0, .ref q23, .ref q24, .ref q25, .int 0, .ref q26, .int 0, .int 0])), (q20, .inl (cI, 4000, .inl (fun _ => 0))), (q26, .inl (cI, N, .inl (fun _ => 0))), (q27, .inr (8, [.ref q9, .ref q29, .ref q30, .ref q31, .int 0, .int 0, .int 0])), (q29, .inr (12, [.ref q9, .ref q32, .ref q33, .ref q34, .int 0, .int 0, .int 0, .int 0, .int 0, .int 0])), (q32, .inl (cI, 1503, .inl (fun _ => 0))), (q33, .inl (cI, 1503, .inl (fun _ => 0))), (q34, .inl (cI, 1503, .inl (fun _ => 0))), (q30, .inr (5, [.ref q9, .ref q35, .int 0, .int 0, .int 0, .int 0, .ref q36, .int 0, .ref q37, .ref q38, .ref q39, .int 0])), (q31, .inr (6, [.ref q29, .ref q30, .ref q40, .ref q41, .int 0]))] H := hP
    have hD : va_D A [(h0, .inr (14, [.ref q1, .int 0, .ref q9, .ref q18, .null, .null, .int 0, .int (-1), .ref q2, .null, .null, .ref q5])), (q1, .inl (cI, 4000, .inl (fun _ => 0))), (q2, .inr (7, [.ref q4, .int 0, .int 0])), (q4, .inl (cI, 64, .inl (fun _ => 0))), (q5, .inr (11, [.ref q7])), (q7, .inr (1, [.ref q8, .int 0, .int 0, .int 0])), (q8, .inl (cB, 16, .inl (fun _ => 0))), (q9, .inr (10, [.ref q11, .int 0, .ref q12, .int 0, .ref q13, .int 0, .ref q14, .ref q15, .ref q16, .int 0, .ref q17, .int 0, .int 0])), (q11, .inl (cI, 4000, .inl (fun _ => 0))), (q17, .inl (cI, N, .inl (fun _ => 0))), (q18, .inr (10, [.ref q20, .int 0, .ref q21, .int 0, .ref q22, .int 0, .ref q23, .ref q24, .ref q25, .int 0, .ref q26, .int 0, .int 0])), (q20, .inl (cI, 4000, .inl (fun _ => 0))), (q26, .inl (cI, N, .inl (fun _ => 0))), (q27, .inr (8, [.ref q9, .ref q29, .ref q30, .ref q31, .int 0, .int 0, .int 0])), (q29, .inr (12, [.ref q9, .ref q32, .ref q33, .ref q34, .int 0, .int 0, .int 0, .int 0, .int 0, .int 0])), (q32, .inl (cI, 1503, .inl (fun _ => 0))), (q33, .inl (cI, 1503, .inl (fun _ => 0))), (q34, .inl (cI, 1503, .inl (fun _ => 0))), (q30, .inr (5, [.ref q9, .ref q35, .int 0, .int 0, .int 0, .int 0, .ref q36, .int 0, .ref q37, .ref q38, .ref q39, .int 0])), (q31, .inr (6, [.ref q29, .ref q30, .ref q40, .ref q41, .int 0]))] := hD
    refine W.widen (k := 236) (n := 48520) (by omega) (by omega) ?_
    refine va_putF (D := (dC, dI)) (ci := 14) (v := .ref q27) (ty := .object "PocketCompiler$Parser") (C := RX11) (T := TX11) (N := 12) hx hb ht itX11 tyX11 tyX11_ok nmX11 hown hK hP hD hS 0 rfl rfl 4 (by decide) (ht _ tw_119) (fun _ h9 => h9) rfl hin rfl (by decide +kernel) rfl rfl (Nat.le_of_ble_eq_true rfl) dX11_init_98 (fun H locs hP hD hS => ?_)
    have hP : va_P (dC, dI) vwCl [(h0, .inr (14, [.ref q1, .int 0, .ref q9, .ref q18, .ref q27, .null, .int 0, .int (-1), .ref q2, .null, .null, .ref q5])), (q1, .inl (cI, 4000, .inl (fun _ => 0))), (q2, .inr (7, [.ref q4, .int 0, .int 0])), (q4, .inl (cI, 64, .inl (fun _ => 0))), (q5, .inr (11, [.ref q7])), (q7, .inr (1, [.ref q8, .int 0, .int 0, .int 0])), (q8, .inl (cB, 16, .inl (fun _ => 0))), (q9, .inr (10, [.ref q11, .int 0, .ref q12, .int 0, .ref q13, .int 0, .ref q14, .ref q15, .ref q16, .int 0, .ref q17, .int 0, .int 0])), (q11, .inl (cI, 4000, .inl (fun _ => 0))), (q17, .inl (cI, N, .inl (fun _ => 0))), (q18, .inr (10, [.ref q20, .int 0, .ref q21, .int 0, .ref q22, .int 0, .ref q23, .ref q24, .ref q25, .int 0, .ref q26, .int 0, .int 0])), (q20, .inl (cI, 4000, .inl (fun _ => 0))), (q26, .inl (cI, N, .inl (fun _ => 0))), (q27, .inr (8, [.ref q9, .ref q29, .ref q30, .ref q31, .int 0, .int 0, .int 0])), (q29, .inr (12, [.ref q9, .ref q32, .ref q33, .ref q34, .int 0, .int 0, .int 0, .int 0, .int 0, .int 0])), (q32, .inl (cI, 1503, .inl (fun _ => 0))), (q33, .inl (cI, 1503, .inl (fun _ => 0))), (q34, .inl (cI, 1503, .inl (fun _ => 0))), (q30, .inr (5, [.ref q9, .ref q35, .int 0, .int 0, .int 0, .int 0, .ref q36, .int 0, .ref q37, .ref q38, .ref q39, .int 0])), (q31, .inr (6, [.ref q29, .ref q30, .ref q40, .ref q41, .int 0]))] H := hP
    have hD : va_D A [(h0, .inr (14, [.ref q1, .int 0, .ref q9, .ref q18, .ref q27, .null, .int 0, .int (-1), .ref q2, .null, .null, .ref q5])), (q1, .inl (cI, 4000, .inl (fun _ => 0))), (q2, .inr (7, [.ref q4, .int 0, .int 0])), (q4, .inl (cI, 64, .inl (fun _ => 0))), (q5, .inr (11, [.ref q7])), (q7, .inr (1, [.ref q8, .int 0, .int 0, .int 0])), (q8, .inl (cB, 16, .inl (fun _ => 0))), (q9, .inr (10, [.ref q11, .int 0, .ref q12, .int 0, .ref q13, .int 0, .ref q14, .ref q15, .ref q16, .int 0, .ref q17, .int 0, .int 0])), (q11, .inl (cI, 4000, .inl (fun _ => 0))), (q17, .inl (cI, N, .inl (fun _ => 0))), (q18, .inr (10, [.ref q20, .int 0, .ref q21, .int 0, .ref q22, .int 0, .ref q23, .ref q24, .ref q25, .int 0, .ref q26, .int 0, .int 0])), (q20, .inl (cI, 4000, .inl (fun _ => 0))), (q26, .inl (cI, N, .inl (fun _ => 0))), (q27, .inr (8, [.ref q9, .ref q29, .ref q30, .ref q31, .int 0, .int 0, .int 0])), (q29, .inr (12, [.ref q9, .ref q32, .ref q33, .ref q34, .int 0, .int 0, .int 0, .int 0, .int 0, .int 0])), (q32, .inl (cI, 1503, .inl (fun _ => 0))), (q33, .inl (cI, 1503, .inl (fun _ => 0))), (q34, .inl (cI, 1503, .inl (fun _ => 0))), (q30, .inr (5, [.ref q9, .ref q35, .int 0, .int 0, .int 0, .int 0, .ref q36, .int 0, .ref q37, .ref q38, .ref q39, .int 0])), (q31, .inr (6, [.ref q29, .ref q30, .ref q40, .ref q41, .int 0]))] := hD
    refine lv_aload_n hx hb dX11_init_101 rfl (lv_at hl 1 rfl) ?_
    refine va_new (ci := 4) (fs := [.null, .int 0, .null, .int 0, .int 0, .int 0, .int 0, .int 0, .int 0]) (C := RX0) (T := TX0) (N := 9) hx hb ht itX0 tyX0 tyX0_ok hown (ht _ tw_120) (ht _ tw_121) (ht _ tw_122) hK hP hD hS hA rfl (by decide +kernel) (Nat.le_of_ble_eq_true rfl) (Nat.le_of_ble_eq_true rfl) dX11_init_102 (fun q42 H hP hD hS => ?_)
    have hP : va_P (dC, dI) vwCl [(h0, .inr (14, [.ref q1, .int 0, .ref q9, .ref q18, .ref q27, .null, .int 0, .int (-1), .ref q2, .null, .null, .ref q5])), (q1, .inl (cI, 4000, .inl (fun _ => 0))), (q2, .inr (7, [.ref q4, .int 0, .int 0])), (q4, .inl (cI, 64, .inl (fun _ => 0))), (q5, .inr (11, [.ref q7])), (q7, .inr (1, [.ref q8, .int 0, .int 0, .int 0])), (q8, .inl (cB, 16, .inl (fun _ => 0))), (q9, .inr (10, [.ref q11, .int 0, .ref q12, .int 0, .ref q13, .int 0, .ref q14, .ref q15, .ref q16, .int 0, .ref q17, .int 0, .int 0])), (q11, .inl (cI, 4000, .inl (fun _ => 0))), (q17, .inl (cI, N, .inl (fun _ => 0))), (q18, .inr (10, [.ref q20, .int 0, .ref q21, .int 0, .ref q22, .int 0, .ref q23, .ref q24, .ref q25, .int 0, .ref q26, .int 0, .int 0])), (q20, .inl (cI, 4000, .inl (fun _ => 0))), (q26, .inl (cI, N, .inl (fun _ => 0))), (q27, .inr (8, [.ref q9, .ref q29, .ref q30, .ref q31, .int 0, .int 0, .int 0])), (q29, .inr (12, [.ref q9, .ref q32, .ref q33, .ref q34, .int 0, .int 0, .int 0, .int 0, .int 0, .int 0])), (q32, .inl (cI, 1503, .inl (fun _ => 0))), (q33, .inl (cI, 1503, .inl (fun _ => 0))), (q34, .inl (cI, 1503, .inl (fun _ => 0))), (q30, .inr (5, [.ref q9, .ref q35, .int 0, .int 0, .int 0, .int 0, .ref q36, .int 0, .ref q37, .ref q38, .ref q39, .int 0])), (q31, .inr (6, [.ref q29, .ref q30, .ref q40, .ref q41, .int 0])), (q42, .inr (4, [.null, .int 0, .null, .int 0, .int 0, .int 0, .int 0, .int 0, .int 0]))] H := hP
    have hD : va_D A [(h0, .inr (14, [.ref q1, .int 0, .ref q9, .ref q18, .ref q27, .null, .int 0, .int (-1), .ref q2, .null, .null, .ref q5])), (q1, .inl (cI, 4000, .inl (fun _ => 0))), (q2, .inr (7, [.ref q4, .int 0, .int 0])), (q4, .inl (cI, 64, .inl (fun _ => 0))), (q5, .inr (11, [.ref q7])), (q7, .inr (1, [.ref q8, .int 0, .int 0, .int 0])), (q8, .inl (cB, 16, .inl (fun _ => 0))), (q9, .inr (10, [.ref q11, .int 0, .ref q12, .int 0, .ref q13, .int 0, .ref q14, .ref q15, .ref q16, .int 0, .ref q17, .int 0, .int 0])), (q11, .inl (cI, 4000, .inl (fun _ => 0))), (q17, .inl (cI, N, .inl (fun _ => 0))), (q18, .inr (10, [.ref q20, .int 0, .ref q21, .int 0, .ref q22, .int 0, .ref q23, .ref q24, .ref q25, .int 0, .ref q26, .int 0, .int 0])), (q20, .inl (cI, 4000, .inl (fun _ => 0))), (q26, .inl (cI, N, .inl (fun _ => 0))), (q27, .inr (8, [.ref q9, .ref q29, .ref q30, .ref q31, .int 0, .int 0, .int 0])), (q29, .inr (12, [.ref q9, .ref q32, .ref q33, .ref q34, .int 0, .int 0, .int 0, .int 0, .int 0, .int 0])), (q32, .inl (cI, 1503, .inl (fun _ => 0))), (q33, .inl (cI, 1503, .inl (fun _ => 0))), (q34, .inl (cI, 1503, .inl (fun _ => 0))), (q30, .inr (5, [.ref q9, .ref q35, .int 0, .int 0, .int 0, .int 0, .ref q36, .int 0, .ref q37, .ref q38, .ref q39, .int 0])), (q31, .inr (6, [.ref q29, .ref q30, .ref q40, .ref q41, .int 0])), (q42, .inr (4, [.null, .int 0, .null, .int 0, .int 0, .int 0, .int 0, .int 0, .int 0]))] := hD
    refine W.widen (k := 237) (n := 48529) (by omega) (by omega) ?_
    refine lv_dup hx hb dX11_init_105 rfl ?_
    refine lv_aload_n hx hb dX11_init_106 rfl (lv_at hl 1 rfl) ?_
    refine va_get (D := (dC, dI)) (ci := 14) (v := .ref q9) (C := RX11) (T := TX11) (N := 12) hx hb ht itX11 hown hK hP 0 rfl rfl 2 (by decide) (ht _ tw_110) (fun _ h9 => h9) rfl dX11_init_107 ?_
    refine lv_iload_n hx hb dX11_init_110 rfl (lv_at hl 0 rfl) ?_
    refine ca_v (wr := [(h0, .inr (14, [.ref q1, .int 0, .ref q9, .ref q18, .ref q27, .null, .int 0, .int (-1), .ref q2, .null, .null, .ref q5])), (q1, .inl (cI, 4000, .inl (fun _ => 0))), (q2, .inr (7, [.ref q4, .int 0, .int 0])), (q4, .inl (cI, 64, .inl (fun _ => 0))), (q5, .inr (11, [.ref q7])), (q7, .inr (1, [.ref q8, .int 0, .int 0, .int 0])), (q8, .inl (cB, 16, .inl (fun _ => 0))), (q9, .inr (10, [.ref q11, .int 0, .ref q12, .int 0, .ref q13, .int 0, .ref q14, .ref q15, .ref q16, .int 0, .ref q17, .int 0, .int 0])), (q11, .inl (cI, 4000, .inl (fun _ => 0))), (q17, .inl (cI, N, .inl (fun _ => 0))), (q18, .inr (10, [.ref q20, .int 0, .ref q21, .int 0, .ref q22, .int 0, .ref q23, .ref q24, .ref q25, .int 0, .ref q26, .int 0, .int 0])), (q20, .inl (cI, 4000, .inl (fun _ => 0))), (q26, .inl (cI, N, .inl (fun _ => 0))), (q27, .inr (8, [.ref q9, .ref q29, .ref q30, .ref q31, .int 0, .int 0, .int 0])), (q29, .inr (12, [.ref q9, .ref q32, .ref q33, .ref q34, .int 0, .int 0, .int 0, .int 0, .int 0, .int 0])), (q32, .inl (cI, 1503, .inl (fun _ => 0))), (q33, .inl (cI, 1503, .inl (fun _ => 0))), (q34, .inl (cI, 1503, .inl (fun _ => 0))), (q30, .inr (5, [.ref q9, .ref q35, .int 0, .int 0, .int 0, .int 0, .ref q36, .int 0, .ref q37, .ref q38, .ref q39, .int 0])), (q31, .inr (6, [.ref q29, .ref q30, .ref q40, .ref q41, .int 0]))]) (rn_I (n := 2) (As := [.ref q9, .int (nI N)]) (rest := [.ref q42, .ref h0]) hx hb hml hown ht hKK hFx hP hD hS hA (c_X0_init l dC dI cI cB cZ cJ cR tb H.size q42 q9 N (by omega) (by omega)) tw_123 tw_124 tw_125 tw_126 rfl (by decide +kernel) rfl rfl ⟨Nat.le_of_ble_eq_true rfl, Nat.le_of_ble_eq_true rfl⟩ [20] rfl (by decide) rfl hl.1 rfl (Nat.le_of_ble_eq_true rfl) dX11_init_111 ⟨Nat.le_of_ble_eq_true rfl, Nat.le_of_ble_eq_true rfl⟩) hP hD hS hA (isC := [20]) (isR := [0, 1, 2, 3, 4, 5, 6, 7, 8, 9, 10, 11, 12, 13, 14, 15, 16, 17, 18, 19]) rfl rfl (by decide) (by decide) (fun u H locs hw43 hP hD hS => ?_)
    obtain ⟨q44, hq9⟩ : ∃ z, z = u := ⟨_, rfl⟩
    subst hq9
    have hP : va_P (dC, dI) vwCl [(h0, .inr (14, [.ref q1, .int 0, .ref q9, .ref q18, .ref q27, .null, .int 0, .int (-1), .ref q2, .null, .null, .ref q5])), (q1, .inl (cI, 4000, .inl (fun _ => 0))), (q2, .inr (7, [.ref q4, .int 0, .int 0])), (q4, .inl (cI, 64, .inl (fun _ => 0))), (q5, .inr (11, [.ref q7])), (q7, .inr (1, [.ref q8, .int 0, .int 0, .int 0])), (q8, .inl (cB, 16, .inl (fun _ => 0))), (q9, .inr (10, [.ref q11, .int 0, .ref q12, .int 0, .ref q13, .int 0, .ref q14, .ref q15, .ref q16, .int 0, .ref q17, .int 0, .int 0])), (q11, .inl (cI, 4000, .inl (fun _ => 0))), (q17, .inl (cI, N, .inl (fun _ => 0))), (q18, .inr (10, [.ref q20, .int 0, .ref q21, .int 0, .ref q22, .int 0, .ref q23, .ref q24, .ref q25, .int 0, .ref q26, .int 0, .int 0])), (q20, .inl (cI, 4000, .inl (fun _ => 0))), (q26, .inl (cI, N, .inl (fun _ => 0))), (q27, .inr (8, [.ref q9, .ref q29, .ref q30, .ref q31, .int 0, .int 0, .int 0])), (q29, .inr (12, [.ref q9, .ref q32, .ref q33, .ref q34, .int 0, .int 0, .int 0, .int 0, .int 0, .int 0])), (q32, .inl (cI, 1503, .inl (fun _ => 0))), (q33, .inl (cI, 1503, .inl (fun _ => 0))), (q34, .inl (cI, 1503, .inl (fun _ => 0))), (q30, .inr (5, [.ref q9, .ref q35, .int 0, .int 0, .int 0, .int 0, .ref q36, .int 0, .ref q37, .ref q38, .ref q39, .int 0])), (q31, .inr (6, [.ref q29, .ref q30, .ref q40, .ref q41, .int 0])), (q42, .inr (4, [.ref q9, .int (4 * (nI N)), .ref q44, .int 0, .int 0, .int 0, .int 0, .int 0, .int 0]))] H := hP
    have hD : va_D A [(h0, .inr (14, [.ref q1, .int 0, .ref q9, .ref q18, .ref q27, .null, .int 0, .int (-1), .ref q2, .null, .null, .ref q5])), (q1, .inl (cI, 4000, .inl (fun _ => 0))), (q2, .inr (7, [.ref q4, .int 0, .int 0])), (q4, .inl (cI, 64, .inl (fun _ => 0))), (q5, .inr (11, [.ref q7])), (q7, .inr (1, [.ref q8, .int 0, .int 0, .int 0])), (q8, .inl (cB, 16, .inl (fun _ => 0))), (q9, .inr (10, [.ref q11, .int 0, .ref q12, .int 0, .ref q13, .int 0, .ref q14, .ref q15, .ref q16, .int 0, .ref q17, .int 0, .int 0])), (q11, .inl (cI, 4000, .inl (fun _ => 0))), (q17, .inl (cI, N, .inl (fun _ => 0))), (q18, .inr (10, [.ref q20, .int 0, .ref q21, .int 0, .ref q22, .int 0, .ref q23, .ref q24, .ref q25, .int 0, .ref q26, .int 0, .int 0])), (q20, .inl (cI, 4000, .inl (fun _ => 0))), (q26, .inl (cI, N, .inl (fun _ => 0))), (q27, .inr (8, [.ref q9, .ref q29, .ref q30, .ref q31, .int 0, .int 0, .int 0])), (q29, .inr (12, [.ref q9, .ref q32, .ref q33, .ref q34, .int 0, .int 0, .int 0, .int 0, .int 0, .int 0])), (q32, .inl (cI, 1503, .inl (fun _ => 0))), (q33, .inl (cI, 1503, .inl (fun _ => 0))), (q34, .inl (cI, 1503, .inl (fun _ => 0))), (q30, .inr (5, [.ref q9, .ref q35, .int 0, .int 0, .int 0, .int 0, .ref q36, .int 0, .ref q37, .ref q38, .ref q39, .int 0])), (q31, .inr (6, [.ref q29, .ref q30, .ref q40, .ref q41, .int 0])), (q42, .inr (4, [.ref q9, .int (4 * (nI N)), .ref q44, .int 0, .int 0, .int 0, .int 0, .int 0, .int 0]))] := hD
    refine W.widen (k := 238) (n := 51538) (by omega) (by omega) ?_
    refine va_putF (D := (dC, dI)) (ci := 14) (v := .ref q42) (ty := .object "PocketCompiler$Assembler") (C := RX11) (T := TX11) (N := 12) hx hb ht itX11 tyX11 tyX11_ok nmX11 hown hK hP hD hS 0 rfl rfl 5 (by decide) (ht _ tw_127) (fun _ h9 => h9) rfl hin rfl (by decide +kernel) rfl rfl (Nat.le_of_ble_eq_true rfl) dX11_init_114 (fun H locs hP hD hS => ?_)
    have hP : va_P (dC, dI) vwCl [(h0, .inr (14, [.ref q1, .int 0, .ref q9, .ref q18, .ref q27, .ref q42, .int 0, .int (-1), .ref q2, .null, .null, .ref q5])), (q1, .inl (cI, 4000, .inl (fun _ => 0))), (q2, .inr (7, [.ref q4, .int 0, .int 0])), (q4, .inl (cI, 64, .inl (fun _ => 0))), (q5, .inr (11, [.ref q7])), (q7, .inr (1, [.ref q8, .int 0, .int 0, .int 0])), (q8, .inl (cB, 16, .inl (fun _ => 0))), (q9, .inr (10, [.ref q11, .int 0, .ref q12, .int 0, .ref q13, .int 0, .ref q14, .ref q15, .ref q16, .int 0, .ref q17, .int 0, .int 0])), (q11, .inl (cI, 4000, .inl (fun _ => 0))), (q17, .inl (cI, N, .inl (fun _ => 0))), (q18, .inr (10, [.ref q20, .int 0, .ref q21, .int 0, .ref q22, .int 0, .ref q23, .ref q24, .ref q25, .int 0, .ref q26, .int 0, .int 0])), (q20, .inl (cI, 4000, .inl (fun _ => 0))), (q26, .inl (cI, N, .inl (fun _ => 0))), (q27, .inr (8, [.ref q9, .ref q29, .ref q30, .ref q31, .int 0, .int 0, .int 0])), (q29, .inr (12, [.ref q9, .ref q32, .ref q33, .ref q34, .int 0, .int 0, .int 0, .int 0, .int 0, .int 0])), (q32, .inl (cI, 1503, .inl (fun _ => 0))), (q33, .inl (cI, 1503, .inl (fun _ => 0))), (q34, .inl (cI, 1503, .inl (fun _ => 0))), (q30, .inr (5, [.ref q9, .ref q35, .int 0, .int 0, .int 0, .int 0, .ref q36, .int 0, .ref q37, .ref q38, .ref q39, .int 0])), (q31, .inr (6, [.ref q29, .ref q30, .ref q40, .ref q41, .int 0])), (q42, .inr (4, [.ref q9, .int (4 * (nI N)), .ref q44, .int 0, .int 0, .int 0, .int 0, .int 0, .int 0]))] H := hP
    have hD : va_D A [(h0, .inr (14, [.ref q1, .int 0, .ref q9, .ref q18, .ref q27, .ref q42, .int 0, .int (-1), .ref q2, .null, .null, .ref q5])), (q1, .inl (cI, 4000, .inl (fun _ => 0))), (q2, .inr (7, [.ref q4, .int 0, .int 0])), (q4, .inl (cI, 64, .inl (fun _ => 0))), (q5, .inr (11, [.ref q7])), (q7, .inr (1, [.ref q8, .int 0, .int 0, .int 0])), (q8, .inl (cB, 16, .inl (fun _ => 0))), (q9, .inr (10, [.ref q11, .int 0, .ref q12, .int 0, .ref q13, .int 0, .ref q14, .ref q15, .ref q16, .int 0, .ref q17, .int 0, .int 0])), (q11, .inl (cI, 4000, .inl (fun _ => 0))), (q17, .inl (cI, N, .inl (fun _ => 0))), (q18, .inr (10, [.ref q20, .int 0, .ref q21, .int 0, .ref q22, .int 0, .ref q23, .ref q24, .ref q25, .int 0, .ref q26, .int 0, .int 0])), (q20, .inl (cI, 4000, .inl (fun _ => 0))), (q26, .inl (cI, N, .inl (fun _ => 0))), (q27, .inr (8, [.ref q9, .ref q29, .ref q30, .ref q31, .int 0, .int 0, .int 0])), (q29, .inr (12, [.ref q9, .ref q32, .ref q33, .ref q34, .int 0, .int 0, .int 0, .int 0, .int 0, .int 0])), (q32, .inl (cI, 1503, .inl (fun _ => 0))), (q33, .inl (cI, 1503, .inl (fun _ => 0))), (q34, .inl (cI, 1503, .inl (fun _ => 0))), (q30, .inr (5, [.ref q9, .ref q35, .int 0, .int 0, .int 0, .int 0, .ref q36, .int 0, .ref q37, .ref q38, .ref q39, .int 0])), (q31, .inr (6, [.ref q29, .ref q30, .ref q40, .ref q41, .int 0])), (q42, .inr (4, [.ref q9, .int (4 * (nI N)), .ref q44, .int 0, .int 0, .int 0, .int 0, .int 0, .int 0]))] := hD
    refine lv_aload_n hx hb dX11_init_117 rfl (lv_at hl 1 rfl) ?_
    refine va_new (ci := 9) (fs := [.null, .null, .int 0, .int 0, .int 0, .int 0, .null, .int 0, .null]) (C := RX6) (T := TX6) (N := 9) hx hb ht itX6 tyX6 tyX6_ok hown (ht _ tw_128) (ht _ tw_129) (ht _ tw_130) hK hP hD hS hA rfl (by decide +kernel) (Nat.le_of_ble_eq_true rfl) (Nat.le_of_ble_eq_true rfl) dX11_init_118 (fun q45 H hP hD hS => ?_)
    have hP : va_P (dC, dI) vwCl [(h0, .inr (14, [.ref q1, .int 0, .ref q9, .ref q18, .ref q27, .ref q42, .int 0, .int (-1), .ref q2, .null, .null, .ref q5])), (q1, .inl (cI, 4000, .inl (fun _ => 0))), (q2, .inr (7, [.ref q4, .int 0, .int 0])), (q4, .inl (cI, 64, .inl (fun _ => 0))), (q5, .inr (11, [.ref q7])), (q7, .inr (1, [.ref q8, .int 0, .int 0, .int 0])), (q8, .inl (cB, 16, .inl (fun _ => 0))), (q9, .inr (10, [.ref q11, .int 0, .ref q12, .int 0, .ref q13, .int 0, .ref q14, .ref q15, .ref q16, .int 0, .ref q17, .int 0, .int 0])), (q11, .inl (cI, 4000, .inl (fun _ => 0))), (q17, .inl (cI, N, .inl (fun _ => 0))), (q18, .inr (10, [.ref q20, .int 0, .ref q21, .int 0, .ref q22, .int 0, .ref q23, .ref q24, .ref q25, .int 0, .ref q26, .int 0, .int 0])), (q20, .inl (cI, 4000, .inl (fun _ => 0))), (q26, .inl (cI, N, .inl (fun _ => 0))), (q27, .inr (8, [.ref q9, .ref q29, .ref q30, .ref q31, .int 0, .int 0, .int 0])), (q29, .inr (12, [.ref q9, .ref q32, .ref q33, .ref q34, .int 0, .int 0, .int 0, .int 0, .int 0, .int 0])), (q32, .inl (cI, 1503, .inl (fun _ => 0))), (q33, .inl (cI, 1503, .inl (fun _ => 0))), (q34, .inl (cI, 1503, .inl (fun _ => 0))), (q30, .inr (5, [.ref q9, .ref q35, .int 0, .int 0, .int 0, .int 0, .ref q36, .int 0, .ref q37, .ref q38, .ref q39, .int 0])), (q31, .inr (6, [.ref q29, .ref q30, .ref q40, .ref q41, .int 0])), (q42, .inr (4, [.ref q9, .int (4 * (nI N)), .ref q44, .int 0, .int 0, .int 0, .int 0, .int 0, .int 0])), (q45, .inr (9, [.null, .null, .int 0, .int 0, .int 0, .int 0, .null, .int 0, .null]))] H := hP
    have hD : va_D A [(h0, .inr (14, [.ref q1, .int 0, .ref q9, .ref q18, .ref q27, .ref q42, .int 0, .int (-1), .ref q2, .null, .null, .ref q5])), (q1, .inl (cI, 4000, .inl (fun _ => 0))), (q2, .inr (7, [.ref q4, .int 0, .int 0])), (q4, .inl (cI, 64, .inl (fun _ => 0))), (q5, .inr (11, [.ref q7])), (q7, .inr (1, [.ref q8, .int 0, .int 0, .int 0])), (q8, .inl (cB, 16, .inl (fun _ => 0))), (q9, .inr (10, [.ref q11, .int 0, .ref q12, .int 0, .ref q13, .int 0, .ref q14, .ref q15, .ref q16, .int 0, .ref q17, .int 0, .int 0])), (q11, .inl (cI, 4000, .inl (fun _ => 0))), (q17, .inl (cI, N, .inl (fun _ => 0))), (q18, .inr (10, [.ref q20, .int 0, .ref q21, .int 0, .ref q22, .int 0, .ref q23, .ref q24, .ref q25, .int 0, .ref q26, .int 0, .int 0])), (q20, .inl (cI, 4000, .inl (fun _ => 0))), (q26, .inl (cI, N, .inl (fun _ => 0))), (q27, .inr (8, [.ref q9, .ref q29, .ref q30, .ref q31, .int 0, .int 0, .int 0])), (q29, .inr (12, [.ref q9, .ref q32, .ref q33, .ref q34, .int 0, .int 0, .int 0, .int 0, .int 0, .int 0])), (q32, .inl (cI, 1503, .inl (fun _ => 0))), (q33, .inl (cI, 1503, .inl (fun _ => 0))), (q34, .inl (cI, 1503, .inl (fun _ => 0))), (q30, .inr (5, [.ref q9, .ref q35, .int 0, .int 0, .int 0, .int 0, .ref q36, .int 0, .ref q37, .ref q38, .ref q39, .int 0])), (q31, .inr (6, [.ref q29, .ref q30, .ref q40, .ref q41, .int 0])), (q42, .inr (4, [.ref q9, .int (4 * (nI N)), .ref q44, .int 0, .int 0, .int 0, .int 0, .int 0, .int 0])), (q45, .inr (9, [.null, .null, .int 0, .int 0, .int 0, .int 0, .null, .int 0, .null]))] := hD
    refine W.widen (k := 239) (n := 51547) (by omega) (by omega) ?_
    refine lv_dup hx hb dX11_init_121 rfl ?_
    refine lv_iload_n hx hb dX11_init_122 rfl (lv_at hl 0 rfl) ?_
    refine lv_aload_n hx hb dX11_init_123 rfl (lv_at hl 1 rfl) ?_
    refine va_get (D := (dC, dI)) (ci := 14) (v := .ref q2) (C := RX11) (T := TX11) (N := 12) hx hb ht itX11 hown hK hP 0 rfl rfl 8 (by decide) (ht _ tw_95) (fun _ h9 => h9) rfl dX11_init_124 ?_
    refine ca_v (wr := [(h0, .inr (14, [.ref q1, .int 0, .ref q9, .ref q18, .ref q27, .ref q42, .int 0, .int (-1), .ref q2, .null, .null, .ref q5])), (q1, .inl (cI, 4000, .inl (fun _ => 0))), (q2, .inr (7, [.ref q4, .int 0, .int 0])), (q4, .inl (cI, 64, .inl (fun _ => 0))), (q5, .inr (11, [.ref q7])), (q7, .inr (1, [.ref q8, .int 0, .int 0, .int 0])), (q8, .inl (cB, 16, .inl (fun _ => 0))), (q9, .inr (10, [.ref q11, .int 0, .ref q12, .int 0, .ref q13, .int 0, .ref q14, .ref q15, .ref q16, .int 0, .ref q17, .int 0, .int 0])), (q11, .inl (cI, 4000, .inl (fun _ => 0))), (q17, .inl (cI, N, .inl (fun _ => 0))), (q18, .inr (10, [.ref q20, .int 0, .ref q21, .int 0, .ref q22, .int 0, .ref q23, .ref q24, .ref q25, .int 0, .ref q26, .int 0, .int 0])), (q20, .inl (cI, 4000, .inl (fun _ => 0))), (q26, .inl (cI, N, .inl (fun _ => 0))), (q27, .inr (8, [.ref q9, .ref q29, .ref q30, .ref q31, .int 0, .int 0, .int 0])), (q29, .inr (12, [.ref q9, .ref q32, .ref q33, .ref q34, .int 0, .int 0, .int 0, .int 0, .int 0, .int 0])), (q32, .inl (cI, 1503, .inl (fun _ => 0))), (q33, .inl (cI, 1503, .inl (fun _ => 0))), (q34, .inl (cI, 1503, .inl (fun _ => 0))), (q30, .inr (5, [.ref q9, .ref q35, .int 0, .int 0, .int 0, .int 0, .ref q36, .int 0, .ref q37, .ref q38, .ref q39, .int 0])), (q31, .inr (6, [.ref q29, .ref q30, .ref q40, .ref q41, .int 0])), (q42, .inr (4, [.ref q9, .int (4 * (nI N)), .ref q44, .int 0, .int 0, .int 0, .int 0, .int 0, .int 0]))]) (rn_I (n := 2) (As := [.int (nI N), .ref q2]) (rest := [.ref q45, .ref h0]) hx hb hml hown ht hKK hFx hP hD hS hA (c_X6_init l dC dI cI cB cZ cJ cR tb H.size q45 N q2 (by omega) (by omega)) tw_136 tw_137 tw_138 tw_139 rfl (by decide +kernel) rfl rfl ⟨Nat.le_of_ble_eq_true rfl, Nat.le_of_ble_eq_true rfl⟩ [21] rfl (by decide) rfl hl.1 rfl (Nat.le_of_ble_eq_true rfl) dX11_init_127 ⟨Nat.le_of_ble_eq_true rfl, Nat.le_of_ble_eq_true rfl⟩) hP hD hS hA (isC := [21]) (isR := [0, 1, 2, 3, 4, 5, 6, 7, 8, 9, 10, 11, 12, 13, 14, 15, 16, 17, 18, 19, 20]) rfl rfl (by decide) (by decide) (fun u H locs hw46 hP hD hS => ?_)
    obtain ⟨q47, q48, q49⟩ := u
    have hP : va_P (dC, dI) vwCl [(h0, .inr (14, [.ref q1, .int 0, .ref q9, .ref q18, .ref q27, .ref q42, .int 0, .int (-1), .ref q2, .null, .null, .ref q5])), (q1, .inl (cI, 4000, .inl (fun _ => 0))), (q2, .inr (7, [.ref q4, .int 0, .int 0])), (q4, .inl (cI, 64, .inl (fun _ => 0))), (q5, .inr (11, [.ref q7])), (q7, .inr (1, [.ref q8, .int 0, .int 0, .int 0])), (q8, .inl (cB, 16, .inl (fun _ => 0))), (q9, .inr (10, [.ref q11, .int 0, .ref q12, .int 0, .ref q13, .int 0, .ref q14, .ref q15, .ref q16, .int 0, .ref q17, .int 0, .int 0])), (q11, .inl (cI, 4000, .inl (fun _ => 0))), (q17, .inl (cI, N, .inl (fun _ => 0))), (q18, .inr (10, [.ref q20, .int 0, .ref q21, .int 0, .ref q22, .int 0, .ref q23, .ref q24, .ref q25, .int 0, .ref q26, .int 0, .int 0])), (q20, .inl (cI, 4000, .inl (fun _ => 0))), (q26, .inl (cI, N, .inl (fun _ => 0))), (q27, .inr (8, [.ref q9, .ref q29, .ref q30, .ref q31, .int 0, .int 0, .int 0])), (q29, .inr (12, [.ref q9, .ref q32, .ref q33, .ref q34, .int 0, .int 0, .int 0, .int 0, .int 0, .int 0])), (q32, .inl (cI, 1503, .inl (fun _ => 0))), (q33, .inl (cI, 1503, .inl (fun _ => 0))), (q34, .inl (cI, 1503, .inl (fun _ => 0))), (q30, .inr (5, [.ref q9, .ref q35, .int 0, .int 0, .int 0, .int 0, .ref q36, .int 0, .ref q37, .ref q38, .ref q39, .int 0])), (q31, .inr (6, [.ref q29, .ref q30, .ref q40, .ref q41, .int 0])), (q42, .inr (4, [.ref q9, .int (4 * (nI N)), .ref q44, .int 0, .int 0, .int 0, .int 0, .int 0, .int 0])), (q45, .inr (9, [.ref q47, .ref q48, .int 0, .int 0, .int 0, .int 0, .ref q49, .int 0, .ref q2])), (q48, .inl (cI, 32, .inl (fun _ => 0))), (q49, .inl (cI, 200, .inl (fun _ => 0))), (q47, .inl (cI, N, .inl (fun _ => 0)))] H := hP
    have hD : va_D A [(h0, .inr (14, [.ref q1, .int 0, .ref q9, .ref q18, .ref q27, .ref q42, .int 0, .int (-1), .ref q2, .null, .null, .ref q5])), (q1, .inl (cI, 4000, .inl (fun _ => 0))), (q2, .inr (7, [.ref q4, .int 0, .int 0])), (q4, .inl (cI, 64, .inl (fun _ => 0))), (q5, .inr (11, [.ref q7])), (q7, .inr (1, [.ref q8, .int 0, .int 0, .int 0])), (q8, .inl (cB, 16, .inl (fun _ => 0))), (q9, .inr (10, [.ref q11, .int 0, .ref q12, .int 0, .ref q13, .int 0, .ref q14, .ref q15, .ref q16, .int 0, .ref q17, .int 0, .int 0])), (q11, .inl (cI, 4000, .inl (fun _ => 0))), (q17, .inl (cI, N, .inl (fun _ => 0))), (q18, .inr (10, [.ref q20, .int 0, .ref q21, .int 0, .ref q22, .int 0, .ref q23, .ref q24, .ref q25, .int 0, .ref q26, .int 0, .int 0])), (q20, .inl (cI, 4000, .inl (fun _ => 0))), (q26, .inl (cI, N, .inl (fun _ => 0))), (q27, .inr (8, [.ref q9, .ref q29, .ref q30, .ref q31, .int 0, .int 0, .int 0])), (q29, .inr (12, [.ref q9, .ref q32, .ref q33, .ref q34, .int 0, .int 0, .int 0, .int 0, .int 0, .int 0])), (q32, .inl (cI, 1503, .inl (fun _ => 0))), (q33, .inl (cI, 1503, .inl (fun _ => 0))), (q34, .inl (cI, 1503, .inl (fun _ => 0))), (q30, .inr (5, [.ref q9, .ref q35, .int 0, .int 0, .int 0, .int 0, .ref q36, .int 0, .ref q37, .ref q38, .ref q39, .int 0])), (q31, .inr (6, [.ref q29, .ref q30, .ref q40, .ref q41, .int 0])), (q42, .inr (4, [.ref q9, .int (4 * (nI N)), .ref q44, .int 0, .int 0, .int 0, .int 0, .int 0, .int 0])), (q45, .inr (9, [.ref q47, .ref q48, .int 0, .int 0, .int 0, .int 0, .ref q49, .int 0, .ref q2])), (q48, .inl (cI, 32, .inl (fun _ => 0))), (q49, .inl (cI, 200, .inl (fun _ => 0))), (q47, .inl (cI, N, .inl (fun _ => 0)))] := hD
    refine W.widen (k := 242) (n := 55875) (by omega) (by omega) ?_
    refine va_putF (D := (dC, dI)) (ci := 14) (v := .ref q45) (ty := .object "PocketCompiler$Processor") (C := RX11) (T := TX11) (N := 12) hx hb ht itX11 tyX11 tyX11_ok nmX11 hown hK hP hD hS 0 rfl rfl 9 (by decide) (ht _ tw_140) (fun _ h9 => h9) rfl hin rfl (by decide +kernel) rfl rfl (Nat.le_of_ble_eq_true rfl) dX11_init_130 (fun H locs hP hD hS => ?_)
    have hP : va_P (dC, dI) vwCl [(h0, .inr (14, [.ref q1, .int 0, .ref q9, .ref q18, .ref q27, .ref q42, .int 0, .int (-1), .ref q2, .ref q45, .null, .ref q5])), (q1, .inl (cI, 4000, .inl (fun _ => 0))), (q2, .inr (7, [.ref q4, .int 0, .int 0])), (q4, .inl (cI, 64, .inl (fun _ => 0))), (q5, .inr (11, [.ref q7])), (q7, .inr (1, [.ref q8, .int 0, .int 0, .int 0])), (q8, .inl (cB, 16, .inl (fun _ => 0))), (q9, .inr (10, [.ref q11, .int 0, .ref q12, .int 0, .ref q13, .int 0, .ref q14, .ref q15, .ref q16, .int 0, .ref q17, .int 0, .int 0])), (q11, .inl (cI, 4000, .inl (fun _ => 0))), (q17, .inl (cI, N, .inl (fun _ => 0))), (q18, .inr (10, [.ref q20, .int 0, .ref q21, .int 0, .ref q22, .int 0, .ref q23, .ref q24, .ref q25, .int 0, .ref q26, .int 0, .int 0])), (q20, .inl (cI, 4000, .inl (fun _ => 0))), (q26, .inl (cI, N, .inl (fun _ => 0))), (q27, .inr (8, [.ref q9, .ref q29, .ref q30, .ref q31, .int 0, .int 0, .int 0])), (q29, .inr (12, [.ref q9, .ref q32, .ref q33, .ref q34, .int 0, .int 0, .int 0, .int 0, .int 0, .int 0])), (q32, .inl (cI, 1503, .inl (fun _ => 0))), (q33, .inl (cI, 1503, .inl (fun _ => 0))), (q34, .inl (cI, 1503, .inl (fun _ => 0))), (q30, .inr (5, [.ref q9, .ref q35, .int 0, .int 0, .int 0, .int 0, .ref q36, .int 0, .ref q37, .ref q38, .ref q39, .int 0])), (q31, .inr (6, [.ref q29, .ref q30, .ref q40, .ref q41, .int 0])), (q42, .inr (4, [.ref q9, .int (4 * (nI N)), .ref q44, .int 0, .int 0, .int 0, .int 0, .int 0, .int 0])), (q45, .inr (9, [.ref q47, .ref q48, .int 0, .int 0, .int 0, .int 0, .ref q49, .int 0, .ref q2])), (q48, .inl (cI, 32, .inl (fun _ => 0))), (q49, .inl (cI, 200, .inl (fun _ => 0))), (q47, .inl (cI, N, .inl (fun _ => 0)))] H := hP
    have hD : va_D A [(h0, .inr (14, [.ref q1, .int 0, .ref q9, .ref q18, .ref q27, .ref q42, .int 0, .int (-1), .ref q2, .ref q45, .null, .ref q5])), (q1, .inl (cI, 4000, .inl (fun _ => 0))), (q2, .inr (7, [.ref q4, .int 0, .int 0])), (q4, .inl (cI, 64, .inl (fun _ => 0))), (q5, .inr (11, [.ref q7])), (q7, .inr (1, [.ref q8, .int 0, .int 0, .int 0])), (q8, .inl (cB, 16, .inl (fun _ => 0))), (q9, .inr (10, [.ref q11, .int 0, .ref q12, .int 0, .ref q13, .int 0, .ref q14, .ref q15, .ref q16, .int 0, .ref q17, .int 0, .int 0])), (q11, .inl (cI, 4000, .inl (fun _ => 0))), (q17, .inl (cI, N, .inl (fun _ => 0))), (q18, .inr (10, [.ref q20, .int 0, .ref q21, .int 0, .ref q22, .int 0, .ref q23, .ref q24, .ref q25, .int 0, .ref q26, .int 0, .int 0])), (q20, .inl (cI, 4000, .inl (fun _ => 0))), (q26, .inl (cI, N, .inl (fun _ => 0))), (q27, .inr (8, [.ref q9, .ref q29, .ref q30, .ref q31, .int 0, .int 0, .int 0])), (q29, .inr (12, [.ref q9, .ref q32, .ref q33, .ref q34, .int 0, .int 0, .int 0, .int 0, .int 0, .int 0])), (q32, .inl (cI, 1503, .inl (fun _ => 0))), (q33, .inl (cI, 1503, .inl (fun _ => 0))), (q34, .inl (cI, 1503, .inl (fun _ => 0))), (q30, .inr (5, [.ref q9, .ref q35, .int 0, .int 0, .int 0, .int 0, .ref q36, .int 0, .ref q37, .ref q38, .ref q39, .int 0])), (q31, .inr (6, [.ref q29, .ref q30, .ref q40, .ref q41, .int 0])), (q42, .inr (4, [.ref q9, .int (4 * (nI N)), .ref q44, .int 0, .int 0, .int 0, .int 0, .int 0, .int 0])), (q45, .inr (9, [.ref q47, .ref q48, .int 0, .int 0, .int 0, .int 0, .ref q49, .int 0, .ref q2])), (q48, .inl (cI, 32, .inl (fun _ => 0))), (q49, .inl (cI, 200, .inl (fun _ => 0))), (q47, .inl (cI, N, .inl (fun _ => 0)))] := hD
    refine lv_aload_n hx hb dX11_init_133 rfl (lv_at hl 1 rfl) ?_
    refine va_new (ci := 13) (fs := [.null, .null, .int 0, .null, .null, .null, .int 0, .int 0, .int 0, .int 0, .int 0, .int 0, .int 0, .int 0, .int 0, .int 0, .int 0]) (C := RX10) (T := TX10) (N := 17) hx hb ht itX10 tyX10 tyX10_ok hown (ht _ tw_141) (ht _ tw_142) (ht _ tw_143) hK hP hD hS hA rfl (by decide +kernel) (Nat.le_of_ble_eq_true rfl) (Nat.le_of_ble_eq_true rfl) dX11_init_134 (fun q50 H hP hD hS => ?_)
    have hP : va_P (dC, dI) vwCl [(h0, .inr (14, [.ref q1, .int 0, .ref q9, .ref q18, .ref q27, .ref q42, .int 0, .int (-1), .ref q2, .ref q45, .null, .ref q5])), (q1, .inl (cI, 4000, .inl (fun _ => 0))), (q2, .inr (7, [.ref q4, .int 0, .int 0])), (q4, .inl (cI, 64, .inl (fun _ => 0))), (q5, .inr (11, [.ref q7])), (q7, .inr (1, [.ref q8, .int 0, .int 0, .int 0])), (q8, .inl (cB, 16, .inl (fun _ => 0))), (q9, .inr (10, [.ref q11, .int 0, .ref q12, .int 0, .ref q13, .int 0, .ref q14, .ref q15, .ref q16, .int 0, .ref q17, .int 0, .int 0])), (q11, .inl (cI, 4000, .inl (fun _ => 0))), (q17, .inl (cI, N, .inl (fun _ => 0))), (q18, .inr (10, [.ref q20, .int 0, .ref q21, .int 0, .ref q22, .int 0, .ref q23, .ref q24, .ref q25, .int 0, .ref q26, .int 0, .int 0])), (q20, .inl (cI, 4000, .inl (fun _ => 0))), (q26, .inl (cI, N, .inl (fun _ => 0))), (q27, .inr (8, [.ref q9, .ref q29, .ref q30, .ref q31, .int 0, .int 0, .int 0])), (q29, .inr (12, [.ref q9, .ref q32, .ref q33, .ref q34, .int 0, .int 0, .int 0, .int 0, .int 0, .int 0])), (q32, .inl (cI, 1503, .inl (fun _ => 0))), (q33, .inl (cI, 1503, .inl (fun _ => 0))), (q34, .inl (cI, 1503, .inl (fun _ => 0))), (q30, .inr (5, [.ref q9, .ref q35, .int 0, .int 0, .int 0, .int 0, .ref q36, .int 0, .ref q37, .ref q38, .ref q39, .int 0])), (q31, .inr (6, [.ref q29, .ref q30, .ref q40, .ref q41, .int 0])), (q42, .inr (4, [.ref q9, .int (4 * (nI N)), .ref q44, .int 0, .int 0, .int 0, .int 0, .int 0, .int 0])), (q45, .inr (9, [.ref q47, .ref q48, .int 0, .int 0, .int 0, .int 0, .ref q49, .int 0, .ref q2])), (q48, .inl (cI, 32, .inl (fun _ => 0))), (q49, .inl (cI, 200, .inl (fun _ => 0))), (q47, .inl (cI, N, .inl (fun _ => 0))), (q50, .inr (13, [.null, .null, .int 0, .null, .null, .null, .int 0, .int 0, .int 0, .int 0, .int 0, .int 0, .int 0, .int 0, .int 0, .int 0, .int 0]))] H := hP
    have hD : va_D A [(h0, .inr (14, [.ref q1, .int 0, .ref q9, .ref q18, .ref q27, .ref q42, .int 0, .int (-1), .ref q2, .ref q45, .null, .ref q5])), (q1, .inl (cI, 4000, .inl (fun _ => 0))), (q2, .inr (7, [.ref q4, .int 0, .int 0])), (q4, .inl (cI, 64, .inl (fun _ => 0))), (q5, .inr (11, [.ref q7])), (q7, .inr (1, [.ref q8, .int 0, .int 0, .int 0])), (q8, .inl (cB, 16, .inl (fun _ => 0))), (q9, .inr (10, [.ref q11, .int 0, .ref q12, .int 0, .ref q13, .int 0, .ref q14, .ref q15, .ref q16, .int 0, .ref q17, .int 0, .int 0])), (q11, .inl (cI, 4000, .inl (fun _ => 0))), (q17, .inl (cI, N, .inl (fun _ => 0))), (q18, .inr (10, [.ref q20, .int 0, .ref q21, .int 0, .ref q22, .int 0, .ref q23, .ref q24, .ref q25, .int 0, .ref q26, .int 0, .int 0])), (q20, .inl (cI, 4000, .inl (fun _ => 0))), (q26, .inl (cI, N, .inl (fun _ => 0))), (q27, .inr (8, [.ref q9, .ref q29, .ref q30, .ref q31, .int 0, .int 0, .int 0])), (q29, .inr (12, [.ref q9, .ref q32, .ref q33, .ref q34, .int 0, .int 0, .int 0, .int 0, .int 0, .int 0])), (q32, .inl (cI, 1503, .inl (fun _ => 0))), (q33, .inl (cI, 1503, .inl (fun _ => 0))), (q34, .inl (cI, 1503, .inl (fun _ => 0))), (q30, .inr (5, [.ref q9, .ref q35, .int 0, .int 0, .int 0, .int 0, .ref q36, .int 0, .ref q37, .ref q38, .ref q39, .int 0])), (q31, .inr (6, [.ref q29, .ref q30, .ref q40, .ref q41, .int 0])), (q42, .inr (4, [.ref q9, .int (4 * (nI N)), .ref q44, .int 0, .int 0, .int 0, .int 0, .int 0, .int 0])), (q45, .inr (9, [.ref q47, .ref q48, .int 0, .int 0, .int 0, .int 0, .ref q49, .int 0, .ref q2])), (q48, .inl (cI, 32, .inl (fun _ => 0))), (q49, .inl (cI, 200, .inl (fun _ => 0))), (q47, .inl (cI, N, .inl (fun _ => 0))), (q50, .inr (13, [.null, .null, .int 0, .null, .null, .null, .int 0, .int 0, .int 0, .int 0, .int 0, .int 0, .int 0, .int 0, .int 0, .int 0, .int 0]))] := hD
    refine W.widen (k := 243) (n := 55892) (by omega) (by omega) ?_
    refine lv_dup hx hb dX11_init_137 rfl ?_
    refine lv_aload_n hx hb dX11_init_138 rfl (lv_at hl 1 rfl) ?_
    refine va_get (D := (dC, dI)) (ci := 14) (v := .ref q9) (C := RX11) (T := TX11) (N := 12) hx hb ht itX11 hown hK hP 0 rfl rfl 2 (by decide) (ht _ tw_110) (fun _ h9 => h9) rfl dX11_init_139 ?_
    refine lv_iload_n hx hb dX11_init_142 rfl (lv_at hl 0 rfl) ?_
    refine lv_aload_n hx hb dX11_init_143 rfl (lv_at hl 1 rfl) ?_
    refine va_get (D := (dC, dI)) (ci := 14) (v := .ref q2) (C := RX11) (T := TX11) (N := 12) hx hb ht itX11 hown hK hP 0 rfl rfl 8 (by decide) (ht _ tw_95) (fun _ h9 => h9) rfl dX11_init_144 ?_
    refine ca_v (wr := [(h0, .inr (14, [.ref q1, .int 0, .ref q9, .ref q18, .ref q27, .ref q42, .int 0, .int (-1), .ref q2, .ref q45, .null, .ref q5])), (q1, .inl (cI, 4000, .inl (fun _ => 0))), (q2, .inr (7, [.ref q4, .int 0, .int 0])), (q4, .inl (cI, 64, .inl (fun _ => 0))), (q5, .inr (11, [.ref q7])), (q7, .inr (1, [.ref q8, .int 0, .int 0, .int 0])), (q8, .inl (cB, 16, .inl (fun _ => 0))), (q9, .inr (10, [.ref q11, .int 0, .ref q12, .int 0, .ref q13, .int 0, .ref q14, .ref q15, .ref q16, .int 0, .ref q17, .int 0, .int 0])), (q11, .inl (cI, 4000, .inl (fun _ => 0))), (q17, .inl (cI, N, .inl (fun _ => 0))), (q18, .inr (10, [.ref q20, .int 0, .ref q21, .int 0, .ref q22, .int 0, .ref q23, .ref q24, .ref q25, .int 0, .ref q26, .int 0, .int 0])), (q20, .inl (cI, 4000, .inl (fun _ => 0))), (q26, .inl (cI, N, .inl (fun _ => 0))), (q27, .inr (8, [.ref q9, .ref q29, .ref q30, .ref q31, .int 0, .int 0, .int 0])), (q29, .inr (12, [.ref q9, .ref q32, .ref q33, .ref q34, .int 0, .int 0, .int 0, .int 0, .int 0, .int 0])), (q32, .inl (cI, 1503, .inl (fun _ => 0))), (q33, .inl (cI, 1503, .inl (fun _ => 0))), (q34, .inl (cI, 1503, .inl (fun _ => 0))), (q30, .inr (5, [.ref q9, .ref q35, .int 0, .int 0, .int 0, .int 0, .ref q36, .int 0, .ref q37, .ref q38, .ref q39, .int 0])), (q31, .inr (6, [.ref q29, .ref q30, .ref q40, .ref q41, .int 0])), (q42, .inr (4, [.ref q9, .int (4 * (nI N)), .ref q44, .int 0, .int 0, .int 0, .int 0, .int 0, .int 0])), (q45, .inr (9, [.ref q47, .ref q48, .int 0, .int 0, .int 0, .int 0, .ref q49, .int 0, .ref q2])), (q48, .inl (cI, 32, .inl (fun _ => 0))), (q49, .inl (cI, 200, .inl (fun _ => 0))), (q47, .inl (cI, N, .inl (fun _ => 0)))]) (rn_I (n := 3) (As := [.ref q9, .int (nI N), .ref q2]) (rest := [.ref q50, .ref h0]) hx hb hml hown ht hKK hFx hP hD hS hA (c_X10_init l dC dI cI cB cZ cJ cR tb H.size q50 q9 N q2 (by omega) (by omega)) tw_144 tw_145 tw_146 tw_147 rfl (by decide +kernel) rfl rfl ⟨Nat.le_of_ble_eq_true rfl, Nat.le_of_ble_eq_true rfl⟩ [25] rfl (by decide) rfl hl.1 rfl (Nat.le_of_ble_eq_true rfl) dX11_init_147 ⟨Nat.le_of_ble_eq_true rfl, Nat.le_of_ble_eq_true rfl⟩) hP hD hS hA (isC := [25]) (isR := [0, 1, 2, 3, 4, 5, 6, 7, 8, 9, 10, 11, 12, 13, 14, 15, 16, 17, 18, 19, 20, 21, 22, 23, 24]) rfl rfl (by decide) (by decide) (fun u H locs hw51 hP hD hS => ?_)
    obtain ⟨q52, q53, q54⟩ := u
    have hP : va_P (dC, dI) vwCl [(h0, .inr (14, [.ref q1, .int 0, .ref q9, .ref q18, .ref q27, .ref q42, .int 0, .int (-1), .ref q2, .ref q45, .null, .ref q5])), (q1, .inl (cI, 4000, .inl (fun _ => 0))), (q2, .inr (7, [.ref q4, .int 0, .int 0])), (q4, .inl (cI, 64, .inl (fun _ => 0))), (q5, .inr (11, [.ref q7])), (q7, .inr (1, [.ref q8, .int 0, .int 0, .int 0])), (q8, .inl (cB, 16, .inl (fun _ => 0))), (q9, .inr (10, [.ref q11, .int 0, .ref q12, .int 0, .ref q13, .int 0, .ref q14, .ref q15, .ref q16, .int 0, .ref q17, .int 0, .int 0])), (q11, .inl (cI, 4000, .inl (fun _ => 0))), (q17, .inl (cI, N, .inl (fun _ => 0))), (q18, .inr (10, [.ref q20, .int 0, .ref q21, .int 0, .ref q22, .int 0, .ref q23, .ref q24, .ref q25, .int 0, .ref q26, .int 0, .int 0])), (q20, .inl (cI, 4000, .inl (fun _ => 0))), (q26, .inl (cI, N, .inl (fun _ => 0))), (q27, .inr (8, [.ref q9, .ref q29, .ref q30, .ref q31, .int 0, .int 0, .int 0])), (q29, .inr (12, [.ref q9, .ref q32, .ref q33, .ref q34, .int 0, .int 0, .int 0, .int 0, .int 0, .int 0])), (q32, .inl (cI, 1503, .inl (fun _ => 0))), (q33, .inl (cI, 1503, .inl (fun _ => 0))), (q34, .inl (cI, 1503, .inl (fun _ => 0))), (q30, .inr (5, [.ref q9, .ref q35, .int 0, .int 0, .int 0, .int 0, .ref q36, .int 0, .ref q37, .ref q38, .ref q39, .int 0])), (q31, .inr (6, [.ref q29, .ref q30, .ref q40, .ref q41, .int 0])), (q42, .inr (4, [.ref q9, .int (4 * (nI N)), .ref q44, .int 0, .int 0, .int 0, .int 0, .int 0, .int 0])), (q45, .inr (9, [.ref q47, .ref q48, .int 0, .int 0, .int 0, .int 0, .ref q49, .int 0, .ref q2])), (q48, .inl (cI, 32, .inl (fun _ => 0))), (q49, .inl (cI, 200, .inl (fun _ => 0))), (q47, .inl (cI, N, .inl (fun _ => 0))), (q50, .inr (13, [.ref q9, .ref q2, .int (4 * (nI N)), .ref q52, .ref q53, .ref q54, .int 0, .int 0, .int 0, .int 0, .int 0, .int 0, .int 0, .int 0, .int 0, .int 0, .int 0]))] H := hP
    have hD : va_D A [(h0, .inr (14, [.ref q1, .int 0, .ref q9, .ref q18, .ref q27, .ref q42, .int 0, .int (-1), .ref q2, .ref q45, .null, .ref q5])), (q1, .inl (cI, 4000, .inl (fun _ => 0))), (q2, .inr (7, [.ref q4, .int 0, .int 0])), (q4, .inl (cI, 64, .inl (fun _ => 0))), (q5, .inr (11, [.ref q7])), (q7, .inr (1, [.ref q8, .int 0, .int 0, .int 0])), (q8, .inl (cB, 16, .inl (fun _ => 0))), (q9, .inr (10, [.ref q11, .int 0, .ref q12, .int 0, .ref q13, .int 0, .ref q14, .ref q15, .ref q16, .int 0, .ref q17, .int 0, .int 0])), (q11, .inl (cI, 4000, .inl (fun _ => 0))), (q17, .inl (cI, N, .inl (fun _ => 0))), (q18, .inr (10, [.ref q20, .int 0, .ref q21, .int 0, .ref q22, .int 0, .ref q23, .ref q24, .ref q25, .int 0, .ref q26, .int 0, .int 0])), (q20, .inl (cI, 4000, .inl (fun _ => 0))), (q26, .inl (cI, N, .inl (fun _ => 0))), (q27, .inr (8, [.ref q9, .ref q29, .ref q30, .ref q31, .int 0, .int 0, .int 0])), (q29, .inr (12, [.ref q9, .ref q32, .ref q33, .ref q34, .int 0, .int 0, .int 0, .int 0, .int 0, .int 0])), (q32, .inl (cI, 1503, .inl (fun _ => 0))), (q33, .inl (cI, 1503, .inl (fun _ => 0))), (q34, .inl (cI, 1503, .inl (fun _ => 0))), (q30, .inr (5, [.ref q9, .ref q35, .int 0, .int 0, .int 0, .int 0, .ref q36, .int 0, .ref q37, .ref q38, .ref q39, .int 0])), (q31, .inr (6, [.ref q29, .ref q30, .ref q40, .ref q41, .int 0])), (q42, .inr (4, [.ref q9, .int (4 * (nI N)), .ref q44, .int 0, .int 0, .int 0, .int 0, .int 0, .int 0])), (q45, .inr (9, [.ref q47, .ref q48, .int 0, .int 0, .int 0, .int 0, .ref q49, .int 0, .ref q2])), (q48, .inl (cI, 32, .inl (fun _ => 0))), (q49, .inl (cI, 200, .inl (fun _ => 0))), (q47, .inl (cI, N, .inl (fun _ => 0))), (q50, .inr (13, [.ref q9, .ref q2, .int (4 * (nI N)), .ref q52, .ref q53, .ref q54, .int 0, .int 0, .int 0, .int 0, .int 0, .int 0, .int 0, .int 0, .int 0, .int 0, .int 0]))] := hD
    refine W.widen (k := 246) (n := 64284) (by omega) (by omega) ?_
    refine va_putF (D := (dC, dI)) (ci := 14) (v := .ref q50) (ty := .object "PocketCompiler$Worker") (C := RX11) (T := TX11) (N := 12) hx hb ht itX11 tyX11 tyX11_ok nmX11 hown hK hP hD hS 0 rfl rfl 10 (by decide) (ht _ tw_148) (fun _ h9 => h9) rfl hin rfl (by decide +kernel) rfl rfl (Nat.le_of_ble_eq_true rfl) dX11_init_150 (fun H locs hP hD hS => ?_)
    have hP : va_P (dC, dI) vwCl [(h0, .inr (14, [.ref q1, .int 0, .ref q9, .ref q18, .ref q27, .ref q42, .int 0, .int (-1), .ref q2, .ref q45, .ref q50, .ref q5])), (q1, .inl (cI, 4000, .inl (fun _ => 0))), (q2, .inr (7, [.ref q4, .int 0, .int 0])), (q4, .inl (cI, 64, .inl (fun _ => 0))), (q5, .inr (11, [.ref q7])), (q7, .inr (1, [.ref q8, .int 0, .int 0, .int 0])), (q8, .inl (cB, 16, .inl (fun _ => 0))), (q9, .inr (10, [.ref q11, .int 0, .ref q12, .int 0, .ref q13, .int 0, .ref q14, .ref q15, .ref q16, .int 0, .ref q17, .int 0, .int 0])), (q11, .inl (cI, 4000, .inl (fun _ => 0))), (q17, .inl (cI, N, .inl (fun _ => 0))), (q18, .inr (10, [.ref q20, .int 0, .ref q21, .int 0, .ref q22, .int 0, .ref q23, .ref q24, .ref q25, .int 0, .ref q26, .int 0, .int 0])), (q20, .inl (cI, 4000, .inl (fun _ => 0))), (q26, .inl (cI, N, .inl (fun _ => 0))), (q27, .inr (8, [.ref q9, .ref q29, .ref q30, .ref q31, .int 0, .int 0, .int 0])), (q29, .inr (12, [.ref q9, .ref q32, .ref q33, .ref q34, .int 0, .int 0, .int 0, .int 0, .int 0, .int 0])), (q32, .inl (cI, 1503, .inl (fun _ => 0))), (q33, .inl (cI, 1503, .inl (fun _ => 0))), (q34, .inl (cI, 1503, .inl (fun _ => 0))), (q30, .inr (5, [.ref q9, .ref q35, .int 0, .int 0, .int 0, .int 0, .ref q36, .int 0, .ref q37, .ref q38, .ref q39, .int 0])), (q31, .inr (6, [.ref q29, .ref q30, .ref q40, .ref q41, .int 0])), (q42, .inr (4, [.ref q9, .int (4 * (nI N)), .ref q44, .int 0, .int 0, .int 0, .int 0, .int 0, .int 0])), (q45, .inr (9, [.ref q47, .ref q48, .int 0, .int 0, .int 0, .int 0, .ref q49, .int 0, .ref q2])), (q48, .inl (cI, 32, .inl (fun _ => 0))), (q49, .inl (cI, 200, .inl (fun _ => 0))), (q47, .inl (cI, N, .inl (fun _ => 0))), (q50, .inr (13, [.ref q9, .ref q2, .int (4 * (nI N)), .ref q52, .ref q53, .ref q54, .int 0, .int 0, .int 0, .int 0, .int 0, .int 0, .int 0, .int 0, .int 0, .int 0, .int 0]))] H := hP
    have hD : va_D A [(h0, .inr (14, [.ref q1, .int 0, .ref q9, .ref q18, .ref q27, .ref q42, .int 0, .int (-1), .ref q2, .ref q45, .ref q50, .ref q5])), (q1, .inl (cI, 4000, .inl (fun _ => 0))), (q2, .inr (7, [.ref q4, .int 0, .int 0])), (q4, .inl (cI, 64, .inl (fun _ => 0))), (q5, .inr (11, [.ref q7])), (q7, .inr (1, [.ref q8, .int 0, .int 0, .int 0])), (q8, .inl (cB, 16, .inl (fun _ => 0))), (q9, .inr (10, [.ref q11, .int 0, .ref q12, .int 0, .ref q13, .int 0, .ref q14, .ref q15, .ref q16, .int 0, .ref q17, .int 0, .int 0])), (q11, .inl (cI, 4000, .inl (fun _ => 0))), (q17, .inl (cI, N, .inl (fun _ => 0))), (q18, .inr (10, [.ref q20, .int 0, .ref q21, .int 0, .ref q22, .int 0, .ref q23, .ref q24, .ref q25, .int 0, .ref q26, .int 0, .int 0])), (q20, .inl (cI, 4000, .inl (fun _ => 0))), (q26, .inl (cI, N, .inl (fun _ => 0))), (q27, .inr (8, [.ref q9, .ref q29, .ref q30, .ref q31, .int 0, .int 0, .int 0])), (q29, .inr (12, [.ref q9, .ref q32, .ref q33, .ref q34, .int 0, .int 0, .int 0, .int 0, .int 0, .int 0])), (q32, .inl (cI, 1503, .inl (fun _ => 0))), (q33, .inl (cI, 1503, .inl (fun _ => 0))), (q34, .inl (cI, 1503, .inl (fun _ => 0))), (q30, .inr (5, [.ref q9, .ref q35, .int 0, .int 0, .int 0, .int 0, .ref q36, .int 0, .ref q37, .ref q38, .ref q39, .int 0])), (q31, .inr (6, [.ref q29, .ref q30, .ref q40, .ref q41, .int 0])), (q42, .inr (4, [.ref q9, .int (4 * (nI N)), .ref q44, .int 0, .int 0, .int 0, .int 0, .int 0, .int 0])), (q45, .inr (9, [.ref q47, .ref q48, .int 0, .int 0, .int 0, .int 0, .ref q49, .int 0, .ref q2])), (q48, .inl (cI, 32, .inl (fun _ => 0))), (q49, .inl (cI, 200, .inl (fun _ => 0))), (q47, .inl (cI, N, .inl (fun _ => 0))), (q50, .inr (13, [.ref q9, .ref q2, .int (4 * (nI N)), .ref q52, .ref q53, .ref q54, .int 0, .int 0, .int 0, .int 0, .int 0, .int 0, .int 0, .int 0, .int 0, .int 0, .int 0]))] := hD
    refine lv_aload_n hx hb dX11_init_153 rfl (lv_at hl 1 rfl) ?_
    refine va_get (D := (dC, dI)) (ci := 14) (v := .ref q27) (C := RX11) (T := TX11) (N := 12) hx hb ht itX11 hown hK hP 0 rfl rfl 4 (by decide) (ht _ tw_119) (fun _ h9 => h9) rfl dX11_init_154 ?_
    refine lv_aload_n hx hb dX11_init_157 rfl (lv_at hl 1 rfl) ?_
    refine va_get (D := (dC, dI)) (ci := 14) (v := .ref q9) (C := RX11) (T := TX11) (N := 12) hx hb ht itX11 hown hK hP 0 rfl rfl 2 (by decide) (ht _ tw_110) (fun _ h9 => h9) rfl dX11_init_158 ?_
    refine ca_v (wr := [(h0, .inr (14, [.ref q1, .int 0, .ref q9, .ref q18, .ref q27, .ref q42, .int 0, .int (-1), .ref q2, .ref q45, .ref q50, .ref q5])), (q1, .inl (cI, 4000, .inl (fun _ => 0))), (q2, .inr (7, [.ref q4, .int 0, .int 0])), (q4, .inl (cI, 64, .inl (fun _ => 0))), (q5, .inr (11, [.ref q7])), (q7, .inr (1, [.ref q8, .int 0, .int 0, .int 0])), (q8, .inl (cB, 16, .inl (fun _ => 0))), (q11, .inl (cI, 4000, .inl (fun _ => 0))), (q17, .inl (cI, N, .inl (fun _ => 0))), (q18, .inr (10, [.ref q20, .int 0, .ref q21, .int 0, .ref q22, .int 0, .ref q23, .ref q24, .ref q25, .int 0, .ref q26, .int 0, .int 0])), (q20, .inl (cI, 4000, .inl (fun _ => 0))), (q26, .inl (cI, N, .inl (fun _ => 0))), (q42, .inr (4, [.ref q9, .int (4 * (nI N)), .ref q44, .int 0, .int 0, .int 0, .int 0, .int 0, .int 0])), (q45, .inr (9, [.ref q47, .ref q48, .int 0, .int 0, .int 0, .int 0, .ref q49, .int 0, .ref q2])), (q48, .inl (cI, 32, .inl (fun _ => 0))), (q49, .inl (cI, 200, .inl (fun _ => 0))), (q47, .inl (cI, N, .inl (fun _ => 0))), (q50, .inr (13, [.ref q9, .ref q2, .int (4 * (nI N)), .ref q52, .ref q53, .ref q54, .int 0, .int 0, .int 0, .int 0, .int 0, .int 0, .int 0, .int 0, .int 0, .int 0, .int 0]))]) (rn_V (n := 1) (As := [.ref q9]) (rest := []) hx hb hml hown ht hKK hFx hP hD hS hA (c_X5_readText l dC dI cI cB cZ cJ cR tb H.size q27 q9 q29 q30 q31 q11 q12 q13 q14 q15 q16 q17 q32 q33 q34 q35 q36 q37 q38 q39 q40 q41) tw_188 tw_189 (by decide +kernel) rfl rfl ⟨Nat.le_of_ble_eq_true rfl, Nat.le_of_ble_eq_true rfl⟩ [13, 7, 14, 15, 16, 17, 18, 19] rfl (by decide) rfl rfl rfl rfl hl.1 rfl (Nat.le_of_ble_eq_true rfl) dX11_init_161 ⟨Nat.le_of_ble_eq_true rfl, Nat.le_of_ble_eq_true rfl⟩) hP hD hS hA (isC := [13, 7, 14, 15, 16, 17, 18, 19]) (isR := [0, 1, 2, 3, 4, 5, 6, 8, 9, 10, 11, 12, 20, 21, 22, 23, 24, 25]) rfl rfl (by decide) (by decide) (fun u H locs hw55 hP hD hS => ?_)
    have hP : va_P (dC, dI) vwCl [(h0, .inr (14, [.ref q1, .int 0, .ref q9, .ref q18, .ref q27, .ref q42, .int 0, .int (-1), .ref q2, .ref q45, .ref q50, .ref q5])), (q1, .inl (cI, 4000, .inl (fun _ => 0))), (q2, .inr (7, [.ref q4, .int 0, .int 0])), (q4, .inl (cI, 64, .inl (fun _ => 0))), (q5, .inr (11, [.ref q7])), (q7, .inr (1, [.ref q8, .int 0, .int 0, .int 0])), (q8, .inl (cB, 16, .inl (fun _ => 0))), (q11, .inl (cI, 4000, .inl (fun _ => 0))), (q17, .inl (cI, N, .inl (fun _ => 0))), (q18, .inr (10, [.ref q20, .int 0, .ref q21, .int 0, .ref q22, .int 0, .ref q23, .ref q24, .ref q25, .int 0, .ref q26, .int 0, .int 0])), (q20, .inl (cI, 4000, .inl (fun _ => 0))), (q26, .inl (cI, N, .inl (fun _ => 0))), (q42, .inr (4, [.ref q9, .int (4 * (nI N)), .ref q44, .int 0, .int 0, .int 0, .int 0, .int 0, .int 0])), (q45, .inr (9, [.ref q47, .ref q48, .int 0, .int 0, .int 0, .int 0, .ref q49, .int 0, .ref q2])), (q48, .inl (cI, 32, .inl (fun _ => 0))), (q49, .inl (cI, 200, .inl (fun _ => 0))), (q47, .inl (cI, N, .inl (fun _ => 0))), (q50, .inr (13, [.ref q9, .ref q2, .int (4 * (nI N)), .ref q52, .ref q53, .ref q54, .int 0, .int 0, .int 0, .int 0, .int 0, .int 0, .int 0, .int 0, .int 0, .int 0, .int 0])), (q27, .inr (8, [.ref q9, .ref q29, .ref q30, .ref q31, .int 0, .int 0, .int 0])), (q9, .inr (10, [.ref q11, .int 0, .ref q12, .int 0, .ref q13, .int 0, .ref q14, .ref q15, .ref q16, .int 0, .ref q17, .int 0, .int 0])), (q29, .inr (12, [.ref q9, .ref q32, .ref q33, .ref q34, .int 1, .int 0, .int 0, .int (-1), .int 0, .int (-1)])), (q32, .inl (cI, 1503, .inl (upd (fun _ => 0) 0 0))), (q33, .inl (cI, 1503, .inl (upd (fun _ => 0) 0 0))), (q34, .inl (cI, 1503, .inl (upd (fun _ => 0) 0 0))), (q30, .inr (5, [.ref q9, .ref q35, .int 0, .int 0, .int 0, .int 0, .ref q36, .int 0, .ref q37, .ref q38, .ref q39, .int 0])), (q31, .inr (6, [.ref q29, .ref q30, .ref q40, .ref q41, .int 0]))] H := hP
    have hD : va_D A [(h0, .inr (14, [.ref q1, .int 0, .ref q9, .ref q18, .ref q27, .ref q42, .int 0, .int (-1), .ref q2, .ref q45, .ref q50, .ref q5])), (q1, .inl (cI, 4000, .inl (fun _ => 0))), (q2, .inr (7, [.ref q4, .int 0, .int 0])), (q4, .inl (cI, 64, .inl (fun _ => 0))), (q5, .inr (11, [.ref q7])), (q7, .inr (1, [.ref q8, .int 0, .int 0, .int 0])), (q8, .inl (cB, 16, .inl (fun _ => 0))), (q11, .inl (cI, 4000, .inl (fun _ => 0))), (q17, .inl (cI, N, .inl (fun _ => 0))), (q18, .inr (10, [.ref q20, .int 0, .ref q21, .int 0, .ref q22, .int 0, .ref q23, .ref q24, .ref q25, .int 0, .ref q26, .int 0, .int 0])), (q20, .inl (cI, 4000, .inl (fun _ => 0))), (q26, .inl (cI, N, .inl (fun _ => 0))), (q42, .inr (4, [.ref q9, .int (4 * (nI N)), .ref q44, .int 0, .int 0, .int 0, .int 0, .int 0, .int 0])), (q45, .inr (9, [.ref q47, .ref q48, .int 0, .int 0, .int 0, .int 0, .ref q49, .int 0, .ref q2])), (q48, .inl (cI, 32, .inl (fun _ => 0))), (q49, .inl (cI, 200, .inl (fun _ => 0))), (q47, .inl (cI, N, .inl (fun _ => 0))), (q50, .inr (13, [.ref q9, .ref q2, .int (4 * (nI N)), .ref q52, .ref q53, .ref q54, .int 0, .int 0, .int 0, .int 0, .int 0, .int 0, .int 0, .int 0, .int 0, .int 0, .int 0])), (q27, .inr (8, [.ref q9, .ref q29, .ref q30, .ref q31, .int 0, .int 0, .int 0])), (q9, .inr (10, [.ref q11, .int 0, .ref q12, .int 0, .ref q13, .int 0, .ref q14, .ref q15, .ref q16, .int 0, .ref q17, .int 0, .int 0])), (q29, .inr (12, [.ref q9, .ref q32, .ref q33, .ref q34, .int 1, .int 0, .int 0, .int (-1), .int 0, .int (-1)])), (q32, .inl (cI, 1503, .inl (upd (fun _ => 0) 0 0))), (q33, .inl (cI, 1503, .inl (upd (fun _ => 0) 0 0))), (q34, .inl (cI, 1503, .inl (upd (fun _ => 0) 0 0))), (q30, .inr (5, [.ref q9, .ref q35, .int 0, .int 0, .int 0, .int 0, .ref q36, .int 0, .ref q37, .ref q38, .ref q39, .int 0])), (q31, .inr (6, [.ref q29, .ref q30, .ref q40, .ref q41, .int 0]))] := hD
    refine W.widen (k := 246) (n := 64284) (by omega) (by omega) ?_
    refine lv_aload_n hx hb dX11_init_164 rfl (lv_at hl 1 rfl) ?_
    refine va_get (D := (dC, dI)) (ci := 14) (v := .ref q42) (C := RX11) (T := TX11) (N := 12) hx hb ht itX11 hown hK hP 0 rfl rfl 5 (by decide) (ht _ tw_127) (fun _ h9 => h9) rfl dX11_init_165 ?_
    refine lv_aload_n hx hb dX11_init_168 rfl (lv_at hl 1 rfl) ?_
    refine va_get (D := (dC, dI)) (ci := 14) (v := .ref q9) (C := RX11) (T := TX11) (N := 12) hx hb ht itX11 hown hK hP 0 rfl rfl 2 (by decide) (ht _ tw_110) (fun _ h9 => h9) rfl dX11_init_169 ?_
    refine ca_i (wr := [(h0, .inr (14, [.ref q1, .int 0, .ref q9, .ref q18, .ref q27, .ref q42, .int 0, .int (-1), .ref q2, .ref q45, .ref q50, .ref q5])), (q1, .inl (cI, 4000, .inl (fun _ => 0))), (q2, .inr (7, [.ref q4, .int 0, .int 0])), (q4, .inl (cI, 64, .inl (fun _ => 0))), (q5, .inr (11, [.ref q7])), (q7, .inr (1, [.ref q8, .int 0, .int 0, .int 0])), (q8, .inl (cB, 16, .inl (fun _ => 0))), (q11, .inl (cI, 4000, .inl (fun _ => 0))), (q18, .inr (10, [.ref q20, .int 0, .ref q21, .int 0, .ref q22, .int 0, .ref q23, .ref q24, .ref q25, .int 0, .ref q26, .int 0, .int 0])), (q20, .inl (cI, 4000, .inl (fun _ => 0))), (q26, .inl (cI, N, .inl (fun _ => 0))), (q45, .inr (9, [.ref q47, .ref q48, .int 0, .int 0, .int 0, .int 0, .ref q49, .int 0, .ref q2])), (q48, .inl (cI, 32, .inl (fun _ => 0))), (q49, .inl (cI, 200, .inl (fun _ => 0))), (q47, .inl (cI, N, .inl (fun _ => 0))), (q50, .inr (13, [.ref q9, .ref q2, .int (4 * (nI N)), .ref q52, .ref q53, .ref q54, .int 0, .int 0, .int 0, .int 0, .int 0, .int 0, .int 0, .int 0, .int 0, .int 0, .int 0])), (q27, .inr (8, [.ref q9, .ref q29, .ref q30, .ref q31, .int 0, .int 0, .int 0])), (q29, .inr (12, [.ref q9, .ref q32, .ref q33, .ref q34, .int 1, .int 0, .int 0, .int (-1), .int 0, .int (-1)])), (q32, .inl (cI, 1503, .inl (upd (fun _ => 0) 0 0))), (q33, .inl (cI, 1503, .inl (upd (fun _ => 0) 0 0))), (q34, .inl (cI, 1503, .inl (upd (fun _ => 0) 0 0))), (q30, .inr (5, [.ref q9, .ref q35, .int 0, .int 0, .int 0, .int 0, .ref q36, .int 0, .ref q37, .ref q38, .ref q39, .int 0])), (q31, .inr (6, [.ref q29, .ref q30, .ref q40, .ref q41, .int 0]))]) (rn_V (n := 1) (As := [.ref q9]) (rest := []) hx hb hml hown ht hKK hFx hP hD hS hA (c_X0_assemble l dC dI cI cB cZ cJ cR tb H.size q42 q9 N q44 q17 q11 q12 q13 q14 q15 q16 (by omega) (by omega)) tw_210 tw_211 (by decide +kernel) rfl rfl ⟨Nat.le_of_ble_eq_true rfl, Nat.le_of_ble_eq_true rfl⟩ [12, 8, 19] rfl (by decide) rfl rfl rfl rfl hl.1 rfl (Nat.le_of_ble_eq_true rfl) dX11_init_172 ⟨Nat.le_of_ble_eq_true rfl, Nat.le_of_ble_eq_true rfl⟩) hP hD hS hA (isC := [12, 8, 19]) (isR := [0, 1, 2, 3, 4, 5, 6, 7, 9, 10, 11, 13, 14, 15, 16, 17, 18, 20, 21, 22, 23, 24, 25]) rfl rfl (by decide) (by decide) (fun r57 u H locs hw56 hP hD hS => ?_)
    subst hw56
    have hP : va_P (dC, dI) vwCl [(h0, .inr (14, [.ref q1, .int 0, .ref q9, .ref q18, .ref q27, .ref q42, .int 0, .int (-1), .ref q2, .ref q45, .ref q50, .ref q5])), (q1, .inl (cI, 4000, .inl (fun _ => 0))), (q2, .inr (7, [.ref q4, .int 0, .int 0])), (q4, .inl (cI, 64, .inl (fun _ => 0))), (q5, .inr (11, [.ref q7])), (q7, .inr (1, [.ref q8, .int 0, .int 0, .int 0])), (q8, .inl (cB, 16, .inl (fun _ => 0))), (q11, .inl (cI, 4000, .inl (fun _ => 0))), (q18, .inr (10, [.ref q20, .int 0, .ref q21, .int 0, .ref q22, .int 0, .ref q23, .ref q24, .ref q25, .int 0, .ref q26, .int 0, .int 0])), (q20, .inl (cI, 4000, .inl (fun _ => 0))), (q26, .inl (cI, N, .inl (fun _ => 0))), (q45, .inr (9, [.ref q47, .ref q48, .int 0, .int 0, .int 0, .int 0, .ref q49, .int 0, .ref q2])), (q48, .inl (cI, 32, .inl (fun _ => 0))), (q49, .inl (cI, 200, .inl (fun _ => 0))), (q47, .inl (cI, N, .inl (fun _ => 0))), (q50, .inr (13, [.ref q9, .ref q2, .int (4 * (nI N)), .ref q52, .ref q53, .ref q54, .int 0, .int 0, .int 0, .int 0, .int 0, .int 0, .int 0, .int 0, .int 0, .int 0, .int 0])), (q27, .inr (8, [.ref q9, .ref q29, .ref q30, .ref q31, .int 0, .int 0, .int 0])), (q29, .inr (12, [.ref q9, .ref q32, .ref q33, .ref q34, .int 1, .int 0, .int 0, .int (-1), .int 0, .int (-1)])), (q32, .inl (cI, 1503, .inl (upd (fun _ => 0) 0 0))), (q33, .inl (cI, 1503, .inl (upd (fun _ => 0) 0 0))), (q34, .inl (cI, 1503, .inl (upd (fun _ => 0) 0 0))), (q30, .inr (5, [.ref q9, .ref q35, .int 0, .int 0, .int 0, .int 0, .ref q36, .int 0, .ref q37, .ref q38, .ref q39, .int 0])), (q31, .inr (6, [.ref q29, .ref q30, .ref q40, .ref q41, .int 0])), (q42, .inr (4, [.ref q9, .int (4 * (nI N)), .ref q44, .int 2, .int 1, .int 0, .int 0, .int 8, .int 8])), (q17, .inl (cI, N, .inl (upd (upd (fun _ => 0) 0 2195) 1 1048691))), (q9, .inr (10, [.ref q11, .int 0, .ref q12, .int 0, .ref q13, .int 0, .ref q14, .ref q15, .ref q16, .int 0, .ref q17, .int 2, .int 8]))] H := hP
    have hD : va_D A [(h0, .inr (14, [.ref q1, .int 0, .ref q9, .ref q18, .ref q27, .ref q42, .int 0, .int (-1), .ref q2, .ref q45, .ref q50, .ref q5])), (q1, .inl (cI, 4000, .inl (fun _ => 0))), (q2, .inr (7, [.ref q4, .int 0, .int 0])), (q4, .inl (cI, 64, .inl (fun _ => 0))), (q5, .inr (11, [.ref q7])), (q7, .inr (1, [.ref q8, .int 0, .int 0, .int 0])), (q8, .inl (cB, 16, .inl (fun _ => 0))), (q11, .inl (cI, 4000, .inl (fun _ => 0))), (q18, .inr (10, [.ref q20, .int 0, .ref q21, .int 0, .ref q22, .int 0, .ref q23, .ref q24, .ref q25, .int 0, .ref q26, .int 0, .int 0])), (q20, .inl (cI, 4000, .inl (fun _ => 0))), (q26, .inl (cI, N, .inl (fun _ => 0))), (q45, .inr (9, [.ref q47, .ref q48, .int 0, .int 0, .int 0, .int 0, .ref q49, .int 0, .ref q2])), (q48, .inl (cI, 32, .inl (fun _ => 0))), (q49, .inl (cI, 200, .inl (fun _ => 0))), (q47, .inl (cI, N, .inl (fun _ => 0))), (q50, .inr (13, [.ref q9, .ref q2, .int (4 * (nI N)), .ref q52, .ref q53, .ref q54, .int 0, .int 0, .int 0, .int 0, .int 0, .int 0, .int 0, .int 0, .int 0, .int 0, .int 0])), (q27, .inr (8, [.ref q9, .ref q29, .ref q30, .ref q31, .int 0, .int 0, .int 0])), (q29, .inr (12, [.ref q9, .ref q32, .ref q33, .ref q34, .int 1, .int 0, .int 0, .int (-1), .int 0, .int (-1)])), (q32, .inl (cI, 1503, .inl (upd (fun _ => 0) 0 0))), (q33, .inl (cI, 1503, .inl (upd (fun _ => 0) 0 0))), (q34, .inl (cI, 1503, .inl (upd (fun _ => 0) 0 0))), (q30, .inr (5, [.ref q9, .ref q35, .int 0, .int 0, .int 0, .int 0, .ref q36, .int 0, .ref q37, .ref q38, .ref q39, .int 0])), (q31, .inr (6, [.ref q29, .ref q30, .ref q40, .ref q41, .int 0])), (q42, .inr (4, [.ref q9, .int (4 * (nI N)), .ref q44, .int 2, .int 1, .int 0, .int 0, .int 8, .int 8])), (q17, .inl (cI, N, .inl (upd (upd (fun _ => 0) 0 2195) 1 1048691))), (q9, .inr (10, [.ref q11, .int 0, .ref q12, .int 0, .ref q13, .int 0, .ref q14, .ref q15, .ref q16, .int 0, .ref q17, .int 2, .int 8]))] := hD
    refine W.widen (k := 246) (n := 64284) (by omega) (by omega) ?_
    refine lv_pop hx hb dX11_init_175 rfl ?_
    have hP9 := hP.sub (ws' := [(h0, .inr (14, [.ref q1, .int 0, .ref q9, .ref q18, .ref q27, .ref q42, .int 0, .int (-1), .ref q2, .ref q45, .ref q50, .ref q5])), (q1, .inl (cI, 4000, .inl (fun _ => 0))), (q2, .inr (7, [.ref q4, .int 0, .int 0])), (q4, .inl (cI, 64, .inl (fun _ => 0))), (q5, .inr (11, [.ref q7])), (q7, .inr (1, [.ref q8, .int 0, .int 0, .int 0])), (q8, .inl (cB, 16, .inl (fun _ => 0))), (q11, .inl (cI, 4000, .inl (fun _ => 0))), (q18, .inr (10, [.ref q20, .int 0, .ref q21, .int 0, .ref q22, .int 0, .ref q23, .ref q24, .ref q25, .int 0, .ref q26, .int 0, .int 0])), (q20, .inl (cI, 4000, .inl (fun _ => 0))), (q26, .inl (cI, N, .inl (fun _ => 0))), (q45, .inr (9, [.ref q47, .ref q48, .int 0, .int 0, .int 0, .int 0, .ref q49, .int 0, .ref q2])), (q48, .inl (cI, 32, .inl (fun _ => 0))), (q49, .inl (cI, 200, .inl (fun _ => 0))), (q47, .inl (cI, N, .inl (fun _ => 0))), (q50, .inr (13, [.ref q9, .ref q2, .int (4 * (nI N)), .ref q52, .ref q53, .ref q54, .int 0, .int 0, .int 0, .int 0, .int 0, .int 0, .int 0, .int 0, .int 0, .int 0, .int 0])), (q27, .inr (8, [.ref q9, .ref q29, .ref q30, .ref q31, .int 0, .int 0, .int 0])), (q29, .inr (12, [.ref q9, .ref q32, .ref q33, .ref q34, .int 1, .int 0, .int 0, .int (-1), .int 0, .int (-1)])), (q32, .inl (cI, 1503, .inl (upd (fun _ => 0) 0 0))), (q33, .inl (cI, 1503, .inl (upd (fun _ => 0) 0 0))), (q34, .inl (cI, 1503, .inl (upd (fun _ => 0) 0 0))), (q30, .inr (5, [.ref q9, .ref q35, .int 0, .int 0, .int 0, .int 0, .ref q36, .int 0, .ref q37, .ref q38, .ref q39, .int 0])), (q31, .inr (6, [.ref q29, .ref q30, .ref q40, .ref q41, .int 0])), (q42, .inr (4, [.ref q9, .int (4 * (nI N)), .ref q44, .int 2, .int 1, .int 0, .int 0, .int 8, .int 8])), (q17, .inl (cI, N, .inl (upd (upd (fun _ => 0) 0 2195) 1 1048691))), (q9, .inr (10, [.ref q11, .int 0, .ref q12, .int 0, .ref q13, .int 0, .ref q14, .ref q15, .ref q16, .int 0, .ref q17, .int 2, .int 8]))]) [0, 1, 2, 3, 4, 5, 6, 7, 8, 9, 10, 11, 12, 13, 14, 15, 16, 17, 18, 19, 20, 21, 22, 23, 24, 25] rfl
    have hD9 := hD.sub (ws' := [(h0, .inr (14, [.ref q1, .int 0, .ref q9, .ref q18, .ref q27, .ref q42, .int 0, .int (-1), .ref q2, .ref q45, .ref q50, .ref q5])), (q1, .inl (cI, 4000, .inl (fun _ => 0))), (q2, .inr (7, [.ref q4, .int 0, .int 0])), (q4, .inl (cI, 64, .inl (fun _ => 0))), (q5, .inr (11, [.ref q7])), (q7, .inr (1, [.ref q8, .int 0, .int 0, .int 0])), (q8, .inl (cB, 16, .inl (fun _ => 0))), (q11, .inl (cI, 4000, .inl (fun _ => 0))), (q18, .inr (10, [.ref q20, .int 0, .ref q21, .int 0, .ref q22, .int 0, .ref q23, .ref q24, .ref q25, .int 0, .ref q26, .int 0, .int 0])), (q20, .inl (cI, 4000, .inl (fun _ => 0))), (q26, .inl (cI, N, .inl (fun _ => 0))), (q45, .inr (9, [.ref q47, .ref q48, .int 0, .int 0, .int 0, .int 0, .ref q49, .int 0, .ref q2])), (q48, .inl (cI, 32, .inl (fun _ => 0))), (q49, .inl (cI, 200, .inl (fun _ => 0))), (q47, .inl (cI, N, .inl (fun _ => 0))), (q50, .inr (13, [.ref q9, .ref q2, .int (4 * (nI N)), .ref q52, .ref q53, .ref q54, .int 0, .int 0, .int 0, .int 0, .int 0, .int 0, .int 0, .int 0, .int 0, .int 0, .int 0])), (q27, .inr (8, [.ref q9, .ref q29, .ref q30, .ref q31, .int 0, .int 0, .int 0])), (q29, .inr (12, [.ref q9, .ref q32, .ref q33, .ref q34, .int 1, .int 0, .int 0, .int (-1), .int 0, .int (-1)])), (q32, .inl (cI, 1503, .inl (upd (fun _ => 0) 0 0))), (q33, .inl (cI, 1503, .inl (upd (fun _ => 0) 0 0))), (q34, .inl (cI, 1503, .inl (upd (fun _ => 0) 0 0))), (q30, .inr (5, [.ref q9, .ref q35, .int 0, .int 0, .int 0, .int 0, .ref q36, .int 0, .ref q37, .ref q38, .ref q39, .int 0])), (q31, .inr (6, [.ref q29, .ref q30, .ref q40, .ref q41, .int 0])), (q42, .inr (4, [.ref q9, .int (4 * (nI N)), .ref q44, .int 2, .int 1, .int 0, .int 0, .int 8, .int 8])), (q17, .inl (cI, N, .inl (upd (upd (fun _ => 0) 0 2195) 1 1048691))), (q9, .inr (10, [.ref q11, .int 0, .ref q12, .int 0, .ref q13, .int 0, .ref q14, .ref q15, .ref q16, .int 0, .ref q17, .int 2, .int 8]))]) [0, 1, 2, 3, 4, 5, 6, 7, 8, 9, 10, 11, 12, 13, 14, 15, 16, 17, 18, 19, 20, 21, 22, 23, 24, 25] (by decide) rfl
    refine W.widen (k := 246) (n := 64284) (by omega) (by omega) ?_
    exact W.vret hx hb hr (fun t ht9 hW => ⟨⟨(q1, q9, q18, q27, q42, q2, q45, q50, q5, q4, q7, q8, q11, q20, q21, q22, q23, q24, q25, q26, q47, q48, q49, q52, q53, q54, q29, q30, q31, q32, q33, q34, q35, q36, q37, q38, q39, q40, q41, q44, q17, q12, q13, q14, q15, q16), rfl, trivial, by rw [ht9]; exact hP9, hD9⟩, hS.F ht9⟩) hS.2.2 dX11_init_176
  · refine lv_iload_n hx hb dX11_init_40 rfl (lv_at hl 1 rfl) ?_
    refine lv_sipush (v := 256) hx hb dX11_init_41 (by decide) ?_
    refine lv_icmp_lt (tgt := 58) hx hb dX11_init_44 (by decide) (fun h58 => ?_) (fun h58 => ?_)
    · refine lv_sipush (v := 1024) hx hb dX11_init_58 (by decide) ?_
      refine lv_istore_n (lv' := [(2, .int 1024), (0, .ref h0), (1, .int w)]) hx hb dX11_init_61 rfl hl (by decide) rfl (fun ls hl => ?_)
      exact key ls (by rw [hNw, szB h58]; exact hl)
    · refine lv_iload_n hx hb dX11_init_47 rfl (lv_at hl 1 rfl) ?_
      refine lv_sipush (v := 4096) hx hb dX11_init_48 (by decide) ?_
      refine lv_icmp_gt (tgt := 58) hx hb dX11_init_51 (by decide) (fun h59 => ?_) (fun h59 => ?_)
      · refine lv_sipush (v := 1024) hx hb dX11_init_58 (by decide) ?_
        refine lv_istore_n (lv' := [(2, .int 1024), (0, .ref h0), (1, .int w)]) hx hb dX11_init_61 rfl hl (by decide) rfl (fun ls hl => ?_)
        exact key ls (by rw [hNw, szC h58 h59]; exact hl)
      · refine lv_iload_n hx hb dX11_init_54 rfl (lv_at hl 1 rfl) ?_
        refine lv_goto (tgt := 61) hx hb dX11_init_55 (by decide) ?_
        refine lv_istore_n (lv' := [(2, .int w), (0, .ref h0), (1, .int w)]) hx hb dX11_init_61 rfl hl (by decide) rfl (fun ls hl => ?_)
        exact key ls (by rw [hNw, szA h58 h59]; exact hl)
