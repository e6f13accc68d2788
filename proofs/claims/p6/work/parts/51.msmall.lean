theorem dX13_byI_0 : decode cX13_byI 0 = .ok (.iload 4, 2) := by decide +kernel
theorem dX13_byI_2 : decode cX13_byI 2 = .ok (.bipush 20, 2) := by decide +kernel
theorem dX13_byI_4 : decode cX13_byI 4 = .ok (.ishl, 1) := by decide +kernel
theorem dX13_byI_5 : decode cX13_byI 5 = .ok (.iload_n 3, 1) := by decide +kernel
theorem dX13_byI_6 : decode cX13_byI 6 = .ok (.bipush 15, 2) := by decide +kernel
theorem dX13_byI_8 : decode cX13_byI 8 = .ok (.ishl, 1) := by decide +kernel
theorem dX13_byI_9 : decode cX13_byI 9 = .ok (.ior, 1) := by decide +kernel
theorem dX13_byI_10 : decode cX13_byI 10 = .ok (.iload_n 1, 1) := by decide +kernel
theorem dX13_byI_11 : decode cX13_byI 11 = .ok (.bipush 12, 2) := by decide +kernel
theorem dX13_byI_13 : decode cX13_byI 13 = .ok (.ishl, 1) := by decide +kernel
theorem dX13_byI_14 : decode cX13_byI 14 = .ok (.ior, 1) := by decide +kernel
theorem dX13_byI_15 : decode cX13_byI 15 = .ok (.iload_n 2, 1) := by decide +kernel
theorem dX13_byI_16 : decode cX13_byI 16 = .ok (.bipush 7, 2) := by decide +kernel
theorem dX13_byI_18 : decode cX13_byI 18 = .ok (.ishl, 1) := by decide +kernel
theorem dX13_byI_19 : decode cX13_byI 19 = .ok (.ior, 1) := by decide +kernel
theorem dX13_byI_20 : decode cX13_byI 20 = .ok (.iload_n 0, 1) := by decide +kernel
theorem dX13_byI_21 : decode cX13_byI 21 = .ok (.ior, 1) := by decide +kernel
theorem dX13_byI_22 : decode cX13_byI 22 = .ok (.ireturn, 1) := by decide +kernel
theorem dX13_byR_0 : decode cX13_byR 0 = .ok (.iload_n 0, 1) := by decide +kernel
theorem dX13_byR_1 : decode cX13_byR 1 = .ok (.bipush 25, 2) := by decide +kernel
theorem dX13_byR_3 : decode cX13_byR 3 = .ok (.ishl, 1) := by decide +kernel
theorem dX13_byR_4 : decode cX13_byR 4 = .ok (.iload 4, 2) := by decide +kernel
theorem dX13_byR_6 : decode cX13_byR 6 = .ok (.bipush 20, 2) := by decide +kernel
theorem dX13_byR_8 : decode cX13_byR 8 = .ok (.ishl, 1) := by decide +kernel
theorem dX13_byR_9 : decode cX13_byR 9 = .ok (.ior, 1) := by decide +kernel
theorem dX13_byR_10 : decode cX13_byR 10 = .ok (.iload_n 3, 1) := by decide +kernel
theorem dX13_byR_11 : decode cX13_byR 11 = .ok (.bipush 15, 2) := by decide +kernel
theorem dX13_byR_13 : decode cX13_byR 13 = .ok (.ishl, 1) := by decide +kernel
theorem dX13_byR_14 : decode cX13_byR 14 = .ok (.ior, 1) := by decide +kernel
theorem dX13_byR_15 : decode cX13_byR 15 = .ok (.iload_n 1, 1) := by decide +kernel
theorem dX13_byR_16 : decode cX13_byR 16 = .ok (.bipush 12, 2) := by decide +kernel
theorem dX13_byR_18 : decode cX13_byR 18 = .ok (.ishl, 1) := by decide +kernel
theorem dX13_byR_19 : decode cX13_byR 19 = .ok (.ior, 1) := by decide +kernel
theorem dX13_byR_20 : decode cX13_byR 20 = .ok (.iload_n 2, 1) := by decide +kernel
theorem dX13_byR_21 : decode cX13_byR 21 = .ok (.bipush 7, 2) := by decide +kernel
theorem dX13_byR_23 : decode cX13_byR 23 = .ok (.ishl, 1) := by decide +kernel
theorem dX13_byR_24 : decode cX13_byR 24 = .ok (.ior, 1) := by decide +kernel
theorem dX13_byR_25 : decode cX13_byR 25 = .ok (.bipush 51, 2) := by decide +kernel
theorem dX13_byR_27 : decode cX13_byR 27 = .ok (.ior, 1) := by decide +kernel
theorem dX13_byR_28 : decode cX13_byR 28 = .ok (.ireturn, 1) := by decide +kernel
theorem dX13_byB_0 : decode cX13_byB 0 = .ok (.iload_n 3, 1) := by decide +kernel
theorem dX13_byB_1 : decode cX13_byB 1 = .ok (.bipush 12, 2) := by decide +kernel
theorem dX13_byB_3 : decode cX13_byB 3 = .ok (.ishr, 1) := by decide +kernel
theorem dX13_byB_4 : decode cX13_byB 4 = .ok (.iconst 1, 1) := by decide +kernel
theorem dX13_byB_5 : decode cX13_byB 5 = .ok (.iand, 1) := by decide +kernel
theorem dX13_byB_6 : decode cX13_byB 6 = .ok (.bipush 31, 2) := by decide +kernel
theorem dX13_byB_8 : decode cX13_byB 8 = .ok (.ishl, 1) := by decide +kernel
theorem dX13_byB_9 : decode cX13_byB 9 = .ok (.iload_n 3, 1) := by decide +kernel
theorem dX13_byB_10 : decode cX13_byB 10 = .ok (.iconst 5, 1) := by decide +kernel
theorem dX13_byB_11 : decode cX13_byB 11 = .ok (.ishr, 1) := by decide +kernel
theorem dX13_byB_12 : decode cX13_byB 12 = .ok (.bipush 63, 2) := by decide +kernel
theorem dX13_byB_14 : decode cX13_byB 14 = .ok (.iand, 1) := by decide +kernel
theorem dX13_byB_15 : decode cX13_byB 15 = .ok (.bipush 25, 2) := by decide +kernel
theorem dX13_byB_17 : decode cX13_byB 17 = .ok (.ishl, 1) := by decide +kernel
theorem dX13_byB_18 : decode cX13_byB 18 = .ok (.ior, 1) := by decide +kernel
theorem dX13_byB_19 : decode cX13_byB 19 = .ok (.iload_n 2, 1) := by decide +kernel
theorem dX13_byB_20 : decode cX13_byB 20 = .ok (.bipush 20, 2) := by decide +kernel
theorem dX13_byB_22 : decode cX13_byB 22 = .ok (.ishl, 1) := by decide +kernel
theorem dX13_byB_23 : decode cX13_byB 23 = .ok (.ior, 1) := by decide +kernel
theorem dX13_byB_24 : decode cX13_byB 24 = .ok (.iload_n 1, 1) := by decide +kernel
theorem dX13_byB_25 : decode cX13_byB 25 = .ok (.bipush 15, 2) := by decide +kernel
theorem dX13_byB_27 : decode cX13_byB 27 = .ok (.ishl, 1) := by decide +kernel
theorem dX13_byB_28 : decode cX13_byB 28 = .ok (.ior, 1) := by decide +kernel
theorem dX13_byB_29 : decode cX13_byB 29 = .ok (.iload_n 0, 1) := by decide +kernel
theorem dX13_byB_30 : decode cX13_byB 30 = .ok (.bipush 12, 2) := by decide +kernel
theorem dX13_byB_32 : decode cX13_byB 32 = .ok (.ishl, 1) := by decide +kernel
theorem dX13_byB_33 : decode cX13_byB 33 = .ok (.ior, 1) := by decide +kernel
theorem dX13_byB_34 : decode cX13_byB 34 = .ok (.iload_n 3, 1) := by decide +kernel
theorem dX13_byB_35 : decode cX13_byB 35 = .ok (.iconst 1, 1) := by decide +kernel
theorem dX13_byB_36 : decode cX13_byB 36 = .ok (.ishr, 1) := by decide +kernel
theorem dX13_byB_37 : decode cX13_byB 37 = .ok (.bipush 15, 2) := by decide +kernel
theorem dX13_byB_39 : decode cX13_byB 39 = .ok (.iand, 1) := by decide +kernel
theorem dX13_byB_40 : decode cX13_byB 40 = .ok (.bipush 8, 2) := by decide +kernel
theorem dX13_byB_42 : decode cX13_byB 42 = .ok (.ishl, 1) := by decide +kernel
theorem dX13_byB_43 : decode cX13_byB 43 = .ok (.ior, 1) := by decide +kernel
theorem dX13_byB_44 : decode cX13_byB 44 = .ok (.iload_n 3, 1) := by decide +kernel
theorem dX13_byB_45 : decode cX13_byB 45 = .ok (.bipush 11, 2) := by decide +kernel
theorem dX13_byB_47 : decode cX13_byB 47 = .ok (.ishr, 1) := by decide +kernel
theorem dX13_byB_48 : decode cX13_byB 48 = .ok (.iconst 1, 1) := by decide +kernel
theorem dX13_byB_49 : decode cX13_byB 49 = .ok (.iand, 1) := by decide +kernel
theorem dX13_byB_50 : decode cX13_byB 50 = .ok (.bipush 7, 2) := by decide +kernel
theorem dX13_byB_52 : decode cX13_byB 52 = .ok (.ishl, 1) := by decide +kernel
theorem dX13_byB_53 : decode cX13_byB 53 = .ok (.ior, 1) := by decide +kernel
theorem dX13_byB_54 : decode cX13_byB 54 = .ok (.bipush 99, 2) := by decide +kernel
theorem dX13_byB_56 : decode cX13_byB 56 = .ok (.ior, 1) := by decide +kernel
theorem dX13_byB_57 : decode cX13_byB 57 = .ok (.ireturn, 1) := by decide +kernel
theorem dX13_byJ_0 : decode cX13_byJ 0 = .ok (.iload_n 1, 1) := by decide +kernel
theorem dX13_byJ_1 : decode cX13_byJ 1 = .ok (.bipush 20, 2) := by decide +kernel
theorem dX13_byJ_3 : decode cX13_byJ 3 = .ok (.ishr, 1) := by decide +kernel
theorem dX13_byJ_4 : decode cX13_byJ 4 = .ok (.iconst 1, 1) := by decide +kernel
theorem dX13_byJ_5 : decode cX13_byJ 5 = .ok (.iand, 1) := by decide +kernel
theorem dX13_byJ_6 : decode cX13_byJ 6 = .ok (.bipush 31, 2) := by decide +kernel
theorem dX13_byJ_8 : decode cX13_byJ 8 = .ok (.ishl, 1) := by decide +kernel
theorem dX13_byJ_9 : decode cX13_byJ 9 = .ok (.iload_n 1, 1) := by decide +kernel
theorem dX13_byJ_10 : decode cX13_byJ 10 = .ok (.iconst 1, 1) := by decide +kernel
theorem dX13_byJ_11 : decode cX13_byJ 11 = .ok (.ishr, 1) := by decide +kernel
theorem dX13_byJ_12 : decode cX13_byJ 12 = .ok (.sipush 1023, 3) := by decide +kernel
theorem dX13_byJ_15 : decode cX13_byJ 15 = .ok (.iand, 1) := by decide +kernel
theorem dX13_byJ_16 : decode cX13_byJ 16 = .ok (.bipush 21, 2) := by decide +kernel
theorem dX13_byJ_18 : decode cX13_byJ 18 = .ok (.ishl, 1) := by decide +kernel
theorem dX13_byJ_19 : decode cX13_byJ 19 = .ok (.ior, 1) := by decide +kernel
theorem dX13_byJ_20 : decode cX13_byJ 20 = .ok (.iload_n 1, 1) := by decide +kernel
theorem dX13_byJ_21 : decode cX13_byJ 21 = .ok (.bipush 11, 2) := by decide +kernel
theorem dX13_byJ_23 : decode cX13_byJ 23 = .ok (.ishr, 1) := by decide +kernel
theorem dX13_byJ_24 : decode cX13_byJ 24 = .ok (.iconst 1, 1) := by decide +kernel
theorem dX13_byJ_25 : decode cX13_byJ 25 = .ok (.iand, 1) := by decide +kernel
theorem dX13_byJ_26 : decode cX13_byJ 26 = .ok (.bipush 20, 2) := by decide +kernel
theorem dX13_byJ_28 : decode cX13_byJ 28 = .ok (.ishl, 1) := by decide +kernel
theorem dX13_byJ_29 : decode cX13_byJ 29 = .ok (.ior, 1) := by decide +kernel
theorem dX13_byJ_30 : decode cX13_byJ 30 = .ok (.iload_n 1, 1) := by decide +kernel
theorem dX13_byJ_31 : decode cX13_byJ 31 = .ok (.bipush 12, 2) := by decide +kernel
theorem dX13_byJ_33 : decode cX13_byJ 33 = .ok (.ishr, 1) := by decide +kernel
theorem dX13_byJ_34 : decode cX13_byJ 34 = .ok (.sipush 255, 3) := by decide +kernel
theorem dX13_byJ_37 : decode cX13_byJ 37 = .ok (.iand, 1) := by decide +kernel
theorem dX13_byJ_38 : decode cX13_byJ 38 = .ok (.bipush 12, 2) := by decide +kernel
theorem dX13_byJ_40 : decode cX13_byJ 40 = .ok (.ishl, 1) := by decide +kernel
theorem dX13_byJ_41 : decode cX13_byJ 41 = .ok (.ior, 1) := by decide +kernel
theorem dX13_byJ_42 : decode cX13_byJ 42 = .ok (.iload_n 0, 1) := by decide +kernel
theorem dX13_byJ_43 : decode cX13_byJ 43 = .ok (.bipush 7, 2) := by decide +kernel
theorem dX13_byJ_45 : decode cX13_byJ 45 = .ok (.ishl, 1) := by decide +kernel
theorem dX13_byJ_46 : decode cX13_byJ 46 = .ok (.ior, 1) := by decide +kernel
theorem dX13_byJ_47 : decode cX13_byJ 47 = .ok (.bipush 111, 2) := by decide +kernel
theorem dX13_byJ_49 : decode cX13_byJ 49 = .ok (.ior, 1) := by decide +kernel
theorem dX13_byJ_50 : decode cX13_byJ 50 = .ok (.ireturn, 1) := by decide +kernel
theorem dX13_hi_0 : decode cX13_hi 0 = .ok (.iload_n 0, 1) := by decide +kernel
theorem dX13_hi_1 : decode cX13_hi 1 = .ok (.sipush 2048, 3) := by decide +kernel
theorem dX13_hi_4 : decode cX13_hi 4 = .ok (.iadd, 1) := by decide +kernel
theorem dX13_hi_5 : decode cX13_hi 5 = .ok (.bipush 12, 2) := by decide +kernel
theorem dX13_hi_7 : decode cX13_hi 7 = .ok (.iushr, 1) := by decide +kernel
theorem dX13_hi_8 : decode cX13_hi 8 = .ok (.ireturn, 1) := by decide +kernel
theorem dX13_lo_0 : decode cX13_lo 0 = .ok (.iload_n 0, 1) := by decide +kernel
theorem dX13_lo_1 : decode cX13_lo 1 = .ok (.iload_n 0, 1) := by decide +kernel
theorem dX13_lo_2 : decode cX13_lo 2 = .ok (.invokestatic 94, 3) := by decide +kernel
theorem tw_0 : (.code yX13_hi cX13_hi 1 (some .int) : Cond) ∈ tw_W := tw_in (t8_9 (List.mem_of_getElem? (i := 236) rfl)) rfl
theorem tw_1 : ∀ w ∈ ([.methodLink RX13 94 yX13_hi, .static yX13_hi, .initialized yX13_hi.cls] : List Cond), w ∈ tw_W := al_c (tw_in (t8_9 (List.mem_of_getElem? (i := 234) rfl)) rfl) (al_c (tw_in (t8_9 (List.mem_of_getElem? (i := 235) rfl)) rfl) (al_c (tw_in (t8_1 (List.mem_of_getElem? (i := 23) rfl)) rfl) al_n))
theorem dX13_lo_5 : decode cX13_lo 5 = .ok (.bipush 12, 2) := by decide +kernel
theorem dX13_lo_7 : decode cX13_lo 7 = .ok (.ishl, 1) := by decide +kernel
theorem dX13_lo_8 : decode cX13_lo 8 = .ok (.isub, 1) := by decide +kernel
theorem dX13_lo_9 : decode cX13_lo 9 = .ok (.ireturn, 1) := by decide +kernel
theorem dX13_addi_0 : decode cX13_addi 0 = .ok (.bipush 19, 2) := by decide +kernel
theorem dX13_addi_2 : decode cX13_addi 2 = .ok (.iconst 0, 1) := by decide +kernel
theorem dX13_addi_3 : decode cX13_addi 3 = .ok (.iload_n 0, 1) := by decide +kernel
theorem dX13_addi_4 : decode cX13_addi 4 = .ok (.iload_n 1, 1) := by decide +kernel
theorem dX13_addi_5 : decode cX13_addi 5 = .ok (.iload_n 2, 1) := by decide +kernel
theorem dX13_addi_6 : decode cX13_addi 6 = .ok (.invokestatic 97, 3) := by decide +kernel
theorem tw_2 : (.code yX13_byI cX13_byI 5 (some .int) : Cond) ∈ tw_W := tw_in (t8_9 (List.mem_of_getElem? (i := 123) rfl)) rfl
theorem tw_3 : ∀ w ∈ ([.methodLink RX13 97 yX13_byI, .static yX13_byI, .initialized yX13_byI.cls] : List Cond), w ∈ tw_W := al_c (tw_in (t8_9 (List.mem_of_getElem? (i := 121) rfl)) rfl) (al_c (tw_in (t8_9 (List.mem_of_getElem? (i := 122) rfl)) rfl) (al_c (tw_in (t8_1 (List.mem_of_getElem? (i := 23) rfl)) rfl) al_n))
theorem dX13_addi_9 : decode cX13_addi 9 = .ok (.ireturn, 1) := by decide +kernel
theorem dX13_lui_0 : decode cX13_lui 0 = .ok (.iload_n 1, 1) := by decide +kernel
theorem dX13_lui_1 : decode cX13_lui 1 = .ok (.bipush 12, 2) := by decide +kernel
theorem dX13_lui_3 : decode cX13_lui 3 = .ok (.ishl, 1) := by decide +kernel
theorem dX13_lui_4 : decode cX13_lui 4 = .ok (.iload_n 0, 1) := by decide +kernel
theorem dX13_lui_5 : decode cX13_lui 5 = .ok (.bipush 7, 2) := by decide +kernel
theorem dX13_lui_7 : decode cX13_lui 7 = .ok (.ishl, 1) := by decide +kernel
theorem dX13_lui_8 : decode cX13_lui 8 = .ok (.ior, 1) := by decide +kernel
theorem dX13_lui_9 : decode cX13_lui 9 = .ok (.bipush 55, 2) := by decide +kernel
theorem dX13_lui_11 : decode cX13_lui 11 = .ok (.ior, 1) := by decide +kernel
theorem dX13_lui_12 : decode cX13_lui 12 = .ok (.ireturn, 1) := by decide +kernel
theorem dX13_lw_0 : decode cX13_lw 0 = .ok (.iconst 3, 1) := by decide +kernel
theorem dX13_lw_1 : decode cX13_lw 1 = .ok (.iconst 2, 1) := by decide +kernel
theorem dX13_lw_2 : decode cX13_lw 2 = .ok (.iload_n 0, 1) := by decide +kernel
theorem dX13_lw_3 : decode cX13_lw 3 = .ok (.iload_n 2, 1) := by decide +kernel
theorem dX13_lw_4 : decode cX13_lw 4 = .ok (.iload_n 1, 1) := by decide +kernel
theorem dX13_lw_5 : decode cX13_lw 5 = .ok (.invokestatic 97, 3) := by decide +kernel
theorem dX13_lw_8 : decode cX13_lw 8 = .ok (.ireturn, 1) := by decide +kernel
theorem dX13_sw_0 : decode cX13_sw 0 = .ok (.iload_n 1, 1) := by decide +kernel
theorem dX13_sw_1 : decode cX13_sw 1 = .ok (.iconst 5, 1) := by decide +kernel
theorem dX13_sw_2 : decode cX13_sw 2 = .ok (.ishr, 1) := by decide +kernel
theorem dX13_sw_3 : decode cX13_sw 3 = .ok (.bipush 127, 2) := by decide +kernel
theorem dX13_sw_5 : decode cX13_sw 5 = .ok (.iand, 1) := by decide +kernel
theorem dX13_sw_6 : decode cX13_sw 6 = .ok (.bipush 25, 2) := by decide +kernel
theorem dX13_sw_8 : decode cX13_sw 8 = .ok (.ishl, 1) := by decide +kernel
theorem dX13_sw_9 : decode cX13_sw 9 = .ok (.iload_n 0, 1) := by decide +kernel
theorem dX13_sw_10 : decode cX13_sw 10 = .ok (.bipush 20, 2) := by decide +kernel
theorem dX13_sw_12 : decode cX13_sw 12 = .ok (.ishl, 1) := by decide +kernel
theorem dX13_sw_13 : decode cX13_sw 13 = .ok (.ior, 1) := by decide +kernel
theorem dX13_sw_14 : decode cX13_sw 14 = .ok (.iload_n 2, 1) := by decide +kernel
theorem dX13_sw_15 : decode cX13_sw 15 = .ok (.bipush 15, 2) := by decide +kernel
theorem dX13_sw_17 : decode cX13_sw 17 = .ok (.ishl, 1) := by decide +kernel
theorem dX13_sw_18 : decode cX13_sw 18 = .ok (.ior, 1) := by decide +kernel
theorem dX13_sw_19 : decode cX13_sw 19 = .ok (.sipush 8192, 3) := by decide +kernel
theorem dX13_sw_22 : decode cX13_sw 22 = .ok (.ior, 1) := by decide +kernel
theorem dX13_sw_23 : decode cX13_sw 23 = .ok (.iload_n 1, 1) := by decide +kernel
theorem dX13_sw_24 : decode cX13_sw 24 = .ok (.bipush 31, 2) := by decide +kernel
theorem dX13_sw_26 : decode cX13_sw 26 = .ok (.iand, 1) := by decide +kernel
theorem dX13_sw_27 : decode cX13_sw 27 = .ok (.bipush 7, 2) := by decide +kernel
theorem dX13_sw_29 : decode cX13_sw 29 = .ok (.ishl, 1) := by decide +kernel
theorem dX13_sw_30 : decode cX13_sw 30 = .ok (.ior, 1) := by decide +kernel
theorem dX13_sw_31 : decode cX13_sw 31 = .ok (.bipush 35, 2) := by decide +kernel
theorem dX13_sw_33 : decode cX13_sw 33 = .ok (.ior, 1) := by decide +kernel
theorem dX13_sw_34 : decode cX13_sw 34 = .ok (.ireturn, 1) := by decide +kernel
theorem dX13_slotAt_0 : decode cX13_slotAt 0 = .ok (.bipush (-12), 2) := by decide +kernel
theorem dX13_slotAt_2 : decode cX13_slotAt 2 = .ok (.iconst 4, 1) := by decide +kernel
theorem dX13_slotAt_3 : decode cX13_slotAt 3 = .ok (.iload_n 0, 1) := by decide +kernel
theorem dX13_slotAt_4 : decode cX13_slotAt 4 = .ok (.imul, 1) := by decide +kernel
theorem dX13_slotAt_5 : decode cX13_slotAt 5 = .ok (.isub, 1) := by decide +kernel
theorem dX13_slotAt_6 : decode cX13_slotAt 6 = .ok (.ireturn, 1) := by decide +kernel
theorem dX13_imJ_0 : decode cX13_imJ 0 = .ok (.iload_n 0, 1) := by decide +kernel
theorem dX13_imJ_1 : decode cX13_imJ 1 = .ok (.bipush 31, 2) := by decide +kernel
theorem dX13_imJ_3 : decode cX13_imJ 3 = .ok (.ishr, 1) := by decide +kernel
theorem dX13_imJ_4 : decode cX13_imJ 4 = .ok (.bipush 20, 2) := by decide +kernel
theorem dX13_imJ_6 : decode cX13_imJ 6 = .ok (.ishl, 1) := by decide +kernel
theorem dX13_imJ_7 : decode cX13_imJ 7 = .ok (.iload_n 0, 1) := by decide +kernel
theorem dX13_imJ_8 : decode cX13_imJ 8 = .ok (.bipush 12, 2) := by decide +kernel
theorem dX13_imJ_10 : decode cX13_imJ 10 = .ok (.ishr, 1) := by decide +kernel
theorem dX13_imJ_11 : decode cX13_imJ 11 = .ok (.sipush 255, 3) := by decide +kernel
theorem dX13_imJ_14 : decode cX13_imJ 14 = .ok (.iand, 1) := by decide +kernel
theorem dX13_imJ_15 : decode cX13_imJ 15 = .ok (.bipush 12, 2) := by decide +kernel
theorem dX13_imJ_17 : decode cX13_imJ 17 = .ok (.ishl, 1) := by decide +kernel
theorem dX13_imJ_18 : decode cX13_imJ 18 = .ok (.ior, 1) := by decide +kernel
theorem dX13_imJ_19 : decode cX13_imJ 19 = .ok (.iload_n 0, 1) := by decide +kernel
theorem dX13_imJ_20 : decode cX13_imJ 20 = .ok (.bipush 20, 2) := by decide +kernel
theorem dX13_imJ_22 : decode cX13_imJ 22 = .ok (.ishr, 1) := by decide +kernel
theorem dX13_imJ_23 : decode cX13_imJ 23 = .ok (.iconst 1, 1) := by decide +kernel
theorem dX13_imJ_24 : decode cX13_imJ 24 = .ok (.iand, 1) := by decide +kernel
theorem dX13_imJ_25 : decode cX13_imJ 25 = .ok (.bipush 11, 2) := by decide +kernel
theorem dX13_imJ_27 : decode cX13_imJ 27 = .ok (.ishl, 1) := by decide +kernel
theorem dX13_imJ_28 : decode cX13_imJ 28 = .ok (.ior, 1) := by decide +kernel
theorem dX13_imJ_29 : decode cX13_imJ 29 = .ok (.iload_n 0, 1) := by decide +kernel
theorem dX13_imJ_30 : decode cX13_imJ 30 = .ok (.bipush 21, 2) := by decide +kernel
theorem dX13_imJ_32 : decode cX13_imJ 32 = .ok (.ishr, 1) := by decide +kernel
theorem dX13_imJ_33 : decode cX13_imJ 33 = .ok (.sipush 1023, 3) := by decide +kernel
theorem dX13_imJ_36 : decode cX13_imJ 36 = .ok (.iand, 1) := by decide +kernel
theorem dX13_imJ_37 : decode cX13_imJ 37 = .ok (.iconst 1, 1) := by decide +kernel
theorem dX13_imJ_38 : decode cX13_imJ 38 = .ok (.ishl, 1) := by decide +kernel
theorem dX13_imJ_39 : decode cX13_imJ 39 = .ok (.ior, 1) := by decide +kernel
theorem dX13_imJ_40 : decode cX13_imJ 40 = .ok (.ireturn, 1) := by decide +kernel
theorem dX13_imB_0 : decode cX13_imB 0 = .ok (.iload_n 0, 1) := by decide +kernel
theorem dX13_imB_1 : decode cX13_imB 1 = .ok (.bipush 31, 2) := by decide +kernel
theorem dX13_imB_3 : decode cX13_imB 3 = .ok (.ishr, 1) := by decide +kernel
theorem dX13_imB_4 : decode cX13_imB 4 = .ok (.bipush 12, 2) := by decide +kernel
theorem dX13_imB_6 : decode cX13_imB 6 = .ok (.ishl, 1) := by decide +kernel
theorem dX13_imB_7 : decode cX13_imB 7 = .ok (.iload_n 0, 1) := by decide +kernel
theorem dX13_imB_8 : decode cX13_imB 8 = .ok (.bipush 7, 2) := by decide +kernel
theorem dX13_imB_10 : decode cX13_imB 10 = .ok (.ishr, 1) := by decide +kernel
theorem dX13_imB_11 : decode cX13_imB 11 = .ok (.iconst 1, 1) := by decide +kernel
theorem dX13_imB_12 : decode cX13_imB 12 = .ok (.iand, 1) := by decide +kernel
theorem dX13_imB_13 : decode cX13_imB 13 = .ok (.bipush 11, 2) := by decide +kernel
theorem dX13_imB_15 : decode cX13_imB 15 = .ok (.ishl, 1) := by decide +kernel
theorem dX13_imB_16 : decode cX13_imB 16 = .ok (.ior, 1) := by decide +kernel
theorem dX13_imB_17 : decode cX13_imB 17 = .ok (.iload_n 0, 1) := by decide +kernel
theorem dX13_imB_18 : decode cX13_imB 18 = .ok (.bipush 25, 2) := by decide +kernel
theorem dX13_imB_20 : decode cX13_imB 20 = .ok (.ishr, 1) := by decide +kernel
theorem dX13_imB_21 : decode cX13_imB 21 = .ok (.bipush 63, 2) := by decide +kernel
theorem dX13_imB_23 : decode cX13_imB 23 = .ok (.iand, 1) := by decide +kernel
theorem dX13_imB_24 : decode cX13_imB 24 = .ok (.iconst 5, 1) := by decide +kernel
theorem dX13_imB_25 : decode cX13_imB 25 = .ok (.ishl, 1) := by decide +kernel
theorem dX13_imB_26 : decode cX13_imB 26 = .ok (.ior, 1) := by decide +kernel
theorem dX13_imB_27 : decode cX13_imB 27 = .ok (.iload_n 0, 1) := by decide +kernel
theorem dX13_imB_28 : decode cX13_imB 28 = .ok (.bipush 8, 2) := by decide +kernel
theorem dX13_imB_30 : decode cX13_imB 30 = .ok (.ishr, 1) := by decide +kernel
theorem dX13_imB_31 : decode cX13_imB 31 = .ok (.bipush 15, 2) := by decide +kernel
theorem dX13_imB_33 : decode cX13_imB 33 = .ok (.iand, 1) := by decide +kernel
theorem dX13_imB_34 : decode cX13_imB 34 = .ok (.iconst 1, 1) := by decide +kernel
theorem dX13_imB_35 : decode cX13_imB 35 = .ok (.ishl, 1) := by decide +kernel
theorem dX13_imB_36 : decode cX13_imB 36 = .ok (.ior, 1) := by decide +kernel
theorem dX13_imB_37 : decode cX13_imB 37 = .ok (.ireturn, 1) := by decide +kernel
theorem dX13_isDigit_0 : decode cX13_isDigit 0 = .ok (.iload_n 0, 1) := by decide +kernel
theorem dX13_isDigit_1 : decode cX13_isDigit 1 = .ok (.bipush 48, 2) := by decide +kernel
theorem dX13_isDigit_3 : decode cX13_isDigit 3 = .ok (.if_icmp .lt 13, 3) := by decide +kernel
theorem dX13_isDigit_16 : decode cX13_isDigit 16 = .ok (.iconst 0, 1) := by decide +kernel
theorem dX13_isDigit_17 : decode cX13_isDigit 17 = .ok (.ireturn, 1) := by decide +kernel
theorem dX13_isDigit_6 : decode cX13_isDigit 6 = .ok (.iload_n 0, 1) := by decide +kernel
theorem dX13_isDigit_7 : decode cX13_isDigit 7 = .ok (.bipush 57, 2) := by decide +kernel
theorem dX13_isDigit_9 : decode cX13_isDigit 9 = .ok (.if_icmp .gt 7, 3) := by decide +kernel
theorem dX13_isDigit_12 : decode cX13_isDigit 12 = .ok (.iconst 1, 1) := by decide +kernel
theorem dX13_isDigit_13 : decode cX13_isDigit 13 = .ok (.goto 4, 3) := by decide +kernel
theorem dX13_isBlank_0 : decode cX13_isBlank 0 = .ok (.iload_n 0, 1) := by decide +kernel
theorem dX13_isBlank_1 : decode cX13_isBlank 1 = .ok (.bipush 9, 2) := by decide +kernel
theorem dX13_isBlank_3 : decode cX13_isBlank 3 = .ok (.if_icmp .eq 21, 3) := by decide +kernel
theorem dX13_isBlank_24 : decode cX13_isBlank 24 = .ok (.iconst 1, 1) := by decide +kernel
theorem dX13_isBlank_25 : decode cX13_isBlank 25 = .ok (.goto 4, 3) := by decide +kernel
theorem dX13_isBlank_29 : decode cX13_isBlank 29 = .ok (.ireturn, 1) := by decide +kernel
theorem dX13_isBlank_6 : decode cX13_isBlank 6 = .ok (.iload_n 0, 1) := by decide +kernel
theorem dX13_isBlank_7 : decode cX13_isBlank 7 = .ok (.bipush 10, 2) := by decide +kernel
theorem dX13_isBlank_9 : decode cX13_isBlank 9 = .ok (.if_icmp .eq 15, 3) := by decide +kernel
theorem dX13_isBlank_12 : decode cX13_isBlank 12 = .ok (.iload_n 0, 1) := by decide +kernel
theorem dX13_isBlank_13 : decode cX13_isBlank 13 = .ok (.bipush 13, 2) := by decide +kernel
theorem dX13_isBlank_15 : decode cX13_isBlank 15 = .ok (.if_icmp .eq 9, 3) := by decide +kernel
theorem dX13_isBlank_18 : decode cX13_isBlank 18 = .ok (.iload_n 0, 1) := by decide +kernel
theorem dX13_isBlank_19 : decode cX13_isBlank 19 = .ok (.bipush 32, 2) := by decide +kernel
theorem dX13_isBlank_21 : decode cX13_isBlank 21 = .ok (.if_icmp .ne 7, 3) := by decide +kernel
theorem dX13_isBlank_28 : decode cX13_isBlank 28 = .ok (.iconst 0, 1) := by decide +kernel
theorem dX13_isOfName_0 : decode cX13_isOfName 0 = .ok (.iload_n 0, 1) := by decide +kernel
theorem dX13_isOfName_1 : decode cX13_isOfName 1 = .ok (.bipush 97, 2) := by decide +kernel
theorem dX13_isOfName_3 : decode cX13_isOfName 3 = .ok (.if_icmp .lt 9, 3) := by decide +kernel
theorem dX13_isOfName_12 : decode cX13_isOfName 12 = .ok (.iload_n 0, 1) := by decide +kernel
theorem dX13_isOfName_13 : decode cX13_isOfName 13 = .ok (.bipush 65, 2) := by decide +kernel
theorem dX13_isOfName_15 : decode cX13_isOfName 15 = .ok (.if_icmp .lt 9, 3) := by decide +kernel
theorem dX13_isOfName_24 : decode cX13_isOfName 24 = .ok (.iload_n 0, 1) := by decide +kernel
theorem dX13_isOfName_25 : decode cX13_isOfName 25 = .ok (.bipush 95, 2) := by decide +kernel
theorem dX13_isOfName_27 : decode cX13_isOfName 27 = .ok (.if_icmp .eq 10, 3) := by decide +kernel
theorem dX13_isOfName_30 : decode cX13_isOfName 30 = .ok (.iload_n 0, 1) := by decide +kernel
theorem dX13_isOfName_31 : decode cX13_isOfName 31 = .ok (.invokestatic 24, 3) := by decide +kernel
theorem tw_4 : (.code yX13_isDigit cX13_isDigit 1 (some .boolean) : Cond) ∈ tw_W := tw_in (t8_9 (List.mem_of_getElem? (i := 88) rfl)) rfl
theorem tw_5 : ∀ w ∈ ([.methodLink RX13 24 yX13_isDigit, .static yX13_isDigit, .initialized yX13_isDigit.cls] : List Cond), w ∈ tw_W := al_c (tw_in (t8_9 (List.mem_of_getElem? (i := 86) rfl)) rfl) (al_c (tw_in (t8_9 (List.mem_of_getElem? (i := 87) rfl)) rfl) (al_c (tw_in (t8_1 (List.mem_of_getElem? (i := 23) rfl)) rfl) al_n))
theorem dX13_isOfName_34 : decode cX13_isOfName 34 = .ok (.ifCond .eq 7, 3) := by decide +kernel
theorem dX13_isOfName_41 : decode cX13_isOfName 41 = .ok (.iconst 0, 1) := by decide +kernel
theorem dX13_isOfName_42 : decode cX13_isOfName 42 = .ok (.ireturn, 1) := by decide +kernel
theorem dX13_isOfName_37 : decode cX13_isOfName 37 = .ok (.iconst 1, 1) := by decide +kernel
theorem dX13_isOfName_38 : decode cX13_isOfName 38 = .ok (.goto 4, 3) := by decide +kernel
theorem dX13_isOfName_18 : decode cX13_isOfName 18 = .ok (.iload_n 0, 1) := by decide +kernel
theorem dX13_isOfName_19 : decode cX13_isOfName 19 = .ok (.bipush 90, 2) := by decide +kernel
theorem dX13_isOfName_21 : decode cX13_isOfName 21 = .ok (.if_icmp .le 16, 3) := by decide +kernel
theorem dX13_isOfName_6 : decode cX13_isOfName 6 = .ok (.iload_n 0, 1) := by decide +kernel
theorem dX13_isOfName_7 : decode cX13_isOfName 7 = .ok (.bipush 122, 2) := by decide +kernel
theorem dX13_isOfName_9 : decode cX13_isOfName 9 = .ok (.if_icmp .le 28, 3) := by decide +kernel
theorem dX13_emit_0 : decode cX13_emit 0 = .ok (.aload_n 0, 1) := by decide +kernel
theorem dX13_emit_1 : decode cX13_emit 1 = .ok (.getfield 101, 3) := by decide +kernel
theorem tw_6 : (.fieldLink RX13 101 "PocketCompilerModel" "code" "[I" : Cond) ∈ tw_W := tw_in (t8_10 (List.mem_of_getElem? (i := 168) rfl)) rfl
theorem itX13_0 : ∀ j, j < 8 → u_lay RX13 TX13 (0 + j) ∈ tw_W := rg_s (rg_s (rg_s (rg_s (rg_s (rg_s (rg_s (rg_s rg_z (tw_in (t8_11 (List.mem_of_getElem? (i := 41) rfl)) rfl)) (tw_in (t8_11 (List.mem_of_getElem? (i := 43) rfl)) rfl)) (tw_in (t8_11 (List.mem_of_getElem? (i := 45) rfl)) rfl)) (tw_in (t8_11 (List.mem_of_getElem? (i := 47) rfl)) rfl)) (tw_in (t8_11 (List.mem_of_getElem? (i := 49) rfl)) rfl)) (tw_in (t8_11 (List.mem_of_getElem? (i := 51) rfl)) rfl)) (tw_in (t8_11 (List.mem_of_getElem? (i := 53) rfl)) rfl)) (tw_in (t8_11 (List.mem_of_getElem? (i := 55) rfl)) rfl)
theorem itX13_8 : ∀ j, j < 8 → u_lay RX13 TX13 (8 + j) ∈ tw_W := rg_s (rg_s (rg_s (rg_s (rg_s (rg_s (rg_s (rg_s rg_z (tw_in (t8_11 (List.mem_of_getElem? (i := 57) rfl)) rfl)) (tw_in (t8_11 (List.mem_of_getElem? (i := 59) rfl)) rfl)) (tw_in (t8_11 (List.mem_of_getElem? (i := 61) rfl)) rfl)) (tw_in (t8_11 (List.mem_of_getElem? (i := 63) rfl)) rfl)) (tw_in (t8_11 (List.mem_of_getElem? (i := 65) rfl)) rfl)) (tw_in (t8_11 (List.mem_of_getElem? (i := 67) rfl)) rfl)) (tw_in (t8_11 (List.mem_of_getElem? (i := 69) rfl)) rfl)) (tw_in (t8_11 (List.mem_of_getElem? (i := 71) rfl)) rfl)
theorem itX13_16 : ∀ j, j < 8 → u_lay RX13 TX13 (16 + j) ∈ tw_W := rg_s (rg_s (rg_s (rg_s (rg_s (rg_s (rg_s (rg_s rg_z (tw_in (t8_11 (List.mem_of_getElem? (i := 73) rfl)) rfl)) (tw_in (t8_11 (List.mem_of_getElem? (i := 75) rfl)) rfl)) (tw_in (t8_11 (List.mem_of_getElem? (i := 77) rfl)) rfl)) (tw_in (t8_11 (List.mem_of_getElem? (i := 79) rfl)) rfl)) (tw_in (t8_11 (List.mem_of_getElem? (i := 81) rfl)) rfl)) (tw_in (t8_11 (List.mem_of_getElem? (i := 83) rfl)) rfl)) (tw_in (t8_11 (List.mem_of_getElem? (i := 85) rfl)) rfl)) (tw_in (t8_11 (List.mem_of_getElem? (i := 87) rfl)) rfl)
theorem itX13_24 : ∀ j, j < 8 → u_lay RX13 TX13 (24 + j) ∈ tw_W := rg_s (rg_s (rg_s (rg_s (rg_s (rg_s (rg_s (rg_s rg_z (tw_in (t8_11 (List.mem_of_getElem? (i := 89) rfl)) rfl)) (tw_in (t8_11 (List.mem_of_getElem? (i := 91) rfl)) rfl)) (tw_in (t8_11 (List.mem_of_getElem? (i := 93) rfl)) rfl)) (tw_in (t8_11 (List.mem_of_getElem? (i := 95) rfl)) rfl)) (tw_in (t8_11 (List.mem_of_getElem? (i := 97) rfl)) rfl)) (tw_in (t8_11 (List.mem_of_getElem? (i := 99) rfl)) rfl)) (tw_in (t8_11 (List.mem_of_getElem? (i := 101) rfl)) rfl)) (tw_in (t8_11 (List.mem_of_getElem? (i := 103) rfl)) rfl)
theorem itX13_32 : ∀ j, j < 8 → u_lay RX13 TX13 (32 + j) ∈ tw_W := rg_s (rg_s (rg_s (rg_s (rg_s (rg_s (rg_s (rg_s rg_z (tw_in (t8_11 (List.mem_of_getElem? (i := 105) rfl)) rfl)) (tw_in (t8_11 (List.mem_of_getElem? (i := 107) rfl)) rfl)) (tw_in (t8_11 (List.mem_of_getElem? (i := 109) rfl)) rfl)) (tw_in (t8_11 (List.mem_of_getElem? (i := 111) rfl)) rfl)) (tw_in (t8_11 (List.mem_of_getElem? (i := 113) rfl)) rfl)) (tw_in (t8_11 (List.mem_of_getElem? (i := 115) rfl)) rfl)) (tw_in (t8_11 (List.mem_of_getElem? (i := 117) rfl)) rfl)) (tw_in (t8_11 (List.mem_of_getElem? (i := 119) rfl)) rfl)
theorem itX13_40 : ∀ j, j < 8 → u_lay RX13 TX13 (40 + j) ∈ tw_W := rg_s (rg_s (rg_s (rg_s (rg_s (rg_s (rg_s (rg_s rg_z (tw_in (t8_11 (List.mem_of_getElem? (i := 121) rfl)) rfl)) (tw_in (t8_11 (List.mem_of_getElem? (i := 123) rfl)) rfl)) (tw_in (t8_11 (List.mem_of_getElem? (i := 125) rfl)) rfl)) (tw_in (t8_11 (List.mem_of_getElem? (i := 127) rfl)) rfl)) (tw_in (t8_11 (List.mem_of_getElem? (i := 129) rfl)) rfl)) (tw_in (t8_11 (List.mem_of_getElem? (i := 131) rfl)) rfl)) (tw_in (t8_11 (List.mem_of_getElem? (i := 133) rfl)) rfl)) (tw_in (t8_11 (List.mem_of_getElem? (i := 135) rfl)) rfl)
theorem itX13_48 : ∀ j, j < 8 → u_lay RX13 TX13 (48 + j) ∈ tw_W := rg_s (rg_s (rg_s (rg_s (rg_s (rg_s (rg_s (rg_s rg_z (tw_in (t8_11 (List.mem_of_getElem? (i := 137) rfl)) rfl)) (tw_in (t8_11 (List.mem_of_getElem? (i := 139) rfl)) rfl)) (tw_in (t8_11 (List.mem_of_getElem? (i := 141) rfl)) rfl)) (tw_in (t8_11 (List.mem_of_getElem? (i := 143) rfl)) rfl)) (tw_in (t8_11 (List.mem_of_getElem? (i := 145) rfl)) rfl)) (tw_in (t8_11 (List.mem_of_getElem? (i := 147) rfl)) rfl)) (tw_in (t8_11 (List.mem_of_getElem? (i := 149) rfl)) rfl)) (tw_in (t8_11 (List.mem_of_getElem? (i := 151) rfl)) rfl)
theorem itX13_56 : ∀ j, j < 8 → u_lay RX13 TX13 (56 + j) ∈ tw_W := rg_s (rg_s (rg_s (rg_s (rg_s (rg_s (rg_s (rg_s rg_z (tw_in (t8_11 (List.mem_of_getElem? (i := 153) rfl)) rfl)) (tw_in (t8_11 (List.mem_of_getElem? (i := 155) rfl)) rfl)) (tw_in (t8_11 (List.mem_of_getElem? (i := 157) rfl)) rfl)) (tw_in (t8_11 (List.mem_of_getElem? (i := 159) rfl)) rfl)) (tw_in (t8_11 (List.mem_of_getElem? (i := 161) rfl)) rfl)) (tw_in (t8_11 (List.mem_of_getElem? (i := 163) rfl)) rfl)) (tw_in (t8_11 (List.mem_of_getElem? (i := 165) rfl)) rfl)) (tw_in (t8_11 (List.mem_of_getElem? (i := 167) rfl)) rfl)
theorem itX13_64 : ∀ j, j < 8 → u_lay RX13 TX13 (64 + j) ∈ tw_W := rg_s (rg_s (rg_s (rg_s (rg_s (rg_s (rg_s (rg_s rg_z (tw_in (t8_11 (List.mem_of_getElem? (i := 169) rfl)) rfl)) (tw_in (t8_11 (List.mem_of_getElem? (i := 171) rfl)) rfl)) (tw_in (t8_11 (List.mem_of_getElem? (i := 173) rfl)) rfl)) (tw_in (t8_11 (List.mem_of_getElem? (i := 175) rfl)) rfl)) (tw_in (t8_11 (List.mem_of_getElem? (i := 177) rfl)) rfl)) (tw_in (t8_11 (List.mem_of_getElem? (i := 179) rfl)) rfl)) (tw_in (t8_11 (List.mem_of_getElem? (i := 181) rfl)) rfl)) (tw_in (t8_11 (List.mem_of_getElem? (i := 183) rfl)) rfl)
theorem itX13_72 : ∀ j, j < 8 → u_lay RX13 TX13 (72 + j) ∈ tw_W := rg_s (rg_s (rg_s (rg_s (rg_s (rg_s (rg_s (rg_s rg_z (tw_in (t8_11 (List.mem_of_getElem? (i := 185) rfl)) rfl)) (tw_in (t8_11 (List.mem_of_getElem? (i := 187) rfl)) rfl)) (tw_in (t8_11 (List.mem_of_getElem? (i := 189) rfl)) rfl)) (tw_in (t8_11 (List.mem_of_getElem? (i := 191) rfl)) rfl)) (tw_in (t8_11 (List.mem_of_getElem? (i := 193) rfl)) rfl)) (tw_in (t8_11 (List.mem_of_getElem? (i := 195) rfl)) rfl)) (tw_in (t8_11 (List.mem_of_getElem? (i := 197) rfl)) rfl)) (tw_in (t8_11 (List.mem_of_getElem? (i := 199) rfl)) rfl)
theorem itX13_80 : ∀ j, j < 8 → u_lay RX13 TX13 (80 + j) ∈ tw_W := rg_s (rg_s (rg_s (rg_s (rg_s (rg_s (rg_s (rg_s rg_z (tw_in (t8_11 (List.mem_of_getElem? (i := 201) rfl)) rfl)) (tw_in (t8_11 (List.mem_of_getElem? (i := 203) rfl)) rfl)) (tw_in (t8_11 (List.mem_of_getElem? (i := 205) rfl)) rfl)) (tw_in (t8_11 (List.mem_of_getElem? (i := 207) rfl)) rfl)) (tw_in (t8_11 (List.mem_of_getElem? (i := 209) rfl)) rfl)) (tw_in (t8_11 (List.mem_of_getElem? (i := 211) rfl)) rfl)) (tw_in (t8_11 (List.mem_of_getElem? (i := 213) rfl)) rfl)) (tw_in (t8_11 (List.mem_of_getElem? (i := 215) rfl)) rfl)
theorem itX13_88 : ∀ j, j < 8 → u_lay RX13 TX13 (88 + j) ∈ tw_W := rg_s (rg_s (rg_s (rg_s (rg_s (rg_s (rg_s (rg_s rg_z (tw_in (t8_11 (List.mem_of_getElem? (i := 217) rfl)) rfl)) (tw_in (t8_11 (List.mem_of_getElem? (i := 219) rfl)) rfl)) (tw_in (t8_11 (List.mem_of_getElem? (i := 221) rfl)) rfl)) (tw_in (t8_11 (List.mem_of_getElem? (i := 223) rfl)) rfl)) (tw_in (t8_11 (List.mem_of_getElem? (i := 225) rfl)) rfl)) (tw_in (t8_11 (List.mem_of_getElem? (i := 227) rfl)) rfl)) (tw_in (t8_11 (List.mem_of_getElem? (i := 229) rfl)) rfl)) (tw_in (t8_11 (List.mem_of_getElem? (i := 231) rfl)) rfl)
theorem itX13_96 : ∀ j, j < 8 → u_lay RX13 TX13 (96 + j) ∈ tw_W := rg_s (rg_s (rg_s (rg_s (rg_s (rg_s (rg_s (rg_s rg_z (tw_in (t8_11 (List.mem_of_getElem? (i := 233) rfl)) rfl)) (tw_in (t8_11 (List.mem_of_getElem? (i := 235) rfl)) rfl)) (tw_in (t8_11 (List.mem_of_getElem? (i := 237) rfl)) rfl)) (tw_in (t8_11 (List.mem_of_getElem? (i := 239) rfl)) rfl)) (tw_in (t8_12 (List.mem_of_getElem? (i := 1) rfl)) rfl)) (tw_in (t8_12 (List.mem_of_getElem? (i := 3) rfl)) rfl)) (tw_in (t8_12 (List.mem_of_getElem? (i := 5) rfl)) rfl)) (tw_in (t8_12 (List.mem_of_getElem? (i := 7) rfl)) rfl)
theorem itX13_104 : ∀ j, j < 8 → u_lay RX13 TX13 (104 + j) ∈ tw_W := rg_s (rg_s (rg_s (rg_s (rg_s (rg_s (rg_s (rg_s rg_z (tw_in (t8_12 (List.mem_of_getElem? (i := 9) rfl)) rfl)) (tw_in (t8_12 (List.mem_of_getElem? (i := 11) rfl)) rfl)) (tw_in (t8_12 (List.mem_of_getElem? (i := 13) rfl)) rfl)) (tw_in (t8_12 (List.mem_of_getElem? (i := 15) rfl)) rfl)) (tw_in (t8_12 (List.mem_of_getElem? (i := 17) rfl)) rfl)) (tw_in (t8_12 (List.mem_of_getElem? (i := 19) rfl)) rfl)) (tw_in (t8_12 (List.mem_of_getElem? (i := 21) rfl)) rfl)) (tw_in (t8_12 (List.mem_of_getElem? (i := 23) rfl)) rfl)
theorem itX13_112 : ∀ j, j < 8 → u_lay RX13 TX13 (112 + j) ∈ tw_W := rg_s (rg_s (rg_s (rg_s (rg_s (rg_s (rg_s (rg_s rg_z (tw_in (t8_12 (List.mem_of_getElem? (i := 25) rfl)) rfl)) (tw_in (t8_12 (List.mem_of_getElem? (i := 27) rfl)) rfl)) (tw_in (t8_12 (List.mem_of_getElem? (i := 29) rfl)) rfl)) (tw_in (t8_12 (List.mem_of_getElem? (i := 31) rfl)) rfl)) (tw_in (t8_12 (List.mem_of_getElem? (i := 33) rfl)) rfl)) (tw_in (t8_12 (List.mem_of_getElem? (i := 35) rfl)) rfl)) (tw_in (t8_12 (List.mem_of_getElem? (i := 37) rfl)) rfl)) (tw_in (t8_12 (List.mem_of_getElem? (i := 39) rfl)) rfl)
theorem itX13_120 : ∀ j, j < 4 → u_lay RX13 TX13 (120 + j) ∈ tw_W := rg_s (rg_s (rg_s (rg_s rg_z (tw_in (t8_12 (List.mem_of_getElem? (i := 41) rfl)) rfl)) (tw_in (t8_12 (List.mem_of_getElem? (i := 43) rfl)) rfl)) (tw_in (t8_12 (List.mem_of_getElem? (i := 45) rfl)) rfl)) (tw_in (t8_12 (List.mem_of_getElem? (i := 47) rfl)) rfl)
theorem itX13 : ∀ w ∈ wsX130, w ∈ tw_W := by
  intro w hw
  obtain ⟨k, hk, rfl⟩ := List.mem_map.mp hw
  rw [List.mem_range] at hk
  by_cases h0 : k < 8
  · exact (show 0 + (k - 0) = k by omega) ▸ itX13_0 (k - 0) (by omega)
  by_cases h8 : k < 16
  · exact (show 8 + (k - 8) = k by omega) ▸ itX13_8 (k - 8) (by omega)
  by_cases h16 : k < 24
  · exact (show 16 + (k - 16) = k by omega) ▸ itX13_16 (k - 16) (by omega)
  by_cases h24 : k < 32
  · exact (show 24 + (k - 24) = k by omega) ▸ itX13_24 (k - 24) (by omega)
  by_cases h32 : k < 40
  · exact (show 32 + (k - 32) = k by omega) ▸ itX13_32 (k - 32) (by omega)
  by_cases h40 : k < 48
  · exact (show 40 + (k - 40) = k by omega) ▸ itX13_40 (k - 40) (by omega)
  by_cases h48 : k < 56
  · exact (show 48 + (k - 48) = k by omega) ▸ itX13_48 (k - 48) (by omega)
  by_cases h56 : k < 64
  · exact (show 56 + (k - 56) = k by omega) ▸ itX13_56 (k - 56) (by omega)
  by_cases h64 : k < 72
  · exact (show 64 + (k - 64) = k by omega) ▸ itX13_64 (k - 64) (by omega)
  by_cases h72 : k < 80
  · exact (show 72 + (k - 72) = k by omega) ▸ itX13_72 (k - 72) (by omega)
  by_cases h80 : k < 88
  · exact (show 80 + (k - 80) = k by omega) ▸ itX13_80 (k - 80) (by omega)
  by_cases h88 : k < 96
  · exact (show 88 + (k - 88) = k by omega) ▸ itX13_88 (k - 88) (by omega)
  by_cases h96 : k < 104
  · exact (show 96 + (k - 96) = k by omega) ▸ itX13_96 (k - 96) (by omega)
  by_cases h104 : k < 112
  · exact (show 104 + (k - 104) = k by omega) ▸ itX13_104 (k - 104) (by omega)
  by_cases h112 : k < 120
  · exact (show 112 + (k - 112) = k by omega) ▸ itX13_112 (k - 112) (by omega)
  by_cases h120 : k < 124
  · exact (show 120 + (k - 120) = k by omega) ▸ itX13_120 (k - 120) (by omega)
  omega
theorem dX13_emit_4 : decode cX13_emit 4 = .ok (.aload_n 0, 1) := by decide +kernel
theorem dX13_emit_5 : decode cX13_emit 5 = .ok (.getfield 104, 3) := by decide +kernel
theorem tw_7 : (.fieldLink RX13 104 "PocketCompilerModel" "words" "I" : Cond) ∈ tw_W := tw_in (t8_10 (List.mem_of_getElem? (i := 169) rfl)) rfl
theorem dX13_emit_8 : decode cX13_emit 8 = .ok (.iload_n 1, 1) := by decide +kernel
theorem dX13_emit_9 : decode cX13_emit 9 = .ok (.iastore, 1) := by decide +kernel
theorem dX13_emit_10 : decode cX13_emit 10 = .ok (.aload_n 0, 1) := by decide +kernel
theorem dX13_emit_11 : decode cX13_emit 11 = .ok (.dup, 1) := by decide +kernel
theorem dX13_emit_12 : decode cX13_emit 12 = .ok (.getfield 104, 3) := by decide +kernel
theorem dX13_emit_15 : decode cX13_emit 15 = .ok (.iconst 1, 1) := by decide +kernel
theorem dX13_emit_16 : decode cX13_emit 16 = .ok (.iadd, 1) := by decide +kernel
theorem dX13_emit_17 : decode cX13_emit 17 = .ok (.putfield 104, 3) := by decide +kernel
theorem dX13_emit_20 : decode cX13_emit 20 = .ok (.aload_n 0, 1) := by decide +kernel
theorem dX13_emit_21 : decode cX13_emit 21 = .ok (.getfield 104, 3) := by decide +kernel
theorem dX13_emit_24 : decode cX13_emit 24 = .ok (.iconst 1, 1) := by decide +kernel
theorem dX13_emit_25 : decode cX13_emit 25 = .ok (.isub, 1) := by decide +kernel
theorem dX13_emit_26 : decode cX13_emit 26 = .ok (.ireturn, 1) := by decide +kernel
theorem dX13_wait_0 : decode cX13_wait 0 = .ok (.aload_n 0, 1) := by decide +kernel
theorem dX13_wait_1 : decode cX13_wait 1 = .ok (.iload_n 1, 1) := by decide +kernel
theorem dX13_wait_2 : decode cX13_wait 2 = .ok (.invokevirtual 111, 3) := by decide +kernel
theorem tw_8 : (.code yX13_emit cX13_emit 2 (some .int) : Cond) ∈ tw_W := tw_in (t8_9 (List.mem_of_getElem? (i := 127) rfl)) rfl
theorem tw_9 : ∀ w ∈ ([.methodLink RX13 111 yX13_emit, .instanceMethod yX13_emit, .selects RX13 yX13_emit yX13_emit, .initialized RX13] : List Cond), w ∈ tw_W := al_c (tw_in (t8_9 (List.mem_of_getElem? (i := 124) rfl)) rfl) (al_c (tw_in (t8_9 (List.mem_of_getElem? (i := 126) rfl)) rfl) (al_c (tw_in (t7_8 (q := (yX13_emit, 124)) (List.mem_of_getElem? (i := 4) rfl)) rfl) (al_c (tw_in (t8_1 (List.mem_of_getElem? (i := 23) rfl)) rfl) al_n)))
theorem dX13_wait_5 : decode cX13_wait 5 = .ok (.ireturn, 1) := by decide +kernel
theorem dX13_say_0 : decode cX13_say 0 = .ok (.aload_n 0, 1) := by decide +kernel
theorem dX13_say_1 : decode cX13_say 1 = .ok (.getfield 118, 3) := by decide +kernel
theorem tw_10 : (.fieldLink RX13 118 "PocketCompilerModel" "order" "[I" : Cond) ∈ tw_W := tw_in (t8_10 (List.mem_of_getElem? (i := 170) rfl)) rfl
theorem dX13_say_4 : decode cX13_say 4 = .ok (.aload_n 0, 1) := by decide +kernel
theorem dX13_say_5 : decode cX13_say 5 = .ok (.getfield 121, 3) := by decide +kernel
theorem tw_11 : (.fieldLink RX13 121 "PocketCompilerModel" "orders" "I" : Cond) ∈ tw_W := tw_in (t8_10 (List.mem_of_getElem? (i := 172) rfl)) rfl
theorem dX13_say_8 : decode cX13_say 8 = .ok (.iload_n 1, 1) := by decide +kernel
theorem dX13_say_9 : decode cX13_say 9 = .ok (.iastore, 1) := by decide +kernel
theorem dX13_say_10 : decode cX13_say 10 = .ok (.aload_n 0, 1) := by decide +kernel
theorem dX13_say_11 : decode cX13_say 11 = .ok (.getfield 124, 3) := by decide +kernel
theorem tw_12 : (.fieldLink RX13 124 "PocketCompilerModel" "argument" "[I" : Cond) ∈ tw_W := tw_in (t8_10 (List.mem_of_getElem? (i := 171) rfl)) rfl
theorem dX13_say_14 : decode cX13_say 14 = .ok (.aload_n 0, 1) := by decide +kernel
theorem dX13_say_15 : decode cX13_say 15 = .ok (.getfield 121, 3) := by decide +kernel
theorem dX13_say_18 : decode cX13_say 18 = .ok (.iload_n 2, 1) := by decide +kernel
theorem dX13_say_19 : decode cX13_say 19 = .ok (.iastore, 1) := by decide +kernel
theorem dX13_say_20 : decode cX13_say 20 = .ok (.aload_n 0, 1) := by decide +kernel
theorem dX13_say_21 : decode cX13_say 21 = .ok (.dup, 1) := by decide +kernel
theorem dX13_say_22 : decode cX13_say 22 = .ok (.getfield 121, 3) := by decide +kernel
theorem dX13_say_25 : decode cX13_say 25 = .ok (.iconst 1, 1) := by decide +kernel
theorem dX13_say_26 : decode cX13_say 26 = .ok (.iadd, 1) := by decide +kernel
theorem dX13_say_27 : decode cX13_say 27 = .ok (.putfield 121, 3) := by decide +kernel
theorem dX13_say_30 : decode cX13_say 30 = .ok (.aload_n 0, 1) := by decide +kernel
theorem dX13_say_31 : decode cX13_say 31 = .ok (.getfield 121, 3) := by decide +kernel
theorem dX13_say_34 : decode cX13_say 34 = .ok (.iconst 1, 1) := by decide +kernel
theorem dX13_say_35 : decode cX13_say 35 = .ok (.isub, 1) := by decide +kernel
theorem dX13_say_36 : decode cX13_say 36 = .ok (.ireturn, 1) := by decide +kernel
theorem dX13_fix_0 : decode cX13_fix 0 = .ok (.aload_n 0, 1) := by decide +kernel
theorem dX13_fix_1 : decode cX13_fix 1 = .ok (.getfield 198, 3) := by decide +kernel
theorem tw_13 : (.fieldLink RX13 198 "PocketCompilerModel" "fixAt" "[I" : Cond) ∈ tw_W := tw_in (t8_10 (List.mem_of_getElem? (i := 197) rfl)) rfl
theorem dX13_fix_4 : decode cX13_fix 4 = .ok (.aload_n 0, 1) := by decide +kernel
theorem dX13_fix_5 : decode cX13_fix 5 = .ok (.getfield 201, 3) := by decide +kernel
theorem tw_14 : (.fieldLink RX13 201 "PocketCompilerModel" "fixes" "I" : Cond) ∈ tw_W := tw_in (t8_10 (List.mem_of_getElem? (i := 200) rfl)) rfl
theorem dX13_fix_8 : decode cX13_fix 8 = .ok (.iload_n 1, 1) := by decide +kernel
theorem dX13_fix_9 : decode cX13_fix 9 = .ok (.iastore, 1) := by decide +kernel
theorem dX13_fix_10 : decode cX13_fix 10 = .ok (.aload_n 0, 1) := by decide +kernel
theorem dX13_fix_11 : decode cX13_fix 11 = .ok (.getfield 204, 3) := by decide +kernel
theorem tw_15 : (.fieldLink RX13 204 "PocketCompilerModel" "fixOf" "[I" : Cond) ∈ tw_W := tw_in (t8_10 (List.mem_of_getElem? (i := 198) rfl)) rfl
theorem dX13_fix_14 : decode cX13_fix 14 = .ok (.aload_n 0, 1) := by decide +kernel
theorem dX13_fix_15 : decode cX13_fix 15 = .ok (.getfield 201, 3) := by decide +kernel
theorem dX13_fix_18 : decode cX13_fix 18 = .ok (.iload_n 2, 1) := by decide +kernel
theorem dX13_fix_19 : decode cX13_fix 19 = .ok (.iastore, 1) := by decide +kernel
theorem dX13_fix_20 : decode cX13_fix 20 = .ok (.aload_n 0, 1) := by decide +kernel
theorem dX13_fix_21 : decode cX13_fix 21 = .ok (.getfield 207, 3) := by decide +kernel
theorem tw_16 : (.fieldLink RX13 207 "PocketCompilerModel" "fixKind" "[I" : Cond) ∈ tw_W := tw_in (t8_10 (List.mem_of_getElem? (i := 199) rfl)) rfl
theorem dX13_fix_24 : decode cX13_fix 24 = .ok (.aload_n 0, 1) := by decide +kernel
theorem dX13_fix_25 : decode cX13_fix 25 = .ok (.getfield 201, 3) := by decide +kernel
theorem dX13_fix_28 : decode cX13_fix 28 = .ok (.iload_n 3, 1) := by decide +kernel
theorem dX13_fix_29 : decode cX13_fix 29 = .ok (.iastore, 1) := by decide +kernel
theorem dX13_fix_30 : decode cX13_fix 30 = .ok (.aload_n 0, 1) := by decide +kernel
theorem dX13_fix_31 : decode cX13_fix 31 = .ok (.dup, 1) := by decide +kernel
theorem dX13_fix_32 : decode cX13_fix 32 = .ok (.getfield 201, 3) := by decide +kernel
theorem dX13_fix_35 : decode cX13_fix 35 = .ok (.iconst 1, 1) := by decide +kernel
theorem dX13_fix_36 : decode cX13_fix 36 = .ok (.iadd, 1) := by decide +kernel
theorem dX13_fix_37 : decode cX13_fix 37 = .ok (.putfield 201, 3) := by decide +kernel
theorem dX13_fix_40 : decode cX13_fix 40 = .ok (.return_, 1) := by decide +kernel
theorem dX13_jump_0 : decode cX13_jump 0 = .ok (.aload_n 0, 1) := by decide +kernel
theorem dX13_jump_1 : decode cX13_jump 1 = .ok (.getfield 101, 3) := by decide +kernel
theorem dX13_jump_4 : decode cX13_jump 4 = .ok (.iload_n 1, 1) := by decide +kernel
theorem dX13_jump_5 : decode cX13_jump 5 = .ok (.iload_n 2, 1) := by decide +kernel
theorem dX13_jump_6 : decode cX13_jump 6 = .ok (.iconst 4, 1) := by decide +kernel
theorem dX13_jump_7 : decode cX13_jump 7 = .ok (.iload_n 3, 1) := by decide +kernel
theorem dX13_jump_8 : decode cX13_jump 8 = .ok (.iload_n 1, 1) := by decide +kernel
theorem dX13_jump_9 : decode cX13_jump 9 = .ok (.isub, 1) := by decide +kernel
theorem dX13_jump_10 : decode cX13_jump 10 = .ok (.imul, 1) := by decide +kernel
theorem dX13_jump_11 : decode cX13_jump 11 = .ok (.invokestatic 107, 3) := by decide +kernel
theorem tw_17 : (.code yX13_byJ cX13_byJ 2 (some .int) : Cond) ∈ tw_W := tw_in (t8_10 (List.mem_of_getElem? (i := 83) rfl)) rfl
theorem tw_18 : ∀ w ∈ ([.methodLink RX13 107 yX13_byJ, .static yX13_byJ, .initialized yX13_byJ.cls] : List Cond), w ∈ tw_W := al_c (tw_in (t8_10 (List.mem_of_getElem? (i := 81) rfl)) rfl) (al_c (tw_in (t8_10 (List.mem_of_getElem? (i := 82) rfl)) rfl) (al_c (tw_in (t8_1 (List.mem_of_getElem? (i := 23) rfl)) rfl) al_n))
theorem dX13_jump_14 : decode cX13_jump 14 = .ok (.iastore, 1) := by decide +kernel
theorem dX13_jump_15 : decode cX13_jump 15 = .ok (.return_, 1) := by decide +kernel
set_option maxHeartbeats 4000000 in
set_option maxRecDepth 100000 in
theorem c_m_byI (l : Launch) (dC : Nat → ClassId) (dI : Nat → Nat → Nat) (cI cB cZ cJ cR : ClassId) (tb : Nat → Nat) (sz : Nat) (pa : Int32) (pb : Int32) (pc1 : Int32) (pd : Int32) (pe : Int32)  : Met l yX13_byI (Cond.code yX13_byI cX13_byI 5 (some .int) :: tw_W) ({ frames := 0, cells := 0, slots := 0, locals := 0 }) (pc_ (dC, dI) (tyS cI cB cZ cJ cR) tb [] sz [.int pa, .int pb, .int pc1, .int pd, .int pe]) (qi_ (dC, dI) [] sz (fun (r : Int32) (u : Unit) => (Q_m_byI pa pb pc1 pd pe r)) (fun (u : Unit) => [])) 0 0 (va_A [] sz) := by
  refine Met.ofW (cc := cX13_byI) (maxL := 5) (ret := (some .int)) (by decide) rfl ?_
  intro p e s m args below meth c s₁ B hml hv
  obtain ⟨rfl, hsz, hP, hKK, hD0, hFx⟩ := hv
  have hK := hKK.1
  have hx := B.exec
  have hb := B.bytes
  have hr := B.returns
  have ht : ∀ w ∈ tw_W, w.before _ s = true := fun w h => atoms_spec (ws := Cond.code yX13_byI cX13_byI 5 (some .int) :: tw_W) B.pre w (List.mem_cons_of_mem _ h)
  have hown : s.vm.findClass RX13 = some m.cls := findClass_of_methodNamed B.named
  have hlocks := B.notSynchronized
  subst hsz
  unfold qi_
  have hD := hD0.self (sz := s.heap.size)
  generalize hAe : va_A [] s.heap.size = A at hD hFx ⊢
  have hA : ∀ q : Nat, s.heap.size ≤ q → A q := fun q h => by rw [← hAe]; exact Or.inr h
  have hS : va_S A s.heap s.heap [] := va_S.rf
  have hl := lv_entry ([.int pa, .int pb, .int pc1, .int pd, .int pe]) (n := 5) (Nat.le_of_ble_eq_true rfl)
  rw [lg_entry_eq]
  generalize (lg_sl ([.int pa, .int pb, .int pc1, .int pd, .int pe]) ++ List.replicate (5 - (lg_sl ([.int pa, .int pb, .int pc1, .int pd, .int pe])).length) Slot.unset).toArray = ls at hl ⊢
  have hl : lv_has ls 5 [(0, .int pa), (1, .int pb), (2, .int pc1), (3, .int pd), (4, .int pe)] := hl
  refine lv_iload hx hb dX13_byI_0 (lv_at hl 4 rfl) ?_
  refine lv_bipush (v := 20) hx hb dX13_byI_2 (by decide) ?_
  refine lv_ishl hx hb dX13_byI_4 ?_
  refine lv_iload_n hx hb dX13_byI_5 rfl (lv_at hl 3 rfl) ?_
  refine lv_bipush (v := 15) hx hb dX13_byI_6 (by decide) ?_
  refine lv_ishl hx hb dX13_byI_8 ?_
  refine lv_ior hx hb dX13_byI_9 ?_
  refine lv_iload_n hx hb dX13_byI_10 rfl (lv_at hl 1 rfl) ?_
  refine lv_bipush (v := 12) hx hb dX13_byI_11 (by decide) ?_
  refine lv_ishl hx hb dX13_byI_13 ?_
  refine lv_ior hx hb dX13_byI_14 ?_
  refine lv_iload_n hx hb dX13_byI_15 rfl (lv_at hl 2 rfl) ?_
  refine lv_bipush (v := 7) hx hb dX13_byI_16 (by decide) ?_
  refine lv_ishl hx hb dX13_byI_18 ?_
  refine lv_ior hx hb dX13_byI_19 ?_
  refine lv_iload_n hx hb dX13_byI_20 rfl (lv_at hl 0 rfl) ?_
  refine lv_ior hx hb dX13_byI_21 ?_
  exact W.iret (v := (((((pe <<< ((20 : Int32) &&& 31)) ||| (pd <<< ((15 : Int32) &&& 31))) ||| (pb <<< ((12 : Int32) &&& 31))) ||| (pc1 <<< ((7 : Int32) &&& 31))) ||| pa)) hx hb hr (fun t ht9 hW => ⟨⟨(((((pe <<< ((20 : Int32) &&& 31)) ||| (pd <<< ((15 : Int32) &&& 31))) ||| (pb <<< ((12 : Int32) &&& 31))) ||| (pc1 <<< ((7 : Int32) &&& 31))) ||| pa), (), rfl, rfl, by rw [ht9]; exact hP, hD⟩, hS.F ht9⟩) hS.2.2 dX13_byI_22
set_option maxHeartbeats 4000000 in
set_option maxRecDepth 100000 in
theorem c_m_byR (l : Launch) (dC : Nat → ClassId) (dI : Nat → Nat → Nat) (cI cB cZ cJ cR : ClassId) (tb : Nat → Nat) (sz : Nat) (pa : Int32) (pb : Int32) (pc1 : Int32) (pd : Int32) (pe : Int32)  : Met l yX13_byR (Cond.code yX13_byR cX13_byR 5 (some .int) :: tw_W) ({ frames := 0, cells := 0, slots := 0, locals := 0 }) (pc_ (dC, dI) (tyS cI cB cZ cJ cR) tb [] sz [.int pa, .int pb, .int pc1, .int pd, .int pe]) (qi_ (dC, dI) [] sz (fun (r : Int32) (u : Unit) => (Q_m_byR pa pb pc1 pd pe r)) (fun (u : Unit) => [])) 0 0 (va_A [] sz) := by
  refine Met.ofW (cc := cX13_byR) (maxL := 5) (ret := (some .int)) (by decide) rfl ?_
  intro p e s m args below meth c s₁ B hml hv
  obtain ⟨rfl, hsz, hP, hKK, hD0, hFx⟩ := hv
  have hK := hKK.1
  have hx := B.exec
  have hb := B.bytes
  have hr := B.returns
  have ht : ∀ w ∈ tw_W, w.before _ s = true := fun w h => atoms_spec (ws := Cond.code yX13_byR cX13_byR 5 (some .int) :: tw_W) B.pre w (List.mem_cons_of_mem _ h)
  have hown : s.vm.findClass RX13 = some m.cls := findClass_of_methodNamed B.named
  have hlocks := B.notSynchronized
  subst hsz
  unfold qi_
  have hD := hD0.self (sz := s.heap.size)
  generalize hAe : va_A [] s.heap.size = A at hD hFx ⊢
  have hA : ∀ q : Nat, s.heap.size ≤ q → A q := fun q h => by rw [← hAe]; exact Or.inr h
  have hS : va_S A s.heap s.heap [] := va_S.rf
  have hl := lv_entry ([.int pa, .int pb, .int pc1, .int pd, .int pe]) (n := 5) (Nat.le_of_ble_eq_true rfl)
  rw [lg_entry_eq]
  generalize (lg_sl ([.int pa, .int pb, .int pc1, .int pd, .int pe]) ++ List.replicate (5 - (lg_sl ([.int pa, .int pb, .int pc1, .int pd, .int pe])).length) Slot.unset).toArray = ls at hl ⊢
  have hl : lv_has ls 5 [(0, .int pa), (1, .int pb), (2, .int pc1), (3, .int pd), (4, .int pe)] := hl
  refine lv_iload_n hx hb dX13_byR_0 rfl (lv_at hl 0 rfl) ?_
  refine lv_bipush (v := 25) hx hb dX13_byR_1 (by decide) ?_
  refine lv_ishl hx hb dX13_byR_3 ?_
  refine lv_iload hx hb dX13_byR_4 (lv_at hl 4 rfl) ?_
  refine lv_bipush (v := 20) hx hb dX13_byR_6 (by decide) ?_
  refine lv_ishl hx hb dX13_byR_8 ?_
  refine lv_ior hx hb dX13_byR_9 ?_
  refine lv_iload_n hx hb dX13_byR_10 rfl (lv_at hl 3 rfl) ?_
  refine lv_bipush (v := 15) hx hb dX13_byR_11 (by decide) ?_
  refine lv_ishl hx hb dX13_byR_13 ?_
  refine lv_ior hx hb dX13_byR_14 ?_
  refine lv_iload_n hx hb dX13_byR_15 rfl (lv_at hl 1 rfl) ?_
  refine lv_bipush (v := 12) hx hb dX13_byR_16 (by decide) ?_
  refine lv_ishl hx hb dX13_byR_18 ?_
  refine lv_ior hx hb dX13_byR_19 ?_
  refine lv_iload_n hx hb dX13_byR_20 rfl (lv_at hl 2 rfl) ?_
  refine lv_bipush (v := 7) hx hb dX13_byR_21 (by decide) ?_
  refine lv_ishl hx hb dX13_byR_23 ?_
  refine lv_ior hx hb dX13_byR_24 ?_
  refine lv_bipush (v := 51) hx hb dX13_byR_25 (by decide) ?_
  refine lv_ior hx hb dX13_byR_27 ?_
  exact W.iret (v := ((((((pa <<< ((25 : Int32) &&& 31)) ||| (pe <<< ((20 : Int32) &&& 31))) ||| (pd <<< ((15 : Int32) &&& 31))) ||| (pb <<< ((12 : Int32) &&& 31))) ||| (pc1 <<< ((7 : Int32) &&& 31))) ||| (51 : Int32))) hx hb hr (fun t ht9 hW => ⟨⟨((((((pa <<< ((25 : Int32) &&& 31)) ||| (pe <<< ((20 : Int32) &&& 31))) ||| (pd <<< ((15 : Int32) &&& 31))) ||| (pb <<< ((12 : Int32) &&& 31))) ||| (pc1 <<< ((7 : Int32) &&& 31))) ||| (51 : Int32)), (), rfl, rfl, by rw [ht9]; exact hP, hD⟩, hS.F ht9⟩) hS.2.2 dX13_byR_28
set_option maxHeartbeats 4000000 in
set_option maxRecDepth 100000 in
theorem c_m_byB (l : Launch) (dC : Nat → ClassId) (dI : Nat → Nat → Nat) (cI cB cZ cJ cR : ClassId) (tb : Nat → Nat) (sz : Nat) (pa : Int32) (pb : Int32) (pc1 : Int32) (pd : Int32)  : Met l yX13_byB (Cond.code yX13_byB cX13_byB 4 (some .int) :: tw_W) ({ frames := 0, cells := 0, slots := 0, locals := 0 }) (pc_ (dC, dI) (tyS cI cB cZ cJ cR) tb [] sz [.int pa, .int pb, .int pc1, .int pd]) (qi_ (dC, dI) [] sz (fun (r : Int32) (u : Unit) => (Q_m_byB pa pb pc1 pd r)) (fun (u : Unit) => [])) 0 0 (va_A [] sz) := by
  refine Met.ofW (cc := cX13_byB) (maxL := 4) (ret := (some .int)) (by decide) rfl ?_
  intro p e s m args below meth c s₁ B hml hv
  obtain ⟨rfl, hsz, hP, hKK, hD0, hFx⟩ := hv
  have hK := hKK.1
  have hx := B.exec
  have hb := B.bytes
  have hr := B.returns
  have ht : ∀ w ∈ tw_W, w.before _ s = true := fun w h => atoms_spec (ws := Cond.code yX13_byB cX13_byB 4 (some .int) :: tw_W) B.pre w (List.mem_cons_of_mem _ h)
  have hown : s.vm.findClass RX13 = some m.cls := findClass_of_methodNamed B.named
  have hlocks := B.notSynchronized
  subst hsz
  unfold qi_
  have hD := hD0.self (sz := s.heap.size)
  generalize hAe : va_A [] s.heap.size = A at hD hFx ⊢
  have hA : ∀ q : Nat, s.heap.size ≤ q → A q := fun q h => by rw [← hAe]; exact Or.inr h
  have hS : va_S A s.heap s.heap [] := va_S.rf
  have hl := lv_entry ([.int pa, .int pb, .int pc1, .int pd]) (n := 4) (Nat.le_of_ble_eq_true rfl)
  rw [lg_entry_eq]
  generalize (lg_sl ([.int pa, .int pb, .int pc1, .int pd]) ++ List.replicate (4 - (lg_sl ([.int pa, .int pb, .int pc1, .int pd])).length) Slot.unset).toArray = ls at hl ⊢
  have hl : lv_has ls 4 [(0, .int pa), (1, .int pb), (2, .int pc1), (3, .int pd)] := hl
  refine lv_iload_n hx hb dX13_byB_0 rfl (lv_at hl 3 rfl) ?_
  refine lv_bipush (v := 12) hx hb dX13_byB_1 (by decide) ?_
  refine lv_ishr hx hb dX13_byB_3 ?_
  refine lv_iconst (v := 1) hx hb dX13_byB_4 (by decide) ?_
  refine lv_iand hx hb dX13_byB_5 ?_
  refine lv_bipush (v := 31) hx hb dX13_byB_6 (by decide) ?_
  refine lv_ishl hx hb dX13_byB_8 ?_
  refine lv_iload_n hx hb dX13_byB_9 rfl (lv_at hl 3 rfl) ?_
  refine lv_iconst (v := 5) hx hb dX13_byB_10 (by decide) ?_
  refine lv_ishr hx hb dX13_byB_11 ?_
  refine lv_bipush (v := 63) hx hb dX13_byB_12 (by decide) ?_
  refine lv_iand hx hb dX13_byB_14 ?_
  refine lv_bipush (v := 25) hx hb dX13_byB_15 (by decide) ?_
  refine lv_ishl hx hb dX13_byB_17 ?_
  refine lv_ior hx hb dX13_byB_18 ?_
  refine lv_iload_n hx hb dX13_byB_19 rfl (lv_at hl 2 rfl) ?_
  refine lv_bipush (v := 20) hx hb dX13_byB_20 (by decide) ?_
  refine lv_ishl hx hb dX13_byB_22 ?_
  refine lv_ior hx hb dX13_byB_23 ?_
  refine lv_iload_n hx hb dX13_byB_24 rfl (lv_at hl 1 rfl) ?_
  refine lv_bipush (v := 15) hx hb dX13_byB_25 (by decide) ?_
  refine lv_ishl hx hb dX13_byB_27 ?_
  refine lv_ior hx hb dX13_byB_28 ?_
  refine lv_iload_n hx hb dX13_byB_29 rfl (lv_at hl 0 rfl) ?_
  refine lv_bipush (v := 12) hx hb dX13_byB_30 (by decide) ?_
  refine lv_ishl hx hb dX13_byB_32 ?_
  refine lv_ior hx hb dX13_byB_33 ?_
  refine lv_iload_n hx hb dX13_byB_34 rfl (lv_at hl 3 rfl) ?_
  refine lv_iconst (v := 1) hx hb dX13_byB_35 (by decide) ?_
  refine lv_ishr hx hb dX13_byB_36 ?_
  refine lv_bipush (v := 15) hx hb dX13_byB_37 (by decide) ?_
  refine lv_iand hx hb dX13_byB_39 ?_
  refine lv_bipush (v := 8) hx hb dX13_byB_40 (by decide) ?_
  refine lv_ishl hx hb dX13_byB_42 ?_
  refine lv_ior hx hb dX13_byB_43 ?_
  refine lv_iload_n hx hb dX13_byB_44 rfl (lv_at hl 3 rfl) ?_
  refine lv_bipush (v := 11) hx hb dX13_byB_45 (by decide) ?_
  refine lv_ishr hx hb dX13_byB_47 ?_
  refine lv_iconst (v := 1) hx hb dX13_byB_48 (by decide) ?_
  refine lv_iand hx hb dX13_byB_49 ?_
  refine lv_bipush (v := 7) hx hb dX13_byB_50 (by decide) ?_
  refine lv_ishl hx hb dX13_byB_52 ?_
  refine lv_ior hx hb dX13_byB_53 ?_
  refine lv_bipush (v := 99) hx hb dX13_byB_54 (by decide) ?_
  refine lv_ior hx hb dX13_byB_56 ?_
  exact W.iret (v := ((((((((((pd >>> ((12 : Int32) &&& 31)) &&& (1 : Int32)) <<< ((31 : Int32) &&& 31)) ||| (((pd >>> ((5 : Int32) &&& 31)) &&& (63 : Int32)) <<< ((25 : Int32) &&& 31))) ||| (pc1 <<< ((20 : Int32) &&& 31))) ||| (pb <<< ((15 : Int32) &&& 31))) ||| (pa <<< ((12 : Int32) &&& 31))) ||| (((pd >>> ((1 : Int32) &&& 31)) &&& (15 : Int32)) <<< ((8 : Int32) &&& 31))) ||| (((pd >>> ((11 : Int32) &&& 31)) &&& (1 : Int32)) <<< ((7 : Int32) &&& 31))) ||| (99 : Int32))) hx hb hr (fun t ht9 hW => ⟨⟨((((((((((pd >>> ((12 : Int32) &&& 31)) &&& (1 : Int32)) <<< ((31 : Int32) &&& 31)) ||| (((pd >>> ((5 : Int32) &&& 31)) &&& (63 : Int32)) <<< ((25 : Int32) &&& 31))) ||| (pc1 <<< ((20 : Int32) &&& 31))) ||| (pb <<< ((15 : Int32) &&& 31))) ||| (pa <<< ((12 : Int32) &&& 31))) ||| (((pd >>> ((1 : Int32) &&& 31)) &&& (15 : Int32)) <<< ((8 : Int32) &&& 31))) ||| (((pd >>> ((11 : Int32) &&& 31)) &&& (1 : Int32)) <<< ((7 : Int32) &&& 31))) ||| (99 : Int32)), (), rfl, rfl, by rw [ht9]; exact hP, hD⟩, hS.F ht9⟩) hS.2.2 dX13_byB_57
set_option maxHeartbeats 4000000 in
set_option maxRecDepth 100000 in
theorem c_m_byJ (l : Launch) (dC : Nat → ClassId) (dI : Nat → Nat → Nat) (cI cB cZ cJ cR : ClassId) (tb : Nat → Nat) (sz : Nat) (pa : Int32) (pb : Int32)  : Met l yX13_byJ (Cond.code yX13_byJ cX13_byJ 2 (some .int) :: tw_W) ({ frames := 0, cells := 0, slots := 0, locals := 0 }) (pc_ (dC, dI) (tyS cI cB cZ cJ cR) tb [] sz [.int pa, .int pb]) (qi_ (dC, dI) [] sz (fun (r : Int32) (u : Unit) => (Q_m_byJ pa pb r)) (fun (u : Unit) => [])) 0 0 (va_A [] sz) := by
  refine Met.ofW (cc := cX13_byJ) (maxL := 2) (ret := (some .int)) (by decide) rfl ?_
  intro p e s m args below meth c s₁ B hml hv
  obtain ⟨rfl, hsz, hP, hKK, hD0, hFx⟩ := hv
  have hK := hKK.1
  have hx := B.exec
  have hb := B.bytes
  have hr := B.returns
  have ht : ∀ w ∈ tw_W, w.before _ s = true := fun w h => atoms_spec (ws := Cond.code yX13_byJ cX13_byJ 2 (some .int) :: tw_W) B.pre w (List.mem_cons_of_mem _ h)
  have hown : s.vm.findClass RX13 = some m.cls := findClass_of_methodNamed B.named
  have hlocks := B.notSynchronized
  subst hsz
  unfold qi_
  have hD := hD0.self (sz := s.heap.size)
  generalize hAe : va_A [] s.heap.size = A at hD hFx ⊢
  have hA : ∀ q : Nat, s.heap.size ≤ q → A q := fun q h => by rw [← hAe]; exact Or.inr h
  have hS : va_S A s.heap s.heap [] := va_S.rf
  have hl := lv_entry ([.int pa, .int pb]) (n := 2) (Nat.le_of_ble_eq_true rfl)
  rw [lg_entry_eq]
  generalize (lg_sl ([.int pa, .int pb]) ++ List.replicate (2 - (lg_sl ([.int pa, .int pb])).length) Slot.unset).toArray = ls at hl ⊢
  have hl : lv_has ls 2 [(0, .int pa), (1, .int pb)] := hl
  refine lv_iload_n hx hb dX13_byJ_0 rfl (lv_at hl 1 rfl) ?_
  refine lv_bipush (v := 20) hx hb dX13_byJ_1 (by decide) ?_
  refine lv_ishr hx hb dX13_byJ_3 ?_
  refine lv_iconst (v := 1) hx hb dX13_byJ_4 (by decide) ?_
  refine lv_iand hx hb dX13_byJ_5 ?_
  refine lv_bipush (v := 31) hx hb dX13_byJ_6 (by decide) ?_
  refine lv_ishl hx hb dX13_byJ_8 ?_
  refine lv_iload_n hx hb dX13_byJ_9 rfl (lv_at hl 1 rfl) ?_
  refine lv_iconst (v := 1) hx hb dX13_byJ_10 (by decide) ?_
  refine lv_ishr hx hb dX13_byJ_11 ?_
  refine lv_sipush (v := 1023) hx hb dX13_byJ_12 (by decide) ?_
  refine lv_iand hx hb dX13_byJ_15 ?_
  refine lv_bipush (v := 21) hx hb dX13_byJ_16 (by decide) ?_
  refine lv_ishl hx hb dX13_byJ_18 ?_
  refine lv_ior hx hb dX13_byJ_19 ?_
  refine lv_iload_n hx hb dX13_byJ_20 rfl (lv_at hl 1 rfl) ?_
  refine lv_bipush (v := 11) hx hb dX13_byJ_21 (by decide) ?_
  refine lv_ishr hx hb dX13_byJ_23 ?_
  refine lv_iconst (v := 1) hx hb dX13_byJ_24 (by decide) ?_
  refine lv_iand hx hb dX13_byJ_25 ?_
  refine lv_bipush (v := 20) hx hb dX13_byJ_26 (by decide) ?_
  refine lv_ishl hx hb dX13_byJ_28 ?_
  refine lv_ior hx hb dX13_byJ_29 ?_
  refine lv_iload_n hx hb dX13_byJ_30 rfl (lv_at hl 1 rfl) ?_
  refine lv_bipush (v := 12) hx hb dX13_byJ_31 (by decide) ?_
  refine lv_ishr hx hb dX13_byJ_33 ?_
  refine lv_sipush (v := 255) hx hb dX13_byJ_34 (by decide) ?_
  refine lv_iand hx hb dX13_byJ_37 ?_
  refine lv_bipush (v := 12) hx hb dX13_byJ_38 (by decide) ?_
  refine lv_ishl hx hb dX13_byJ_40 ?_
  refine lv_ior hx hb dX13_byJ_41 ?_
  refine lv_iload_n hx hb dX13_byJ_42 rfl (lv_at hl 0 rfl) ?_
  refine lv_bipush (v := 7) hx hb dX13_byJ_43 (by decide) ?_
  refine lv_ishl hx hb dX13_byJ_45 ?_
  refine lv_ior hx hb dX13_byJ_46 ?_
  refine lv_bipush (v := 111) hx hb dX13_byJ_47 (by decide) ?_
  refine lv_ior hx hb dX13_byJ_49 ?_
  exact W.iret (v := ((((((((pb >>> ((20 : Int32) &&& 31)) &&& (1 : Int32)) <<< ((31 : Int32) &&& 31)) ||| (((pb >>> ((1 : Int32) &&& 31)) &&& (1023 : Int32)) <<< ((21 : Int32) &&& 31))) ||| (((pb >>> ((11 : Int32) &&& 31)) &&& (1 : Int32)) <<< ((20 : Int32) &&& 31))) ||| (((pb >>> ((12 : Int32) &&& 31)) &&& (255 : Int32)) <<< ((12 : Int32) &&& 31))) ||| (pa <<< ((7 : Int32) &&& 31))) ||| (111 : Int32))) hx hb hr (fun t ht9 hW => ⟨⟨((((((((pb >>> ((20 : Int32) &&& 31)) &&& (1 : Int32)) <<< ((31 : Int32) &&& 31)) ||| (((pb >>> ((1 : Int32) &&& 31)) &&& (1023 : Int32)) <<< ((21 : Int32) &&& 31))) ||| (((pb >>> ((11 : Int32) &&& 31)) &&& (1 : Int32)) <<< ((20 : Int32) &&& 31))) ||| (((pb >>> ((12 : Int32) &&& 31)) &&& (255 : Int32)) <<< ((12 : Int32) &&& 31))) ||| (pa <<< ((7 : Int32) &&& 31))) ||| (111 : Int32)), (), rfl, rfl, by rw [ht9]; exact hP, hD⟩, hS.F ht9⟩) hS.2.2 dX13_byJ_50
set_option maxHeartbeats 4000000 in
set_option maxRecDepth 100000 in
theorem c_m_hi (l : Launch) (dC : Nat → ClassId) (dI : Nat → Nat → Nat) (cI cB cZ cJ cR : ClassId) (tb : Nat → Nat) (sz : Nat) (pa : Int32)  : Met l yX13_hi (Cond.code yX13_hi cX13_hi 1 (some .int) :: tw_W) ({ frames := 0, cells := 0, slots := 0, locals := 0 }) (pc_ (dC, dI) (tyS cI cB cZ cJ cR) tb [] sz [.int pa]) (qi_ (dC, dI) [] sz (fun (r : Int32) (u : Unit) => (Q_m_hi pa r)) (fun (u : Unit) => [])) 0 0 (va_A [] sz) := by
  refine Met.ofW (cc := cX13_hi) (maxL := 1) (ret := (some .int)) (by decide) rfl ?_
  intro p e s m args below meth c s₁ B hml hv
  obtain ⟨rfl, hsz, hP, hKK, hD0, hFx⟩ := hv
  have hK := hKK.1
  have hx := B.exec
  have hb := B.bytes
  have hr := B.returns
  have ht : ∀ w ∈ tw_W, w.before _ s = true := fun w h => atoms_spec (ws := Cond.code yX13_hi cX13_hi 1 (some .int) :: tw_W) B.pre w (List.mem_cons_of_mem _ h)
  have hown : s.vm.findClass RX13 = some m.cls := findClass_of_methodNamed B.named
  have hlocks := B.notSynchronized
  subst hsz
  unfold qi_
  have hD := hD0.self (sz := s.heap.size)
  generalize hAe : va_A [] s.heap.size = A at hD hFx ⊢
  have hA : ∀ q : Nat, s.heap.size ≤ q → A q := fun q h => by rw [← hAe]; exact Or.inr h
  have hS : va_S A s.heap s.heap [] := va_S.rf
  have hl := lv_entry ([.int pa]) (n := 1) (Nat.le_of_ble_eq_true rfl)
  rw [lg_entry_eq]
  generalize (lg_sl ([.int pa]) ++ List.replicate (1 - (lg_sl ([.int pa])).length) Slot.unset).toArray = ls at hl ⊢
  have hl : lv_has ls 1 [(0, .int pa)] := hl
  refine lv_iload_n hx hb dX13_hi_0 rfl (lv_at hl 0 rfl) ?_
  refine lv_sipush (v := 2048) hx hb dX13_hi_1 (by decide) ?_
  refine lv_iadd hx hb dX13_hi_4 ?_
  refine lv_bipush (v := 12) hx hb dX13_hi_5 (by decide) ?_
  refine lv_iushr hx hb dX13_hi_7 rfl ?_
  exact W.iret (v := (((pa + (2048 : Int32)).toUInt32 >>> ((12 : Int32).toUInt32 &&& Int32.toUInt32 31)).toInt32)) hx hb hr (fun t ht9 hW => ⟨⟨(((pa + (2048 : Int32)).toUInt32 >>> ((12 : Int32).toUInt32 &&& Int32.toUInt32 31)).toInt32), (), rfl, rfl, by rw [ht9]; exact hP, hD⟩, hS.F ht9⟩) hS.2.2 dX13_hi_8
set_option maxHeartbeats 4000000 in
set_option maxRecDepth 100000 in
theorem c_m_lo (l : Launch) (dC : Nat → ClassId) (dI : Nat → Nat → Nat) (cI cB cZ cJ cR : ClassId) (tb : Nat → Nat) (sz : Nat) (pa : Int32)  : Met l yX13_lo (Cond.code yX13_lo cX13_lo 1 (some .int) :: tw_W) ({ frames := 1, cells := 0, slots := 0, locals := 20 }) (pc_ (dC, dI) (tyS cI cB cZ cJ cR) tb [] sz [.int pa]) (qi_ (dC, dI) [] sz (fun (r : Int32) (u : Unit) => (Q_m_lo pa r)) (fun (u : Unit) => [])) 0 0 (va_A [] sz) := by
  refine Met.ofW (cc := cX13_lo) (maxL := 1) (ret := (some .int)) (by decide) rfl ?_
  intro p e s m args below meth c s₁ B hml hv
  obtain ⟨rfl, hsz, hP, hKK, hD0, hFx⟩ := hv
  have hK := hKK.1
  have hx := B.exec
  have hb := B.bytes
  have hr := B.returns
  have ht : ∀ w ∈ tw_W, w.before _ s = true := fun w h => atoms_spec (ws := Cond.code yX13_lo cX13_lo 1 (some .int) :: tw_W) B.pre w (List.mem_cons_of_mem _ h)
  have hown : s.vm.findClass RX13 = some m.cls := findClass_of_methodNamed B.named
  have hlocks := B.notSynchronized
  subst hsz
  unfold qi_
  have hD := hD0.self (sz := s.heap.size)
  generalize hAe : va_A [] s.heap.size = A at hD hFx ⊢
  have hA : ∀ q : Nat, s.heap.size ≤ q → A q := fun q h => by rw [← hAe]; exact Or.inr h
  have hS : va_S A s.heap s.heap [] := va_S.rf
  have hl := lv_entry ([.int pa]) (n := 1) (Nat.le_of_ble_eq_true rfl)
  rw [lg_entry_eq]
  generalize (lg_sl ([.int pa]) ++ List.replicate (1 - (lg_sl ([.int pa])).length) Slot.unset).toArray = ls at hl ⊢
  have hl : lv_has ls 1 [(0, .int pa)] := hl
  refine lv_iload_n hx hb dX13_lo_0 rfl (lv_at hl 0 rfl) ?_
  refine lv_iload_n hx hb dX13_lo_1 rfl (lv_at hl 0 rfl) ?_
  refine cu_i (rn_S (n := 1) (As := [.int pa]) (rest := [.int pa]) hx hb hml hown ht hKK hFx hP hD hS hA (c_m_hi l dC dI cI cB cZ cJ cR tb s.heap.size pa ) tw_0 tw_1 (by decide +kernel) rfl rfl ⟨Nat.le_of_ble_eq_true rfl, Nat.le_of_ble_eq_true rfl⟩ [] rfl rfl rfl hl.1 rfl (Nat.le_of_ble_eq_true rfl) dX13_lo_2 ⟨Nat.le_of_ble_eq_true rfl, Nat.le_of_ble_eq_true rfl⟩) hP hD hS hA (fun r3 _ H locs hw1 hP hD hS => ?_)
  have ex1 := hw1
  refine W.widen (k := 0) (n := 0) (Nat.le_refl _) (Nat.le_refl _) ?_
  refine lv_bipush (v := 12) hx hb dX13_lo_5 (by decide) ?_
  refine lv_ishl hx hb dX13_lo_7 ?_
  refine lv_isub hx hb dX13_lo_8 ?_
  exact W.iret (v := (pa - (r3 <<< ((12 : Int32) &&& 31)))) hx hb hr (fun t ht9 hW => ⟨⟨(pa - (r3 <<< ((12 : Int32) &&& 31))), (), rfl, ⟨r3, ex1, rfl⟩, by rw [ht9]; exact hP, hD⟩, hS.F ht9⟩) hS.2.2 dX13_lo_9
set_option maxHeartbeats 4000000 in
set_option maxRecDepth 100000 in
theorem c_m_addi (l : Launch) (dC : Nat → ClassId) (dI : Nat → Nat → Nat) (cI cB cZ cJ cR : ClassId) (tb : Nat → Nat) (sz : Nat) (pa : Int32) (pb : Int32) (pc1 : Int32)  : Met l yX13_addi (Cond.code yX13_addi cX13_addi 3 (some .int) :: tw_W) ({ frames := 1, cells := 0, slots := 0, locals := 24 }) (pc_ (dC, dI) (tyS cI cB cZ cJ cR) tb [] sz [.int pa, .int pb, .int pc1]) (qi_ (dC, dI) [] sz (fun (r : Int32) (u : Unit) => (Q_m_addi pa pb pc1 r)) (fun (u : Unit) => [])) 0 0 (va_A [] sz) := by
  refine Met.ofW (cc := cX13_addi) (maxL := 3) (ret := (some .int)) (by decide) rfl ?_
  intro p e s m args below meth c s₁ B hml hv
  obtain ⟨rfl, hsz, hP, hKK, hD0, hFx⟩ := hv
  have hK := hKK.1
  have hx := B.exec
  have hb := B.bytes
  have hr := B.returns
  have ht : ∀ w ∈ tw_W, w.before _ s = true := fun w h => atoms_spec (ws := Cond.code yX13_addi cX13_addi 3 (some .int) :: tw_W) B.pre w (List.mem_cons_of_mem _ h)
  have hown : s.vm.findClass RX13 = some m.cls := findClass_of_methodNamed B.named
  have hlocks := B.notSynchronized
  subst hsz
  unfold qi_
  have hD := hD0.self (sz := s.heap.size)
  generalize hAe : va_A [] s.heap.size = A at hD hFx ⊢
  have hA : ∀ q : Nat, s.heap.size ≤ q → A q := fun q h => by rw [← hAe]; exact Or.inr h
  have hS : va_S A s.heap s.heap [] := va_S.rf
  have hl := lv_entry ([.int pa, .int pb, .int pc1]) (n := 3) (Nat.le_of_ble_eq_true rfl)
  rw [lg_entry_eq]
  generalize (lg_sl ([.int pa, .int pb, .int pc1]) ++ List.replicate (3 - (lg_sl ([.int pa, .int pb, .int pc1])).length) Slot.unset).toArray = ls at hl ⊢
  have hl : lv_has ls 3 [(0, .int pa), (1, .int pb), (2, .int pc1)] := hl
  refine lv_bipush (v := 19) hx hb dX13_addi_0 (by decide) ?_
  refine lv_iconst (v := 0) hx hb dX13_addi_2 (by decide) ?_
  refine lv_iload_n hx hb dX13_addi_3 rfl (lv_at hl 0 rfl) ?_
  refine lv_iload_n hx hb dX13_addi_4 rfl (lv_at hl 1 rfl) ?_
  refine lv_iload_n hx hb dX13_addi_5 rfl (lv_at hl 2 rfl) ?_
  refine cu_i (rn_S (n := 5) (As := [.int 19, .int 0, .int pa, .int pb, .int pc1]) (rest := []) hx hb hml hown ht hKK hFx hP hD hS hA (c_m_byI l dC dI cI cB cZ cJ cR tb s.heap.size (19 : Int32) (0 : Int32) pa pb pc1 ) tw_2 tw_3 (by decide +kernel) rfl rfl ⟨Nat.le_of_ble_eq_true rfl, Nat.le_of_ble_eq_true rfl⟩ [] rfl rfl rfl hl.1 rfl (Nat.le_of_ble_eq_true rfl) dX13_addi_6 ⟨Nat.le_of_ble_eq_true rfl, Nat.le_of_ble_eq_true rfl⟩) hP hD hS hA (fun r3 _ H locs hw1 hP hD hS => ?_)
  have ex1 := hw1
  refine W.widen (k := 0) (n := 0) (Nat.le_refl _) (Nat.le_refl _) ?_
  exact W.iret (v := r3) hx hb hr (fun t ht9 hW => ⟨⟨r3, (), rfl, ⟨r3, ex1, rfl⟩, by rw [ht9]; exact hP, hD⟩, hS.F ht9⟩) hS.2.2 dX13_addi_9
set_option maxHeartbeats 4000000 in
set_option maxRecDepth 100000 in
theorem c_m_lui (l : Launch) (dC : Nat → ClassId) (dI : Nat → Nat → Nat) (cI cB cZ cJ cR : ClassId) (tb : Nat → Nat) (sz : Nat) (pa : Int32) (pb : Int32)  : Met l yX13_lui (Cond.code yX13_lui cX13_lui 2 (some .int) :: tw_W) ({ frames := 0, cells := 0, slots := 0, locals := 0 }) (pc_ (dC, dI) (tyS cI cB cZ cJ cR) tb [] sz [.int pa, .int pb]) (qi_ (dC, dI) [] sz (fun (r : Int32) (u : Unit) => (Q_m_lui pa pb r)) (fun (u : Unit) => [])) 0 0 (va_A [] sz) := by
  refine Met.ofW (cc := cX13_lui) (maxL := 2) (ret := (some .int)) (by decide) rfl ?_
  intro p e s m args below meth c s₁ B hml hv
  obtain ⟨rfl, hsz, hP, hKK, hD0, hFx⟩ := hv
  have hK := hKK.1
  have hx := B.exec
  have hb := B.bytes
  have hr := B.returns
  have ht : ∀ w ∈ tw_W, w.before _ s = true := fun w h => atoms_spec (ws := Cond.code yX13_lui cX13_lui 2 (some .int) :: tw_W) B.pre w (List.mem_cons_of_mem _ h)
  have hown : s.vm.findClass RX13 = some m.cls := findClass_of_methodNamed B.named
  have hlocks := B.notSynchronized
  subst hsz
  unfold qi_
  have hD := hD0.self (sz := s.heap.size)
  generalize hAe : va_A [] s.heap.size = A at hD hFx ⊢
  have hA : ∀ q : Nat, s.heap.size ≤ q → A q := fun q h => by rw [← hAe]; exact Or.inr h
  have hS : va_S A s.heap s.heap [] := va_S.rf
  have hl := lv_entry ([.int pa, .int pb]) (n := 2) (Nat.le_of_ble_eq_true rfl)
  rw [lg_entry_eq]
  generalize (lg_sl ([.int pa, .int pb]) ++ List.replicate (2 - (lg_sl ([.int pa, .int pb])).length) Slot.unset).toArray = ls at hl ⊢
  have hl : lv_has ls 2 [(0, .int pa), (1, .int pb)] := hl
  refine lv_iload_n hx hb dX13_lui_0 rfl (lv_at hl 1 rfl) ?_
  refine lv_bipush (v := 12) hx hb dX13_lui_1 (by decide) ?_
  refine lv_ishl hx hb dX13_lui_3 ?_
  refine lv_iload_n hx hb dX13_lui_4 rfl (lv_at hl 0 rfl) ?_
  refine lv_bipush (v := 7) hx hb dX13_lui_5 (by decide) ?_
  refine lv_ishl hx hb dX13_lui_7 ?_
  refine lv_ior hx hb dX13_lui_8 ?_
  refine lv_bipush (v := 55) hx hb dX13_lui_9 (by decide) ?_
  refine lv_ior hx hb dX13_lui_11 ?_
  exact W.iret (v := (((pb <<< ((12 : Int32) &&& 31)) ||| (pa <<< ((7 : Int32) &&& 31))) ||| (55 : Int32))) hx hb hr (fun t ht9 hW => ⟨⟨(((pb <<< ((12 : Int32) &&& 31)) ||| (pa <<< ((7 : Int32) &&& 31))) ||| (55 : Int32)), (), rfl, rfl, by rw [ht9]; exact hP, hD⟩, hS.F ht9⟩) hS.2.2 dX13_lui_12
set_option maxHeartbeats 4000000 in
set_option maxRecDepth 100000 in
theorem c_m_lw (l : Launch) (dC : Nat → ClassId) (dI : Nat → Nat → Nat) (cI cB cZ cJ cR : ClassId) (tb : Nat → Nat) (sz : Nat) (pa : Int32) (pb : Int32) (pc1 : Int32)  : Met l yX13_lw (Cond.code yX13_lw cX13_lw 3 (some .int) :: tw_W) ({ frames := 1, cells := 0, slots := 0, locals := 24 }) (pc_ (dC, dI) (tyS cI cB cZ cJ cR) tb [] sz [.int pa, .int pb, .int pc1]) (qi_ (dC, dI) [] sz (fun (r : Int32) (u : Unit) => (Q_m_lw pa pb pc1 r)) (fun (u : Unit) => [])) 0 0 (va_A [] sz) := by
  refine Met.ofW (cc := cX13_lw) (maxL := 3) (ret := (some .int)) (by decide) rfl ?_
  intro p e s m args below meth c s₁ B hml hv
  obtain ⟨rfl, hsz, hP, hKK, hD0, hFx⟩ := hv
  have hK := hKK.1
  have hx := B.exec
  have hb := B.bytes
  have hr := B.returns
  have ht : ∀ w ∈ tw_W, w.before _ s = true := fun w h => atoms_spec (ws := Cond.code yX13_lw cX13_lw 3 (some .int) :: tw_W) B.pre w (List.mem_cons_of_mem _ h)
  have hown : s.vm.findClass RX13 = some m.cls := findClass_of_methodNamed B.named
  have hlocks := B.notSynchronized
  subst hsz
  unfold qi_
  have hD := hD0.self (sz := s.heap.size)
  generalize hAe : va_A [] s.heap.size = A at hD hFx ⊢
  have hA : ∀ q : Nat, s.heap.size ≤ q → A q := fun q h => by rw [← hAe]; exact Or.inr h
  have hS : va_S A s.heap s.heap [] := va_S.rf
  have hl := lv_entry ([.int pa, .int pb, .int pc1]) (n := 3) (Nat.le_of_ble_eq_true rfl)
  rw [lg_entry_eq]
  generalize (lg_sl ([.int pa, .int pb, .int pc1]) ++ List.replicate (3 - (lg_sl ([.int pa, .int pb, .int pc1])).length) Slot.unset).toArray = ls at hl ⊢
  have hl : lv_has ls 3 [(0, .int pa), (1, .int pb), (2, .int pc1)] := hl
  refine lv_iconst (v := 3) hx hb dX13_lw_0 (by decide) ?_
  refine lv_iconst (v := 2) hx hb dX13_lw_1 (by decide) ?_
  refine lv_iload_n hx hb dX13_lw_2 rfl (lv_at hl 0 rfl) ?_
  refine lv_iload_n hx hb dX13_lw_3 rfl (lv_at hl 2 rfl) ?_
  refine lv_iload_n hx hb dX13_lw_4 rfl (lv_at hl 1 rfl) ?_
  refine cu_i (rn_S (n := 5) (As := [.int 3, .int 2, .int pa, .int pc1, .int pb]) (rest := []) hx hb hml hown ht hKK hFx hP hD hS hA (c_m_byI l dC dI cI cB cZ cJ cR tb s.heap.size (3 : Int32) (2 : Int32) pa pc1 pb ) tw_2 tw_3 (by decide +kernel) rfl rfl ⟨Nat.le_of_ble_eq_true rfl, Nat.le_of_ble_eq_true rfl⟩ [] rfl rfl rfl hl.1 rfl (Nat.le_of_ble_eq_true rfl) dX13_lw_5 ⟨Nat.le_of_ble_eq_true rfl, Nat.le_of_ble_eq_true rfl⟩) hP hD hS hA (fun r3 _ H locs hw1 hP hD hS => ?_)
  have ex1 := hw1
  refine W.widen (k := 0) (n := 0) (Nat.le_refl _) (Nat.le_refl _) ?_
  exact W.iret (v := r3) hx hb hr (fun t ht9 hW => ⟨⟨r3, (), rfl, ⟨r3, ex1, rfl⟩, by rw [ht9]; exact hP, hD⟩, hS.F ht9⟩) hS.2.2 dX13_lw_8
set_option maxHeartbeats 4000000 in
set_option maxRecDepth 100000 in
theorem c_m_sw (l : Launch) (dC : Nat → ClassId) (dI : Nat → Nat → Nat) (cI cB cZ cJ cR : ClassId) (tb : Nat → Nat) (sz : Nat) (pa : Int32) (pb : Int32) (pc1 : Int32)  : Met l yX13_sw (Cond.code yX13_sw cX13_sw 3 (some .int) :: tw_W) ({ frames := 0, cells := 0, slots := 0, locals := 0 }) (pc_ (dC, dI) (tyS cI cB cZ cJ cR) tb [] sz [.int pa, .int pb, .int pc1]) (qi_ (dC, dI) [] sz (fun (r : Int32) (u : Unit) => (Q_m_sw pa pb pc1 r)) (fun (u : Unit) => [])) 0 0 (va_A [] sz) := by
  refine Met.ofW (cc := cX13_sw) (maxL := 3) (ret := (some .int)) (by decide) rfl ?_
  intro p e s m args below meth c s₁ B hml hv
  obtain ⟨rfl, hsz, hP, hKK, hD0, hFx⟩ := hv
  have hK := hKK.1
  have hx := B.exec
  have hb := B.bytes
  have hr := B.returns
  have ht : ∀ w ∈ tw_W, w.before _ s = true := fun w h => atoms_spec (ws := Cond.code yX13_sw cX13_sw 3 (some .int) :: tw_W) B.pre w (List.mem_cons_of_mem _ h)
  have hown : s.vm.findClass RX13 = some m.cls := findClass_of_methodNamed B.named
  have hlocks := B.notSynchronized
  subst hsz
  unfold qi_
  have hD := hD0.self (sz := s.heap.size)
  generalize hAe : va_A [] s.heap.size = A at hD hFx ⊢
  have hA : ∀ q : Nat, s.heap.size ≤ q → A q := fun q h => by rw [← hAe]; exact Or.inr h
  have hS : va_S A s.heap s.heap [] := va_S.rf
  have hl := lv_entry ([.int pa, .int pb, .int pc1]) (n := 3) (Nat.le_of_ble_eq_true rfl)
  rw [lg_entry_eq]
  generalize (lg_sl ([.int pa, .int pb, .int pc1]) ++ List.replicate (3 - (lg_sl ([.int pa, .int pb, .int pc1])).length) Slot.unset).toArray = ls at hl ⊢
  have hl : lv_has ls 3 [(0, .int pa), (1, .int pb), (2, .int pc1)] := hl
  refine lv_iload_n hx hb dX13_sw_0 rfl (lv_at hl 1 rfl) ?_
  refine lv_iconst (v := 5) hx hb dX13_sw_1 (by decide) ?_
  refine lv_ishr hx hb dX13_sw_2 ?_
  refine lv_bipush (v := 127) hx hb dX13_sw_3 (by decide) ?_
  refine lv_iand hx hb dX13_sw_5 ?_
  refine lv_bipush (v := 25) hx hb dX13_sw_6 (by decide) ?_
  refine lv_ishl hx hb dX13_sw_8 ?_
  refine lv_iload_n hx hb dX13_sw_9 rfl (lv_at hl 0 rfl) ?_
  refine lv_bipush (v := 20) hx hb dX13_sw_10 (by decide) ?_
  refine lv_ishl hx hb dX13_sw_12 ?_
  refine lv_ior hx hb dX13_sw_13 ?_
  refine lv_iload_n hx hb dX13_sw_14 rfl (lv_at hl 2 rfl) ?_
  refine lv_bipush (v := 15) hx hb dX13_sw_15 (by decide) ?_
  refine lv_ishl hx hb dX13_sw_17 ?_
  refine lv_ior hx hb dX13_sw_18 ?_
  refine lv_sipush (v := 8192) hx hb dX13_sw_19 (by decide) ?_
  refine lv_ior hx hb dX13_sw_22 ?_
  refine lv_iload_n hx hb dX13_sw_23 rfl (lv_at hl 1 rfl) ?_
  refine lv_bipush (v := 31) hx hb dX13_sw_24 (by decide) ?_
  refine lv_iand hx hb dX13_sw_26 ?_
  refine lv_bipush (v := 7) hx hb dX13_sw_27 (by decide) ?_
  refine lv_ishl hx hb dX13_sw_29 ?_
  refine lv_ior hx hb dX13_sw_30 ?_
  refine lv_bipush (v := 35) hx hb dX13_sw_31 (by decide) ?_
  refine lv_ior hx hb dX13_sw_33 ?_
  exact W.iret (v := ((((((((pb >>> ((5 : Int32) &&& 31)) &&& (127 : Int32)) <<< ((25 : Int32) &&& 31)) ||| (pa <<< ((20 : Int32) &&& 31))) ||| (pc1 <<< ((15 : Int32) &&& 31))) ||| (8192 : Int32)) ||| ((pb &&& (31 : Int32)) <<< ((7 : Int32) &&& 31))) ||| (35 : Int32))) hx hb hr (fun t ht9 hW => ⟨⟨((((((((pb >>> ((5 : Int32) &&& 31)) &&& (127 : Int32)) <<< ((25 : Int32) &&& 31)) ||| (pa <<< ((20 : Int32) &&& 31))) ||| (pc1 <<< ((15 : Int32) &&& 31))) ||| (8192 : Int32)) ||| ((pb &&& (31 : Int32)) <<< ((7 : Int32) &&& 31))) ||| (35 : Int32)), (), rfl, rfl, by rw [ht9]; exact hP, hD⟩, hS.F ht9⟩) hS.2.2 dX13_sw_34
set_option maxHeartbeats 4000000 in
set_option maxRecDepth 100000 in
theorem c_m_slotAt (l : Launch) (dC : Nat → ClassId) (dI : Nat → Nat → Nat) (cI cB cZ cJ cR : ClassId) (tb : Nat → Nat) (sz : Nat) (pa : Int32)  : Met l yX13_slotAt (Cond.code yX13_slotAt cX13_slotAt 1 (some .int) :: tw_W) ({ frames := 0, cells := 0, slots := 0, locals := 0 }) (pc_ (dC, dI) (tyS cI cB cZ cJ cR) tb [] sz [.int pa]) (qi_ (dC, dI) [] sz (fun (r : Int32) (u : Unit) => (Q_m_slotAt pa r)) (fun (u : Unit) => [])) 0 0 (va_A [] sz) := by
  refine Met.ofW (cc := cX13_slotAt) (maxL := 1) (ret := (some .int)) (by decide) rfl ?_
  intro p e s m args below meth c s₁ B hml hv
  obtain ⟨rfl, hsz, hP, hKK, hD0, hFx⟩ := hv
  have hK := hKK.1
  have hx := B.exec
  have hb := B.bytes
  have hr := B.returns
  have ht : ∀ w ∈ tw_W, w.before _ s = true := fun w h => atoms_spec (ws := Cond.code yX13_slotAt cX13_slotAt 1 (some .int) :: tw_W) B.pre w (List.mem_cons_of_mem _ h)
  have hown : s.vm.findClass RX13 = some m.cls := findClass_of_methodNamed B.named
  have hlocks := B.notSynchronized
  subst hsz
  unfold qi_
  have hD := hD0.self (sz := s.heap.size)
  generalize hAe : va_A [] s.heap.size = A at hD hFx ⊢
  have hA : ∀ q : Nat, s.heap.size ≤ q → A q := fun q h => by rw [← hAe]; exact Or.inr h
  have hS : va_S A s.heap s.heap [] := va_S.rf
  have hl := lv_entry ([.int pa]) (n := 1) (Nat.le_of_ble_eq_true rfl)
  rw [lg_entry_eq]
  generalize (lg_sl ([.int pa]) ++ List.replicate (1 - (lg_sl ([.int pa])).length) Slot.unset).toArray = ls at hl ⊢
  have hl : lv_has ls 1 [(0, .int pa)] := hl
  refine lv_bipush (v := -12) hx hb dX13_slotAt_0 (by decide) ?_
  refine lv_iconst (v := 4) hx hb dX13_slotAt_2 (by decide) ?_
  refine lv_iload_n hx hb dX13_slotAt_3 rfl (lv_at hl 0 rfl) ?_
  refine lv_imul hx hb dX13_slotAt_4 ?_
  refine lv_isub hx hb dX13_slotAt_5 ?_
  exact W.iret (v := (((-12) : Int32) - ((4 : Int32) * pa))) hx hb hr (fun t ht9 hW => ⟨⟨(((-12) : Int32) - ((4 : Int32) * pa)), (), rfl, rfl, by rw [ht9]; exact hP, hD⟩, hS.F ht9⟩) hS.2.2 dX13_slotAt_6
set_option maxHeartbeats 4000000 in
set_option maxRecDepth 100000 in
theorem c_m_imJ (l : Launch) (dC : Nat → ClassId) (dI : Nat → Nat → Nat) (cI cB cZ cJ cR : ClassId) (tb : Nat → Nat) (sz : Nat) (pa : Int32)  : Met l yX13_imJ (Cond.code yX13_imJ cX13_imJ 1 (some .int) :: tw_W) ({ frames := 0, cells := 0, slots := 0, locals := 0 }) (pc_ (dC, dI) (tyS cI cB cZ cJ cR) tb [] sz [.int pa]) (qi_ (dC, dI) [] sz (fun (r : Int32) (u : Unit) => True) (fun (u : Unit) => [])) 0 0 (va_A [] sz) := by
  refine Met.ofW (cc := cX13_imJ) (maxL := 1) (ret := (some .int)) (by decide) rfl ?_
  intro p e s m args below meth c s₁ B hml hv
  obtain ⟨rfl, hsz, hP, hKK, hD0, hFx⟩ := hv
  have hK := hKK.1
  have hx := B.exec
  have hb := B.bytes
  have hr := B.returns
  have ht : ∀ w ∈ tw_W, w.before _ s = true := fun w h => atoms_spec (ws := Cond.code yX13_imJ cX13_imJ 1 (some .int) :: tw_W) B.pre w (List.mem_cons_of_mem _ h)
  have hown : s.vm.findClass RX13 = some m.cls := findClass_of_methodNamed B.named
  have hlocks := B.notSynchronized
  subst hsz
  unfold qi_
  have hD := hD0.self (sz := s.heap.size)
  generalize hAe : va_A [] s.heap.size = A at hD hFx ⊢
  have hA : ∀ q : Nat, s.heap.size ≤ q → A q := fun q h => by rw [← hAe]; exact Or.inr h
  have hS : va_S A s.heap s.heap [] := va_S.rf
  have hl := lv_entry ([.int pa]) (n := 1) (Nat.le_of_ble_eq_true rfl)
  rw [lg_entry_eq]
  generalize (lg_sl ([.int pa]) ++ List.replicate (1 - (lg_sl ([.int pa])).length) Slot.unset).toArray = ls at hl ⊢
  have hl : lv_has ls 1 [(0, .int pa)] := hl
  refine lv_iload_n hx hb dX13_imJ_0 rfl (lv_at hl 0 rfl) ?_
  refine lv_bipush (v := 31) hx hb dX13_imJ_1 (by decide) ?_
  refine lv_ishr hx hb dX13_imJ_3 ?_
  refine lv_bipush (v := 20) hx hb dX13_imJ_4 (by decide) ?_
  refine lv_ishl hx hb dX13_imJ_6 ?_
  refine lv_iload_n hx hb dX13_imJ_7 rfl (lv_at hl 0 rfl) ?_
  refine lv_bipush (v := 12) hx hb dX13_imJ_8 (by decide) ?_
  refine lv_ishr hx hb dX13_imJ_10 ?_
  refine lv_sipush (v := 255) hx hb dX13_imJ_11 (by decide) ?_
  refine lv_iand hx hb dX13_imJ_14 ?_
  refine lv_bipush (v := 12) hx hb dX13_imJ_15 (by decide) ?_
  refine lv_ishl hx hb dX13_imJ_17 ?_
  refine lv_ior hx hb dX13_imJ_18 ?_
  refine lv_iload_n hx hb dX13_imJ_19 rfl (lv_at hl 0 rfl) ?_
  refine lv_bipush (v := 20) hx hb dX13_imJ_20 (by decide) ?_
  refine lv_ishr hx hb dX13_imJ_22 ?_
  refine lv_iconst (v := 1) hx hb dX13_imJ_23 (by decide) ?_
  refine lv_iand hx hb dX13_imJ_24 ?_
  refine lv_bipush (v := 11) hx hb dX13_imJ_25 (by decide) ?_
  refine lv_ishl hx hb dX13_imJ_27 ?_
  refine lv_ior hx hb dX13_imJ_28 ?_
  refine lv_iload_n hx hb dX13_imJ_29 rfl (lv_at hl 0 rfl) ?_
  refine lv_bipush (v := 21) hx hb dX13_imJ_30 (by decide) ?_
  refine lv_ishr hx hb dX13_imJ_32 ?_
  refine lv_sipush (v := 1023) hx hb dX13_imJ_33 (by decide) ?_
  refine lv_iand hx hb dX13_imJ_36 ?_
  refine lv_iconst (v := 1) hx hb dX13_imJ_37 (by decide) ?_
  refine lv_ishl hx hb dX13_imJ_38 ?_
  refine lv_ior hx hb dX13_imJ_39 ?_
  exact W.iret (v := (((((pa >>> ((31 : Int32) &&& 31)) <<< ((20 : Int32) &&& 31)) ||| (((pa >>> ((12 : Int32) &&& 31)) &&& (255 : Int32)) <<< ((12 : Int32) &&& 31))) ||| (((pa >>> ((20 : Int32) &&& 31)) &&& (1 : Int32)) <<< ((11 : Int32) &&& 31))) ||| (((pa >>> ((21 : Int32) &&& 31)) &&& (1023 : Int32)) <<< ((1 : Int32) &&& 31)))) hx hb hr (fun t ht9 hW => ⟨⟨(((((pa >>> ((31 : Int32) &&& 31)) <<< ((20 : Int32) &&& 31)) ||| (((pa >>> ((12 : Int32) &&& 31)) &&& (255 : Int32)) <<< ((12 : Int32) &&& 31))) ||| (((pa >>> ((20 : Int32) &&& 31)) &&& (1 : Int32)) <<< ((11 : Int32) &&& 31))) ||| (((pa >>> ((21 : Int32) &&& 31)) &&& (1023 : Int32)) <<< ((1 : Int32) &&& 31))), (), rfl, trivial, by rw [ht9]; exact hP, hD⟩, hS.F ht9⟩) hS.2.2 dX13_imJ_40
set_option maxHeartbeats 4000000 in
set_option maxRecDepth 100000 in
theorem c_m_imB (l : Launch) (dC : Nat → ClassId) (dI : Nat → Nat → Nat) (cI cB cZ cJ cR : ClassId) (tb : Nat → Nat) (sz : Nat) (pa : Int32)  : Met l yX13_imB (Cond.code yX13_imB cX13_imB 1 (some .int) :: tw_W) ({ frames := 0, cells := 0, slots := 0, locals := 0 }) (pc_ (dC, dI) (tyS cI cB cZ cJ cR) tb [] sz [.int pa]) (qi_ (dC, dI) [] sz (fun (r : Int32) (u : Unit) => True) (fun (u : Unit) => [])) 0 0 (va_A [] sz) := by
  refine Met.ofW (cc := cX13_imB) (maxL := 1) (ret := (some .int)) (by decide) rfl ?_
  intro p e s m args below meth c s₁ B hml hv
  obtain ⟨rfl, hsz, hP, hKK, hD0, hFx⟩ := hv
  have hK := hKK.1
  have hx := B.exec
  have hb := B.bytes
  have hr := B.returns
  have ht : ∀ w ∈ tw_W, w.before _ s = true := fun w h => atoms_spec (ws := Cond.code yX13_imB cX13_imB 1 (some .int) :: tw_W) B.pre w (List.mem_cons_of_mem _ h)
  have hown : s.vm.findClass RX13 = some m.cls := findClass_of_methodNamed B.named
  have hlocks := B.notSynchronized
  subst hsz
  unfold qi_
  have hD := hD0.self (sz := s.heap.size)
  generalize hAe : va_A [] s.heap.size = A at hD hFx ⊢
  have hA : ∀ q : Nat, s.heap.size ≤ q → A q := fun q h => by rw [← hAe]; exact Or.inr h
  have hS : va_S A s.heap s.heap [] := va_S.rf
  have hl := lv_entry ([.int pa]) (n := 1) (Nat.le_of_ble_eq_true rfl)
  rw [lg_entry_eq]
  generalize (lg_sl ([.int pa]) ++ List.replicate (1 - (lg_sl ([.int pa])).length) Slot.unset).toArray = ls at hl ⊢
  have hl : lv_has ls 1 [(0, .int pa)] := hl
  refine lv_iload_n hx hb dX13_imB_0 rfl (lv_at hl 0 rfl) ?_
  refine lv_bipush (v := 31) hx hb dX13_imB_1 (by decide) ?_
  refine lv_ishr hx hb dX13_imB_3 ?_
  refine lv_bipush (v := 12) hx hb dX13_imB_4 (by decide) ?_
  refine lv_ishl hx hb dX13_imB_6 ?_
  refine lv_iload_n hx hb dX13_imB_7 rfl (lv_at hl 0 rfl) ?_
  refine lv_bipush (v := 7) hx hb dX13_imB_8 (by decide) ?_
  refine lv_ishr hx hb dX13_imB_10 ?_
  refine lv_iconst (v := 1) hx hb dX13_imB_11 (by decide) ?_
  refine lv_iand hx hb dX13_imB_12 ?_
  refine lv_bipush (v := 11) hx hb dX13_imB_13 (by decide) ?_
  refine lv_ishl hx hb dX13_imB_15 ?_
  refine lv_ior hx hb dX13_imB_16 ?_
  refine lv_iload_n hx hb dX13_imB_17 rfl (lv_at hl 0 rfl) ?_
  refine lv_bipush (v := 25) hx hb dX13_imB_18 (by decide) ?_
  refine lv_ishr hx hb dX13_imB_20 ?_
  refine lv_bipush (v := 63) hx hb dX13_imB_21 (by decide) ?_
  refine lv_iand hx hb dX13_imB_23 ?_
  refine lv_iconst (v := 5) hx hb dX13_imB_24 (by decide) ?_
  refine lv_ishl hx hb dX13_imB_25 ?_
  refine lv_ior hx hb dX13_imB_26 ?_
  refine lv_iload_n hx hb dX13_imB_27 rfl (lv_at hl 0 rfl) ?_
  refine lv_bipush (v := 8) hx hb dX13_imB_28 (by decide) ?_
  refine lv_ishr hx hb dX13_imB_30 ?_
  refine lv_bipush (v := 15) hx hb dX13_imB_31 (by decide) ?_
  refine lv_iand hx hb dX13_imB_33 ?_
  refine lv_iconst (v := 1) hx hb dX13_imB_34 (by decide) ?_
  refine lv_ishl hx hb dX13_imB_35 ?_
  refine lv_ior hx hb dX13_imB_36 ?_
  exact W.iret (v := (((((pa >>> ((31 : Int32) &&& 31)) <<< ((12 : Int32) &&& 31)) ||| (((pa >>> ((7 : Int32) &&& 31)) &&& (1 : Int32)) <<< ((11 : Int32) &&& 31))) ||| (((pa >>> ((25 : Int32) &&& 31)) &&& (63 : Int32)) <<< ((5 : Int32) &&& 31))) ||| (((pa >>> ((8 : Int32) &&& 31)) &&& (15 : Int32)) <<< ((1 : Int32) &&& 31)))) hx hb hr (fun t ht9 hW => ⟨⟨(((((pa >>> ((31 : Int32) &&& 31)) <<< ((12 : Int32) &&& 31)) ||| (((pa >>> ((7 : Int32) &&& 31)) &&& (1 : Int32)) <<< ((11 : Int32) &&& 31))) ||| (((pa >>> ((25 : Int32) &&& 31)) &&& (63 : Int32)) <<< ((5 : Int32) &&& 31))) ||| (((pa >>> ((8 : Int32) &&& 31)) &&& (15 : Int32)) <<< ((1 : Int32) &&& 31))), (), rfl, trivial, by rw [ht9]; exact hP, hD⟩, hS.F ht9⟩) hS.2.2 dX13_imB_37
theorem om_5f5b24765f {x0 : Int} (h0 : (48 : Int) ≤ x0) : x0 ≠ 0 := by omega
set_option maxHeartbeats 4000000 in
set_option maxRecDepth 100000 in
theorem c_m_isDigit (l : Launch) (dC : Nat → ClassId) (dI : Nat → Nat → Nat) (cI cB cZ cJ cR : ClassId) (tb : Nat → Nat) (sz : Nat) (pa : Int32)  : Met l yX13_isDigit (Cond.code yX13_isDigit cX13_isDigit 1 (some .boolean) :: tw_W) ({ frames := 0, cells := 0, slots := 0, locals := 0 }) (pc_ (dC, dI) (tyS cI cB cZ cJ cR) tb [] sz [.int pa]) (qi_ (dC, dI) [] sz (fun (r : Int32) (u : Unit) => (Q_m_isDigit pa r) ∧ (r = 0 ∨ r = 1) ∧ (r.toInt = 0 ∨ pa.toInt ≠ 0)) (fun (u : Unit) => [])) 0 0 (va_A [] sz) := by
  refine Met.ofW (cc := cX13_isDigit) (maxL := 1) (ret := (some .boolean)) (by decide) rfl ?_
  intro p e s m args below meth c s₁ B hml hv
  obtain ⟨rfl, hsz, hP, hKK, hD0, hFx⟩ := hv
  have hK := hKK.1
  have hx := B.exec
  have hb := B.bytes
  have hr := B.returns
  have ht : ∀ w ∈ tw_W, w.before _ s = true := fun w h => atoms_spec (ws := Cond.code yX13_isDigit cX13_isDigit 1 (some .boolean) :: tw_W) B.pre w (List.mem_cons_of_mem _ h)
  have hown : s.vm.findClass RX13 = some m.cls := findClass_of_methodNamed B.named
  have hlocks := B.notSynchronized
  subst hsz
  unfold qi_
  have hD := hD0.self (sz := s.heap.size)
  generalize hAe : va_A [] s.heap.size = A at hD hFx ⊢
  have hA : ∀ q : Nat, s.heap.size ≤ q → A q := fun q h => by rw [← hAe]; exact Or.inr h
  have hS : va_S A s.heap s.heap [] := va_S.rf
  have hl := lv_entry ([.int pa]) (n := 1) (Nat.le_of_ble_eq_true rfl)
  rw [lg_entry_eq]
  generalize (lg_sl ([.int pa]) ++ List.replicate (1 - (lg_sl ([.int pa])).length) Slot.unset).toArray = ls at hl ⊢
  have hl : lv_has ls 1 [(0, .int pa)] := hl
  refine lv_iload_n hx hb dX13_isDigit_0 rfl (lv_at hl 0 rfl) ?_
  refine lv_bipush (v := 48) hx hb dX13_isDigit_1 (by decide) ?_
  refine lv_icmp_lt (tgt := 16) hx hb dX13_isDigit_3 (by decide) (fun h1 => ?_) (fun h1 => ?_)
  · have z2 : pa.toInt < (48 : Int) := lt_z rfl (show (48 : Int32).toInt = (48 : Int) by decide) h1
    refine lv_iconst (v := 0) hx hb dX13_isDigit_16 (by decide) ?_
    exact W.zret (v := 0) hx hb hr rfl (fun t ht9 hW => ⟨⟨0, (), rfl, ⟨(Or.inl ⟨z2, rfl⟩), ⟨Or.inl rfl, Or.inl (by decide)⟩⟩, by rw [ht9]; exact hP, hD⟩, hS.F ht9⟩) hS.2.2 dX13_isDigit_17
  · have z3 : (48 : Int) ≤ pa.toInt := nlt_z rfl (show (48 : Int32).toInt = (48 : Int) by decide) h1
    refine lv_iload_n hx hb dX13_isDigit_6 rfl (lv_at hl 0 rfl) ?_
    refine lv_bipush (v := 57) hx hb dX13_isDigit_7 (by decide) ?_
    refine lv_icmp_gt (tgt := 16) hx hb dX13_isDigit_9 (by decide) (fun h4 => ?_) (fun h4 => ?_)
    · have z5 : (57 : Int) < pa.toInt := lt_z (show (57 : Int32).toInt = (57 : Int) by decide) rfl h4
      refine lv_iconst (v := 0) hx hb dX13_isDigit_16 (by decide) ?_
      exact W.zret (v := 0) hx hb hr rfl (fun t ht9 hW => ⟨⟨0, (), rfl, ⟨(Or.inr (⟨z3, (Or.inl ⟨z5, rfl⟩)⟩)), ⟨Or.inl rfl, Or.inl (by decide)⟩⟩, by rw [ht9]; exact hP, hD⟩, hS.F ht9⟩) hS.2.2 dX13_isDigit_17
    · have z6 : pa.toInt ≤ (57 : Int) := nlt_z (show (57 : Int32).toInt = (57 : Int) by decide) rfl h4
      refine lv_iconst (v := 1) hx hb dX13_isDigit_12 (by decide) ?_
      refine lv_goto (tgt := 17) hx hb dX13_isDigit_13 (by decide) ?_
      exact W.zret (v := 1) hx hb hr rfl (fun t ht9 hW => ⟨⟨1, (), rfl, ⟨(Or.inr (⟨z3, (Or.inr (⟨z6, rfl⟩))⟩)), ⟨Or.inr rfl, Or.inr (om_5f5b24765f z3)⟩⟩, by rw [ht9]; exact hP, hD⟩, hS.F ht9⟩) hS.2.2 dX13_isDigit_17
theorem om_57859fe3c5 {x0 : Int} (h0 : x0 = (9 : Int)) : x0 ≠ 0 := by omega
theorem om_d2a219cdfa {x0 : Int} (h0 : x0 = (10 : Int)) : x0 ≠ 0 := by omega
theorem om_a3d78de7ac {x0 : Int} (h0 : x0 = (13 : Int)) : x0 ≠ 0 := by omega
theorem om_e061c321aa {x0 : Int} (h0 : x0 = (32 : Int)) : x0 ≠ 0 := by omega
set_option maxHeartbeats 4000000 in
set_option maxRecDepth 100000 in
theorem c_m_isBlank (l : Launch) (dC : Nat → ClassId) (dI : Nat → Nat → Nat) (cI cB cZ cJ cR : ClassId) (tb : Nat → Nat) (sz : Nat) (pa : Int32)  : Met l yX13_isBlank (Cond.code yX13_isBlank cX13_isBlank 1 (some .boolean) :: tw_W) ({ frames := 0, cells := 0, slots := 0, locals := 0 }) (pc_ (dC, dI) (tyS cI cB cZ cJ cR) tb [] sz [.int pa]) (qi_ (dC, dI) [] sz (fun (r : Int32) (u : Unit) => (Q_m_isBlank pa r) ∧ (r = 0 ∨ r = 1) ∧ (r.toInt = 0 ∨ pa.toInt ≠ 0)) (fun (u : Unit) => [])) 0 0 (va_A [] sz) := by
  refine Met.ofW (cc := cX13_isBlank) (maxL := 1) (ret := (some .boolean)) (by decide) rfl ?_
  intro p e s m args below meth c s₁ B hml hv
  obtain ⟨rfl, hsz, hP, hKK, hD0, hFx⟩ := hv
  have hK := hKK.1
  have hx := B.exec
  have hb := B.bytes
  have hr := B.returns
  have ht : ∀ w ∈ tw_W, w.before _ s = true := fun w h => atoms_spec (ws := Cond.code yX13_isBlank cX13_isBlank 1 (some .boolean) :: tw_W) B.pre w (List.mem_cons_of_mem _ h)
  have hown : s.vm.findClass RX13 = some m.cls := findClass_of_methodNamed B.named
  have hlocks := B.notSynchronized
  subst hsz
  unfold qi_
  have hD := hD0.self (sz := s.heap.size)
  generalize hAe : va_A [] s.heap.size = A at hD hFx ⊢
  have hA : ∀ q : Nat, s.heap.size ≤ q → A q := fun q h => by rw [← hAe]; exact Or.inr h
  have hS : va_S A s.heap s.heap [] := va_S.rf
  have hl := lv_entry ([.int pa]) (n := 1) (Nat.le_of_ble_eq_true rfl)
  rw [lg_entry_eq]
  generalize (lg_sl ([.int pa]) ++ List.replicate (1 - (lg_sl ([.int pa])).length) Slot.unset).toArray = ls at hl ⊢
  have hl : lv_has ls 1 [(0, .int pa)] := hl
  refine lv_iload_n hx hb dX13_isBlank_0 rfl (lv_at hl 0 rfl) ?_
  refine lv_bipush (v := 9) hx hb dX13_isBlank_1 (by decide) ?_
  refine lv_icmp_eq (tgt := 24) hx hb dX13_isBlank_3 (by decide) (fun h1 => ?_) (fun h1 => ?_)
  · have z2 : pa.toInt = (9 : Int) := eq_z rfl (show (9 : Int32).toInt = (9 : Int) by decide) h1
    refine lv_iconst (v := 1) hx hb dX13_isBlank_24 (by decide) ?_
    refine lv_goto (tgt := 29) hx hb dX13_isBlank_25 (by decide) ?_
    exact W.zret (v := 1) hx hb hr rfl (fun t ht9 hW => ⟨⟨1, (), rfl, ⟨(Or.inl ⟨z2, rfl⟩), ⟨Or.inr rfl, Or.inr (om_57859fe3c5 z2)⟩⟩, by rw [ht9]; exact hP, hD⟩, hS.F ht9⟩) hS.2.2 dX13_isBlank_29
  · have z3 : pa.toInt ≠ (9 : Int) := ne_z rfl (show (9 : Int32).toInt = (9 : Int) by decide) h1
    refine lv_iload_n hx hb dX13_isBlank_6 rfl (lv_at hl 0 rfl) ?_
    refine lv_bipush (v := 10) hx hb dX13_isBlank_7 (by decide) ?_
    refine lv_icmp_eq (tgt := 24) hx hb dX13_isBlank_9 (by decide) (fun h4 => ?_) (fun h4 => ?_)
    · have z5 : pa.toInt = (10 : Int) := eq_z rfl (show (10 : Int32).toInt = (10 : Int) by decide) h4
      refine lv_iconst (v := 1) hx hb dX13_isBlank_24 (by decide) ?_
      refine lv_goto (tgt := 29) hx hb dX13_isBlank_25 (by decide) ?_
      exact W.zret (v := 1) hx hb hr rfl (fun t ht9 hW => ⟨⟨1, (), rfl, ⟨(Or.inr (⟨z3, (Or.inl ⟨z5, rfl⟩)⟩)), ⟨Or.inr rfl, Or.inr (om_d2a219cdfa z5)⟩⟩, by rw [ht9]; exact hP, hD⟩, hS.F ht9⟩) hS.2.2 dX13_isBlank_29
    · have z6 : pa.toInt ≠ (10 : Int) := ne_z rfl (show (10 : Int32).toInt = (10 : Int) by decide) h4
      refine lv_iload_n hx hb dX13_isBlank_12 rfl (lv_at hl 0 rfl) ?_
      refine lv_bipush (v := 13) hx hb dX13_isBlank_13 (by decide) ?_
      refine lv_icmp_eq (tgt := 24) hx hb dX13_isBlank_15 (by decide) (fun h7 => ?_) (fun h7 => ?_)
      · have z8 : pa.toInt = (13 : Int) := eq_z rfl (show (13 : Int32).toInt = (13 : Int) by decide) h7
        refine lv_iconst (v := 1) hx hb dX13_isBlank_24 (by decide) ?_
        refine lv_goto (tgt := 29) hx hb dX13_isBlank_25 (by decide) ?_
        exact W.zret (v := 1) hx hb hr rfl (fun t ht9 hW => ⟨⟨1, (), rfl, ⟨(Or.inr (⟨z3, (Or.inr (⟨z6, (Or.inl ⟨z8, rfl⟩)⟩))⟩)), ⟨Or.inr rfl, Or.inr (om_a3d78de7ac z8)⟩⟩, by rw [ht9]; exact hP, hD⟩, hS.F ht9⟩) hS.2.2 dX13_isBlank_29
      · have z9 : pa.toInt ≠ (13 : Int) := ne_z rfl (show (13 : Int32).toInt = (13 : Int) by decide) h7
        refine lv_iload_n hx hb dX13_isBlank_18 rfl (lv_at hl 0 rfl) ?_
        refine lv_bipush (v := 32) hx hb dX13_isBlank_19 (by decide) ?_
        refine lv_icmp_ne (tgt := 28) hx hb dX13_isBlank_21 (by decide) (fun h10 => ?_) (fun h10 => ?_)
        · have z11 : pa.toInt ≠ (32 : Int) := ne_z rfl (show (32 : Int32).toInt = (32 : Int) by decide) h10
          refine lv_iconst (v := 0) hx hb dX13_isBlank_28 (by decide) ?_
          exact W.zret (v := 0) hx hb hr rfl (fun t ht9 hW => ⟨⟨0, (), rfl, ⟨(Or.inr (⟨z3, (Or.inr (⟨z6, (Or.inr (⟨z9, (Or.inl ⟨z11, rfl⟩)⟩))⟩))⟩)), ⟨Or.inl rfl, Or.inl (by decide)⟩⟩, by rw [ht9]; exact hP, hD⟩, hS.F ht9⟩) hS.2.2 dX13_isBlank_29
        · have z12 : pa.toInt = (32 : Int) := eq_z rfl (show (32 : Int32).toInt = (32 : Int) by decide) h10
          refine lv_iconst (v := 1) hx hb dX13_isBlank_24 (by decide) ?_
          refine lv_goto (tgt := 29) hx hb dX13_isBlank_25 (by decide) ?_
          exact W.zret (v := 1) hx hb hr rfl (fun t ht9 hW => ⟨⟨1, (), rfl, ⟨(Or.inr (⟨z3, (Or.inr (⟨z6, (Or.inr (⟨z9, (Or.inr (⟨z12, rfl⟩))⟩))⟩))⟩)), ⟨Or.inr rfl, Or.inr (om_e061c321aa z12)⟩⟩, by rw [ht9]; exact hP, hD⟩, hS.F ht9⟩) hS.2.2 dX13_isBlank_29
theorem om_125caba8e6 {x0 : Int} (h0 : x0 < (65 : Int)) (h1 : x0 = (95 : Int)) : False := by omega
theorem om_57efa0fe71 {x0 x1 : Int} (h0 : (x0 = 0 ∨ x1 ≠ 0)) (h1 : x0 ≠ (0 : Int)) : x1 ≠ 0 := by omega
theorem om_10efc782fb {x0 : Int} (h0 : (65 : Int) ≤ x0) : x0 ≠ 0 := by omega
theorem om_99e52935c4 {x0 : Int} (h0 : x0 = (95 : Int)) : x0 ≠ 0 := by omega
theorem om_7cec9a6247 {x0 : Int} (h0 : (90 : Int) < x0) : x0 ≠ 0 := by omega
theorem om_8e35742a5f {x0 : Int} (h0 : (97 : Int) ≤ x0) : x0 ≠ 0 := by omega
theorem om_5710ec9dea {x0 : Int} (h0 : (122 : Int) < x0) (h1 : x0 < (65 : Int)) : False := by omega
theorem om_fd180de3f1 {x0 : Int} (h0 : (122 : Int) < x0) (h1 : x0 ≤ (90 : Int)) : False := by omega
theorem om_ff67b1dfb4 {x0 : Int} (h0 : (122 : Int) < x0) (h1 : x0 = (95 : Int)) : False := by omega
theorem om_aa0d966b0c {x0 : Int} (h0 : (122 : Int) < x0) : x0 ≠ 0 := by omega
set_option maxHeartbeats 4000000 in
set_option maxRecDepth 100000 in
theorem c_m_isOfName (l : Launch) (dC : Nat → ClassId) (dI : Nat → Nat → Nat) (cI cB cZ cJ cR : ClassId) (tb : Nat → Nat) (sz : Nat) (pa : Int32)  : Met l yX13_isOfName (Cond.code yX13_isOfName cX13_isOfName 1 (some .boolean) :: tw_W) ({ frames := 1, cells := 0, slots := 0, locals := 20 }) (pc_ (dC, dI) (tyS cI cB cZ cJ cR) tb [] sz [.int pa]) (qi_ (dC, dI) [] sz (fun (r : Int32) (u : Unit) => (Q_m_isOfName pa r) ∧ (r = 0 ∨ r = 1) ∧ (r.toInt = 0 ∨ pa.toInt ≠ 0)) (fun (u : Unit) => [])) 0 0 (va_A [] sz) := by
  refine Met.ofW (cc := cX13_isOfName) (maxL := 1) (ret := (some .boolean)) (by decide) rfl ?_
  intro p e s m args below meth c s₁ B hml hv
  obtain ⟨rfl, hsz, hP, hKK, hD0, hFx⟩ := hv
  have hK := hKK.1
  have hx := B.exec
  have hb := B.bytes
  have hr := B.returns
  have ht : ∀ w ∈ tw_W, w.before _ s = true := fun w h => atoms_spec (ws := Cond.code yX13_isOfName cX13_isOfName 1 (some .boolean) :: tw_W) B.pre w (List.mem_cons_of_mem _ h)
  have hown : s.vm.findClass RX13 = some m.cls := findClass_of_methodNamed B.named
  have hlocks := B.notSynchronized
  subst hsz
  unfold qi_
  have hD := hD0.self (sz := s.heap.size)
  generalize hAe : va_A [] s.heap.size = A at hD hFx ⊢
  have hA : ∀ q : Nat, s.heap.size ≤ q → A q := fun q h => by rw [← hAe]; exact Or.inr h
  have hS : va_S A s.heap s.heap [] := va_S.rf
  have hl := lv_entry ([.int pa]) (n := 1) (Nat.le_of_ble_eq_true rfl)
  rw [lg_entry_eq]
  generalize (lg_sl ([.int pa]) ++ List.replicate (1 - (lg_sl ([.int pa])).length) Slot.unset).toArray = ls at hl ⊢
  have hl : lv_has ls 1 [(0, .int pa)] := hl
  refine lv_iload_n hx hb dX13_isOfName_0 rfl (lv_at hl 0 rfl) ?_
  refine lv_bipush (v := 97) hx hb dX13_isOfName_1 (by decide) ?_
  refine lv_icmp_lt (tgt := 12) hx hb dX13_isOfName_3 (by decide) (fun h1 => ?_) (fun h1 => ?_)
  · have z2 : pa.toInt < (97 : Int) := lt_z rfl (show (97 : Int32).toInt = (97 : Int) by decide) h1
    refine lv_iload_n hx hb dX13_isOfName_12 rfl (lv_at hl 0 rfl) ?_
    refine lv_bipush (v := 65) hx hb dX13_isOfName_13 (by decide) ?_
    refine lv_icmp_lt (tgt := 24) hx hb dX13_isOfName_15 (by decide) (fun h3 => ?_) (fun h3 => ?_)
    · have z4 : pa.toInt < (65 : Int) := lt_z rfl (show (65 : Int32).toInt = (65 : Int) by decide) h3
      refine lv_iload_n hx hb dX13_isOfName_24 rfl (lv_at hl 0 rfl) ?_
      refine lv_bipush (v := 95) hx hb dX13_isOfName_25 (by decide) ?_
      refine lv_icmp_eq (tgt := 37) hx hb dX13_isOfName_27 (by decide) (fun h5 => ?_) (fun h5 => ?_)
      · have z6 : pa.toInt = (95 : Int) := eq_z rfl (show (95 : Int32).toInt = (95 : Int) by decide) h5
        exact False.elim (om_125caba8e6 z4 z6)
      · have z7 : pa.toInt ≠ (95 : Int) := ne_z rfl (show (95 : Int32).toInt = (95 : Int) by decide) h5
        refine lv_iload_n hx hb dX13_isOfName_30 rfl (lv_at hl 0 rfl) ?_
        refine cu_i (rn_S (n := 1) (As := [.int pa]) (rest := []) hx hb hml hown ht hKK hFx hP hD hS hA (c_m_isDigit l dC dI cI cB cZ cJ cR tb s.heap.size pa ) tw_4 tw_5 (by decide +kernel) rfl rfl ⟨Nat.le_of_ble_eq_true rfl, Nat.le_of_ble_eq_true rfl⟩ [] rfl rfl rfl hl.1 rfl (Nat.le_of_ble_eq_true rfl) dX13_isOfName_31 ⟨Nat.le_of_ble_eq_true rfl, Nat.le_of_ble_eq_true rfl⟩) hP hD hS hA (fun r11 _ H locs hw8 hP hD hS => ?_)
        obtain ⟨ex8, b8, c8⟩ := hw8
        have b8 : (r11 = 0 ∨ r11 = 1) := b8
        have c8 : (r11.toInt = 0 ∨ pa.toInt ≠ 0) := c8
        refine W.widen (k := 0) (n := 0) (Nat.le_refl _) (Nat.le_refl _) ?_
        refine lv_if_eq (tgt := 41) hx hb dX13_isOfName_34 (by decide) (fun h12 => ?_) (fun h12 => ?_)
        · have z13 : r11.toInt = (0 : Int) := eq_z rfl (show (0 : Int32).toInt = (0 : Int) by decide) h12
          refine lv_iconst (v := 0) hx hb dX13_isOfName_41 (by decide) ?_
          exact W.zret (v := 0) hx hb hr rfl (fun t ht9 hW => ⟨⟨0, (), rfl, ⟨(Or.inl ⟨z2, (Or.inl ⟨z4, z7, r11, ex8, ⟨b8, c8⟩, (Or.inl ⟨z13, rfl⟩)⟩)⟩), ⟨Or.inl rfl, Or.inl (by decide)⟩⟩, by rw [ht9]; exact hP, hD⟩, hS.F ht9⟩) hS.2.2 dX13_isOfName_42
        · have z14 : r11.toInt ≠ (0 : Int) := ne_z rfl (show (0 : Int32).toInt = (0 : Int) by decide) h12
          refine lv_iconst (v := 1) hx hb dX13_isOfName_37 (by decide) ?_
          refine lv_goto (tgt := 42) hx hb dX13_isOfName_38 (by decide) ?_
          exact W.zret (v := 1) hx hb hr rfl (fun t ht9 hW => ⟨⟨1, (), rfl, ⟨(Or.inl ⟨z2, (Or.inl ⟨z4, z7, r11, ex8, ⟨b8, c8⟩, (Or.inr (⟨z14, rfl⟩))⟩)⟩), ⟨Or.inr rfl, Or.inr (om_57efa0fe71 c8 z14)⟩⟩, by rw [ht9]; exact hP, hD⟩, hS.F ht9⟩) hS.2.2 dX13_isOfName_42
    · have z15 : (65 : Int) ≤ pa.toInt := nlt_z rfl (show (65 : Int32).toInt = (65 : Int) by decide) h3
      refine lv_iload_n hx hb dX13_isOfName_18 rfl (lv_at hl 0 rfl) ?_
      refine lv_bipush (v := 90) hx hb dX13_isOfName_19 (by decide) ?_
      refine lv_icmp_le (tgt := 37) hx hb dX13_isOfName_21 (by decide) (fun h16 => ?_) (fun h16 => ?_)
      · have z17 : pa.toInt ≤ (90 : Int) := le_z rfl (show (90 : Int32).toInt = (90 : Int) by decide) h16
        refine lv_iconst (v := 1) hx hb dX13_isOfName_37 (by decide) ?_
        refine lv_goto (tgt := 42) hx hb dX13_isOfName_38 (by decide) ?_
        exact W.zret (v := 1) hx hb hr rfl (fun t ht9 hW => ⟨⟨1, (), rfl, ⟨(Or.inl ⟨z2, (Or.inr (⟨z15, (Or.inl ⟨z17, rfl⟩)⟩))⟩), ⟨Or.inr rfl, Or.inr (om_10efc782fb z15)⟩⟩, by rw [ht9]; exact hP, hD⟩, hS.F ht9⟩) hS.2.2 dX13_isOfName_42
      · have z18 : (90 : Int) < pa.toInt := nle_z rfl (show (90 : Int32).toInt = (90 : Int) by decide) h16
        refine lv_iload_n hx hb dX13_isOfName_24 rfl (lv_at hl 0 rfl) ?_
        refine lv_bipush (v := 95) hx hb dX13_isOfName_25 (by decide) ?_
        refine lv_icmp_eq (tgt := 37) hx hb dX13_isOfName_27 (by decide) (fun h19 => ?_) (fun h19 => ?_)
        · have z20 : pa.toInt = (95 : Int) := eq_z rfl (show (95 : Int32).toInt = (95 : Int) by decide) h19
          refine lv_iconst (v := 1) hx hb dX13_isOfName_37 (by decide) ?_
          refine lv_goto (tgt := 42) hx hb dX13_isOfName_38 (by decide) ?_
          exact W.zret (v := 1) hx hb hr rfl (fun t ht9 hW => ⟨⟨1, (), rfl, ⟨(Or.inl ⟨z2, (Or.inr (⟨z15, (Or.inr (⟨z18, (Or.inl ⟨z20, rfl⟩)⟩))⟩))⟩), ⟨Or.inr rfl, Or.inr (om_99e52935c4 z20)⟩⟩, by rw [ht9]; exact hP, hD⟩, hS.F ht9⟩) hS.2.2 dX13_isOfName_42
        · have z21 : pa.toInt ≠ (95 : Int) := ne_z rfl (show (95 : Int32).toInt = (95 : Int) by decide) h19
          refine lv_iload_n hx hb dX13_isOfName_30 rfl (lv_at hl 0 rfl) ?_
          refine cu_i (rn_S (n := 1) (As := [.int pa]) (rest := []) hx hb hml hown ht hKK hFx hP hD hS hA (c_m_isDigit l dC dI cI cB cZ cJ cR tb s.heap.size pa ) tw_4 tw_5 (by decide +kernel) rfl rfl ⟨Nat.le_of_ble_eq_true rfl, Nat.le_of_ble_eq_true rfl⟩ [] rfl rfl rfl hl.1 rfl (Nat.le_of_ble_eq_true rfl) dX13_isOfName_31 ⟨Nat.le_of_ble_eq_true rfl, Nat.le_of_ble_eq_true rfl⟩) hP hD hS hA (fun r24 _ H locs hw22 hP hD hS => ?_)
          obtain ⟨ex22, b22, c22⟩ := hw22
          have b22 : (r24 = 0 ∨ r24 = 1) := b22
          have c22 : (r24.toInt = 0 ∨ pa.toInt ≠ 0) := c22
          refine W.widen (k := 0) (n := 0) (Nat.le_refl _) (Nat.le_refl _) ?_
          refine lv_if_eq (tgt := 41) hx hb dX13_isOfName_34 (by decide) (fun h25 => ?_) (fun h25 => ?_)
          · have z26 : r24.toInt = (0 : Int) := eq_z rfl (show (0 : Int32).toInt = (0 : Int) by decide) h25
            refine lv_iconst (v := 0) hx hb dX13_isOfName_41 (by decide) ?_
            exact W.zret (v := 0) hx hb hr rfl (fun t ht9 hW => ⟨⟨0, (), rfl, ⟨(Or.inl ⟨z2, (Or.inr (⟨z15, (Or.inr (⟨z18, (Or.inr (⟨z21, r24, ex22, ⟨b22, c22⟩, (Or.inl ⟨z26, rfl⟩)⟩))⟩))⟩))⟩), ⟨Or.inl rfl, Or.inl (by decide)⟩⟩, by rw [ht9]; exact hP, hD⟩, hS.F ht9⟩) hS.2.2 dX13_isOfName_42
          · have z27 : r24.toInt ≠ (0 : Int) := ne_z rfl (show (0 : Int32).toInt = (0 : Int) by decide) h25
            refine lv_iconst (v := 1) hx hb dX13_isOfName_37 (by decide) ?_
            refine lv_goto (tgt := 42) hx hb dX13_isOfName_38 (by decide) ?_
            exact W.zret (v := 1) hx hb hr rfl (fun t ht9 hW => ⟨⟨1, (), rfl, ⟨(Or.inl ⟨z2, (Or.inr (⟨z15, (Or.inr (⟨z18, (Or.inr (⟨z21, r24, ex22, ⟨b22, c22⟩, (Or.inr (⟨z27, rfl⟩))⟩))⟩))⟩))⟩), ⟨Or.inr rfl, Or.inr (om_7cec9a6247 z18)⟩⟩, by rw [ht9]; exact hP, hD⟩, hS.F ht9⟩) hS.2.2 dX13_isOfName_42
  · have z28 : (97 : Int) ≤ pa.toInt := nlt_z rfl (show (97 : Int32).toInt = (97 : Int) by decide) h1
    refine lv_iload_n hx hb dX13_isOfName_6 rfl (lv_at hl 0 rfl) ?_
    refine lv_bipush (v := 122) hx hb dX13_isOfName_7 (by decide) ?_
    refine lv_icmp_le (tgt := 37) hx hb dX13_isOfName_9 (by decide) (fun h29 => ?_) (fun h29 => ?_)
    · have z30 : pa.toInt ≤ (122 : Int) := le_z rfl (show (122 : Int32).toInt = (122 : Int) by decide) h29
      refine lv_iconst (v := 1) hx hb dX13_isOfName_37 (by decide) ?_
      refine lv_goto (tgt := 42) hx hb dX13_isOfName_38 (by decide) ?_
      exact W.zret (v := 1) hx hb hr rfl (fun t ht9 hW => ⟨⟨1, (), rfl, ⟨(Or.inr (⟨z28, (Or.inl ⟨z30, rfl⟩)⟩)), ⟨Or.inr rfl, Or.inr (om_8e35742a5f z28)⟩⟩, by rw [ht9]; exact hP, hD⟩, hS.F ht9⟩) hS.2.2 dX13_isOfName_42
    · have z31 : (122 : Int) < pa.toInt := nle_z rfl (show (122 : Int32).toInt = (122 : Int) by decide) h29
      refine lv_iload_n hx hb dX13_isOfName_12 rfl (lv_at hl 0 rfl) ?_
      refine lv_bipush (v := 65) hx hb dX13_isOfName_13 (by decide) ?_
      refine lv_icmp_lt (tgt := 24) hx hb dX13_isOfName_15 (by decide) (fun h32 => ?_) (fun h32 => ?_)
      · have z33 : pa.toInt < (65 : Int) := lt_z rfl (show (65 : Int32).toInt = (65 : Int) by decide) h32
        exact False.elim (om_5710ec9dea z31 z33)
      · have z34 : (65 : Int) ≤ pa.toInt := nlt_z rfl (show (65 : Int32).toInt = (65 : Int) by decide) h32
        refine lv_iload_n hx hb dX13_isOfName_18 rfl (lv_at hl 0 rfl) ?_
        refine lv_bipush (v := 90) hx hb dX13_isOfName_19 (by decide) ?_
        refine lv_icmp_le (tgt := 37) hx hb dX13_isOfName_21 (by decide) (fun h35 => ?_) (fun h35 => ?_)
        · have z36 : pa.toInt ≤ (90 : Int) := le_z rfl (show (90 : Int32).toInt = (90 : Int) by decide) h35
          exact False.elim (om_fd180de3f1 z31 z36)
        · have z37 : (90 : Int) < pa.toInt := nle_z rfl (show (90 : Int32).toInt = (90 : Int) by decide) h35
          refine lv_iload_n hx hb dX13_isOfName_24 rfl (lv_at hl 0 rfl) ?_
          refine lv_bipush (v := 95) hx hb dX13_isOfName_25 (by decide) ?_
          refine lv_icmp_eq (tgt := 37) hx hb dX13_isOfName_27 (by decide) (fun h38 => ?_) (fun h38 => ?_)
          · have z39 : pa.toInt = (95 : Int) := eq_z rfl (show (95 : Int32).toInt = (95 : Int) by decide) h38
            exact False.elim (om_ff67b1dfb4 z31 z39)
          · have z40 : pa.toInt ≠ (95 : Int) := ne_z rfl (show (95 : Int32).toInt = (95 : Int) by decide) h38
            refine lv_iload_n hx hb dX13_isOfName_30 rfl (lv_at hl 0 rfl) ?_
            refine cu_i (rn_S (n := 1) (As := [.int pa]) (rest := []) hx hb hml hown ht hKK hFx hP hD hS hA (c_m_isDigit l dC dI cI cB cZ cJ cR tb s.heap.size pa ) tw_4 tw_5 (by decide +kernel) rfl rfl ⟨Nat.le_of_ble_eq_true rfl, Nat.le_of_ble_eq_true rfl⟩ [] rfl rfl rfl hl.1 rfl (Nat.le_of_ble_eq_true rfl) dX13_isOfName_31 ⟨Nat.le_of_ble_eq_true rfl, Nat.le_of_ble_eq_true rfl⟩) hP hD hS hA (fun r43 _ H locs hw41 hP hD hS => ?_)
            obtain ⟨ex41, b41, c41⟩ := hw41
            have b41 : (r43 = 0 ∨ r43 = 1) := b41
            have c41 : (r43.toInt = 0 ∨ pa.toInt ≠ 0) := c41
            refine W.widen (k := 0) (n := 0) (Nat.le_refl _) (Nat.le_refl _) ?_
            refine lv_if_eq (tgt := 41) hx hb dX13_isOfName_34 (by decide) (fun h44 => ?_) (fun h44 => ?_)
            · have z45 : r43.toInt = (0 : Int) := eq_z rfl (show (0 : Int32).toInt = (0 : Int) by decide) h44
              refine lv_iconst (v := 0) hx hb dX13_isOfName_41 (by decide) ?_
              exact W.zret (v := 0) hx hb hr rfl (fun t ht9 hW => ⟨⟨0, (), rfl, ⟨(Or.inr (⟨z28, (Or.inr (⟨z31, z34, z37, z40, r43, ex41, ⟨b41, c41⟩, (Or.inl ⟨z45, rfl⟩)⟩))⟩)), ⟨Or.inl rfl, Or.inl (by decide)⟩⟩, by rw [ht9]; exact hP, hD⟩, hS.F ht9⟩) hS.2.2 dX13_isOfName_42
            · have z46 : r43.toInt ≠ (0 : Int) := ne_z rfl (show (0 : Int32).toInt = (0 : Int) by decide) h44
              refine lv_iconst (v := 1) hx hb dX13_isOfName_37 (by decide) ?_
              refine lv_goto (tgt := 42) hx hb dX13_isOfName_38 (by decide) ?_
              exact W.zret (v := 1) hx hb hr rfl (fun t ht9 hW => ⟨⟨1, (), rfl, ⟨(Or.inr (⟨z28, (Or.inr (⟨z31, z34, z37, z40, r43, ex41, ⟨b41, c41⟩, (Or.inr (⟨z46, rfl⟩))⟩))⟩)), ⟨Or.inr rfl, Or.inr (om_aa0d966b0c z31)⟩⟩, by rw [ht9]; exact hP, hD⟩, hS.F ht9⟩) hS.2.2 dX13_isOfName_42
theorem om_5f68ca46de {x0 : Int} (h0 : 0 ≤ x0 ∧ x0 < 24000) : 0 ≤ x0 := by omega
theorem om_e6b85e0fc8 {x0 : Int} (h0 : 0 ≤ x0 ∧ x0 < 24000) : x0 < 24000 := by omega
theorem om_d4b9103af5 {x0 : Int} (h0 : 0 ≤ x0 ∧ x0 < 24000) : -2147483648 ≤ (x0) + (1 : Int) := by omega
theorem om_8fd78812a8 {x0 : Int} (h0 : 0 ≤ x0 ∧ x0 < 24000) : (x0) + (1 : Int) < 2147483648 := by omega
set_option maxHeartbeats 4000000 in
set_option maxRecDepth 100000 in
theorem c_m_emit (l : Launch) (dC : Nat → ClassId) (dI : Nat → Nat → Nat) (cI cB cZ cJ cR : ClassId) (tb : Nat → Nat) (sz : Nat) (ad : Nat → Nat) (N : Nat) (v : MS) (pa : Int32) (zw : 0 ≤ (v.1 0 12).toInt ∧ (v.1 0 12).toInt < 24000) : Met l yX13_emit (Cond.code yX13_emit cX13_emit 2 (some .int) :: tw_W) ({ frames := 0, cells := 0, slots := 0, locals := 0 }) (pc_ (dC, dI) (tyS cI cB cZ cJ cR) tb (mW ad N cI cZ cJ v) sz [.ref (ad 0), .int pa]) (qi_ (dC, dI) (mW ad N cI cZ cJ v) sz (fun (r : Int32) (u : MS) => (wA (wA v 11 ((v.1 0 12).toNatClampNeg) pa) 0 12 ((v.1 0 12) + (1 : Int32))) = u ∧ (v.1 0 12) = r) (fun (u : MS) => (mW ad N cI cZ cJ u))) 0 0 (va_A (mW ad N cI cZ cJ v) sz) := by
  refine Met.ofW (cc := cX13_emit) (maxL := 2) (ret := (some .int)) (by decide) rfl ?_
  intro p e s m args below meth c s₁ B hml hv
  obtain ⟨rfl, hsz, hP, hKK, hD0, hFx⟩ := hv
  have hK := hKK.1
  have hx := B.exec
  have hb := B.bytes
  have hr := B.returns
  have ht : ∀ w ∈ tw_W, w.before _ s = true := fun w h => atoms_spec (ws := Cond.code yX13_emit cX13_emit 2 (some .int) :: tw_W) B.pre w (List.mem_cons_of_mem _ h)
  have hown : s.vm.findClass RX13 = some m.cls := findClass_of_methodNamed B.named
  have hlocks := B.notSynchronized
  subst hsz
  unfold qi_
  have hD := hD0.self (sz := s.heap.size)
  generalize hAe : va_A (mW ad N cI cZ cJ v) s.heap.size = A at hD hFx ⊢
  have hA : ∀ q : Nat, s.heap.size ≤ q → A q := fun q h => by rw [← hAe]; exact Or.inr h
  have hS : va_S A s.heap s.heap [] := va_S.rf
  have hl := lv_entry ([.ref (ad 0), .int pa]) (n := 2) (Nat.le_of_ble_eq_true rfl)
  rw [lg_entry_eq]
  generalize (lg_sl ([.ref (ad 0), .int pa]) ++ List.replicate (2 - (lg_sl ([.ref (ad 0), .int pa])).length) Slot.unset).toArray = ls at hl ⊢
  have hl : lv_has ls 2 [(0, .ref (ad 0)), (1, .int pa)] := hl
  refine lv_aload_n hx hb dX13_emit_0 rfl (lv_at hl 0 rfl) ?_
  refine va_get (D := (dC, dI)) (ci := 16) (fs := mF ad v) (v := .ref (ad 11)) (C := RX13) (T := TX13) (N := 124) hx hb ht itX13 hown hK hP 0 rfl rfl 11 (by decide) (ht _ tw_6) (fun _ h9 => h9) rfl dX13_emit_1 ?_
  refine lv_aload_n hx hb dX13_emit_4 rfl (lv_at hl 0 rfl) ?_
  refine va_get (D := (dC, dI)) (ci := 16) (fs := mF ad v) (v := .int (v.1 0 12)) (C := RX13) (T := TX13) (N := 124) hx hb ht itX13 hown hK hP 0 rfl rfl 12 (by decide) (ht _ tw_7) (fun _ h9 => h9) rfl dX13_emit_5 ?_
  refine lv_iload_n hx hb dX13_emit_8 rfl (lv_at hl 1 rfl) ?_
  refine va_iast (D := (dC, dI)) (f := (v.1 11)) hx hb hK hP hD hS 8 0 rfl rfl (in_y (a := (v.1 0 12).toInt) (b := 24000) rfl (om_5f68ca46de zw) (om_e6b85e0fc8 zw) rfl) dX13_emit_9 (fun H locs hP hD hS => ?_)
  have hP := cP_ (ma_11 ad N cI cZ cJ v ((v.1 0 12).toNatClampNeg) pa) hP
  have hD := cD_ (ma_11 ad N cI cZ cJ v ((v.1 0 12).toNatClampNeg) pa) hD
  refine lv_aload_n hx hb dX13_emit_10 rfl (lv_at hl 0 rfl) ?_
  refine lv_dup hx hb dX13_emit_11 rfl ?_
  refine va_get (D := (dC, dI)) (ci := 16) (fs := mF ad (wA v 11 ((v.1 0 12).toNatClampNeg) pa)) (v := .int (v.1 0 12)) (C := RX13) (T := TX13) (N := 124) hx hb ht itX13 hown hK hP 0 rfl rfl 12 (by decide) (ht _ tw_7) (fun _ h9 => h9) rfl dX13_emit_12 ?_
  refine lv_iconst (v := 1) hx hb dX13_emit_15 (by decide) ?_
  refine lv_iadd hx hb dX13_emit_16 ?_
  have z1 : ((v.1 0 12) + (1 : Int32)).toInt = ((v.1 0 12).toInt) + (1 : Int) := add_z rfl (show (1 : Int32).toInt = (1 : Int) by decide) (om_d4b9103af5 zw) (om_8fd78812a8 zw)
  refine va_put (D := (dC, dI)) (ci := 16) (fs := mF ad (wA v 11 ((v.1 0 12).toNatClampNeg) pa)) (v := .int ((v.1 0 12) + (1 : Int32))) (ty := .int) (C := RX13) (T := TX13) (N := 124) hx hb ht itX13 tyX13 tyX13_ok nmX13 hown hK hP hD hS 0 rfl rfl 12 (by decide) (ht _ tw_7) (fun _ h9 => h9) rfl (by decide +kernel) rfl rfl (Nat.le_of_ble_eq_true rfl) dX13_emit_17 (fun H locs hP hD hS => ?_)
  have hP := cP_ (mw_12 ad N cI cZ cJ (wA v 11 ((v.1 0 12).toNatClampNeg) pa) ((v.1 0 12) + (1 : Int32))) hP
  have hD := cD_ (mw_12 ad N cI cZ cJ (wA v 11 ((v.1 0 12).toNatClampNeg) pa) ((v.1 0 12) + (1 : Int32))) hD
  refine lv_aload_n hx hb dX13_emit_20 rfl (lv_at hl 0 rfl) ?_
  refine va_get (D := (dC, dI)) (ci := 16) (fs := mF ad (wA (wA v 11 ((v.1 0 12).toNatClampNeg) pa) 0 12 ((v.1 0 12) + (1 : Int32)))) (v := .int ((v.1 0 12) + (1 : Int32))) (C := RX13) (T := TX13) (N := 124) hx hb ht itX13 hown hK hP 0 rfl rfl 12 (by decide) (ht _ tw_7) (fun _ h9 => h9) rfl dX13_emit_21 ?_
  refine lv_iconst (v := 1) hx hb dX13_emit_24 (by decide) ?_
  refine lv_isub hx hb dX13_emit_25 ?_
  refine tp_i (y := (v.1 0 12)) (as1_ _) ?_
  exact W.iret (v := (v.1 0 12)) hx hb hr (fun t ht9 hW => ⟨⟨(v.1 0 12), (wA (wA v 11 ((v.1 0 12).toNatClampNeg) pa) 0 12 ((v.1 0 12) + (1 : Int32))), rfl, ⟨rfl, rfl⟩, by rw [ht9]; exact hP, hD⟩, hS.F ht9⟩) hS.2.2 dX13_emit_26
theorem om_39b17b30b1 {x0 : Int} (h0 : 0 ≤ x0 ∧ x0 < 24000) : 0 ≤ x0 ∧ x0 < 24000 := by omega
set_option maxHeartbeats 4000000 in
set_option maxRecDepth 100000 in
theorem c_m_wait (l : Launch) (dC : Nat → ClassId) (dI : Nat → Nat → Nat) (cI cB cZ cJ cR : ClassId) (tb : Nat → Nat) (sz : Nat) (ad : Nat → Nat) (N : Nat) (v : MS) (pa : Int32) (zw : 0 ≤ (v.1 0 12).toInt ∧ (v.1 0 12).toInt < 24000) : Met l yX13_wait (Cond.code yX13_wait cX13_wait 2 (some .int) :: tw_W) ({ frames := 1, cells := 0, slots := 0, locals := 21 }) (pc_ (dC, dI) (tyS cI cB cZ cJ cR) tb (mW ad N cI cZ cJ v) sz [.ref (ad 0), .int pa]) (qi_ (dC, dI) (mW ad N cI cZ cJ v) sz (fun (r : Int32) (u : MS) => (wA (wA v 11 ((v.1 0 12).toNatClampNeg) pa) 0 12 ((v.1 0 12) + (1 : Int32))) = u ∧ (v.1 0 12) = r) (fun (u : MS) => (mW ad N cI cZ cJ u))) 0 0 (va_A (mW ad N cI cZ cJ v) sz) := by
  refine Met.ofW (cc := cX13_wait) (maxL := 2) (ret := (some .int)) (by decide) rfl ?_
  intro p e s m args below meth c s₁ B hml hv
  obtain ⟨rfl, hsz, hP, hKK, hD0, hFx⟩ := hv
  have hK := hKK.1
  have hx := B.exec
  have hb := B.bytes
  have hr := B.returns
  have ht : ∀ w ∈ tw_W, w.before _ s = true := fun w h => atoms_spec (ws := Cond.code yX13_wait cX13_wait 2 (some .int) :: tw_W) B.pre w (List.mem_cons_of_mem _ h)
  have hown : s.vm.findClass RX13 = some m.cls := findClass_of_methodNamed B.named
  have hlocks := B.notSynchronized
  subst hsz
  unfold qi_
  have hD := hD0.self (sz := s.heap.size)
  generalize hAe : va_A (mW ad N cI cZ cJ v) s.heap.size = A at hD hFx ⊢
  have hA : ∀ q : Nat, s.heap.size ≤ q → A q := fun q h => by rw [← hAe]; exact Or.inr h
  have hS : va_S A s.heap s.heap [] := va_S.rf
  have hl := lv_entry ([.ref (ad 0), .int pa]) (n := 2) (Nat.le_of_ble_eq_true rfl)
  rw [lg_entry_eq]
  generalize (lg_sl ([.ref (ad 0), .int pa]) ++ List.replicate (2 - (lg_sl ([.ref (ad 0), .int pa])).length) Slot.unset).toArray = ls at hl ⊢
  have hl : lv_has ls 2 [(0, .ref (ad 0)), (1, .int pa)] := hl
  refine lv_aload_n hx hb dX13_wait_0 rfl (lv_at hl 0 rfl) ?_
  refine lv_iload_n hx hb dX13_wait_1 rfl (lv_at hl 1 rfl) ?_
  refine cu_i (rn_V (n := 1) (As := [.int pa]) (rest := []) hx hb hml hown ht hKK hFx hP hD hS hA (c_m_emit l dC dI cI cB cZ cJ cR tb s.heap.size ad N v pa (show 0 ≤ (v.1 0 12).toInt ∧ (v.1 0 12).toInt < 24000 from (om_39b17b30b1 zw))) tw_8 tw_9 (by decide +kernel) rfl rfl ⟨Nat.le_of_ble_eq_true rfl, Nat.le_of_ble_eq_true rfl⟩ (List.range (mW ad N cI cZ cJ v).length) (rg_map _) (mW_nd _ _ _ _ _ _) rfl rfl rfl rfl hl.1 rfl (Nat.le_of_ble_eq_true rfl) dX13_wait_2 ⟨Nat.le_of_ble_eq_true rfl, Nat.le_of_ble_eq_true rfl⟩) hP hD hS hA (fun r3 u2 H locs hw1 hP hD hS => ?_)
  obtain ⟨rfl, rfl⟩ := hw1
  have z4 : ((v.1 0 12) + (1 : Int32)).toInt = ((v.1 0 12).toInt) + (1 : Int) := add_z rfl (show (1 : Int32).toInt = (1 : Int) by decide) (om_d4b9103af5 zw) (om_8fd78812a8 zw)
  have hP : va_P (dC, dI) vwCl (mW ad N cI cZ cJ (wA (wA v 11 ((v.1 0 12).toNatClampNeg) pa) 0 12 ((v.1 0 12) + (1 : Int32)))) H := hP
  have hD : va_D A (mW ad N cI cZ cJ (wA (wA v 11 ((v.1 0 12).toNatClampNeg) pa) 0 12 ((v.1 0 12) + (1 : Int32)))) := hD
  refine tp_i (y := (v.1 0 12)) (rfl) ?_
  refine W.widen (k := 0) (n := 0) (Nat.le_refl _) (Nat.le_refl _) ?_
  exact W.iret (v := (v.1 0 12)) hx hb hr (fun t ht9 hW => ⟨⟨(v.1 0 12), (wA (wA v 11 ((v.1 0 12).toNatClampNeg) pa) 0 12 ((v.1 0 12) + (1 : Int32))), rfl, ⟨rfl, rfl⟩, by rw [ht9]; exact hP, hD⟩, hS.F ht9⟩) hS.2.2 dX13_wait_5
theorem om_3a39e93c6b {x0 : Int} (h0 : 0 ≤ x0 ∧ x0 < 16000) : 0 ≤ x0 := by omega
theorem om_ba2b19a576 {x0 : Int} (h0 : 0 ≤ x0 ∧ x0 < 16000) : x0 < 16000 := by omega
theorem om_ceff2b2366 {x0 : Int} (h0 : 0 ≤ x0 ∧ x0 < 16000) : -2147483648 ≤ (x0) + (1 : Int) := by omega
theorem om_25b654bea3 {x0 : Int} (h0 : 0 ≤ x0 ∧ x0 < 16000) : (x0) + (1 : Int) < 2147483648 := by omega
set_option maxHeartbeats 4000000 in
set_option maxRecDepth 100000 in
theorem c_m_say (l : Launch) (dC : Nat → ClassId) (dI : Nat → Nat → Nat) (cI cB cZ cJ cR : ClassId) (tb : Nat → Nat) (sz : Nat) (ad : Nat → Nat) (N : Nat) (v : MS) (pa : Int32) (pb : Int32) (zo : 0 ≤ (v.1 0 15).toInt ∧ (v.1 0 15).toInt < 16000) : Met l yX13_say (Cond.code yX13_say cX13_say 3 (some .int) :: tw_W) ({ frames := 0, cells := 0, slots := 0, locals := 0 }) (pc_ (dC, dI) (tyS cI cB cZ cJ cR) tb (mW ad N cI cZ cJ v) sz [.ref (ad 0), .int pa, .int pb]) (qi_ (dC, dI) (mW ad N cI cZ cJ v) sz (fun (r : Int32) (u : MS) => (wA (wA (wA v 13 ((v.1 0 15).toNatClampNeg) pa) 14 ((v.1 0 15).toNatClampNeg) pb) 0 15 ((v.1 0 15) + (1 : Int32))) = u ∧ (v.1 0 15) = r) (fun (u : MS) => (mW ad N cI cZ cJ u))) 0 0 (va_A (mW ad N cI cZ cJ v) sz) := by
  refine Met.ofW (cc := cX13_say) (maxL := 3) (ret := (some .int)) (by decide) rfl ?_
  intro p e s m args below meth c s₁ B hml hv
  obtain ⟨rfl, hsz, hP, hKK, hD0, hFx⟩ := hv
  have hK := hKK.1
  have hx := B.exec
  have hb := B.bytes
  have hr := B.returns
  have ht : ∀ w ∈ tw_W, w.before _ s = true := fun w h => atoms_spec (ws := Cond.code yX13_say cX13_say 3 (some .int) :: tw_W) B.pre w (List.mem_cons_of_mem _ h)
  have hown : s.vm.findClass RX13 = some m.cls := findClass_of_methodNamed B.named
  have hlocks := B.notSynchronized
  subst hsz
  unfold qi_
  have hD := hD0.self (sz := s.heap.size)
  generalize hAe : va_A (mW ad N cI cZ cJ v) s.heap.size = A at hD hFx ⊢
  have hA : ∀ q : Nat, s.heap.size ≤ q → A q := fun q h => by rw [← hAe]; exact Or.inr h
  have hS : va_S A s.heap s.heap [] := va_S.rf
  have hl := lv_entry ([.ref (ad 0), .int pa, .int pb]) (n := 3) (Nat.le_of_ble_eq_true rfl)
  rw [lg_entry_eq]
  generalize (lg_sl ([.ref (ad 0), .int pa, .int pb]) ++ List.replicate (3 - (lg_sl ([.ref (ad 0), .int pa, .int pb])).length) Slot.unset).toArray = ls at hl ⊢
  have hl : lv_has ls 3 [(0, .ref (ad 0)), (1, .int pa), (2, .int pb)] := hl
  refine lv_aload_n hx hb dX13_say_0 rfl (lv_at hl 0 rfl) ?_
  refine va_get (D := (dC, dI)) (ci := 16) (fs := mF ad v) (v := .ref (ad 13)) (C := RX13) (T := TX13) (N := 124) hx hb ht itX13 hown hK hP 0 rfl rfl 13 (by decide) (ht _ tw_10) (fun _ h9 => h9) rfl dX13_say_1 ?_
  refine lv_aload_n hx hb dX13_say_4 rfl (lv_at hl 0 rfl) ?_
  refine va_get (D := (dC, dI)) (ci := 16) (fs := mF ad v) (v := .int (v.1 0 15)) (C := RX13) (T := TX13) (N := 124) hx hb ht itX13 hown hK hP 0 rfl rfl 15 (by decide) (ht _ tw_11) (fun _ h9 => h9) rfl dX13_say_5 ?_
  refine lv_iload_n hx hb dX13_say_8 rfl (lv_at hl 1 rfl) ?_
  refine va_iast (D := (dC, dI)) (f := (v.1 13)) hx hb hK hP hD hS 9 0 rfl rfl (in_y (a := (v.1 0 15).toInt) (b := 16000) rfl (om_3a39e93c6b zo) (om_ba2b19a576 zo) rfl) dX13_say_9 (fun H locs hP hD hS => ?_)
  have hP := cP_ (ma_13 ad N cI cZ cJ v ((v.1 0 15).toNatClampNeg) pa) hP
  have hD := cD_ (ma_13 ad N cI cZ cJ v ((v.1 0 15).toNatClampNeg) pa) hD
  refine lv_aload_n hx hb dX13_say_10 rfl (lv_at hl 0 rfl) ?_
  refine va_get (D := (dC, dI)) (ci := 16) (fs := mF ad (wA v 13 ((v.1 0 15).toNatClampNeg) pa)) (v := .ref (ad 14)) (C := RX13) (T := TX13) (N := 124) hx hb ht itX13 hown hK hP 0 rfl rfl 14 (by decide) (ht _ tw_12) (fun _ h9 => h9) rfl dX13_say_11 ?_
  refine lv_aload_n hx hb dX13_say_14 rfl (lv_at hl 0 rfl) ?_
  refine va_get (D := (dC, dI)) (ci := 16) (fs := mF ad (wA v 13 ((v.1 0 15).toNatClampNeg) pa)) (v := .int (v.1 0 15)) (C := RX13) (T := TX13) (N := 124) hx hb ht itX13 hown hK hP 0 rfl rfl 15 (by decide) (ht _ tw_11) (fun _ h9 => h9) rfl dX13_say_15 ?_
  refine lv_iload_n hx hb dX13_say_18 rfl (lv_at hl 2 rfl) ?_
  refine va_iast (D := (dC, dI)) (f := (v.1 14)) hx hb hK hP hD hS 10 0 rfl rfl (in_y (a := (v.1 0 15).toInt) (b := 16000) rfl (om_3a39e93c6b zo) (om_ba2b19a576 zo) rfl) dX13_say_19 (fun H locs hP hD hS => ?_)
  have hP := cP_ (ma_14 ad N cI cZ cJ (wA v 13 ((v.1 0 15).toNatClampNeg) pa) ((v.1 0 15).toNatClampNeg) pb) hP
  have hD := cD_ (ma_14 ad N cI cZ cJ (wA v 13 ((v.1 0 15).toNatClampNeg) pa) ((v.1 0 15).toNatClampNeg) pb) hD
  refine lv_aload_n hx hb dX13_say_20 rfl (lv_at hl 0 rfl) ?_
  refine lv_dup hx hb dX13_say_21 rfl ?_
  refine va_get (D := (dC, dI)) (ci := 16) (fs := mF ad (wA (wA v 13 ((v.1 0 15).toNatClampNeg) pa) 14 ((v.1 0 15).toNatClampNeg) pb)) (v := .int (v.1 0 15)) (C := RX13) (T := TX13) (N := 124) hx hb ht itX13 hown hK hP 0 rfl rfl 15 (by decide) (ht _ tw_11) (fun _ h9 => h9) rfl dX13_say_22 ?_
  refine lv_iconst (v := 1) hx hb dX13_say_25 (by decide) ?_
  refine lv_iadd hx hb dX13_say_26 ?_
  have z1 : ((v.1 0 15) + (1 : Int32)).toInt = ((v.1 0 15).toInt) + (1 : Int) := add_z rfl (show (1 : Int32).toInt = (1 : Int) by decide) (om_ceff2b2366 zo) (om_25b654bea3 zo)
  refine va_put (D := (dC, dI)) (ci := 16) (fs := mF ad (wA (wA v 13 ((v.1 0 15).toNatClampNeg) pa) 14 ((v.1 0 15).toNatClampNeg) pb)) (v := .int ((v.1 0 15) + (1 : Int32))) (ty := .int) (C := RX13) (T := TX13) (N := 124) hx hb ht itX13 tyX13 tyX13_ok nmX13 hown hK hP hD hS 0 rfl rfl 15 (by decide) (ht _ tw_11) (fun _ h9 => h9) rfl (by decide +kernel) rfl rfl (Nat.le_of_ble_eq_true rfl) dX13_say_27 (fun H locs hP hD hS => ?_)
  have hP := cP_ (mw_15 ad N cI cZ cJ (wA (wA v 13 ((v.1 0 15).toNatClampNeg) pa) 14 ((v.1 0 15).toNatClampNeg) pb) ((v.1 0 15) + (1 : Int32))) hP
  have hD := cD_ (mw_15 ad N cI cZ cJ (wA (wA v 13 ((v.1 0 15).toNatClampNeg) pa) 14 ((v.1 0 15).toNatClampNeg) pb) ((v.1 0 15) + (1 : Int32))) hD
  refine lv_aload_n hx hb dX13_say_30 rfl (lv_at hl 0 rfl) ?_
  refine va_get (D := (dC, dI)) (ci := 16) (fs := mF ad (wA (wA (wA v 13 ((v.1 0 15).toNatClampNeg) pa) 14 ((v.1 0 15).toNatClampNeg) pb) 0 15 ((v.1 0 15) + (1 : Int32)))) (v := .int ((v.1 0 15) + (1 : Int32))) (C := RX13) (T := TX13) (N := 124) hx hb ht itX13 hown hK hP 0 rfl rfl 15 (by decide) (ht _ tw_11) (fun _ h9 => h9) rfl dX13_say_31 ?_
  refine lv_iconst (v := 1) hx hb dX13_say_34 (by decide) ?_
  refine lv_isub hx hb dX13_say_35 ?_
  refine tp_i (y := (v.1 0 15)) (as1_ _) ?_
  exact W.iret (v := (v.1 0 15)) hx hb hr (fun t ht9 hW => ⟨⟨(v.1 0 15), (wA (wA (wA v 13 ((v.1 0 15).toNatClampNeg) pa) 14 ((v.1 0 15).toNatClampNeg) pb) 0 15 ((v.1 0 15) + (1 : Int32))), rfl, ⟨rfl, rfl⟩, by rw [ht9]; exact hP, hD⟩, hS.F ht9⟩) hS.2.2 dX13_say_36
theorem om_5bccfc38cf {x0 x1 : Int} (h0 : x0 = (x1) + (1 : Int)) : x0 = x1 + 1 := by omega
theorem om_e2a66f7990 {x0 : Int} (h0 : 0 ≤ x0 ∧ x0 < 24000) : 0 ≤ x0 ∧ x0 ≤ 23999 := by omega
theorem om_e40fc72bab {x0 x1 : Int} (h0 : x0 = 5 ∨ (0 ≤ x1 ∧ x1 < 60)) : x0 = 5 ∨ (0 ≤ x1 ∧ x1 < 60) := by omega
set_option maxHeartbeats 4000000 in
set_option maxRecDepth 100000 in
theorem c_m_fix (l : Launch) (dC : Nat → ClassId) (dI : Nat → Nat → Nat) (cI cB cZ cJ cR : ClassId) (tb : Nat → Nat) (sz : Nat) (ad : Nat → Nat) (N : Nat) (v : MS) (pa : Int32) (pb : Int32) (pc1 : Int32) (zf : 0 ≤ (v.1 0 43).toInt ∧ (v.1 0 43).toInt < 24000) (za : 0 ≤ pa.toInt ∧ pa.toInt < 24000) (zx : pc1.toInt = 5 ∨ (0 ≤ pb.toInt ∧ pb.toInt < 60)) (a40 : AR 40 0 23999 v) (fx : FX v) : Met l yX13_fix (Cond.code yX13_fix cX13_fix 4 none :: tw_W) ({ frames := 0, cells := 0, slots := 0, locals := 0 }) (pc_ (dC, dI) (tyS cI cB cZ cJ cR) tb (mW ad N cI cZ cJ v) sz [.ref (ad 0), .int pa, .int pb, .int pc1]) (qv_ (dC, dI) (mW ad N cI cZ cJ v) sz (fun (u : MS) => FG [43] [0, 40, 41, 42] v u ∧ (Q_m_fix v pa pb pc1 u) ∧ ((u.1 0 43).toInt = (v.1 0 43).toInt + 1) ∧ (AR 40 0 23999 u) ∧ (FX u) ∧ (IV v → IV u)) (fun (u : MS) => (mW ad N cI cZ cJ u))) 0 0 (va_A (mW ad N cI cZ cJ v) sz) := by
  refine Met.ofW (cc := cX13_fix) (maxL := 4) (ret := none) (by decide) rfl ?_
  intro p e s m args below meth c s₁ B hml hv
  obtain ⟨rfl, hsz, hP, hKK, hD0, hFx⟩ := hv
  have hK := hKK.1
  have hx := B.exec
  have hb := B.bytes
  have hr := B.returns
  have ht : ∀ w ∈ tw_W, w.before _ s = true := fun w h => atoms_spec (ws := Cond.code yX13_fix cX13_fix 4 none :: tw_W) B.pre w (List.mem_cons_of_mem _ h)
  have hown : s.vm.findClass RX13 = some m.cls := findClass_of_methodNamed B.named
  have hlocks := B.notSynchronized
  subst hsz
  unfold qv_
  have hD := hD0.self (sz := s.heap.size)
  generalize hAe : va_A (mW ad N cI cZ cJ v) s.heap.size = A at hD hFx ⊢
  have hA : ∀ q : Nat, s.heap.size ≤ q → A q := fun q h => by rw [← hAe]; exact Or.inr h
  have hS : va_S A s.heap s.heap [] := va_S.rf
  have hl := lv_entry ([.ref (ad 0), .int pa, .int pb, .int pc1]) (n := 4) (Nat.le_of_ble_eq_true rfl)
  rw [lg_entry_eq]
  generalize (lg_sl ([.ref (ad 0), .int pa, .int pb, .int pc1]) ++ List.replicate (4 - (lg_sl ([.ref (ad 0), .int pa, .int pb, .int pc1])).length) Slot.unset).toArray = ls at hl ⊢
  have hl : lv_has ls 4 [(0, .ref (ad 0)), (1, .int pa), (2, .int pb), (3, .int pc1)] := hl
  refine lv_aload_n hx hb dX13_fix_0 rfl (lv_at hl 0 rfl) ?_
  refine va_get (D := (dC, dI)) (ci := 16) (fs := mF ad v) (v := .ref (ad 40)) (C := RX13) (T := TX13) (N := 124) hx hb ht itX13 hown hK hP 0 rfl rfl 40 (by decide) (ht _ tw_13) (fun _ h9 => h9) rfl dX13_fix_1 ?_
  refine lv_aload_n hx hb dX13_fix_4 rfl (lv_at hl 0 rfl) ?_
  refine va_get (D := (dC, dI)) (ci := 16) (fs := mF ad v) (v := .int (v.1 0 43)) (C := RX13) (T := TX13) (N := 124) hx hb ht itX13 hown hK hP 0 rfl rfl 43 (by decide) (ht _ tw_14) (fun _ h9 => h9) rfl dX13_fix_5 ?_
  refine lv_iload_n hx hb dX13_fix_8 rfl (lv_at hl 1 rfl) ?_
  refine va_iast (D := (dC, dI)) (f := (v.1 40)) hx hb hK hP hD hS 26 0 rfl rfl (in_y (a := (v.1 0 43).toInt) (b := 24000) rfl (om_5f68ca46de zf) (om_e6b85e0fc8 zf) rfl) dX13_fix_9 (fun H locs hP hD hS => ?_)
  have hP := cP_ (ma_40 ad N cI cZ cJ v ((v.1 0 43).toNatClampNeg) pa) hP
  have hD := cD_ (ma_40 ad N cI cZ cJ v ((v.1 0 43).toNatClampNeg) pa) hD
  refine lv_aload_n hx hb dX13_fix_10 rfl (lv_at hl 0 rfl) ?_
  refine va_get (D := (dC, dI)) (ci := 16) (fs := mF ad (wA v 40 ((v.1 0 43).toNatClampNeg) pa)) (v := .ref (ad 41)) (C := RX13) (T := TX13) (N := 124) hx hb ht itX13 hown hK hP 0 rfl rfl 41 (by decide) (ht _ tw_15) (fun _ h9 => h9) rfl dX13_fix_11 ?_
  refine lv_aload_n hx hb dX13_fix_14 rfl (lv_at hl 0 rfl) ?_
  refine va_get (D := (dC, dI)) (ci := 16) (fs := mF ad (wA v 40 ((v.1 0 43).toNatClampNeg) pa)) (v := .int (v.1 0 43)) (C := RX13) (T := TX13) (N := 124) hx hb ht itX13 hown hK hP 0 rfl rfl 43 (by decide) (ht _ tw_14) (fun _ h9 => h9) rfl dX13_fix_15 ?_
  refine lv_iload_n hx hb dX13_fix_18 rfl (lv_at hl 2 rfl) ?_
  refine va_iast (D := (dC, dI)) (f := (v.1 41)) hx hb hK hP hD hS 27 0 rfl rfl (in_y (a := (v.1 0 43).toInt) (b := 24000) rfl (om_5f68ca46de zf) (om_e6b85e0fc8 zf) rfl) dX13_fix_19 (fun H locs hP hD hS => ?_)
  have hP := cP_ (ma_41 ad N cI cZ cJ (wA v 40 ((v.1 0 43).toNatClampNeg) pa) ((v.1 0 43).toNatClampNeg) pb) hP
  have hD := cD_ (ma_41 ad N cI cZ cJ (wA v 40 ((v.1 0 43).toNatClampNeg) pa) ((v.1 0 43).toNatClampNeg) pb) hD
  refine lv_aload_n hx hb dX13_fix_20 rfl (lv_at hl 0 rfl) ?_
  refine va_get (D := (dC, dI)) (ci := 16) (fs := mF ad (wA (wA v 40 ((v.1 0 43).toNatClampNeg) pa) 41 ((v.1 0 43).toNatClampNeg) pb)) (v := .ref (ad 42)) (C := RX13) (T := TX13) (N := 124) hx hb ht itX13 hown hK hP 0 rfl rfl 42 (by decide) (ht _ tw_16) (fun _ h9 => h9) rfl dX13_fix_21 ?_
  refine lv_aload_n hx hb dX13_fix_24 rfl (lv_at hl 0 rfl) ?_
  refine va_get (D := (dC, dI)) (ci := 16) (fs := mF ad (wA (wA v 40 ((v.1 0 43).toNatClampNeg) pa) 41 ((v.1 0 43).toNatClampNeg) pb)) (v := .int (v.1 0 43)) (C := RX13) (T := TX13) (N := 124) hx hb ht itX13 hown hK hP 0 rfl rfl 43 (by decide) (ht _ tw_14) (fun _ h9 => h9) rfl dX13_fix_25 ?_
  refine lv_iload_n hx hb dX13_fix_28 rfl (lv_at hl 3 rfl) ?_
  refine va_iast (D := (dC, dI)) (f := (v.1 42)) hx hb hK hP hD hS 28 0 rfl rfl (in_y (a := (v.1 0 43).toInt) (b := 24000) rfl (om_5f68ca46de zf) (om_e6b85e0fc8 zf) rfl) dX13_fix_29 (fun H locs hP hD hS => ?_)
  have hP := cP_ (ma_42 ad N cI cZ cJ (wA (wA v 40 ((v.1 0 43).toNatClampNeg) pa) 41 ((v.1 0 43).toNatClampNeg) pb) ((v.1 0 43).toNatClampNeg) pc1) hP
  have hD := cD_ (ma_42 ad N cI cZ cJ (wA (wA v 40 ((v.1 0 43).toNatClampNeg) pa) 41 ((v.1 0 43).toNatClampNeg) pb) ((v.1 0 43).toNatClampNeg) pc1) hD
  refine lv_aload_n hx hb dX13_fix_30 rfl (lv_at hl 0 rfl) ?_
  refine lv_dup hx hb dX13_fix_31 rfl ?_
  refine va_get (D := (dC, dI)) (ci := 16) (fs := mF ad (wA (wA (wA v 40 ((v.1 0 43).toNatClampNeg) pa) 41 ((v.1 0 43).toNatClampNeg) pb) 42 ((v.1 0 43).toNatClampNeg) pc1)) (v := .int (v.1 0 43)) (C := RX13) (T := TX13) (N := 124) hx hb ht itX13 hown hK hP 0 rfl rfl 43 (by decide) (ht _ tw_14) (fun _ h9 => h9) rfl dX13_fix_32 ?_
  refine lv_iconst (v := 1) hx hb dX13_fix_35 (by decide) ?_
  refine lv_iadd hx hb dX13_fix_36 ?_
  have z1 : ((v.1 0 43) + (1 : Int32)).toInt = ((v.1 0 43).toInt) + (1 : Int) := add_z rfl (show (1 : Int32).toInt = (1 : Int) by decide) (om_d4b9103af5 zf) (om_8fd78812a8 zf)
  refine va_put (D := (dC, dI)) (ci := 16) (fs := mF ad (wA (wA (wA v 40 ((v.1 0 43).toNatClampNeg) pa) 41 ((v.1 0 43).toNatClampNeg) pb) 42 ((v.1 0 43).toNatClampNeg) pc1)) (v := .int ((v.1 0 43) + (1 : Int32))) (ty := .int) (C := RX13) (T := TX13) (N := 124) hx hb ht itX13 tyX13 tyX13_ok nmX13 hown hK hP hD hS 0 rfl rfl 43 (by decide) (ht _ tw_14) (fun _ h9 => h9) rfl (by decide +kernel) rfl rfl (Nat.le_of_ble_eq_true rfl) dX13_fix_37 (fun H locs hP hD hS => ?_)
  have hP := cP_ (mw_43 ad N cI cZ cJ (wA (wA (wA v 40 ((v.1 0 43).toNatClampNeg) pa) 41 ((v.1 0 43).toNatClampNeg) pb) 42 ((v.1 0 43).toNatClampNeg) pc1) ((v.1 0 43) + (1 : Int32))) hP
  have hD := cD_ (mw_43 ad N cI cZ cJ (wA (wA (wA v 40 ((v.1 0 43).toNatClampNeg) pa) 41 ((v.1 0 43).toNatClampNeg) pb) 42 ((v.1 0 43).toNatClampNeg) pc1) ((v.1 0 43) + (1 : Int32))) hD
  exact W.vret hx hb hr (fun t ht9 hW => ⟨⟨(wA (wA (wA (wA v 40 ((v.1 0 43).toNatClampNeg) pa) 41 ((v.1 0 43).toNatClampNeg) pb) 42 ((v.1 0 43).toNatClampNeg) pc1) 0 43 ((v.1 0 43) + (1 : Int32))), rfl, ⟨(FG.f (FG.a (FG.a (FG.a (FG.rf _) ((v.1 0 43).toNatClampNeg) pa (by decide) (by decide)) ((v.1 0 43).toNatClampNeg) pb (by decide) (by decide)) ((v.1 0 43).toNatClampNeg) pc1 (by decide) (by decide)) ((v.1 0 43) + (1 : Int32)) (by decide)), ⟨zf, za, zx, rfl⟩, (show ((v.1 0 43) + (1 : Int32)).toInt = (v.1 0 43).toInt + 1 from (om_5bccfc38cf z1)), (AR.o (AR.o (AR.o (AR.w a40 (show 0 ≤ pa.toInt ∧ pa.toInt ≤ 23999 from (om_e2a66f7990 za))) (by decide)) (by decide)) (by decide)), (FX.o (FX.w (FX.o fx (by decide) (by decide)) (show pc1.toInt = 5 ∨ (0 ≤ pb.toInt ∧ pb.toInt < 60) from (om_e40fc72bab zx))) (by decide) (by decide)), (fun hiv => (IV.o (IV.wfx (IV.w40 hiv (show 0 ≤ pa.toInt ∧ pa.toInt ≤ 23999 from (om_e2a66f7990 za))) (show pc1.toInt = 5 ∨ (0 ≤ pb.toInt ∧ pb.toInt < 60) from (om_e40fc72bab zx))) (by decide)))⟩, by rw [ht9]; exact hP, hD⟩, hS.F ht9⟩) hS.2.2 dX13_fix_40
set_option maxHeartbeats 4000000 in
set_option maxRecDepth 100000 in
theorem c_m_jump (l : Launch) (dC : Nat → ClassId) (dI : Nat → Nat → Nat) (cI cB cZ cJ cR : ClassId) (tb : Nat → Nat) (sz : Nat) (ad : Nat → Nat) (N : Nat) (v : MS) (pa : Int32) (pb : Int32) (pc1 : Int32) (zj : 0 ≤ pa.toInt ∧ pa.toInt < 24000) : Met l yX13_jump (Cond.code yX13_jump cX13_jump 4 none :: tw_W) ({ frames := 1, cells := 0, slots := 0, locals := 21 }) (pc_ (dC, dI) (tyS cI cB cZ cJ cR) tb (mW ad N cI cZ cJ v) sz [.ref (ad 0), .int pa, .int pb, .int pc1]) (qv_ (dC, dI) (mW ad N cI cZ cJ v) sz (fun (u : MS) => ∃ (x : Int32), (wA v 11 pa.toNatClampNeg x) = u ∧ (Q_m_jump v pa pb pc1 u)) (fun (u : MS) => (mW ad N cI cZ cJ u))) 0 0 (va_A (mW ad N cI cZ cJ v) sz) := by
  refine Met.ofW (cc := cX13_jump) (maxL := 4) (ret := none) (by decide) rfl ?_
  intro p e s m args below meth c s₁ B hml hv
  obtain ⟨rfl, hsz, hP, hKK, hD0, hFx⟩ := hv
  have hK := hKK.1
  have hx := B.exec
  have hb := B.bytes
  have hr := B.returns
  have ht : ∀ w ∈ tw_W, w.before _ s = true := fun w h => atoms_spec (ws := Cond.code yX13_jump cX13_jump 4 none :: tw_W) B.pre w (List.mem_cons_of_mem _ h)
  have hown : s.vm.findClass RX13 = some m.cls := findClass_of_methodNamed B.named
  have hlocks := B.notSynchronized
  subst hsz
  unfold qv_
  have hD := hD0.self (sz := s.heap.size)
  generalize hAe : va_A (mW ad N cI cZ cJ v) s.heap.size = A at hD hFx ⊢
  have hA : ∀ q : Nat, s.heap.size ≤ q → A q := fun q h => by rw [← hAe]; exact Or.inr h
  have hS : va_S A s.heap s.heap [] := va_S.rf
  have hl := lv_entry ([.ref (ad 0), .int pa, .int pb, .int pc1]) (n := 4) (Nat.le_of_ble_eq_true rfl)
  rw [lg_entry_eq]
  generalize (lg_sl ([.ref (ad 0), .int pa, .int pb, .int pc1]) ++ List.replicate (4 - (lg_sl ([.ref (ad 0), .int pa, .int pb, .int pc1])).length) Slot.unset).toArray = ls at hl ⊢
  have hl : lv_has ls 4 [(0, .ref (ad 0)), (1, .int pa), (2, .int pb), (3, .int pc1)] := hl
  refine lv_aload_n hx hb dX13_jump_0 rfl (lv_at hl 0 rfl) ?_
  refine va_get (D := (dC, dI)) (ci := 16) (fs := mF ad v) (v := .ref (ad 11)) (C := RX13) (T := TX13) (N := 124) hx hb ht itX13 hown hK hP 0 rfl rfl 11 (by decide) (ht _ tw_6) (fun _ h9 => h9) rfl dX13_jump_1 ?_
  refine lv_iload_n hx hb dX13_jump_4 rfl (lv_at hl 1 rfl) ?_
  refine lv_iload_n hx hb dX13_jump_5 rfl (lv_at hl 2 rfl) ?_
  refine lv_iconst (v := 4) hx hb dX13_jump_6 (by decide) ?_
  refine lv_iload_n hx hb dX13_jump_7 rfl (lv_at hl 3 rfl) ?_
  refine lv_iload_n hx hb dX13_jump_8 rfl (lv_at hl 1 rfl) ?_
  refine lv_isub hx hb dX13_jump_9 ?_
  refine lv_imul hx hb dX13_jump_10 ?_
  refine cu_s (mW_nd _ _ _ _ _ _) (rn_S (n := 2) (As := [.int pb, .int ((4 : Int32) * (pc1 - pa))]) (rest := [.int pa, .ref (ad 11)]) hx hb hml hown ht hKK hFx hP hD hS hA (c_m_byJ l dC dI cI cB cZ cJ cR tb s.heap.size pb ((4 : Int32) * (pc1 - pa)) ) tw_17 tw_18 (by decide +kernel) rfl rfl ⟨Nat.le_of_ble_eq_true rfl, Nat.le_of_ble_eq_true rfl⟩ [] rfl rfl rfl hl.1 rfl (Nat.le_of_ble_eq_true rfl) dX13_jump_11 ⟨Nat.le_of_ble_eq_true rfl, Nat.le_of_ble_eq_true rfl⟩) hP hD hS hA (fun r3 H locs hw1 hP hD hS => ?_)
  have ex1 := hw1
  refine W.widen (k := 0) (n := 0) (Nat.le_refl _) (Nat.le_refl _) ?_
  refine va_iast (D := (dC, dI)) (f := (v.1 11)) hx hb hK hP hD hS 8 0 rfl rfl (in_y (a := pa.toInt) (b := 24000) rfl (om_5f68ca46de zj) (om_e6b85e0fc8 zj) rfl) dX13_jump_14 (fun H locs hP hD hS => ?_)
  have hP := cP_ (ma_11 ad N cI cZ cJ v pa.toNatClampNeg r3) hP
  have hD := cD_ (ma_11 ad N cI cZ cJ v pa.toNatClampNeg r3) hD
  exact W.vret hx hb hr (fun t ht9 hW => ⟨⟨(wA v 11 pa.toNatClampNeg r3), rfl, ⟨r3, rfl, ⟨zj, r3, ex1, rfl⟩⟩, by rw [ht9]; exact hP, hD⟩, hS.F ht9⟩) hS.2.2 dX13_jump_15
