theorem dX13_isSame_0 : decode cX13_isSame 0 = .ok (.aload_n 0, 1) := by decide +kernel
theorem dX13_isSame_1 : decode cX13_isSame 1 = .ok (.getfield 47, 3) := by decide +kernel
theorem tw_42 : (.fieldLink RX13 47 "PocketCompilerModel" "until" "[I" : Cond) ∈ tw_W := tw_in (t8_10 (List.mem_of_getElem? (i := 165) rfl)) rfl
theorem dX13_isSame_4 : decode cX13_isSame 4 = .ok (.iload_n 1, 1) := by decide +kernel
theorem dX13_isSame_5 : decode cX13_isSame 5 = .ok (.iaload, 1) := by decide +kernel
theorem dX13_isSame_6 : decode cX13_isSame 6 = .ok (.aload_n 0, 1) := by decide +kernel
theorem dX13_isSame_7 : decode cX13_isSame 7 = .ok (.getfield 38, 3) := by decide +kernel
theorem dX13_isSame_10 : decode cX13_isSame 10 = .ok (.iload_n 1, 1) := by decide +kernel
theorem dX13_isSame_11 : decode cX13_isSame 11 = .ok (.iaload, 1) := by decide +kernel
theorem dX13_isSame_12 : decode cX13_isSame 12 = .ok (.isub, 1) := by decide +kernel
theorem dX13_isSame_13 : decode cX13_isSame 13 = .ok (.istore_n 3, 1) := by decide +kernel
theorem dX13_isSame_14 : decode cX13_isSame 14 = .ok (.iload_n 3, 1) := by decide +kernel
theorem dX13_isSame_15 : decode cX13_isSame 15 = .ok (.aload_n 0, 1) := by decide +kernel
theorem dX13_isSame_16 : decode cX13_isSame 16 = .ok (.getfield 47, 3) := by decide +kernel
theorem dX13_isSame_19 : decode cX13_isSame 19 = .ok (.iload_n 2, 1) := by decide +kernel
theorem dX13_isSame_20 : decode cX13_isSame 20 = .ok (.iaload, 1) := by decide +kernel
theorem dX13_isSame_21 : decode cX13_isSame 21 = .ok (.aload_n 0, 1) := by decide +kernel
theorem dX13_isSame_22 : decode cX13_isSame 22 = .ok (.getfield 38, 3) := by decide +kernel
theorem dX13_isSame_25 : decode cX13_isSame 25 = .ok (.iload_n 2, 1) := by decide +kernel
theorem dX13_isSame_26 : decode cX13_isSame 26 = .ok (.iaload, 1) := by decide +kernel
theorem dX13_isSame_27 : decode cX13_isSame 27 = .ok (.isub, 1) := by decide +kernel
theorem dX13_isSame_28 : decode cX13_isSame 28 = .ok (.if_icmp .ne 7, 3) := by decide +kernel
theorem dX13_isSame_35 : decode cX13_isSame 35 = .ok (.iconst 0, 1) := by decide +kernel
theorem dX13_isSame_36 : decode cX13_isSame 36 = .ok (.istore 4, 2) := by decide +kernel
theorem dX13_isSame_38 : decode cX13_isSame 38 = .ok (.iconst 0, 1) := by decide +kernel
theorem dX13_isSame_39 : decode cX13_isSame 39 = .ok (.istore 5, 2) := by decide +kernel
theorem dX13_isSame_41 : decode cX13_isSame 41 = .ok (.iload 5, 2) := by decide +kernel
theorem dX13_isSame_43 : decode cX13_isSame 43 = .ok (.iload_n 3, 1) := by decide +kernel
theorem dX13_isSame_44 : decode cX13_isSame 44 = .ok (.if_icmp .ge 52, 3) := by decide +kernel
theorem dX13_isSame_96 : decode cX13_isSame 96 = .ok (.iload 4, 2) := by decide +kernel
theorem dX13_isSame_98 : decode cX13_isSame 98 = .ok (.ireturn, 1) := by decide +kernel
theorem dX13_isSame_47 : decode cX13_isSame 47 = .ok (.iload 4, 2) := by decide +kernel
theorem dX13_isSame_49 : decode cX13_isSame 49 = .ok (.ifCond .eq 47, 3) := by decide +kernel
theorem dX13_isSame_52 : decode cX13_isSame 52 = .ok (.aload_n 0, 1) := by decide +kernel
theorem dX13_isSame_53 : decode cX13_isSame 53 = .ok (.getfield 21, 3) := by decide +kernel
theorem tw_43 : (.fieldLink RX13 21 "PocketCompilerModel" "text" "[I" : Cond) ∈ tw_W := tw_in (t8_10 (List.mem_of_getElem? (i := 160) rfl)) rfl
theorem dX13_isSame_56 : decode cX13_isSame 56 = .ok (.aload_n 0, 1) := by decide +kernel
theorem dX13_isSame_57 : decode cX13_isSame 57 = .ok (.getfield 38, 3) := by decide +kernel
theorem dX13_isSame_60 : decode cX13_isSame 60 = .ok (.iload_n 1, 1) := by decide +kernel
theorem dX13_isSame_61 : decode cX13_isSame 61 = .ok (.iaload, 1) := by decide +kernel
theorem dX13_isSame_62 : decode cX13_isSame 62 = .ok (.iload 5, 2) := by decide +kernel
theorem dX13_isSame_64 : decode cX13_isSame 64 = .ok (.iadd, 1) := by decide +kernel
theorem dX13_isSame_65 : decode cX13_isSame 65 = .ok (.iaload, 1) := by decide +kernel
theorem dX13_isSame_66 : decode cX13_isSame 66 = .ok (.aload_n 0, 1) := by decide +kernel
theorem dX13_isSame_67 : decode cX13_isSame 67 = .ok (.getfield 21, 3) := by decide +kernel
theorem dX13_isSame_70 : decode cX13_isSame 70 = .ok (.aload_n 0, 1) := by decide +kernel
theorem dX13_isSame_71 : decode cX13_isSame 71 = .ok (.getfield 38, 3) := by decide +kernel
theorem dX13_isSame_74 : decode cX13_isSame 74 = .ok (.iload_n 2, 1) := by decide +kernel
theorem dX13_isSame_75 : decode cX13_isSame 75 = .ok (.iaload, 1) := by decide +kernel
theorem dX13_isSame_76 : decode cX13_isSame 76 = .ok (.iload 5, 2) := by decide +kernel
theorem dX13_isSame_78 : decode cX13_isSame 78 = .ok (.iadd, 1) := by decide +kernel
theorem dX13_isSame_79 : decode cX13_isSame 79 = .ok (.iaload, 1) := by decide +kernel
theorem dX13_isSame_80 : decode cX13_isSame 80 = .ok (.if_icmp .ne 7, 3) := by decide +kernel
theorem dX13_isSame_87 : decode cX13_isSame 87 = .ok (.iconst 0, 1) := by decide +kernel
theorem dX13_isSame_88 : decode cX13_isSame 88 = .ok (.istore 4, 2) := by decide +kernel
theorem dX13_isSame_90 : decode cX13_isSame 90 = .ok (.iinc 5 1, 3) := by decide +kernel
theorem dX13_isSame_93 : decode cX13_isSame 93 = .ok (.goto (-52), 3) := by decide +kernel
theorem dX13_isSame_83 : decode cX13_isSame 83 = .ok (.iconst 1, 1) := by decide +kernel
theorem dX13_isSame_84 : decode cX13_isSame 84 = .ok (.goto 4, 3) := by decide +kernel
theorem dX13_isSame_31 : decode cX13_isSame 31 = .ok (.iconst 1, 1) := by decide +kernel
theorem dX13_isSame_32 : decode cX13_isSame 32 = .ok (.goto 4, 3) := by decide +kernel
theorem dX13_local_0 : decode cX13_local 0 = .ok (.aload_n 0, 1) := by decide +kernel
theorem dX13_local_1 : decode cX13_local 1 = .ok (.getfield 171, 3) := by decide +kernel
theorem tw_44 : (.fieldLink RX13 171 "PocketCompilerModel" "known" "I" : Cond) ∈ tw_W := tw_in (t8_10 (List.mem_of_getElem? (i := 187) rfl)) rfl
theorem dX13_local_4 : decode cX13_local 4 = .ok (.iconst 1, 1) := by decide +kernel
theorem dX13_local_5 : decode cX13_local 5 = .ok (.isub, 1) := by decide +kernel
theorem dX13_local_6 : decode cX13_local 6 = .ok (.istore_n 2, 1) := by decide +kernel
theorem dX13_local_7 : decode cX13_local 7 = .ok (.iload_n 2, 1) := by decide +kernel
theorem dX13_local_8 : decode cX13_local 8 = .ok (.ifCond .lt 23, 3) := by decide +kernel
theorem dX13_local_31 : decode cX13_local 31 = .ok (.iload_n 2, 1) := by decide +kernel
theorem dX13_local_32 : decode cX13_local 32 = .ok (.ireturn, 1) := by decide +kernel
theorem dX13_local_11 : decode cX13_local 11 = .ok (.aload_n 0, 1) := by decide +kernel
theorem dX13_local_12 : decode cX13_local 12 = .ok (.aload_n 0, 1) := by decide +kernel
theorem dX13_local_13 : decode cX13_local 13 = .ok (.getfield 180, 3) := by decide +kernel
theorem tw_45 : (.fieldLink RX13 180 "PocketCompilerModel" "sName" "[I" : Cond) ∈ tw_W := tw_in (t8_10 (List.mem_of_getElem? (i := 186) rfl)) rfl
theorem dX13_local_16 : decode cX13_local 16 = .ok (.iload_n 2, 1) := by decide +kernel
theorem dX13_local_17 : decode cX13_local 17 = .ok (.iaload, 1) := by decide +kernel
theorem dX13_local_18 : decode cX13_local 18 = .ok (.iload_n 1, 1) := by decide +kernel
theorem dX13_local_19 : decode cX13_local 19 = .ok (.invokevirtual 183, 3) := by decide +kernel
theorem tw_46 : (.code yX13_isSame cX13_isSame 6 (some .boolean) : Cond) ∈ tw_W := tw_in (t8_9 (List.mem_of_getElem? (i := 156) rfl)) rfl
theorem tw_47 : ∀ w ∈ ([.methodLink RX13 183 yX13_isSame, .instanceMethod yX13_isSame, .selects RX13 yX13_isSame yX13_isSame, .initialized RX13] : List Cond), w ∈ tw_W := al_c (tw_in (t8_9 (List.mem_of_getElem? (i := 153) rfl)) rfl) (al_c (tw_in (t8_9 (List.mem_of_getElem? (i := 155) rfl)) rfl) (al_c (tw_in (t7_8 (q := (yX13_isSame, 124)) (List.mem_of_getElem? (i := 11) rfl)) rfl) (al_c (tw_in (t8_1 (List.mem_of_getElem? (i := 23) rfl)) rfl) al_n)))
theorem dX13_local_22 : decode cX13_local 22 = .ok (.ifCond .ne 9, 3) := by decide +kernel
theorem dX13_local_25 : decode cX13_local 25 = .ok (.iinc 2 (-1), 3) := by decide +kernel
theorem dX13_local_28 : decode cX13_local 28 = .ok (.goto (-21), 3) := by decide +kernel
theorem dX13_globalOf_0 : decode cX13_globalOf 0 = .ok (.aload_n 0, 1) := by decide +kernel
theorem dX13_globalOf_1 : decode cX13_globalOf 1 = .ok (.getfield 186, 3) := by decide +kernel
theorem tw_48 : (.fieldLink RX13 186 "PocketCompilerModel" "globals" "I" : Cond) ∈ tw_W := tw_in (t8_10 (List.mem_of_getElem? (i := 184) rfl)) rfl
theorem dX13_globalOf_4 : decode cX13_globalOf 4 = .ok (.iconst 1, 1) := by decide +kernel
theorem dX13_globalOf_5 : decode cX13_globalOf 5 = .ok (.isub, 1) := by decide +kernel
theorem dX13_globalOf_6 : decode cX13_globalOf 6 = .ok (.istore_n 2, 1) := by decide +kernel
theorem dX13_globalOf_7 : decode cX13_globalOf 7 = .ok (.iload_n 2, 1) := by decide +kernel
theorem dX13_globalOf_8 : decode cX13_globalOf 8 = .ok (.ifCond .lt 23, 3) := by decide +kernel
theorem dX13_globalOf_31 : decode cX13_globalOf 31 = .ok (.iload_n 2, 1) := by decide +kernel
theorem dX13_globalOf_32 : decode cX13_globalOf 32 = .ok (.ireturn, 1) := by decide +kernel
theorem dX13_globalOf_11 : decode cX13_globalOf 11 = .ok (.aload_n 0, 1) := by decide +kernel
theorem dX13_globalOf_12 : decode cX13_globalOf 12 = .ok (.aload_n 0, 1) := by decide +kernel
theorem dX13_globalOf_13 : decode cX13_globalOf 13 = .ok (.getfield 189, 3) := by decide +kernel
theorem tw_49 : (.fieldLink RX13 189 "PocketCompilerModel" "gName" "[I" : Cond) ∈ tw_W := tw_in (t8_10 (List.mem_of_getElem? (i := 180) rfl)) rfl
theorem dX13_globalOf_16 : decode cX13_globalOf 16 = .ok (.iload_n 2, 1) := by decide +kernel
theorem dX13_globalOf_17 : decode cX13_globalOf 17 = .ok (.iaload, 1) := by decide +kernel
theorem dX13_globalOf_18 : decode cX13_globalOf 18 = .ok (.iload_n 1, 1) := by decide +kernel
theorem dX13_globalOf_19 : decode cX13_globalOf 19 = .ok (.invokevirtual 183, 3) := by decide +kernel
theorem dX13_globalOf_22 : decode cX13_globalOf 22 = .ok (.ifCond .ne 9, 3) := by decide +kernel
theorem dX13_globalOf_25 : decode cX13_globalOf 25 = .ok (.iinc 2 (-1), 3) := by decide +kernel
theorem dX13_globalOf_28 : decode cX13_globalOf 28 = .ok (.goto (-21), 3) := by decide +kernel
theorem dX13_functionOf_0 : decode cX13_functionOf 0 = .ok (.aload_n 0, 1) := by decide +kernel
theorem dX13_functionOf_1 : decode cX13_functionOf 1 = .ok (.getfield 192, 3) := by decide +kernel
theorem tw_50 : (.fieldLink RX13 192 "PocketCompilerModel" "functions" "I" : Cond) ∈ tw_W := tw_in (t8_10 (List.mem_of_getElem? (i := 179) rfl)) rfl
theorem dX13_functionOf_4 : decode cX13_functionOf 4 = .ok (.iconst 1, 1) := by decide +kernel
theorem dX13_functionOf_5 : decode cX13_functionOf 5 = .ok (.isub, 1) := by decide +kernel
theorem dX13_functionOf_6 : decode cX13_functionOf 6 = .ok (.istore_n 2, 1) := by decide +kernel
theorem dX13_functionOf_7 : decode cX13_functionOf 7 = .ok (.iload_n 2, 1) := by decide +kernel
theorem dX13_functionOf_8 : decode cX13_functionOf 8 = .ok (.ifCond .lt 23, 3) := by decide +kernel
theorem dX13_functionOf_31 : decode cX13_functionOf 31 = .ok (.iload_n 2, 1) := by decide +kernel
theorem dX13_functionOf_32 : decode cX13_functionOf 32 = .ok (.ireturn, 1) := by decide +kernel
theorem dX13_functionOf_11 : decode cX13_functionOf 11 = .ok (.aload_n 0, 1) := by decide +kernel
theorem dX13_functionOf_12 : decode cX13_functionOf 12 = .ok (.aload_n 0, 1) := by decide +kernel
theorem dX13_functionOf_13 : decode cX13_functionOf 13 = .ok (.getfield 195, 3) := by decide +kernel
theorem tw_51 : (.fieldLink RX13 195 "PocketCompilerModel" "fName" "[I" : Cond) ∈ tw_W := tw_in (t8_10 (List.mem_of_getElem? (i := 173) rfl)) rfl
theorem dX13_functionOf_16 : decode cX13_functionOf 16 = .ok (.iload_n 2, 1) := by decide +kernel
theorem dX13_functionOf_17 : decode cX13_functionOf 17 = .ok (.iaload, 1) := by decide +kernel
theorem dX13_functionOf_18 : decode cX13_functionOf 18 = .ok (.iload_n 1, 1) := by decide +kernel
theorem dX13_functionOf_19 : decode cX13_functionOf 19 = .ok (.invokevirtual 183, 3) := by decide +kernel
theorem dX13_functionOf_22 : decode cX13_functionOf 22 = .ok (.ifCond .ne 9, 3) := by decide +kernel
theorem dX13_functionOf_25 : decode cX13_functionOf 25 = .ok (.iinc 2 (-1), 3) := by decide +kernel
theorem dX13_functionOf_28 : decode cX13_functionOf 28 = .ok (.goto (-21), 3) := by decide +kernel
theorem om_6262a8b9a5 {x0 x1 : Int} (h0 : 0 ≤ x0 ∧ x0 ≤ 4000 ∧ 0 ≤ x1 ∧ x1 ≤ 4000) : -2147483648 ≤ (x1) - (x0) := by omega
theorem om_8c0d90fc60 {x0 x1 : Int} (h0 : 0 ≤ x0 ∧ x0 ≤ 4000 ∧ 0 ≤ x1 ∧ x1 ≤ 4000) : (x1) - (x0) < 2147483648 := by omega
theorem om_844dfe8a9d : 0 ≤ (0 : Int) ∧ (0 : Int) ≤ 4000 := by omega
theorem om_d53726916a {x0 x1 x2 x3 : Int} : (0 : Int) = 0 ∨ (x0 - x1) = (x2 - x3) := by omega
theorem om_0b0cfafd54 {x0 x1 x2 : Int} (h0 : 0 ≤ x0 ∧ x0 ≤ 4000 ∧ 0 ≤ x1 ∧ x1 ≤ 4000) (h1 : 0 ≤ x2 ∧ x2 ≤ 4000) : -2147483648 ≤ (x0) + x2 := by omega
theorem om_b9bfa0e77d {x0 x1 x2 : Int} (h0 : 0 ≤ x0 ∧ x0 ≤ 4000 ∧ 0 ≤ x1 ∧ x1 ≤ 4000) (h1 : x2 < ((x1) - (x0))) : (x0) + x2 < 2147483648 := by omega
theorem om_0d1475f221 {x0 x1 x2 : Int} (h0 : 0 ≤ x0 ∧ x0 ≤ 4000 ∧ 0 ≤ x1 ∧ x1 ≤ 4000) (h1 : 0 ≤ x2 ∧ x2 ≤ 4000) : 0 ≤ ((x0) + x2) := by omega
theorem om_a31ac36830 {x0 x1 x2 : Int} (h0 : 0 ≤ x0 ∧ x0 ≤ 4000 ∧ 0 ≤ x1 ∧ x1 ≤ 4000) (h1 : x2 < ((x1) - (x0))) : ((x0) + x2) < 4000 := by omega
theorem om_c900ba7cc5 {x0 x1 x2 : Int} (h0 : 0 ≤ x0 ∧ x0 ≤ 4000 ∧ 0 ≤ x1 ∧ x1 ≤ 4000) (h1 : 0 ≤ x2 ∧ x2 ≤ 4000) : (x0) + x2 < 2147483648 := by omega
theorem om_44c253685d {x0 x1 x2 x3 x4 x5 : Int} (h0 : 0 ≤ x0 ∧ x0 ≤ 4000 ∧ 0 ≤ x1 ∧ x1 ≤ 4000) (h1 : ((x2) - (x3)) ≠ ((x1) - (x0))) (h2 : x4 = 0 ∨ (x2 - x3) = (x1 - x0)) (h3 : x5 < ((x2) - (x3))) (h4 : x4 ≠ (0 : Int)) : ((x0) + x5) < 4000 := by omega
theorem om_18cf2a6306 {x0 : Int} (h0 : 0 ≤ x0 ∧ x0 ≤ 4000) : -2147483648 ≤ x0 + (1 : Int) := by omega
theorem om_939052dbc0 {x0 : Int} (h0 : 0 ≤ x0 ∧ x0 ≤ 4000) : x0 + (1 : Int) < 2147483648 := by omega
theorem om_30ede4a189 {x0 x1 x2 x3 : Int} (h0 : 0 ≤ x0 ∧ x0 ≤ 4000 ∧ 0 ≤ x1 ∧ x1 ≤ 4000) (h1 : 0 ≤ x2 ∧ x2 ≤ 4000) (h2 : x2 < ((x1) - (x0))) (h3 : x3 = x2 + (1 : Int)) : 0 ≤ x3 ∧ x3 ≤ 4000 := by omega
theorem om_c23c20aae5 {x0 x1 : Int} (h0 : x0 = x1 + (1 : Int)) : 4001 - x0 < 4001 - x1 := by omega
theorem om_cf458746e5 {x0 : Int} (h0 : 0 ≤ x0 ∧ x0 ≤ 4000) : 0 < 4001 - x0 := by omega
theorem om_ed42dfe449 {x0 x1 x2 x3 x4 : Int} (h0 : x0 = 0 ∨ (x1 - x2) = (x3 - x4)) (h1 : x0 ≠ (0 : Int)) : (1 : Int) = 0 ∨ (x1 - x2) = (x3 - x4) := by omega
theorem om_82b8d4e989 {x0 x1 x2 x3 : Int} (h0 : ((x0) - (x1)) = ((x2) - (x3))) : (1 : Int) = 0 ∨ (x0 - x1) = (x2 - x3) := by omega
theorem om_47952f042f {x0 x1 x2 x3 x4 : Int} (h0 : 0 ≤ x0 ∧ x0 ≤ 4000 ∧ 0 ≤ x1 ∧ x1 ≤ 4000) (h1 : ((x2) - (x3)) = ((x1) - (x0))) (h2 : x4 < ((x2) - (x3))) : ((x0) + x4) < 4000 := by omega
set_option maxHeartbeats 4000000 in
set_option maxRecDepth 100000 in
theorem c_m_isSame (l : Launch) (dC : Nat → ClassId) (dI : Nat → Nat → Nat) (cI cB cZ cJ cR : ClassId) (tb : Nat → Nat) (sz : Nat) (ad : Nat → Nat) (N : Nat) (v : MS) (pa : Int32) (pb : Int32) (zk : 0 ≤ pa.toInt ∧ pa.toInt < 4002) (zm : 0 ≤ pb.toInt ∧ pb.toInt < 4002) (hT : TI v) : Met l yX13_isSame (Cond.code yX13_isSame cX13_isSame 6 (some .boolean) :: tw_W) ({ frames := 0, cells := 0, slots := 0, locals := 0 }) (pc_ (dC, dI) (tyS cI cB cZ cJ cR) tb (mW ad N cI cZ cJ v) sz [.ref (ad 0), .int pa, .int pb]) (qi_ (dC, dI) (mW ad N cI cZ cJ v) sz (fun (r : Int32) (u : MS) => v = u ∧ (Q_m_isSame v pa pb r) ∧ (r = 0 ∨ r = 1) ∧ 0 ≤ r.toInt ∧ r.toInt ≤ 1) (fun (u : MS) => (mW ad N cI cZ cJ u))) 0 0 (va_A (mW ad N cI cZ cJ v) sz) := by
  refine Met.ofW (cc := cX13_isSame) (maxL := 6) (ret := (some .boolean)) (by decide) rfl ?_
  intro p e s m args below meth c s₁ B hml hv
  obtain ⟨rfl, hsz, hP, hKK, hD0, hFx⟩ := hv
  have hK := hKK.1
  have hx := B.exec
  have hb := B.bytes
  have hr := B.returns
  have ht : ∀ w ∈ tw_W, w.before _ s = true := fun w h => atoms_spec (ws := Cond.code yX13_isSame cX13_isSame 6 (some .boolean) :: tw_W) B.pre w (List.mem_cons_of_mem _ h)
  have hown : s.vm.findClass RX13 = some m.cls := findClass_of_methodNamed B.named
  have hlocks := B.notSynchronized
  subst hsz
  unfold qi_
  have hD := hD0.self (sz := s.heap.size)
  generalize hAe : va_A (mW ad N cI cZ cJ v) s.heap.size = A at hD hFx ⊢
  have hA : ∀ q : Nat, s.heap.size ≤ q → A q := fun q h => by rw [← hAe]; exact Or.inr h
  have hS : va_S A s.heap s.heap [] := va_S.rf
  have hl := lv_entry ([.ref (ad 0), .int pa, .int pb]) (n := 6) (Nat.le_of_ble_eq_true rfl)
  rw [lg_entry_eq]
  generalize (lg_sl ([.ref (ad 0), .int pa, .int pb]) ++ List.replicate (6 - (lg_sl ([.ref (ad 0), .int pa, .int pb])).length) Slot.unset).toArray = ls at hl ⊢
  have hl : lv_has ls 6 [(0, .ref (ad 0)), (1, .int pa), (2, .int pb)] := hl
  have ta9 : 0 ≤ ((v.1 7) pa.toNatClampNeg).toInt ∧ ((v.1 7) pa.toNatClampNeg).toInt ≤ 4000 ∧ 0 ≤ ((v.1 8) pa.toNatClampNeg).toInt ∧ ((v.1 8) pa.toNatClampNeg).toInt ≤ 4000 := hT pa.toNatClampNeg
  have tb9 : 0 ≤ ((v.1 7) pb.toNatClampNeg).toInt ∧ ((v.1 7) pb.toNatClampNeg).toInt ≤ 4000 ∧ 0 ≤ ((v.1 8) pb.toNatClampNeg).toInt ∧ ((v.1 8) pb.toNatClampNeg).toInt ≤ 4000 := hT pb.toNatClampNeg
  refine lv_aload_n hx hb dX13_isSame_0 rfl (lv_at hl 0 rfl) ?_
  refine va_get (D := (dC, dI)) (ci := 16) (fs := mF ad v) (v := .ref (ad 8)) (C := RX13) (T := TX13) (N := 124) hx hb ht itX13 hown hK hP 0 rfl rfl 8 (by decide) (ht _ tw_42) (fun _ h9 => h9) rfl dX13_isSame_1 ?_
  refine lv_iload_n hx hb dX13_isSame_4 rfl (lv_at hl 1 rfl) ?_
  refine va_iald (D := (dC, dI)) (f := (v.1 8)) hx hb hK hP 5 0 rfl rfl (in_y (a := pa.toInt) (b := 4002) rfl (om_bf055a4924 zk) (om_8b13c17066 zk) rfl) dX13_isSame_5 ?_
  refine lv_aload_n hx hb dX13_isSame_6 rfl (lv_at hl 0 rfl) ?_
  refine va_get (D := (dC, dI)) (ci := 16) (fs := mF ad v) (v := .ref (ad 7)) (C := RX13) (T := TX13) (N := 124) hx hb ht itX13 hown hK hP 0 rfl rfl 7 (by decide) (ht _ tw_20) (fun _ h9 => h9) rfl dX13_isSame_7 ?_
  refine lv_iload_n hx hb dX13_isSame_10 rfl (lv_at hl 1 rfl) ?_
  refine va_iald (D := (dC, dI)) (f := (v.1 7)) hx hb hK hP 4 0 rfl rfl (in_y (a := pa.toInt) (b := 4002) rfl (om_bf055a4924 zk) (om_8b13c17066 zk) rfl) dX13_isSame_11 ?_
  refine lv_isub hx hb dX13_isSame_12 ?_
  have z1 : (((v.1 8) pa.toNatClampNeg) - ((v.1 7) pa.toNatClampNeg)).toInt = (((v.1 8) pa.toNatClampNeg).toInt) - (((v.1 7) pa.toNatClampNeg).toInt) := sub_z rfl rfl (om_6262a8b9a5 ta9) (om_8c0d90fc60 ta9)
  refine lv_istore_n (lv' := [(3, .int (((v.1 8) pa.toNatClampNeg) - ((v.1 7) pa.toNatClampNeg))), (0, .ref (ad 0)), (1, .int pa), (2, .int pb)]) hx hb dX13_isSame_13 rfl hl (by decide) rfl (fun ls hl => ?_)
  refine lv_iload_n hx hb dX13_isSame_14 rfl (lv_at hl 0 rfl) ?_
  refine lv_aload_n hx hb dX13_isSame_15 rfl (lv_at hl 1 rfl) ?_
  refine va_get (D := (dC, dI)) (ci := 16) (fs := mF ad v) (v := .ref (ad 8)) (C := RX13) (T := TX13) (N := 124) hx hb ht itX13 hown hK hP 0 rfl rfl 8 (by decide) (ht _ tw_42) (fun _ h9 => h9) rfl dX13_isSame_16 ?_
  refine lv_iload_n hx hb dX13_isSame_19 rfl (lv_at hl 3 rfl) ?_
  refine va_iald (D := (dC, dI)) (f := (v.1 8)) hx hb hK hP 5 0 rfl rfl (in_y (a := pb.toInt) (b := 4002) rfl (om_bf055a4924 zm) (om_8b13c17066 zm) rfl) dX13_isSame_20 ?_
  refine lv_aload_n hx hb dX13_isSame_21 rfl (lv_at hl 1 rfl) ?_
  refine va_get (D := (dC, dI)) (ci := 16) (fs := mF ad v) (v := .ref (ad 7)) (C := RX13) (T := TX13) (N := 124) hx hb ht itX13 hown hK hP 0 rfl rfl 7 (by decide) (ht _ tw_20) (fun _ h9 => h9) rfl dX13_isSame_22 ?_
  refine lv_iload_n hx hb dX13_isSame_25 rfl (lv_at hl 3 rfl) ?_
  refine va_iald (D := (dC, dI)) (f := (v.1 7)) hx hb hK hP 4 0 rfl rfl (in_y (a := pb.toInt) (b := 4002) rfl (om_bf055a4924 zm) (om_8b13c17066 zm) rfl) dX13_isSame_26 ?_
  refine lv_isub hx hb dX13_isSame_27 ?_
  have z2 : (((v.1 8) pb.toNatClampNeg) - ((v.1 7) pb.toNatClampNeg)).toInt = (((v.1 8) pb.toNatClampNeg).toInt) - (((v.1 7) pb.toNatClampNeg).toInt) := sub_z rfl rfl (om_6262a8b9a5 tb9) (om_8c0d90fc60 tb9)
  refine lv_icmp_ne (tgt := 35) hx hb dX13_isSame_28 (by decide) (fun h3 => ?_) (fun h3 => ?_)
  · have z4 : ((((v.1 8) pa.toNatClampNeg).toInt) - (((v.1 7) pa.toNatClampNeg).toInt)) ≠ ((((v.1 8) pb.toNatClampNeg).toInt) - (((v.1 7) pb.toNatClampNeg).toInt)) := ne_z z1 z2 h3
    refine lv_iconst (v := 0) hx hb dX13_isSame_35 (by decide) ?_
    refine lv_istore (lv' := [(4, .int 0), (3, .int (((v.1 8) pa.toNatClampNeg) - ((v.1 7) pa.toNatClampNeg))), (0, .ref (ad 0)), (1, .int pa), (2, .int pb)]) hx hb dX13_isSame_36 hl (by decide) rfl (fun ls hl => ?_)
    refine lv_iconst (v := 0) hx hb dX13_isSame_38 (by decide) ?_
    refine lv_istore (lv' := [(5, .int 0), (4, .int 0), (3, .int (((v.1 8) pa.toNatClampNeg) - ((v.1 7) pa.toNatClampNeg))), (0, .ref (ad 0)), (1, .int pa), (2, .int pb)]) hx hb dX13_isSame_39 hl (by decide) rfl (fun ls hl => ?_)
    refine lpm_ (X := Int32 × Int32) (P := (fun (x9 : Int32 × Int32) (H : Heap) (locs : List Loc) (ls : Array Slot) => (0 ≤ x9.1.toInt ∧ x9.1.toInt ≤ 4000) ∧ (x9.2 = 0 ∨ x9.2 = 1) ∧ (x9.2.toInt = 0 ∨ (((v.1 8) pa.toNatClampNeg).toInt - ((v.1 7) pa.toNatClampNeg).toInt) = (((v.1 8) pb.toNatClampNeg).toInt - ((v.1 7) pb.toNatClampNeg).toInt)) ∧ (RT (Q_m_isSame_L0 v pa pb) (0, 0) (x9.1, x9.2)) ∧ va_P (dC, dI) vwCl (mW ad N cI cZ cJ v) H ∧ va_D A (mW ad N cI cZ cJ v) ∧ va_S A s.heap H locs ∧ lv_has ls 6 [(5, .int x9.1), (4, .int x9.2), (3, .int (((v.1 8) pa.toNatClampNeg) - ((v.1 7) pa.toNatClampNeg))), (0, .ref (ad 0)), (1, .int pa), (2, .int pb)])) (fun x9 => (4001 - x9.1.toInt).toNat) 41 (fun x9 H locs ls hh ih41 => ?_) (0, 0) _ _ _ ⟨(show 0 ≤ (0 : Int) ∧ (0 : Int) ≤ 4000 from om_844dfe8a9d), (show (0 : Int32) = 0 ∨ (0 : Int32) = 1 from (Or.inl rfl)), (show (0 : Int) = 0 ∨ (((v.1 8) pa.toNatClampNeg).toInt - ((v.1 7) pa.toNatClampNeg).toInt) = (((v.1 8) pb.toNatClampNeg).toInt - ((v.1 7) pb.toNatClampNeg).toInt) from om_d53726916a), RT.rf, hP, hD, hS, lv_sub hl [0, 1, 2, 3, 4, 5] rfl⟩
    obtain ⟨i, b⟩ := x9
    obtain ⟨f1L41, f2L41, f3L41, exL41, hP, hD, hS, hl⟩ := hh
    have f1L41 : 0 ≤ i.toInt ∧ i.toInt ≤ 4000 := f1L41
    have f2L41 : b = 0 ∨ b = 1 := f2L41
    have f3L41 : b.toInt = 0 ∨ (((v.1 8) pa.toNatClampNeg).toInt - ((v.1 7) pa.toNatClampNeg).toInt) = (((v.1 8) pb.toNatClampNeg).toInt - ((v.1 7) pb.toNatClampNeg).toInt) := f3L41
    have hl : lv_has ls 6 [(5, .int i), (4, .int b), (3, .int (((v.1 8) pa.toNatClampNeg) - ((v.1 7) pa.toNatClampNeg))), (0, .ref (ad 0)), (1, .int pa), (2, .int pb)] := hl
    refine lv_iload hx hb dX13_isSame_41 (lv_at hl 0 rfl) ?_
    refine lv_iload_n hx hb dX13_isSame_43 rfl (lv_at hl 2 rfl) ?_
    refine lv_icmp_ge (tgt := 96) hx hb dX13_isSame_44 (by decide) (fun h5 => ?_) (fun h5 => ?_)
    · have z6 : ((((v.1 8) pa.toNatClampNeg).toInt) - (((v.1 7) pa.toNatClampNeg).toInt)) ≤ i.toInt := le_z z1 rfl h5
      refine lv_iload hx hb dX13_isSame_96 (lv_at hl 1 rfl) ?_
      exact W.zret (v := b) hx hb hr (bz_ f2L41) (fun t ht9 hW => ⟨⟨b, v, rfl, ⟨rfl, ⟨zk, zm, (Or.inl ⟨z4, i, b, exL41, f1L41, f3L41, (Or.inl ⟨z6, rfl⟩)⟩)⟩, ⟨f2L41, (b01_ f2L41)⟩⟩, by rw [ht9]; exact hP, hD⟩, hS.F ht9⟩) hS.2.2 dX13_isSame_98
    · have z7 : i.toInt < ((((v.1 8) pa.toNatClampNeg).toInt) - (((v.1 7) pa.toNatClampNeg).toInt)) := nle_z z1 rfl h5
      refine lv_iload hx hb dX13_isSame_47 (lv_at hl 1 rfl) ?_
      refine lv_if_eq (tgt := 96) hx hb dX13_isSame_49 (by decide) (fun h8 => ?_) (fun h8 => ?_)
      · have z9 : b.toInt = (0 : Int) := eq_z rfl (show (0 : Int32).toInt = (0 : Int) by decide) h8
        refine lv_iload hx hb dX13_isSame_96 (lv_at hl 1 rfl) ?_
        exact W.zret (v := b) hx hb hr (bz_ f2L41) (fun t ht9 hW => ⟨⟨b, v, rfl, ⟨rfl, ⟨zk, zm, (Or.inl ⟨z4, i, b, exL41, f1L41, f3L41, (Or.inr (⟨z7, z9, rfl⟩))⟩)⟩, ⟨f2L41, (b01_ f2L41)⟩⟩, by rw [ht9]; exact hP, hD⟩, hS.F ht9⟩) hS.2.2 dX13_isSame_98
      · have z10 : b.toInt ≠ (0 : Int) := ne_z rfl (show (0 : Int32).toInt = (0 : Int) by decide) h8
        refine lv_aload_n hx hb dX13_isSame_52 rfl (lv_at hl 3 rfl) ?_
        refine va_get (D := (dC, dI)) (ci := 16) (fs := mF ad v) (v := .ref (ad 3)) (C := RX13) (T := TX13) (N := 124) hx hb ht itX13 hown hK hP 0 rfl rfl 3 (by decide) (ht _ tw_43) (fun _ h9 => h9) rfl dX13_isSame_53 ?_
        refine lv_aload_n hx hb dX13_isSame_56 rfl (lv_at hl 3 rfl) ?_
        refine va_get (D := (dC, dI)) (ci := 16) (fs := mF ad v) (v := .ref (ad 7)) (C := RX13) (T := TX13) (N := 124) hx hb ht itX13 hown hK hP 0 rfl rfl 7 (by decide) (ht _ tw_20) (fun _ h9 => h9) rfl dX13_isSame_57 ?_
        refine lv_iload_n hx hb dX13_isSame_60 rfl (lv_at hl 4 rfl) ?_
        refine va_iald (D := (dC, dI)) (f := (v.1 7)) hx hb hK hP 4 0 rfl rfl (in_y (a := pa.toInt) (b := 4002) rfl (om_bf055a4924 zk) (om_8b13c17066 zk) rfl) dX13_isSame_61 ?_
        refine lv_iload hx hb dX13_isSame_62 (lv_at hl 0 rfl) ?_
        refine lv_iadd hx hb dX13_isSame_64 ?_
        have z11 : (((v.1 7) pa.toNatClampNeg) + i).toInt = (((v.1 7) pa.toNatClampNeg).toInt) + i.toInt := add_z rfl rfl (om_0b0cfafd54 ta9 f1L41) (om_b9bfa0e77d ta9 z7)
        refine va_iald (D := (dC, dI)) (f := (v.1 3)) hx hb hK hP 2 0 rfl rfl (in_y (a := ((((v.1 7) pa.toNatClampNeg).toInt) + i.toInt)) (b := 4000) z11 (om_0d1475f221 ta9 f1L41) (om_a31ac36830 ta9 z7) rfl) dX13_isSame_65 ?_
        refine lv_aload_n hx hb dX13_isSame_66 rfl (lv_at hl 3 rfl) ?_
        refine va_get (D := (dC, dI)) (ci := 16) (fs := mF ad v) (v := .ref (ad 3)) (C := RX13) (T := TX13) (N := 124) hx hb ht itX13 hown hK hP 0 rfl rfl 3 (by decide) (ht _ tw_43) (fun _ h9 => h9) rfl dX13_isSame_67 ?_
        refine lv_aload_n hx hb dX13_isSame_70 rfl (lv_at hl 3 rfl) ?_
        refine va_get (D := (dC, dI)) (ci := 16) (fs := mF ad v) (v := .ref (ad 7)) (C := RX13) (T := TX13) (N := 124) hx hb ht itX13 hown hK hP 0 rfl rfl 7 (by decide) (ht _ tw_20) (fun _ h9 => h9) rfl dX13_isSame_71 ?_
        refine lv_iload_n hx hb dX13_isSame_74 rfl (lv_at hl 5 rfl) ?_
        refine va_iald (D := (dC, dI)) (f := (v.1 7)) hx hb hK hP 4 0 rfl rfl (in_y (a := pb.toInt) (b := 4002) rfl (om_bf055a4924 zm) (om_8b13c17066 zm) rfl) dX13_isSame_75 ?_
        refine lv_iload hx hb dX13_isSame_76 (lv_at hl 0 rfl) ?_
        refine lv_iadd hx hb dX13_isSame_78 ?_
        have z12 : (((v.1 7) pb.toNatClampNeg) + i).toInt = (((v.1 7) pb.toNatClampNeg).toInt) + i.toInt := add_z rfl rfl (om_0b0cfafd54 tb9 f1L41) (om_c900ba7cc5 tb9 f1L41)
        refine va_iald (D := (dC, dI)) (f := (v.1 3)) hx hb hK hP 2 0 rfl rfl (in_y (a := ((((v.1 7) pb.toNatClampNeg).toInt) + i.toInt)) (b := 4000) z12 (om_0d1475f221 tb9 f1L41) (om_44c253685d tb9 z4 f3L41 z7 z10) rfl) dX13_isSame_79 ?_
        refine lv_icmp_ne (tgt := 87) hx hb dX13_isSame_80 (by decide) (fun h13 => ?_) (fun h13 => ?_)
        · have z14 : ((v.1 3) (((v.1 7) pa.toNatClampNeg) + i).toNatClampNeg).toInt ≠ ((v.1 3) (((v.1 7) pb.toNatClampNeg) + i).toNatClampNeg).toInt := ne_z rfl rfl h13
          refine lv_iconst (v := 0) hx hb dX13_isSame_87 (by decide) ?_
          refine lv_istore (lv' := [(4, .int 0), (5, .int i), (3, .int (((v.1 8) pa.toNatClampNeg) - ((v.1 7) pa.toNatClampNeg))), (0, .ref (ad 0)), (1, .int pa), (2, .int pb)]) hx hb dX13_isSame_88 hl (by decide) rfl (fun ls hl => ?_)
          refine lv_iinc (v := (i + (1 : Int32))) (lv' := [(5, .int (i + (1 : Int32))), (4, .int 0), (3, .int (((v.1 8) pa.toNatClampNeg) - ((v.1 7) pa.toNatClampNeg))), (0, .ref (ad 0)), (1, .int pa), (2, .int pb)]) hx hb dX13_isSame_90 hl (k := 1) rfl (rfl) (by decide) rfl (fun ls hl => ?_)
          have z15 : (i + (1 : Int32)).toInt = i.toInt + (1 : Int) := add_z rfl (show (1 : Int32).toInt = (1 : Int) by decide) (om_18cf2a6306 f1L41) (om_939052dbc0 f1L41)
          refine lv_goto (tgt := 41) hx hb dX13_isSame_93 (by decide) ?_
          exact ih41 ((i + (1 : Int32)), 0) _ _ _ (show (4001 - (i + (1 : Int32)).toInt).toNat < (4001 - i.toInt).toNat from tn_z (om_c23c20aae5 z15) (om_cf458746e5 f1L41)) ⟨(show 0 ≤ (i + (1 : Int32)).toInt ∧ (i + (1 : Int32)).toInt ≤ 4000 from (om_30ede4a189 ta9 f1L41 z7 z15)), (show (0 : Int32) = 0 ∨ (0 : Int32) = 1 from (Or.inl rfl)), (show (0 : Int) = 0 ∨ (((v.1 8) pa.toNatClampNeg).toInt - ((v.1 7) pa.toNatClampNeg).toInt) = (((v.1 8) pb.toNatClampNeg).toInt - ((v.1 7) pb.toNatClampNeg).toInt) from om_d53726916a), (RT.st exL41 ⟨f1L41, f3L41, z7, z10, (Or.inl ⟨z14, rfl⟩)⟩), hP, hD, hS, lv_sub hl [0, 1, 2, 3, 4, 5] rfl⟩
        · have z16 : ((v.1 3) (((v.1 7) pa.toNatClampNeg) + i).toNatClampNeg).toInt = ((v.1 3) (((v.1 7) pb.toNatClampNeg) + i).toNatClampNeg).toInt := eq_z rfl rfl h13
          refine lv_iconst (v := 1) hx hb dX13_isSame_83 (by decide) ?_
          refine lv_goto (tgt := 88) hx hb dX13_isSame_84 (by decide) ?_
          refine lv_istore (lv' := [(4, .int 1), (5, .int i), (3, .int (((v.1 8) pa.toNatClampNeg) - ((v.1 7) pa.toNatClampNeg))), (0, .ref (ad 0)), (1, .int pa), (2, .int pb)]) hx hb dX13_isSame_88 hl (by decide) rfl (fun ls hl => ?_)
          refine lv_iinc (v := (i + (1 : Int32))) (lv' := [(5, .int (i + (1 : Int32))), (4, .int 1), (3, .int (((v.1 8) pa.toNatClampNeg) - ((v.1 7) pa.toNatClampNeg))), (0, .ref (ad 0)), (1, .int pa), (2, .int pb)]) hx hb dX13_isSame_90 hl (k := 1) rfl (rfl) (by decide) rfl (fun ls hl => ?_)
          have z17 : (i + (1 : Int32)).toInt = i.toInt + (1 : Int) := add_z rfl (show (1 : Int32).toInt = (1 : Int) by decide) (om_18cf2a6306 f1L41) (om_939052dbc0 f1L41)
          refine lv_goto (tgt := 41) hx hb dX13_isSame_93 (by decide) ?_
          exact ih41 ((i + (1 : Int32)), 1) _ _ _ (show (4001 - (i + (1 : Int32)).toInt).toNat < (4001 - i.toInt).toNat from tn_z (om_c23c20aae5 z17) (om_cf458746e5 f1L41)) ⟨(show 0 ≤ (i + (1 : Int32)).toInt ∧ (i + (1 : Int32)).toInt ≤ 4000 from (om_30ede4a189 ta9 f1L41 z7 z17)), (show (1 : Int32) = 0 ∨ (1 : Int32) = 1 from (Or.inr rfl)), (show (1 : Int) = 0 ∨ (((v.1 8) pa.toNatClampNeg).toInt - ((v.1 7) pa.toNatClampNeg).toInt) = (((v.1 8) pb.toNatClampNeg).toInt - ((v.1 7) pb.toNatClampNeg).toInt) from (om_ed42dfe449 f3L41 z10)), (RT.st exL41 ⟨f1L41, f3L41, z7, z10, (Or.inr (⟨z16, rfl⟩))⟩), hP, hD, hS, lv_sub hl [0, 1, 2, 3, 4, 5] rfl⟩
  · have z18 : ((((v.1 8) pa.toNatClampNeg).toInt) - (((v.1 7) pa.toNatClampNeg).toInt)) = ((((v.1 8) pb.toNatClampNeg).toInt) - (((v.1 7) pb.toNatClampNeg).toInt)) := eq_z z1 z2 h3
    refine lv_iconst (v := 1) hx hb dX13_isSame_31 (by decide) ?_
    refine lv_goto (tgt := 36) hx hb dX13_isSame_32 (by decide) ?_
    refine lv_istore (lv' := [(4, .int 1), (3, .int (((v.1 8) pa.toNatClampNeg) - ((v.1 7) pa.toNatClampNeg))), (0, .ref (ad 0)), (1, .int pa), (2, .int pb)]) hx hb dX13_isSame_36 hl (by decide) rfl (fun ls hl => ?_)
    refine lv_iconst (v := 0) hx hb dX13_isSame_38 (by decide) ?_
    refine lv_istore (lv' := [(5, .int 0), (4, .int 1), (3, .int (((v.1 8) pa.toNatClampNeg) - ((v.1 7) pa.toNatClampNeg))), (0, .ref (ad 0)), (1, .int pa), (2, .int pb)]) hx hb dX13_isSame_39 hl (by decide) rfl (fun ls hl => ?_)
    refine lpm_ (X := Int32 × Int32) (P := (fun (x9 : Int32 × Int32) (H : Heap) (locs : List Loc) (ls : Array Slot) => (0 ≤ x9.1.toInt ∧ x9.1.toInt ≤ 4000) ∧ (x9.2 = 0 ∨ x9.2 = 1) ∧ (x9.2.toInt = 0 ∨ (((v.1 8) pa.toNatClampNeg).toInt - ((v.1 7) pa.toNatClampNeg).toInt) = (((v.1 8) pb.toNatClampNeg).toInt - ((v.1 7) pb.toNatClampNeg).toInt)) ∧ (RT (Q_m_isSame_L1 v pa pb) (0, 1) (x9.1, x9.2)) ∧ va_P (dC, dI) vwCl (mW ad N cI cZ cJ v) H ∧ va_D A (mW ad N cI cZ cJ v) ∧ va_S A s.heap H locs ∧ lv_has ls 6 [(5, .int x9.1), (4, .int x9.2), (3, .int (((v.1 8) pa.toNatClampNeg) - ((v.1 7) pa.toNatClampNeg))), (0, .ref (ad 0)), (1, .int pa), (2, .int pb)])) (fun x9 => (4001 - x9.1.toInt).toNat) 41 (fun x9 H locs ls hh ih41 => ?_) (0, 1) _ _ _ ⟨(show 0 ≤ (0 : Int) ∧ (0 : Int) ≤ 4000 from om_844dfe8a9d), (show (1 : Int32) = 0 ∨ (1 : Int32) = 1 from (Or.inr rfl)), (show (1 : Int) = 0 ∨ (((v.1 8) pa.toNatClampNeg).toInt - ((v.1 7) pa.toNatClampNeg).toInt) = (((v.1 8) pb.toNatClampNeg).toInt - ((v.1 7) pb.toNatClampNeg).toInt) from (om_82b8d4e989 z18)), RT.rf, hP, hD, hS, lv_sub hl [0, 1, 2, 3, 4, 5] rfl⟩
    obtain ⟨i, b⟩ := x9
    obtain ⟨f1L41, f2L41, f3L41, exL41, hP, hD, hS, hl⟩ := hh
    have f1L41 : 0 ≤ i.toInt ∧ i.toInt ≤ 4000 := f1L41
    have f2L41 : b = 0 ∨ b = 1 := f2L41
    have f3L41 : b.toInt = 0 ∨ (((v.1 8) pa.toNatClampNeg).toInt - ((v.1 7) pa.toNatClampNeg).toInt) = (((v.1 8) pb.toNatClampNeg).toInt - ((v.1 7) pb.toNatClampNeg).toInt) := f3L41
    have hl : lv_has ls 6 [(5, .int i), (4, .int b), (3, .int (((v.1 8) pa.toNatClampNeg) - ((v.1 7) pa.toNatClampNeg))), (0, .ref (ad 0)), (1, .int pa), (2, .int pb)] := hl
    refine lv_iload hx hb dX13_isSame_41 (lv_at hl 0 rfl) ?_
    refine lv_iload_n hx hb dX13_isSame_43 rfl (lv_at hl 2 rfl) ?_
    refine lv_icmp_ge (tgt := 96) hx hb dX13_isSame_44 (by decide) (fun h19 => ?_) (fun h19 => ?_)
    · have z20 : ((((v.1 8) pa.toNatClampNeg).toInt) - (((v.1 7) pa.toNatClampNeg).toInt)) ≤ i.toInt := le_z z1 rfl h19
      refine lv_iload hx hb dX13_isSame_96 (lv_at hl 1 rfl) ?_
      exact W.zret (v := b) hx hb hr (bz_ f2L41) (fun t ht9 hW => ⟨⟨b, v, rfl, ⟨rfl, ⟨zk, zm, (Or.inr (⟨z18, i, b, exL41, f1L41, f3L41, (Or.inl ⟨z20, rfl⟩)⟩))⟩, ⟨f2L41, (b01_ f2L41)⟩⟩, by rw [ht9]; exact hP, hD⟩, hS.F ht9⟩) hS.2.2 dX13_isSame_98
    · have z21 : i.toInt < ((((v.1 8) pa.toNatClampNeg).toInt) - (((v.1 7) pa.toNatClampNeg).toInt)) := nle_z z1 rfl h19
      refine lv_iload hx hb dX13_isSame_47 (lv_at hl 1 rfl) ?_
      refine lv_if_eq (tgt := 96) hx hb dX13_isSame_49 (by decide) (fun h22 => ?_) (fun h22 => ?_)
      · have z23 : b.toInt = (0 : Int) := eq_z rfl (show (0 : Int32).toInt = (0 : Int) by decide) h22
        refine lv_iload hx hb dX13_isSame_96 (lv_at hl 1 rfl) ?_
        exact W.zret (v := b) hx hb hr (bz_ f2L41) (fun t ht9 hW => ⟨⟨b, v, rfl, ⟨rfl, ⟨zk, zm, (Or.inr (⟨z18, i, b, exL41, f1L41, f3L41, (Or.inr (⟨z21, z23, rfl⟩))⟩))⟩, ⟨f2L41, (b01_ f2L41)⟩⟩, by rw [ht9]; exact hP, hD⟩, hS.F ht9⟩) hS.2.2 dX13_isSame_98
      · have z24 : b.toInt ≠ (0 : Int) := ne_z rfl (show (0 : Int32).toInt = (0 : Int) by decide) h22
        refine lv_aload_n hx hb dX13_isSame_52 rfl (lv_at hl 3 rfl) ?_
        refine va_get (D := (dC, dI)) (ci := 16) (fs := mF ad v) (v := .ref (ad 3)) (C := RX13) (T := TX13) (N := 124) hx hb ht itX13 hown hK hP 0 rfl rfl 3 (by decide) (ht _ tw_43) (fun _ h9 => h9) rfl dX13_isSame_53 ?_
        refine lv_aload_n hx hb dX13_isSame_56 rfl (lv_at hl 3 rfl) ?_
        refine va_get (D := (dC, dI)) (ci := 16) (fs := mF ad v) (v := .ref (ad 7)) (C := RX13) (T := TX13) (N := 124) hx hb ht itX13 hown hK hP 0 rfl rfl 7 (by decide) (ht _ tw_20) (fun _ h9 => h9) rfl dX13_isSame_57 ?_
        refine lv_iload_n hx hb dX13_isSame_60 rfl (lv_at hl 4 rfl) ?_
        refine va_iald (D := (dC, dI)) (f := (v.1 7)) hx hb hK hP 4 0 rfl rfl (in_y (a := pa.toInt) (b := 4002) rfl (om_bf055a4924 zk) (om_8b13c17066 zk) rfl) dX13_isSame_61 ?_
        refine lv_iload hx hb dX13_isSame_62 (lv_at hl 0 rfl) ?_
        refine lv_iadd hx hb dX13_isSame_64 ?_
        have z25 : (((v.1 7) pa.toNatClampNeg) + i).toInt = (((v.1 7) pa.toNatClampNeg).toInt) + i.toInt := add_z rfl rfl (om_0b0cfafd54 ta9 f1L41) (om_b9bfa0e77d ta9 z21)
        refine va_iald (D := (dC, dI)) (f := (v.1 3)) hx hb hK hP 2 0 rfl rfl (in_y (a := ((((v.1 7) pa.toNatClampNeg).toInt) + i.toInt)) (b := 4000) z25 (om_0d1475f221 ta9 f1L41) (om_a31ac36830 ta9 z21) rfl) dX13_isSame_65 ?_
        refine lv_aload_n hx hb dX13_isSame_66 rfl (lv_at hl 3 rfl) ?_
        refine va_get (D := (dC, dI)) (ci := 16) (fs := mF ad v) (v := .ref (ad 3)) (C := RX13) (T := TX13) (N := 124) hx hb ht itX13 hown hK hP 0 rfl rfl 3 (by decide) (ht _ tw_43) (fun _ h9 => h9) rfl dX13_isSame_67 ?_
        refine lv_aload_n hx hb dX13_isSame_70 rfl (lv_at hl 3 rfl) ?_
        refine va_get (D := (dC, dI)) (ci := 16) (fs := mF ad v) (v := .ref (ad 7)) (C := RX13) (T := TX13) (N := 124) hx hb ht itX13 hown hK hP 0 rfl rfl 7 (by decide) (ht _ tw_20) (fun _ h9 => h9) rfl dX13_isSame_71 ?_
        refine lv_iload_n hx hb dX13_isSame_74 rfl (lv_at hl 5 rfl) ?_
        refine va_iald (D := (dC, dI)) (f := (v.1 7)) hx hb hK hP 4 0 rfl rfl (in_y (a := pb.toInt) (b := 4002) rfl (om_bf055a4924 zm) (om_8b13c17066 zm) rfl) dX13_isSame_75 ?_
        refine lv_iload hx hb dX13_isSame_76 (lv_at hl 0 rfl) ?_
        refine lv_iadd hx hb dX13_isSame_78 ?_
        have z26 : (((v.1 7) pb.toNatClampNeg) + i).toInt = (((v.1 7) pb.toNatClampNeg).toInt) + i.toInt := add_z rfl rfl (om_0b0cfafd54 tb9 f1L41) (om_c900ba7cc5 tb9 f1L41)
        refine va_iald (D := (dC, dI)) (f := (v.1 3)) hx hb hK hP 2 0 rfl rfl (in_y (a := ((((v.1 7) pb.toNatClampNeg).toInt) + i.toInt)) (b := 4000) z26 (om_0d1475f221 tb9 f1L41) (om_47952f042f tb9 z18 z21) rfl) dX13_isSame_79 ?_
        refine lv_icmp_ne (tgt := 87) hx hb dX13_isSame_80 (by decide) (fun h27 => ?_) (fun h27 => ?_)
        · have z28 : ((v.1 3) (((v.1 7) pa.toNatClampNeg) + i).toNatClampNeg).toInt ≠ ((v.1 3) (((v.1 7) pb.toNatClampNeg) + i).toNatClampNeg).toInt := ne_z rfl rfl h27
          refine lv_iconst (v := 0) hx hb dX13_isSame_87 (by decide) ?_
          refine lv_istore (lv' := [(4, .int 0), (5, .int i), (3, .int (((v.1 8) pa.toNatClampNeg) - ((v.1 7) pa.toNatClampNeg))), (0, .ref (ad 0)), (1, .int pa), (2, .int pb)]) hx hb dX13_isSame_88 hl (by decide) rfl (fun ls hl => ?_)
          refine lv_iinc (v := (i + (1 : Int32))) (lv' := [(5, .int (i + (1 : Int32))), (4, .int 0), (3, .int (((v.1 8) pa.toNatClampNeg) - ((v.1 7) pa.toNatClampNeg))), (0, .ref (ad 0)), (1, .int pa), (2, .int pb)]) hx hb dX13_isSame_90 hl (k := 1) rfl (rfl) (by decide) rfl (fun ls hl => ?_)
          have z29 : (i + (1 : Int32)).toInt = i.toInt + (1 : Int) := add_z rfl (show (1 : Int32).toInt = (1 : Int) by decide) (om_18cf2a6306 f1L41) (om_939052dbc0 f1L41)
          refine lv_goto (tgt := 41) hx hb dX13_isSame_93 (by decide) ?_
          exact ih41 ((i + (1 : Int32)), 0) _ _ _ (show (4001 - (i + (1 : Int32)).toInt).toNat < (4001 - i.toInt).toNat from tn_z (om_c23c20aae5 z29) (om_cf458746e5 f1L41)) ⟨(show 0 ≤ (i + (1 : Int32)).toInt ∧ (i + (1 : Int32)).toInt ≤ 4000 from (om_30ede4a189 ta9 f1L41 z21 z29)), (show (0 : Int32) = 0 ∨ (0 : Int32) = 1 from (Or.inl rfl)), (show (0 : Int) = 0 ∨ (((v.1 8) pa.toNatClampNeg).toInt - ((v.1 7) pa.toNatClampNeg).toInt) = (((v.1 8) pb.toNatClampNeg).toInt - ((v.1 7) pb.toNatClampNeg).toInt) from om_d53726916a), (RT.st exL41 ⟨f1L41, f3L41, z21, z24, (Or.inl ⟨z28, rfl⟩)⟩), hP, hD, hS, lv_sub hl [0, 1, 2, 3, 4, 5] rfl⟩
        · have z30 : ((v.1 3) (((v.1 7) pa.toNatClampNeg) + i).toNatClampNeg).toInt = ((v.1 3) (((v.1 7) pb.toNatClampNeg) + i).toNatClampNeg).toInt := eq_z rfl rfl h27
          refine lv_iconst (v := 1) hx hb dX13_isSame_83 (by decide) ?_
          refine lv_goto (tgt := 88) hx hb dX13_isSame_84 (by decide) ?_
          refine lv_istore (lv' := [(4, .int 1), (5, .int i), (3, .int (((v.1 8) pa.toNatClampNeg) - ((v.1 7) pa.toNatClampNeg))), (0, .ref (ad 0)), (1, .int pa), (2, .int pb)]) hx hb dX13_isSame_88 hl (by decide) rfl (fun ls hl => ?_)
          refine lv_iinc (v := (i + (1 : Int32))) (lv' := [(5, .int (i + (1 : Int32))), (4, .int 1), (3, .int (((v.1 8) pa.toNatClampNeg) - ((v.1 7) pa.toNatClampNeg))), (0, .ref (ad 0)), (1, .int pa), (2, .int pb)]) hx hb dX13_isSame_90 hl (k := 1) rfl (rfl) (by decide) rfl (fun ls hl => ?_)
          have z31 : (i + (1 : Int32)).toInt = i.toInt + (1 : Int) := add_z rfl (show (1 : Int32).toInt = (1 : Int) by decide) (om_18cf2a6306 f1L41) (om_939052dbc0 f1L41)
          refine lv_goto (tgt := 41) hx hb dX13_isSame_93 (by decide) ?_
          exact ih41 ((i + (1 : Int32)), 1) _ _ _ (show (4001 - (i + (1 : Int32)).toInt).toNat < (4001 - i.toInt).toNat from tn_z (om_c23c20aae5 z31) (om_cf458746e5 f1L41)) ⟨(show 0 ≤ (i + (1 : Int32)).toInt ∧ (i + (1 : Int32)).toInt ≤ 4000 from (om_30ede4a189 ta9 f1L41 z21 z31)), (show (1 : Int32) = 0 ∨ (1 : Int32) = 1 from (Or.inr rfl)), (show (1 : Int) = 0 ∨ (((v.1 8) pa.toNatClampNeg).toInt - ((v.1 7) pa.toNatClampNeg).toInt) = (((v.1 8) pb.toNatClampNeg).toInt - ((v.1 7) pb.toNatClampNeg).toInt) from (om_82b8d4e989 z18)), (RT.st exL41 ⟨f1L41, f3L41, z21, z24, (Or.inr (⟨z30, rfl⟩))⟩), hP, hD, hS, lv_sub hl [0, 1, 2, 3, 4, 5] rfl⟩
theorem om_40d9f122f2 {x0 : Int} (h0 : 0 ≤ x0 ∧ x0 ≤ 501) : -2147483648 ≤ (x0) - (1 : Int) := by omega
theorem om_0ba1cc77ed {x0 : Int} (h0 : 0 ≤ x0 ∧ x0 ≤ 501) : (x0) - (1 : Int) < 2147483648 := by omega
theorem om_3b470b52ba {x0 x1 : Int} (h0 : 0 ≤ x0 ∧ x0 ≤ 501) (h1 : x1 = (x0) - (1 : Int)) : -1 ≤ x1 ∧ x1 < x0 := by omega
theorem om_32c29c5174 {x0 x1 : Int} (h0 : -1 ≤ x0 ∧ x0 < x1) : -1 ≤ x0 ∧ x0 < x1 := by omega
theorem om_51058f7f87 {x0 : Int} (h0 : (0 : Int) ≤ x0) : 0 ≤ x0 := by omega
theorem om_b304f596ab {x0 x1 : Int} (h0 : 0 ≤ x0 ∧ x0 ≤ 501) (h1 : -1 ≤ x1 ∧ x1 < x0) : x1 < 501 := by omega
theorem om_6a33293909 {x0 : Int} (h0 : 0 ≤ x0 ∧ x0 < 4002) : 0 ≤ x0 ∧ x0 < 4002 := by omega
theorem om_dfac880bb8 {x0 x1 : Int} (h0 : -1 ≤ x0 ∧ x0 < x1) (h1 : (0 : Int) ≤ x0) : -1 ≤ x0 ∧ x0 < x1 := by omega
theorem om_aad7ab9b89 {x0 x1 : Int} (h0 : -1 ≤ x0 ∧ x0 < x1) : -2147483648 ≤ x0 + (-1 : Int) := by omega
theorem om_0332e4d4b1 {x0 x1 : Int} (h0 : 0 ≤ x0 ∧ x0 ≤ 501) (h1 : -1 ≤ x1 ∧ x1 < x0) : x1 + (-1 : Int) < 2147483648 := by omega
theorem om_0c05f7229d {x0 x1 x2 : Int} (h0 : -1 ≤ x0 ∧ x0 < x1) (h1 : (0 : Int) ≤ x0) (h2 : x2 = x0 + (-1 : Int)) : -1 ≤ x2 ∧ x2 < x1 := by omega
theorem om_3e134d9ec9 {x0 x1 : Int} (h0 : x0 = x1 + (-1 : Int)) : x0 + 1 < x1 + 1 := by omega
theorem om_ff03e7c988 {x0 : Int} (h0 : (0 : Int) ≤ x0) : 0 < x0 + 1 := by omega
set_option maxHeartbeats 4000000 in
set_option maxRecDepth 100000 in
theorem c_m_local (l : Launch) (dC : Nat → ClassId) (dI : Nat → Nat → Nat) (cI cB cZ cJ cR : ClassId) (tb : Nat → Nat) (sz : Nat) (ad : Nat → Nat) (N : Nat) (v : MS) (pa : Int32) (zk : 0 ≤ pa.toInt ∧ pa.toInt < 4002) (zn : 0 ≤ (v.1 0 30).toInt ∧ (v.1 0 30).toInt ≤ 501) (hT : TI v) (a29 : AR 29 0 1500 v) : Met l yX13_local (Cond.code yX13_local cX13_local 3 (some .int) :: tw_W) ({ frames := 1, cells := 0, slots := 0, locals := 25 }) (pc_ (dC, dI) (tyS cI cB cZ cJ cR) tb (mW ad N cI cZ cJ v) sz [.ref (ad 0), .int pa]) (qi_ (dC, dI) (mW ad N cI cZ cJ v) sz (fun (r : Int32) (u : MS) => v = u ∧ (Q_m_local v pa r) ∧ -1 ≤ r.toInt ∧ r.toInt < (v.1 0 30).toInt) (fun (u : MS) => (mW ad N cI cZ cJ u))) 0 0 (va_A (mW ad N cI cZ cJ v) sz) := by
  refine Met.ofW (cc := cX13_local) (maxL := 3) (ret := (some .int)) (by decide) rfl ?_
  intro p e s m args below meth c s₁ B hml hv
  obtain ⟨rfl, hsz, hP, hKK, hD0, hFx⟩ := hv
  have hK := hKK.1
  have hx := B.exec
  have hb := B.bytes
  have hr := B.returns
  have ht : ∀ w ∈ tw_W, w.before _ s = true := fun w h => atoms_spec (ws := Cond.code yX13_local cX13_local 3 (some .int) :: tw_W) B.pre w (List.mem_cons_of_mem _ h)
  have hown : s.vm.findClass RX13 = some m.cls := findClass_of_methodNamed B.named
  have hlocks := B.notSynchronized
  subst hsz
  unfold qi_
  have hD := hD0.self (sz := s.heap.size)
  generalize hAe : va_A (mW ad N cI cZ cJ v) s.heap.size = A at hD hFx ⊢
  have hA : ∀ q : Nat, s.heap.size ≤ q → A q := fun q h => by rw [← hAe]; exact Or.inr h
  have hS : va_S A s.heap s.heap [] := va_S.rf
  have hl := lv_entry ([.ref (ad 0), .int pa]) (n := 3) (Nat.le_of_ble_eq_true rfl)
  rw [lg_entry_eq]
  generalize (lg_sl ([.ref (ad 0), .int pa]) ++ List.replicate (3 - (lg_sl ([.ref (ad 0), .int pa])).length) Slot.unset).toArray = ls at hl ⊢
  have hl : lv_has ls 3 [(0, .ref (ad 0)), (1, .int pa)] := hl
  refine lv_aload_n hx hb dX13_local_0 rfl (lv_at hl 0 rfl) ?_
  refine va_get (D := (dC, dI)) (ci := 16) (fs := mF ad v) (v := .int (v.1 0 30)) (C := RX13) (T := TX13) (N := 124) hx hb ht itX13 hown hK hP 0 rfl rfl 30 (by decide) (ht _ tw_44) (fun _ h9 => h9) rfl dX13_local_1 ?_
  refine lv_iconst (v := 1) hx hb dX13_local_4 (by decide) ?_
  refine lv_isub hx hb dX13_local_5 ?_
  have z1 : ((v.1 0 30) - (1 : Int32)).toInt = ((v.1 0 30).toInt) - (1 : Int) := sub_z rfl (show (1 : Int32).toInt = (1 : Int) by decide) (om_40d9f122f2 zn) (om_0ba1cc77ed zn)
  refine lv_istore_n (lv' := [(2, .int ((v.1 0 30) - (1 : Int32))), (0, .ref (ad 0)), (1, .int pa)]) hx hb dX13_local_6 rfl hl (by decide) rfl (fun ls hl => ?_)
  refine lpm_ (X := Int32) (P := (fun (x9 : Int32) (H : Heap) (locs : List Loc) (ls : Array Slot) => (-1 ≤ x9.toInt ∧ x9.toInt < (v.1 0 30).toInt) ∧ (RT (Q_m_local_L0 v pa) ((v.1 0 30) - (1 : Int32)) x9) ∧ va_P (dC, dI) vwCl (mW ad N cI cZ cJ v) H ∧ va_D A (mW ad N cI cZ cJ v) ∧ va_S A s.heap H locs ∧ lv_has ls 3 [(2, .int x9), (0, .ref (ad 0)), (1, .int pa)])) (fun x9 => (x9.toInt + 1).toNat) 7 (fun k H locs ls hh ih7 => ?_) ((v.1 0 30) - (1 : Int32)) _ _ _ ⟨(show -1 ≤ ((v.1 0 30) - (1 : Int32)).toInt ∧ ((v.1 0 30) - (1 : Int32)).toInt < (v.1 0 30).toInt from (om_3b470b52ba zn z1)), RT.rf, hP, hD, hS, lv_sub hl [0, 1, 2] rfl⟩
  obtain ⟨f1L7, exL7, hP, hD, hS, hl⟩ := hh
  have f1L7 : -1 ≤ k.toInt ∧ k.toInt < (v.1 0 30).toInt := f1L7
  have hl : lv_has ls 3 [(2, .int k), (0, .ref (ad 0)), (1, .int pa)] := hl
  refine lv_iload_n hx hb dX13_local_7 rfl (lv_at hl 0 rfl) ?_
  refine lv_if_lt (tgt := 31) hx hb dX13_local_8 (by decide) (fun h2 => ?_) (fun h2 => ?_)
  · have z3 : k.toInt < (0 : Int) := lt_z rfl (show (0 : Int32).toInt = (0 : Int) by decide) h2
    refine lv_iload_n hx hb dX13_local_31 rfl (lv_at hl 0 rfl) ?_
    exact W.iret (v := k) hx hb hr (fun t ht9 hW => ⟨⟨k, v, rfl, ⟨rfl, ⟨zk, zn, k, exL7, f1L7, (Or.inl ⟨z3, rfl⟩)⟩, (om_32c29c5174 f1L7)⟩, by rw [ht9]; exact hP, hD⟩, hS.F ht9⟩) hS.2.2 dX13_local_32
  · have z4 : (0 : Int) ≤ k.toInt := nlt_z rfl (show (0 : Int32).toInt = (0 : Int) by decide) h2
    refine lv_aload_n hx hb dX13_local_11 rfl (lv_at hl 1 rfl) ?_
    refine lv_aload_n hx hb dX13_local_12 rfl (lv_at hl 1 rfl) ?_
    refine va_get (D := (dC, dI)) (ci := 16) (fs := mF ad v) (v := .ref (ad 29)) (C := RX13) (T := TX13) (N := 124) hx hb ht itX13 hown hK hP 0 rfl rfl 29 (by decide) (ht _ tw_45) (fun _ h9 => h9) rfl dX13_local_13 ?_
    refine lv_iload_n hx hb dX13_local_16 rfl (lv_at hl 0 rfl) ?_
    refine va_iald (D := (dC, dI)) (f := (v.1 29)) hx hb hK hP 21 0 rfl rfl (in_y (a := k.toInt) (b := 501) rfl (om_51058f7f87 z4) (om_b304f596ab zn f1L7) rfl) dX13_local_17 ?_
    have tn9 : 0 ≤ ((v.1 29) k.toNatClampNeg).toInt ∧ ((v.1 29) k.toNatClampNeg).toInt ≤ 1500 := a29 k.toNatClampNeg
    refine lv_iload_n hx hb dX13_local_18 rfl (lv_at hl 2 rfl) ?_
    refine cu_i (rn_V (n := 2) (As := [.int ((v.1 29) k.toNatClampNeg), .int pa]) (rest := []) hx hb hml hown ht hKK hFx hP hD hS hA (c_m_isSame l dC dI cI cB cZ cJ cR tb H.size ad N v ((v.1 29) k.toNatClampNeg) pa (show 0 ≤ ((v.1 29) k.toNatClampNeg).toInt ∧ ((v.1 29) k.toNatClampNeg).toInt < 4002 from (om_5c36fd3f9e tn9)) (show 0 ≤ pa.toInt ∧ pa.toInt < 4002 from (om_6a33293909 zk)) (show TI v from FG.ti (fl := pfl) (al := pal) (FG.rf _) (by decide) (by decide) hT)) tw_46 tw_47 (by decide +kernel) rfl rfl ⟨Nat.le_of_ble_eq_true rfl, Nat.le_of_ble_eq_true rfl⟩ (List.range (mW ad N cI cZ cJ v).length) (rg_map _) (mW_nd _ _ _ _ _ _) rfl rfl rfl rfl hl.1 rfl (Nat.le_of_ble_eq_true rfl) dX13_local_19 ⟨Nat.le_of_ble_eq_true rfl, Nat.le_of_ble_eq_true rfl⟩) hP hD hS hA (fun r7 u6 H locs hw5 hP hD hS => ?_)
    obtain ⟨rfl, ex5, b5, e5⟩ := hw5
    refine W.widen (k := 0) (n := 0) (Nat.le_refl _) (Nat.le_refl _) ?_
    refine lv_if_ne (tgt := 31) hx hb dX13_local_22 (by decide) (fun h8 => ?_) (fun h8 => ?_)
    · have z9 : r7.toInt ≠ (0 : Int) := ne_z rfl (show (0 : Int32).toInt = (0 : Int) by decide) h8
      refine lv_iload_n hx hb dX13_local_31 rfl (lv_at hl 0 rfl) ?_
      exact W.iret (v := k) hx hb hr (fun t ht9 hW => ⟨⟨k, v, rfl, ⟨rfl, ⟨zk, zn, k, exL7, f1L7, (Or.inr (⟨z4, r7, ex5, ⟨b5, e5⟩, z9, rfl⟩))⟩, (om_dfac880bb8 f1L7 z4)⟩, by rw [ht9]; exact hP, hD⟩, hS.F ht9⟩) hS.2.2 dX13_local_32
    · have z10 : r7.toInt = (0 : Int) := eq_z rfl (show (0 : Int32).toInt = (0 : Int) by decide) h8
      refine lv_iinc (v := (k + (-1 : Int32))) (lv' := [(2, .int (k + (-1 : Int32))), (0, .ref (ad 0)), (1, .int pa)]) hx hb dX13_local_25 hl (k := 0) rfl (rfl) (by decide) rfl (fun ls hl => ?_)
      have z11 : (k + (-1 : Int32)).toInt = k.toInt + (-1 : Int) := add_z rfl (show ((-1) : Int32).toInt = (-1 : Int) by decide) (om_aad7ab9b89 f1L7) (om_0332e4d4b1 zn f1L7)
      refine lv_goto (tgt := 7) hx hb dX13_local_28 (by decide) ?_
      exact ih7 (k + (-1 : Int32)) _ _ _ (show ((k + (-1 : Int32)).toInt + 1).toNat < (k.toInt + 1).toNat from tn_z (om_3e134d9ec9 z11) (om_ff03e7c988 z4)) ⟨(show -1 ≤ (k + (-1 : Int32)).toInt ∧ (k + (-1 : Int32)).toInt < (v.1 0 30).toInt from (om_0c05f7229d f1L7 z4 z11)), (RT.st exL7 ⟨f1L7, z4, r7, ex5, ⟨b5, e5⟩, z10, rfl⟩), hP, hD, hS, lv_sub hl [0, 1, 2] rfl⟩
theorem om_d6a8d3a5d5 {x0 : Int} (h0 : 0 ≤ x0 ∧ x0 ≤ 60) : -2147483648 ≤ (x0) - (1 : Int) := by omega
theorem om_ced70e9b68 {x0 : Int} (h0 : 0 ≤ x0 ∧ x0 ≤ 60) : (x0) - (1 : Int) < 2147483648 := by omega
theorem om_0058c624ad {x0 x1 : Int} (h0 : 0 ≤ x0 ∧ x0 ≤ 60) (h1 : x1 = (x0) - (1 : Int)) : -1 ≤ x1 ∧ x1 < x0 := by omega
theorem om_dbd369e2dc {x0 x1 : Int} (h0 : 0 ≤ x0 ∧ x0 ≤ 60) (h1 : -1 ≤ x1 ∧ x1 < x0) : x1 < 60 := by omega
theorem om_1a0b451629 {x0 x1 : Int} (h0 : 0 ≤ x0 ∧ x0 ≤ 60) (h1 : -1 ≤ x1 ∧ x1 < x0) : x1 + (-1 : Int) < 2147483648 := by omega
set_option maxHeartbeats 4000000 in
set_option maxRecDepth 100000 in
theorem c_m_globalOf (l : Launch) (dC : Nat → ClassId) (dI : Nat → Nat → Nat) (cI cB cZ cJ cR : ClassId) (tb : Nat → Nat) (sz : Nat) (ad : Nat → Nat) (N : Nat) (v : MS) (pa : Int32) (zk : 0 ≤ pa.toInt ∧ pa.toInt < 4002) (zn : 0 ≤ (v.1 0 27).toInt ∧ (v.1 0 27).toInt ≤ 60) (hT : TI v) (a23 : AR 23 0 1500 v) : Met l yX13_globalOf (Cond.code yX13_globalOf cX13_globalOf 3 (some .int) :: tw_W) ({ frames := 1, cells := 0, slots := 0, locals := 25 }) (pc_ (dC, dI) (tyS cI cB cZ cJ cR) tb (mW ad N cI cZ cJ v) sz [.ref (ad 0), .int pa]) (qi_ (dC, dI) (mW ad N cI cZ cJ v) sz (fun (r : Int32) (u : MS) => v = u ∧ (Q_m_globalOf v pa r) ∧ -1 ≤ r.toInt ∧ r.toInt < (v.1 0 27).toInt) (fun (u : MS) => (mW ad N cI cZ cJ u))) 0 0 (va_A (mW ad N cI cZ cJ v) sz) := by
  refine Met.ofW (cc := cX13_globalOf) (maxL := 3) (ret := (some .int)) (by decide) rfl ?_
  intro p e s m args below meth c s₁ B hml hv
  obtain ⟨rfl, hsz, hP, hKK, hD0, hFx⟩ := hv
  have hK := hKK.1
  have hx := B.exec
  have hb := B.bytes
  have hr := B.returns
  have ht : ∀ w ∈ tw_W, w.before _ s = true := fun w h => atoms_spec (ws := Cond.code yX13_globalOf cX13_globalOf 3 (some .int) :: tw_W) B.pre w (List.mem_cons_of_mem _ h)
  have hown : s.vm.findClass RX13 = some m.cls := findClass_of_methodNamed B.named
  have hlocks := B.notSynchronized
  subst hsz
  unfold qi_
  have hD := hD0.self (sz := s.heap.size)
  generalize hAe : va_A (mW ad N cI cZ cJ v) s.heap.size = A at hD hFx ⊢
  have hA : ∀ q : Nat, s.heap.size ≤ q → A q := fun q h => by rw [← hAe]; exact Or.inr h
  have hS : va_S A s.heap s.heap [] := va_S.rf
  have hl := lv_entry ([.ref (ad 0), .int pa]) (n := 3) (Nat.le_of_ble_eq_true rfl)
  rw [lg_entry_eq]
  generalize (lg_sl ([.ref (ad 0), .int pa]) ++ List.replicate (3 - (lg_sl ([.ref (ad 0), .int pa])).length) Slot.unset).toArray = ls at hl ⊢
  have hl : lv_has ls 3 [(0, .ref (ad 0)), (1, .int pa)] := hl
  refine lv_aload_n hx hb dX13_globalOf_0 rfl (lv_at hl 0 rfl) ?_
  refine va_get (D := (dC, dI)) (ci := 16) (fs := mF ad v) (v := .int (v.1 0 27)) (C := RX13) (T := TX13) (N := 124) hx hb ht itX13 hown hK hP 0 rfl rfl 27 (by decide) (ht _ tw_48) (fun _ h9 => h9) rfl dX13_globalOf_1 ?_
  refine lv_iconst (v := 1) hx hb dX13_globalOf_4 (by decide) ?_
  refine lv_isub hx hb dX13_globalOf_5 ?_
  have z1 : ((v.1 0 27) - (1 : Int32)).toInt = ((v.1 0 27).toInt) - (1 : Int) := sub_z rfl (show (1 : Int32).toInt = (1 : Int) by decide) (om_d6a8d3a5d5 zn) (om_ced70e9b68 zn)
  refine lv_istore_n (lv' := [(2, .int ((v.1 0 27) - (1 : Int32))), (0, .ref (ad 0)), (1, .int pa)]) hx hb dX13_globalOf_6 rfl hl (by decide) rfl (fun ls hl => ?_)
  refine lpm_ (X := Int32) (P := (fun (x9 : Int32) (H : Heap) (locs : List Loc) (ls : Array Slot) => (-1 ≤ x9.toInt ∧ x9.toInt < (v.1 0 27).toInt) ∧ (RT (Q_m_globalOf_L0 v pa) ((v.1 0 27) - (1 : Int32)) x9) ∧ va_P (dC, dI) vwCl (mW ad N cI cZ cJ v) H ∧ va_D A (mW ad N cI cZ cJ v) ∧ va_S A s.heap H locs ∧ lv_has ls 3 [(2, .int x9), (0, .ref (ad 0)), (1, .int pa)])) (fun x9 => (x9.toInt + 1).toNat) 7 (fun k H locs ls hh ih7 => ?_) ((v.1 0 27) - (1 : Int32)) _ _ _ ⟨(show -1 ≤ ((v.1 0 27) - (1 : Int32)).toInt ∧ ((v.1 0 27) - (1 : Int32)).toInt < (v.1 0 27).toInt from (om_0058c624ad zn z1)), RT.rf, hP, hD, hS, lv_sub hl [0, 1, 2] rfl⟩
  obtain ⟨f1L7, exL7, hP, hD, hS, hl⟩ := hh
  have f1L7 : -1 ≤ k.toInt ∧ k.toInt < (v.1 0 27).toInt := f1L7
  have hl : lv_has ls 3 [(2, .int k), (0, .ref (ad 0)), (1, .int pa)] := hl
  refine lv_iload_n hx hb dX13_globalOf_7 rfl (lv_at hl 0 rfl) ?_
  refine lv_if_lt (tgt := 31) hx hb dX13_globalOf_8 (by decide) (fun h2 => ?_) (fun h2 => ?_)
  · have z3 : k.toInt < (0 : Int) := lt_z rfl (show (0 : Int32).toInt = (0 : Int) by decide) h2
    refine lv_iload_n hx hb dX13_globalOf_31 rfl (lv_at hl 0 rfl) ?_
    exact W.iret (v := k) hx hb hr (fun t ht9 hW => ⟨⟨k, v, rfl, ⟨rfl, ⟨zk, zn, k, exL7, f1L7, (Or.inl ⟨z3, rfl⟩)⟩, (om_32c29c5174 f1L7)⟩, by rw [ht9]; exact hP, hD⟩, hS.F ht9⟩) hS.2.2 dX13_globalOf_32
  · have z4 : (0 : Int) ≤ k.toInt := nlt_z rfl (show (0 : Int32).toInt = (0 : Int) by decide) h2
    refine lv_aload_n hx hb dX13_globalOf_11 rfl (lv_at hl 1 rfl) ?_
    refine lv_aload_n hx hb dX13_globalOf_12 rfl (lv_at hl 1 rfl) ?_
    refine va_get (D := (dC, dI)) (ci := 16) (fs := mF ad v) (v := .ref (ad 23)) (C := RX13) (T := TX13) (N := 124) hx hb ht itX13 hown hK hP 0 rfl rfl 23 (by decide) (ht _ tw_49) (fun _ h9 => h9) rfl dX13_globalOf_13 ?_
    refine lv_iload_n hx hb dX13_globalOf_16 rfl (lv_at hl 0 rfl) ?_
    refine va_iald (D := (dC, dI)) (f := (v.1 23)) hx hb hK hP 17 0 rfl rfl (in_y (a := k.toInt) (b := 60) rfl (om_51058f7f87 z4) (om_dbd369e2dc zn f1L7) rfl) dX13_globalOf_17 ?_
    have tn9 : 0 ≤ ((v.1 23) k.toNatClampNeg).toInt ∧ ((v.1 23) k.toNatClampNeg).toInt ≤ 1500 := a23 k.toNatClampNeg
    refine lv_iload_n hx hb dX13_globalOf_18 rfl (lv_at hl 2 rfl) ?_
    refine cu_i (rn_V (n := 2) (As := [.int ((v.1 23) k.toNatClampNeg), .int pa]) (rest := []) hx hb hml hown ht hKK hFx hP hD hS hA (c_m_isSame l dC dI cI cB cZ cJ cR tb H.size ad N v ((v.1 23) k.toNatClampNeg) pa (show 0 ≤ ((v.1 23) k.toNatClampNeg).toInt ∧ ((v.1 23) k.toNatClampNeg).toInt < 4002 from (om_5c36fd3f9e tn9)) (show 0 ≤ pa.toInt ∧ pa.toInt < 4002 from (om_6a33293909 zk)) (show TI v from FG.ti (fl := pfl) (al := pal) (FG.rf _) (by decide) (by decide) hT)) tw_46 tw_47 (by decide +kernel) rfl rfl ⟨Nat.le_of_ble_eq_true rfl, Nat.le_of_ble_eq_true rfl⟩ (List.range (mW ad N cI cZ cJ v).length) (rg_map _) (mW_nd _ _ _ _ _ _) rfl rfl rfl rfl hl.1 rfl (Nat.le_of_ble_eq_true rfl) dX13_globalOf_19 ⟨Nat.le_of_ble_eq_true rfl, Nat.le_of_ble_eq_true rfl⟩) hP hD hS hA (fun r7 u6 H locs hw5 hP hD hS => ?_)
    obtain ⟨rfl, ex5, b5, e5⟩ := hw5
    refine W.widen (k := 0) (n := 0) (Nat.le_refl _) (Nat.le_refl _) ?_
    refine lv_if_ne (tgt := 31) hx hb dX13_globalOf_22 (by decide) (fun h8 => ?_) (fun h8 => ?_)
    · have z9 : r7.toInt ≠ (0 : Int) := ne_z rfl (show (0 : Int32).toInt = (0 : Int) by decide) h8
      refine lv_iload_n hx hb dX13_globalOf_31 rfl (lv_at hl 0 rfl) ?_
      exact W.iret (v := k) hx hb hr (fun t ht9 hW => ⟨⟨k, v, rfl, ⟨rfl, ⟨zk, zn, k, exL7, f1L7, (Or.inr (⟨z4, r7, ex5, ⟨b5, e5⟩, z9, rfl⟩))⟩, (om_dfac880bb8 f1L7 z4)⟩, by rw [ht9]; exact hP, hD⟩, hS.F ht9⟩) hS.2.2 dX13_globalOf_32
    · have z10 : r7.toInt = (0 : Int) := eq_z rfl (show (0 : Int32).toInt = (0 : Int) by decide) h8
      refine lv_iinc (v := (k + (-1 : Int32))) (lv' := [(2, .int (k + (-1 : Int32))), (0, .ref (ad 0)), (1, .int pa)]) hx hb dX13_globalOf_25 hl (k := 0) rfl (rfl) (by decide) rfl (fun ls hl => ?_)
      have z11 : (k + (-1 : Int32)).toInt = k.toInt + (-1 : Int) := add_z rfl (show ((-1) : Int32).toInt = (-1 : Int) by decide) (om_aad7ab9b89 f1L7) (om_1a0b451629 zn f1L7)
      refine lv_goto (tgt := 7) hx hb dX13_globalOf_28 (by decide) ?_
      exact ih7 (k + (-1 : Int32)) _ _ _ (show ((k + (-1 : Int32)).toInt + 1).toNat < (k.toInt + 1).toNat from tn_z (om_3e134d9ec9 z11) (om_ff03e7c988 z4)) ⟨(show -1 ≤ (k + (-1 : Int32)).toInt ∧ (k + (-1 : Int32)).toInt < (v.1 0 27).toInt from (om_0c05f7229d f1L7 z4 z11)), (RT.st exL7 ⟨f1L7, z4, r7, ex5, ⟨b5, e5⟩, z10, rfl⟩), hP, hD, hS, lv_sub hl [0, 1, 2] rfl⟩
theorem om_d15c1b7192 {x0 x1 : Int} (h0 : 0 ≤ x0 ∧ x0 ≤ 40) (h1 : x1 = (x0) - (1 : Int)) : -1 ≤ x1 ∧ x1 < x0 := by omega
theorem om_c66e3c679d {x0 x1 : Int} (h0 : 0 ≤ x0 ∧ x0 ≤ 40) (h1 : -1 ≤ x1 ∧ x1 < x0) : x1 < 40 := by omega
theorem om_acaa5a8a04 {x0 x1 : Int} (h0 : 0 ≤ x0 ∧ x0 ≤ 40) (h1 : -1 ≤ x1 ∧ x1 < x0) : x1 + (-1 : Int) < 2147483648 := by omega
set_option maxHeartbeats 4000000 in
set_option maxRecDepth 100000 in
theorem c_m_functionOf (l : Launch) (dC : Nat → ClassId) (dI : Nat → Nat → Nat) (cI cB cZ cJ cR : ClassId) (tb : Nat → Nat) (sz : Nat) (ad : Nat → Nat) (N : Nat) (v : MS) (pa : Int32) (zk : 0 ≤ pa.toInt ∧ pa.toInt < 4002) (zn : 0 ≤ (v.1 0 22).toInt ∧ (v.1 0 22).toInt ≤ 40) (hT : TI v) (a16 : AR 16 0 1500 v) : Met l yX13_functionOf (Cond.code yX13_functionOf cX13_functionOf 3 (some .int) :: tw_W) ({ frames := 1, cells := 0, slots := 0, locals := 25 }) (pc_ (dC, dI) (tyS cI cB cZ cJ cR) tb (mW ad N cI cZ cJ v) sz [.ref (ad 0), .int pa]) (qi_ (dC, dI) (mW ad N cI cZ cJ v) sz (fun (r : Int32) (u : MS) => v = u ∧ (Q_m_functionOf v pa r) ∧ -1 ≤ r.toInt ∧ r.toInt < (v.1 0 22).toInt) (fun (u : MS) => (mW ad N cI cZ cJ u))) 0 0 (va_A (mW ad N cI cZ cJ v) sz) := by
  refine Met.ofW (cc := cX13_functionOf) (maxL := 3) (ret := (some .int)) (by decide) rfl ?_
  intro p e s m args below meth c s₁ B hml hv
  obtain ⟨rfl, hsz, hP, hKK, hD0, hFx⟩ := hv
  have hK := hKK.1
  have hx := B.exec
  have hb := B.bytes
  have hr := B.returns
  have ht : ∀ w ∈ tw_W, w.before _ s = true := fun w h => atoms_spec (ws := Cond.code yX13_functionOf cX13_functionOf 3 (some .int) :: tw_W) B.pre w (List.mem_cons_of_mem _ h)
  have hown : s.vm.findClass RX13 = some m.cls := findClass_of_methodNamed B.named
  have hlocks := B.notSynchronized
  subst hsz
  unfold qi_
  have hD := hD0.self (sz := s.heap.size)
  generalize hAe : va_A (mW ad N cI cZ cJ v) s.heap.size = A at hD hFx ⊢
  have hA : ∀ q : Nat, s.heap.size ≤ q → A q := fun q h => by rw [← hAe]; exact Or.inr h
  have hS : va_S A s.heap s.heap [] := va_S.rf
  have hl := lv_entry ([.ref (ad 0), .int pa]) (n := 3) (Nat.le_of_ble_eq_true rfl)
  rw [lg_entry_eq]
  generalize (lg_sl ([.ref (ad 0), .int pa]) ++ List.replicate (3 - (lg_sl ([.ref (ad 0), .int pa])).length) Slot.unset).toArray = ls at hl ⊢
  have hl : lv_has ls 3 [(0, .ref (ad 0)), (1, .int pa)] := hl
  refine lv_aload_n hx hb dX13_functionOf_0 rfl (lv_at hl 0 rfl) ?_
  refine va_get (D := (dC, dI)) (ci := 16) (fs := mF ad v) (v := .int (v.1 0 22)) (C := RX13) (T := TX13) (N := 124) hx hb ht itX13 hown hK hP 0 rfl rfl 22 (by decide) (ht _ tw_50) (fun _ h9 => h9) rfl dX13_functionOf_1 ?_
  refine lv_iconst (v := 1) hx hb dX13_functionOf_4 (by decide) ?_
  refine lv_isub hx hb dX13_functionOf_5 ?_
  have z1 : ((v.1 0 22) - (1 : Int32)).toInt = ((v.1 0 22).toInt) - (1 : Int) := sub_z rfl (show (1 : Int32).toInt = (1 : Int) by decide) (om_f2795c2b52 zn) (om_14dd996dd5 zn)
  refine lv_istore_n (lv' := [(2, .int ((v.1 0 22) - (1 : Int32))), (0, .ref (ad 0)), (1, .int pa)]) hx hb dX13_functionOf_6 rfl hl (by decide) rfl (fun ls hl => ?_)
  refine lpm_ (X := Int32) (P := (fun (x9 : Int32) (H : Heap) (locs : List Loc) (ls : Array Slot) => (-1 ≤ x9.toInt ∧ x9.toInt < (v.1 0 22).toInt) ∧ (RT (Q_m_functionOf_L0 v pa) ((v.1 0 22) - (1 : Int32)) x9) ∧ va_P (dC, dI) vwCl (mW ad N cI cZ cJ v) H ∧ va_D A (mW ad N cI cZ cJ v) ∧ va_S A s.heap H locs ∧ lv_has ls 3 [(2, .int x9), (0, .ref (ad 0)), (1, .int pa)])) (fun x9 => (x9.toInt + 1).toNat) 7 (fun k H locs ls hh ih7 => ?_) ((v.1 0 22) - (1 : Int32)) _ _ _ ⟨(show -1 ≤ ((v.1 0 22) - (1 : Int32)).toInt ∧ ((v.1 0 22) - (1 : Int32)).toInt < (v.1 0 22).toInt from (om_d15c1b7192 zn z1)), RT.rf, hP, hD, hS, lv_sub hl [0, 1, 2] rfl⟩
  obtain ⟨f1L7, exL7, hP, hD, hS, hl⟩ := hh
  have f1L7 : -1 ≤ k.toInt ∧ k.toInt < (v.1 0 22).toInt := f1L7
  have hl : lv_has ls 3 [(2, .int k), (0, .ref (ad 0)), (1, .int pa)] := hl
  refine lv_iload_n hx hb dX13_functionOf_7 rfl (lv_at hl 0 rfl) ?_
  refine lv_if_lt (tgt := 31) hx hb dX13_functionOf_8 (by decide) (fun h2 => ?_) (fun h2 => ?_)
  · have z3 : k.toInt < (0 : Int) := lt_z rfl (show (0 : Int32).toInt = (0 : Int) by decide) h2
    refine lv_iload_n hx hb dX13_functionOf_31 rfl (lv_at hl 0 rfl) ?_
    exact W.iret (v := k) hx hb hr (fun t ht9 hW => ⟨⟨k, v, rfl, ⟨rfl, ⟨zk, zn, k, exL7, f1L7, (Or.inl ⟨z3, rfl⟩)⟩, (om_32c29c5174 f1L7)⟩, by rw [ht9]; exact hP, hD⟩, hS.F ht9⟩) hS.2.2 dX13_functionOf_32
  · have z4 : (0 : Int) ≤ k.toInt := nlt_z rfl (show (0 : Int32).toInt = (0 : Int) by decide) h2
    refine lv_aload_n hx hb dX13_functionOf_11 rfl (lv_at hl 1 rfl) ?_
    refine lv_aload_n hx hb dX13_functionOf_12 rfl (lv_at hl 1 rfl) ?_
    refine va_get (D := (dC, dI)) (ci := 16) (fs := mF ad v) (v := .ref (ad 16)) (C := RX13) (T := TX13) (N := 124) hx hb ht itX13 hown hK hP 0 rfl rfl 16 (by decide) (ht _ tw_51) (fun _ h9 => h9) rfl dX13_functionOf_13 ?_
    refine lv_iload_n hx hb dX13_functionOf_16 rfl (lv_at hl 0 rfl) ?_
    refine va_iald (D := (dC, dI)) (f := (v.1 16)) hx hb hK hP 11 0 rfl rfl (in_y (a := k.toInt) (b := 40) rfl (om_51058f7f87 z4) (om_c66e3c679d zn f1L7) rfl) dX13_functionOf_17 ?_
    have tn9 : 0 ≤ ((v.1 16) k.toNatClampNeg).toInt ∧ ((v.1 16) k.toNatClampNeg).toInt ≤ 1500 := a16 k.toNatClampNeg
    refine lv_iload_n hx hb dX13_functionOf_18 rfl (lv_at hl 2 rfl) ?_
    refine cu_i (rn_V (n := 2) (As := [.int ((v.1 16) k.toNatClampNeg), .int pa]) (rest := []) hx hb hml hown ht hKK hFx hP hD hS hA (c_m_isSame l dC dI cI cB cZ cJ cR tb H.size ad N v ((v.1 16) k.toNatClampNeg) pa (show 0 ≤ ((v.1 16) k.toNatClampNeg).toInt ∧ ((v.1 16) k.toNatClampNeg).toInt < 4002 from (om_5c36fd3f9e tn9)) (show 0 ≤ pa.toInt ∧ pa.toInt < 4002 from (om_6a33293909 zk)) (show TI v from FG.ti (fl := pfl) (al := pal) (FG.rf _) (by decide) (by decide) hT)) tw_46 tw_47 (by decide +kernel) rfl rfl ⟨Nat.le_of_ble_eq_true rfl, Nat.le_of_ble_eq_true rfl⟩ (List.range (mW ad N cI cZ cJ v).length) (rg_map _) (mW_nd _ _ _ _ _ _) rfl rfl rfl rfl hl.1 rfl (Nat.le_of_ble_eq_true rfl) dX13_functionOf_19 ⟨Nat.le_of_ble_eq_true rfl, Nat.le_of_ble_eq_true rfl⟩) hP hD hS hA (fun r7 u6 H locs hw5 hP hD hS => ?_)
    obtain ⟨rfl, ex5, b5, e5⟩ := hw5
    refine W.widen (k := 0) (n := 0) (Nat.le_refl _) (Nat.le_refl _) ?_
    refine lv_if_ne (tgt := 31) hx hb dX13_functionOf_22 (by decide) (fun h8 => ?_) (fun h8 => ?_)
    · have z9 : r7.toInt ≠ (0 : Int) := ne_z rfl (show (0 : Int32).toInt = (0 : Int) by decide) h8
      refine lv_iload_n hx hb dX13_functionOf_31 rfl (lv_at hl 0 rfl) ?_
      exact W.iret (v := k) hx hb hr (fun t ht9 hW => ⟨⟨k, v, rfl, ⟨rfl, ⟨zk, zn, k, exL7, f1L7, (Or.inr (⟨z4, r7, ex5, ⟨b5, e5⟩, z9, rfl⟩))⟩, (om_dfac880bb8 f1L7 z4)⟩, by rw [ht9]; exact hP, hD⟩, hS.F ht9⟩) hS.2.2 dX13_functionOf_32
    · have z10 : r7.toInt = (0 : Int) := eq_z rfl (show (0 : Int32).toInt = (0 : Int) by decide) h8
      refine lv_iinc (v := (k + (-1 : Int32))) (lv' := [(2, .int (k + (-1 : Int32))), (0, .ref (ad 0)), (1, .int pa)]) hx hb dX13_functionOf_25 hl (k := 0) rfl (rfl) (by decide) rfl (fun ls hl => ?_)
      have z11 : (k + (-1 : Int32)).toInt = k.toInt + (-1 : Int) := add_z rfl (show ((-1) : Int32).toInt = (-1 : Int) by decide) (om_aad7ab9b89 f1L7) (om_acaa5a8a04 zn f1L7)
      refine lv_goto (tgt := 7) hx hb dX13_functionOf_28 (by decide) ?_
      exact ih7 (k + (-1 : Int32)) _ _ _ (show ((k + (-1 : Int32)).toInt + 1).toNat < (k.toInt + 1).toNat from tn_z (om_3e134d9ec9 z11) (om_ff03e7c988 z4)) ⟨(show -1 ≤ (k + (-1 : Int32)).toInt ∧ (k + (-1 : Int32)).toInt < (v.1 0 22).toInt from (om_0c05f7229d f1L7 z4 z11)), (RT.st exL7 ⟨f1L7, z4, r7, ex5, ⟨b5, e5⟩, z10, rfl⟩), hP, hD, hS, lv_sub hl [0, 1, 2] rfl⟩
