theorem dX13_number_0 : decode cX13_number 0 = .ok (.iload_n 1, 1) := by decide +kernel
theorem dX13_number_1 : decode cX13_number 1 = .ok (.istore_n 2, 1) := by decide +kernel
theorem dX13_number_2 : decode cX13_number 2 = .ok (.lconst 0, 1) := by decide +kernel
theorem dX13_number_3 : decode cX13_number 3 = .ok (.lstore_n 3, 1) := by decide +kernel
theorem dX13_number_4 : decode cX13_number 4 = .ok (.aload_n 0, 1) := by decide +kernel
theorem dX13_number_5 : decode cX13_number 5 = .ok (.getfield 21, 3) := by decide +kernel
theorem dX13_number_8 : decode cX13_number 8 = .ok (.iload_n 1, 1) := by decide +kernel
theorem dX13_number_9 : decode cX13_number 9 = .ok (.iaload, 1) := by decide +kernel
theorem dX13_number_10 : decode cX13_number 10 = .ok (.bipush 48, 2) := by decide +kernel
theorem dX13_number_12 : decode cX13_number 12 = .ok (.if_icmp .ne 113, 3) := by decide +kernel
theorem dX13_number_125 : decode cX13_number 125 = .ok (.aload_n 0, 1) := by decide +kernel
theorem dX13_number_126 : decode cX13_number 126 = .ok (.iload_n 2, 1) := by decide +kernel
theorem dX13_number_127 : decode cX13_number 127 = .ok (.invokevirtual 34, 3) := by decide +kernel
theorem dX13_number_130 : decode cX13_number 130 = .ok (.invokestatic 24, 3) := by decide +kernel
theorem dX13_number_133 : decode cX13_number 133 = .ok (.ifCond .eq 34, 3) := by decide +kernel
theorem dX13_number_167 : decode cX13_number 167 = .ok (.iload_n 2, 1) := by decide +kernel
theorem dX13_number_168 : decode cX13_number 168 = .ok (.iload_n 1, 1) := by decide +kernel
theorem dX13_number_169 : decode cX13_number 169 = .ok (.isub, 1) := by decide +kernel
theorem dX13_number_170 : decode cX13_number 170 = .ok (.bipush 10, 2) := by decide +kernel
theorem dX13_number_172 : decode cX13_number 172 = .ok (.if_icmp .gt 14, 3) := by decide +kernel
theorem dX13_number_186 : decode cX13_number 186 = .ok (.iconst 1, 1) := by decide +kernel
theorem dX13_number_187 : decode cX13_number 187 = .ok (.ireturn, 1) := by decide +kernel
theorem dX13_number_175 : decode cX13_number 175 = .ok (.aload_n 0, 1) := by decide +kernel
theorem dX13_number_176 : decode cX13_number 176 = .ok (.iload_n 2, 1) := by decide +kernel
theorem dX13_number_177 : decode cX13_number 177 = .ok (.invokevirtual 34, 3) := by decide +kernel
theorem dX13_number_180 : decode cX13_number 180 = .ok (.invokestatic 53, 3) := by decide +kernel
theorem tw_286 : (.code yX13_isOfName cX13_isOfName 1 (some .boolean) : Cond) ∈ tw_W := tw_in (t8_9 (List.mem_of_getElem? (i := 99) rfl)) rfl
theorem tw_287 : ∀ w ∈ ([.methodLink RX13 53 yX13_isOfName, .static yX13_isOfName, .initialized yX13_isOfName.cls] : List Cond), w ∈ tw_W := al_c (tw_in (t8_9 (List.mem_of_getElem? (i := 97) rfl)) rfl) (al_c (tw_in (t8_9 (List.mem_of_getElem? (i := 98) rfl)) rfl) (al_c (tw_in (t8_1 (List.mem_of_getElem? (i := 23) rfl)) rfl) al_n))
theorem dX13_number_183 : decode cX13_number 183 = .ok (.ifCond .eq 5, 3) := by decide +kernel
theorem dX13_number_188 : decode cX13_number 188 = .ok (.aload_n 0, 1) := by decide +kernel
theorem dX13_number_189 : decode cX13_number 189 = .ok (.getfield 74, 3) := by decide +kernel
theorem dX13_number_192 : decode cX13_number 192 = .ok (.aload_n 0, 1) := by decide +kernel
theorem dX13_number_193 : decode cX13_number 193 = .ok (.getfield 28, 3) := by decide +kernel
theorem dX13_number_196 : decode cX13_number 196 = .ok (.iconst 1, 1) := by decide +kernel
theorem dX13_number_197 : decode cX13_number 197 = .ok (.bastore, 1) := by decide +kernel
theorem dX13_number_198 : decode cX13_number 198 = .ok (.aload_n 0, 1) := by decide +kernel
theorem dX13_number_199 : decode cX13_number 199 = .ok (.getfield 56, 3) := by decide +kernel
theorem dX13_number_202 : decode cX13_number 202 = .ok (.aload_n 0, 1) := by decide +kernel
theorem dX13_number_203 : decode cX13_number 203 = .ok (.getfield 28, 3) := by decide +kernel
theorem dX13_number_206 : decode cX13_number 206 = .ok (.lload_n 3, 1) := by decide +kernel
theorem dX13_number_207 : decode cX13_number 207 = .ok (.lastore, 1) := by decide +kernel
theorem dX13_number_208 : decode cX13_number 208 = .ok (.aload_n 0, 1) := by decide +kernel
theorem dX13_number_209 : decode cX13_number 209 = .ok (.getfield 47, 3) := by decide +kernel
theorem dX13_number_212 : decode cX13_number 212 = .ok (.aload_n 0, 1) := by decide +kernel
theorem dX13_number_213 : decode cX13_number 213 = .ok (.getfield 28, 3) := by decide +kernel
theorem dX13_number_216 : decode cX13_number 216 = .ok (.iload_n 2, 1) := by decide +kernel
theorem dX13_number_217 : decode cX13_number 217 = .ok (.iastore, 1) := by decide +kernel
theorem dX13_number_218 : decode cX13_number 218 = .ok (.iconst 4, 1) := by decide +kernel
theorem dX13_number_219 : decode cX13_number 219 = .ok (.ireturn, 1) := by decide +kernel
theorem dX13_number_136 : decode cX13_number 136 = .ok (.iload_n 2, 1) := by decide +kernel
theorem dX13_number_137 : decode cX13_number 137 = .ok (.iload_n 1, 1) := by decide +kernel
theorem dX13_number_138 : decode cX13_number 138 = .ok (.isub, 1) := by decide +kernel
theorem dX13_number_139 : decode cX13_number 139 = .ok (.bipush 11, 2) := by decide +kernel
theorem dX13_number_141 : decode cX13_number 141 = .ok (.if_icmp .ge 26, 3) := by decide +kernel
theorem dX13_number_144 : decode cX13_number 144 = .ok (.ldc2_w 78, 3) := by decide +kernel
theorem tw_288 : (.constantLong RX13 78 (10) : Cond) ∈ tw_W := tw_in (t8_9 (List.mem_of_getElem? (i := 100) rfl)) rfl
theorem dX13_number_147 : decode cX13_number 147 = .ok (.lload_n 3, 1) := by decide +kernel
theorem dX13_number_148 : decode cX13_number 148 = .ok (.lmul, 1) := by decide +kernel
theorem dX13_number_149 : decode cX13_number 149 = .ok (.aload_n 0, 1) := by decide +kernel
theorem dX13_number_150 : decode cX13_number 150 = .ok (.iload_n 2, 1) := by decide +kernel
theorem dX13_number_151 : decode cX13_number 151 = .ok (.invokevirtual 34, 3) := by decide +kernel
theorem dX13_number_154 : decode cX13_number 154 = .ok (.i2l, 1) := by decide +kernel
theorem dX13_number_155 : decode cX13_number 155 = .ok (.ladd, 1) := by decide +kernel
theorem dX13_number_156 : decode cX13_number 156 = .ok (.ldc2_w 80, 3) := by decide +kernel
theorem tw_289 : (.constantLong RX13 80 (48) : Cond) ∈ tw_W := tw_in (t8_9 (List.mem_of_getElem? (i := 101) rfl)) rfl
theorem dX13_number_159 : decode cX13_number 159 = .ok (.lsub, 1) := by decide +kernel
theorem dX13_number_160 : decode cX13_number 160 = .ok (.lstore_n 3, 1) := by decide +kernel
theorem dX13_number_161 : decode cX13_number 161 = .ok (.iinc 2 1, 3) := by decide +kernel
theorem dX13_number_164 : decode cX13_number 164 = .ok (.goto (-39), 3) := by decide +kernel
theorem dX13_number_15 : decode cX13_number 15 = .ok (.aload_n 0, 1) := by decide +kernel
theorem dX13_number_16 : decode cX13_number 16 = .ok (.iload_n 1, 1) := by decide +kernel
theorem dX13_number_17 : decode cX13_number 17 = .ok (.iconst 1, 1) := by decide +kernel
theorem dX13_number_18 : decode cX13_number 18 = .ok (.iadd, 1) := by decide +kernel
theorem dX13_number_19 : decode cX13_number 19 = .ok (.invokevirtual 34, 3) := by decide +kernel
theorem dX13_number_22 : decode cX13_number 22 = .ok (.bipush 120, 2) := by decide +kernel
theorem dX13_number_24 : decode cX13_number 24 = .ok (.if_icmp .ne 101, 3) := by decide +kernel
theorem dX13_number_27 : decode cX13_number 27 = .ok (.iload_n 1, 1) := by decide +kernel
theorem dX13_number_28 : decode cX13_number 28 = .ok (.iconst 2, 1) := by decide +kernel
theorem dX13_number_29 : decode cX13_number 29 = .ok (.iadd, 1) := by decide +kernel
theorem dX13_number_30 : decode cX13_number 30 = .ok (.istore_n 2, 1) := by decide +kernel
theorem dX13_number_31 : decode cX13_number 31 = .ok (.aload_n 0, 1) := by decide +kernel
theorem dX13_number_32 : decode cX13_number 32 = .ok (.iload_n 2, 1) := by decide +kernel
theorem dX13_number_33 : decode cX13_number 33 = .ok (.invokevirtual 34, 3) := by decide +kernel
theorem dX13_number_36 : decode cX13_number 36 = .ok (.invokestatic 69, 3) := by decide +kernel
theorem tw_290 : (.code yX13_hex cX13_hex 1 (some .int) : Cond) ∈ tw_W := tw_in (t8_9 (List.mem_of_getElem? (i := 95) rfl)) rfl
theorem tw_291 : ∀ w ∈ ([.methodLink RX13 69 yX13_hex, .static yX13_hex, .initialized yX13_hex.cls] : List Cond), w ∈ tw_W := al_c (tw_in (t8_9 (List.mem_of_getElem? (i := 93) rfl)) rfl) (al_c (tw_in (t8_9 (List.mem_of_getElem? (i := 94) rfl)) rfl) (al_c (tw_in (t8_1 (List.mem_of_getElem? (i := 23) rfl)) rfl) al_n))
theorem dX13_number_39 : decode cX13_number 39 = .ok (.ifCond .lt 33, 3) := by decide +kernel
theorem dX13_number_72 : decode cX13_number 72 = .ok (.iload_n 2, 1) := by decide +kernel
theorem dX13_number_73 : decode cX13_number 73 = .ok (.iload_n 1, 1) := by decide +kernel
theorem dX13_number_74 : decode cX13_number 74 = .ok (.iconst 2, 1) := by decide +kernel
theorem dX13_number_75 : decode cX13_number 75 = .ok (.iadd, 1) := by decide +kernel
theorem dX13_number_76 : decode cX13_number 76 = .ok (.if_icmp .eq 22, 3) := by decide +kernel
theorem dX13_number_98 : decode cX13_number 98 = .ok (.iconst 1, 1) := by decide +kernel
theorem dX13_number_99 : decode cX13_number 99 = .ok (.ireturn, 1) := by decide +kernel
theorem dX13_number_79 : decode cX13_number 79 = .ok (.iload_n 2, 1) := by decide +kernel
theorem dX13_number_80 : decode cX13_number 80 = .ok (.iload_n 1, 1) := by decide +kernel
theorem dX13_number_81 : decode cX13_number 81 = .ok (.isub, 1) := by decide +kernel
theorem dX13_number_82 : decode cX13_number 82 = .ok (.bipush 10, 2) := by decide +kernel
theorem dX13_number_84 : decode cX13_number 84 = .ok (.if_icmp .gt 14, 3) := by decide +kernel
theorem dX13_number_87 : decode cX13_number 87 = .ok (.aload_n 0, 1) := by decide +kernel
theorem dX13_number_88 : decode cX13_number 88 = .ok (.iload_n 2, 1) := by decide +kernel
theorem dX13_number_89 : decode cX13_number 89 = .ok (.invokevirtual 34, 3) := by decide +kernel
theorem dX13_number_92 : decode cX13_number 92 = .ok (.invokestatic 53, 3) := by decide +kernel
theorem dX13_number_95 : decode cX13_number 95 = .ok (.ifCond .eq 5, 3) := by decide +kernel
theorem dX13_number_100 : decode cX13_number 100 = .ok (.aload_n 0, 1) := by decide +kernel
theorem dX13_number_101 : decode cX13_number 101 = .ok (.getfield 74, 3) := by decide +kernel
theorem dX13_number_104 : decode cX13_number 104 = .ok (.aload_n 0, 1) := by decide +kernel
theorem dX13_number_105 : decode cX13_number 105 = .ok (.getfield 28, 3) := by decide +kernel
theorem dX13_number_108 : decode cX13_number 108 = .ok (.iconst 0, 1) := by decide +kernel
theorem dX13_number_109 : decode cX13_number 109 = .ok (.bastore, 1) := by decide +kernel
theorem dX13_number_110 : decode cX13_number 110 = .ok (.aload_n 0, 1) := by decide +kernel
theorem dX13_number_111 : decode cX13_number 111 = .ok (.getfield 56, 3) := by decide +kernel
theorem dX13_number_114 : decode cX13_number 114 = .ok (.aload_n 0, 1) := by decide +kernel
theorem dX13_number_115 : decode cX13_number 115 = .ok (.getfield 28, 3) := by decide +kernel
theorem dX13_number_118 : decode cX13_number 118 = .ok (.lload_n 3, 1) := by decide +kernel
theorem dX13_number_119 : decode cX13_number 119 = .ok (.l2i, 1) := by decide +kernel
theorem dX13_number_120 : decode cX13_number 120 = .ok (.i2l, 1) := by decide +kernel
theorem dX13_number_121 : decode cX13_number 121 = .ok (.lastore, 1) := by decide +kernel
theorem dX13_number_122 : decode cX13_number 122 = .ok (.goto 86, 3) := by decide +kernel
theorem dX13_number_42 : decode cX13_number 42 = .ok (.iload_n 2, 1) := by decide +kernel
theorem dX13_number_43 : decode cX13_number 43 = .ok (.iload_n 1, 1) := by decide +kernel
theorem dX13_number_44 : decode cX13_number 44 = .ok (.isub, 1) := by decide +kernel
theorem dX13_number_45 : decode cX13_number 45 = .ok (.bipush 11, 2) := by decide +kernel
theorem dX13_number_47 : decode cX13_number 47 = .ok (.if_icmp .ge 25, 3) := by decide +kernel
theorem dX13_number_50 : decode cX13_number 50 = .ok (.ldc2_w 72, 3) := by decide +kernel
theorem tw_292 : (.constantLong RX13 72 (16) : Cond) ∈ tw_W := tw_in (t8_9 (List.mem_of_getElem? (i := 96) rfl)) rfl
theorem dX13_number_53 : decode cX13_number 53 = .ok (.lload_n 3, 1) := by decide +kernel
theorem dX13_number_54 : decode cX13_number 54 = .ok (.lmul, 1) := by decide +kernel
theorem dX13_number_55 : decode cX13_number 55 = .ok (.aload_n 0, 1) := by decide +kernel
theorem dX13_number_56 : decode cX13_number 56 = .ok (.iload_n 2, 1) := by decide +kernel
theorem dX13_number_57 : decode cX13_number 57 = .ok (.invokevirtual 34, 3) := by decide +kernel
theorem dX13_number_60 : decode cX13_number 60 = .ok (.invokestatic 69, 3) := by decide +kernel
theorem dX13_number_63 : decode cX13_number 63 = .ok (.i2l, 1) := by decide +kernel
theorem dX13_number_64 : decode cX13_number 64 = .ok (.ladd, 1) := by decide +kernel
theorem dX13_number_65 : decode cX13_number 65 = .ok (.lstore_n 3, 1) := by decide +kernel
theorem dX13_number_66 : decode cX13_number 66 = .ok (.iinc 2 1, 3) := by decide +kernel
theorem dX13_number_69 : decode cX13_number 69 = .ok (.goto (-38), 3) := by decide +kernel
theorem om_eb6a1d8d9b {x0 : Int} (h0 : x0 < (48 : Int)) : ((0 : Int) = 1 ∧ (48 ≤ x0 ∧ x0 ≤ 57)) ∨ ((0 : Int) = 0 ∧ (x0 < 48 ∨ 57 < x0)) := by omega
theorem om_492aa8dc9e {x0 : Int} (h0 : (57 : Int) < x0) : ((0 : Int) = 1 ∧ (48 ≤ x0 ∧ x0 ≤ 57)) ∨ ((0 : Int) = 0 ∧ (x0 < 48 ∨ 57 < x0)) := by omega
theorem om_5b26995e12 {x0 : Int} (h0 : (48 : Int) ≤ x0) (h1 : x0 ≤ (57 : Int)) : ((1 : Int) = 1 ∧ (48 ≤ x0 ∧ x0 ≤ 57)) ∨ ((1 : Int) = 0 ∧ (x0 < 48 ∨ 57 < x0)) := by omega
set_option maxHeartbeats 4000000 in
set_option maxRecDepth 100000 in
theorem c_m_isDigit2 (l : Launch) (dC : Nat → ClassId) (dI : Nat → Nat → Nat) (cI cB cZ cJ cR : ClassId) (tb : Nat → Nat) (sz : Nat) (pa : Int32)  : Met l yX13_isDigit (Cond.code yX13_isDigit cX13_isDigit 1 (some .boolean) :: tw_W) ({ frames := 0, cells := 0, slots := 0, locals := 0 }) (pc_ (dC, dI) (tyS cI cB cZ cJ cR) tb [] sz [.int pa]) (qi_ (dC, dI) [] sz (fun (r : Int32) (u : Unit) => (Q_m_isDigit2 pa r) ∧ (r = 0 ∨ r = 1) ∧ ((r.toInt = 1 ∧ (48 ≤ pa.toInt ∧ pa.toInt ≤ 57)) ∨ (r.toInt = 0 ∧ (pa.toInt < 48 ∨ 57 < pa.toInt)))) (fun (u : Unit) => [])) 0 0 (va_A [] sz) := by
  refine Met.ofW (cc := cX13_isDigit) (maxL := 1) (ret := (some .boolean)) (by decide) rfl ?_
  intro p e s m args below meth c s₁ B hml hv
  obtain ⟨rfl, hsz, hP, hKK, hD0, hFx⟩ := hv
  have hK := hKK.1
  have hx := B.exec
  have hb := B.bytes
  have hr := B.returns
  have ht : ∀ w ∈ tw_W, w.before _ s = true := fun w h => atoms_spec (ws := Cond.code yX13_isDigit cX13_isDigit 1 (some .boolean) :: tw_W) B.pre w (List.mem_cons_of_mem _ h)
  have hown : s.vm.findClass RX13 = some m.cls := findClass_of_methodNamed B.named
  have hlocks := B.notSynchronized
  subst hsz
  unfold qi_
  have hD := hD0.self (sz := s.heap.size)
  generalize hAe : va_A [] s.heap.size = A at hD hFx ⊢
  have hA : ∀ q : Nat, s.heap.size ≤ q → A q := fun q h => by rw [← hAe]; exact Or.inr h
  have hS : va_S A s.heap s.heap [] := va_S.rf
  have hl := lv_entry ([.int pa]) (n := 1) (Nat.le_of_ble_eq_true rfl)
  rw [lg_entry_eq]
  generalize (lg_sl ([.int pa]) ++ List.replicate (1 - (lg_sl ([.int pa])).length) Slot.unset).toArray = ls at hl ⊢
  have hl : lv_has ls 1 [(0, .int pa)] := hl
  refine lv_iload_n hx hb dX13_isDigit_0 rfl (lv_at hl 0 rfl) ?_
  refine lv_bipush (v := 48) hx hb dX13_isDigit_1 (by decide) ?_
  refine lv_icmp_lt (tgt := 16) hx hb dX13_isDigit_3 (by decide) (fun h1 => ?_) (fun h1 => ?_)
  · have z2 : pa.toInt < (48 : Int) := lt_z rfl (show (48 : Int32).toInt = (48 : Int) by decide) h1
    refine lv_iconst (v := 0) hx hb dX13_isDigit_16 (by decide) ?_
    exact W.zret (v := 0) hx hb hr rfl (fun t ht9 hW => ⟨⟨0, (), rfl, ⟨(Or.inl ⟨z2, rfl⟩), ⟨Or.inl rfl, (om_eb6a1d8d9b z2)⟩⟩, by rw [ht9]; exact hP, hD⟩, hS.F ht9⟩) hS.2.2 dX13_isDigit_17
  · have z3 : (48 : Int) ≤ pa.toInt := nlt_z rfl (show (48 : Int32).toInt = (48 : Int) by decide) h1
    refine lv_iload_n hx hb dX13_isDigit_6 rfl (lv_at hl 0 rfl) ?_
    refine lv_bipush (v := 57) hx hb dX13_isDigit_7 (by decide) ?_
    refine lv_icmp_gt (tgt := 16) hx hb dX13_isDigit_9 (by decide) (fun h4 => ?_) (fun h4 => ?_)
    · have z5 : (57 : Int) < pa.toInt := lt_z (show (57 : Int32).toInt = (57 : Int) by decide) rfl h4
      refine lv_iconst (v := 0) hx hb dX13_isDigit_16 (by decide) ?_
      exact W.zret (v := 0) hx hb hr rfl (fun t ht9 hW => ⟨⟨0, (), rfl, ⟨(Or.inr (⟨z3, (Or.inl ⟨z5, rfl⟩)⟩)), ⟨Or.inl rfl, (om_492aa8dc9e z5)⟩⟩, by rw [ht9]; exact hP, hD⟩, hS.F ht9⟩) hS.2.2 dX13_isDigit_17
    · have z6 : pa.toInt ≤ (57 : Int) := nlt_z (show (57 : Int32).toInt = (57 : Int) by decide) rfl h4
      refine lv_iconst (v := 1) hx hb dX13_isDigit_12 (by decide) ?_
      refine lv_goto (tgt := 17) hx hb dX13_isDigit_13 (by decide) ?_
      exact W.zret (v := 1) hx hb hr rfl (fun t ht9 hW => ⟨⟨1, (), rfl, ⟨(Or.inr (⟨z3, (Or.inr (⟨z6, rfl⟩))⟩)), ⟨Or.inr rfl, (om_5b26995e12 z3 z6)⟩⟩, by rw [ht9]; exact hP, hD⟩, hS.F ht9⟩) hS.2.2 dX13_isDigit_17
theorem om_c352fcde3e {x0 x1 : Int} (h0 : x0 < (65 : Int)) (h1 : ((x1 = 1 ∧ (48 ≤ x0 ∧ x0 ≤ 57)) ∨ (x1 = 0 ∧ (x0 < 48 ∨ 57 < x0)))) (h2 : x1 = (0 : Int)) : ((0 : Int) = 1 ∧ ((97 ≤ x0 ∧ x0 ≤ 122) ∨ (65 ≤ x0 ∧ x0 ≤ 90) ∨ x0 = 95 ∨ (48 ≤ x0 ∧ x0 ≤ 57))) ∨ ((0 : Int) = 0 ∧ ((x0 < 97 ∨ 122 < x0) ∧ (x0 < 65 ∨ 90 < x0) ∧ x0 ≠ 95 ∧ (x0 < 48 ∨ 57 < x0))) := by omega
theorem om_49688b1734 {x0 x1 : Int} (h0 : ((x0 = 1 ∧ (48 ≤ x1 ∧ x1 ≤ 57)) ∨ (x0 = 0 ∧ (x1 < 48 ∨ 57 < x1)))) (h1 : x0 ≠ (0 : Int)) : ((1 : Int) = 1 ∧ ((97 ≤ x1 ∧ x1 ≤ 122) ∨ (65 ≤ x1 ∧ x1 ≤ 90) ∨ x1 = 95 ∨ (48 ≤ x1 ∧ x1 ≤ 57))) ∨ ((1 : Int) = 0 ∧ ((x1 < 97 ∨ 122 < x1) ∧ (x1 < 65 ∨ 90 < x1) ∧ x1 ≠ 95 ∧ (x1 < 48 ∨ 57 < x1))) := by omega
theorem om_bb63b34d9e {x0 : Int} (h0 : (65 : Int) ≤ x0) (h1 : x0 ≤ (90 : Int)) : ((1 : Int) = 1 ∧ ((97 ≤ x0 ∧ x0 ≤ 122) ∨ (65 ≤ x0 ∧ x0 ≤ 90) ∨ x0 = 95 ∨ (48 ≤ x0 ∧ x0 ≤ 57))) ∨ ((1 : Int) = 0 ∧ ((x0 < 97 ∨ 122 < x0) ∧ (x0 < 65 ∨ 90 < x0) ∧ x0 ≠ 95 ∧ (x0 < 48 ∨ 57 < x0))) := by omega
theorem om_2b6a798647 {x0 : Int} (h0 : x0 = (95 : Int)) : ((1 : Int) = 1 ∧ ((97 ≤ x0 ∧ x0 ≤ 122) ∨ (65 ≤ x0 ∧ x0 ≤ 90) ∨ x0 = 95 ∨ (48 ≤ x0 ∧ x0 ≤ 57))) ∨ ((1 : Int) = 0 ∧ ((x0 < 97 ∨ 122 < x0) ∧ (x0 < 65 ∨ 90 < x0) ∧ x0 ≠ 95 ∧ (x0 < 48 ∨ 57 < x0))) := by omega
theorem om_7d5ead7439 {x0 : Int} (h0 : x0 < (97 : Int)) (h1 : (90 : Int) < x0) (h2 : x0 ≠ (95 : Int)) : ((0 : Int) = 1 ∧ ((97 ≤ x0 ∧ x0 ≤ 122) ∨ (65 ≤ x0 ∧ x0 ≤ 90) ∨ x0 = 95 ∨ (48 ≤ x0 ∧ x0 ≤ 57))) ∨ ((0 : Int) = 0 ∧ ((x0 < 97 ∨ 122 < x0) ∧ (x0 < 65 ∨ 90 < x0) ∧ x0 ≠ 95 ∧ (x0 < 48 ∨ 57 < x0))) := by omega
theorem om_d6a958b47a {x0 x1 : Int} (h0 : (90 : Int) < x0) (h1 : ((x1 = 1 ∧ (48 ≤ x0 ∧ x0 ≤ 57)) ∨ (x1 = 0 ∧ (x0 < 48 ∨ 57 < x0)))) (h2 : x1 ≠ (0 : Int)) : ((1 : Int) = 1 ∧ ((97 ≤ x0 ∧ x0 ≤ 122) ∨ (65 ≤ x0 ∧ x0 ≤ 90) ∨ x0 = 95 ∨ (48 ≤ x0 ∧ x0 ≤ 57))) ∨ ((1 : Int) = 0 ∧ ((x0 < 97 ∨ 122 < x0) ∧ (x0 < 65 ∨ 90 < x0) ∧ x0 ≠ 95 ∧ (x0 < 48 ∨ 57 < x0))) := by omega
theorem om_99ae8b5e15 {x0 : Int} (h0 : (97 : Int) ≤ x0) (h1 : x0 ≤ (122 : Int)) : ((1 : Int) = 1 ∧ ((97 ≤ x0 ∧ x0 ≤ 122) ∨ (65 ≤ x0 ∧ x0 ≤ 90) ∨ x0 = 95 ∨ (48 ≤ x0 ∧ x0 ≤ 57))) ∨ ((1 : Int) = 0 ∧ ((x0 < 97 ∨ 122 < x0) ∧ (x0 < 65 ∨ 90 < x0) ∧ x0 ≠ 95 ∧ (x0 < 48 ∨ 57 < x0))) := by omega
theorem om_bf3d476f02 {x0 : Int} (h0 : (122 : Int) < x0) : ((0 : Int) = 1 ∧ ((97 ≤ x0 ∧ x0 ≤ 122) ∨ (65 ≤ x0 ∧ x0 ≤ 90) ∨ x0 = 95 ∨ (48 ≤ x0 ∧ x0 ≤ 57))) ∨ ((0 : Int) = 0 ∧ ((x0 < 97 ∨ 122 < x0) ∧ (x0 < 65 ∨ 90 < x0) ∧ x0 ≠ 95 ∧ (x0 < 48 ∨ 57 < x0))) := by omega
theorem om_29bb232b6d {x0 x1 : Int} (h0 : (122 : Int) < x0) (h1 : ((x1 = 1 ∧ (48 ≤ x0 ∧ x0 ≤ 57)) ∨ (x1 = 0 ∧ (x0 < 48 ∨ 57 < x0)))) (h2 : x1 ≠ (0 : Int)) : ((1 : Int) = 1 ∧ ((97 ≤ x0 ∧ x0 ≤ 122) ∨ (65 ≤ x0 ∧ x0 ≤ 90) ∨ x0 = 95 ∨ (48 ≤ x0 ∧ x0 ≤ 57))) ∨ ((1 : Int) = 0 ∧ ((x0 < 97 ∨ 122 < x0) ∧ (x0 < 65 ∨ 90 < x0) ∧ x0 ≠ 95 ∧ (x0 < 48 ∨ 57 < x0))) := by omega
set_option maxHeartbeats 4000000 in
set_option maxRecDepth 100000 in
theorem c_m_isOfName2 (l : Launch) (dC : Nat → ClassId) (dI : Nat → Nat → Nat) (cI cB cZ cJ cR : ClassId) (tb : Nat → Nat) (sz : Nat) (pa : Int32)  : Met l yX13_isOfName (Cond.code yX13_isOfName cX13_isOfName 1 (some .boolean) :: tw_W) ({ frames := 1, cells := 0, slots := 0, locals := 20 }) (pc_ (dC, dI) (tyS cI cB cZ cJ cR) tb [] sz [.int pa]) (qi_ (dC, dI) [] sz (fun (r : Int32) (u : Unit) => (Q_m_isOfName2 pa r) ∧ (r = 0 ∨ r = 1) ∧ ((r.toInt = 1 ∧ ((97 ≤ pa.toInt ∧ pa.toInt ≤ 122) ∨ (65 ≤ pa.toInt ∧ pa.toInt ≤ 90) ∨ pa.toInt = 95 ∨ (48 ≤ pa.toInt ∧ pa.toInt ≤ 57))) ∨ (r.toInt = 0 ∧ ((pa.toInt < 97 ∨ 122 < pa.toInt) ∧ (pa.toInt < 65 ∨ 90 < pa.toInt) ∧ pa.toInt ≠ 95 ∧ (pa.toInt < 48 ∨ 57 < pa.toInt))))) (fun (u : Unit) => [])) 0 0 (va_A [] sz) := by
  refine Met.ofW (cc := cX13_isOfName) (maxL := 1) (ret := (some .boolean)) (by decide) rfl ?_
  intro p e s m args below meth c s₁ B hml hv
  obtain ⟨rfl, hsz, hP, hKK, hD0, hFx⟩ := hv
  have hK := hKK.1
  have hx := B.exec
  have hb := B.bytes
  have hr := B.returns
  have ht : ∀ w ∈ tw_W, w.before _ s = true := fun w h => atoms_spec (ws := Cond.code yX13_isOfName cX13_isOfName 1 (some .boolean) :: tw_W) B.pre w (List.mem_cons_of_mem _ h)
  have hown : s.vm.findClass RX13 = some m.cls := findClass_of_methodNamed B.named
  have hlocks := B.notSynchronized
  subst hsz
  unfold qi_
  have hD := hD0.self (sz := s.heap.size)
  generalize hAe : va_A [] s.heap.size = A at hD hFx ⊢
  have hA : ∀ q : Nat, s.heap.size ≤ q → A q := fun q h => by rw [← hAe]; exact Or.inr h
  have hS : va_S A s.heap s.heap [] := va_S.rf
  have hl := lv_entry ([.int pa]) (n := 1) (Nat.le_of_ble_eq_true rfl)
  rw [lg_entry_eq]
  generalize (lg_sl ([.int pa]) ++ List.replicate (1 - (lg_sl ([.int pa])).length) Slot.unset).toArray = ls at hl ⊢
  have hl : lv_has ls 1 [(0, .int pa)] := hl
  refine lv_iload_n hx hb dX13_isOfName_0 rfl (lv_at hl 0 rfl) ?_
  refine lv_bipush (v := 97) hx hb dX13_isOfName_1 (by decide) ?_
  refine lv_icmp_lt (tgt := 12) hx hb dX13_isOfName_3 (by decide) (fun h1 => ?_) (fun h1 => ?_)
  · have z2 : pa.toInt < (97 : Int) := lt_z rfl (show (97 : Int32).toInt = (97 : Int) by decide) h1
    refine lv_iload_n hx hb dX13_isOfName_12 rfl (lv_at hl 0 rfl) ?_
    refine lv_bipush (v := 65) hx hb dX13_isOfName_13 (by decide) ?_
    refine lv_icmp_lt (tgt := 24) hx hb dX13_isOfName_15 (by decide) (fun h3 => ?_) (fun h3 => ?_)
    · have z4 : pa.toInt < (65 : Int) := lt_z rfl (show (65 : Int32).toInt = (65 : Int) by decide) h3
      refine lv_iload_n hx hb dX13_isOfName_24 rfl (lv_at hl 0 rfl) ?_
      refine lv_bipush (v := 95) hx hb dX13_isOfName_25 (by decide) ?_
      refine lv_icmp_eq (tgt := 37) hx hb dX13_isOfName_27 (by decide) (fun h5 => ?_) (fun h5 => ?_)
      · have z6 : pa.toInt = (95 : Int) := eq_z rfl (show (95 : Int32).toInt = (95 : Int) by decide) h5
        exact False.elim (om_125caba8e6 z4 z6)
      · have z7 : pa.toInt ≠ (95 : Int) := ne_z rfl (show (95 : Int32).toInt = (95 : Int) by decide) h5
        refine lv_iload_n hx hb dX13_isOfName_30 rfl (lv_at hl 0 rfl) ?_
        refine cu_i (rn_S (n := 1) (As := [.int pa]) (rest := []) hx hb hml hown ht hKK hFx hP hD hS hA (c_m_isDigit2 l dC dI cI cB cZ cJ cR tb s.heap.size pa ) tw_4 tw_5 (by decide +kernel) rfl rfl ⟨Nat.le_of_ble_eq_true rfl, Nat.le_of_ble_eq_true rfl⟩ [] rfl rfl rfl hl.1 rfl (Nat.le_of_ble_eq_true rfl) dX13_isOfName_31 ⟨Nat.le_of_ble_eq_true rfl, Nat.le_of_ble_eq_true rfl⟩) hP hD hS hA (fun r11 _ H locs hw8 hP hD hS => ?_)
        obtain ⟨ex8, b8, i8⟩ := hw8
        have b8 : (r11 = 0 ∨ r11 = 1) := b8
        have i8 : ((r11.toInt = 1 ∧ (48 ≤ pa.toInt ∧ pa.toInt ≤ 57)) ∨ (r11.toInt = 0 ∧ (pa.toInt < 48 ∨ 57 < pa.toInt))) := i8
        refine W.widen (k := 0) (n := 0) (Nat.le_refl _) (Nat.le_refl _) ?_
        refine lv_if_eq (tgt := 41) hx hb dX13_isOfName_34 (by decide) (fun h12 => ?_) (fun h12 => ?_)
        · have z13 : r11.toInt = (0 : Int) := eq_z rfl (show (0 : Int32).toInt = (0 : Int) by decide) h12
          refine lv_iconst (v := 0) hx hb dX13_isOfName_41 (by decide) ?_
          exact W.zret (v := 0) hx hb hr rfl (fun t ht9 hW => ⟨⟨0, (), rfl, ⟨(Or.inl ⟨z2, (Or.inl ⟨z4, z7, r11, ex8, ⟨b8, i8⟩, (Or.inl ⟨z13, rfl⟩)⟩)⟩), ⟨Or.inl rfl, (om_c352fcde3e z4 i8 z13)⟩⟩, by rw [ht9]; exact hP, hD⟩, hS.F ht9⟩) hS.2.2 dX13_isOfName_42
        · have z14 : r11.toInt ≠ (0 : Int) := ne_z rfl (show (0 : Int32).toInt = (0 : Int) by decide) h12
          refine lv_iconst (v := 1) hx hb dX13_isOfName_37 (by decide) ?_
          refine lv_goto (tgt := 42) hx hb dX13_isOfName_38 (by decide) ?_
          exact W.zret (v := 1) hx hb hr rfl (fun t ht9 hW => ⟨⟨1, (), rfl, ⟨(Or.inl ⟨z2, (Or.inl ⟨z4, z7, r11, ex8, ⟨b8, i8⟩, (Or.inr (⟨z14, rfl⟩))⟩)⟩), ⟨Or.inr rfl, (om_49688b1734 i8 z14)⟩⟩, by rw [ht9]; exact hP, hD⟩, hS.F ht9⟩) hS.2.2 dX13_isOfName_42
    · have z15 : (65 : Int) ≤ pa.toInt := nlt_z rfl (show (65 : Int32).toInt = (65 : Int) by decide) h3
      refine lv_iload_n hx hb dX13_isOfName_18 rfl (lv_at hl 0 rfl) ?_
      refine lv_bipush (v := 90) hx hb dX13_isOfName_19 (by decide) ?_
      refine lv_icmp_le (tgt := 37) hx hb dX13_isOfName_21 (by decide) (fun h16 => ?_) (fun h16 => ?_)
      · have z17 : pa.toInt ≤ (90 : Int) := le_z rfl (show (90 : Int32).toInt = (90 : Int) by decide) h16
        refine lv_iconst (v := 1) hx hb dX13_isOfName_37 (by decide) ?_
        refine lv_goto (tgt := 42) hx hb dX13_isOfName_38 (by decide) ?_
        exact W.zret (v := 1) hx hb hr rfl (fun t ht9 hW => ⟨⟨1, (), rfl, ⟨(Or.inl ⟨z2, (Or.inr (⟨z15, (Or.inl ⟨z17, rfl⟩)⟩))⟩), ⟨Or.inr rfl, (om_bb63b34d9e z15 z17)⟩⟩, by rw [ht9]; exact hP, hD⟩, hS.F ht9⟩) hS.2.2 dX13_isOfName_42
      · have z18 : (90 : Int) < pa.toInt := nle_z rfl (show (90 : Int32).toInt = (90 : Int) by decide) h16
        refine lv_iload_n hx hb dX13_isOfName_24 rfl (lv_at hl 0 rfl) ?_
        refine lv_bipush (v := 95) hx hb dX13_isOfName_25 (by decide) ?_
        refine lv_icmp_eq (tgt := 37) hx hb dX13_isOfName_27 (by decide) (fun h19 => ?_) (fun h19 => ?_)
        · have z20 : pa.toInt = (95 : Int) := eq_z rfl (show (95 : Int32).toInt = (95 : Int) by decide) h19
          refine lv_iconst (v := 1) hx hb dX13_isOfName_37 (by decide) ?_
          refine lv_goto (tgt := 42) hx hb dX13_isOfName_38 (by decide) ?_
          exact W.zret (v := 1) hx hb hr rfl (fun t ht9 hW => ⟨⟨1, (), rfl, ⟨(Or.inl ⟨z2, (Or.inr (⟨z15, (Or.inr (⟨z18, (Or.inl ⟨z20, rfl⟩)⟩))⟩))⟩), ⟨Or.inr rfl, (om_2b6a798647 z20)⟩⟩, by rw [ht9]; exact hP, hD⟩, hS.F ht9⟩) hS.2.2 dX13_isOfName_42
        · have z21 : pa.toInt ≠ (95 : Int) := ne_z rfl (show (95 : Int32).toInt = (95 : Int) by decide) h19
          refine lv_iload_n hx hb dX13_isOfName_30 rfl (lv_at hl 0 rfl) ?_
          refine cu_i (rn_S (n := 1) (As := [.int pa]) (rest := []) hx hb hml hown ht hKK hFx hP hD hS hA (c_m_isDigit2 l dC dI cI cB cZ cJ cR tb s.heap.size pa ) tw_4 tw_5 (by decide +kernel) rfl rfl ⟨Nat.le_of_ble_eq_true rfl, Nat.le_of_ble_eq_true rfl⟩ [] rfl rfl rfl hl.1 rfl (Nat.le_of_ble_eq_true rfl) dX13_isOfName_31 ⟨Nat.le_of_ble_eq_true rfl, Nat.le_of_ble_eq_true rfl⟩) hP hD hS hA (fun r24 _ H locs hw22 hP hD hS => ?_)
          obtain ⟨ex22, b22, i22⟩ := hw22
          have b22 : (r24 = 0 ∨ r24 = 1) := b22
          have i22 : ((r24.toInt = 1 ∧ (48 ≤ pa.toInt ∧ pa.toInt ≤ 57)) ∨ (r24.toInt = 0 ∧ (pa.toInt < 48 ∨ 57 < pa.toInt))) := i22
          refine W.widen (k := 0) (n := 0) (Nat.le_refl _) (Nat.le_refl _) ?_
          refine lv_if_eq (tgt := 41) hx hb dX13_isOfName_34 (by decide) (fun h25 => ?_) (fun h25 => ?_)
          · have z26 : r24.toInt = (0 : Int) := eq_z rfl (show (0 : Int32).toInt = (0 : Int) by decide) h25
            refine lv_iconst (v := 0) hx hb dX13_isOfName_41 (by decide) ?_
            exact W.zret (v := 0) hx hb hr rfl (fun t ht9 hW => ⟨⟨0, (), rfl, ⟨(Or.inl ⟨z2, (Or.inr (⟨z15, (Or.inr (⟨z18, (Or.inr (⟨z21, r24, ex22, ⟨b22, i22⟩, (Or.inl ⟨z26, rfl⟩)⟩))⟩))⟩))⟩), ⟨Or.inl rfl, (om_7d5ead7439 z2 z18 z21)⟩⟩, by rw [ht9]; exact hP, hD⟩, hS.F ht9⟩) hS.2.2 dX13_isOfName_42
          · have z27 : r24.toInt ≠ (0 : Int) := ne_z rfl (show (0 : Int32).toInt = (0 : Int) by decide) h25
            refine lv_iconst (v := 1) hx hb dX13_isOfName_37 (by decide) ?_
            refine lv_goto (tgt := 42) hx hb dX13_isOfName_38 (by decide) ?_
            exact W.zret (v := 1) hx hb hr rfl (fun t ht9 hW => ⟨⟨1, (), rfl, ⟨(Or.inl ⟨z2, (Or.inr (⟨z15, (Or.inr (⟨z18, (Or.inr (⟨z21, r24, ex22, ⟨b22, i22⟩, (Or.inr (⟨z27, rfl⟩))⟩))⟩))⟩))⟩), ⟨Or.inr rfl, (om_d6a958b47a z18 i22 z27)⟩⟩, by rw [ht9]; exact hP, hD⟩, hS.F ht9⟩) hS.2.2 dX13_isOfName_42
  · have z28 : (97 : Int) ≤ pa.toInt := nlt_z rfl (show (97 : Int32).toInt = (97 : Int) by decide) h1
    refine lv_iload_n hx hb dX13_isOfName_6 rfl (lv_at hl 0 rfl) ?_
    refine lv_bipush (v := 122) hx hb dX13_isOfName_7 (by decide) ?_
    refine lv_icmp_le (tgt := 37) hx hb dX13_isOfName_9 (by decide) (fun h29 => ?_) (fun h29 => ?_)
    · have z30 : pa.toInt ≤ (122 : Int) := le_z rfl (show (122 : Int32).toInt = (122 : Int) by decide) h29
      refine lv_iconst (v := 1) hx hb dX13_isOfName_37 (by decide) ?_
      refine lv_goto (tgt := 42) hx hb dX13_isOfName_38 (by decide) ?_
      exact W.zret (v := 1) hx hb hr rfl (fun t ht9 hW => ⟨⟨1, (), rfl, ⟨(Or.inr (⟨z28, (Or.inl ⟨z30, rfl⟩)⟩)), ⟨Or.inr rfl, (om_99ae8b5e15 z28 z30)⟩⟩, by rw [ht9]; exact hP, hD⟩, hS.F ht9⟩) hS.2.2 dX13_isOfName_42
    · have z31 : (122 : Int) < pa.toInt := nle_z rfl (show (122 : Int32).toInt = (122 : Int) by decide) h29
      refine lv_iload_n hx hb dX13_isOfName_12 rfl (lv_at hl 0 rfl) ?_
      refine lv_bipush (v := 65) hx hb dX13_isOfName_13 (by decide) ?_
      refine lv_icmp_lt (tgt := 24) hx hb dX13_isOfName_15 (by decide) (fun h32 => ?_) (fun h32 => ?_)
      · have z33 : pa.toInt < (65 : Int) := lt_z rfl (show (65 : Int32).toInt = (65 : Int) by decide) h32
        exact False.elim (om_5710ec9dea z31 z33)
      · have z34 : (65 : Int) ≤ pa.toInt := nlt_z rfl (show (65 : Int32).toInt = (65 : Int) by decide) h32
        refine lv_iload_n hx hb dX13_isOfName_18 rfl (lv_at hl 0 rfl) ?_
        refine lv_bipush (v := 90) hx hb dX13_isOfName_19 (by decide) ?_
        refine lv_icmp_le (tgt := 37) hx hb dX13_isOfName_21 (by decide) (fun h35 => ?_) (fun h35 => ?_)
        · have z36 : pa.toInt ≤ (90 : Int) := le_z rfl (show (90 : Int32).toInt = (90 : Int) by decide) h35
          exact False.elim (om_fd180de3f1 z31 z36)
        · have z37 : (90 : Int) < pa.toInt := nle_z rfl (show (90 : Int32).toInt = (90 : Int) by decide) h35
          refine lv_iload_n hx hb dX13_isOfName_24 rfl (lv_at hl 0 rfl) ?_
          refine lv_bipush (v := 95) hx hb dX13_isOfName_25 (by decide) ?_
          refine lv_icmp_eq (tgt := 37) hx hb dX13_isOfName_27 (by decide) (fun h38 => ?_) (fun h38 => ?_)
          · have z39 : pa.toInt = (95 : Int) := eq_z rfl (show (95 : Int32).toInt = (95 : Int) by decide) h38
            exact False.elim (om_ff67b1dfb4 z31 z39)
          · have z40 : pa.toInt ≠ (95 : Int) := ne_z rfl (show (95 : Int32).toInt = (95 : Int) by decide) h38
            refine lv_iload_n hx hb dX13_isOfName_30 rfl (lv_at hl 0 rfl) ?_
            refine cu_i (rn_S (n := 1) (As := [.int pa]) (rest := []) hx hb hml hown ht hKK hFx hP hD hS hA (c_m_isDigit2 l dC dI cI cB cZ cJ cR tb s.heap.size pa ) tw_4 tw_5 (by decide +kernel) rfl rfl ⟨Nat.le_of_ble_eq_true rfl, Nat.le_of_ble_eq_true rfl⟩ [] rfl rfl rfl hl.1 rfl (Nat.le_of_ble_eq_true rfl) dX13_isOfName_31 ⟨Nat.le_of_ble_eq_true rfl, Nat.le_of_ble_eq_true rfl⟩) hP hD hS hA (fun r43 _ H locs hw41 hP hD hS => ?_)
            obtain ⟨ex41, b41, i41⟩ := hw41
            have b41 : (r43 = 0 ∨ r43 = 1) := b41
            have i41 : ((r43.toInt = 1 ∧ (48 ≤ pa.toInt ∧ pa.toInt ≤ 57)) ∨ (r43.toInt = 0 ∧ (pa.toInt < 48 ∨ 57 < pa.toInt))) := i41
            refine W.widen (k := 0) (n := 0) (Nat.le_refl _) (Nat.le_refl _) ?_
            refine lv_if_eq (tgt := 41) hx hb dX13_isOfName_34 (by decide) (fun h44 => ?_) (fun h44 => ?_)
            · have z45 : r43.toInt = (0 : Int) := eq_z rfl (show (0 : Int32).toInt = (0 : Int) by decide) h44
              refine lv_iconst (v := 0) hx hb dX13_isOfName_41 (by decide) ?_
              exact W.zret (v := 0) hx hb hr rfl (fun t ht9 hW => ⟨⟨0, (), rfl, ⟨(Or.inr (⟨z28, (Or.inr (⟨z31, z34, z37, z40, r43, ex41, ⟨b41, i41⟩, (Or.inl ⟨z45, rfl⟩)⟩))⟩)), ⟨Or.inl rfl, (om_bf3d476f02 z31)⟩⟩, by rw [ht9]; exact hP, hD⟩, hS.F ht9⟩) hS.2.2 dX13_isOfName_42
            · have z46 : r43.toInt ≠ (0 : Int) := ne_z rfl (show (0 : Int32).toInt = (0 : Int) by decide) h44
              refine lv_iconst (v := 1) hx hb dX13_isOfName_37 (by decide) ?_
              refine lv_goto (tgt := 42) hx hb dX13_isOfName_38 (by decide) ?_
              exact W.zret (v := 1) hx hb hr rfl (fun t ht9 hW => ⟨⟨1, (), rfl, ⟨(Or.inr (⟨z28, (Or.inr (⟨z31, z34, z37, z40, r43, ex41, ⟨b41, i41⟩, (Or.inr (⟨z46, rfl⟩))⟩))⟩)), ⟨Or.inr rfl, (om_29bb232b6d z31 i41 z46)⟩⟩, by rw [ht9]; exact hP, hD⟩, hS.F ht9⟩) hS.2.2 dX13_isOfName_42
theorem om_38fd6d02ea {x0 x1 x2 : Int} (h0 : x0 ≤ x1) : ((x1 < x0 ∧ (0 : Int) = x2) ∨ (x0 ≤ x1 ∧ (0 : Int) = 0)) := by omega
theorem om_332322fab7 {x0 x1 x2 : Int} (h0 : x0 < x1) : ((x0 < x1 ∧ x2 = x2) ∨ (x1 ≤ x0 ∧ x2 = 0)) := by omega
set_option maxHeartbeats 4000000 in
set_option maxRecDepth 100000 in
theorem c_m_at2 (l : Launch) (dC : Nat → ClassId) (dI : Nat → Nat → Nat) (cI cB cZ cJ cR : ClassId) (tb : Nat → Nat) (sz : Nat) (ad : Nat → Nat) (N : Nat) (v : MS) (pa : Int32) (zsz : 0 ≤ (v.1 0 4).toInt ∧ (v.1 0 4).toInt ≤ 4000) (za : 0 ≤ pa.toInt) : Met l yX13_at (Cond.code yX13_at cX13_at 2 (some .int) :: tw_W) ({ frames := 0, cells := 0, slots := 0, locals := 0 }) (pc_ (dC, dI) (tyS cI cB cZ cJ cR) tb (mW ad N cI cZ cJ v) sz [.ref (ad 0), .int pa]) (qi_ (dC, dI) (mW ad N cI cZ cJ v) sz (fun (r : Int32) (u : MS) => v = u ∧ (Q_m_at2 v pa r) ∧ (((pa.toInt < (v.1 0 4).toInt ∧ r.toInt = ((v.1 3) pa.toNatClampNeg).toInt) ∨ ((v.1 0 4).toInt ≤ pa.toInt ∧ r.toInt = 0)))) (fun (u : MS) => (mW ad N cI cZ cJ u))) 0 0 (va_A (mW ad N cI cZ cJ v) sz) := by
  refine Met.ofW (cc := cX13_at) (maxL := 2) (ret := (some .int)) (by decide) rfl ?_
  intro p e s m args below meth c s₁ B hml hv
  obtain ⟨rfl, hsz, hP, hKK, hD0, hFx⟩ := hv
  have hK := hKK.1
  have hx := B.exec
  have hb := B.bytes
  have hr := B.returns
  have ht : ∀ w ∈ tw_W, w.before _ s = true := fun w h => atoms_spec (ws := Cond.code yX13_at cX13_at 2 (some .int) :: tw_W) B.pre w (List.mem_cons_of_mem _ h)
  have hown : s.vm.findClass RX13 = some m.cls := findClass_of_methodNamed B.named
  have hlocks := B.notSynchronized
  subst hsz
  unfold qi_
  have hD := hD0.self (sz := s.heap.size)
  generalize hAe : va_A (mW ad N cI cZ cJ v) s.heap.size = A at hD hFx ⊢
  have hA : ∀ q : Nat, s.heap.size ≤ q → A q := fun q h => by rw [← hAe]; exact Or.inr h
  have hS : va_S A s.heap s.heap [] := va_S.rf
  have hl := lv_entry ([.ref (ad 0), .int pa]) (n := 2) (Nat.le_of_ble_eq_true rfl)
  rw [lg_entry_eq]
  generalize (lg_sl ([.ref (ad 0), .int pa]) ++ List.replicate (2 - (lg_sl ([.ref (ad 0), .int pa])).length) Slot.unset).toArray = ls at hl ⊢
  have hl : lv_has ls 2 [(0, .ref (ad 0)), (1, .int pa)] := hl
  refine lv_iload_n hx hb dX13_at_0 rfl (lv_at hl 1 rfl) ?_
  refine lv_aload_n hx hb dX13_at_1 rfl (lv_at hl 0 rfl) ?_
  refine va_get (D := (dC, dI)) (ci := 16) (fs := mF ad v) (v := .int (v.1 0 4)) (C := RX13) (T := TX13) (N := 124) hx hb ht itX13 hown hK hP 0 rfl rfl 4 (by decide) (ht _ tw_271) (fun _ h9 => h9) rfl dX13_at_2 ?_
  refine lv_icmp_ge (tgt := 17) hx hb dX13_at_5 (by decide) (fun h1 => ?_) (fun h1 => ?_)
  · have z2 : (v.1 0 4).toInt ≤ pa.toInt := le_z rfl rfl h1
    refine lv_iconst (v := 0) hx hb dX13_at_17 (by decide) ?_
    exact W.iret (v := 0) hx hb hr (fun t ht9 hW => ⟨⟨0, v, rfl, ⟨rfl, ⟨zsz, za, (Or.inl ⟨z2, rfl⟩)⟩, (om_38fd6d02ea z2)⟩, by rw [ht9]; exact hP, hD⟩, hS.F ht9⟩) hS.2.2 dX13_at_18
  · have z3 : pa.toInt < (v.1 0 4).toInt := nle_z rfl rfl h1
    refine lv_aload_n hx hb dX13_at_8 rfl (lv_at hl 0 rfl) ?_
    refine va_get (D := (dC, dI)) (ci := 16) (fs := mF ad v) (v := .ref (ad 3)) (C := RX13) (T := TX13) (N := 124) hx hb ht itX13 hown hK hP 0 rfl rfl 3 (by decide) (ht _ tw_43) (fun _ h9 => h9) rfl dX13_at_9 ?_
    refine lv_iload_n hx hb dX13_at_12 rfl (lv_at hl 1 rfl) ?_
    refine va_iald (D := (dC, dI)) (f := (v.1 3)) hx hb hK hP 2 0 rfl rfl (in_y (a := pa.toInt) (b := 4000) rfl (om_e4afbc3aeb za) (om_9e26038ac1 zsz z3) rfl) dX13_at_13 ?_
    refine lv_goto (tgt := 18) hx hb dX13_at_14 (by decide) ?_
    exact W.iret (v := ((v.1 3) pa.toNatClampNeg)) hx hb hr (fun t ht9 hW => ⟨⟨((v.1 3) pa.toNatClampNeg), v, rfl, ⟨rfl, ⟨zsz, za, (Or.inr (⟨z3, rfl⟩))⟩, (om_332322fab7 z3)⟩, by rw [ht9]; exact hP, hD⟩, hS.F ht9⟩) hS.2.2 dX13_at_18
theorem om_3c422c03b3 {x0 x1 : Int} (h0 : 0 ≤ x0 ∧ x0 ≤ 4000) (h1 : 0 ≤ x1 ∧ x1 < x0) : x1 < 4000 := by omega
theorem om_a46f03812c {x0 x1 : Int} (h0 : 0 ≤ x0 ∧ x0 < x1) : x0 ≤ x0 ∧ x0 ≤ x0 + 11 ∧ x0 ≤ x1 := by omega
theorem om_d76d844f33 {x0 x1 : Int} (h0 : (48 ≤ x0 ∧ x0 ≤ 57)) : x1 ≠ x1 ∨ (48 ≤ x0 ∧ x0 ≤ 57) := by omega
theorem om_4eb569b42b {x0 x1 x2 : Int} (h0 : 0 ≤ x0 ∧ x0 < x1) (h1 : x0 ≤ x2 ∧ x2 ≤ x0 + 11 ∧ x2 ≤ x1) : 0 ≤ x2 := by omega
theorem om_b4cbb4aa2b {x0 x1 x2 : Int} (h0 : x0 ≤ x1 ∧ x1 ≤ x0 + 11 ∧ x1 ≤ x2) : -2147483648 ≤ x1 - x0 := by omega
theorem om_c5d95811ea {x0 x1 x2 : Int} (h0 : x0 ≤ x1 ∧ x1 ≤ x0 + 11 ∧ x1 ≤ x2) : x1 - x0 < 2147483648 := by omega
theorem om_f4399b7891 {x0 x1 x2 x3 x4 x5 x6 : Int} (h0 : 0 ≤ x0 ∧ x0 < x1) (h1 : x0 ≤ x2 ∧ x2 ≤ x0 + 11 ∧ x2 ≤ x1) (h2 : x2 ≠ x0 ∨ (48 ≤ x3 ∧ x3 ≤ 57)) (h3 : ((x2 < x1 ∧ x4 = x3) ∨ (x1 ≤ x2 ∧ x4 = 0))) (h4 : ((x5 = 1 ∧ (48 ≤ x4 ∧ x4 ≤ 57)) ∨ (x5 = 0 ∧ (x4 < 48 ∨ 57 < x4)))) (h5 : x5 = (0 : Int)) (h6 : x6 = x2) : (4 : Int) ≤ 1 ∨ (x0 + 1 ≤ x6 ∧ x6 ≤ x1) := by omega
theorem om_9f3970f1f5 {x0 x1 x2 : Int} (h0 : 0 ≤ x0 ∧ x0 ≤ 4000) (h1 : 0 ≤ x1 ∧ x1 < x0) (h2 : x1 ≤ x2 ∧ x2 ≤ x1 + 11 ∧ x2 ≤ x0) : 0 ≤ x2 ∧ x2 ≤ 4000 := by omega
theorem om_2b87288d31 {x0 x1 : Int} (h0 : (11 : Int) ≤ (x0 - x1)) : -2147483648 ≤ x0 - x1 := by omega
theorem om_f87a774cb7 {x0 x1 : Int} (h0 : (11 : Int) ≤ (x0 - x1)) (h1 : (x0 - x1) ≤ (10 : Int)) : False := by omega
theorem om_934bac2eaa {x0 x1 x2 : Int} (h0 : 0 ≤ x0 ∧ x0 < x1) (h1 : x0 ≤ x2 ∧ x2 ≤ x0 + 11 ∧ x2 ≤ x1) : -2147483648 ≤ x2 + (1 : Int) := by omega
theorem om_f97b10b697 {x0 x1 x2 : Int} (h0 : 0 ≤ x0 ∧ x0 ≤ 4000) (h1 : x1 ≤ x2 ∧ x2 ≤ x1 + 11 ∧ x2 ≤ x0) : x2 + (1 : Int) < 2147483648 := by omega
theorem om_9eb72a1413 {x0 x1 x2 x3 x4 x5 x6 : Int} (h0 : x0 ≤ x1 ∧ x1 ≤ x0 + 11 ∧ x1 ≤ x2) (h1 : ((x1 < x2 ∧ x3 = x4) ∨ (x2 ≤ x1 ∧ x3 = 0))) (h2 : ((x5 = 1 ∧ (48 ≤ x3 ∧ x3 ≤ 57)) ∨ (x5 = 0 ∧ (x3 < 48 ∨ 57 < x3)))) (h3 : x5 ≠ (0 : Int)) (h4 : (x1 - x0) < (11 : Int)) (h5 : x6 = x1 + (1 : Int)) : x0 ≤ x6 ∧ x6 ≤ x0 + 11 ∧ x6 ≤ x2 := by omega
theorem om_153b0f0a88 {x0 x1 x2 x3 x4 : Int} (h0 : x0 ≤ x1 ∧ x1 ≤ x0 + 11 ∧ x1 ≤ x2) (h1 : x3 = x1 + (1 : Int)) : x3 ≠ x0 ∨ (48 ≤ x4 ∧ x4 ≤ 57) := by omega
theorem om_1e4137d197 {x0 x1 x2 : Int} (h0 : x0 = x1 + (1 : Int)) : x2 + 11 - x0 < x2 + 11 - x1 := by omega
theorem om_eef72cce01 {x0 x1 : Int} (h0 : (x0 - x1) < (11 : Int)) : 0 < x1 + 11 - x0 := by omega
theorem om_a667b4732c {x0 x1 : Int} (h0 : 0 ≤ x0 ∧ x0 < x1) : -2147483648 ≤ x0 + (1 : Int) := by omega
theorem om_5aad37c20a {x0 x1 : Int} (h0 : 0 ≤ x0 ∧ x0 ≤ 4000) (h1 : 0 ≤ x1 ∧ x1 < x0) : x1 + (1 : Int) < 2147483648 := by omega
theorem om_b1ecbdfeb5 {x0 x1 x2 : Int} (h0 : 0 ≤ x0 ∧ x0 < x1) (h1 : x2 = x0 + (1 : Int)) : 0 ≤ x2 := by omega
theorem om_f6dccacb79 {x0 x1 : Int} (h0 : (48 ≤ x0 ∧ x0 ≤ 57)) (h1 : x0 = (48 : Int)) : x1 ≠ x1 ∨ (48 ≤ x0 ∧ x0 ≤ 57) := by omega
theorem om_cadcd0ac59 {x0 x1 : Int} (h0 : 0 ≤ x0 ∧ x0 < x1) : -2147483648 ≤ x0 + (2 : Int) := by omega
theorem om_4a6167ded1 {x0 x1 : Int} (h0 : 0 ≤ x0 ∧ x0 ≤ 4000) (h1 : 0 ≤ x1 ∧ x1 < x0) : x1 + (2 : Int) < 2147483648 := by omega
theorem om_e15ba9a4f9 {x0 x1 x2 : Int} (h0 : x0 = x1 + (2 : Int)) : x1 + 2 ≤ x0 ∧ x0 ≤ x1 + 11 ∧ (x0 ≤ x2 ∨ x0 = x1 + 2) := by omega
theorem om_39e53562b6 {x0 x1 x2 : Int} (h0 : 0 ≤ x0 ∧ x0 < x1) (h1 : x0 + 2 ≤ x2 ∧ x2 ≤ x0 + 11 ∧ (x2 ≤ x1 ∨ x2 = x0 + 2)) : 0 ≤ x2 := by omega
theorem om_3f0fe5a586 {x0 x1 x2 : Int} (h0 : x0 + 2 ≤ x1 ∧ x1 ≤ x0 + 11 ∧ (x1 ≤ x2 ∨ x1 = x0 + 2)) : -2147483648 ≤ x1 - x0 := by omega
theorem om_1e220bc08f {x0 x1 x2 : Int} (h0 : x0 + 2 ≤ x1 ∧ x1 ≤ x0 + 11 ∧ (x1 ≤ x2 ∨ x1 = x0 + 2)) : x1 - x0 < 2147483648 := by omega
theorem om_91c8b37c75 {x0 x1 x2 x3 x4 x5 x6 : Int} (h0 : x0 = x1 + (1 : Int)) (h1 : ((x0 < x2 ∧ x3 = x4) ∨ (x2 ≤ x0 ∧ x3 = 0))) (h2 : x3 = (120 : Int)) (h3 : x1 + 2 ≤ x5 ∧ x5 ≤ x1 + 11 ∧ (x5 ≤ x2 ∨ x5 = x1 + 2)) (h4 : x6 = x5) : (4 : Int) ≤ 1 ∨ (x1 + 1 ≤ x6 ∧ x6 ≤ x2) := by omega
theorem om_f1254cad60 {x0 x1 x2 x3 x4 x5 : Int} (h0 : 0 ≤ x0 ∧ x0 ≤ 4000) (h1 : 0 ≤ x1 ∧ x1 < x0) (h2 : x2 = x1 + (1 : Int)) (h3 : ((x2 < x0 ∧ x3 = x4) ∨ (x0 ≤ x2 ∧ x3 = 0))) (h4 : x3 = (120 : Int)) (h5 : x1 + 2 ≤ x5 ∧ x5 ≤ x1 + 11 ∧ (x5 ≤ x0 ∨ x5 = x1 + 2)) : 0 ≤ x5 ∧ x5 ≤ 4000 := by omega
theorem om_e22d04ddac {x0 x1 : Int} (h0 : (11 : Int) ≤ (x0 - x1)) (h1 : x0 = (x1 + (2 : Int))) : False := by omega
theorem om_8da9f69177 {x0 x1 x2 : Int} (h0 : 0 ≤ x0 ∧ x0 < x1) (h1 : x0 + 2 ≤ x2 ∧ x2 ≤ x0 + 11 ∧ (x2 ≤ x1 ∨ x2 = x0 + 2)) : -2147483648 ≤ x2 + (1 : Int) := by omega
theorem om_b1e9b5e0ad {x0 x1 x2 : Int} (h0 : 0 ≤ x0 ∧ x0 ≤ 4000) (h1 : 0 ≤ x1 ∧ x1 < x0) (h2 : (x2 - x1) < (11 : Int)) : x2 + (1 : Int) < 2147483648 := by omega
theorem om_10c0300119 {x0 x1 x2 x3 x4 x5 x6 : Int} (h0 : x0 + 2 ≤ x1 ∧ x1 ≤ x0 + 11 ∧ (x1 ≤ x2 ∨ x1 = x0 + 2)) (h1 : ((x1 < x2 ∧ x3 = x4) ∨ (x2 ≤ x1 ∧ x3 = 0))) (h2 : x5 < 0 ∨ x3 ≠ 0) (h3 : (0 : Int) ≤ x5) (h4 : (x1 - x0) < (11 : Int)) (h5 : x6 = x1 + (1 : Int)) : x0 + 2 ≤ x6 ∧ x6 ≤ x0 + 11 ∧ (x6 ≤ x2 ∨ x6 = x0 + 2) := by omega
set_option maxHeartbeats 4000000 in
set_option maxRecDepth 100000 in
theorem c_m_number (l : Launch) (dC : Nat → ClassId) (dI : Nat → Nat → Nat) (cI cB cZ cJ cR : ClassId) (tb : Nat → Nat) (sz : Nat) (ad : Nat → Nat) (N : Nat) (v : MS) (pa : Int32) (zsz : 0 ≤ (v.1 0 4).toInt ∧ (v.1 0 4).toInt ≤ 4000) (ztk : 0 ≤ (v.1 0 5).toInt ∧ (v.1 0 5).toInt ≤ 4001) (za : 0 ≤ pa.toInt ∧ pa.toInt < (v.1 0 4).toInt) (a8 : AR 8 0 4000 v) (zd : (48 ≤ ((v.1 3) pa.toNatClampNeg).toInt ∧ ((v.1 3) pa.toNatClampNeg).toInt ≤ 57)) : Met l yX13_number (Cond.code yX13_number cX13_number 5 (some .int) :: tw_W) ({ frames := 2, cells := 0, slots := 0, locals := 40 }) (pc_ (dC, dI) (tyS cI cB cZ cJ cR) tb (mW ad N cI cZ cJ v) sz [.ref (ad 0), .int pa]) (qi_ (dC, dI) (mW ad N cI cZ cJ v) sz (fun (r : Int32) (u : MS) => FH [] [8, 10] v u ∧ (Q_m_number v pa r u) ∧ (r.toInt ≤ 1 ∨ (pa.toInt + 1 ≤ ((u.1 8) (u.1 0 5).toNatClampNeg).toInt ∧ ((u.1 8) (u.1 0 5).toNatClampNeg).toInt ≤ (v.1 0 4).toInt)) ∧ (AR 8 0 4000 u)) (fun (u : MS) => (mW ad N cI cZ cJ u))) 0 0 (va_A (mW ad N cI cZ cJ v) sz) := by
  refine Met.ofW (cc := cX13_number) (maxL := 5) (ret := (some .int)) (by decide) rfl ?_
  intro p e s m args below meth c s₁ B hml hv
  obtain ⟨rfl, hsz, hP, hKK, hD0, hFx⟩ := hv
  have hK := hKK.1
  have hx := B.exec
  have hb := B.bytes
  have hr := B.returns
  have ht : ∀ w ∈ tw_W, w.before _ s = true := fun w h => atoms_spec (ws := Cond.code yX13_number cX13_number 5 (some .int) :: tw_W) B.pre w (List.mem_cons_of_mem _ h)
  have hown : s.vm.findClass RX13 = some m.cls := findClass_of_methodNamed B.named
  have hlocks := B.notSynchronized
  subst hsz
  unfold qi_
  have hD := hD0.self (sz := s.heap.size)
  generalize hAe : va_A (mW ad N cI cZ cJ v) s.heap.size = A at hD hFx ⊢
  have hA : ∀ q : Nat, s.heap.size ≤ q → A q := fun q h => by rw [← hAe]; exact Or.inr h
  have hS : va_S A s.heap s.heap [] := va_S.rf
  have hl := lv_entry ([.ref (ad 0), .int pa]) (n := 5) (Nat.le_of_ble_eq_true rfl)
  rw [lg_entry_eq]
  generalize (lg_sl ([.ref (ad 0), .int pa]) ++ List.replicate (5 - (lg_sl ([.ref (ad 0), .int pa])).length) Slot.unset).toArray = ls at hl ⊢
  have hl : lv_has ls 5 [(0, .ref (ad 0)), (1, .int pa)] := hl
  refine lv_iload_n hx hb dX13_number_0 rfl (lv_at hl 1 rfl) ?_
  refine lv_istore_n (lv' := [(2, .int pa), (0, .ref (ad 0)), (1, .int pa)]) hx hb dX13_number_1 rfl hl (by decide) rfl (fun ls hl => ?_)
  refine lv_lconst (v := 0) hx hb dX13_number_2 (by decide) ?_
  refine lv_lstore_n (lv' := [(3, .long 0), (2, .int pa), (0, .ref (ad 0)), (1, .int pa)]) hx hb dX13_number_3 rfl hl (by decide) rfl (fun ls hl => ?_)
  refine lv_aload_n hx hb dX13_number_4 rfl (lv_at hl 2 rfl) ?_
  refine va_get (D := (dC, dI)) (ci := 16) (fs := mF ad v) (v := .ref (ad 3)) (C := RX13) (T := TX13) (N := 124) hx hb ht itX13 hown hK hP 0 rfl rfl 3 (by decide) (ht _ tw_43) (fun _ h9 => h9) rfl dX13_number_5 ?_
  refine lv_iload_n hx hb dX13_number_8 rfl (lv_at hl 3 rfl) ?_
  refine va_iald (D := (dC, dI)) (f := (v.1 3)) hx hb hK hP 2 0 rfl rfl (in_y (a := pa.toInt) (b := 4000) rfl (om_67c5e46d7f za) (om_3c422c03b3 zsz za) rfl) dX13_number_9 ?_
  refine lv_bipush (v := 48) hx hb dX13_number_10 (by decide) ?_
  refine lv_icmp_ne (tgt := 125) hx hb dX13_number_12 (by decide) (fun h1 => ?_) (fun h1 => ?_)
  · have z2 : ((v.1 3) pa.toNatClampNeg).toInt ≠ (48 : Int) := ne_z rfl (show (48 : Int32).toInt = (48 : Int) by decide) h1
    refine lpm_ (X := Int32 × Int64) (P := (fun (x9 : Int32 × Int64) (H : Heap) (locs : List Loc) (ls : Array Slot) => (pa.toInt ≤ x9.1.toInt ∧ x9.1.toInt ≤ pa.toInt + 11 ∧ x9.1.toInt ≤ (v.1 0 4).toInt) ∧ (x9.1.toInt ≠ pa.toInt ∨ (48 ≤ ((v.1 3) x9.1.toNatClampNeg).toInt ∧ ((v.1 3) x9.1.toNatClampNeg).toInt ≤ 57)) ∧ (RT (Q_m_number_L0 v pa) (pa, 0) (x9.1, x9.2)) ∧ va_P (dC, dI) vwCl (mW ad N cI cZ cJ v) H ∧ va_D A (mW ad N cI cZ cJ v) ∧ va_S A s.heap H locs ∧ lv_has ls 5 [(3, .long x9.2), (2, .int x9.1), (0, .ref (ad 0)), (1, .int pa)])) (fun x9 => (pa.toInt + 11 - x9.1.toInt).toNat) 125 (fun x9 H locs ls hh ih125 => ?_) (pa, 0) _ _ _ ⟨(show pa.toInt ≤ pa.toInt ∧ pa.toInt ≤ pa.toInt + 11 ∧ pa.toInt ≤ (v.1 0 4).toInt from (om_a46f03812c za)), (show pa.toInt ≠ pa.toInt ∨ (48 ≤ ((v.1 3) pa.toNatClampNeg).toInt ∧ ((v.1 3) pa.toNatClampNeg).toInt ≤ 57) from (om_d76d844f33 zd)), RT.rf, hP, hD, hS, lv_sub hl [0, 1, 2, 3] rfl⟩
    obtain ⟨tn, lb⟩ := x9
    obtain ⟨f1L125, f2L125, exL125, hP, hD, hS, hl⟩ := hh
    have f1L125 : pa.toInt ≤ tn.toInt ∧ tn.toInt ≤ pa.toInt + 11 ∧ tn.toInt ≤ (v.1 0 4).toInt := f1L125
    have f2L125 : tn.toInt ≠ pa.toInt ∨ (48 ≤ ((v.1 3) tn.toNatClampNeg).toInt ∧ ((v.1 3) tn.toNatClampNeg).toInt ≤ 57) := f2L125
    have hl : lv_has ls 5 [(3, .long lb), (2, .int tn), (0, .ref (ad 0)), (1, .int pa)] := hl
    refine lv_aload_n hx hb dX13_number_125 rfl (lv_at hl 2 rfl) ?_
    refine lv_iload_n hx hb dX13_number_126 rfl (lv_at hl 1 rfl) ?_
    refine cu_i (rn_V (n := 1) (As := [.int tn]) (rest := []) hx hb hml hown ht hKK hFx hP hD hS hA (c_m_at2 l dC dI cI cB cZ cJ cR tb H.size ad N v tn (show 0 ≤ (v.1 0 4).toInt ∧ (v.1 0 4).toInt ≤ 4000 from (om_c474bb42ef zsz za)) (show 0 ≤ tn.toInt from (om_4eb569b42b za f1L125))) tw_284 tw_285 (by decide +kernel) rfl rfl ⟨Nat.le_of_ble_eq_true rfl, Nat.le_of_ble_eq_true rfl⟩ (List.range (mW ad N cI cZ cJ v).length) (rg_map _) (mW_nd _ _ _ _ _ _) rfl rfl rfl rfl hl.1 rfl (Nat.le_of_ble_eq_true rfl) dX13_number_127 ⟨Nat.le_of_ble_eq_true rfl, Nat.le_of_ble_eq_true rfl⟩) hP hD hS hA (fun r5 u4 H locs hw3 hP hD hS => ?_)
    obtain ⟨rfl, ex3, c3⟩ := hw3
    refine W.widen (k := 0) (n := 0) (Nat.le_refl _) (Nat.le_refl _) ?_
    refine cu_s (mW_nd _ _ _ _ _ _) (rn_S (n := 1) (As := [.int r5]) (rest := []) hx hb hml hown ht hKK hFx hP hD hS hA (c_m_isDigit2 l dC dI cI cB cZ cJ cR tb H.size r5 ) tw_4 tw_5 (by decide +kernel) rfl rfl ⟨Nat.le_of_ble_eq_true rfl, Nat.le_of_ble_eq_true rfl⟩ [] rfl rfl rfl hl.1 rfl (Nat.le_of_ble_eq_true rfl) dX13_number_130 ⟨Nat.le_of_ble_eq_true rfl, Nat.le_of_ble_eq_true rfl⟩) hP hD hS hA (fun r8 H locs hw6 hP hD hS => ?_)
    obtain ⟨ex6, b6, i6⟩ := hw6
    refine W.widen (k := 0) (n := 0) (Nat.le_refl _) (Nat.le_refl _) ?_
    refine lv_if_eq (tgt := 167) hx hb dX13_number_133 (by decide) (fun h9 => ?_) (fun h9 => ?_)
    · have z10 : r8.toInt = (0 : Int) := eq_z rfl (show (0 : Int32).toInt = (0 : Int) by decide) h9
      refine lv_iload_n hx hb dX13_number_167 rfl (lv_at hl 1 rfl) ?_
      refine lv_iload_n hx hb dX13_number_168 rfl (lv_at hl 3 rfl) ?_
      refine lv_isub hx hb dX13_number_169 ?_
      have z11 : (tn - pa).toInt = tn.toInt - pa.toInt := sub_z rfl rfl (om_b4cbb4aa2b f1L125) (om_c5d95811ea f1L125)
      refine lv_bipush (v := 10) hx hb dX13_number_170 (by decide) ?_
      refine lv_icmp_gt (tgt := 186) hx hb dX13_number_172 (by decide) (fun h12 => ?_) (fun h12 => ?_)
      · have z13 : (10 : Int) < (tn.toInt - pa.toInt) := lt_z (show (10 : Int32).toInt = (10 : Int) by decide) z11 h12
        refine lv_iconst (v := 1) hx hb dX13_number_186 (by decide) ?_
        exact W.iret (v := 1) hx hb hr (fun t ht9 hW => ⟨⟨1, v, rfl, ⟨(FH.rf _), ⟨zsz, ztk, za, zd, (Or.inl ⟨z2, tn, lb, exL125, f1L125, f2L125, r5, ex3, c3, r8, ex6, ⟨b6, i6⟩, (Or.inl ⟨z10, (Or.inl ⟨z13, rfl, rfl⟩)⟩)⟩)⟩, (show (1 : Int) ≤ 1 ∨ (pa.toInt + 1 ≤ ((v.1 8) (v.1 0 5).toNatClampNeg).toInt ∧ ((v.1 8) (v.1 0 5).toNatClampNeg).toInt ≤ (v.1 0 4).toInt) from om_abc8d05dfe), a8⟩, by rw [ht9]; exact hP, hD⟩, hS.F ht9⟩) hS.2.2 dX13_number_187
      · have z14 : (tn.toInt - pa.toInt) ≤ (10 : Int) := nlt_z (show (10 : Int32).toInt = (10 : Int) by decide) z11 h12
        refine lv_aload_n hx hb dX13_number_175 rfl (lv_at hl 2 rfl) ?_
        refine lv_iload_n hx hb dX13_number_176 rfl (lv_at hl 1 rfl) ?_
        refine cu_i (rn_V (n := 1) (As := [.int tn]) (rest := []) hx hb hml hown ht hKK hFx hP hD hS hA (c_m_at2 l dC dI cI cB cZ cJ cR tb H.size ad N v tn (show 0 ≤ (v.1 0 4).toInt ∧ (v.1 0 4).toInt ≤ 4000 from (om_c474bb42ef zsz za)) (show 0 ≤ tn.toInt from (om_4eb569b42b za f1L125))) tw_284 tw_285 (by decide +kernel) rfl rfl ⟨Nat.le_of_ble_eq_true rfl, Nat.le_of_ble_eq_true rfl⟩ (List.range (mW ad N cI cZ cJ v).length) (rg_map _) (mW_nd _ _ _ _ _ _) rfl rfl rfl rfl hl.1 rfl (Nat.le_of_ble_eq_true rfl) dX13_number_177 ⟨Nat.le_of_ble_eq_true rfl, Nat.le_of_ble_eq_true rfl⟩) hP hD hS hA (fun r17 u16 H locs hw15 hP hD hS => ?_)
        obtain ⟨rfl, ex15, c15⟩ := hw15
        refine W.widen (k := 0) (n := 0) (Nat.le_refl _) (Nat.le_refl _) ?_
        refine cu_s (mW_nd _ _ _ _ _ _) (rn_S (n := 1) (As := [.int r17]) (rest := []) hx hb hml hown ht hKK hFx hP hD hS hA (c_m_isOfName2 l dC dI cI cB cZ cJ cR tb H.size r17 ) tw_286 tw_287 (by decide +kernel) rfl rfl ⟨Nat.le_of_ble_eq_true rfl, Nat.le_of_ble_eq_true rfl⟩ [] rfl rfl rfl hl.1 rfl (Nat.le_of_ble_eq_true rfl) dX13_number_180 ⟨Nat.le_of_ble_eq_true rfl, Nat.le_of_ble_eq_true rfl⟩) hP hD hS hA (fun r20 H locs hw18 hP hD hS => ?_)
        obtain ⟨ex18, b18, i18⟩ := hw18
        refine W.widen (k := 0) (n := 0) (Nat.le_refl _) (Nat.le_refl _) ?_
        refine lv_if_eq (tgt := 188) hx hb dX13_number_183 (by decide) (fun h21 => ?_) (fun h21 => ?_)
        · have z22 : r20.toInt = (0 : Int) := eq_z rfl (show (0 : Int32).toInt = (0 : Int) by decide) h21
          refine lv_aload_n hx hb dX13_number_188 rfl (lv_at hl 2 rfl) ?_
          refine va_get (D := (dC, dI)) (ci := 16) (fs := mF ad v) (v := .ref (ad 10)) (C := RX13) (T := TX13) (N := 124) hx hb ht itX13 hown hK hP 0 rfl rfl 10 (by decide) (ht _ tw_110) (fun _ h9 => h9) rfl dX13_number_189 ?_
          refine lv_aload_n hx hb dX13_number_192 rfl (lv_at hl 2 rfl) ?_
          refine va_get (D := (dC, dI)) (ci := 16) (fs := mF ad v) (v := .int (v.1 0 5)) (C := RX13) (T := TX13) (N := 124) hx hb ht itX13 hown hK hP 0 rfl rfl 5 (by decide) (ht _ tw_283) (fun _ h9 => h9) rfl dX13_number_193 ?_
          refine lv_iconst (v := 1) hx hb dX13_number_196 (by decide) ?_
          refine va_zast (D := (dC, dI)) (f := (v.1 10)) hx hb hK hP hD hS 7 2 rfl rfl (in_y (a := (v.1 0 5).toInt) (b := 4002) rfl (om_68cc9dfc8a ztk) (om_d067f7e614 ztk) rfl) dX13_number_197 (fun H locs hP hD hS => ?_)
          have hP := cP_ (ma_10 ad N cI cZ cJ v ((v.1 0 5).toNatClampNeg) (vp_nar .boolean (1 : Int32))) hP
          have hD := cD_ (ma_10 ad N cI cZ cJ v ((v.1 0 5).toNatClampNeg) (vp_nar .boolean (1 : Int32))) hD
          refine lv_aload_n hx hb dX13_number_198 rfl (lv_at hl 2 rfl) ?_
          refine va_get (D := (dC, dI)) (ci := 16) (fs := mF ad (wA v 10 ((v.1 0 5).toNatClampNeg) (vp_nar .boolean (1 : Int32)))) (v := .ref (ad 9)) (C := RX13) (T := TX13) (N := 124) hx hb ht itX13 hown hK hP 0 rfl rfl 9 (by decide) (ht _ tw_27) (fun _ h9 => h9) rfl dX13_number_199 ?_
          refine lv_aload_n hx hb dX13_number_202 rfl (lv_at hl 2 rfl) ?_
          refine va_get (D := (dC, dI)) (ci := 16) (fs := mF ad (wA v 10 ((v.1 0 5).toNatClampNeg) (vp_nar .boolean (1 : Int32)))) (v := .int (v.1 0 5)) (C := RX13) (T := TX13) (N := 124) hx hb ht itX13 hown hK hP 0 rfl rfl 5 (by decide) (ht _ tw_283) (fun _ h9 => h9) rfl dX13_number_203 ?_
          refine lv_lload_n hx hb dX13_number_206 rfl (lv_at hl 0 rfl) ?_
          refine va_last (D := (dC, dI)) (f := v.2) hx hb hK hP hD hS 6 3 rfl rfl (in_y (a := (v.1 0 5).toInt) (b := 4002) rfl (om_68cc9dfc8a ztk) (om_d067f7e614 ztk) rfl) dX13_number_207 (fun H locs hP hD hS => ?_)
          have hP := cP_ (ma_9 ad N cI cZ cJ (wA v 10 ((v.1 0 5).toNatClampNeg) (vp_nar .boolean (1 : Int32))) ((v.1 0 5).toNatClampNeg) lb) hP
          have hD := cD_ (ma_9 ad N cI cZ cJ (wA v 10 ((v.1 0 5).toNatClampNeg) (vp_nar .boolean (1 : Int32))) ((v.1 0 5).toNatClampNeg) lb) hD
          refine lv_aload_n hx hb dX13_number_208 rfl (lv_at hl 2 rfl) ?_
          refine va_get (D := (dC, dI)) (ci := 16) (fs := mF ad (wL (wA v 10 ((v.1 0 5).toNatClampNeg) (vp_nar .boolean (1 : Int32))) ((v.1 0 5).toNatClampNeg) lb)) (v := .ref (ad 8)) (C := RX13) (T := TX13) (N := 124) hx hb ht itX13 hown hK hP 0 rfl rfl 8 (by decide) (ht _ tw_42) (fun _ h9 => h9) rfl dX13_number_209 ?_
          refine lv_aload_n hx hb dX13_number_212 rfl (lv_at hl 2 rfl) ?_
          refine va_get (D := (dC, dI)) (ci := 16) (fs := mF ad (wL (wA v 10 ((v.1 0 5).toNatClampNeg) (vp_nar .boolean (1 : Int32))) ((v.1 0 5).toNatClampNeg) lb)) (v := .int (v.1 0 5)) (C := RX13) (T := TX13) (N := 124) hx hb ht itX13 hown hK hP 0 rfl rfl 5 (by decide) (ht _ tw_283) (fun _ h9 => h9) rfl dX13_number_213 ?_
          refine lv_iload_n hx hb dX13_number_216 rfl (lv_at hl 1 rfl) ?_
          refine va_iast (D := (dC, dI)) (f := (v.1 8)) hx hb hK hP hD hS 5 0 rfl rfl (in_y (a := (v.1 0 5).toInt) (b := 4002) rfl (om_68cc9dfc8a ztk) (om_d067f7e614 ztk) rfl) dX13_number_217 (fun H locs hP hD hS => ?_)
          have hP := cP_ (ma_8 ad N cI cZ cJ (wL (wA v 10 ((v.1 0 5).toNatClampNeg) (vp_nar .boolean (1 : Int32))) ((v.1 0 5).toNatClampNeg) lb) ((v.1 0 5).toNatClampNeg) tn) hP
          have hD := cD_ (ma_8 ad N cI cZ cJ (wL (wA v 10 ((v.1 0 5).toNatClampNeg) (vp_nar .boolean (1 : Int32))) ((v.1 0 5).toNatClampNeg) lb) ((v.1 0 5).toNatClampNeg) tn) hD
          refine lv_iconst (v := 4) hx hb dX13_number_218 (by decide) ?_
          have q23 : ((upd (v.1 8) ((v.1 0 5).toNatClampNeg) tn) (v.1 0 5).toNatClampNeg).toInt = tn.toInt := congrArg Int32.toInt pk_us
          exact W.iret (v := 4) hx hb hr (fun t ht9 hW => ⟨⟨4, (wA (wL (wA v 10 ((v.1 0 5).toNatClampNeg) (vp_nar .boolean (1 : Int32))) ((v.1 0 5).toNatClampNeg) lb) 8 ((v.1 0 5).toNatClampNeg) tn), rfl, ⟨(FH.a (FH.l (FH.a (FH.rf _) ((v.1 0 5).toNatClampNeg) (vp_nar .boolean (1 : Int32)) (by decide) (by decide)) ((v.1 0 5).toNatClampNeg) lb) ((v.1 0 5).toNatClampNeg) tn (by decide) (by decide)), ⟨zsz, ztk, za, zd, (Or.inl ⟨z2, tn, lb, exL125, f1L125, f2L125, r5, ex3, c3, r8, ex6, ⟨b6, i6⟩, (Or.inl ⟨z10, (Or.inr (⟨z14, r17, ex15, c15, r20, ex18, ⟨b18, i18⟩, (Or.inl ⟨z22, rfl, rfl⟩)⟩))⟩)⟩)⟩, (show (4 : Int) ≤ 1 ∨ (pa.toInt + 1 ≤ ((upd (v.1 8) ((v.1 0 5).toNatClampNeg) tn) (v.1 0 5).toNatClampNeg).toInt ∧ ((upd (v.1 8) ((v.1 0 5).toNatClampNeg) tn) (v.1 0 5).toNatClampNeg).toInt ≤ (v.1 0 4).toInt) from (om_f4399b7891 za f1L125 f2L125 c3 i6 z10 q23)), (AR.w (AR.l (AR.o a8 (by decide))) (show 0 ≤ tn.toInt ∧ tn.toInt ≤ 4000 from (om_9f3970f1f5 zsz za f1L125)))⟩, by rw [ht9]; exact hP, hD⟩, hS.F ht9⟩) hS.2.2 dX13_number_219
        · have z24 : r20.toInt ≠ (0 : Int) := ne_z rfl (show (0 : Int32).toInt = (0 : Int) by decide) h21
          refine lv_iconst (v := 1) hx hb dX13_number_186 (by decide) ?_
          exact W.iret (v := 1) hx hb hr (fun t ht9 hW => ⟨⟨1, v, rfl, ⟨(FH.rf _), ⟨zsz, ztk, za, zd, (Or.inl ⟨z2, tn, lb, exL125, f1L125, f2L125, r5, ex3, c3, r8, ex6, ⟨b6, i6⟩, (Or.inl ⟨z10, (Or.inr (⟨z14, r17, ex15, c15, r20, ex18, ⟨b18, i18⟩, (Or.inr (⟨z24, rfl, rfl⟩))⟩))⟩)⟩)⟩, (show (1 : Int) ≤ 1 ∨ (pa.toInt + 1 ≤ ((v.1 8) (v.1 0 5).toNatClampNeg).toInt ∧ ((v.1 8) (v.1 0 5).toNatClampNeg).toInt ≤ (v.1 0 4).toInt) from om_abc8d05dfe), a8⟩, by rw [ht9]; exact hP, hD⟩, hS.F ht9⟩) hS.2.2 dX13_number_187
    · have z25 : r8.toInt ≠ (0 : Int) := ne_z rfl (show (0 : Int32).toInt = (0 : Int) by decide) h9
      refine lv_iload_n hx hb dX13_number_136 rfl (lv_at hl 1 rfl) ?_
      refine lv_iload_n hx hb dX13_number_137 rfl (lv_at hl 3 rfl) ?_
      refine lv_isub hx hb dX13_number_138 ?_
      have z26 : (tn - pa).toInt = tn.toInt - pa.toInt := sub_z rfl rfl (om_b4cbb4aa2b f1L125) (om_c5d95811ea f1L125)
      refine lv_bipush (v := 11) hx hb dX13_number_139 (by decide) ?_
      refine lv_icmp_ge (tgt := 167) hx hb dX13_number_141 (by decide) (fun h27 => ?_) (fun h27 => ?_)
      · have z28 : (11 : Int) ≤ (tn.toInt - pa.toInt) := le_z (show (11 : Int32).toInt = (11 : Int) by decide) z26 h27
        refine lv_iload_n hx hb dX13_number_167 rfl (lv_at hl 1 rfl) ?_
        refine lv_iload_n hx hb dX13_number_168 rfl (lv_at hl 3 rfl) ?_
        refine lv_isub hx hb dX13_number_169 ?_
        have z29 : (tn - pa).toInt = tn.toInt - pa.toInt := sub_z rfl rfl (om_2b87288d31 z28) (om_c5d95811ea f1L125)
        refine lv_bipush (v := 10) hx hb dX13_number_170 (by decide) ?_
        refine lv_icmp_gt (tgt := 186) hx hb dX13_number_172 (by decide) (fun h30 => ?_) (fun h30 => ?_)
        · have z31 : (10 : Int) < (tn.toInt - pa.toInt) := lt_z (show (10 : Int32).toInt = (10 : Int) by decide) z29 h30
          refine lv_iconst (v := 1) hx hb dX13_number_186 (by decide) ?_
          exact W.iret (v := 1) hx hb hr (fun t ht9 hW => ⟨⟨1, v, rfl, ⟨(FH.rf _), ⟨zsz, ztk, za, zd, (Or.inl ⟨z2, tn, lb, exL125, f1L125, f2L125, r5, ex3, c3, r8, ex6, ⟨b6, i6⟩, (Or.inr (⟨z25, z28, z31, rfl, rfl⟩))⟩)⟩, (show (1 : Int) ≤ 1 ∨ (pa.toInt + 1 ≤ ((v.1 8) (v.1 0 5).toNatClampNeg).toInt ∧ ((v.1 8) (v.1 0 5).toNatClampNeg).toInt ≤ (v.1 0 4).toInt) from om_abc8d05dfe), a8⟩, by rw [ht9]; exact hP, hD⟩, hS.F ht9⟩) hS.2.2 dX13_number_187
        · have z32 : (tn.toInt - pa.toInt) ≤ (10 : Int) := nlt_z (show (10 : Int32).toInt = (10 : Int) by decide) z29 h30
          exact False.elim (om_f87a774cb7 z28 z32)
      · have z33 : (tn.toInt - pa.toInt) < (11 : Int) := nle_z (show (11 : Int32).toInt = (11 : Int) by decide) z26 h27
        refine lv_ldc2 (v := 10) hx hb hown (ht _ tw_288) dX13_number_144 ?_
        refine lv_lload_n hx hb dX13_number_147 rfl (lv_at hl 0 rfl) ?_
        refine lv_lmul hx hb dX13_number_148 ?_
        refine lv_aload_n hx hb dX13_number_149 rfl (lv_at hl 2 rfl) ?_
        refine lv_iload_n hx hb dX13_number_150 rfl (lv_at hl 1 rfl) ?_
        refine cu_i (rn_V (n := 1) (As := [.int tn]) (rest := [.long (10 * lb)]) hx hb hml hown ht hKK hFx hP hD hS hA (c_m_at2 l dC dI cI cB cZ cJ cR tb H.size ad N v tn (show 0 ≤ (v.1 0 4).toInt ∧ (v.1 0 4).toInt ≤ 4000 from (om_c474bb42ef zsz za)) (show 0 ≤ tn.toInt from (om_4eb569b42b za f1L125))) tw_284 tw_285 (by decide +kernel) rfl rfl ⟨Nat.le_of_ble_eq_true rfl, Nat.le_of_ble_eq_true rfl⟩ (List.range (mW ad N cI cZ cJ v).length) (rg_map _) (mW_nd _ _ _ _ _ _) rfl rfl rfl rfl hl.1 rfl (Nat.le_of_ble_eq_true rfl) dX13_number_151 ⟨Nat.le_of_ble_eq_true rfl, Nat.le_of_ble_eq_true rfl⟩) hP hD hS hA (fun r36 u35 H locs hw34 hP hD hS => ?_)
        obtain ⟨rfl, ex34, c34⟩ := hw34
        refine W.widen (k := 0) (n := 0) (Nat.le_refl _) (Nat.le_refl _) ?_
        refine lv_i2l hx hb dX13_number_154 rfl ?_
        refine lv_ladd hx hb dX13_number_155 ?_
        refine lv_ldc2 (v := 48) hx hb hown (ht _ tw_289) dX13_number_156 ?_
        refine lv_lsub hx hb dX13_number_159 ?_
        refine lv_lstore_n (lv' := [(3, .long (((10 * lb) + (r36).toInt64) - 48)), (2, .int tn), (0, .ref (ad 0)), (1, .int pa)]) hx hb dX13_number_160 rfl hl (by decide) rfl (fun ls hl => ?_)
        refine lv_iinc (v := (tn + (1 : Int32))) (lv' := [(2, .int (tn + (1 : Int32))), (3, .long (((10 * lb) + (r36).toInt64) - 48)), (0, .ref (ad 0)), (1, .int pa)]) hx hb dX13_number_161 hl (k := 1) rfl (rfl) (by decide) rfl (fun ls hl => ?_)
        have z37 : (tn + (1 : Int32)).toInt = tn.toInt + (1 : Int) := add_z rfl (show (1 : Int32).toInt = (1 : Int) by decide) (om_934bac2eaa za f1L125) (om_f97b10b697 zsz f1L125)
        refine lv_goto (tgt := 125) hx hb dX13_number_164 (by decide) ?_
        exact ih125 ((tn + (1 : Int32)), (((10 * lb) + (r36).toInt64) - 48)) _ _ _ (show (pa.toInt + 11 - (tn + (1 : Int32)).toInt).toNat < (pa.toInt + 11 - tn.toInt).toNat from tn_z (om_1e4137d197 z37) (om_eef72cce01 z33)) ⟨(show pa.toInt ≤ (tn + (1 : Int32)).toInt ∧ (tn + (1 : Int32)).toInt ≤ pa.toInt + 11 ∧ (tn + (1 : Int32)).toInt ≤ (v.1 0 4).toInt from (om_9eb72a1413 f1L125 c3 i6 z25 z33 z37)), (show (tn + (1 : Int32)).toInt ≠ pa.toInt ∨ (48 ≤ ((v.1 3) (tn + (1 : Int32)).toNatClampNeg).toInt ∧ ((v.1 3) (tn + (1 : Int32)).toNatClampNeg).toInt ≤ 57) from (om_153b0f0a88 f1L125 z37)), (RT.st exL125 ⟨f1L125, f2L125, r5, ex3, c3, r8, ex6, ⟨b6, i6⟩, z25, z33, r36, ex34, c34, rfl⟩), hP, hD, hS, lv_sub hl [1, 0, 2, 3] rfl⟩
  · have z38 : ((v.1 3) pa.toNatClampNeg).toInt = (48 : Int) := eq_z rfl (show (48 : Int32).toInt = (48 : Int) by decide) h1
    refine lv_aload_n hx hb dX13_number_15 rfl (lv_at hl 2 rfl) ?_
    refine lv_iload_n hx hb dX13_number_16 rfl (lv_at hl 3 rfl) ?_
    refine lv_iconst (v := 1) hx hb dX13_number_17 (by decide) ?_
    refine lv_iadd hx hb dX13_number_18 ?_
    have z39 : (pa + (1 : Int32)).toInt = pa.toInt + (1 : Int) := add_z rfl (show (1 : Int32).toInt = (1 : Int) by decide) (om_a667b4732c za) (om_5aad37c20a zsz za)
    refine cu_i (rn_V (n := 1) (As := [.int (pa + (1 : Int32))]) (rest := []) hx hb hml hown ht hKK hFx hP hD hS hA (c_m_at2 l dC dI cI cB cZ cJ cR tb s.heap.size ad N v (pa + (1 : Int32)) (show 0 ≤ (v.1 0 4).toInt ∧ (v.1 0 4).toInt ≤ 4000 from (om_c474bb42ef zsz za)) (show 0 ≤ (pa + (1 : Int32)).toInt from (om_b1ecbdfeb5 za z39))) tw_284 tw_285 (by decide +kernel) rfl rfl ⟨Nat.le_of_ble_eq_true rfl, Nat.le_of_ble_eq_true rfl⟩ (List.range (mW ad N cI cZ cJ v).length) (rg_map _) (mW_nd _ _ _ _ _ _) rfl rfl rfl rfl hl.1 rfl (Nat.le_of_ble_eq_true rfl) dX13_number_19 ⟨Nat.le_of_ble_eq_true rfl, Nat.le_of_ble_eq_true rfl⟩) hP hD hS hA (fun r42 u41 H locs hw40 hP hD hS => ?_)
    obtain ⟨rfl, ex40, c40⟩ := hw40
    refine W.widen (k := 0) (n := 0) (Nat.le_refl _) (Nat.le_refl _) ?_
    refine lv_bipush (v := 120) hx hb dX13_number_22 (by decide) ?_
    refine lv_icmp_ne (tgt := 125) hx hb dX13_number_24 (by decide) (fun h43 => ?_) (fun h43 => ?_)
    · have z44 : r42.toInt ≠ (120 : Int) := ne_z rfl (show (120 : Int32).toInt = (120 : Int) by decide) h43
      refine lpm_ (X := Int32 × Int64) (P := (fun (x9 : Int32 × Int64) (H : Heap) (locs : List Loc) (ls : Array Slot) => (pa.toInt ≤ x9.1.toInt ∧ x9.1.toInt ≤ pa.toInt + 11 ∧ x9.1.toInt ≤ (v.1 0 4).toInt) ∧ (x9.1.toInt ≠ pa.toInt ∨ (48 ≤ ((v.1 3) x9.1.toNatClampNeg).toInt ∧ ((v.1 3) x9.1.toNatClampNeg).toInt ≤ 57)) ∧ (RT (Q_m_number_L1 v pa) (pa, 0) (x9.1, x9.2)) ∧ va_P (dC, dI) vwCl (mW ad N cI cZ cJ v) H ∧ va_D A (mW ad N cI cZ cJ v) ∧ va_S A s.heap H locs ∧ lv_has ls 5 [(3, .long x9.2), (2, .int x9.1), (0, .ref (ad 0)), (1, .int pa)])) (fun x9 => (pa.toInt + 11 - x9.1.toInt).toNat) 125 (fun x9 H locs ls hh ih125 => ?_) (pa, 0) _ _ _ ⟨(show pa.toInt ≤ pa.toInt ∧ pa.toInt ≤ pa.toInt + 11 ∧ pa.toInt ≤ (v.1 0 4).toInt from (om_a46f03812c za)), (show pa.toInt ≠ pa.toInt ∨ (48 ≤ ((v.1 3) pa.toNatClampNeg).toInt ∧ ((v.1 3) pa.toNatClampNeg).toInt ≤ 57) from (om_f6dccacb79 zd z38)), RT.rf, hP, hD, hS, lv_sub hl [0, 1, 2, 3] rfl⟩
      obtain ⟨tn, lb⟩ := x9
      obtain ⟨f1L125, f2L125, exL125, hP, hD, hS, hl⟩ := hh
      have f1L125 : pa.toInt ≤ tn.toInt ∧ tn.toInt ≤ pa.toInt + 11 ∧ tn.toInt ≤ (v.1 0 4).toInt := f1L125
      have f2L125 : tn.toInt ≠ pa.toInt ∨ (48 ≤ ((v.1 3) tn.toNatClampNeg).toInt ∧ ((v.1 3) tn.toNatClampNeg).toInt ≤ 57) := f2L125
      have hl : lv_has ls 5 [(3, .long lb), (2, .int tn), (0, .ref (ad 0)), (1, .int pa)] := hl
      refine lv_aload_n hx hb dX13_number_125 rfl (lv_at hl 2 rfl) ?_
      refine lv_iload_n hx hb dX13_number_126 rfl (lv_at hl 1 rfl) ?_
      refine cu_i (rn_V (n := 1) (As := [.int tn]) (rest := []) hx hb hml hown ht hKK hFx hP hD hS hA (c_m_at2 l dC dI cI cB cZ cJ cR tb H.size ad N v tn (show 0 ≤ (v.1 0 4).toInt ∧ (v.1 0 4).toInt ≤ 4000 from (om_c474bb42ef zsz za)) (show 0 ≤ tn.toInt from (om_4eb569b42b za f1L125))) tw_284 tw_285 (by decide +kernel) rfl rfl ⟨Nat.le_of_ble_eq_true rfl, Nat.le_of_ble_eq_true rfl⟩ (List.range (mW ad N cI cZ cJ v).length) (rg_map _) (mW_nd _ _ _ _ _ _) rfl rfl rfl rfl hl.1 rfl (Nat.le_of_ble_eq_true rfl) dX13_number_127 ⟨Nat.le_of_ble_eq_true rfl, Nat.le_of_ble_eq_true rfl⟩) hP hD hS hA (fun r47 u46 H locs hw45 hP hD hS => ?_)
      obtain ⟨rfl, ex45, c45⟩ := hw45
      refine W.widen (k := 0) (n := 0) (Nat.le_refl _) (Nat.le_refl _) ?_
      refine cu_s (mW_nd _ _ _ _ _ _) (rn_S (n := 1) (As := [.int r47]) (rest := []) hx hb hml hown ht hKK hFx hP hD hS hA (c_m_isDigit2 l dC dI cI cB cZ cJ cR tb H.size r47 ) tw_4 tw_5 (by decide +kernel) rfl rfl ⟨Nat.le_of_ble_eq_true rfl, Nat.le_of_ble_eq_true rfl⟩ [] rfl rfl rfl hl.1 rfl (Nat.le_of_ble_eq_true rfl) dX13_number_130 ⟨Nat.le_of_ble_eq_true rfl, Nat.le_of_ble_eq_true rfl⟩) hP hD hS hA (fun r50 H locs hw48 hP hD hS => ?_)
      obtain ⟨ex48, b48, i48⟩ := hw48
      refine W.widen (k := 0) (n := 0) (Nat.le_refl _) (Nat.le_refl _) ?_
      refine lv_if_eq (tgt := 167) hx hb dX13_number_133 (by decide) (fun h51 => ?_) (fun h51 => ?_)
      · have z52 : r50.toInt = (0 : Int) := eq_z rfl (show (0 : Int32).toInt = (0 : Int) by decide) h51
        refine lv_iload_n hx hb dX13_number_167 rfl (lv_at hl 1 rfl) ?_
        refine lv_iload_n hx hb dX13_number_168 rfl (lv_at hl 3 rfl) ?_
        refine lv_isub hx hb dX13_number_169 ?_
        have z53 : (tn - pa).toInt = tn.toInt - pa.toInt := sub_z rfl rfl (om_b4cbb4aa2b f1L125) (om_c5d95811ea f1L125)
        refine lv_bipush (v := 10) hx hb dX13_number_170 (by decide) ?_
        refine lv_icmp_gt (tgt := 186) hx hb dX13_number_172 (by decide) (fun h54 => ?_) (fun h54 => ?_)
        · have z55 : (10 : Int) < (tn.toInt - pa.toInt) := lt_z (show (10 : Int32).toInt = (10 : Int) by decide) z53 h54
          refine lv_iconst (v := 1) hx hb dX13_number_186 (by decide) ?_
          exact W.iret (v := 1) hx hb hr (fun t ht9 hW => ⟨⟨1, v, rfl, ⟨(FH.rf _), ⟨zsz, ztk, za, zd, (Or.inr (⟨z38, r42, ex40, c40, (Or.inl ⟨z44, tn, lb, exL125, f1L125, f2L125, r47, ex45, c45, r50, ex48, ⟨b48, i48⟩, (Or.inl ⟨z52, (Or.inl ⟨z55, rfl, rfl⟩)⟩)⟩)⟩))⟩, (show (1 : Int) ≤ 1 ∨ (pa.toInt + 1 ≤ ((v.1 8) (v.1 0 5).toNatClampNeg).toInt ∧ ((v.1 8) (v.1 0 5).toNatClampNeg).toInt ≤ (v.1 0 4).toInt) from om_abc8d05dfe), a8⟩, by rw [ht9]; exact hP, hD⟩, hS.F ht9⟩) hS.2.2 dX13_number_187
        · have z56 : (tn.toInt - pa.toInt) ≤ (10 : Int) := nlt_z (show (10 : Int32).toInt = (10 : Int) by decide) z53 h54
          refine lv_aload_n hx hb dX13_number_175 rfl (lv_at hl 2 rfl) ?_
          refine lv_iload_n hx hb dX13_number_176 rfl (lv_at hl 1 rfl) ?_
          refine cu_i (rn_V (n := 1) (As := [.int tn]) (rest := []) hx hb hml hown ht hKK hFx hP hD hS hA (c_m_at2 l dC dI cI cB cZ cJ cR tb H.size ad N v tn (show 0 ≤ (v.1 0 4).toInt ∧ (v.1 0 4).toInt ≤ 4000 from (om_c474bb42ef zsz za)) (show 0 ≤ tn.toInt from (om_4eb569b42b za f1L125))) tw_284 tw_285 (by decide +kernel) rfl rfl ⟨Nat.le_of_ble_eq_true rfl, Nat.le_of_ble_eq_true rfl⟩ (List.range (mW ad N cI cZ cJ v).length) (rg_map _) (mW_nd _ _ _ _ _ _) rfl rfl rfl rfl hl.1 rfl (Nat.le_of_ble_eq_true rfl) dX13_number_177 ⟨Nat.le_of_ble_eq_true rfl, Nat.le_of_ble_eq_true rfl⟩) hP hD hS hA (fun r59 u58 H locs hw57 hP hD hS => ?_)
          obtain ⟨rfl, ex57, c57⟩ := hw57
          refine W.widen (k := 0) (n := 0) (Nat.le_refl _) (Nat.le_refl _) ?_
          refine cu_s (mW_nd _ _ _ _ _ _) (rn_S (n := 1) (As := [.int r59]) (rest := []) hx hb hml hown ht hKK hFx hP hD hS hA (c_m_isOfName2 l dC dI cI cB cZ cJ cR tb H.size r59 ) tw_286 tw_287 (by decide +kernel) rfl rfl ⟨Nat.le_of_ble_eq_true rfl, Nat.le_of_ble_eq_true rfl⟩ [] rfl rfl rfl hl.1 rfl (Nat.le_of_ble_eq_true rfl) dX13_number_180 ⟨Nat.le_of_ble_eq_true rfl, Nat.le_of_ble_eq_true rfl⟩) hP hD hS hA (fun r62 H locs hw60 hP hD hS => ?_)
          obtain ⟨ex60, b60, i60⟩ := hw60
          refine W.widen (k := 0) (n := 0) (Nat.le_refl _) (Nat.le_refl _) ?_
          refine lv_if_eq (tgt := 188) hx hb dX13_number_183 (by decide) (fun h63 => ?_) (fun h63 => ?_)
          · have z64 : r62.toInt = (0 : Int) := eq_z rfl (show (0 : Int32).toInt = (0 : Int) by decide) h63
            refine lv_aload_n hx hb dX13_number_188 rfl (lv_at hl 2 rfl) ?_
            refine va_get (D := (dC, dI)) (ci := 16) (fs := mF ad v) (v := .ref (ad 10)) (C := RX13) (T := TX13) (N := 124) hx hb ht itX13 hown hK hP 0 rfl rfl 10 (by decide) (ht _ tw_110) (fun _ h9 => h9) rfl dX13_number_189 ?_
            refine lv_aload_n hx hb dX13_number_192 rfl (lv_at hl 2 rfl) ?_
            refine va_get (D := (dC, dI)) (ci := 16) (fs := mF ad v) (v := .int (v.1 0 5)) (C := RX13) (T := TX13) (N := 124) hx hb ht itX13 hown hK hP 0 rfl rfl 5 (by decide) (ht _ tw_283) (fun _ h9 => h9) rfl dX13_number_193 ?_
            refine lv_iconst (v := 1) hx hb dX13_number_196 (by decide) ?_
            refine va_zast (D := (dC, dI)) (f := (v.1 10)) hx hb hK hP hD hS 7 2 rfl rfl (in_y (a := (v.1 0 5).toInt) (b := 4002) rfl (om_68cc9dfc8a ztk) (om_d067f7e614 ztk) rfl) dX13_number_197 (fun H locs hP hD hS => ?_)
            have hP := cP_ (ma_10 ad N cI cZ cJ v ((v.1 0 5).toNatClampNeg) (vp_nar .boolean (1 : Int32))) hP
            have hD := cD_ (ma_10 ad N cI cZ cJ v ((v.1 0 5).toNatClampNeg) (vp_nar .boolean (1 : Int32))) hD
            refine lv_aload_n hx hb dX13_number_198 rfl (lv_at hl 2 rfl) ?_
            refine va_get (D := (dC, dI)) (ci := 16) (fs := mF ad (wA v 10 ((v.1 0 5).toNatClampNeg) (vp_nar .boolean (1 : Int32)))) (v := .ref (ad 9)) (C := RX13) (T := TX13) (N := 124) hx hb ht itX13 hown hK hP 0 rfl rfl 9 (by decide) (ht _ tw_27) (fun _ h9 => h9) rfl dX13_number_199 ?_
            refine lv_aload_n hx hb dX13_number_202 rfl (lv_at hl 2 rfl) ?_
            refine va_get (D := (dC, dI)) (ci := 16) (fs := mF ad (wA v 10 ((v.1 0 5).toNatClampNeg) (vp_nar .boolean (1 : Int32)))) (v := .int (v.1 0 5)) (C := RX13) (T := TX13) (N := 124) hx hb ht itX13 hown hK hP 0 rfl rfl 5 (by decide) (ht _ tw_283) (fun _ h9 => h9) rfl dX13_number_203 ?_
            refine lv_lload_n hx hb dX13_number_206 rfl (lv_at hl 0 rfl) ?_
            refine va_last (D := (dC, dI)) (f := v.2) hx hb hK hP hD hS 6 3 rfl rfl (in_y (a := (v.1 0 5).toInt) (b := 4002) rfl (om_68cc9dfc8a ztk) (om_d067f7e614 ztk) rfl) dX13_number_207 (fun H locs hP hD hS => ?_)
            have hP := cP_ (ma_9 ad N cI cZ cJ (wA v 10 ((v.1 0 5).toNatClampNeg) (vp_nar .boolean (1 : Int32))) ((v.1 0 5).toNatClampNeg) lb) hP
            have hD := cD_ (ma_9 ad N cI cZ cJ (wA v 10 ((v.1 0 5).toNatClampNeg) (vp_nar .boolean (1 : Int32))) ((v.1 0 5).toNatClampNeg) lb) hD
            refine lv_aload_n hx hb dX13_number_208 rfl (lv_at hl 2 rfl) ?_
            refine va_get (D := (dC, dI)) (ci := 16) (fs := mF ad (wL (wA v 10 ((v.1 0 5).toNatClampNeg) (vp_nar .boolean (1 : Int32))) ((v.1 0 5).toNatClampNeg) lb)) (v := .ref (ad 8)) (C := RX13) (T := TX13) (N := 124) hx hb ht itX13 hown hK hP 0 rfl rfl 8 (by decide) (ht _ tw_42) (fun _ h9 => h9) rfl dX13_number_209 ?_
            refine lv_aload_n hx hb dX13_number_212 rfl (lv_at hl 2 rfl) ?_
            refine va_get (D := (dC, dI)) (ci := 16) (fs := mF ad (wL (wA v 10 ((v.1 0 5).toNatClampNeg) (vp_nar .boolean (1 : Int32))) ((v.1 0 5).toNatClampNeg) lb)) (v := .int (v.1 0 5)) (C := RX13) (T := TX13) (N := 124) hx hb ht itX13 hown hK hP 0 rfl rfl 5 (by decide) (ht _ tw_283) (fun _ h9 => h9) rfl dX13_number_213 ?_
            refine lv_iload_n hx hb dX13_number_216 rfl (lv_at hl 1 rfl) ?_
            refine va_iast (D := (dC, dI)) (f := (v.1 8)) hx hb hK hP hD hS 5 0 rfl rfl (in_y (a := (v.1 0 5).toInt) (b := 4002) rfl (om_68cc9dfc8a ztk) (om_d067f7e614 ztk) rfl) dX13_number_217 (fun H locs hP hD hS => ?_)
            have hP := cP_ (ma_8 ad N cI cZ cJ (wL (wA v 10 ((v.1 0 5).toNatClampNeg) (vp_nar .boolean (1 : Int32))) ((v.1 0 5).toNatClampNeg) lb) ((v.1 0 5).toNatClampNeg) tn) hP
            have hD := cD_ (ma_8 ad N cI cZ cJ (wL (wA v 10 ((v.1 0 5).toNatClampNeg) (vp_nar .boolean (1 : Int32))) ((v.1 0 5).toNatClampNeg) lb) ((v.1 0 5).toNatClampNeg) tn) hD
            refine lv_iconst (v := 4) hx hb dX13_number_218 (by decide) ?_
            have q65 : ((upd (v.1 8) ((v.1 0 5).toNatClampNeg) tn) (v.1 0 5).toNatClampNeg).toInt = tn.toInt := congrArg Int32.toInt pk_us
            exact W.iret (v := 4) hx hb hr (fun t ht9 hW => ⟨⟨4, (wA (wL (wA v 10 ((v.1 0 5).toNatClampNeg) (vp_nar .boolean (1 : Int32))) ((v.1 0 5).toNatClampNeg) lb) 8 ((v.1 0 5).toNatClampNeg) tn), rfl, ⟨(FH.a (FH.l (FH.a (FH.rf _) ((v.1 0 5).toNatClampNeg) (vp_nar .boolean (1 : Int32)) (by decide) (by decide)) ((v.1 0 5).toNatClampNeg) lb) ((v.1 0 5).toNatClampNeg) tn (by decide) (by decide)), ⟨zsz, ztk, za, zd, (Or.inr (⟨z38, r42, ex40, c40, (Or.inl ⟨z44, tn, lb, exL125, f1L125, f2L125, r47, ex45, c45, r50, ex48, ⟨b48, i48⟩, (Or.inl ⟨z52, (Or.inr (⟨z56, r59, ex57, c57, r62, ex60, ⟨b60, i60⟩, (Or.inl ⟨z64, rfl, rfl⟩)⟩))⟩)⟩)⟩))⟩, (show (4 : Int) ≤ 1 ∨ (pa.toInt + 1 ≤ ((upd (v.1 8) ((v.1 0 5).toNatClampNeg) tn) (v.1 0 5).toNatClampNeg).toInt ∧ ((upd (v.1 8) ((v.1 0 5).toNatClampNeg) tn) (v.1 0 5).toNatClampNeg).toInt ≤ (v.1 0 4).toInt) from (om_f4399b7891 za f1L125 f2L125 c45 i48 z52 q65)), (AR.w (AR.l (AR.o a8 (by decide))) (show 0 ≤ tn.toInt ∧ tn.toInt ≤ 4000 from (om_9f3970f1f5 zsz za f1L125)))⟩, by rw [ht9]; exact hP, hD⟩, hS.F ht9⟩) hS.2.2 dX13_number_219
          · have z66 : r62.toInt ≠ (0 : Int) := ne_z rfl (show (0 : Int32).toInt = (0 : Int) by decide) h63
            refine lv_iconst (v := 1) hx hb dX13_number_186 (by decide) ?_
            exact W.iret (v := 1) hx hb hr (fun t ht9 hW => ⟨⟨1, v, rfl, ⟨(FH.rf _), ⟨zsz, ztk, za, zd, (Or.inr (⟨z38, r42, ex40, c40, (Or.inl ⟨z44, tn, lb, exL125, f1L125, f2L125, r47, ex45, c45, r50, ex48, ⟨b48, i48⟩, (Or.inl ⟨z52, (Or.inr (⟨z56, r59, ex57, c57, r62, ex60, ⟨b60, i60⟩, (Or.inr (⟨z66, rfl, rfl⟩))⟩))⟩)⟩)⟩))⟩, (show (1 : Int) ≤ 1 ∨ (pa.toInt + 1 ≤ ((v.1 8) (v.1 0 5).toNatClampNeg).toInt ∧ ((v.1 8) (v.1 0 5).toNatClampNeg).toInt ≤ (v.1 0 4).toInt) from om_abc8d05dfe), a8⟩, by rw [ht9]; exact hP, hD⟩, hS.F ht9⟩) hS.2.2 dX13_number_187
      · have z67 : r50.toInt ≠ (0 : Int) := ne_z rfl (show (0 : Int32).toInt = (0 : Int) by decide) h51
        refine lv_iload_n hx hb dX13_number_136 rfl (lv_at hl 1 rfl) ?_
        refine lv_iload_n hx hb dX13_number_137 rfl (lv_at hl 3 rfl) ?_
        refine lv_isub hx hb dX13_number_138 ?_
        have z68 : (tn - pa).toInt = tn.toInt - pa.toInt := sub_z rfl rfl (om_b4cbb4aa2b f1L125) (om_c5d95811ea f1L125)
        refine lv_bipush (v := 11) hx hb dX13_number_139 (by decide) ?_
        refine lv_icmp_ge (tgt := 167) hx hb dX13_number_141 (by decide) (fun h69 => ?_) (fun h69 => ?_)
        · have z70 : (11 : Int) ≤ (tn.toInt - pa.toInt) := le_z (show (11 : Int32).toInt = (11 : Int) by decide) z68 h69
          refine lv_iload_n hx hb dX13_number_167 rfl (lv_at hl 1 rfl) ?_
          refine lv_iload_n hx hb dX13_number_168 rfl (lv_at hl 3 rfl) ?_
          refine lv_isub hx hb dX13_number_169 ?_
          have z71 : (tn - pa).toInt = tn.toInt - pa.toInt := sub_z rfl rfl (om_2b87288d31 z70) (om_c5d95811ea f1L125)
          refine lv_bipush (v := 10) hx hb dX13_number_170 (by decide) ?_
          refine lv_icmp_gt (tgt := 186) hx hb dX13_number_172 (by decide) (fun h72 => ?_) (fun h72 => ?_)
          · have z73 : (10 : Int) < (tn.toInt - pa.toInt) := lt_z (show (10 : Int32).toInt = (10 : Int) by decide) z71 h72
            refine lv_iconst (v := 1) hx hb dX13_number_186 (by decide) ?_
            exact W.iret (v := 1) hx hb hr (fun t ht9 hW => ⟨⟨1, v, rfl, ⟨(FH.rf _), ⟨zsz, ztk, za, zd, (Or.inr (⟨z38, r42, ex40, c40, (Or.inl ⟨z44, tn, lb, exL125, f1L125, f2L125, r47, ex45, c45, r50, ex48, ⟨b48, i48⟩, (Or.inr (⟨z67, z70, z73, rfl, rfl⟩))⟩)⟩))⟩, (show (1 : Int) ≤ 1 ∨ (pa.toInt + 1 ≤ ((v.1 8) (v.1 0 5).toNatClampNeg).toInt ∧ ((v.1 8) (v.1 0 5).toNatClampNeg).toInt ≤ (v.1 0 4).toInt) from om_abc8d05dfe), a8⟩, by rw [ht9]; exact hP, hD⟩, hS.F ht9⟩) hS.2.2 dX13_number_187
          · have z74 : (tn.toInt - pa.toInt) ≤ (10 : Int) := nlt_z (show (10 : Int32).toInt = (10 : Int) by decide) z71 h72
            exact False.elim (om_f87a774cb7 z70 z74)
        · have z75 : (tn.toInt - pa.toInt) < (11 : Int) := nle_z (show (11 : Int32).toInt = (11 : Int) by decide) z68 h69
          refine lv_ldc2 (v := 10) hx hb hown (ht _ tw_288) dX13_number_144 ?_
          refine lv_lload_n hx hb dX13_number_147 rfl (lv_at hl 0 rfl) ?_
          refine lv_lmul hx hb dX13_number_148 ?_
          refine lv_aload_n hx hb dX13_number_149 rfl (lv_at hl 2 rfl) ?_
          refine lv_iload_n hx hb dX13_number_150 rfl (lv_at hl 1 rfl) ?_
          refine cu_i (rn_V (n := 1) (As := [.int tn]) (rest := [.long (10 * lb)]) hx hb hml hown ht hKK hFx hP hD hS hA (c_m_at2 l dC dI cI cB cZ cJ cR tb H.size ad N v tn (show 0 ≤ (v.1 0 4).toInt ∧ (v.1 0 4).toInt ≤ 4000 from (om_c474bb42ef zsz za)) (show 0 ≤ tn.toInt from (om_4eb569b42b za f1L125))) tw_284 tw_285 (by decide +kernel) rfl rfl ⟨Nat.le_of_ble_eq_true rfl, Nat.le_of_ble_eq_true rfl⟩ (List.range (mW ad N cI cZ cJ v).length) (rg_map _) (mW_nd _ _ _ _ _ _) rfl rfl rfl rfl hl.1 rfl (Nat.le_of_ble_eq_true rfl) dX13_number_151 ⟨Nat.le_of_ble_eq_true rfl, Nat.le_of_ble_eq_true rfl⟩) hP hD hS hA (fun r78 u77 H locs hw76 hP hD hS => ?_)
          obtain ⟨rfl, ex76, c76⟩ := hw76
          refine W.widen (k := 0) (n := 0) (Nat.le_refl _) (Nat.le_refl _) ?_
          refine lv_i2l hx hb dX13_number_154 rfl ?_
          refine lv_ladd hx hb dX13_number_155 ?_
          refine lv_ldc2 (v := 48) hx hb hown (ht _ tw_289) dX13_number_156 ?_
          refine lv_lsub hx hb dX13_number_159 ?_
          refine lv_lstore_n (lv' := [(3, .long (((10 * lb) + (r78).toInt64) - 48)), (2, .int tn), (0, .ref (ad 0)), (1, .int pa)]) hx hb dX13_number_160 rfl hl (by decide) rfl (fun ls hl => ?_)
          refine lv_iinc (v := (tn + (1 : Int32))) (lv' := [(2, .int (tn + (1 : Int32))), (3, .long (((10 * lb) + (r78).toInt64) - 48)), (0, .ref (ad 0)), (1, .int pa)]) hx hb dX13_number_161 hl (k := 1) rfl (rfl) (by decide) rfl (fun ls hl => ?_)
          have z79 : (tn + (1 : Int32)).toInt = tn.toInt + (1 : Int) := add_z rfl (show (1 : Int32).toInt = (1 : Int) by decide) (om_934bac2eaa za f1L125) (om_f97b10b697 zsz f1L125)
          refine lv_goto (tgt := 125) hx hb dX13_number_164 (by decide) ?_
          exact ih125 ((tn + (1 : Int32)), (((10 * lb) + (r78).toInt64) - 48)) _ _ _ (show (pa.toInt + 11 - (tn + (1 : Int32)).toInt).toNat < (pa.toInt + 11 - tn.toInt).toNat from tn_z (om_1e4137d197 z79) (om_eef72cce01 z75)) ⟨(show pa.toInt ≤ (tn + (1 : Int32)).toInt ∧ (tn + (1 : Int32)).toInt ≤ pa.toInt + 11 ∧ (tn + (1 : Int32)).toInt ≤ (v.1 0 4).toInt from (om_9eb72a1413 f1L125 c45 i48 z67 z75 z79)), (show (tn + (1 : Int32)).toInt ≠ pa.toInt ∨ (48 ≤ ((v.1 3) (tn + (1 : Int32)).toNatClampNeg).toInt ∧ ((v.1 3) (tn + (1 : Int32)).toNatClampNeg).toInt ≤ 57) from (om_153b0f0a88 f1L125 z79)), (RT.st exL125 ⟨f1L125, f2L125, r47, ex45, c45, r50, ex48, ⟨b48, i48⟩, z67, z75, r78, ex76, c76, rfl⟩), hP, hD, hS, lv_sub hl [1, 0, 2, 3] rfl⟩
    · have z80 : r42.toInt = (120 : Int) := eq_z rfl (show (120 : Int32).toInt = (120 : Int) by decide) h43
      refine lv_iload_n hx hb dX13_number_27 rfl (lv_at hl 3 rfl) ?_
      refine lv_iconst (v := 2) hx hb dX13_number_28 (by decide) ?_
      refine lv_iadd hx hb dX13_number_29 ?_
      have z81 : (pa + (2 : Int32)).toInt = pa.toInt + (2 : Int) := add_z rfl (show (2 : Int32).toInt = (2 : Int) by decide) (om_cadcd0ac59 za) (om_4a6167ded1 zsz za)
      refine lv_istore_n (lv' := [(2, .int (pa + (2 : Int32))), (3, .long 0), (0, .ref (ad 0)), (1, .int pa)]) hx hb dX13_number_30 rfl hl (by decide) rfl (fun ls hl => ?_)
      refine lpm_ (X := Int32 × Int64) (P := (fun (x9 : Int32 × Int64) (H : Heap) (locs : List Loc) (ls : Array Slot) => (pa.toInt + 2 ≤ x9.1.toInt ∧ x9.1.toInt ≤ pa.toInt + 11 ∧ (x9.1.toInt ≤ (v.1 0 4).toInt ∨ x9.1.toInt = pa.toInt + 2)) ∧ (RT (Q_m_number_L2 v pa) ((pa + (2 : Int32)), 0) (x9.1, x9.2)) ∧ va_P (dC, dI) vwCl (mW ad N cI cZ cJ v) H ∧ va_D A (mW ad N cI cZ cJ v) ∧ va_S A s.heap H locs ∧ lv_has ls 5 [(2, .int x9.1), (3, .long x9.2), (0, .ref (ad 0)), (1, .int pa)])) (fun x9 => (pa.toInt + 11 - x9.1.toInt).toNat) 31 (fun x9 H locs ls hh ih31 => ?_) ((pa + (2 : Int32)), 0) _ _ _ ⟨(show pa.toInt + 2 ≤ (pa + (2 : Int32)).toInt ∧ (pa + (2 : Int32)).toInt ≤ pa.toInt + 11 ∧ ((pa + (2 : Int32)).toInt ≤ (v.1 0 4).toInt ∨ (pa + (2 : Int32)).toInt = pa.toInt + 2) from (om_e15ba9a4f9 z81)), RT.rf, hP, hD, hS, lv_sub hl [0, 1, 2, 3] rfl⟩
      obtain ⟨to, la⟩ := x9
      obtain ⟨f1L31, exL31, hP, hD, hS, hl⟩ := hh
      have f1L31 : pa.toInt + 2 ≤ to.toInt ∧ to.toInt ≤ pa.toInt + 11 ∧ (to.toInt ≤ (v.1 0 4).toInt ∨ to.toInt = pa.toInt + 2) := f1L31
      have hl : lv_has ls 5 [(2, .int to), (3, .long la), (0, .ref (ad 0)), (1, .int pa)] := hl
      refine lv_aload_n hx hb dX13_number_31 rfl (lv_at hl 2 rfl) ?_
      refine lv_iload_n hx hb dX13_number_32 rfl (lv_at hl 0 rfl) ?_
      refine cu_i (rn_V (n := 1) (As := [.int to]) (rest := []) hx hb hml hown ht hKK hFx hP hD hS hA (c_m_at2 l dC dI cI cB cZ cJ cR tb H.size ad N v to (show 0 ≤ (v.1 0 4).toInt ∧ (v.1 0 4).toInt ≤ 4000 from (om_c474bb42ef zsz za)) (show 0 ≤ to.toInt from (om_39e53562b6 za f1L31))) tw_284 tw_285 (by decide +kernel) rfl rfl ⟨Nat.le_of_ble_eq_true rfl, Nat.le_of_ble_eq_true rfl⟩ (List.range (mW ad N cI cZ cJ v).length) (rg_map _) (mW_nd _ _ _ _ _ _) rfl rfl rfl rfl hl.1 rfl (Nat.le_of_ble_eq_true rfl) dX13_number_33 ⟨Nat.le_of_ble_eq_true rfl, Nat.le_of_ble_eq_true rfl⟩) hP hD hS hA (fun r84 u83 H locs hw82 hP hD hS => ?_)
      obtain ⟨rfl, ex82, c82⟩ := hw82
      refine W.widen (k := 0) (n := 0) (Nat.le_refl _) (Nat.le_refl _) ?_
      refine cu_s (mW_nd _ _ _ _ _ _) (rn_S (n := 1) (As := [.int r84]) (rest := []) hx hb hml hown ht hKK hFx hP hD hS hA (c_m_hex l dC dI cI cB cZ cJ cR tb H.size r84 ) tw_290 tw_291 (by decide +kernel) rfl rfl ⟨Nat.le_of_ble_eq_true rfl, Nat.le_of_ble_eq_true rfl⟩ [] rfl rfl rfl hl.1 rfl (Nat.le_of_ble_eq_true rfl) dX13_number_36 ⟨Nat.le_of_ble_eq_true rfl, Nat.le_of_ble_eq_true rfl⟩) hP hD hS hA (fun r87 H locs hw85 hP hD hS => ?_)
      obtain ⟨ex85, c85⟩ := hw85
      refine W.widen (k := 0) (n := 0) (Nat.le_refl _) (Nat.le_refl _) ?_
      refine lv_if_lt (tgt := 72) hx hb dX13_number_39 (by decide) (fun h88 => ?_) (fun h88 => ?_)
      · have z89 : r87.toInt < (0 : Int) := lt_z rfl (show (0 : Int32).toInt = (0 : Int) by decide) h88
        refine lv_iload_n hx hb dX13_number_72 rfl (lv_at hl 0 rfl) ?_
        refine lv_iload_n hx hb dX13_number_73 rfl (lv_at hl 3 rfl) ?_
        refine lv_iconst (v := 2) hx hb dX13_number_74 (by decide) ?_
        refine lv_iadd hx hb dX13_number_75 ?_
        have z90 : (pa + (2 : Int32)).toInt = pa.toInt + (2 : Int) := add_z rfl (show (2 : Int32).toInt = (2 : Int) by decide) (om_cadcd0ac59 za) (om_4a6167ded1 zsz za)
        refine lv_icmp_eq (tgt := 98) hx hb dX13_number_76 (by decide) (fun h91 => ?_) (fun h91 => ?_)
        · have z92 : to.toInt = (pa.toInt + (2 : Int)) := eq_z rfl z90 h91
          refine lv_iconst (v := 1) hx hb dX13_number_98 (by decide) ?_
          exact W.iret (v := 1) hx hb hr (fun t ht9 hW => ⟨⟨1, v, rfl, ⟨(FH.rf _), ⟨zsz, ztk, za, zd, (Or.inr (⟨z38, r42, ex40, c40, (Or.inr (⟨z80, to, la, exL31, f1L31, r84, ex82, c82, r87, ex85, c85, (Or.inl ⟨z89, (Or.inl ⟨z92, rfl, rfl⟩)⟩)⟩))⟩))⟩, (show (1 : Int) ≤ 1 ∨ (pa.toInt + 1 ≤ ((v.1 8) (v.1 0 5).toNatClampNeg).toInt ∧ ((v.1 8) (v.1 0 5).toNatClampNeg).toInt ≤ (v.1 0 4).toInt) from om_abc8d05dfe), a8⟩, by rw [ht9]; exact hP, hD⟩, hS.F ht9⟩) hS.2.2 dX13_number_99
        · have z93 : to.toInt ≠ (pa.toInt + (2 : Int)) := ne_z rfl z90 h91
          refine lv_iload_n hx hb dX13_number_79 rfl (lv_at hl 0 rfl) ?_
          refine lv_iload_n hx hb dX13_number_80 rfl (lv_at hl 3 rfl) ?_
          refine lv_isub hx hb dX13_number_81 ?_
          have z94 : (to - pa).toInt = to.toInt - pa.toInt := sub_z rfl rfl (om_3f0fe5a586 f1L31) (om_1e220bc08f f1L31)
          refine lv_bipush (v := 10) hx hb dX13_number_82 (by decide) ?_
          refine lv_icmp_gt (tgt := 98) hx hb dX13_number_84 (by decide) (fun h95 => ?_) (fun h95 => ?_)
          · have z96 : (10 : Int) < (to.toInt - pa.toInt) := lt_z (show (10 : Int32).toInt = (10 : Int) by decide) z94 h95
            refine lv_iconst (v := 1) hx hb dX13_number_98 (by decide) ?_
            exact W.iret (v := 1) hx hb hr (fun t ht9 hW => ⟨⟨1, v, rfl, ⟨(FH.rf _), ⟨zsz, ztk, za, zd, (Or.inr (⟨z38, r42, ex40, c40, (Or.inr (⟨z80, to, la, exL31, f1L31, r84, ex82, c82, r87, ex85, c85, (Or.inl ⟨z89, (Or.inr (⟨z93, (Or.inl ⟨z96, rfl, rfl⟩)⟩))⟩)⟩))⟩))⟩, (show (1 : Int) ≤ 1 ∨ (pa.toInt + 1 ≤ ((v.1 8) (v.1 0 5).toNatClampNeg).toInt ∧ ((v.1 8) (v.1 0 5).toNatClampNeg).toInt ≤ (v.1 0 4).toInt) from om_abc8d05dfe), a8⟩, by rw [ht9]; exact hP, hD⟩, hS.F ht9⟩) hS.2.2 dX13_number_99
          · have z97 : (to.toInt - pa.toInt) ≤ (10 : Int) := nlt_z (show (10 : Int32).toInt = (10 : Int) by decide) z94 h95
            refine lv_aload_n hx hb dX13_number_87 rfl (lv_at hl 2 rfl) ?_
            refine lv_iload_n hx hb dX13_number_88 rfl (lv_at hl 0 rfl) ?_
            refine cu_i (rn_V (n := 1) (As := [.int to]) (rest := []) hx hb hml hown ht hKK hFx hP hD hS hA (c_m_at2 l dC dI cI cB cZ cJ cR tb H.size ad N v to (show 0 ≤ (v.1 0 4).toInt ∧ (v.1 0 4).toInt ≤ 4000 from (om_c474bb42ef zsz za)) (show 0 ≤ to.toInt from (om_39e53562b6 za f1L31))) tw_284 tw_285 (by decide +kernel) rfl rfl ⟨Nat.le_of_ble_eq_true rfl, Nat.le_of_ble_eq_true rfl⟩ (List.range (mW ad N cI cZ cJ v).length) (rg_map _) (mW_nd _ _ _ _ _ _) rfl rfl rfl rfl hl.1 rfl (Nat.le_of_ble_eq_true rfl) dX13_number_89 ⟨Nat.le_of_ble_eq_true rfl, Nat.le_of_ble_eq_true rfl⟩) hP hD hS hA (fun r100 u99 H locs hw98 hP hD hS => ?_)
            obtain ⟨rfl, ex98, c98⟩ := hw98
            refine W.widen (k := 0) (n := 0) (Nat.le_refl _) (Nat.le_refl _) ?_
            refine cu_s (mW_nd _ _ _ _ _ _) (rn_S (n := 1) (As := [.int r100]) (rest := []) hx hb hml hown ht hKK hFx hP hD hS hA (c_m_isOfName2 l dC dI cI cB cZ cJ cR tb H.size r100 ) tw_286 tw_287 (by decide +kernel) rfl rfl ⟨Nat.le_of_ble_eq_true rfl, Nat.le_of_ble_eq_true rfl⟩ [] rfl rfl rfl hl.1 rfl (Nat.le_of_ble_eq_true rfl) dX13_number_92 ⟨Nat.le_of_ble_eq_true rfl, Nat.le_of_ble_eq_true rfl⟩) hP hD hS hA (fun r103 H locs hw101 hP hD hS => ?_)
            obtain ⟨ex101, b101, i101⟩ := hw101
            refine W.widen (k := 0) (n := 0) (Nat.le_refl _) (Nat.le_refl _) ?_
            refine lv_if_eq (tgt := 100) hx hb dX13_number_95 (by decide) (fun h104 => ?_) (fun h104 => ?_)
            · have z105 : r103.toInt = (0 : Int) := eq_z rfl (show (0 : Int32).toInt = (0 : Int) by decide) h104
              refine lv_aload_n hx hb dX13_number_100 rfl (lv_at hl 2 rfl) ?_
              refine va_get (D := (dC, dI)) (ci := 16) (fs := mF ad v) (v := .ref (ad 10)) (C := RX13) (T := TX13) (N := 124) hx hb ht itX13 hown hK hP 0 rfl rfl 10 (by decide) (ht _ tw_110) (fun _ h9 => h9) rfl dX13_number_101 ?_
              refine lv_aload_n hx hb dX13_number_104 rfl (lv_at hl 2 rfl) ?_
              refine va_get (D := (dC, dI)) (ci := 16) (fs := mF ad v) (v := .int (v.1 0 5)) (C := RX13) (T := TX13) (N := 124) hx hb ht itX13 hown hK hP 0 rfl rfl 5 (by decide) (ht _ tw_283) (fun _ h9 => h9) rfl dX13_number_105 ?_
              refine lv_iconst (v := 0) hx hb dX13_number_108 (by decide) ?_
              refine va_zast (D := (dC, dI)) (f := (v.1 10)) hx hb hK hP hD hS 7 2 rfl rfl (in_y (a := (v.1 0 5).toInt) (b := 4002) rfl (om_68cc9dfc8a ztk) (om_d067f7e614 ztk) rfl) dX13_number_109 (fun H locs hP hD hS => ?_)
              have hP := cP_ (ma_10 ad N cI cZ cJ v ((v.1 0 5).toNatClampNeg) (vp_nar .boolean (0 : Int32))) hP
              have hD := cD_ (ma_10 ad N cI cZ cJ v ((v.1 0 5).toNatClampNeg) (vp_nar .boolean (0 : Int32))) hD
              refine lv_aload_n hx hb dX13_number_110 rfl (lv_at hl 2 rfl) ?_
              refine va_get (D := (dC, dI)) (ci := 16) (fs := mF ad (wA v 10 ((v.1 0 5).toNatClampNeg) (vp_nar .boolean (0 : Int32)))) (v := .ref (ad 9)) (C := RX13) (T := TX13) (N := 124) hx hb ht itX13 hown hK hP 0 rfl rfl 9 (by decide) (ht _ tw_27) (fun _ h9 => h9) rfl dX13_number_111 ?_
              refine lv_aload_n hx hb dX13_number_114 rfl (lv_at hl 2 rfl) ?_
              refine va_get (D := (dC, dI)) (ci := 16) (fs := mF ad (wA v 10 ((v.1 0 5).toNatClampNeg) (vp_nar .boolean (0 : Int32)))) (v := .int (v.1 0 5)) (C := RX13) (T := TX13) (N := 124) hx hb ht itX13 hown hK hP 0 rfl rfl 5 (by decide) (ht _ tw_283) (fun _ h9 => h9) rfl dX13_number_115 ?_
              refine lv_lload_n hx hb dX13_number_118 rfl (lv_at hl 1 rfl) ?_
              refine lv_l2i hx hb dX13_number_119 rfl ?_
              refine lv_i2l hx hb dX13_number_120 rfl ?_
              refine va_last (D := (dC, dI)) (f := v.2) hx hb hK hP hD hS 6 3 rfl rfl (in_y (a := (v.1 0 5).toInt) (b := 4002) rfl (om_68cc9dfc8a ztk) (om_d067f7e614 ztk) rfl) dX13_number_121 (fun H locs hP hD hS => ?_)
              have hP := cP_ (ma_9 ad N cI cZ cJ (wA v 10 ((v.1 0 5).toNatClampNeg) (vp_nar .boolean (0 : Int32))) ((v.1 0 5).toNatClampNeg) ((la.toInt32)).toInt64) hP
              have hD := cD_ (ma_9 ad N cI cZ cJ (wA v 10 ((v.1 0 5).toNatClampNeg) (vp_nar .boolean (0 : Int32))) ((v.1 0 5).toNatClampNeg) ((la.toInt32)).toInt64) hD
              refine lv_goto (tgt := 208) hx hb dX13_number_122 (by decide) ?_
              refine lv_aload_n hx hb dX13_number_208 rfl (lv_at hl 2 rfl) ?_
              refine va_get (D := (dC, dI)) (ci := 16) (fs := mF ad (wL (wA v 10 ((v.1 0 5).toNatClampNeg) (vp_nar .boolean (0 : Int32))) ((v.1 0 5).toNatClampNeg) ((la.toInt32)).toInt64)) (v := .ref (ad 8)) (C := RX13) (T := TX13) (N := 124) hx hb ht itX13 hown hK hP 0 rfl rfl 8 (by decide) (ht _ tw_42) (fun _ h9 => h9) rfl dX13_number_209 ?_
              refine lv_aload_n hx hb dX13_number_212 rfl (lv_at hl 2 rfl) ?_
              refine va_get (D := (dC, dI)) (ci := 16) (fs := mF ad (wL (wA v 10 ((v.1 0 5).toNatClampNeg) (vp_nar .boolean (0 : Int32))) ((v.1 0 5).toNatClampNeg) ((la.toInt32)).toInt64)) (v := .int (v.1 0 5)) (C := RX13) (T := TX13) (N := 124) hx hb ht itX13 hown hK hP 0 rfl rfl 5 (by decide) (ht _ tw_283) (fun _ h9 => h9) rfl dX13_number_213 ?_
              refine lv_iload_n hx hb dX13_number_216 rfl (lv_at hl 0 rfl) ?_
              refine va_iast (D := (dC, dI)) (f := (v.1 8)) hx hb hK hP hD hS 5 0 rfl rfl (in_y (a := (v.1 0 5).toInt) (b := 4002) rfl (om_68cc9dfc8a ztk) (om_d067f7e614 ztk) rfl) dX13_number_217 (fun H locs hP hD hS => ?_)
              have hP := cP_ (ma_8 ad N cI cZ cJ (wL (wA v 10 ((v.1 0 5).toNatClampNeg) (vp_nar .boolean (0 : Int32))) ((v.1 0 5).toNatClampNeg) ((la.toInt32)).toInt64) ((v.1 0 5).toNatClampNeg) to) hP
              have hD := cD_ (ma_8 ad N cI cZ cJ (wL (wA v 10 ((v.1 0 5).toNatClampNeg) (vp_nar .boolean (0 : Int32))) ((v.1 0 5).toNatClampNeg) ((la.toInt32)).toInt64) ((v.1 0 5).toNatClampNeg) to) hD
              refine lv_iconst (v := 4) hx hb dX13_number_218 (by decide) ?_
              have q106 : ((upd (v.1 8) ((v.1 0 5).toNatClampNeg) to) (v.1 0 5).toNatClampNeg).toInt = to.toInt := congrArg Int32.toInt pk_us
              exact W.iret (v := 4) hx hb hr (fun t ht9 hW => ⟨⟨4, (wA (wL (wA v 10 ((v.1 0 5).toNatClampNeg) (vp_nar .boolean (0 : Int32))) ((v.1 0 5).toNatClampNeg) ((la.toInt32)).toInt64) 8 ((v.1 0 5).toNatClampNeg) to), rfl, ⟨(FH.a (FH.l (FH.a (FH.rf _) ((v.1 0 5).toNatClampNeg) (vp_nar .boolean (0 : Int32)) (by decide) (by decide)) ((v.1 0 5).toNatClampNeg) ((la.toInt32)).toInt64) ((v.1 0 5).toNatClampNeg) to (by decide) (by decide)), ⟨zsz, ztk, za, zd, (Or.inr (⟨z38, r42, ex40, c40, (Or.inr (⟨z80, to, la, exL31, f1L31, r84, ex82, c82, r87, ex85, c85, (Or.inl ⟨z89, (Or.inr (⟨z93, (Or.inr (⟨z97, r100, ex98, c98, r103, ex101, ⟨b101, i101⟩, (Or.inl ⟨z105, rfl, rfl⟩)⟩))⟩))⟩)⟩))⟩))⟩, (show (4 : Int) ≤ 1 ∨ (pa.toInt + 1 ≤ ((upd (v.1 8) ((v.1 0 5).toNatClampNeg) to) (v.1 0 5).toNatClampNeg).toInt ∧ ((upd (v.1 8) ((v.1 0 5).toNatClampNeg) to) (v.1 0 5).toNatClampNeg).toInt ≤ (v.1 0 4).toInt) from (om_91c8b37c75 z39 c40 z80 f1L31 q106)), (AR.w (AR.l (AR.o a8 (by decide))) (show 0 ≤ to.toInt ∧ to.toInt ≤ 4000 from (om_f1254cad60 zsz za z39 c40 z80 f1L31)))⟩, by rw [ht9]; exact hP, hD⟩, hS.F ht9⟩) hS.2.2 dX13_number_219
            · have z107 : r103.toInt ≠ (0 : Int) := ne_z rfl (show (0 : Int32).toInt = (0 : Int) by decide) h104
              refine lv_iconst (v := 1) hx hb dX13_number_98 (by decide) ?_
              exact W.iret (v := 1) hx hb hr (fun t ht9 hW => ⟨⟨1, v, rfl, ⟨(FH.rf _), ⟨zsz, ztk, za, zd, (Or.inr (⟨z38, r42, ex40, c40, (Or.inr (⟨z80, to, la, exL31, f1L31, r84, ex82, c82, r87, ex85, c85, (Or.inl ⟨z89, (Or.inr (⟨z93, (Or.inr (⟨z97, r100, ex98, c98, r103, ex101, ⟨b101, i101⟩, (Or.inr (⟨z107, rfl, rfl⟩))⟩))⟩))⟩)⟩))⟩))⟩, (show (1 : Int) ≤ 1 ∨ (pa.toInt + 1 ≤ ((v.1 8) (v.1 0 5).toNatClampNeg).toInt ∧ ((v.1 8) (v.1 0 5).toNatClampNeg).toInt ≤ (v.1 0 4).toInt) from om_abc8d05dfe), a8⟩, by rw [ht9]; exact hP, hD⟩, hS.F ht9⟩) hS.2.2 dX13_number_99
      · have z108 : (0 : Int) ≤ r87.toInt := nlt_z rfl (show (0 : Int32).toInt = (0 : Int) by decide) h88
        refine lv_iload_n hx hb dX13_number_42 rfl (lv_at hl 0 rfl) ?_
        refine lv_iload_n hx hb dX13_number_43 rfl (lv_at hl 3 rfl) ?_
        refine lv_isub hx hb dX13_number_44 ?_
        have z109 : (to - pa).toInt = to.toInt - pa.toInt := sub_z rfl rfl (om_3f0fe5a586 f1L31) (om_1e220bc08f f1L31)
        refine lv_bipush (v := 11) hx hb dX13_number_45 (by decide) ?_
        refine lv_icmp_ge (tgt := 72) hx hb dX13_number_47 (by decide) (fun h110 => ?_) (fun h110 => ?_)
        · have z111 : (11 : Int) ≤ (to.toInt - pa.toInt) := le_z (show (11 : Int32).toInt = (11 : Int) by decide) z109 h110
          refine lv_iload_n hx hb dX13_number_72 rfl (lv_at hl 0 rfl) ?_
          refine lv_iload_n hx hb dX13_number_73 rfl (lv_at hl 3 rfl) ?_
          refine lv_iconst (v := 2) hx hb dX13_number_74 (by decide) ?_
          refine lv_iadd hx hb dX13_number_75 ?_
          have z112 : (pa + (2 : Int32)).toInt = pa.toInt + (2 : Int) := add_z rfl (show (2 : Int32).toInt = (2 : Int) by decide) (om_cadcd0ac59 za) (om_4a6167ded1 zsz za)
          refine lv_icmp_eq (tgt := 98) hx hb dX13_number_76 (by decide) (fun h113 => ?_) (fun h113 => ?_)
          · have z114 : to.toInt = (pa.toInt + (2 : Int)) := eq_z rfl z112 h113
            exact False.elim (om_e22d04ddac z111 z114)
          · have z115 : to.toInt ≠ (pa.toInt + (2 : Int)) := ne_z rfl z112 h113
            refine lv_iload_n hx hb dX13_number_79 rfl (lv_at hl 0 rfl) ?_
            refine lv_iload_n hx hb dX13_number_80 rfl (lv_at hl 3 rfl) ?_
            refine lv_isub hx hb dX13_number_81 ?_
            have z116 : (to - pa).toInt = to.toInt - pa.toInt := sub_z rfl rfl (om_2b87288d31 z111) (om_1e220bc08f f1L31)
            refine lv_bipush (v := 10) hx hb dX13_number_82 (by decide) ?_
            refine lv_icmp_gt (tgt := 98) hx hb dX13_number_84 (by decide) (fun h117 => ?_) (fun h117 => ?_)
            · have z118 : (10 : Int) < (to.toInt - pa.toInt) := lt_z (show (10 : Int32).toInt = (10 : Int) by decide) z116 h117
              refine lv_iconst (v := 1) hx hb dX13_number_98 (by decide) ?_
              exact W.iret (v := 1) hx hb hr (fun t ht9 hW => ⟨⟨1, v, rfl, ⟨(FH.rf _), ⟨zsz, ztk, za, zd, (Or.inr (⟨z38, r42, ex40, c40, (Or.inr (⟨z80, to, la, exL31, f1L31, r84, ex82, c82, r87, ex85, c85, (Or.inr (⟨z108, z111, z115, z118, rfl, rfl⟩))⟩))⟩))⟩, (show (1 : Int) ≤ 1 ∨ (pa.toInt + 1 ≤ ((v.1 8) (v.1 0 5).toNatClampNeg).toInt ∧ ((v.1 8) (v.1 0 5).toNatClampNeg).toInt ≤ (v.1 0 4).toInt) from om_abc8d05dfe), a8⟩, by rw [ht9]; exact hP, hD⟩, hS.F ht9⟩) hS.2.2 dX13_number_99
            · have z119 : (to.toInt - pa.toInt) ≤ (10 : Int) := nlt_z (show (10 : Int32).toInt = (10 : Int) by decide) z116 h117
              exact False.elim (om_f87a774cb7 z111 z119)
        · have z120 : (to.toInt - pa.toInt) < (11 : Int) := nle_z (show (11 : Int32).toInt = (11 : Int) by decide) z109 h110
          refine lv_ldc2 (v := 16) hx hb hown (ht _ tw_292) dX13_number_50 ?_
          refine lv_lload_n hx hb dX13_number_53 rfl (lv_at hl 1 rfl) ?_
          refine lv_lmul hx hb dX13_number_54 ?_
          refine lv_aload_n hx hb dX13_number_55 rfl (lv_at hl 2 rfl) ?_
          refine lv_iload_n hx hb dX13_number_56 rfl (lv_at hl 0 rfl) ?_
          refine cu_i (rn_V (n := 1) (As := [.int to]) (rest := [.long (16 * la)]) hx hb hml hown ht hKK hFx hP hD hS hA (c_m_at2 l dC dI cI cB cZ cJ cR tb H.size ad N v to (show 0 ≤ (v.1 0 4).toInt ∧ (v.1 0 4).toInt ≤ 4000 from (om_c474bb42ef zsz za)) (show 0 ≤ to.toInt from (om_39e53562b6 za f1L31))) tw_284 tw_285 (by decide +kernel) rfl rfl ⟨Nat.le_of_ble_eq_true rfl, Nat.le_of_ble_eq_true rfl⟩ (List.range (mW ad N cI cZ cJ v).length) (rg_map _) (mW_nd _ _ _ _ _ _) rfl rfl rfl rfl hl.1 rfl (Nat.le_of_ble_eq_true rfl) dX13_number_57 ⟨Nat.le_of_ble_eq_true rfl, Nat.le_of_ble_eq_true rfl⟩) hP hD hS hA (fun r123 u122 H locs hw121 hP hD hS => ?_)
          obtain ⟨rfl, ex121, c121⟩ := hw121
          refine W.widen (k := 0) (n := 0) (Nat.le_refl _) (Nat.le_refl _) ?_
          refine cu_s (mW_nd _ _ _ _ _ _) (rn_S (n := 1) (As := [.int r123]) (rest := [.long (16 * la)]) hx hb hml hown ht hKK hFx hP hD hS hA (c_m_hex l dC dI cI cB cZ cJ cR tb H.size r123 ) tw_290 tw_291 (by decide +kernel) rfl rfl ⟨Nat.le_of_ble_eq_true rfl, Nat.le_of_ble_eq_true rfl⟩ [] rfl rfl rfl hl.1 rfl (Nat.le_of_ble_eq_true rfl) dX13_number_60 ⟨Nat.le_of_ble_eq_true rfl, Nat.le_of_ble_eq_true rfl⟩) hP hD hS hA (fun r126 H locs hw124 hP hD hS => ?_)
          obtain ⟨ex124, c124⟩ := hw124
          refine W.widen (k := 0) (n := 0) (Nat.le_refl _) (Nat.le_refl _) ?_
          refine lv_i2l hx hb dX13_number_63 rfl ?_
          refine lv_ladd hx hb dX13_number_64 ?_
          refine lv_lstore_n (lv' := [(3, .long ((16 * la) + (r126).toInt64)), (2, .int to), (0, .ref (ad 0)), (1, .int pa)]) hx hb dX13_number_65 rfl hl (by decide) rfl (fun ls hl => ?_)
          refine lv_iinc (v := (to + (1 : Int32))) (lv' := [(2, .int (to + (1 : Int32))), (3, .long ((16 * la) + (r126).toInt64)), (0, .ref (ad 0)), (1, .int pa)]) hx hb dX13_number_66 hl (k := 1) rfl (rfl) (by decide) rfl (fun ls hl => ?_)
          have z127 : (to + (1 : Int32)).toInt = to.toInt + (1 : Int) := add_z rfl (show (1 : Int32).toInt = (1 : Int) by decide) (om_8da9f69177 za f1L31) (om_b1e9b5e0ad zsz za z120)
          refine lv_goto (tgt := 31) hx hb dX13_number_69 (by decide) ?_
          exact ih31 ((to + (1 : Int32)), ((16 * la) + (r126).toInt64)) _ _ _ (show (pa.toInt + 11 - (to + (1 : Int32)).toInt).toNat < (pa.toInt + 11 - to.toInt).toNat from tn_z (om_1e4137d197 z127) (om_eef72cce01 z120)) ⟨(show pa.toInt + 2 ≤ (to + (1 : Int32)).toInt ∧ (to + (1 : Int32)).toInt ≤ pa.toInt + 11 ∧ ((to + (1 : Int32)).toInt ≤ (v.1 0 4).toInt ∨ (to + (1 : Int32)).toInt = pa.toInt + 2) from (om_10c0300119 f1L31 c82 c85 z108 z120 z127)), (RT.st exL31 ⟨f1L31, r84, ex82, c82, r87, ex85, c85, z108, z120, r123, ex121, c121, r126, ex124, c124, rfl⟩), hP, hD, hS, lv_sub hl [0, 1, 2, 3] rfl⟩
