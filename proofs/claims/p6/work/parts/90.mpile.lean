theorem dX13_push_0 : decode cX13_push 0 = .ok (.aload_n 0, 1) := by decide +kernel
theorem dX13_push_1 : decode cX13_push 1 = .ok (.getfield 579, 3) := by decide +kernel
theorem tw_314 : (.fieldLink RX13 579 "PocketCompilerModel" "pile" "[I" : Cond) ∈ tw_W := tw_in (t8_11 (List.mem_of_getElem? (i := 22) rfl)) rfl
theorem dX13_push_4 : decode cX13_push 4 = .ok (.aload_n 0, 1) := by decide +kernel
theorem dX13_push_5 : decode cX13_push 5 = .ok (.getfield 809, 3) := by decide +kernel
theorem tw_315 : (.fieldLink RX13 809 "PocketCompilerModel" "piled" "I" : Cond) ∈ tw_W := tw_in (t8_11 (List.mem_of_getElem? (i := 23) rfl)) rfl
theorem dX13_push_8 : decode cX13_push 8 = .ok (.iload_n 1, 1) := by decide +kernel
theorem dX13_push_9 : decode cX13_push 9 = .ok (.iastore, 1) := by decide +kernel
theorem dX13_push_10 : decode cX13_push 10 = .ok (.aload_n 0, 1) := by decide +kernel
theorem dX13_push_11 : decode cX13_push 11 = .ok (.dup, 1) := by decide +kernel
theorem dX13_push_12 : decode cX13_push 12 = .ok (.getfield 809, 3) := by decide +kernel
theorem dX13_push_15 : decode cX13_push 15 = .ok (.iconst 1, 1) := by decide +kernel
theorem dX13_push_16 : decode cX13_push 16 = .ok (.iadd, 1) := by decide +kernel
theorem dX13_push_17 : decode cX13_push 17 = .ok (.putfield 809, 3) := by decide +kernel
theorem dX13_push_20 : decode cX13_push 20 = .ok (.return_, 1) := by decide +kernel
theorem dX13_pop_0 : decode cX13_pop 0 = .ok (.aload_n 0, 1) := by decide +kernel
theorem dX13_pop_1 : decode cX13_pop 1 = .ok (.dup, 1) := by decide +kernel
theorem dX13_pop_2 : decode cX13_pop 2 = .ok (.getfield 809, 3) := by decide +kernel
theorem dX13_pop_5 : decode cX13_pop 5 = .ok (.iconst 1, 1) := by decide +kernel
theorem dX13_pop_6 : decode cX13_pop 6 = .ok (.isub, 1) := by decide +kernel
theorem dX13_pop_7 : decode cX13_pop 7 = .ok (.putfield 809, 3) := by decide +kernel
theorem dX13_pop_10 : decode cX13_pop 10 = .ok (.aload_n 0, 1) := by decide +kernel
theorem dX13_pop_11 : decode cX13_pop 11 = .ok (.getfield 579, 3) := by decide +kernel
theorem dX13_pop_14 : decode cX13_pop 14 = .ok (.aload_n 0, 1) := by decide +kernel
theorem dX13_pop_15 : decode cX13_pop 15 = .ok (.getfield 809, 3) := by decide +kernel
theorem dX13_pop_18 : decode cX13_pop 18 = .ok (.iaload, 1) := by decide +kernel
theorem dX13_pop_19 : decode cX13_pop 19 = .ok (.ireturn, 1) := by decide +kernel
theorem dX13_turn_0 : decode cX13_turn 0 = .ok (.aload_n 0, 1) := by decide +kernel
theorem dX13_turn_1 : decode cX13_turn 1 = .ok (.getfield 812, 3) := by decide +kernel
theorem dX13_turn_4 : decode cX13_turn 4 = .ok (.aload_n 0, 1) := by decide +kernel
theorem dX13_turn_5 : decode cX13_turn 5 = .ok (.getfield 815, 3) := by decide +kernel
theorem tw_316 : (.fieldLink RX13 815 "PocketCompilerModel" "mostTurns" "I" : Cond) ∈ tw_W := tw_in (t8_11 (List.mem_of_getElem? (i := 31) rfl)) rfl
theorem dX13_turn_8 : decode cX13_turn 8 = .ok (.if_icmp .ne 5, 3) := by decide +kernel
theorem dX13_turn_13 : decode cX13_turn 13 = .ok (.aload_n 0, 1) := by decide +kernel
theorem dX13_turn_14 : decode cX13_turn 14 = .ok (.dup, 1) := by decide +kernel
theorem dX13_turn_15 : decode cX13_turn 15 = .ok (.getfield 812, 3) := by decide +kernel
theorem dX13_turn_18 : decode cX13_turn 18 = .ok (.iconst 1, 1) := by decide +kernel
theorem dX13_turn_19 : decode cX13_turn 19 = .ok (.iadd, 1) := by decide +kernel
theorem dX13_turn_20 : decode cX13_turn 20 = .ok (.putfield 812, 3) := by decide +kernel
theorem dX13_turn_23 : decode cX13_turn 23 = .ok (.iconst (-1), 1) := by decide +kernel
theorem dX13_turn_24 : decode cX13_turn 24 = .ok (.ireturn, 1) := by decide +kernel
theorem dX13_turn_11 : decode cX13_turn 11 = .ok (.iconst 4, 1) := by decide +kernel
theorem dX13_turn_12 : decode cX13_turn 12 = .ok (.ireturn, 1) := by decide +kernel
theorem dX13_worked_0 : decode cX13_worked 0 = .ok (.iload_n 0, 1) := by decide +kernel
theorem dX13_worked_1 : decode cX13_worked 1 = .ok (.lookupswitch 266 #[(37, 157), (38, 170), (42, 139), (43, 131), (45, 135), (47, 143), (60, 196), (62, 210), (94, 178), (124, 174), (15420, 182), (15676, 224), (15677, 252), (15678, 238), (15934, 189)], 131) := by decide +kernel
theorem dX13_worked_158 : decode cX13_worked 158 = .ok (.iload_n 2, 1) := by decide +kernel
theorem dX13_worked_159 : decode cX13_worked 159 = .ok (.iconst (-1), 1) := by decide +kernel
theorem dX13_worked_160 : decode cX13_worked 160 = .ok (.if_icmp .ne 7, 3) := by decide +kernel
theorem dX13_worked_167 : decode cX13_worked 167 = .ok (.iload_n 1, 1) := by decide +kernel
theorem dX13_worked_168 : decode cX13_worked 168 = .ok (.iload_n 2, 1) := by decide +kernel
theorem dX13_worked_169 : decode cX13_worked 169 = .ok (.irem, 1) := by decide +kernel
theorem dX13_worked_170 : decode cX13_worked 170 = .ok (.ireturn, 1) := by decide +kernel
theorem dX13_worked_163 : decode cX13_worked 163 = .ok (.iconst 0, 1) := by decide +kernel
theorem dX13_worked_164 : decode cX13_worked 164 = .ok (.goto 6, 3) := by decide +kernel
theorem dX13_worked_171 : decode cX13_worked 171 = .ok (.iload_n 1, 1) := by decide +kernel
theorem dX13_worked_172 : decode cX13_worked 172 = .ok (.iload_n 2, 1) := by decide +kernel
theorem dX13_worked_173 : decode cX13_worked 173 = .ok (.iand, 1) := by decide +kernel
theorem dX13_worked_174 : decode cX13_worked 174 = .ok (.ireturn, 1) := by decide +kernel
theorem dX13_worked_140 : decode cX13_worked 140 = .ok (.iload_n 1, 1) := by decide +kernel
theorem dX13_worked_141 : decode cX13_worked 141 = .ok (.iload_n 2, 1) := by decide +kernel
theorem dX13_worked_142 : decode cX13_worked 142 = .ok (.imul, 1) := by decide +kernel
theorem dX13_worked_143 : decode cX13_worked 143 = .ok (.ireturn, 1) := by decide +kernel
theorem dX13_worked_132 : decode cX13_worked 132 = .ok (.iload_n 1, 1) := by decide +kernel
theorem dX13_worked_133 : decode cX13_worked 133 = .ok (.iload_n 2, 1) := by decide +kernel
theorem dX13_worked_134 : decode cX13_worked 134 = .ok (.iadd, 1) := by decide +kernel
theorem dX13_worked_135 : decode cX13_worked 135 = .ok (.ireturn, 1) := by decide +kernel
theorem dX13_worked_136 : decode cX13_worked 136 = .ok (.iload_n 1, 1) := by decide +kernel
theorem dX13_worked_137 : decode cX13_worked 137 = .ok (.iload_n 2, 1) := by decide +kernel
theorem dX13_worked_138 : decode cX13_worked 138 = .ok (.isub, 1) := by decide +kernel
theorem dX13_worked_139 : decode cX13_worked 139 = .ok (.ireturn, 1) := by decide +kernel
theorem dX13_worked_144 : decode cX13_worked 144 = .ok (.iload_n 2, 1) := by decide +kernel
theorem dX13_worked_145 : decode cX13_worked 145 = .ok (.iconst (-1), 1) := by decide +kernel
theorem dX13_worked_146 : decode cX13_worked 146 = .ok (.if_icmp .ne 8, 3) := by decide +kernel
theorem dX13_worked_154 : decode cX13_worked 154 = .ok (.iload_n 1, 1) := by decide +kernel
theorem dX13_worked_155 : decode cX13_worked 155 = .ok (.iload_n 2, 1) := by decide +kernel
theorem dX13_worked_156 : decode cX13_worked 156 = .ok (.idiv, 1) := by decide +kernel
theorem dX13_worked_157 : decode cX13_worked 157 = .ok (.ireturn, 1) := by decide +kernel
theorem dX13_worked_149 : decode cX13_worked 149 = .ok (.iload_n 1, 1) := by decide +kernel
theorem dX13_worked_150 : decode cX13_worked 150 = .ok (.ineg, 1) := by decide +kernel
theorem dX13_worked_151 : decode cX13_worked 151 = .ok (.goto 6, 3) := by decide +kernel
theorem dX13_worked_197 : decode cX13_worked 197 = .ok (.iload_n 1, 1) := by decide +kernel
theorem dX13_worked_198 : decode cX13_worked 198 = .ok (.iload_n 2, 1) := by decide +kernel
theorem dX13_worked_199 : decode cX13_worked 199 = .ok (.if_icmp .ge 7, 3) := by decide +kernel
theorem dX13_worked_206 : decode cX13_worked 206 = .ok (.iconst 0, 1) := by decide +kernel
theorem dX13_worked_207 : decode cX13_worked 207 = .ok (.invokestatic 699, 3) := by decide +kernel
theorem dX13_worked_210 : decode cX13_worked 210 = .ok (.ireturn, 1) := by decide +kernel
theorem dX13_worked_202 : decode cX13_worked 202 = .ok (.iconst 1, 1) := by decide +kernel
theorem dX13_worked_203 : decode cX13_worked 203 = .ok (.goto 4, 3) := by decide +kernel
theorem dX13_worked_211 : decode cX13_worked 211 = .ok (.iload_n 1, 1) := by decide +kernel
theorem dX13_worked_212 : decode cX13_worked 212 = .ok (.iload_n 2, 1) := by decide +kernel
theorem dX13_worked_213 : decode cX13_worked 213 = .ok (.if_icmp .le 7, 3) := by decide +kernel
theorem dX13_worked_220 : decode cX13_worked 220 = .ok (.iconst 0, 1) := by decide +kernel
theorem dX13_worked_221 : decode cX13_worked 221 = .ok (.invokestatic 699, 3) := by decide +kernel
theorem dX13_worked_224 : decode cX13_worked 224 = .ok (.ireturn, 1) := by decide +kernel
theorem dX13_worked_216 : decode cX13_worked 216 = .ok (.iconst 1, 1) := by decide +kernel
theorem dX13_worked_217 : decode cX13_worked 217 = .ok (.goto 4, 3) := by decide +kernel
theorem dX13_worked_179 : decode cX13_worked 179 = .ok (.iload_n 1, 1) := by decide +kernel
theorem dX13_worked_180 : decode cX13_worked 180 = .ok (.iload_n 2, 1) := by decide +kernel
theorem dX13_worked_181 : decode cX13_worked 181 = .ok (.ixor, 1) := by decide +kernel
theorem dX13_worked_182 : decode cX13_worked 182 = .ok (.ireturn, 1) := by decide +kernel
theorem dX13_worked_175 : decode cX13_worked 175 = .ok (.iload_n 1, 1) := by decide +kernel
theorem dX13_worked_176 : decode cX13_worked 176 = .ok (.iload_n 2, 1) := by decide +kernel
theorem dX13_worked_177 : decode cX13_worked 177 = .ok (.ior, 1) := by decide +kernel
theorem dX13_worked_178 : decode cX13_worked 178 = .ok (.ireturn, 1) := by decide +kernel
theorem dX13_worked_183 : decode cX13_worked 183 = .ok (.iload_n 1, 1) := by decide +kernel
theorem dX13_worked_184 : decode cX13_worked 184 = .ok (.iload_n 2, 1) := by decide +kernel
theorem dX13_worked_185 : decode cX13_worked 185 = .ok (.bipush 31, 2) := by decide +kernel
theorem dX13_worked_187 : decode cX13_worked 187 = .ok (.iand, 1) := by decide +kernel
theorem dX13_worked_188 : decode cX13_worked 188 = .ok (.ishl, 1) := by decide +kernel
theorem dX13_worked_189 : decode cX13_worked 189 = .ok (.ireturn, 1) := by decide +kernel
theorem dX13_worked_225 : decode cX13_worked 225 = .ok (.iload_n 1, 1) := by decide +kernel
theorem dX13_worked_226 : decode cX13_worked 226 = .ok (.iload_n 2, 1) := by decide +kernel
theorem dX13_worked_227 : decode cX13_worked 227 = .ok (.if_icmp .gt 7, 3) := by decide +kernel
theorem dX13_worked_234 : decode cX13_worked 234 = .ok (.iconst 0, 1) := by decide +kernel
theorem dX13_worked_235 : decode cX13_worked 235 = .ok (.invokestatic 699, 3) := by decide +kernel
theorem dX13_worked_238 : decode cX13_worked 238 = .ok (.ireturn, 1) := by decide +kernel
theorem dX13_worked_230 : decode cX13_worked 230 = .ok (.iconst 1, 1) := by decide +kernel
theorem dX13_worked_231 : decode cX13_worked 231 = .ok (.goto 4, 3) := by decide +kernel
theorem dX13_worked_253 : decode cX13_worked 253 = .ok (.iload_n 1, 1) := by decide +kernel
theorem dX13_worked_254 : decode cX13_worked 254 = .ok (.iload_n 2, 1) := by decide +kernel
theorem dX13_worked_255 : decode cX13_worked 255 = .ok (.if_icmp .ne 7, 3) := by decide +kernel
theorem dX13_worked_262 : decode cX13_worked 262 = .ok (.iconst 0, 1) := by decide +kernel
theorem dX13_worked_263 : decode cX13_worked 263 = .ok (.invokestatic 699, 3) := by decide +kernel
theorem dX13_worked_266 : decode cX13_worked 266 = .ok (.ireturn, 1) := by decide +kernel
theorem dX13_worked_258 : decode cX13_worked 258 = .ok (.iconst 1, 1) := by decide +kernel
theorem dX13_worked_259 : decode cX13_worked 259 = .ok (.goto 4, 3) := by decide +kernel
theorem dX13_worked_239 : decode cX13_worked 239 = .ok (.iload_n 1, 1) := by decide +kernel
theorem dX13_worked_240 : decode cX13_worked 240 = .ok (.iload_n 2, 1) := by decide +kernel
theorem dX13_worked_241 : decode cX13_worked 241 = .ok (.if_icmp .lt 7, 3) := by decide +kernel
theorem dX13_worked_248 : decode cX13_worked 248 = .ok (.iconst 0, 1) := by decide +kernel
theorem dX13_worked_249 : decode cX13_worked 249 = .ok (.invokestatic 699, 3) := by decide +kernel
theorem dX13_worked_252 : decode cX13_worked 252 = .ok (.ireturn, 1) := by decide +kernel
theorem dX13_worked_244 : decode cX13_worked 244 = .ok (.iconst 1, 1) := by decide +kernel
theorem dX13_worked_245 : decode cX13_worked 245 = .ok (.goto 4, 3) := by decide +kernel
theorem dX13_worked_190 : decode cX13_worked 190 = .ok (.iload_n 1, 1) := by decide +kernel
theorem dX13_worked_191 : decode cX13_worked 191 = .ok (.iload_n 2, 1) := by decide +kernel
theorem dX13_worked_192 : decode cX13_worked 192 = .ok (.bipush 31, 2) := by decide +kernel
theorem dX13_worked_194 : decode cX13_worked 194 = .ok (.iand, 1) := by decide +kernel
theorem dX13_worked_195 : decode cX13_worked 195 = .ok (.ishr, 1) := by decide +kernel
theorem dX13_worked_196 : decode cX13_worked 196 = .ok (.ireturn, 1) := by decide +kernel
theorem dX13_worked_267 : decode cX13_worked 267 = .ok (.iload_n 1, 1) := by decide +kernel
theorem dX13_worked_268 : decode cX13_worked 268 = .ok (.iload_n 2, 1) := by decide +kernel
theorem dX13_worked_269 : decode cX13_worked 269 = .ok (.if_icmp .eq 7, 3) := by decide +kernel
theorem dX13_worked_276 : decode cX13_worked 276 = .ok (.iconst 0, 1) := by decide +kernel
theorem dX13_worked_277 : decode cX13_worked 277 = .ok (.invokestatic 699, 3) := by decide +kernel
theorem dX13_worked_280 : decode cX13_worked 280 = .ok (.ireturn, 1) := by decide +kernel
theorem dX13_worked_272 : decode cX13_worked 272 = .ok (.iconst 1, 1) := by decide +kernel
theorem dX13_worked_273 : decode cX13_worked 273 = .ok (.goto 4, 3) := by decide +kernel
set_option maxHeartbeats 4000000 in
set_option maxRecDepth 100000 in
theorem c_m_push (l : Launch) (dC : Nat → ClassId) (dI : Nat → Nat → Nat) (cI cB cZ cJ cR : ClassId) (tb : Nat → Nat) (sz : Nat) (ad : Nat → Nat) (N : Nat) (v : MS) (pa : Int32) (zp : 0 ≤ (v.1 0 106).toInt ∧ (v.1 0 106).toInt < 24000) : Met l yX13_push (Cond.code yX13_push cX13_push 2 none :: tw_W) ({ frames := 0, cells := 0, slots := 0, locals := 0 }) (pc_ (dC, dI) (tyS cI cB cZ cJ cR) tb (mW ad N cI cZ cJ v) sz [.ref (ad 0), .int pa]) (qv_ (dC, dI) (mW ad N cI cZ cJ v) sz (fun (u : MS) => (wA (wA v 105 ((v.1 0 106).toNatClampNeg) pa) 0 106 ((v.1 0 106) + (1 : Int32))) = u) (fun (u : MS) => (mW ad N cI cZ cJ u))) 0 0 (va_A (mW ad N cI cZ cJ v) sz) := by
  refine Met.ofW (cc := cX13_push) (maxL := 2) (ret := none) (by decide) rfl ?_
  intro p e s m args below meth c s₁ B hml hv
  obtain ⟨rfl, hsz, hP, hKK, hD0, hFx⟩ := hv
  have hK := hKK.1
  have hx := B.exec
  have hb := B.bytes
  have hr := B.returns
  have ht : ∀ w ∈ tw_W, w.before _ s = true := fun w h => atoms_spec (ws := Cond.code yX13_push cX13_push 2 none :: tw_W) B.pre w (List.mem_cons_of_mem _ h)
  have hown : s.vm.findClass RX13 = some m.cls := findClass_of_methodNamed B.named
  have hlocks := B.notSynchronized
  subst hsz
  unfold qv_
  have hD := hD0.self (sz := s.heap.size)
  generalize hAe : va_A (mW ad N cI cZ cJ v) s.heap.size = A at hD hFx ⊢
  have hA : ∀ q : Nat, s.heap.size ≤ q → A q := fun q h => by rw [← hAe]; exact Or.inr h
  have hS : va_S A s.heap s.heap [] := va_S.rf
  have hl := lv_entry ([.ref (ad 0), .int pa]) (n := 2) (Nat.le_of_ble_eq_true rfl)
  rw [lg_entry_eq]
  generalize (lg_sl ([.ref (ad 0), .int pa]) ++ List.replicate (2 - (lg_sl ([.ref (ad 0), .int pa])).length) Slot.unset).toArray = ls at hl ⊢
  have hl : lv_has ls 2 [(0, .ref (ad 0)), (1, .int pa)] := hl
  refine lv_aload_n hx hb dX13_push_0 rfl (lv_at hl 0 rfl) ?_
  refine va_get (D := (dC, dI)) (ci := 16) (fs := mF ad v) (v := .ref (ad 105)) (C := RX13) (T := TX13) (N := 124) hx hb ht itX13 hown hK hP 0 rfl rfl 105 (by decide) (ht _ tw_314) (fun _ h9 => h9) rfl dX13_push_1 ?_
  refine lv_aload_n hx hb dX13_push_4 rfl (lv_at hl 0 rfl) ?_
  refine va_get (D := (dC, dI)) (ci := 16) (fs := mF ad v) (v := .int (v.1 0 106)) (C := RX13) (T := TX13) (N := 124) hx hb ht itX13 hown hK hP 0 rfl rfl 106 (by decide) (ht _ tw_315) (fun _ h9 => h9) rfl dX13_push_5 ?_
  refine lv_iload_n hx hb dX13_push_8 rfl (lv_at hl 1 rfl) ?_
  refine va_iast (D := (dC, dI)) (f := (v.1 105)) hx hb hK hP hD hS 56 0 rfl rfl (in_y (a := (v.1 0 106).toInt) (b := 24000) rfl (om_5f68ca46de zp) (om_e6b85e0fc8 zp) rfl) dX13_push_9 (fun H locs hP hD hS => ?_)
  have hP := cP_ (ma_105 ad N cI cZ cJ v ((v.1 0 106).toNatClampNeg) pa) hP
  have hD := cD_ (ma_105 ad N cI cZ cJ v ((v.1 0 106).toNatClampNeg) pa) hD
  refine lv_aload_n hx hb dX13_push_10 rfl (lv_at hl 0 rfl) ?_
  refine lv_dup hx hb dX13_push_11 rfl ?_
  refine va_get (D := (dC, dI)) (ci := 16) (fs := mF ad (wA v 105 ((v.1 0 106).toNatClampNeg) pa)) (v := .int (v.1 0 106)) (C := RX13) (T := TX13) (N := 124) hx hb ht itX13 hown hK hP 0 rfl rfl 106 (by decide) (ht _ tw_315) (fun _ h9 => h9) rfl dX13_push_12 ?_
  refine lv_iconst (v := 1) hx hb dX13_push_15 (by decide) ?_
  refine lv_iadd hx hb dX13_push_16 ?_
  have z1 : ((v.1 0 106) + (1 : Int32)).toInt = ((v.1 0 106).toInt) + (1 : Int) := add_z rfl (show (1 : Int32).toInt = (1 : Int) by decide) (om_d4b9103af5 zp) (om_8fd78812a8 zp)
  refine va_put (D := (dC, dI)) (ci := 16) (fs := mF ad (wA v 105 ((v.1 0 106).toNatClampNeg) pa)) (v := .int ((v.1 0 106) + (1 : Int32))) (ty := .int) (C := RX13) (T := TX13) (N := 124) hx hb ht itX13 tyX13 tyX13_ok nmX13 hown hK hP hD hS 0 rfl rfl 106 (by decide) (ht _ tw_315) (fun _ h9 => h9) rfl (by decide +kernel) rfl rfl (Nat.le_of_ble_eq_true rfl) dX13_push_17 (fun H locs hP hD hS => ?_)
  have hP := cP_ (mw_106 ad N cI cZ cJ (wA v 105 ((v.1 0 106).toNatClampNeg) pa) ((v.1 0 106) + (1 : Int32))) hP
  have hD := cD_ (mw_106 ad N cI cZ cJ (wA v 105 ((v.1 0 106).toNatClampNeg) pa) ((v.1 0 106) + (1 : Int32))) hD
  exact W.vret hx hb hr (fun t ht9 hW => ⟨⟨(wA (wA v 105 ((v.1 0 106).toNatClampNeg) pa) 0 106 ((v.1 0 106) + (1 : Int32))), rfl, rfl, by rw [ht9]; exact hP, hD⟩, hS.F ht9⟩) hS.2.2 dX13_push_20
theorem om_f572c69254 {x0 : Int} (h0 : 1 ≤ x0 ∧ x0 ≤ 24000) : -2147483648 ≤ (x0) - (1 : Int) := by omega
theorem om_652fa24039 {x0 : Int} (h0 : 1 ≤ x0 ∧ x0 ≤ 24000) : (x0) - (1 : Int) < 2147483648 := by omega
theorem om_1f34fb8e1c {x0 : Int} (h0 : 1 ≤ x0 ∧ x0 ≤ 24000) : 0 ≤ ((x0) - (1 : Int)) := by omega
theorem om_67b6bb257a {x0 : Int} (h0 : 1 ≤ x0 ∧ x0 ≤ 24000) : ((x0) - (1 : Int)) < 24000 := by omega
set_option maxHeartbeats 4000000 in
set_option maxRecDepth 100000 in
theorem c_m_pop (l : Launch) (dC : Nat → ClassId) (dI : Nat → Nat → Nat) (cI cB cZ cJ cR : ClassId) (tb : Nat → Nat) (sz : Nat) (ad : Nat → Nat) (N : Nat) (v : MS)  (zp : 1 ≤ (v.1 0 106).toInt ∧ (v.1 0 106).toInt ≤ 24000) : Met l yX13_pop (Cond.code yX13_pop cX13_pop 1 (some .int) :: tw_W) ({ frames := 0, cells := 0, slots := 0, locals := 0 }) (pc_ (dC, dI) (tyS cI cB cZ cJ cR) tb (mW ad N cI cZ cJ v) sz [.ref (ad 0)]) (qi_ (dC, dI) (mW ad N cI cZ cJ v) sz (fun (r : Int32) (u : MS) => (wA v 0 106 ((v.1 0 106) - (1 : Int32))) = u ∧ ((v.1 105) ((v.1 0 106) - (1 : Int32)).toNatClampNeg) = r) (fun (u : MS) => (mW ad N cI cZ cJ u))) 0 0 (va_A (mW ad N cI cZ cJ v) sz) := by
  refine Met.ofW (cc := cX13_pop) (maxL := 1) (ret := (some .int)) (by decide) rfl ?_
  intro p e s m args below meth c s₁ B hml hv
  obtain ⟨rfl, hsz, hP, hKK, hD0, hFx⟩ := hv
  have hK := hKK.1
  have hx := B.exec
  have hb := B.bytes
  have hr := B.returns
  have ht : ∀ w ∈ tw_W, w.before _ s = true := fun w h => atoms_spec (ws := Cond.code yX13_pop cX13_pop 1 (some .int) :: tw_W) B.pre w (List.mem_cons_of_mem _ h)
  have hown : s.vm.findClass RX13 = some m.cls := findClass_of_methodNamed B.named
  have hlocks := B.notSynchronized
  subst hsz
  unfold qi_
  have hD := hD0.self (sz := s.heap.size)
  generalize hAe : va_A (mW ad N cI cZ cJ v) s.heap.size = A at hD hFx ⊢
  have hA : ∀ q : Nat, s.heap.size ≤ q → A q := fun q h => by rw [← hAe]; exact Or.inr h
  have hS : va_S A s.heap s.heap [] := va_S.rf
  have hl := lv_entry ([.ref (ad 0)]) (n := 1) (Nat.le_of_ble_eq_true rfl)
  rw [lg_entry_eq]
  generalize (lg_sl ([.ref (ad 0)]) ++ List.replicate (1 - (lg_sl ([.ref (ad 0)])).length) Slot.unset).toArray = ls at hl ⊢
  have hl : lv_has ls 1 [(0, .ref (ad 0))] := hl
  refine lv_aload_n hx hb dX13_pop_0 rfl (lv_at hl 0 rfl) ?_
  refine lv_dup hx hb dX13_pop_1 rfl ?_
  refine va_get (D := (dC, dI)) (ci := 16) (fs := mF ad v) (v := .int (v.1 0 106)) (C := RX13) (T := TX13) (N := 124) hx hb ht itX13 hown hK hP 0 rfl rfl 106 (by decide) (ht _ tw_315) (fun _ h9 => h9) rfl dX13_pop_2 ?_
  refine lv_iconst (v := 1) hx hb dX13_pop_5 (by decide) ?_
  refine lv_isub hx hb dX13_pop_6 ?_
  have z1 : ((v.1 0 106) - (1 : Int32)).toInt = ((v.1 0 106).toInt) - (1 : Int) := sub_z rfl (show (1 : Int32).toInt = (1 : Int) by decide) (om_f572c69254 zp) (om_652fa24039 zp)
  refine va_put (D := (dC, dI)) (ci := 16) (fs := mF ad v) (v := .int ((v.1 0 106) - (1 : Int32))) (ty := .int) (C := RX13) (T := TX13) (N := 124) hx hb ht itX13 tyX13 tyX13_ok nmX13 hown hK hP hD hS 0 rfl rfl 106 (by decide) (ht _ tw_315) (fun _ h9 => h9) rfl (by decide +kernel) rfl rfl (Nat.le_of_ble_eq_true rfl) dX13_pop_7 (fun H locs hP hD hS => ?_)
  have hP := cP_ (mw_106 ad N cI cZ cJ v ((v.1 0 106) - (1 : Int32))) hP
  have hD := cD_ (mw_106 ad N cI cZ cJ v ((v.1 0 106) - (1 : Int32))) hD
  refine lv_aload_n hx hb dX13_pop_10 rfl (lv_at hl 0 rfl) ?_
  refine va_get (D := (dC, dI)) (ci := 16) (fs := mF ad (wA v 0 106 ((v.1 0 106) - (1 : Int32)))) (v := .ref (ad 105)) (C := RX13) (T := TX13) (N := 124) hx hb ht itX13 hown hK hP 0 rfl rfl 105 (by decide) (ht _ tw_314) (fun _ h9 => h9) rfl dX13_pop_11 ?_
  refine lv_aload_n hx hb dX13_pop_14 rfl (lv_at hl 0 rfl) ?_
  refine va_get (D := (dC, dI)) (ci := 16) (fs := mF ad (wA v 0 106 ((v.1 0 106) - (1 : Int32)))) (v := .int ((v.1 0 106) - (1 : Int32))) (C := RX13) (T := TX13) (N := 124) hx hb ht itX13 hown hK hP 0 rfl rfl 106 (by decide) (ht _ tw_315) (fun _ h9 => h9) rfl dX13_pop_15 ?_
  refine va_iald (D := (dC, dI)) (f := (v.1 105)) hx hb hK hP 56 0 rfl rfl (in_y (a := (((v.1 0 106).toInt) - (1 : Int))) (b := 24000) z1 (om_1f34fb8e1c zp) (om_67b6bb257a zp) rfl) dX13_pop_18 ?_
  exact W.iret (v := ((v.1 105) ((v.1 0 106) - (1 : Int32)).toNatClampNeg)) hx hb hr (fun t ht9 hW => ⟨⟨((v.1 105) ((v.1 0 106) - (1 : Int32)).toNatClampNeg), (wA v 0 106 ((v.1 0 106) - (1 : Int32))), rfl, ⟨rfl, rfl⟩, by rw [ht9]; exact hP, hD⟩, hS.F ht9⟩) hS.2.2 dX13_pop_19
theorem om_da62cf939e {x0 x1 : Int} (h0 : 0 ≤ x0 ∧ x1 ≤ 20000 ∧ x0 ≤ x1) : -2147483648 ≤ (x0) + (1 : Int) := by omega
theorem om_3e13c8a77f {x0 x1 : Int} (h0 : 0 ≤ x0 ∧ x1 ≤ 20000 ∧ x0 ≤ x1) : (x0) + (1 : Int) < 2147483648 := by omega
theorem om_83cd564c55 {x0 x1 x2 : Int} (h0 : 0 ≤ x0 ∧ x1 ≤ 20000 ∧ x0 ≤ x1) (h1 : x0 ≠ x1) (h2 : x2 = (x0) + (1 : Int)) : ((-1 : Int) = -1 ∧ x2 = x0 + 1 ∧ x2 ≤ x1) ∨ ((-1 : Int) = 4 ∧ x2 = x0) := by omega
theorem om_6e8d217fae {x0 x1 : Int} : ((4 : Int) = -1 ∧ x0 = x0 + 1 ∧ x0 ≤ x1) ∨ ((4 : Int) = 4 ∧ x0 = x0) := by omega
set_option maxHeartbeats 4000000 in
set_option maxRecDepth 100000 in
theorem c_m_turn (l : Launch) (dC : Nat → ClassId) (dI : Nat → Nat → Nat) (cI cB cZ cJ cR : ClassId) (tb : Nat → Nat) (sz : Nat) (ad : Nat → Nat) (N : Nat) (v : MS)  (zt : 0 ≤ (v.1 0 113).toInt ∧ (v.1 0 114).toInt ≤ 20000 ∧ (v.1 0 113).toInt ≤ (v.1 0 114).toInt) : Met l yX13_turn (Cond.code yX13_turn cX13_turn 1 (some .int) :: tw_W) ({ frames := 0, cells := 0, slots := 0, locals := 0 }) (pc_ (dC, dI) (tyS cI cB cZ cJ cR) tb (mW ad N cI cZ cJ v) sz [.ref (ad 0)]) (qi_ (dC, dI) (mW ad N cI cZ cJ v) sz (fun (r : Int32) (u : MS) => FG [113] [0] v u ∧ (Q_m_turn v r u) ∧ ((r.toInt = -1 ∧ (u.1 0 113).toInt = (v.1 0 113).toInt + 1 ∧ (u.1 0 113).toInt ≤ (v.1 0 114).toInt) ∨ (r.toInt = 4 ∧ (u.1 0 113).toInt = (v.1 0 113).toInt))) (fun (u : MS) => (mW ad N cI cZ cJ u))) 0 0 (va_A (mW ad N cI cZ cJ v) sz) := by
  refine Met.ofW (cc := cX13_turn) (maxL := 1) (ret := (some .int)) (by decide) rfl ?_
  intro p e s m args below meth c s₁ B hml hv
  obtain ⟨rfl, hsz, hP, hKK, hD0, hFx⟩ := hv
  have hK := hKK.1
  have hx := B.exec
  have hb := B.bytes
  have hr := B.returns
  have ht : ∀ w ∈ tw_W, w.before _ s = true := fun w h => atoms_spec (ws := Cond.code yX13_turn cX13_turn 1 (some .int) :: tw_W) B.pre w (List.mem_cons_of_mem _ h)
  have hown : s.vm.findClass RX13 = some m.cls := findClass_of_methodNamed B.named
  have hlocks := B.notSynchronized
  subst hsz
  unfold qi_
  have hD := hD0.self (sz := s.heap.size)
  generalize hAe : va_A (mW ad N cI cZ cJ v) s.heap.size = A at hD hFx ⊢
  have hA : ∀ q : Nat, s.heap.size ≤ q → A q := fun q h => by rw [← hAe]; exact Or.inr h
  have hS : va_S A s.heap s.heap [] := va_S.rf
  have hl := lv_entry ([.ref (ad 0)]) (n := 1) (Nat.le_of_ble_eq_true rfl)
  rw [lg_entry_eq]
  generalize (lg_sl ([.ref (ad 0)]) ++ List.replicate (1 - (lg_sl ([.ref (ad 0)])).length) Slot.unset).toArray = ls at hl ⊢
  have hl : lv_has ls 1 [(0, .ref (ad 0))] := hl
  refine lv_aload_n hx hb dX13_turn_0 rfl (lv_at hl 0 rfl) ?_
  refine va_get (D := (dC, dI)) (ci := 16) (fs := mF ad v) (v := .int (v.1 0 113)) (C := RX13) (T := TX13) (N := 124) hx hb ht itX13 hown hK hP 0 rfl rfl 113 (by decide) (ht _ tw_307) (fun _ h9 => h9) rfl dX13_turn_1 ?_
  refine lv_aload_n hx hb dX13_turn_4 rfl (lv_at hl 0 rfl) ?_
  refine va_get (D := (dC, dI)) (ci := 16) (fs := mF ad v) (v := .int (v.1 0 114)) (C := RX13) (T := TX13) (N := 124) hx hb ht itX13 hown hK hP 0 rfl rfl 114 (by decide) (ht _ tw_316) (fun _ h9 => h9) rfl dX13_turn_5 ?_
  refine lv_icmp_ne (tgt := 13) hx hb dX13_turn_8 (by decide) (fun h1 => ?_) (fun h1 => ?_)
  · have z2 : (v.1 0 113).toInt ≠ (v.1 0 114).toInt := ne_z rfl rfl h1
    refine lv_aload_n hx hb dX13_turn_13 rfl (lv_at hl 0 rfl) ?_
    refine lv_dup hx hb dX13_turn_14 rfl ?_
    refine va_get (D := (dC, dI)) (ci := 16) (fs := mF ad v) (v := .int (v.1 0 113)) (C := RX13) (T := TX13) (N := 124) hx hb ht itX13 hown hK hP 0 rfl rfl 113 (by decide) (ht _ tw_307) (fun _ h9 => h9) rfl dX13_turn_15 ?_
    refine lv_iconst (v := 1) hx hb dX13_turn_18 (by decide) ?_
    refine lv_iadd hx hb dX13_turn_19 ?_
    have z3 : ((v.1 0 113) + (1 : Int32)).toInt = ((v.1 0 113).toInt) + (1 : Int) := add_z rfl (show (1 : Int32).toInt = (1 : Int) by decide) (om_da62cf939e zt) (om_3e13c8a77f zt)
    refine va_put (D := (dC, dI)) (ci := 16) (fs := mF ad v) (v := .int ((v.1 0 113) + (1 : Int32))) (ty := .int) (C := RX13) (T := TX13) (N := 124) hx hb ht itX13 tyX13 tyX13_ok nmX13 hown hK hP hD hS 0 rfl rfl 113 (by decide) (ht _ tw_307) (fun _ h9 => h9) rfl (by decide +kernel) rfl rfl (Nat.le_of_ble_eq_true rfl) dX13_turn_20 (fun H locs hP hD hS => ?_)
    have hP := cP_ (mw_113 ad N cI cZ cJ v ((v.1 0 113) + (1 : Int32))) hP
    have hD := cD_ (mw_113 ad N cI cZ cJ v ((v.1 0 113) + (1 : Int32))) hD
    refine lv_iconst (v := -1) hx hb dX13_turn_23 (by decide) ?_
    exact W.iret (v := (-1)) hx hb hr (fun t ht9 hW => ⟨⟨(-1), (wA v 0 113 ((v.1 0 113) + (1 : Int32))), rfl, ⟨(FG.f (FG.rf _) ((v.1 0 113) + (1 : Int32)) (by decide)), ⟨zt, (Or.inl ⟨z2, rfl, rfl⟩)⟩, (show ((-1 : Int) = -1 ∧ ((v.1 0 113) + (1 : Int32)).toInt = (v.1 0 113).toInt + 1 ∧ ((v.1 0 113) + (1 : Int32)).toInt ≤ (v.1 0 114).toInt) ∨ ((-1 : Int) = 4 ∧ ((v.1 0 113) + (1 : Int32)).toInt = (v.1 0 113).toInt) from (om_83cd564c55 zt z2 z3))⟩, by rw [ht9]; exact hP, hD⟩, hS.F ht9⟩) hS.2.2 dX13_turn_24
  · have z4 : (v.1 0 113).toInt = (v.1 0 114).toInt := eq_z rfl rfl h1
    refine lv_iconst (v := 4) hx hb dX13_turn_11 (by decide) ?_
    exact W.iret (v := 4) hx hb hr (fun t ht9 hW => ⟨⟨4, v, rfl, ⟨(FG.rf _), ⟨zt, (Or.inr (⟨z4, rfl, rfl⟩))⟩, (show ((4 : Int) = -1 ∧ (v.1 0 113).toInt = (v.1 0 113).toInt + 1 ∧ (v.1 0 113).toInt ≤ (v.1 0 114).toInt) ∨ ((4 : Int) = 4 ∧ (v.1 0 113).toInt = (v.1 0 113).toInt) from om_6e8d217fae)⟩, by rw [ht9]; exact hP, hD⟩, hS.F ht9⟩) hS.2.2 dX13_turn_12
theorem om_036f3509b2 {x0 x1 : Int} (h0 : (x0 ≠ 47 ∧ x0 ≠ 37) ∨ x1 ≠ 0) (h1 : x0 = (37 : Int)) : x1 ≠ 0 := by omega
theorem om_6e23594855 {x0 x1 : Int} (h0 : (x0 ≠ 47 ∧ x0 ≠ 37) ∨ x1 ≠ 0) (h1 : x0 = (47 : Int)) : x1 ≠ 0 := by omega
set_option maxHeartbeats 4000000 in
set_option maxRecDepth 100000 in
theorem c_m_worked0 (l : Launch) (dC : Nat → ClassId) (dI : Nat → Nat → Nat) (cI cB cZ cJ cR : ClassId) (tb : Nat → Nat) (sz : Nat) (pa : Int32) (pb : Int32) (pc1 : Int32) (zd : (pa.toInt ≠ 47 ∧ pa.toInt ≠ 37) ∨ pc1.toInt ≠ 0) : Met l yX13_worked (Cond.code yX13_worked cX13_worked 3 (some .int) :: tw_W) ({ frames := 1, cells := 0, slots := 0, locals := 20 }) (pc_ (dC, dI) (tyS cI cB cZ cJ cR) tb [] sz [.int pa, .int pb, .int pc1]) (qi_ (dC, dI) [] sz (fun (r : Int32) (u : Unit) => (Q_m_worked0 pa pb pc1 r)) (fun (u : Unit) => [])) 0 0 (va_A [] sz) := by
  refine Met.ofW (cc := cX13_worked) (maxL := 3) (ret := (some .int)) (by decide) rfl ?_
  intro p e s m args below meth c s₁ B hml hv
  obtain ⟨rfl, hsz, hP, hKK, hD0, hFx⟩ := hv
  have hK := hKK.1
  have hx := B.exec
  have hb := B.bytes
  have hr := B.returns
  have ht : ∀ w ∈ tw_W, w.before _ s = true := fun w h => atoms_spec (ws := Cond.code yX13_worked cX13_worked 3 (some .int) :: tw_W) B.pre w (List.mem_cons_of_mem _ h)
  have hown : s.vm.findClass RX13 = some m.cls := findClass_of_methodNamed B.named
  have hlocks := B.notSynchronized
  subst hsz
  unfold qi_
  have hD := hD0.self (sz := s.heap.size)
  generalize hAe : va_A [] s.heap.size = A at hD hFx ⊢
  have hA : ∀ q : Nat, s.heap.size ≤ q → A q := fun q h => by rw [← hAe]; exact Or.inr h
  have hS : va_S A s.heap s.heap [] := va_S.rf
  have hl := lv_entry ([.int pa, .int pb, .int pc1]) (n := 3) (Nat.le_of_ble_eq_true rfl)
  rw [lg_entry_eq]
  generalize (lg_sl ([.int pa, .int pb, .int pc1]) ++ List.replicate (3 - (lg_sl ([.int pa, .int pb, .int pc1])).length) Slot.unset).toArray = ls at hl ⊢
  have hl : lv_has ls 3 [(0, .int pa), (1, .int pb), (2, .int pc1)] := hl
  refine lv_iload_n hx hb dX13_worked_0 rfl (lv_at hl 0 rfl) ?_
  by_cases h1 : pa = 37
  · refine lv_lookup (off := 157) (tgt := 158) hx hb dX13_worked_1 (by decide) (by rw [h1]; decide) (by decide) ?_
    have z2 : pa.toInt = (37 : Int) := eq_z rfl (show (37 : Int32).toInt = (37 : Int) by decide) h1
    refine lv_iload_n hx hb dX13_worked_158 rfl (lv_at hl 2 rfl) ?_
    refine lv_iconst (v := -1) hx hb dX13_worked_159 (by decide) ?_
    refine lv_icmp_ne (tgt := 167) hx hb dX13_worked_160 (by decide) (fun h3 => ?_) (fun h3 => ?_)
    · have z4 : pc1.toInt ≠ (-1 : Int) := ne_z rfl (show ((-1) : Int32).toInt = (-1 : Int) by decide) h3
      refine lv_iload_n hx hb dX13_worked_167 rfl (lv_at hl 1 rfl) ?_
      refine lv_iload_n hx hb dX13_worked_168 rfl (lv_at hl 2 rfl) ?_
      refine lv_irem hx hb dX13_worked_169 (ne0_z (om_036f3509b2 zd z2)) ?_
      exact W.iret (v := (pb - pb / pc1 * pc1)) hx hb hr (fun t ht9 hW => ⟨⟨(pb - pb / pc1 * pc1), (), rfl, ⟨zd, (Or.inl ⟨h1, (Or.inl ⟨z4, rfl⟩)⟩)⟩, by rw [ht9]; exact hP, hD⟩, hS.F ht9⟩) hS.2.2 dX13_worked_170
    · have z5 : pc1.toInt = (-1 : Int) := eq_z rfl (show ((-1) : Int32).toInt = (-1 : Int) by decide) h3
      refine lv_iconst (v := 0) hx hb dX13_worked_163 (by decide) ?_
      refine lv_goto (tgt := 170) hx hb dX13_worked_164 (by decide) ?_
      exact W.iret (v := 0) hx hb hr (fun t ht9 hW => ⟨⟨0, (), rfl, ⟨zd, (Or.inl ⟨h1, (Or.inr (⟨z5, rfl⟩))⟩)⟩, by rw [ht9]; exact hP, hD⟩, hS.F ht9⟩) hS.2.2 dX13_worked_170
  ·
    have z6 : pa.toInt ≠ (37 : Int) := ne_z rfl (show (37 : Int32).toInt = (37 : Int) by decide) h1
    by_cases h7 : pa = 38
    · refine lv_lookup (off := 170) (tgt := 171) hx hb dX13_worked_1 (by decide) (by rw [h7]; decide) (by decide) ?_
      have z8 : pa.toInt = (38 : Int) := eq_z rfl (show (38 : Int32).toInt = (38 : Int) by decide) h7
      refine lv_iload_n hx hb dX13_worked_171 rfl (lv_at hl 1 rfl) ?_
      refine lv_iload_n hx hb dX13_worked_172 rfl (lv_at hl 2 rfl) ?_
      refine lv_iand hx hb dX13_worked_173 ?_
      exact W.iret (v := (pb &&& pc1)) hx hb hr (fun t ht9 hW => ⟨⟨(pb &&& pc1), (), rfl, ⟨zd, (Or.inr (⟨h1, (Or.inl ⟨h7, rfl⟩)⟩))⟩, by rw [ht9]; exact hP, hD⟩, hS.F ht9⟩) hS.2.2 dX13_worked_174
    ·
      have z9 : pa.toInt ≠ (38 : Int) := ne_z rfl (show (38 : Int32).toInt = (38 : Int) by decide) h7
      by_cases h10 : pa = 42
      · refine lv_lookup (off := 139) (tgt := 140) hx hb dX13_worked_1 (by decide) (by rw [h10]; decide) (by decide) ?_
        have z11 : pa.toInt = (42 : Int) := eq_z rfl (show (42 : Int32).toInt = (42 : Int) by decide) h10
        refine lv_iload_n hx hb dX13_worked_140 rfl (lv_at hl 1 rfl) ?_
        refine lv_iload_n hx hb dX13_worked_141 rfl (lv_at hl 2 rfl) ?_
        refine lv_imul hx hb dX13_worked_142 ?_
        exact W.iret (v := (pb * pc1)) hx hb hr (fun t ht9 hW => ⟨⟨(pb * pc1), (), rfl, ⟨zd, (Or.inr (⟨h1, (Or.inr (⟨h7, (Or.inl ⟨h10, rfl⟩)⟩))⟩))⟩, by rw [ht9]; exact hP, hD⟩, hS.F ht9⟩) hS.2.2 dX13_worked_143
      ·
        have z12 : pa.toInt ≠ (42 : Int) := ne_z rfl (show (42 : Int32).toInt = (42 : Int) by decide) h10
        by_cases h13 : pa = 43
        · refine lv_lookup (off := 131) (tgt := 132) hx hb dX13_worked_1 (by decide) (by rw [h13]; decide) (by decide) ?_
          have z14 : pa.toInt = (43 : Int) := eq_z rfl (show (43 : Int32).toInt = (43 : Int) by decide) h13
          refine lv_iload_n hx hb dX13_worked_132 rfl (lv_at hl 1 rfl) ?_
          refine lv_iload_n hx hb dX13_worked_133 rfl (lv_at hl 2 rfl) ?_
          refine lv_iadd hx hb dX13_worked_134 ?_
          exact W.iret (v := (pb + pc1)) hx hb hr (fun t ht9 hW => ⟨⟨(pb + pc1), (), rfl, ⟨zd, (Or.inr (⟨h1, (Or.inr (⟨h7, (Or.inr (⟨h10, (Or.inl ⟨h13, rfl⟩)⟩))⟩))⟩))⟩, by rw [ht9]; exact hP, hD⟩, hS.F ht9⟩) hS.2.2 dX13_worked_135
        ·
          have z15 : pa.toInt ≠ (43 : Int) := ne_z rfl (show (43 : Int32).toInt = (43 : Int) by decide) h13
          by_cases h16 : pa = 45
          · refine lv_lookup (off := 135) (tgt := 136) hx hb dX13_worked_1 (by decide) (by rw [h16]; decide) (by decide) ?_
            have z17 : pa.toInt = (45 : Int) := eq_z rfl (show (45 : Int32).toInt = (45 : Int) by decide) h16
            refine lv_iload_n hx hb dX13_worked_136 rfl (lv_at hl 1 rfl) ?_
            refine lv_iload_n hx hb dX13_worked_137 rfl (lv_at hl 2 rfl) ?_
            refine lv_isub hx hb dX13_worked_138 ?_
            exact W.iret (v := (pb - pc1)) hx hb hr (fun t ht9 hW => ⟨⟨(pb - pc1), (), rfl, ⟨zd, (Or.inr (⟨h1, (Or.inr (⟨h7, (Or.inr (⟨h10, (Or.inr (⟨h13, (Or.inl ⟨h16, rfl⟩)⟩))⟩))⟩))⟩))⟩, by rw [ht9]; exact hP, hD⟩, hS.F ht9⟩) hS.2.2 dX13_worked_139
          ·
            have z18 : pa.toInt ≠ (45 : Int) := ne_z rfl (show (45 : Int32).toInt = (45 : Int) by decide) h16
            by_cases h19 : pa = 47
            · refine lv_lookup (off := 143) (tgt := 144) hx hb dX13_worked_1 (by decide) (by rw [h19]; decide) (by decide) ?_
              have z20 : pa.toInt = (47 : Int) := eq_z rfl (show (47 : Int32).toInt = (47 : Int) by decide) h19
              refine lv_iload_n hx hb dX13_worked_144 rfl (lv_at hl 2 rfl) ?_
              refine lv_iconst (v := -1) hx hb dX13_worked_145 (by decide) ?_
              refine lv_icmp_ne (tgt := 154) hx hb dX13_worked_146 (by decide) (fun h21 => ?_) (fun h21 => ?_)
              · have z22 : pc1.toInt ≠ (-1 : Int) := ne_z rfl (show ((-1) : Int32).toInt = (-1 : Int) by decide) h21
                refine lv_iload_n hx hb dX13_worked_154 rfl (lv_at hl 1 rfl) ?_
                refine lv_iload_n hx hb dX13_worked_155 rfl (lv_at hl 2 rfl) ?_
                refine lv_idiv hx hb dX13_worked_156 (ne0_z (om_6e23594855 zd z20)) ?_
                exact W.iret (v := (pb / pc1)) hx hb hr (fun t ht9 hW => ⟨⟨(pb / pc1), (), rfl, ⟨zd, (Or.inr (⟨h1, (Or.inr (⟨h7, (Or.inr (⟨h10, (Or.inr (⟨h13, (Or.inr (⟨h16, (Or.inl ⟨h19, (Or.inl ⟨z22, rfl⟩)⟩)⟩))⟩))⟩))⟩))⟩))⟩, by rw [ht9]; exact hP, hD⟩, hS.F ht9⟩) hS.2.2 dX13_worked_157
              · have z23 : pc1.toInt = (-1 : Int) := eq_z rfl (show ((-1) : Int32).toInt = (-1 : Int) by decide) h21
                refine lv_iload_n hx hb dX13_worked_149 rfl (lv_at hl 1 rfl) ?_
                refine lv_ineg hx hb dX13_worked_150 ?_
                refine lv_goto (tgt := 157) hx hb dX13_worked_151 (by decide) ?_
                exact W.iret (v := (-pb)) hx hb hr (fun t ht9 hW => ⟨⟨(-pb), (), rfl, ⟨zd, (Or.inr (⟨h1, (Or.inr (⟨h7, (Or.inr (⟨h10, (Or.inr (⟨h13, (Or.inr (⟨h16, (Or.inl ⟨h19, (Or.inr (⟨z23, rfl⟩))⟩)⟩))⟩))⟩))⟩))⟩))⟩, by rw [ht9]; exact hP, hD⟩, hS.F ht9⟩) hS.2.2 dX13_worked_157
            ·
              have z24 : pa.toInt ≠ (47 : Int) := ne_z rfl (show (47 : Int32).toInt = (47 : Int) by decide) h19
              by_cases h25 : pa = 60
              · refine lv_lookup (off := 196) (tgt := 197) hx hb dX13_worked_1 (by decide) (by rw [h25]; decide) (by decide) ?_
                have z26 : pa.toInt = (60 : Int) := eq_z rfl (show (60 : Int32).toInt = (60 : Int) by decide) h25
                refine lv_iload_n hx hb dX13_worked_197 rfl (lv_at hl 1 rfl) ?_
                refine lv_iload_n hx hb dX13_worked_198 rfl (lv_at hl 2 rfl) ?_
                refine lv_icmp_ge (tgt := 206) hx hb dX13_worked_199 (by decide) (fun h27 => ?_) (fun h27 => ?_)
                · have z28 : pc1.toInt ≤ pb.toInt := le_z rfl rfl h27
                  refine lv_iconst (v := 0) hx hb dX13_worked_206 (by decide) ?_
                  refine cu_i (rn_S (n := 1) (As := [.int 0]) (rest := []) hx hb hml hown ht hKK hFx hP hD hS hA (c_m_less l dC dI cI cB cZ cJ cR tb s.heap.size (0 : Int32) ) tw_222 tw_223 (by decide +kernel) rfl rfl ⟨Nat.le_of_ble_eq_true rfl, Nat.le_of_ble_eq_true rfl⟩ [] rfl rfl rfl hl.1 rfl (Nat.le_of_ble_eq_true rfl) dX13_worked_207 ⟨Nat.le_of_ble_eq_true rfl, Nat.le_of_ble_eq_true rfl⟩) hP hD hS hA (fun r31 _ H locs hw29 hP hD hS => ?_)
                  have ex29 := hw29
                  refine W.widen (k := 0) (n := 0) (Nat.le_refl _) (Nat.le_refl _) ?_
                  exact W.iret (v := r31) hx hb hr (fun t ht9 hW => ⟨⟨r31, (), rfl, ⟨zd, (Or.inr (⟨h1, (Or.inr (⟨h7, (Or.inr (⟨h10, (Or.inr (⟨h13, (Or.inr (⟨h16, (Or.inr (⟨h19, (Or.inl ⟨h25, (Or.inl ⟨z28, r31, ex29, rfl⟩)⟩)⟩))⟩))⟩))⟩))⟩))⟩))⟩, by rw [ht9]; exact hP, hD⟩, hS.F ht9⟩) hS.2.2 dX13_worked_210
                · have z32 : pb.toInt < pc1.toInt := nle_z rfl rfl h27
                  refine lv_iconst (v := 1) hx hb dX13_worked_202 (by decide) ?_
                  refine lv_goto (tgt := 207) hx hb dX13_worked_203 (by decide) ?_
                  refine cu_i (rn_S (n := 1) (As := [.int 1]) (rest := []) hx hb hml hown ht hKK hFx hP hD hS hA (c_m_less l dC dI cI cB cZ cJ cR tb s.heap.size (1 : Int32) ) tw_222 tw_223 (by decide +kernel) rfl rfl ⟨Nat.le_of_ble_eq_true rfl, Nat.le_of_ble_eq_true rfl⟩ [] rfl rfl rfl hl.1 rfl (Nat.le_of_ble_eq_true rfl) dX13_worked_207 ⟨Nat.le_of_ble_eq_true rfl, Nat.le_of_ble_eq_true rfl⟩) hP hD hS hA (fun r35 _ H locs hw33 hP hD hS => ?_)
                  have ex33 := hw33
                  refine W.widen (k := 0) (n := 0) (Nat.le_refl _) (Nat.le_refl _) ?_
                  exact W.iret (v := r35) hx hb hr (fun t ht9 hW => ⟨⟨r35, (), rfl, ⟨zd, (Or.inr (⟨h1, (Or.inr (⟨h7, (Or.inr (⟨h10, (Or.inr (⟨h13, (Or.inr (⟨h16, (Or.inr (⟨h19, (Or.inl ⟨h25, (Or.inr (⟨z32, r35, ex33, rfl⟩))⟩)⟩))⟩))⟩))⟩))⟩))⟩))⟩, by rw [ht9]; exact hP, hD⟩, hS.F ht9⟩) hS.2.2 dX13_worked_210
              ·
                have z36 : pa.toInt ≠ (60 : Int) := ne_z rfl (show (60 : Int32).toInt = (60 : Int) by decide) h25
                by_cases h37 : pa = 62
                · refine lv_lookup (off := 210) (tgt := 211) hx hb dX13_worked_1 (by decide) (by rw [h37]; decide) (by decide) ?_
                  have z38 : pa.toInt = (62 : Int) := eq_z rfl (show (62 : Int32).toInt = (62 : Int) by decide) h37
                  refine lv_iload_n hx hb dX13_worked_211 rfl (lv_at hl 1 rfl) ?_
                  refine lv_iload_n hx hb dX13_worked_212 rfl (lv_at hl 2 rfl) ?_
                  refine lv_icmp_le (tgt := 220) hx hb dX13_worked_213 (by decide) (fun h39 => ?_) (fun h39 => ?_)
                  · have z40 : pb.toInt ≤ pc1.toInt := le_z rfl rfl h39
                    refine lv_iconst (v := 0) hx hb dX13_worked_220 (by decide) ?_
                    refine cu_i (rn_S (n := 1) (As := [.int 0]) (rest := []) hx hb hml hown ht hKK hFx hP hD hS hA (c_m_less l dC dI cI cB cZ cJ cR tb s.heap.size (0 : Int32) ) tw_222 tw_223 (by decide +kernel) rfl rfl ⟨Nat.le_of_ble_eq_true rfl, Nat.le_of_ble_eq_true rfl⟩ [] rfl rfl rfl hl.1 rfl (Nat.le_of_ble_eq_true rfl) dX13_worked_221 ⟨Nat.le_of_ble_eq_true rfl, Nat.le_of_ble_eq_true rfl⟩) hP hD hS hA (fun r43 _ H locs hw41 hP hD hS => ?_)
                    have ex41 := hw41
                    refine W.widen (k := 0) (n := 0) (Nat.le_refl _) (Nat.le_refl _) ?_
                    exact W.iret (v := r43) hx hb hr (fun t ht9 hW => ⟨⟨r43, (), rfl, ⟨zd, (Or.inr (⟨h1, (Or.inr (⟨h7, (Or.inr (⟨h10, (Or.inr (⟨h13, (Or.inr (⟨h16, (Or.inr (⟨h19, (Or.inr (⟨h25, (Or.inl ⟨h37, (Or.inl ⟨z40, r43, ex41, rfl⟩)⟩)⟩))⟩))⟩))⟩))⟩))⟩))⟩))⟩, by rw [ht9]; exact hP, hD⟩, hS.F ht9⟩) hS.2.2 dX13_worked_224
                  · have z44 : pc1.toInt < pb.toInt := nle_z rfl rfl h39
                    refine lv_iconst (v := 1) hx hb dX13_worked_216 (by decide) ?_
                    refine lv_goto (tgt := 221) hx hb dX13_worked_217 (by decide) ?_
                    refine cu_i (rn_S (n := 1) (As := [.int 1]) (rest := []) hx hb hml hown ht hKK hFx hP hD hS hA (c_m_less l dC dI cI cB cZ cJ cR tb s.heap.size (1 : Int32) ) tw_222 tw_223 (by decide +kernel) rfl rfl ⟨Nat.le_of_ble_eq_true rfl, Nat.le_of_ble_eq_true rfl⟩ [] rfl rfl rfl hl.1 rfl (Nat.le_of_ble_eq_true rfl) dX13_worked_221 ⟨Nat.le_of_ble_eq_true rfl, Nat.le_of_ble_eq_true rfl⟩) hP hD hS hA (fun r47 _ H locs hw45 hP hD hS => ?_)
                    have ex45 := hw45
                    refine W.widen (k := 0) (n := 0) (Nat.le_refl _) (Nat.le_refl _) ?_
                    exact W.iret (v := r47) hx hb hr (fun t ht9 hW => ⟨⟨r47, (), rfl, ⟨zd, (Or.inr (⟨h1, (Or.inr (⟨h7, (Or.inr (⟨h10, (Or.inr (⟨h13, (Or.inr (⟨h16, (Or.inr (⟨h19, (Or.inr (⟨h25, (Or.inl ⟨h37, (Or.inr (⟨z44, r47, ex45, rfl⟩))⟩)⟩))⟩))⟩))⟩))⟩))⟩))⟩))⟩, by rw [ht9]; exact hP, hD⟩, hS.F ht9⟩) hS.2.2 dX13_worked_224
                ·
                  have z48 : pa.toInt ≠ (62 : Int) := ne_z rfl (show (62 : Int32).toInt = (62 : Int) by decide) h37
                  by_cases h49 : pa = 94
                  · refine lv_lookup (off := 178) (tgt := 179) hx hb dX13_worked_1 (by decide) (by rw [h49]; decide) (by decide) ?_
                    have z50 : pa.toInt = (94 : Int) := eq_z rfl (show (94 : Int32).toInt = (94 : Int) by decide) h49
                    refine lv_iload_n hx hb dX13_worked_179 rfl (lv_at hl 1 rfl) ?_
                    refine lv_iload_n hx hb dX13_worked_180 rfl (lv_at hl 2 rfl) ?_
                    refine lv_ixor hx hb dX13_worked_181 ?_
                    exact W.iret (v := (pb ^^^ pc1)) hx hb hr (fun t ht9 hW => ⟨⟨(pb ^^^ pc1), (), rfl, ⟨zd, (Or.inr (⟨h1, (Or.inr (⟨h7, (Or.inr (⟨h10, (Or.inr (⟨h13, (Or.inr (⟨h16, (Or.inr (⟨h19, (Or.inr (⟨h25, (Or.inr (⟨h37, (Or.inl ⟨h49, rfl⟩)⟩))⟩))⟩))⟩))⟩))⟩))⟩))⟩))⟩, by rw [ht9]; exact hP, hD⟩, hS.F ht9⟩) hS.2.2 dX13_worked_182
                  ·
                    have z51 : pa.toInt ≠ (94 : Int) := ne_z rfl (show (94 : Int32).toInt = (94 : Int) by decide) h49
                    by_cases h52 : pa = 124
                    · refine lv_lookup (off := 174) (tgt := 175) hx hb dX13_worked_1 (by decide) (by rw [h52]; decide) (by decide) ?_
                      have z53 : pa.toInt = (124 : Int) := eq_z rfl (show (124 : Int32).toInt = (124 : Int) by decide) h52
                      refine lv_iload_n hx hb dX13_worked_175 rfl (lv_at hl 1 rfl) ?_
                      refine lv_iload_n hx hb dX13_worked_176 rfl (lv_at hl 2 rfl) ?_
                      refine lv_ior hx hb dX13_worked_177 ?_
                      exact W.iret (v := (pb ||| pc1)) hx hb hr (fun t ht9 hW => ⟨⟨(pb ||| pc1), (), rfl, ⟨zd, (Or.inr (⟨h1, (Or.inr (⟨h7, (Or.inr (⟨h10, (Or.inr (⟨h13, (Or.inr (⟨h16, (Or.inr (⟨h19, (Or.inr (⟨h25, (Or.inr (⟨h37, (Or.inr (⟨h49, (Or.inl ⟨h52, rfl⟩)⟩))⟩))⟩))⟩))⟩))⟩))⟩))⟩))⟩))⟩, by rw [ht9]; exact hP, hD⟩, hS.F ht9⟩) hS.2.2 dX13_worked_178
                    ·
                      have z54 : pa.toInt ≠ (124 : Int) := ne_z rfl (show (124 : Int32).toInt = (124 : Int) by decide) h52
                      by_cases h55 : pa = 15420
                      · refine lv_lookup (off := 182) (tgt := 183) hx hb dX13_worked_1 (by decide) (by rw [h55]; decide) (by decide) ?_
                        have z56 : pa.toInt = (15420 : Int) := eq_z rfl (show (15420 : Int32).toInt = (15420 : Int) by decide) h55
                        refine lv_iload_n hx hb dX13_worked_183 rfl (lv_at hl 1 rfl) ?_
                        refine lv_iload_n hx hb dX13_worked_184 rfl (lv_at hl 2 rfl) ?_
                        refine lv_bipush (v := 31) hx hb dX13_worked_185 (by decide) ?_
                        refine lv_iand hx hb dX13_worked_187 ?_
                        refine lv_ishl hx hb dX13_worked_188 ?_
                        exact W.iret (v := (pb <<< ((pc1 &&& (31 : Int32)) &&& 31))) hx hb hr (fun t ht9 hW => ⟨⟨(pb <<< ((pc1 &&& (31 : Int32)) &&& 31)), (), rfl, ⟨zd, (Or.inr (⟨h1, (Or.inr (⟨h7, (Or.inr (⟨h10, (Or.inr (⟨h13, (Or.inr (⟨h16, (Or.inr (⟨h19, (Or.inr (⟨h25, (Or.inr (⟨h37, (Or.inr (⟨h49, (Or.inr (⟨h52, (Or.inl ⟨h55, rfl⟩)⟩))⟩))⟩))⟩))⟩))⟩))⟩))⟩))⟩))⟩))⟩, by rw [ht9]; exact hP, hD⟩, hS.F ht9⟩) hS.2.2 dX13_worked_189
                      ·
                        have z57 : pa.toInt ≠ (15420 : Int) := ne_z rfl (show (15420 : Int32).toInt = (15420 : Int) by decide) h55
                        by_cases h58 : pa = 15676
                        · refine lv_lookup (off := 224) (tgt := 225) hx hb dX13_worked_1 (by decide) (by rw [h58]; decide) (by decide) ?_
                          have z59 : pa.toInt = (15676 : Int) := eq_z rfl (show (15676 : Int32).toInt = (15676 : Int) by decide) h58
                          refine lv_iload_n hx hb dX13_worked_225 rfl (lv_at hl 1 rfl) ?_
                          refine lv_iload_n hx hb dX13_worked_226 rfl (lv_at hl 2 rfl) ?_
                          refine lv_icmp_gt (tgt := 234) hx hb dX13_worked_227 (by decide) (fun h60 => ?_) (fun h60 => ?_)
                          · have z61 : pc1.toInt < pb.toInt := lt_z rfl rfl h60
                            refine lv_iconst (v := 0) hx hb dX13_worked_234 (by decide) ?_
                            refine cu_i (rn_S (n := 1) (As := [.int 0]) (rest := []) hx hb hml hown ht hKK hFx hP hD hS hA (c_m_less l dC dI cI cB cZ cJ cR tb s.heap.size (0 : Int32) ) tw_222 tw_223 (by decide +kernel) rfl rfl ⟨Nat.le_of_ble_eq_true rfl, Nat.le_of_ble_eq_true rfl⟩ [] rfl rfl rfl hl.1 rfl (Nat.le_of_ble_eq_true rfl) dX13_worked_235 ⟨Nat.le_of_ble_eq_true rfl, Nat.le_of_ble_eq_true rfl⟩) hP hD hS hA (fun r64 _ H locs hw62 hP hD hS => ?_)
                            have ex62 := hw62
                            refine W.widen (k := 0) (n := 0) (Nat.le_refl _) (Nat.le_refl _) ?_
                            exact W.iret (v := r64) hx hb hr (fun t ht9 hW => ⟨⟨r64, (), rfl, ⟨zd, (Or.inr (⟨h1, (Or.inr (⟨h7, (Or.inr (⟨h10, (Or.inr (⟨h13, (Or.inr (⟨h16, (Or.inr (⟨h19, (Or.inr (⟨h25, (Or.inr (⟨h37, (Or.inr (⟨h49, (Or.inr (⟨h52, (Or.inr (⟨h55, (Or.inl ⟨h58, (Or.inl ⟨z61, r64, ex62, rfl⟩)⟩)⟩))⟩))⟩))⟩))⟩))⟩))⟩))⟩))⟩))⟩))⟩))⟩, by rw [ht9]; exact hP, hD⟩, hS.F ht9⟩) hS.2.2 dX13_worked_238
                          · have z65 : pb.toInt ≤ pc1.toInt := nlt_z rfl rfl h60
                            refine lv_iconst (v := 1) hx hb dX13_worked_230 (by decide) ?_
                            refine lv_goto (tgt := 235) hx hb dX13_worked_231 (by decide) ?_
                            refine cu_i (rn_S (n := 1) (As := [.int 1]) (rest := []) hx hb hml hown ht hKK hFx hP hD hS hA (c_m_less l dC dI cI cB cZ cJ cR tb s.heap.size (1 : Int32) ) tw_222 tw_223 (by decide +kernel) rfl rfl ⟨Nat.le_of_ble_eq_true rfl, Nat.le_of_ble_eq_true rfl⟩ [] rfl rfl rfl hl.1 rfl (Nat.le_of_ble_eq_true rfl) dX13_worked_235 ⟨Nat.le_of_ble_eq_true rfl, Nat.le_of_ble_eq_true rfl⟩) hP hD hS hA (fun r68 _ H locs hw66 hP hD hS => ?_)
                            have ex66 := hw66
                            refine W.widen (k := 0) (n := 0) (Nat.le_refl _) (Nat.le_refl _) ?_
                            exact W.iret (v := r68) hx hb hr (fun t ht9 hW => ⟨⟨r68, (), rfl, ⟨zd, (Or.inr (⟨h1, (Or.inr (⟨h7, (Or.inr (⟨h10, (Or.inr (⟨h13, (Or.inr (⟨h16, (Or.inr (⟨h19, (Or.inr (⟨h25, (Or.inr (⟨h37, (Or.inr (⟨h49, (Or.inr (⟨h52, (Or.inr (⟨h55, (Or.inl ⟨h58, (Or.inr (⟨z65, r68, ex66, rfl⟩))⟩)⟩))⟩))⟩))⟩))⟩))⟩))⟩))⟩))⟩))⟩))⟩))⟩, by rw [ht9]; exact hP, hD⟩, hS.F ht9⟩) hS.2.2 dX13_worked_238
                        ·
                          have z69 : pa.toInt ≠ (15676 : Int) := ne_z rfl (show (15676 : Int32).toInt = (15676 : Int) by decide) h58
                          by_cases h70 : pa = 15677
                          · refine lv_lookup (off := 252) (tgt := 253) hx hb dX13_worked_1 (by decide) (by rw [h70]; decide) (by decide) ?_
                            have z71 : pa.toInt = (15677 : Int) := eq_z rfl (show (15677 : Int32).toInt = (15677 : Int) by decide) h70
                            refine lv_iload_n hx hb dX13_worked_253 rfl (lv_at hl 1 rfl) ?_
                            refine lv_iload_n hx hb dX13_worked_254 rfl (lv_at hl 2 rfl) ?_
                            refine lv_icmp_ne (tgt := 262) hx hb dX13_worked_255 (by decide) (fun h72 => ?_) (fun h72 => ?_)
                            · have z73 : pb.toInt ≠ pc1.toInt := ne_z rfl rfl h72
                              refine lv_iconst (v := 0) hx hb dX13_worked_262 (by decide) ?_
                              refine cu_i (rn_S (n := 1) (As := [.int 0]) (rest := []) hx hb hml hown ht hKK hFx hP hD hS hA (c_m_less l dC dI cI cB cZ cJ cR tb s.heap.size (0 : Int32) ) tw_222 tw_223 (by decide +kernel) rfl rfl ⟨Nat.le_of_ble_eq_true rfl, Nat.le_of_ble_eq_true rfl⟩ [] rfl rfl rfl hl.1 rfl (Nat.le_of_ble_eq_true rfl) dX13_worked_263 ⟨Nat.le_of_ble_eq_true rfl, Nat.le_of_ble_eq_true rfl⟩) hP hD hS hA (fun r76 _ H locs hw74 hP hD hS => ?_)
                              have ex74 := hw74
                              refine W.widen (k := 0) (n := 0) (Nat.le_refl _) (Nat.le_refl _) ?_
                              exact W.iret (v := r76) hx hb hr (fun t ht9 hW => ⟨⟨r76, (), rfl, ⟨zd, (Or.inr (⟨h1, (Or.inr (⟨h7, (Or.inr (⟨h10, (Or.inr (⟨h13, (Or.inr (⟨h16, (Or.inr (⟨h19, (Or.inr (⟨h25, (Or.inr (⟨h37, (Or.inr (⟨h49, (Or.inr (⟨h52, (Or.inr (⟨h55, (Or.inr (⟨h58, (Or.inl ⟨h70, (Or.inl ⟨z73, r76, ex74, rfl⟩)⟩)⟩))⟩))⟩))⟩))⟩))⟩))⟩))⟩))⟩))⟩))⟩))⟩))⟩, by rw [ht9]; exact hP, hD⟩, hS.F ht9⟩) hS.2.2 dX13_worked_266
                            · have z77 : pb.toInt = pc1.toInt := eq_z rfl rfl h72
                              refine lv_iconst (v := 1) hx hb dX13_worked_258 (by decide) ?_
                              refine lv_goto (tgt := 263) hx hb dX13_worked_259 (by decide) ?_
                              refine cu_i (rn_S (n := 1) (As := [.int 1]) (rest := []) hx hb hml hown ht hKK hFx hP hD hS hA (c_m_less l dC dI cI cB cZ cJ cR tb s.heap.size (1 : Int32) ) tw_222 tw_223 (by decide +kernel) rfl rfl ⟨Nat.le_of_ble_eq_true rfl, Nat.le_of_ble_eq_true rfl⟩ [] rfl rfl rfl hl.1 rfl (Nat.le_of_ble_eq_true rfl) dX13_worked_263 ⟨Nat.le_of_ble_eq_true rfl, Nat.le_of_ble_eq_true rfl⟩) hP hD hS hA (fun r80 _ H locs hw78 hP hD hS => ?_)
                              have ex78 := hw78
                              refine W.widen (k := 0) (n := 0) (Nat.le_refl _) (Nat.le_refl _) ?_
                              exact W.iret (v := r80) hx hb hr (fun t ht9 hW => ⟨⟨r80, (), rfl, ⟨zd, (Or.inr (⟨h1, (Or.inr (⟨h7, (Or.inr (⟨h10, (Or.inr (⟨h13, (Or.inr (⟨h16, (Or.inr (⟨h19, (Or.inr (⟨h25, (Or.inr (⟨h37, (Or.inr (⟨h49, (Or.inr (⟨h52, (Or.inr (⟨h55, (Or.inr (⟨h58, (Or.inl ⟨h70, (Or.inr (⟨z77, r80, ex78, rfl⟩))⟩)⟩))⟩))⟩))⟩))⟩))⟩))⟩))⟩))⟩))⟩))⟩))⟩))⟩, by rw [ht9]; exact hP, hD⟩, hS.F ht9⟩) hS.2.2 dX13_worked_266
                          ·
                            have z81 : pa.toInt ≠ (15677 : Int) := ne_z rfl (show (15677 : Int32).toInt = (15677 : Int) by decide) h70
                            by_cases h82 : pa = 15678
                            · refine lv_lookup (off := 238) (tgt := 239) hx hb dX13_worked_1 (by decide) (by rw [h82]; decide) (by decide) ?_
                              have z83 : pa.toInt = (15678 : Int) := eq_z rfl (show (15678 : Int32).toInt = (15678 : Int) by decide) h82
                              refine lv_iload_n hx hb dX13_worked_239 rfl (lv_at hl 1 rfl) ?_
                              refine lv_iload_n hx hb dX13_worked_240 rfl (lv_at hl 2 rfl) ?_
                              refine lv_icmp_lt (tgt := 248) hx hb dX13_worked_241 (by decide) (fun h84 => ?_) (fun h84 => ?_)
                              · have z85 : pb.toInt < pc1.toInt := lt_z rfl rfl h84
                                refine lv_iconst (v := 0) hx hb dX13_worked_248 (by decide) ?_
                                refine cu_i (rn_S (n := 1) (As := [.int 0]) (rest := []) hx hb hml hown ht hKK hFx hP hD hS hA (c_m_less l dC dI cI cB cZ cJ cR tb s.heap.size (0 : Int32) ) tw_222 tw_223 (by decide +kernel) rfl rfl ⟨Nat.le_of_ble_eq_true rfl, Nat.le_of_ble_eq_true rfl⟩ [] rfl rfl rfl hl.1 rfl (Nat.le_of_ble_eq_true rfl) dX13_worked_249 ⟨Nat.le_of_ble_eq_true rfl, Nat.le_of_ble_eq_true rfl⟩) hP hD hS hA (fun r88 _ H locs hw86 hP hD hS => ?_)
                                have ex86 := hw86
                                refine W.widen (k := 0) (n := 0) (Nat.le_refl _) (Nat.le_refl _) ?_
                                exact W.iret (v := r88) hx hb hr (fun t ht9 hW => ⟨⟨r88, (), rfl, ⟨zd, (Or.inr (⟨h1, (Or.inr (⟨h7, (Or.inr (⟨h10, (Or.inr (⟨h13, (Or.inr (⟨h16, (Or.inr (⟨h19, (Or.inr (⟨h25, (Or.inr (⟨h37, (Or.inr (⟨h49, (Or.inr (⟨h52, (Or.inr (⟨h55, (Or.inr (⟨h58, (Or.inr (⟨h70, (Or.inl ⟨h82, (Or.inl ⟨z85, r88, ex86, rfl⟩)⟩)⟩))⟩))⟩))⟩))⟩))⟩))⟩))⟩))⟩))⟩))⟩))⟩))⟩))⟩, by rw [ht9]; exact hP, hD⟩, hS.F ht9⟩) hS.2.2 dX13_worked_252
                              · have z89 : pc1.toInt ≤ pb.toInt := nlt_z rfl rfl h84
                                refine lv_iconst (v := 1) hx hb dX13_worked_244 (by decide) ?_
                                refine lv_goto (tgt := 249) hx hb dX13_worked_245 (by decide) ?_
                                refine cu_i (rn_S (n := 1) (As := [.int 1]) (rest := []) hx hb hml hown ht hKK hFx hP hD hS hA (c_m_less l dC dI cI cB cZ cJ cR tb s.heap.size (1 : Int32) ) tw_222 tw_223 (by decide +kernel) rfl rfl ⟨Nat.le_of_ble_eq_true rfl, Nat.le_of_ble_eq_true rfl⟩ [] rfl rfl rfl hl.1 rfl (Nat.le_of_ble_eq_true rfl) dX13_worked_249 ⟨Nat.le_of_ble_eq_true rfl, Nat.le_of_ble_eq_true rfl⟩) hP hD hS hA (fun r92 _ H locs hw90 hP hD hS => ?_)
                                have ex90 := hw90
                                refine W.widen (k := 0) (n := 0) (Nat.le_refl _) (Nat.le_refl _) ?_
                                exact W.iret (v := r92) hx hb hr (fun t ht9 hW => ⟨⟨r92, (), rfl, ⟨zd, (Or.inr (⟨h1, (Or.inr (⟨h7, (Or.inr (⟨h10, (Or.inr (⟨h13, (Or.inr (⟨h16, (Or.inr (⟨h19, (Or.inr (⟨h25, (Or.inr (⟨h37, (Or.inr (⟨h49, (Or.inr (⟨h52, (Or.inr (⟨h55, (Or.inr (⟨h58, (Or.inr (⟨h70, (Or.inl ⟨h82, (Or.inr (⟨z89, r92, ex90, rfl⟩))⟩)⟩))⟩))⟩))⟩))⟩))⟩))⟩))⟩))⟩))⟩))⟩))⟩))⟩))⟩, by rw [ht9]; exact hP, hD⟩, hS.F ht9⟩) hS.2.2 dX13_worked_252
                            ·
                              have z93 : pa.toInt ≠ (15678 : Int) := ne_z rfl (show (15678 : Int32).toInt = (15678 : Int) by decide) h82
                              by_cases h94 : pa = 15934
                              · refine lv_lookup (off := 189) (tgt := 190) hx hb dX13_worked_1 (by decide) (by rw [h94]; decide) (by decide) ?_
                                have z95 : pa.toInt = (15934 : Int) := eq_z rfl (show (15934 : Int32).toInt = (15934 : Int) by decide) h94
                                refine lv_iload_n hx hb dX13_worked_190 rfl (lv_at hl 1 rfl) ?_
                                refine lv_iload_n hx hb dX13_worked_191 rfl (lv_at hl 2 rfl) ?_
                                refine lv_bipush (v := 31) hx hb dX13_worked_192 (by decide) ?_
                                refine lv_iand hx hb dX13_worked_194 ?_
                                refine lv_ishr hx hb dX13_worked_195 ?_
                                exact W.iret (v := (pb >>> ((pc1 &&& (31 : Int32)) &&& 31))) hx hb hr (fun t ht9 hW => ⟨⟨(pb >>> ((pc1 &&& (31 : Int32)) &&& 31)), (), rfl, ⟨zd, (Or.inr (⟨h1, (Or.inr (⟨h7, (Or.inr (⟨h10, (Or.inr (⟨h13, (Or.inr (⟨h16, (Or.inr (⟨h19, (Or.inr (⟨h25, (Or.inr (⟨h37, (Or.inr (⟨h49, (Or.inr (⟨h52, (Or.inr (⟨h55, (Or.inr (⟨h58, (Or.inr (⟨h70, (Or.inr (⟨h82, (Or.inl ⟨h94, rfl⟩)⟩))⟩))⟩))⟩))⟩))⟩))⟩))⟩))⟩))⟩))⟩))⟩))⟩))⟩))⟩, by rw [ht9]; exact hP, hD⟩, hS.F ht9⟩) hS.2.2 dX13_worked_196
                              ·
                                have z96 : pa.toInt ≠ (15934 : Int) := ne_z rfl (show (15934 : Int32).toInt = (15934 : Int) by decide) h94
                                refine lv_lookup (off := 266) (tgt := 267) hx hb dX13_worked_1 (by decide) (by show Op.lookupswitch.offset [(37, 157), (38, 170), (42, 139), (43, 131), (45, 135), (47, 143), (60, 196), (62, 210), (94, 178), (124, 174), (15420, 182), (15676, 224), (15677, 252), (15678, 238), (15934, 189)] 266 _ = 266; rw [lv_osw h1 (by decide), lv_osw h7 (by decide), lv_osw h10 (by decide), lv_osw h13 (by decide), lv_osw h16 (by decide), lv_osw h19 (by decide), lv_osw h25 (by decide), lv_osw h37 (by decide), lv_osw h49 (by decide), lv_osw h52 (by decide), lv_osw h55 (by decide), lv_osw h58 (by decide), lv_osw h70 (by decide), lv_osw h82 (by decide), lv_osw h94 (by decide)]; rfl) (by decide) ?_
                                refine lv_iload_n hx hb dX13_worked_267 rfl (lv_at hl 1 rfl) ?_
                                refine lv_iload_n hx hb dX13_worked_268 rfl (lv_at hl 2 rfl) ?_
                                refine lv_icmp_eq (tgt := 276) hx hb dX13_worked_269 (by decide) (fun h97 => ?_) (fun h97 => ?_)
                                · have z98 : pb.toInt = pc1.toInt := eq_z rfl rfl h97
                                  refine lv_iconst (v := 0) hx hb dX13_worked_276 (by decide) ?_
                                  refine cu_i (rn_S (n := 1) (As := [.int 0]) (rest := []) hx hb hml hown ht hKK hFx hP hD hS hA (c_m_less l dC dI cI cB cZ cJ cR tb s.heap.size (0 : Int32) ) tw_222 tw_223 (by decide +kernel) rfl rfl ⟨Nat.le_of_ble_eq_true rfl, Nat.le_of_ble_eq_true rfl⟩ [] rfl rfl rfl hl.1 rfl (Nat.le_of_ble_eq_true rfl) dX13_worked_277 ⟨Nat.le_of_ble_eq_true rfl, Nat.le_of_ble_eq_true rfl⟩) hP hD hS hA (fun r101 _ H locs hw99 hP hD hS => ?_)
                                  have ex99 := hw99
                                  refine W.widen (k := 0) (n := 0) (Nat.le_refl _) (Nat.le_refl _) ?_
                                  exact W.iret (v := r101) hx hb hr (fun t ht9 hW => ⟨⟨r101, (), rfl, ⟨zd, (Or.inr (⟨h1, (Or.inr (⟨h7, (Or.inr (⟨h10, (Or.inr (⟨h13, (Or.inr (⟨h16, (Or.inr (⟨h19, (Or.inr (⟨h25, (Or.inr (⟨h37, (Or.inr (⟨h49, (Or.inr (⟨h52, (Or.inr (⟨h55, (Or.inr (⟨h58, (Or.inr (⟨h70, (Or.inr (⟨h82, (Or.inr (⟨h94, (Or.inl ⟨z98, r101, ex99, rfl⟩)⟩))⟩))⟩))⟩))⟩))⟩))⟩))⟩))⟩))⟩))⟩))⟩))⟩))⟩))⟩))⟩, by rw [ht9]; exact hP, hD⟩, hS.F ht9⟩) hS.2.2 dX13_worked_280
                                · have z102 : pb.toInt ≠ pc1.toInt := ne_z rfl rfl h97
                                  refine lv_iconst (v := 1) hx hb dX13_worked_272 (by decide) ?_
                                  refine lv_goto (tgt := 277) hx hb dX13_worked_273 (by decide) ?_
                                  refine cu_i (rn_S (n := 1) (As := [.int 1]) (rest := []) hx hb hml hown ht hKK hFx hP hD hS hA (c_m_less l dC dI cI cB cZ cJ cR tb s.heap.size (1 : Int32) ) tw_222 tw_223 (by decide +kernel) rfl rfl ⟨Nat.le_of_ble_eq_true rfl, Nat.le_of_ble_eq_true rfl⟩ [] rfl rfl rfl hl.1 rfl (Nat.le_of_ble_eq_true rfl) dX13_worked_277 ⟨Nat.le_of_ble_eq_true rfl, Nat.le_of_ble_eq_true rfl⟩) hP hD hS hA (fun r105 _ H locs hw103 hP hD hS => ?_)
                                  have ex103 := hw103
                                  refine W.widen (k := 0) (n := 0) (Nat.le_refl _) (Nat.le_refl _) ?_
                                  exact W.iret (v := r105) hx hb hr (fun t ht9 hW => ⟨⟨r105, (), rfl, ⟨zd, (Or.inr (⟨h1, (Or.inr (⟨h7, (Or.inr (⟨h10, (Or.inr (⟨h13, (Or.inr (⟨h16, (Or.inr (⟨h19, (Or.inr (⟨h25, (Or.inr (⟨h37, (Or.inr (⟨h49, (Or.inr (⟨h52, (Or.inr (⟨h55, (Or.inr (⟨h58, (Or.inr (⟨h70, (Or.inr (⟨h82, (Or.inr (⟨h94, (Or.inr (⟨z102, r105, ex103, rfl⟩))⟩))⟩))⟩))⟩))⟩))⟩))⟩))⟩))⟩))⟩))⟩))⟩))⟩))⟩))⟩))⟩, by rw [ht9]; exact hP, hD⟩, hS.F ht9⟩) hS.2.2 dX13_worked_280
