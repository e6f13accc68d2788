theorem dL_code_0 : decode cL_code 0 = .ok (.aload_n 2, 1) := by decide +kernel
theorem dL_code_1 : decode cL_code 1 = .ok (.iconst 0, 1) := by decide +kernel
theorem dL_code_2 : decode cL_code 2 = .ok (.aload_n 0, 1) := by decide +kernel
theorem dL_code_3 : decode cL_code 3 = .ok (.iload_n 1, 1) := by decide +kernel
theorem dL_code_4 : decode cL_code 4 = .ok (.invokevirtual 7, 3) := by decide +kernel
theorem tw_289 : (.code yX11_code cX11_code 2 (some .int) : Cond) ∈ tw_W := tw_in (by decide +kernel) (by decide +kernel)
theorem tw_290 : ∀ w ∈ ([.methodLink RL 7 yX11_code, .instanceMethod yX11_code, .selects RX11 yX11_code yX11_code, .initialized RX11] : List Cond), w ∈ tw_W := tw_all (by decide +kernel)
theorem tw_291 : (.classLink RL 13 "java/lang/IndexOutOfBoundsException" : Cond) ∈ tw_W := tw_in (by decide +kernel) (by decide +kernel)
theorem dL_code_12 : decode cL_code 12 = .ok (.astore_n 3, 1) := by decide +kernel
theorem dL_code_13 : decode cL_code 13 = .ok (.iconst 1, 1) := by decide +kernel
theorem dL_code_14 : decode cL_code 14 = .ok (.ireturn, 1) := by decide +kernel
theorem dL_code_7 : decode cL_code 7 = .ok (.i2l, 1) := by decide +kernel
theorem dL_code_8 : decode cL_code 8 = .ok (.lastore, 1) := by decide +kernel
theorem dL_code_9 : decode cL_code 9 = .ok (.goto 6, 3) := by decide +kernel
theorem dL_code_15 : decode cL_code 15 = .ok (.iconst 0, 1) := by decide +kernel
theorem dL_code_16 : decode cL_code 16 = .ok (.ireturn, 1) := by decide +kernel
theorem dL_find_0 : decode cL_find 0 = .ok (.aload_n 2, 1) := by decide +kernel
theorem dL_find_1 : decode cL_find 1 = .ok (.iconst 0, 1) := by decide +kernel
theorem dL_find_2 : decode cL_find 2 = .ok (.aload_n 0, 1) := by decide +kernel
theorem dL_find_3 : decode cL_find 3 = .ok (.iload_n 1, 1) := by decide +kernel
theorem dL_find_4 : decode cL_find 4 = .ok (.invokevirtual 15, 3) := by decide +kernel
theorem tw_292 : (.code yX11_find cX11_find 5 (some .int) : Cond) ∈ tw_W := tw_in (by decide +kernel) (by decide +kernel)
theorem tw_293 : ∀ w ∈ ([.methodLink RL 15 yX11_find, .instanceMethod yX11_find, .selects RX11 yX11_find yX11_find, .initialized RX11] : List Cond), w ∈ tw_W := tw_all (by decide +kernel)
theorem tw_294 : (.classLink RL 18 "java/lang/IllegalArgumentException" : Cond) ∈ tw_W := tw_in (by decide +kernel) (by decide +kernel)
theorem dL_find_12 : decode cL_find 12 = .ok (.astore_n 3, 1) := by decide +kernel
theorem dL_find_13 : decode cL_find 13 = .ok (.iconst 1, 1) := by decide +kernel
theorem dL_find_14 : decode cL_find 14 = .ok (.ireturn, 1) := by decide +kernel
theorem dL_find_7 : decode cL_find 7 = .ok (.i2l, 1) := by decide +kernel
theorem dL_find_8 : decode cL_find 8 = .ok (.lastore, 1) := by decide +kernel
theorem dL_find_9 : decode cL_find 9 = .ok (.goto 6, 3) := by decide +kernel
theorem dL_find_15 : decode cL_find 15 = .ok (.iconst 0, 1) := by decide +kernel
theorem dL_find_16 : decode cL_find 16 = .ok (.ireturn, 1) := by decide +kernel
theorem dL_run_0 : decode cL_run 0 = .ok (.aload_n 2, 1) := by decide +kernel
theorem dL_run_1 : decode cL_run 1 = .ok (.iconst 0, 1) := by decide +kernel
theorem dL_run_2 : decode cL_run 2 = .ok (.aload_n 0, 1) := by decide +kernel
theorem dL_run_3 : decode cL_run 3 = .ok (.iload_n 1, 1) := by decide +kernel
theorem dL_run_4 : decode cL_run 4 = .ok (.invokevirtual 20, 3) := by decide +kernel
theorem tw_295 : (.code yX11_run cX11_run 2 (some .int) : Cond) ∈ tw_W := tw_in (by decide +kernel) (by decide +kernel)
theorem tw_296 : ∀ w ∈ ([.methodLink RL 20 yX11_run, .instanceMethod yX11_run, .selects RX11 yX11_run yX11_run, .initialized RX11] : List Cond), w ∈ tw_W := tw_all (by decide +kernel)
theorem dL_run_12 : decode cL_run 12 = .ok (.astore_n 3, 1) := by decide +kernel
theorem dL_run_13 : decode cL_run 13 = .ok (.iconst 1, 1) := by decide +kernel
theorem dL_run_14 : decode cL_run 14 = .ok (.ireturn, 1) := by decide +kernel
theorem dL_run_7 : decode cL_run 7 = .ok (.i2l, 1) := by decide +kernel
theorem dL_run_8 : decode cL_run 8 = .ok (.lastore, 1) := by decide +kernel
theorem dL_run_9 : decode cL_run 9 = .ok (.goto 6, 3) := by decide +kernel
theorem dL_run_15 : decode cL_run 15 = .ok (.iconst 0, 1) := by decide +kernel
theorem dL_run_16 : decode cL_run 16 = .ok (.ireturn, 1) := by decide +kernel
theorem dL_register_0 : decode cL_register 0 = .ok (.aload_n 2, 1) := by decide +kernel
theorem dL_register_1 : decode cL_register 1 = .ok (.iconst 0, 1) := by decide +kernel
theorem dL_register_2 : decode cL_register 2 = .ok (.aload_n 0, 1) := by decide +kernel
theorem dL_register_3 : decode cL_register 3 = .ok (.iload_n 1, 1) := by decide +kernel
theorem dL_register_4 : decode cL_register 4 = .ok (.invokevirtual 23, 3) := by decide +kernel
theorem tw_297 : (.code yX11_register cX11_register 2 (some .int) : Cond) ∈ tw_W := tw_in (by decide +kernel) (by decide +kernel)
theorem tw_298 : ∀ w ∈ ([.methodLink RL 23 yX11_register, .instanceMethod yX11_register, .selects RX11 yX11_register yX11_register, .initialized RX11] : List Cond), w ∈ tw_W := tw_all (by decide +kernel)
theorem dL_register_12 : decode cL_register 12 = .ok (.astore_n 3, 1) := by decide +kernel
theorem dL_register_13 : decode cL_register 13 = .ok (.iconst 1, 1) := by decide +kernel
theorem dL_register_14 : decode cL_register 14 = .ok (.ireturn, 1) := by decide +kernel
theorem dL_register_7 : decode cL_register 7 = .ok (.i2l, 1) := by decide +kernel
theorem dL_register_8 : decode cL_register 8 = .ok (.lastore, 1) := by decide +kernel
theorem dL_register_9 : decode cL_register 9 = .ok (.goto 6, 3) := by decide +kernel
theorem dL_register_15 : decode cL_register 15 = .ok (.iconst 0, 1) := by decide +kernel
theorem dL_register_16 : decode cL_register 16 = .ok (.ireturn, 1) := by decide +kernel
theorem dL_set_0 : decode cL_set 0 = .ok (.aload_n 0, 1) := by decide +kernel
theorem dL_set_1 : decode cL_set 1 = .ok (.iload_n 1, 1) := by decide +kernel
theorem dL_set_2 : decode cL_set 2 = .ok (.iload_n 2, 1) := by decide +kernel
theorem dL_set_3 : decode cL_set 3 = .ok (.invokevirtual 26, 3) := by decide +kernel
theorem tw_299 : (.code yX11_set cX11_set 3 none : Cond) ∈ tw_W := tw_in (by decide +kernel) (by decide +kernel)
theorem tw_300 : ∀ w ∈ ([.methodLink RL 26 yX11_set, .instanceMethod yX11_set, .selects RX11 yX11_set yX11_set, .initialized RX11] : List Cond), w ∈ tw_W := tw_all (by decide +kernel)
theorem dL_set_9 : decode cL_set 9 = .ok (.astore_n 3, 1) := by decide +kernel
theorem dL_set_10 : decode cL_set 10 = .ok (.iconst 1, 1) := by decide +kernel
theorem dL_set_11 : decode cL_set 11 = .ok (.ireturn, 1) := by decide +kernel
theorem dL_set_6 : decode cL_set 6 = .ok (.goto 6, 3) := by decide +kernel
theorem dL_set_12 : decode cL_set 12 = .ok (.iconst 0, 1) := by decide +kernel
theorem dL_set_13 : decode cL_set 13 = .ok (.ireturn, 1) := by decide +kernel
theorem dL_word_0 : decode cL_word 0 = .ok (.aload_n 2, 1) := by decide +kernel
theorem dL_word_1 : decode cL_word 1 = .ok (.iconst 0, 1) := by decide +kernel
theorem dL_word_2 : decode cL_word 2 = .ok (.aload_n 0, 1) := by decide +kernel
theorem dL_word_3 : decode cL_word 3 = .ok (.iload_n 1, 1) := by decide +kernel
theorem dL_word_4 : decode cL_word 4 = .ok (.invokevirtual 30, 3) := by decide +kernel
theorem tw_301 : (.code yX11_word cX11_word 2 (some .int) : Cond) ∈ tw_W := tw_in (by decide +kernel) (by decide +kernel)
theorem tw_302 : ∀ w ∈ ([.methodLink RL 30 yX11_word, .instanceMethod yX11_word, .selects RX11 yX11_word yX11_word, .initialized RX11] : List Cond), w ∈ tw_W := tw_all (by decide +kernel)
theorem dL_word_15 : decode cL_word 15 = .ok (.astore_n 3, 1) := by decide +kernel
theorem dL_word_16 : decode cL_word 16 = .ok (.iconst 2, 1) := by decide +kernel
theorem dL_word_17 : decode cL_word 17 = .ok (.ireturn, 1) := by decide +kernel
theorem dL_word_12 : decode cL_word 12 = .ok (.astore_n 3, 1) := by decide +kernel
theorem dL_word_13 : decode cL_word 13 = .ok (.iconst 1, 1) := by decide +kernel
theorem dL_word_14 : decode cL_word 14 = .ok (.ireturn, 1) := by decide +kernel
theorem dL_word_7 : decode cL_word 7 = .ok (.i2l, 1) := by decide +kernel
theorem dL_word_8 : decode cL_word 8 = .ok (.lastore, 1) := by decide +kernel
theorem dL_word_9 : decode cL_word 9 = .ok (.goto 9, 3) := by decide +kernel
theorem dL_word_18 : decode cL_word 18 = .ok (.iconst 0, 1) := by decide +kernel
theorem dL_word_19 : decode cL_word 19 = .ok (.ireturn, 1) := by decide +kernel
theorem dL_poke_0 : decode cL_poke 0 = .ok (.aload_n 0, 1) := by decide +kernel
theorem dL_poke_1 : decode cL_poke 1 = .ok (.iload_n 1, 1) := by decide +kernel
theorem dL_poke_2 : decode cL_poke 2 = .ok (.iload_n 2, 1) := by decide +kernel
theorem dL_poke_3 : decode cL_poke 3 = .ok (.invokevirtual 33, 3) := by decide +kernel
theorem tw_303 : (.code yX11_poke cX11_poke 3 none : Cond) ∈ tw_W := tw_in (by decide +kernel) (by decide +kernel)
theorem tw_304 : ∀ w ∈ ([.methodLink RL 33 yX11_poke, .instanceMethod yX11_poke, .selects RX11 yX11_poke yX11_poke, .initialized RX11] : List Cond), w ∈ tw_W := tw_all (by decide +kernel)
theorem dL_poke_12 : decode cL_poke 12 = .ok (.astore_n 3, 1) := by decide +kernel
theorem dL_poke_13 : decode cL_poke 13 = .ok (.iconst 2, 1) := by decide +kernel
theorem dL_poke_14 : decode cL_poke 14 = .ok (.ireturn, 1) := by decide +kernel
theorem dL_poke_9 : decode cL_poke 9 = .ok (.astore_n 3, 1) := by decide +kernel
theorem dL_poke_10 : decode cL_poke 10 = .ok (.iconst 1, 1) := by decide +kernel
theorem dL_poke_11 : decode cL_poke 11 = .ok (.ireturn, 1) := by decide +kernel
theorem dL_poke_6 : decode cL_poke 6 = .ok (.goto 9, 3) := by decide +kernel
theorem dL_poke_15 : decode cL_poke 15 = .ok (.iconst 0, 1) := by decide +kernel
theorem dL_poke_16 : decode cL_poke 16 = .ok (.ireturn, 1) := by decide +kernel
theorem dL_put_0 : decode cL_put 0 = .ok (.aload_n 2, 1) := by decide +kernel
theorem dL_put_1 : decode cL_put 1 = .ok (.iconst 0, 1) := by decide +kernel
theorem dL_put_2 : decode cL_put 2 = .ok (.aload_n 0, 1) := by decide +kernel
theorem dL_put_3 : decode cL_put 3 = .ok (.iload_n 1, 1) := by decide +kernel
theorem dL_put_4 : decode cL_put 4 = .ok (.invokevirtual 36, 3) := by decide +kernel
theorem tw_305 : (.code yX11_put cX11_put 2 (some .int) : Cond) ∈ tw_W := tw_in (by decide +kernel) (by decide +kernel)
theorem tw_306 : ∀ w ∈ ([.methodLink RL 36 yX11_put, .instanceMethod yX11_put, .selects RX11 yX11_put yX11_put, .initialized RX11] : List Cond), w ∈ tw_W := tw_all (by decide +kernel)
theorem tw_307 : (.classLink RL 39 "java/util/NoSuchElementException" : Cond) ∈ tw_W := tw_in (by decide +kernel) (by decide +kernel)
theorem dL_put_12 : decode cL_put 12 = .ok (.astore_n 3, 1) := by decide +kernel
theorem dL_put_13 : decode cL_put 13 = .ok (.iconst 1, 1) := by decide +kernel
theorem dL_put_14 : decode cL_put 14 = .ok (.ireturn, 1) := by decide +kernel
theorem dL_work_0 : decode cL_work 0 = .ok (.aload 5, 2) := by decide +kernel
theorem dL_work_2 : decode cL_work 2 = .ok (.iconst 0, 1) := by decide +kernel
theorem dL_work_3 : decode cL_work 3 = .ok (.aload_n 0, 1) := by decide +kernel
theorem dL_work_4 : decode cL_work 4 = .ok (.iload_n 1, 1) := by decide +kernel
theorem dL_work_5 : decode cL_work 5 = .ok (.iload_n 2, 1) := by decide +kernel
theorem dL_work_6 : decode cL_work 6 = .ok (.iload_n 3, 1) := by decide +kernel
theorem dL_work_7 : decode cL_work 7 = .ok (.iload 4, 2) := by decide +kernel
theorem dL_work_9 : decode cL_work 9 = .ok (.invokevirtual 41, 3) := by decide +kernel
theorem tw_308 : (.code yX11_work cX11_work 6 (some .int) : Cond) ∈ tw_W := tw_in (by decide +kernel) (by decide +kernel)
theorem tw_309 : ∀ w ∈ ([.methodLink RL 41 yX11_work, .instanceMethod yX11_work, .selects RX11 yX11_work yX11_work, .initialized RX11] : List Cond), w ∈ tw_W := tw_all (by decide +kernel)
theorem dL_work_17 : decode cL_work 17 = .ok (.astore 6, 2) := by decide +kernel
theorem dL_work_19 : decode cL_work 19 = .ok (.iconst 1, 1) := by decide +kernel
theorem dL_work_20 : decode cL_work 20 = .ok (.ireturn, 1) := by decide +kernel
theorem dL_worked_0 : decode cL_worked 0 = .ok (.aload_n 2, 1) := by decide +kernel
theorem dL_worked_1 : decode cL_worked 1 = .ok (.iconst 0, 1) := by decide +kernel
theorem dL_worked_2 : decode cL_worked 2 = .ok (.aload_n 0, 1) := by decide +kernel
theorem dL_worked_3 : decode cL_worked 3 = .ok (.iload_n 1, 1) := by decide +kernel
theorem dL_worked_4 : decode cL_worked 4 = .ok (.invokevirtual 45, 3) := by decide +kernel
theorem tw_310 : (.code yX11_worked cX11_worked 2 (some .int) : Cond) ∈ tw_W := tw_in (by decide +kernel) (by decide +kernel)
theorem tw_311 : ∀ w ∈ ([.methodLink RL 45 yX11_worked, .instanceMethod yX11_worked, .selects RX11 yX11_worked yX11_worked, .initialized RX11] : List Cond), w ∈ tw_W := tw_all (by decide +kernel)
theorem dL_worked_12 : decode cL_worked 12 = .ok (.astore_n 3, 1) := by decide +kernel
theorem dL_worked_13 : decode cL_worked 13 = .ok (.iconst 1, 1) := by decide +kernel
theorem dL_worked_14 : decode cL_worked 14 = .ok (.ireturn, 1) := by decide +kernel
theorem dL_left_0 : decode cL_left 0 = .ok (.aload_n 3, 1) := by decide +kernel
theorem dL_left_1 : decode cL_left 1 = .ok (.iconst 0, 1) := by decide +kernel
theorem dL_left_2 : decode cL_left 2 = .ok (.aload_n 0, 1) := by decide +kernel
theorem dL_left_3 : decode cL_left 3 = .ok (.iload_n 1, 1) := by decide +kernel
theorem dL_left_4 : decode cL_left 4 = .ok (.iload_n 2, 1) := by decide +kernel
theorem dL_left_5 : decode cL_left 5 = .ok (.invokevirtual 48, 3) := by decide +kernel
theorem tw_312 : (.code yX11_left cX11_left 3 (some .int) : Cond) ∈ tw_W := tw_in (by decide +kernel) (by decide +kernel)
theorem tw_313 : ∀ w ∈ ([.methodLink RL 48 yX11_left, .instanceMethod yX11_left, .selects RX11 yX11_left yX11_left, .initialized RX11] : List Cond), w ∈ tw_W := tw_all (by decide +kernel)
theorem dL_left_13 : decode cL_left 13 = .ok (.astore 4, 2) := by decide +kernel
theorem dL_left_15 : decode cL_left 15 = .ok (.iconst 1, 1) := by decide +kernel
theorem dL_left_16 : decode cL_left 16 = .ok (.ireturn, 1) := by decide +kernel
set_option maxHeartbeats 4000000 in
set_option maxRecDepth 100000 in
/-- the law: code -/
theorem c_L_code (l : Launch) (dC : Nat → ClassId) (dI : Nat → Nat → Nat) (cI cB cZ cJ cR : ClassId) (tb : Nat → Nat) (hst : l.stackTraces = false) (sz : Nat) (h0 : Nat) (pa : Int32) (o0 : Nat) (q1 : Nat) (q9 : Nat) (q18 : Nat) (q27 : Nat) (q42 : Nat) (q2 : Nat) (q45 : Nat) (q50 : Nat) (q5 : Nat) (q17 : Nat) (N : Nat) (q11 : Nat) (q12 : Nat) (q13 : Nat) (q14 : Nat) (q15 : Nat) (q16 : Nat) (hf_N_0 : 256 ≤ N) (hf_N_1 : N ≤ 4096) : Met l yL_code (Cond.codeWith yL_code cL_code 4 (some .int) [(0, 9, 12, 13)] :: tw_W) ({ frames := 7, cells := 1, slots := 6, locals := 103 }) (pc_ (dC, dI) (tyS cI cB cZ cJ cR) tb [(h0, .inr (14, [.ref q1, .int 0, .ref q9, .ref q18, .ref q27, .ref q42, .int 0, .int (-1), .ref q2, .ref q45, .ref q50, .ref q5])), (q17, .inl (cI, N, .inl (upd (upd (fun _ => 0) 0 2195) 1 1048691))), (q9, .inr (10, [.ref q11, .int 0, .ref q12, .int 0, .ref q13, .int 0, .ref q14, .ref q15, .ref q16, .int 0, .ref q17, .int 2, .int 8])), (o0, .inl (cJ, 1, .inr (.inl (fun _ => 0))))] sz [.ref h0, .int pa, .ref o0]) (qi_ (dC, dI) [(h0, .inr (14, [.ref q1, .int 0, .ref q9, .ref q18, .ref q27, .ref q42, .int 0, .int (-1), .ref q2, .ref q45, .ref q50, .ref q5])), (q17, .inl (cI, N, .inl (upd (upd (fun _ => 0) 0 2195) 1 1048691))), (q9, .inr (10, [.ref q11, .int 0, .ref q12, .int 0, .ref q13, .int 0, .ref q14, .ref q15, .ref q16, .int 0, .ref q17, .int 2, .int 8])), (o0, .inl (cJ, 1, .inr (.inl (fun _ => 0))))] sz (fun (r : Int32) (u : Nat → Int64) => (¬ (0 ≤ pa) ∧ r = 1) ∨ (0 ≤ pa ∧ r = 0 ∧ u 0 = (((if pa < 0 then 0 else (if 2 ≤ pa then 0 else (if (nI N) ≤ pa then 0 else ((upd (upd (fun _ => 0) 0 2195) 1 1048691) pa.toNatClampNeg)))) : Int32).toInt64))) (fun (u : Nat → Int64) => [(o0, .inl (cJ, 1, .inr (.inl u)))])) 1 6 (va_A [(h0, .inr (14, [.ref q1, .int 0, .ref q9, .ref q18, .ref q27, .ref q42, .int 0, .int (-1), .ref q2, .ref q45, .ref q50, .ref q5])), (q17, .inl (cI, N, .inl (upd (upd (fun _ => 0) 0 2195) 1 1048691))), (q9, .inr (10, [.ref q11, .int 0, .ref q12, .int 0, .ref q13, .int 0, .ref q14, .ref q15, .ref q16, .int 0, .ref q17, .int 2, .int 8])), (o0, .inl (cJ, 1, .inr (.inl (fun _ => 0))))] sz) := by
  refine va_MetW (cc := cL_code) (maxL := 4) (ret := (some .int)) (by decide) rfl ?_
  intro p e s m args below meth c s₁ B hml hv
  obtain ⟨rfl, hsz, hP, hKK, hD0, hFx⟩ := hv
  have hK := hKK.1
  have hx := B.exec
  have hb := B.bytes
  have hr := B.returns
  have ht : ∀ w ∈ tw_W, w.before _ s = true := fun w h => atoms_spec (ws := Cond.codeWith yL_code cL_code 4 (some .int) [(0, 9, 12, 13)] :: tw_W) B.pre w (List.mem_cons_of_mem _ h)
  have htab := vx_table (x := yL_code) B (atoms_spec (ws := Cond.codeWith yL_code cL_code 4 (some .int) [(0, 9, 12, 13)] :: tw_W) B.pre _ List.mem_cons_self)
  have hown : s.vm.findClass RL = some m.cls := findClass_of_methodNamed B.named
  have hlocks := B.notSynchronized
  subst hsz
  unfold qi_
  have hD := hD0.self (sz := s.heap.size)
  generalize hAe : va_A [(h0, .inr (14, [.ref q1, .int 0, .ref q9, .ref q18, .ref q27, .ref q42, .int 0, .int (-1), .ref q2, .ref q45, .ref q50, .ref q5])), (q17, .inl (cI, N, .inl (upd (upd (fun _ => 0) 0 2195) 1 1048691))), (q9, .inr (10, [.ref q11, .int 0, .ref q12, .int 0, .ref q13, .int 0, .ref q14, .ref q15, .ref q16, .int 0, .ref q17, .int 2, .int 8])), (o0, .inl (cJ, 1, .inr (.inl (fun _ => 0))))] s.heap.size = A at hD hFx ⊢
  have hA : ∀ q : Nat, s.heap.size ≤ q → A q := fun q h => by rw [← hAe]; exact Or.inr h
  have hS : va_S A s.heap s.heap [] := va_S.rf
  have hP : va_P (dC, dI) vwCl [(h0, .inr (14, [.ref q1, .int 0, .ref q9, .ref q18, .ref q27, .ref q42, .int 0, .int (-1), .ref q2, .ref q45, .ref q50, .ref q5])), (q17, .inl (cI, N, .inl (upd (upd (fun _ => 0) 0 2195) 1 1048691))), (q9, .inr (10, [.ref q11, .int 0, .ref q12, .int 0, .ref q13, .int 0, .ref q14, .ref q15, .ref q16, .int 0, .ref q17, .int 2, .int 8])), (o0, .inl (cJ, 1, .inr (.inl (fun _ => 0))))] s.heap := hP
  have hl := lv_entry ([.ref h0, .int pa, .ref o0]) (n := 4) (Nat.le_of_ble_eq_true rfl)
  rw [lg_entry_eq]
  generalize (lg_sl ([.ref h0, .int pa, .ref o0]) ++ List.replicate (4 - (lg_sl ([.ref h0, .int pa, .ref o0])).length) Slot.unset).toArray = ls at hl ⊢
  have hl : lv_has ls 4 [(0, .ref h0), (1, .int pa), (2, .ref o0)] := hl
  refine lv_aload_n hx hb dL_code_0 rfl (lv_at hl 2 rfl) ?_
  refine lv_iconst (v := 0) hx hb dL_code_1 (by decide) ?_
  refine lv_aload_n hx hb dL_code_2 rfl (lv_at hl 0 rfl) ?_
  refine lv_iload_n hx hb dL_code_3 rfl (lv_at hl 1 rfl) ?_
  refine ca_xi (wr := [(o0, .inl (cJ, 1, .inr (.inl (fun _ => 0))))]) (rx_V (n := 1) (As := [.int pa]) (rest := [.int 0, .ref o0]) hx hb hml hown ht hKK hFx hP hD hS hA (c_X11_code l dC dI cI cB cZ cJ cR tb hst s.heap.size h0 pa q1 q9 q18 q27 q42 q2 q45 q50 q5 q17 N q11 q12 q13 q14 q15 q16 (by omega) (by omega)) tw_289 tw_290 (by decide +kernel) rfl rfl ⟨Nat.le_of_ble_eq_true rfl, Nat.le_of_ble_eq_true rfl⟩ [0, 1, 2] rfl (by decide) rfl rfl rfl rfl hl.1 rfl (Nat.le_of_ble_eq_true rfl) dL_code_4 ⟨Nat.le_of_ble_eq_true rfl, Nat.le_of_ble_eq_true rfl⟩) hP hD hS hA (isC := [0, 1, 2]) (isR := [3]) rfl rfl (by decide) (by decide) (fun E9 ce9 q9 H locs hx9 hP hD hS hc9 hv9 hf9 => ?_) (fun r2 u H locs hw9 hP hD hS => ?_)
  · rcases hx9 with ⟨h3, rfl⟩
    · refine vx_catch (own := RL) (name := "java/lang/IndexOutOfBoundsException") hown [] ⟨0, 9, 12, 13⟩ [] (by rw [htab]; rfl) (fun z h9 => by simp at h9) (by decide) (by decide) (ht _ tw_291) (va_Nw.use rfl (hKK.2.2.2.2.2.1 _ (List.mem_of_getElem? (i := 0) rfl))) hc9 hv9 hf9 ?_
      refine W.eq (g2 := F0 m 12 ls [.ref q9]) rfl ?_
      have hP : va_P (dC, dI) vwCl [(o0, .inl (cJ, 1, .inr (.inl (fun _ => 0))))] H := hP
      have hD : va_D A [(o0, .inl (cJ, 1, .inr (.inl (fun _ => 0))))] := hD
      refine W.widen (k := 1) (n := 6) (by omega) (by omega) ?_
      refine lv_astore_n (lv' := [(3, .ref q9), (0, .ref h0), (1, .int pa), (2, .ref o0)]) hx hb dL_code_12 rfl hl (by decide) rfl (fun ls hl => ?_)
      refine lv_iconst (v := 1) hx hb dL_code_13 (by decide) ?_
      have hP9 := hP.sub (ws' := [(o0, .inl (cJ, 1, .inr (.inl (fun _ => 0))))]) [0] rfl
      have hD9 := hD.sub (ws' := [(o0, .inl (cJ, 1, .inr (.inl (fun _ => 0))))]) [0] (by decide) rfl
      refine W.widen (k := 1) (n := 6) (by omega) (by omega) ?_
      exact W.iret (v := 1) hx hb hr (fun t ht9 hW => ⟨⟨1, (fun _ => 0), rfl, (Or.inl ⟨h3, rfl⟩), by rw [ht9]; exact hP9, hD9⟩, hS.F ht9⟩) hS.2.2 dL_code_14
  · rcases hw9 with ⟨h4, rfl⟩
    · have hP : va_P (dC, dI) vwCl [(o0, .inl (cJ, 1, .inr (.inl (fun _ => 0))))] H := hP
      have hD : va_D A [(o0, .inl (cJ, 1, .inr (.inl (fun _ => 0))))] := hD
      refine W.widen (k := 1) (n := 6) (by omega) (by omega) ?_
      refine lv_i2l hx hb dL_code_7 rfl ?_
      refine va_last (D := (dC, dI)) hx hb hK hP hD hS 0 3 rfl rfl (vp_in_iff.mpr (by decide)) dL_code_8 (fun H locs hP hD hS => ?_)
      have hP : va_P (dC, dI) vwCl [(o0, .inl (cJ, 1, .inr (.inl (vp_updL (fun _ => 0) 0 (((if pa < 0 then 0 else (if 2 ≤ pa then 0 else (if (nI N) ≤ pa then 0 else ((upd (upd (fun _ => 0) 0 2195) 1 1048691) pa.toNatClampNeg)))) : Int32).toInt64)))))] H := hP
      have hD : va_D A [(o0, .inl (cJ, 1, .inr (.inl (vp_updL (fun _ => 0) 0 (((if pa < 0 then 0 else (if 2 ≤ pa then 0 else (if (nI N) ≤ pa then 0 else ((upd (upd (fun _ => 0) 0 2195) 1 1048691) pa.toNatClampNeg)))) : Int32).toInt64)))))] := hD
      refine lv_goto (tgt := 15) hx hb dL_code_9 (by decide) ?_
      refine lv_iconst (v := 0) hx hb dL_code_15 (by decide) ?_
      have hP9 := hP.sub (ws' := [(o0, .inl (cJ, 1, .inr (.inl (vp_updL (fun _ => 0) 0 (((if pa < 0 then 0 else (if 2 ≤ pa then 0 else (if (nI N) ≤ pa then 0 else ((upd (upd (fun _ => 0) 0 2195) 1 1048691) pa.toNatClampNeg)))) : Int32).toInt64)))))]) [0] rfl
      have hD9 := hD.sub (ws' := [(o0, .inl (cJ, 1, .inr (.inl (vp_updL (fun _ => 0) 0 (((if pa < 0 then 0 else (if 2 ≤ pa then 0 else (if (nI N) ≤ pa then 0 else ((upd (upd (fun _ => 0) 0 2195) 1 1048691) pa.toNatClampNeg)))) : Int32).toInt64)))))]) [0] (by decide) rfl
      refine W.widen (k := 1) (n := 6) (by omega) (by omega) ?_
      exact W.iret (v := 0) hx hb hr (fun t ht9 hW => ⟨⟨0, (vp_updL (fun _ => 0) 0 (((if pa < 0 then 0 else (if 2 ≤ pa then 0 else (if (nI N) ≤ pa then 0 else ((upd (upd (fun _ => 0) 0 2195) 1 1048691) pa.toNatClampNeg)))) : Int32).toInt64)), rfl, (Or.inr (⟨h4, rfl, rfl⟩)), by rw [ht9]; exact hP9, hD9⟩, hS.F ht9⟩) hS.2.2 dL_code_16
set_option maxHeartbeats 4000000 in
set_option maxRecDepth 100000 in
/-- the law: find -/
theorem c_L_find (l : Launch) (dC : Nat → ClassId) (dI : Nat → Nat → Nat) (cI cB cZ cJ cR : ClassId) (tb : Nat → Nat) (hst : l.stackTraces = false) (sz : Nat) (h0 : Nat) (pa : Int32) (o0 : Nat) (q1 : Nat) (q9 : Nat) (q18 : Nat) (q27 : Nat) (q42 : Nat) (q2 : Nat) (q45 : Nat) (q50 : Nat) (q5 : Nat) (q11 : Nat) (q12 : Nat) (q13 : Nat) (q14 : Nat) (q15 : Nat) (q16 : Nat) (q17 : Nat)  : Met l yL_find (Cond.codeWith yL_find cL_find 4 (some .int) [(0, 9, 12, 18)] :: tw_W) ({ frames := 7, cells := 1, slots := 6, locals := 106 }) (pc_ (dC, dI) (tyS cI cB cZ cJ cR) tb [(h0, .inr (14, [.ref q1, .int 0, .ref q9, .ref q18, .ref q27, .ref q42, .int 0, .int (-1), .ref q2, .ref q45, .ref q50, .ref q5])), (q9, .inr (10, [.ref q11, .int 0, .ref q12, .int 0, .ref q13, .int 0, .ref q14, .ref q15, .ref q16, .int 0, .ref q17, .int 2, .int 8])), (o0, .inl (cJ, 1, .inr (.inl (fun _ => 0))))] sz [.ref h0, .int pa, .ref o0]) (qi_ (dC, dI) [(h0, .inr (14, [.ref q1, .int 0, .ref q9, .ref q18, .ref q27, .ref q42, .int 0, .int (-1), .ref q2, .ref q45, .ref q50, .ref q5])), (q9, .inr (10, [.ref q11, .int 0, .ref q12, .int 0, .ref q13, .int 0, .ref q14, .ref q15, .ref q16, .int 0, .ref q17, .int 2, .int 8])), (o0, .inl (cJ, 1, .inr (.inl (fun _ => 0))))] sz (fun (r : Int32) (u : Nat → Int64) => (¬ (pa = 0) ∧ ¬ (pa = 1) ∧ r = 1) ∨ (pa = 0 ∧ r = 0 ∧ u 0 = (-1)) ∨ (¬ (pa = 0) ∧ pa = 1 ∧ r = 0 ∧ u 0 = (-1))) (fun (u : Nat → Int64) => [(o0, .inl (cJ, 1, .inr (.inl u)))])) 1 6 (va_A [(h0, .inr (14, [.ref q1, .int 0, .ref q9, .ref q18, .ref q27, .ref q42, .int 0, .int (-1), .ref q2, .ref q45, .ref q50, .ref q5])), (q9, .inr (10, [.ref q11, .int 0, .ref q12, .int 0, .ref q13, .int 0, .ref q14, .ref q15, .ref q16, .int 0, .ref q17, .int 2, .int 8])), (o0, .inl (cJ, 1, .inr (.inl (fun _ => 0))))] sz) := by
  refine va_MetW (cc := cL_find) (maxL := 4) (ret := (some .int)) (by decide) rfl ?_
  intro p e s m args below meth c s₁ B hml hv
  obtain ⟨rfl, hsz, hP, hKK, hD0, hFx⟩ := hv
  have hK := hKK.1
  have hx := B.exec
  have hb := B.bytes
  have hr := B.returns
  have ht : ∀ w ∈ tw_W, w.before _ s = true := fun w h => atoms_spec (ws := Cond.codeWith yL_find cL_find 4 (some .int) [(0, 9, 12, 18)] :: tw_W) B.pre w (List.mem_cons_of_mem _ h)
  have htab := vx_table (x := yL_find) B (atoms_spec (ws := Cond.codeWith yL_find cL_find 4 (some .int) [(0, 9, 12, 18)] :: tw_W) B.pre _ List.mem_cons_self)
  have hown : s.vm.findClass RL = some m.cls := findClass_of_methodNamed B.named
  have hlocks := B.notSynchronized
  subst hsz
  unfold qi_
  have hD := hD0.self (sz := s.heap.size)
  generalize hAe : va_A [(h0, .inr (14, [.ref q1, .int 0, .ref q9, .ref q18, .ref q27, .ref q42, .int 0, .int (-1), .ref q2, .ref q45, .ref q50, .ref q5])), (q9, .inr (10, [.ref q11, .int 0, .ref q12, .int 0, .ref q13, .int 0, .ref q14, .ref q15, .ref q16, .int 0, .ref q17, .int 2, .int 8])), (o0, .inl (cJ, 1, .inr (.inl (fun _ => 0))))] s.heap.size = A at hD hFx ⊢
  have hA : ∀ q : Nat, s.heap.size ≤ q → A q := fun q h => by rw [← hAe]; exact Or.inr h
  have hS : va_S A s.heap s.heap [] := va_S.rf
  have hP : va_P (dC, dI) vwCl [(h0, .inr (14, [.ref q1, .int 0, .ref q9, .ref q18, .ref q27, .ref q42, .int 0, .int (-1), .ref q2, .ref q45, .ref q50, .ref q5])), (q9, .inr (10, [.ref q11, .int 0, .ref q12, .int 0, .ref q13, .int 0, .ref q14, .ref q15, .ref q16, .int 0, .ref q17, .int 2, .int 8])), (o0, .inl (cJ, 1, .inr (.inl (fun _ => 0))))] s.heap := hP
  have hl := lv_entry ([.ref h0, .int pa, .ref o0]) (n := 4) (Nat.le_of_ble_eq_true rfl)
  rw [lg_entry_eq]
  generalize (lg_sl ([.ref h0, .int pa, .ref o0]) ++ List.replicate (4 - (lg_sl ([.ref h0, .int pa, .ref o0])).length) Slot.unset).toArray = ls at hl ⊢
  have hl : lv_has ls 4 [(0, .ref h0), (1, .int pa), (2, .ref o0)] := hl
  refine lv_aload_n hx hb dL_find_0 rfl (lv_at hl 2 rfl) ?_
  refine lv_iconst (v := 0) hx hb dL_find_1 (by decide) ?_
  refine lv_aload_n hx hb dL_find_2 rfl (lv_at hl 0 rfl) ?_
  refine lv_iload_n hx hb dL_find_3 rfl (lv_at hl 1 rfl) ?_
  refine ca_xi (wr := [(o0, .inl (cJ, 1, .inr (.inl (fun _ => 0))))]) (rx_V (n := 1) (As := [.int pa]) (rest := [.int 0, .ref o0]) hx hb hml hown ht hKK hFx hP hD hS hA (c_X11_find l dC dI cI cB cZ cJ cR tb hst s.heap.size h0 pa q1 q9 q18 q27 q42 q2 q45 q50 q5 q11 q12 q13 q14 q15 q16 q17) tw_292 tw_293 (by decide +kernel) rfl rfl ⟨Nat.le_of_ble_eq_true rfl, Nat.le_of_ble_eq_true rfl⟩ [0, 1] rfl (by decide) rfl rfl rfl rfl hl.1 rfl (Nat.le_of_ble_eq_true rfl) dL_find_4 ⟨Nat.le_of_ble_eq_true rfl, Nat.le_of_ble_eq_true rfl⟩) hP hD hS hA (isC := [0, 1]) (isR := [2]) rfl rfl (by decide) (by decide) (fun E9 ce9 q9 H locs hx9 hP hD hS hc9 hv9 hf9 => ?_) (fun r2 u H locs hw9 hP hD hS => ?_)
  · rcases hx9 with ⟨h3, h4, rfl⟩
    · refine vx_catch (own := RL) (name := "java/lang/IllegalArgumentException") hown [] ⟨0, 9, 12, 18⟩ [] (by rw [htab]; rfl) (fun z h9 => by simp at h9) (by decide) (by decide) (ht _ tw_294) (va_Nw.use rfl (hKK.2.2.2.2.2.1 _ (List.mem_of_getElem? (i := 1) rfl))) hc9 hv9 hf9 ?_
      refine W.eq (g2 := F0 m 12 ls [.ref q9]) rfl ?_
      have hP : va_P (dC, dI) vwCl [(o0, .inl (cJ, 1, .inr (.inl (fun _ => 0))))] H := hP
      have hD : va_D A [(o0, .inl (cJ, 1, .inr (.inl (fun _ => 0))))] := hD
      refine W.widen (k := 1) (n := 6) (by omega) (by omega) ?_
      refine lv_astore_n (lv' := [(3, .ref q9), (0, .ref h0), (1, .int pa), (2, .ref o0)]) hx hb dL_find_12 rfl hl (by decide) rfl (fun ls hl => ?_)
      refine lv_iconst (v := 1) hx hb dL_find_13 (by decide) ?_
      have hP9 := hP.sub (ws' := [(o0, .inl (cJ, 1, .inr (.inl (fun _ => 0))))]) [0] rfl
      have hD9 := hD.sub (ws' := [(o0, .inl (cJ, 1, .inr (.inl (fun _ => 0))))]) [0] (by decide) rfl
      refine W.widen (k := 1) (n := 6) (by omega) (by omega) ?_
      exact W.iret (v := 1) hx hb hr (fun t ht9 hW => ⟨⟨1, (fun _ => 0), rfl, (Or.inl ⟨h3, h4, rfl⟩), by rw [ht9]; exact hP9, hD9⟩, hS.F ht9⟩) hS.2.2 dL_find_14
  · rcases hw9 with ⟨h5, rfl⟩ | ⟨h6, h7, rfl⟩
    · have hP : va_P (dC, dI) vwCl [(o0, .inl (cJ, 1, .inr (.inl (fun _ => 0))))] H := hP
      have hD : va_D A [(o0, .inl (cJ, 1, .inr (.inl (fun _ => 0))))] := hD
      refine W.widen (k := 1) (n := 6) (by omega) (by omega) ?_
      refine lv_i2l (v := (-1)) hx hb dL_find_7 (by decide) ?_
      refine va_last (D := (dC, dI)) hx hb hK hP hD hS 0 3 rfl rfl (vp_in_iff.mpr (by decide)) dL_find_8 (fun H locs hP hD hS => ?_)
      have hP : va_P (dC, dI) vwCl [(o0, .inl (cJ, 1, .inr (.inl (vp_updL (fun _ => 0) 0 (-1)))))] H := hP
      have hD : va_D A [(o0, .inl (cJ, 1, .inr (.inl (vp_updL (fun _ => 0) 0 (-1)))))] := hD
      refine lv_goto (tgt := 15) hx hb dL_find_9 (by decide) ?_
      refine lv_iconst (v := 0) hx hb dL_find_15 (by decide) ?_
      have hP9 := hP.sub (ws' := [(o0, .inl (cJ, 1, .inr (.inl (vp_updL (fun _ => 0) 0 (-1)))))]) [0] rfl
      have hD9 := hD.sub (ws' := [(o0, .inl (cJ, 1, .inr (.inl (vp_updL (fun _ => 0) 0 (-1)))))]) [0] (by decide) rfl
      refine W.widen (k := 1) (n := 6) (by omega) (by omega) ?_
      exact W.iret (v := 0) hx hb hr (fun t ht9 hW => ⟨⟨0, (vp_updL (fun _ => 0) 0 (-1)), rfl, (Or.inr (Or.inl ⟨h5, rfl, rfl⟩)), by rw [ht9]; exact hP9, hD9⟩, hS.F ht9⟩) hS.2.2 dL_find_16
    · have hP : va_P (dC, dI) vwCl [(o0, .inl (cJ, 1, .inr (.inl (fun _ => 0))))] H := hP
      have hD : va_D A [(o0, .inl (cJ, 1, .inr (.inl (fun _ => 0))))] := hD
      refine W.widen (k := 1) (n := 6) (by omega) (by omega) ?_
      refine lv_i2l (v := (-1)) hx hb dL_find_7 (by decide) ?_
      refine va_last (D := (dC, dI)) hx hb hK hP hD hS 0 3 rfl rfl (vp_in_iff.mpr (by decide)) dL_find_8 (fun H locs hP hD hS => ?_)
      have hP : va_P (dC, dI) vwCl [(o0, .inl (cJ, 1, .inr (.inl (vp_updL (fun _ => 0) 0 (-1)))))] H := hP
      have hD : va_D A [(o0, .inl (cJ, 1, .inr (.inl (vp_updL (fun _ => 0) 0 (-1)))))] := hD
      refine lv_goto (tgt := 15) hx hb dL_find_9 (by decide) ?_
      refine lv_iconst (v := 0) hx hb dL_find_15 (by decide) ?_
      have hP9 := hP.sub (ws' := [(o0, .inl (cJ, 1, .inr (.inl (vp_updL (fun _ => 0) 0 (-1)))))]) [0] rfl
      have hD9 := hD.sub (ws' := [(o0, .inl (cJ, 1, .inr (.inl (vp_updL (fun _ => 0) 0 (-1)))))]) [0] (by decide) rfl
      refine W.widen (k := 1) (n := 6) (by omega) (by omega) ?_
      exact W.iret (v := 0) hx hb hr (fun t ht9 hW => ⟨⟨0, (vp_updL (fun _ => 0) 0 (-1)), rfl, (Or.inr (Or.inr (⟨h6, h7, rfl, rfl⟩))), by rw [ht9]; exact hP9, hD9⟩, hS.F ht9⟩) hS.2.2 dL_find_16
set_option maxHeartbeats 4000000 in
set_option maxRecDepth 100000 in
/-- the law: run -/
theorem c_L_run (l : Launch) (dC : Nat → ClassId) (dI : Nat → Nat → Nat) (cI cB cZ cJ cR : ClassId) (tb : Nat → Nat) (hst : l.stackTraces = false) (sz : Nat) (h0 : Nat) (pa : Int32) (o0 : Nat) (q1 : Nat) (q9 : Nat) (q18 : Nat) (q27 : Nat) (q42 : Nat) (q2 : Nat) (q45 : Nat) (q50 : Nat) (q5 : Nat) (q47 : Nat) (q48 : Nat) (q49 : Nat) (N : Nat) (hf_N_0 : 256 ≤ N) (hf_N_1 : N ≤ 4096) : Met l yL_run (Cond.codeWith yL_run cL_run 4 (some .int) [(0, 9, 12, 18)] :: tw_W) ({ frames := 7, cells := 1, slots := 6, locals := 113 }) (pc_ (dC, dI) (tyS cI cB cZ cJ cR) tb [(h0, .inr (14, [.ref q1, .int 0, .ref q9, .ref q18, .ref q27, .ref q42, .int 0, .int (-1), .ref q2, .ref q45, .ref q50, .ref q5])), (q45, .inr (9, [.ref q47, .ref q48, .int 0, .int 0, .int 0, .int 0, .ref q49, .int 0, .ref q2])), (q48, .inl (cI, 32, .inl (fun _ => 0))), (q47, .inl (cI, N, .inl (fun _ => 0))), (o0, .inl (cJ, 1, .inr (.inl (fun _ => 0))))] sz [.ref h0, .int pa, .ref o0]) (qi_ (dC, dI) [(h0, .inr (14, [.ref q1, .int 0, .ref q9, .ref q18, .ref q27, .ref q42, .int 0, .int (-1), .ref q2, .ref q45, .ref q50, .ref q5])), (q45, .inr (9, [.ref q47, .ref q48, .int 0, .int 0, .int 0, .int 0, .ref q49, .int 0, .ref q2])), (q48, .inl (cI, 32, .inl (fun _ => 0))), (q47, .inl (cI, N, .inl (fun _ => 0))), (o0, .inl (cJ, 1, .inr (.inl (fun _ => 0))))] sz (fun (r : Int32) (u : Nat → Int64) => (pa < 0 ∧ r = 1) ∨ (¬ (pa < 0) ∧ ¬ (pa ≤ 50000) ∧ r = 1) ∨ (¬ (pa < 0) ∧ pa ≤ 50000 ∧ r = 0 ∧ u 0 = (((if pa ≤ (0 : Int32) then 0 else 1) : Int32).toInt64))) (fun (u : Nat → Int64) => [(o0, .inl (cJ, 1, .inr (.inl u)))])) 1 6 (va_A [(h0, .inr (14, [.ref q1, .int 0, .ref q9, .ref q18, .ref q27, .ref q42, .int 0, .int (-1), .ref q2, .ref q45, .ref q50, .ref q5])), (q45, .inr (9, [.ref q47, .ref q48, .int 0, .int 0, .int 0, .int 0, .ref q49, .int 0, .ref q2])), (q48, .inl (cI, 32, .inl (fun _ => 0))), (q47, .inl (cI, N, .inl (fun _ => 0))), (o0, .inl (cJ, 1, .inr (.inl (fun _ => 0))))] sz) := by
  refine va_MetW (cc := cL_run) (maxL := 4) (ret := (some .int)) (by decide) rfl ?_
  intro p e s m args below meth c s₁ B hml hv
  obtain ⟨rfl, hsz, hP, hKK, hD0, hFx⟩ := hv
  have hK := hKK.1
  have hx := B.exec
  have hb := B.bytes
  have hr := B.returns
  have ht : ∀ w ∈ tw_W, w.before _ s = true := fun w h => atoms_spec (ws := Cond.codeWith yL_run cL_run 4 (some .int) [(0, 9, 12, 18)] :: tw_W) B.pre w (List.mem_cons_of_mem _ h)
  have htab := vx_table (x := yL_run) B (atoms_spec (ws := Cond.codeWith yL_run cL_run 4 (some .int) [(0, 9, 12, 18)] :: tw_W) B.pre _ List.mem_cons_self)
  have hown : s.vm.findClass RL = some m.cls := findClass_of_methodNamed B.named
  have hlocks := B.notSynchronized
  subst hsz
  unfold qi_
  have hD := hD0.self (sz := s.heap.size)
  generalize hAe : va_A [(h0, .inr (14, [.ref q1, .int 0, .ref q9, .ref q18, .ref q27, .ref q42, .int 0, .int (-1), .ref q2, .ref q45, .ref q50, .ref q5])), (q45, .inr (9, [.ref q47, .ref q48, .int 0, .int 0, .int 0, .int 0, .ref q49, .int 0, .ref q2])), (q48, .inl (cI, 32, .inl (fun _ => 0))), (q47, .inl (cI, N, .inl (fun _ => 0))), (o0, .inl (cJ, 1, .inr (.inl (fun _ => 0))))] s.heap.size = A at hD hFx ⊢
  have hA : ∀ q : Nat, s.heap.size ≤ q → A q := fun q h => by rw [← hAe]; exact Or.inr h
  have hS : va_S A s.heap s.heap [] := va_S.rf
  have hP : va_P (dC, dI) vwCl [(h0, .inr (14, [.ref q1, .int 0, .ref q9, .ref q18, .ref q27, .ref q42, .int 0, .int (-1), .ref q2, .ref q45, .ref q50, .ref q5])), (q45, .inr (9, [.ref q47, .ref q48, .int 0, .int 0, .int 0, .int 0, .ref q49, .int 0, .ref q2])), (q48, .inl (cI, 32, .inl (fun _ => 0))), (q47, .inl (cI, N, .inl (fun _ => 0))), (o0, .inl (cJ, 1, .inr (.inl (fun _ => 0))))] s.heap := hP
  have hl := lv_entry ([.ref h0, .int pa, .ref o0]) (n := 4) (Nat.le_of_ble_eq_true rfl)
  rw [lg_entry_eq]
  generalize (lg_sl ([.ref h0, .int pa, .ref o0]) ++ List.replicate (4 - (lg_sl ([.ref h0, .int pa, .ref o0])).length) Slot.unset).toArray = ls at hl ⊢
  have hl : lv_has ls 4 [(0, .ref h0), (1, .int pa), (2, .ref o0)] := hl
  refine lv_aload_n hx hb dL_run_0 rfl (lv_at hl 2 rfl) ?_
  refine lv_iconst (v := 0) hx hb dL_run_1 (by decide) ?_
  refine lv_aload_n hx hb dL_run_2 rfl (lv_at hl 0 rfl) ?_
  refine lv_iload_n hx hb dL_run_3 rfl (lv_at hl 1 rfl) ?_
  refine ca_xi (wr := [(o0, .inl (cJ, 1, .inr (.inl (fun _ => 0))))]) (rx_V (n := 1) (As := [.int pa]) (rest := [.int 0, .ref o0]) hx hb hml hown ht hKK hFx hP hD hS hA (c_X11_run l dC dI cI cB cZ cJ cR tb hst s.heap.size h0 pa q1 q9 q18 q27 q42 q2 q45 q50 q5 q47 q48 q49 N (by omega) (by omega)) tw_295 tw_296 (by decide +kernel) rfl rfl ⟨Nat.le_of_ble_eq_true rfl, Nat.le_of_ble_eq_true rfl⟩ [0, 1, 2, 3] rfl (by decide) rfl rfl rfl rfl hl.1 rfl (Nat.le_of_ble_eq_true rfl) dL_run_4 ⟨Nat.le_of_ble_eq_true rfl, Nat.le_of_ble_eq_true rfl⟩) hP hD hS hA (isC := [0, 1, 2, 3]) (isR := [4]) rfl rfl (by decide) (by decide) (fun E9 ce9 q9 H locs hx9 hP hD hS hc9 hv9 hf9 => ?_) (fun r2 u H locs hw9 hP hD hS => ?_)
  · rcases hx9 with ⟨h3, rfl⟩ | ⟨h4, h5, rfl⟩
    · refine vx_catch (own := RL) (name := "java/lang/IllegalArgumentException") hown [] ⟨0, 9, 12, 18⟩ [] (by rw [htab]; rfl) (fun z h9 => by simp at h9) (by decide) (by decide) (ht _ tw_294) (va_Nw.use rfl (hKK.2.2.2.2.2.1 _ (List.mem_of_getElem? (i := 1) rfl))) hc9 hv9 hf9 ?_
      refine W.eq (g2 := F0 m 12 ls [.ref q9]) rfl ?_
      have hP : va_P (dC, dI) vwCl [(o0, .inl (cJ, 1, .inr (.inl (fun _ => 0))))] H := hP
      have hD : va_D A [(o0, .inl (cJ, 1, .inr (.inl (fun _ => 0))))] := hD
      refine W.widen (k := 1) (n := 6) (by omega) (by omega) ?_
      refine lv_astore_n (lv' := [(3, .ref q9), (0, .ref h0), (1, .int pa), (2, .ref o0)]) hx hb dL_run_12 rfl hl (by decide) rfl (fun ls hl => ?_)
      refine lv_iconst (v := 1) hx hb dL_run_13 (by decide) ?_
      have hP9 := hP.sub (ws' := [(o0, .inl (cJ, 1, .inr (.inl (fun _ => 0))))]) [0] rfl
      have hD9 := hD.sub (ws' := [(o0, .inl (cJ, 1, .inr (.inl (fun _ => 0))))]) [0] (by decide) rfl
      refine W.widen (k := 1) (n := 6) (by omega) (by omega) ?_
      exact W.iret (v := 1) hx hb hr (fun t ht9 hW => ⟨⟨1, (fun _ => 0), rfl, (Or.inl ⟨h3, rfl⟩), by rw [ht9]; exact hP9, hD9⟩, hS.F ht9⟩) hS.2.2 dL_run_14
    · refine vx_catch (own := RL) (name := "java/lang/IllegalArgumentException") hown [] ⟨0, 9, 12, 18⟩ [] (by rw [htab]; rfl) (fun z h9 => by simp at h9) (by decide) (by decide) (ht _ tw_294) (va_Nw.use rfl (hKK.2.2.2.2.2.1 _ (List.mem_of_getElem? (i := 1) rfl))) hc9 hv9 hf9 ?_
      refine W.eq (g2 := F0 m 12 ls [.ref q9]) rfl ?_
      have hP : va_P (dC, dI) vwCl [(o0, .inl (cJ, 1, .inr (.inl (fun _ => 0))))] H := hP
      have hD : va_D A [(o0, .inl (cJ, 1, .inr (.inl (fun _ => 0))))] := hD
      refine W.widen (k := 1) (n := 6) (by omega) (by omega) ?_
      refine lv_astore_n (lv' := [(3, .ref q9), (0, .ref h0), (1, .int pa), (2, .ref o0)]) hx hb dL_run_12 rfl hl (by decide) rfl (fun ls hl => ?_)
      refine lv_iconst (v := 1) hx hb dL_run_13 (by decide) ?_
      have hP9 := hP.sub (ws' := [(o0, .inl (cJ, 1, .inr (.inl (fun _ => 0))))]) [0] rfl
      have hD9 := hD.sub (ws' := [(o0, .inl (cJ, 1, .inr (.inl (fun _ => 0))))]) [0] (by decide) rfl
      refine W.widen (k := 1) (n := 6) (by omega) (by omega) ?_
      exact W.iret (v := 1) hx hb hr (fun t ht9 hW => ⟨⟨1, (fun _ => 0), rfl, (Or.inr (Or.inl ⟨h4, h5, rfl⟩)), by rw [ht9]; exact hP9, hD9⟩, hS.F ht9⟩) hS.2.2 dL_run_14
  · rcases hw9 with ⟨h6, h7, rfl⟩
    · have hP : va_P (dC, dI) vwCl [(o0, .inl (cJ, 1, .inr (.inl (fun _ => 0))))] H := hP
      have hD : va_D A [(o0, .inl (cJ, 1, .inr (.inl (fun _ => 0))))] := hD
      refine W.widen (k := 1) (n := 6) (by omega) (by omega) ?_
      refine lv_i2l hx hb dL_run_7 rfl ?_
      refine va_last (D := (dC, dI)) hx hb hK hP hD hS 0 3 rfl rfl (vp_in_iff.mpr (by decide)) dL_run_8 (fun H locs hP hD hS => ?_)
      have hP : va_P (dC, dI) vwCl [(o0, .inl (cJ, 1, .inr (.inl (vp_updL (fun _ => 0) 0 (((if pa ≤ (0 : Int32) then 0 else 1) : Int32).toInt64)))))] H := hP
      have hD : va_D A [(o0, .inl (cJ, 1, .inr (.inl (vp_updL (fun _ => 0) 0 (((if pa ≤ (0 : Int32) then 0 else 1) : Int32).toInt64)))))] := hD
      refine lv_goto (tgt := 15) hx hb dL_run_9 (by decide) ?_
      refine lv_iconst (v := 0) hx hb dL_run_15 (by decide) ?_
      have hP9 := hP.sub (ws' := [(o0, .inl (cJ, 1, .inr (.inl (vp_updL (fun _ => 0) 0 (((if pa ≤ (0 : Int32) then 0 else 1) : Int32).toInt64)))))]) [0] rfl
      have hD9 := hD.sub (ws' := [(o0, .inl (cJ, 1, .inr (.inl (vp_updL (fun _ => 0) 0 (((if pa ≤ (0 : Int32) then 0 else 1) : Int32).toInt64)))))]) [0] (by decide) rfl
      refine W.widen (k := 1) (n := 6) (by omega) (by omega) ?_
      exact W.iret (v := 0) hx hb hr (fun t ht9 hW => ⟨⟨0, (vp_updL (fun _ => 0) 0 (((if pa ≤ (0 : Int32) then 0 else 1) : Int32).toInt64)), rfl, (Or.inr (Or.inr (⟨h6, h7, rfl, rfl⟩))), by rw [ht9]; exact hP9, hD9⟩, hS.F ht9⟩) hS.2.2 dL_run_16
set_option maxHeartbeats 4000000 in
set_option maxRecDepth 100000 in
/-- the law: register -/
theorem c_L_register (l : Launch) (dC : Nat → ClassId) (dI : Nat → Nat → Nat) (cI cB cZ cJ cR : ClassId) (tb : Nat → Nat) (hst : l.stackTraces = false) (sz : Nat) (h0 : Nat) (pa : Int32) (o0 : Nat) (q1 : Nat) (q9 : Nat) (q18 : Nat) (q27 : Nat) (q42 : Nat) (q2 : Nat) (q45 : Nat) (q50 : Nat) (q5 : Nat) (q47 : Nat) (q48 : Nat) (q49 : Nat)  : Met l yL_register (Cond.codeWith yL_register cL_register 4 (some .int) [(0, 9, 12, 13)] :: tw_W) ({ frames := 7, cells := 1, slots := 6, locals := 103 }) (pc_ (dC, dI) (tyS cI cB cZ cJ cR) tb [(h0, .inr (14, [.ref q1, .int 0, .ref q9, .ref q18, .ref q27, .ref q42, .int 0, .int (-1), .ref q2, .ref q45, .ref q50, .ref q5])), (q45, .inr (9, [.ref q47, .ref q48, .int 0, .int 0, .int 0, .int 0, .ref q49, .int 0, .ref q2])), (q48, .inl (cI, 32, .inl (fun _ => 0))), (o0, .inl (cJ, 1, .inr (.inl (fun _ => 0))))] sz [.ref h0, .int pa, .ref o0]) (qi_ (dC, dI) [(h0, .inr (14, [.ref q1, .int 0, .ref q9, .ref q18, .ref q27, .ref q42, .int 0, .int (-1), .ref q2, .ref q45, .ref q50, .ref q5])), (q45, .inr (9, [.ref q47, .ref q48, .int 0, .int 0, .int 0, .int 0, .ref q49, .int 0, .ref q2])), (q48, .inl (cI, 32, .inl (fun _ => 0))), (o0, .inl (cJ, 1, .inr (.inl (fun _ => 0))))] sz (fun (r : Int32) (u : Nat → Int64) => (pa < 0 ∧ r = 1) ∨ (¬ (pa < 0) ∧ ¬ (pa ≤ 32) ∧ r = 1) ∨ (¬ (pa < 0) ∧ pa ≤ 32 ∧ ¬ pa = 32 ∧ r = 0 ∧ u 0 = 0) ∨ (¬ (pa < 0) ∧ pa ≤ 32 ∧ pa = 32 ∧ r = 0 ∧ u 0 = 0)) (fun (u : Nat → Int64) => [(o0, .inl (cJ, 1, .inr (.inl u)))])) 1 6 (va_A [(h0, .inr (14, [.ref q1, .int 0, .ref q9, .ref q18, .ref q27, .ref q42, .int 0, .int (-1), .ref q2, .ref q45, .ref q50, .ref q5])), (q45, .inr (9, [.ref q47, .ref q48, .int 0, .int 0, .int 0, .int 0, .ref q49, .int 0, .ref q2])), (q48, .inl (cI, 32, .inl (fun _ => 0))), (o0, .inl (cJ, 1, .inr (.inl (fun _ => 0))))] sz) := by
  refine va_MetW (cc := cL_register) (maxL := 4) (ret := (some .int)) (by decide) rfl ?_
  intro p e s m args below meth c s₁ B hml hv
  obtain ⟨rfl, hsz, hP, hKK, hD0, hFx⟩ := hv
  have hK := hKK.1
  have hx := B.exec
  have hb := B.bytes
  have hr := B.returns
  have ht : ∀ w ∈ tw_W, w.before _ s = true := fun w h => atoms_spec (ws := Cond.codeWith yL_register cL_register 4 (some .int) [(0, 9, 12, 13)] :: tw_W) B.pre w (List.mem_cons_of_mem _ h)
  have htab := vx_table (x := yL_register) B (atoms_spec (ws := Cond.codeWith yL_register cL_register 4 (some .int) [(0, 9, 12, 13)] :: tw_W) B.pre _ List.mem_cons_self)
  have hown : s.vm.findClass RL = some m.cls := findClass_of_methodNamed B.named
  have hlocks := B.notSynchronized
  subst hsz
  unfold qi_
  have hD := hD0.self (sz := s.heap.size)
  generalize hAe : va_A [(h0, .inr (14, [.ref q1, .int 0, .ref q9, .ref q18, .ref q27, .ref q42, .int 0, .int (-1), .ref q2, .ref q45, .ref q50, .ref q5])), (q45, .inr (9, [.ref q47, .ref q48, .int 0, .int 0, .int 0, .int 0, .ref q49, .int 0, .ref q2])), (q48, .inl (cI, 32, .inl (fun _ => 0))), (o0, .inl (cJ, 1, .inr (.inl (fun _ => 0))))] s.heap.size = A at hD hFx ⊢
  have hA : ∀ q : Nat, s.heap.size ≤ q → A q := fun q h => by rw [← hAe]; exact Or.inr h
  have hS : va_S A s.heap s.heap [] := va_S.rf
  have hP : va_P (dC, dI) vwCl [(h0, .inr (14, [.ref q1, .int 0, .ref q9, .ref q18, .ref q27, .ref q42, .int 0, .int (-1), .ref q2, .ref q45, .ref q50, .ref q5])), (q45, .inr (9, [.ref q47, .ref q48, .int 0, .int 0, .int 0, .int 0, .ref q49, .int 0, .ref q2])), (q48, .inl (cI, 32, .inl (fun _ => 0))), (o0, .inl (cJ, 1, .inr (.inl (fun _ => 0))))] s.heap := hP
  have hl := lv_entry ([.ref h0, .int pa, .ref o0]) (n := 4) (Nat.le_of_ble_eq_true rfl)
  rw [lg_entry_eq]
  generalize (lg_sl ([.ref h0, .int pa, .ref o0]) ++ List.replicate (4 - (lg_sl ([.ref h0, .int pa, .ref o0])).length) Slot.unset).toArray = ls at hl ⊢
  have hl : lv_has ls 4 [(0, .ref h0), (1, .int pa), (2, .ref o0)] := hl
  refine lv_aload_n hx hb dL_register_0 rfl (lv_at hl 2 rfl) ?_
  refine lv_iconst (v := 0) hx hb dL_register_1 (by decide) ?_
  refine lv_aload_n hx hb dL_register_2 rfl (lv_at hl 0 rfl) ?_
  refine lv_iload_n hx hb dL_register_3 rfl (lv_at hl 1 rfl) ?_
  refine ca_xi (wr := [(o0, .inl (cJ, 1, .inr (.inl (fun _ => 0))))]) (rx_V (n := 1) (As := [.int pa]) (rest := [.int 0, .ref o0]) hx hb hml hown ht hKK hFx hP hD hS hA (c_X11_register l dC dI cI cB cZ cJ cR tb hst s.heap.size h0 pa q1 q9 q18 q27 q42 q2 q45 q50 q5 q47 q48 q49) tw_297 tw_298 (by decide +kernel) rfl rfl ⟨Nat.le_of_ble_eq_true rfl, Nat.le_of_ble_eq_true rfl⟩ [0, 1, 2] rfl (by decide) rfl rfl rfl rfl hl.1 rfl (Nat.le_of_ble_eq_true rfl) dL_register_4 ⟨Nat.le_of_ble_eq_true rfl, Nat.le_of_ble_eq_true rfl⟩) hP hD hS hA (isC := [0, 1, 2]) (isR := [3]) rfl rfl (by decide) (by decide) (fun E9 ce9 q9 H locs hx9 hP hD hS hc9 hv9 hf9 => ?_) (fun r2 u H locs hw9 hP hD hS => ?_)
  · rcases hx9 with ⟨h3, rfl⟩ | ⟨h4, h5, rfl⟩
    · refine vx_catch (own := RL) (name := "java/lang/IndexOutOfBoundsException") hown [] ⟨0, 9, 12, 13⟩ [] (by rw [htab]; rfl) (fun z h9 => by simp at h9) (by decide) (by decide) (ht _ tw_291) (va_Nw.use rfl (hKK.2.2.2.2.2.1 _ (List.mem_of_getElem? (i := 0) rfl))) hc9 hv9 hf9 ?_
      refine W.eq (g2 := F0 m 12 ls [.ref q9]) rfl ?_
      have hP : va_P (dC, dI) vwCl [(o0, .inl (cJ, 1, .inr (.inl (fun _ => 0))))] H := hP
      have hD : va_D A [(o0, .inl (cJ, 1, .inr (.inl (fun _ => 0))))] := hD
      refine W.widen (k := 1) (n := 6) (by omega) (by omega) ?_
      refine lv_astore_n (lv' := [(3, .ref q9), (0, .ref h0), (1, .int pa), (2, .ref o0)]) hx hb dL_register_12 rfl hl (by decide) rfl (fun ls hl => ?_)
      refine lv_iconst (v := 1) hx hb dL_register_13 (by decide) ?_
      have hP9 := hP.sub (ws' := [(o0, .inl (cJ, 1, .inr (.inl (fun _ => 0))))]) [0] rfl
      have hD9 := hD.sub (ws' := [(o0, .inl (cJ, 1, .inr (.inl (fun _ => 0))))]) [0] (by decide) rfl
      refine W.widen (k := 1) (n := 6) (by omega) (by omega) ?_
      exact W.iret (v := 1) hx hb hr (fun t ht9 hW => ⟨⟨1, (fun _ => 0), rfl, (Or.inl ⟨h3, rfl⟩), by rw [ht9]; exact hP9, hD9⟩, hS.F ht9⟩) hS.2.2 dL_register_14
    · refine vx_catch (own := RL) (name := "java/lang/IndexOutOfBoundsException") hown [] ⟨0, 9, 12, 13⟩ [] (by rw [htab]; rfl) (fun z h9 => by simp at h9) (by decide) (by decide) (ht _ tw_291) (va_Nw.use rfl (hKK.2.2.2.2.2.1 _ (List.mem_of_getElem? (i := 0) rfl))) hc9 hv9 hf9 ?_
      refine W.eq (g2 := F0 m 12 ls [.ref q9]) rfl ?_
      have hP : va_P (dC, dI) vwCl [(o0, .inl (cJ, 1, .inr (.inl (fun _ => 0))))] H := hP
      have hD : va_D A [(o0, .inl (cJ, 1, .inr (.inl (fun _ => 0))))] := hD
      refine W.widen (k := 1) (n := 6) (by omega) (by omega) ?_
      refine lv_astore_n (lv' := [(3, .ref q9), (0, .ref h0), (1, .int pa), (2, .ref o0)]) hx hb dL_register_12 rfl hl (by decide) rfl (fun ls hl => ?_)
      refine lv_iconst (v := 1) hx hb dL_register_13 (by decide) ?_
      have hP9 := hP.sub (ws' := [(o0, .inl (cJ, 1, .inr (.inl (fun _ => 0))))]) [0] rfl
      have hD9 := hD.sub (ws' := [(o0, .inl (cJ, 1, .inr (.inl (fun _ => 0))))]) [0] (by decide) rfl
      refine W.widen (k := 1) (n := 6) (by omega) (by omega) ?_
      exact W.iret (v := 1) hx hb hr (fun t ht9 hW => ⟨⟨1, (fun _ => 0), rfl, (Or.inr (Or.inl ⟨h4, h5, rfl⟩)), by rw [ht9]; exact hP9, hD9⟩, hS.F ht9⟩) hS.2.2 dL_register_14
  · rcases hw9 with ⟨h6, h7, h8, rfl⟩ | ⟨h9, h10, h11, rfl⟩
    · have hP : va_P (dC, dI) vwCl [(o0, .inl (cJ, 1, .inr (.inl (fun _ => 0))))] H := hP
      have hD : va_D A [(o0, .inl (cJ, 1, .inr (.inl (fun _ => 0))))] := hD
      refine W.widen (k := 1) (n := 6) (by omega) (by omega) ?_
      refine lv_i2l (v := 0) hx hb dL_register_7 (by decide) ?_
      refine va_last (D := (dC, dI)) hx hb hK hP hD hS 0 3 rfl rfl (vp_in_iff.mpr (by decide)) dL_register_8 (fun H locs hP hD hS => ?_)
      have hP : va_P (dC, dI) vwCl [(o0, .inl (cJ, 1, .inr (.inl (vp_updL (fun _ => 0) 0 0))))] H := hP
      have hD : va_D A [(o0, .inl (cJ, 1, .inr (.inl (vp_updL (fun _ => 0) 0 0))))] := hD
      refine lv_goto (tgt := 15) hx hb dL_register_9 (by decide) ?_
      refine lv_iconst (v := 0) hx hb dL_register_15 (by decide) ?_
      have hP9 := hP.sub (ws' := [(o0, .inl (cJ, 1, .inr (.inl (vp_updL (fun _ => 0) 0 0))))]) [0] rfl
      have hD9 := hD.sub (ws' := [(o0, .inl (cJ, 1, .inr (.inl (vp_updL (fun _ => 0) 0 0))))]) [0] (by decide) rfl
      refine W.widen (k := 1) (n := 6) (by omega) (by omega) ?_
      exact W.iret (v := 0) hx hb hr (fun t ht9 hW => ⟨⟨0, (vp_updL (fun _ => 0) 0 0), rfl, (Or.inr (Or.inr (Or.inl ⟨h6, h7, h8, rfl, rfl⟩))), by rw [ht9]; exact hP9, hD9⟩, hS.F ht9⟩) hS.2.2 dL_register_16
    · have hP : va_P (dC, dI) vwCl [(o0, .inl (cJ, 1, .inr (.inl (fun _ => 0))))] H := hP
      have hD : va_D A [(o0, .inl (cJ, 1, .inr (.inl (fun _ => 0))))] := hD
      refine W.widen (k := 1) (n := 6) (by omega) (by omega) ?_
      refine lv_i2l (v := 0) hx hb dL_register_7 (by decide) ?_
      refine va_last (D := (dC, dI)) hx hb hK hP hD hS 0 3 rfl rfl (vp_in_iff.mpr (by decide)) dL_register_8 (fun H locs hP hD hS => ?_)
      have hP : va_P (dC, dI) vwCl [(o0, .inl (cJ, 1, .inr (.inl (vp_updL (fun _ => 0) 0 0))))] H := hP
      have hD : va_D A [(o0, .inl (cJ, 1, .inr (.inl (vp_updL (fun _ => 0) 0 0))))] := hD
      refine lv_goto (tgt := 15) hx hb dL_register_9 (by decide) ?_
      refine lv_iconst (v := 0) hx hb dL_register_15 (by decide) ?_
      have hP9 := hP.sub (ws' := [(o0, .inl (cJ, 1, .inr (.inl (vp_updL (fun _ => 0) 0 0))))]) [0] rfl
      have hD9 := hD.sub (ws' := [(o0, .inl (cJ, 1, .inr (.inl (vp_updL (fun _ => 0) 0 0))))]) [0] (by decide) rfl
      refine W.widen (k := 1) (n := 6) (by omega) (by omega) ?_
      exact W.iret (v := 0) hx hb hr (fun t ht9 hW => ⟨⟨0, (vp_updL (fun _ => 0) 0 0), rfl, (Or.inr (Or.inr (Or.inr (⟨h9, h10, h11, rfl, rfl⟩)))), by rw [ht9]; exact hP9, hD9⟩, hS.F ht9⟩) hS.2.2 dL_register_16
set_option maxHeartbeats 4000000 in
set_option maxRecDepth 100000 in
/-- the law: set -/
theorem c_L_set (l : Launch) (dC : Nat → ClassId) (dI : Nat → Nat → Nat) (cI cB cZ cJ cR : ClassId) (tb : Nat → Nat) (hst : l.stackTraces = false) (sz : Nat) (h0 : Nat) (pa : Int32) (pb : Int32) (q1 : Nat) (q9 : Nat) (q18 : Nat) (q27 : Nat) (q42 : Nat) (q2 : Nat) (q45 : Nat) (q50 : Nat) (q5 : Nat) (q47 : Nat) (q48 : Nat) (q49 : Nat)  : Met l yL_set (Cond.codeWith yL_set cL_set 4 (some .int) [(0, 6, 9, 13)] :: tw_W) ({ frames := 7, cells := 1, slots := 6, locals := 104 }) (pc_ (dC, dI) (tyS cI cB cZ cJ cR) tb [(h0, .inr (14, [.ref q1, .int 0, .ref q9, .ref q18, .ref q27, .ref q42, .int 0, .int (-1), .ref q2, .ref q45, .ref q50, .ref q5])), (q45, .inr (9, [.ref q47, .ref q48, .int 0, .int 0, .int 0, .int 0, .ref q49, .int 0, .ref q2])), (q48, .inl (cI, 32, .inl (fun _ => 0)))] sz [.ref h0, .int pa, .int pb]) (qi_ (dC, dI) [(h0, .inr (14, [.ref q1, .int 0, .ref q9, .ref q18, .ref q27, .ref q42, .int 0, .int (-1), .ref q2, .ref q45, .ref q50, .ref q5])), (q45, .inr (9, [.ref q47, .ref q48, .int 0, .int 0, .int 0, .int 0, .ref q49, .int 0, .ref q2])), (q48, .inl (cI, 32, .inl (fun _ => 0)))] sz (fun (r : Int32) (u : Unit) => (pa < 0 ∧ r = 1) ∨ (¬ (pa < 0) ∧ ¬ (pa ≤ 32) ∧ r = 1) ∨ (¬ (pa < 0) ∧ pa ≤ 32 ∧ r = 0)) (fun (u : Unit) => [])) 1 6 (va_A [(h0, .inr (14, [.ref q1, .int 0, .ref q9, .ref q18, .ref q27, .ref q42, .int 0, .int (-1), .ref q2, .ref q45, .ref q50, .ref q5])), (q45, .inr (9, [.ref q47, .ref q48, .int 0, .int 0, .int 0, .int 0, .ref q49, .int 0, .ref q2])), (q48, .inl (cI, 32, .inl (fun _ => 0)))] sz) := by
  refine va_MetW (cc := cL_set) (maxL := 4) (ret := (some .int)) (by decide) rfl ?_
  intro p e s m args below meth c s₁ B hml hv
  obtain ⟨rfl, hsz, hP, hKK, hD0, hFx⟩ := hv
  have hK := hKK.1
  have hx := B.exec
  have hb := B.bytes
  have hr := B.returns
  have ht : ∀ w ∈ tw_W, w.before _ s = true := fun w h => atoms_spec (ws := Cond.codeWith yL_set cL_set 4 (some .int) [(0, 6, 9, 13)] :: tw_W) B.pre w (List.mem_cons_of_mem _ h)
  have htab := vx_table (x := yL_set) B (atoms_spec (ws := Cond.codeWith yL_set cL_set 4 (some .int) [(0, 6, 9, 13)] :: tw_W) B.pre _ List.mem_cons_self)
  have hown : s.vm.findClass RL = some m.cls := findClass_of_methodNamed B.named
  have hlocks := B.notSynchronized
  subst hsz
  unfold qi_
  have hD := hD0.self (sz := s.heap.size)
  generalize hAe : va_A [(h0, .inr (14, [.ref q1, .int 0, .ref q9, .ref q18, .ref q27, .ref q42, .int 0, .int (-1), .ref q2, .ref q45, .ref q50, .ref q5])), (q45, .inr (9, [.ref q47, .ref q48, .int 0, .int 0, .int 0, .int 0, .ref q49, .int 0, .ref q2])), (q48, .inl (cI, 32, .inl (fun _ => 0)))] s.heap.size = A at hD hFx ⊢
  have hA : ∀ q : Nat, s.heap.size ≤ q → A q := fun q h => by rw [← hAe]; exact Or.inr h
  have hS : va_S A s.heap s.heap [] := va_S.rf
  have hP : va_P (dC, dI) vwCl [(h0, .inr (14, [.ref q1, .int 0, .ref q9, .ref q18, .ref q27, .ref q42, .int 0, .int (-1), .ref q2, .ref q45, .ref q50, .ref q5])), (q45, .inr (9, [.ref q47, .ref q48, .int 0, .int 0, .int 0, .int 0, .ref q49, .int 0, .ref q2])), (q48, .inl (cI, 32, .inl (fun _ => 0)))] s.heap := hP
  have hl := lv_entry ([.ref h0, .int pa, .int pb]) (n := 4) (Nat.le_of_ble_eq_true rfl)
  rw [lg_entry_eq]
  generalize (lg_sl ([.ref h0, .int pa, .int pb]) ++ List.replicate (4 - (lg_sl ([.ref h0, .int pa, .int pb])).length) Slot.unset).toArray = ls at hl ⊢
  have hl : lv_has ls 4 [(0, .ref h0), (1, .int pa), (2, .int pb)] := hl
  refine lv_aload_n hx hb dL_set_0 rfl (lv_at hl 0 rfl) ?_
  refine lv_iload_n hx hb dL_set_1 rfl (lv_at hl 1 rfl) ?_
  refine lv_iload_n hx hb dL_set_2 rfl (lv_at hl 2 rfl) ?_
  refine ca_xv (wr := []) (rx_V (n := 2) (As := [.int pa, .int pb]) (rest := []) hx hb hml hown ht hKK hFx hP hD hS hA (c_X11_set l dC dI cI cB cZ cJ cR tb hst s.heap.size h0 pa pb q1 q9 q18 q27 q42 q2 q45 q50 q5 q47 q48 q49) tw_299 tw_300 (by decide +kernel) rfl rfl ⟨Nat.le_of_ble_eq_true rfl, Nat.le_of_ble_eq_true rfl⟩ [0, 1, 2] rfl (by decide) rfl rfl rfl rfl hl.1 rfl (Nat.le_of_ble_eq_true rfl) dL_set_3 ⟨Nat.le_of_ble_eq_true rfl, Nat.le_of_ble_eq_true rfl⟩) hP hD hS hA (isC := [0, 1, 2]) (isR := []) rfl rfl (by decide) (by decide) (fun E9 ce9 q9 H locs hx9 hP hD hS hc9 hv9 hf9 => ?_) (fun u H locs hw9 hP hD hS => ?_)
  · rcases hx9 with ⟨h3, rfl⟩ | ⟨h4, h5, rfl⟩
    · refine vx_catch (own := RL) (name := "java/lang/IndexOutOfBoundsException") hown [] ⟨0, 6, 9, 13⟩ [] (by rw [htab]; rfl) (fun z h9 => by simp at h9) (by decide) (by decide) (ht _ tw_291) (va_Nw.use rfl (hKK.2.2.2.2.2.1 _ (List.mem_of_getElem? (i := 0) rfl))) hc9 hv9 hf9 ?_
      refine W.eq (g2 := F0 m 9 ls [.ref q9]) rfl ?_
      have hP : va_P (dC, dI) vwCl [] H := hP
      have hD : va_D A [] := hD
      refine W.widen (k := 1) (n := 6) (by omega) (by omega) ?_
      refine lv_astore_n (lv' := [(3, .ref q9), (0, .ref h0), (1, .int pa), (2, .int pb)]) hx hb dL_set_9 rfl hl (by decide) rfl (fun ls hl => ?_)
      refine lv_iconst (v := 1) hx hb dL_set_10 (by decide) ?_
      have hP9 := hP.sub (ws' := []) [] rfl
      have hD9 := hD.sub (ws' := []) [] (by decide) rfl
      refine W.widen (k := 1) (n := 6) (by omega) (by omega) ?_
      exact W.iret (v := 1) hx hb hr (fun t ht9 hW => ⟨⟨1, (), rfl, (Or.inl ⟨h3, rfl⟩), by rw [ht9]; exact hP9, hD9⟩, hS.F ht9⟩) hS.2.2 dL_set_11
    · refine vx_catch (own := RL) (name := "java/lang/IndexOutOfBoundsException") hown [] ⟨0, 6, 9, 13⟩ [] (by rw [htab]; rfl) (fun z h9 => by simp at h9) (by decide) (by decide) (ht _ tw_291) (va_Nw.use rfl (hKK.2.2.2.2.2.1 _ (List.mem_of_getElem? (i := 0) rfl))) hc9 hv9 hf9 ?_
      refine W.eq (g2 := F0 m 9 ls [.ref q9]) rfl ?_
      have hP : va_P (dC, dI) vwCl [] H := hP
      have hD : va_D A [] := hD
      refine W.widen (k := 1) (n := 6) (by omega) (by omega) ?_
      refine lv_astore_n (lv' := [(3, .ref q9), (0, .ref h0), (1, .int pa), (2, .int pb)]) hx hb dL_set_9 rfl hl (by decide) rfl (fun ls hl => ?_)
      refine lv_iconst (v := 1) hx hb dL_set_10 (by decide) ?_
      have hP9 := hP.sub (ws' := []) [] rfl
      have hD9 := hD.sub (ws' := []) [] (by decide) rfl
      refine W.widen (k := 1) (n := 6) (by omega) (by omega) ?_
      exact W.iret (v := 1) hx hb hr (fun t ht9 hW => ⟨⟨1, (), rfl, (Or.inr (Or.inl ⟨h4, h5, rfl⟩)), by rw [ht9]; exact hP9, hD9⟩, hS.F ht9⟩) hS.2.2 dL_set_11
  · rcases hw9 with ⟨h6, h7, _⟩
    · have hP : va_P (dC, dI) vwCl [] H := hP
      have hD : va_D A [] := hD
      refine W.widen (k := 1) (n := 6) (by omega) (by omega) ?_
      refine lv_goto (tgt := 12) hx hb dL_set_6 (by decide) ?_
      refine lv_iconst (v := 0) hx hb dL_set_12 (by decide) ?_
      have hP9 := hP.sub (ws' := []) [] rfl
      have hD9 := hD.sub (ws' := []) [] (by decide) rfl
      refine W.widen (k := 1) (n := 6) (by omega) (by omega) ?_
      exact W.iret (v := 0) hx hb hr (fun t ht9 hW => ⟨⟨0, (), rfl, (Or.inr (Or.inr (⟨h6, h7, rfl⟩))), by rw [ht9]; exact hP9, hD9⟩, hS.F ht9⟩) hS.2.2 dL_set_13
set_option maxHeartbeats 4000000 in
set_option maxRecDepth 100000 in
/-- the law: word -/
theorem c_L_word (l : Launch) (dC : Nat → ClassId) (dI : Nat → Nat → Nat) (cI cB cZ cJ cR : ClassId) (tb : Nat → Nat) (hst : l.stackTraces = false) (sz : Nat) (h0 : Nat) (pa : Int32) (o0 : Nat) (q1 : Nat) (q9 : Nat) (q18 : Nat) (q27 : Nat) (q42 : Nat) (q2 : Nat) (q45 : Nat) (q50 : Nat) (q5 : Nat) (q47 : Nat) (q48 : Nat) (q49 : Nat) (N : Nat) (hf_N_0 : 256 ≤ N) (hf_N_1 : N ≤ 4096) : Met l yL_word (Cond.codeWith yL_word cL_word 4 (some .int) [(0, 9, 12, 18), (0, 9, 15, 13)] :: tw_W) ({ frames := 8, cells := 1, slots := 6, locals := 124 }) (pc_ (dC, dI) (tyS cI cB cZ cJ cR) tb [(h0, .inr (14, [.ref q1, .int 0, .ref q9, .ref q18, .ref q27, .ref q42, .int 0, .int (-1), .ref q2, .ref q45, .ref q50, .ref q5])), (q45, .inr (9, [.ref q47, .ref q48, .int 0, .int 0, .int 0, .int 0, .ref q49, .int 0, .ref q2])), (q47, .inl (cI, N, .inl (fun _ => 0))), (o0, .inl (cJ, 1, .inr (.inl (fun _ => 0))))] sz [.ref h0, .int pa, .ref o0]) (qi_ (dC, dI) [(h0, .inr (14, [.ref q1, .int 0, .ref q9, .ref q18, .ref q27, .ref q42, .int 0, .int (-1), .ref q2, .ref q45, .ref q50, .ref q5])), (q45, .inr (9, [.ref q47, .ref q48, .int 0, .int 0, .int 0, .int 0, .ref q49, .int 0, .ref q2])), (q47, .inl (cI, N, .inl (fun _ => 0))), (o0, .inl (cJ, 1, .inr (.inl (fun _ => 0))))] sz (fun (r : Int32) (u : Nat → Int64) => ((pa &&& 3) = 0 ∧ ((if (pa &&& 3) = 0 then (if (nI N) ≤ ((pa.toUInt32 >>> ((2 : Int32).toUInt32 &&& Int32.toUInt32 31)).toInt32) then 0 else 1) else 0) : Int32) = 0 ∧ r = 2) ∨ (¬ ((pa &&& 3) = 0) ∧ r = 1) ∨ ((pa &&& 3) = 0 ∧ ¬ ((if (pa &&& 3) = 0 then (if (nI N) ≤ ((pa.toUInt32 >>> ((2 : Int32).toUInt32 &&& Int32.toUInt32 31)).toInt32) then 0 else 1) else 0) : Int32) = 0 ∧ r = 0 ∧ u 0 = 0)) (fun (u : Nat → Int64) => [(o0, .inl (cJ, 1, .inr (.inl u)))])) 1 6 (va_A [(h0, .inr (14, [.ref q1, .int 0, .ref q9, .ref q18, .ref q27, .ref q42, .int 0, .int (-1), .ref q2, .ref q45, .ref q50, .ref q5])), (q45, .inr (9, [.ref q47, .ref q48, .int 0, .int 0, .int 0, .int 0, .ref q49, .int 0, .ref q2])), (q47, .inl (cI, N, .inl (fun _ => 0))), (o0, .inl (cJ, 1, .inr (.inl (fun _ => 0))))] sz) := by
  refine va_MetW (cc := cL_word) (maxL := 4) (ret := (some .int)) (by decide) rfl ?_
  intro p e s m args below meth c s₁ B hml hv
  obtain ⟨rfl, hsz, hP, hKK, hD0, hFx⟩ := hv
  have hK := hKK.1
  have hx := B.exec
  have hb := B.bytes
  have hr := B.returns
  have ht : ∀ w ∈ tw_W, w.before _ s = true := fun w h => atoms_spec (ws := Cond.codeWith yL_word cL_word 4 (some .int) [(0, 9, 12, 18), (0, 9, 15, 13)] :: tw_W) B.pre w (List.mem_cons_of_mem _ h)
  have htab := vx_table (x := yL_word) B (atoms_spec (ws := Cond.codeWith yL_word cL_word 4 (some .int) [(0, 9, 12, 18), (0, 9, 15, 13)] :: tw_W) B.pre _ List.mem_cons_self)
  have hown : s.vm.findClass RL = some m.cls := findClass_of_methodNamed B.named
  have hlocks := B.notSynchronized
  subst hsz
  unfold qi_
  have hD := hD0.self (sz := s.heap.size)
  generalize hAe : va_A [(h0, .inr (14, [.ref q1, .int 0, .ref q9, .ref q18, .ref q27, .ref q42, .int 0, .int (-1), .ref q2, .ref q45, .ref q50, .ref q5])), (q45, .inr (9, [.ref q47, .ref q48, .int 0, .int 0, .int 0, .int 0, .ref q49, .int 0, .ref q2])), (q47, .inl (cI, N, .inl (fun _ => 0))), (o0, .inl (cJ, 1, .inr (.inl (fun _ => 0))))] s.heap.size = A at hD hFx ⊢
  have hA : ∀ q : Nat, s.heap.size ≤ q → A q := fun q h => by rw [← hAe]; exact Or.inr h
  have hS : va_S A s.heap s.heap [] := va_S.rf
  have hP : va_P (dC, dI) vwCl [(h0, .inr (14, [.ref q1, .int 0, .ref q9, .ref q18, .ref q27, .ref q42, .int 0, .int (-1), .ref q2, .ref q45, .ref q50, .ref q5])), (q45, .inr (9, [.ref q47, .ref q48, .int 0, .int 0, .int 0, .int 0, .ref q49, .int 0, .ref q2])), (q47, .inl (cI, N, .inl (fun _ => 0))), (o0, .inl (cJ, 1, .inr (.inl (fun _ => 0))))] s.heap := hP
  have hl := lv_entry ([.ref h0, .int pa, .ref o0]) (n := 4) (Nat.le_of_ble_eq_true rfl)
  rw [lg_entry_eq]
  generalize (lg_sl ([.ref h0, .int pa, .ref o0]) ++ List.replicate (4 - (lg_sl ([.ref h0, .int pa, .ref o0])).length) Slot.unset).toArray = ls at hl ⊢
  have hl : lv_has ls 4 [(0, .ref h0), (1, .int pa), (2, .ref o0)] := hl
  refine lv_aload_n hx hb dL_word_0 rfl (lv_at hl 2 rfl) ?_
  refine lv_iconst (v := 0) hx hb dL_word_1 (by decide) ?_
  refine lv_aload_n hx hb dL_word_2 rfl (lv_at hl 0 rfl) ?_
  refine lv_iload_n hx hb dL_word_3 rfl (lv_at hl 1 rfl) ?_
  refine ca_xi (wr := [(o0, .inl (cJ, 1, .inr (.inl (fun _ => 0))))]) (rx_V (n := 1) (As := [.int pa]) (rest := [.int 0, .ref o0]) hx hb hml hown ht hKK hFx hP hD hS hA (c_X11_word l dC dI cI cB cZ cJ cR tb hst s.heap.size h0 pa q1 q9 q18 q27 q42 q2 q45 q50 q5 q47 q48 q49 N (by omega) (by omega)) tw_301 tw_302 (by decide +kernel) rfl rfl ⟨Nat.le_of_ble_eq_true rfl, Nat.le_of_ble_eq_true rfl⟩ [0, 1, 2] rfl (by decide) rfl rfl rfl rfl hl.1 rfl (Nat.le_of_ble_eq_true rfl) dL_word_4 ⟨Nat.le_of_ble_eq_true rfl, Nat.le_of_ble_eq_true rfl⟩) hP hD hS hA (isC := [0, 1, 2]) (isR := [3]) rfl rfl (by decide) (by decide) (fun E9 ce9 q9 H locs hx9 hP hD hS hc9 hv9 hf9 => ?_) (fun r2 u H locs hw9 hP hD hS => ?_)
  · rcases hx9 with ⟨h3, h4, rfl⟩ | ⟨h5, rfl⟩
    · refine vx_catch (own := RL) (name := "java/lang/IndexOutOfBoundsException") hown [⟨0, 9, 12, 18⟩] ⟨0, 9, 15, 13⟩ [] (by rw [htab]; rfl) (fun z h9 => by rw [List.mem_singleton] at h9; subst h9; exact Or.inr ⟨by decide, "java/lang/IllegalArgumentException", ht _ tw_294, hKK.2.2.2.2.2.2 _ (List.mem_of_getElem? (i := 0) rfl)⟩) (by decide) (by decide) (ht _ tw_291) (va_Nw.use rfl (hKK.2.2.2.2.2.1 _ (List.mem_of_getElem? (i := 0) rfl))) hc9 hv9 hf9 ?_
      refine W.eq (g2 := F0 m 15 ls [.ref q9]) rfl ?_
      have hP : va_P (dC, dI) vwCl [(o0, .inl (cJ, 1, .inr (.inl (fun _ => 0))))] H := hP
      have hD : va_D A [(o0, .inl (cJ, 1, .inr (.inl (fun _ => 0))))] := hD
      refine W.widen (k := 1) (n := 6) (by omega) (by omega) ?_
      refine lv_astore_n (lv' := [(3, .ref q9), (0, .ref h0), (1, .int pa), (2, .ref o0)]) hx hb dL_word_15 rfl hl (by decide) rfl (fun ls hl => ?_)
      refine lv_iconst (v := 2) hx hb dL_word_16 (by decide) ?_
      have hP9 := hP.sub (ws' := [(o0, .inl (cJ, 1, .inr (.inl (fun _ => 0))))]) [0] rfl
      have hD9 := hD.sub (ws' := [(o0, .inl (cJ, 1, .inr (.inl (fun _ => 0))))]) [0] (by decide) rfl
      refine W.widen (k := 1) (n := 6) (by omega) (by omega) ?_
      exact W.iret (v := 2) hx hb hr (fun t ht9 hW => ⟨⟨2, (fun _ => 0), rfl, (Or.inl ⟨h3, h4, rfl⟩), by rw [ht9]; exact hP9, hD9⟩, hS.F ht9⟩) hS.2.2 dL_word_17
    · refine vx_catch (own := RL) (name := "java/lang/IllegalArgumentException") hown [] ⟨0, 9, 12, 18⟩ [⟨0, 9, 15, 13⟩] (by rw [htab]; rfl) (fun z h9 => by simp at h9) (by decide) (by decide) (ht _ tw_294) (va_Nw.use rfl (hKK.2.2.2.2.2.1 _ (List.mem_of_getElem? (i := 1) rfl))) hc9 hv9 hf9 ?_
      refine W.eq (g2 := F0 m 12 ls [.ref q9]) rfl ?_
      have hP : va_P (dC, dI) vwCl [(o0, .inl (cJ, 1, .inr (.inl (fun _ => 0))))] H := hP
      have hD : va_D A [(o0, .inl (cJ, 1, .inr (.inl (fun _ => 0))))] := hD
      refine W.widen (k := 1) (n := 6) (by omega) (by omega) ?_
      refine lv_astore_n (lv' := [(3, .ref q9), (0, .ref h0), (1, .int pa), (2, .ref o0)]) hx hb dL_word_12 rfl hl (by decide) rfl (fun ls hl => ?_)
      refine lv_iconst (v := 1) hx hb dL_word_13 (by decide) ?_
      have hP9 := hP.sub (ws' := [(o0, .inl (cJ, 1, .inr (.inl (fun _ => 0))))]) [0] rfl
      have hD9 := hD.sub (ws' := [(o0, .inl (cJ, 1, .inr (.inl (fun _ => 0))))]) [0] (by decide) rfl
      refine W.widen (k := 1) (n := 6) (by omega) (by omega) ?_
      exact W.iret (v := 1) hx hb hr (fun t ht9 hW => ⟨⟨1, (fun _ => 0), rfl, (Or.inr (Or.inl ⟨h5, rfl⟩)), by rw [ht9]; exact hP9, hD9⟩, hS.F ht9⟩) hS.2.2 dL_word_14
  · rcases hw9 with ⟨h6, h7, rfl⟩
    · have hP : va_P (dC, dI) vwCl [(o0, .inl (cJ, 1, .inr (.inl (fun _ => 0))))] H := hP
      have hD : va_D A [(o0, .inl (cJ, 1, .inr (.inl (fun _ => 0))))] := hD
      refine W.widen (k := 1) (n := 6) (by omega) (by omega) ?_
      refine lv_i2l (v := 0) hx hb dL_word_7 (by decide) ?_
      refine va_last (D := (dC, dI)) hx hb hK hP hD hS 0 3 rfl rfl (vp_in_iff.mpr (by decide)) dL_word_8 (fun H locs hP hD hS => ?_)
      have hP : va_P (dC, dI) vwCl [(o0, .inl (cJ, 1, .inr (.inl (vp_updL (fun _ => 0) 0 0))))] H := hP
      have hD : va_D A [(o0, .inl (cJ, 1, .inr (.inl (vp_updL (fun _ => 0) 0 0))))] := hD
      refine lv_goto (tgt := 18) hx hb dL_word_9 (by decide) ?_
      refine lv_iconst (v := 0) hx hb dL_word_18 (by decide) ?_
      have hP9 := hP.sub (ws' := [(o0, .inl (cJ, 1, .inr (.inl (vp_updL (fun _ => 0) 0 0))))]) [0] rfl
      have hD9 := hD.sub (ws' := [(o0, .inl (cJ, 1, .inr (.inl (vp_updL (fun _ => 0) 0 0))))]) [0] (by decide) rfl
      refine W.widen (k := 1) (n := 6) (by omega) (by omega) ?_
      exact W.iret (v := 0) hx hb hr (fun t ht9 hW => ⟨⟨0, (vp_updL (fun _ => 0) 0 0), rfl, (Or.inr (Or.inr (⟨h6, h7, rfl, rfl⟩))), by rw [ht9]; exact hP9, hD9⟩, hS.F ht9⟩) hS.2.2 dL_word_19
set_option maxHeartbeats 4000000 in
set_option maxRecDepth 100000 in
/-- the law: poke -/
theorem c_L_poke (l : Launch) (dC : Nat → ClassId) (dI : Nat → Nat → Nat) (cI cB cZ cJ cR : ClassId) (tb : Nat → Nat) (hst : l.stackTraces = false) (sz : Nat) (h0 : Nat) (pa : Int32) (pb : Int32) (q1 : Nat) (q9 : Nat) (q18 : Nat) (q27 : Nat) (q42 : Nat) (q2 : Nat) (q45 : Nat) (q50 : Nat) (q5 : Nat) (q47 : Nat) (q48 : Nat) (q49 : Nat) (N : Nat) (hf_N_0 : 256 ≤ N) (hf_N_1 : N ≤ 4096) : Met l yL_poke (Cond.codeWith yL_poke cL_poke 4 (some .int) [(0, 6, 9, 18), (0, 6, 12, 13)] :: tw_W) ({ frames := 8, cells := 1, slots := 6, locals := 125 }) (pc_ (dC, dI) (tyS cI cB cZ cJ cR) tb [(h0, .inr (14, [.ref q1, .int 0, .ref q9, .ref q18, .ref q27, .ref q42, .int 0, .int (-1), .ref q2, .ref q45, .ref q50, .ref q5])), (q45, .inr (9, [.ref q47, .ref q48, .int 0, .int 0, .int 0, .int 0, .ref q49, .int 0, .ref q2])), (q47, .inl (cI, N, .inl (fun _ => 0)))] sz [.ref h0, .int pa, .int pb]) (qi_ (dC, dI) [(h0, .inr (14, [.ref q1, .int 0, .ref q9, .ref q18, .ref q27, .ref q42, .int 0, .int (-1), .ref q2, .ref q45, .ref q50, .ref q5])), (q45, .inr (9, [.ref q47, .ref q48, .int 0, .int 0, .int 0, .int 0, .ref q49, .int 0, .ref q2])), (q47, .inl (cI, N, .inl (fun _ => 0)))] sz (fun (r : Int32) (u : Unit) => ((pa &&& 3) = 0 ∧ ((if (pa &&& 3) = 0 then (if (nI N) ≤ ((pa.toUInt32 >>> ((2 : Int32).toUInt32 &&& Int32.toUInt32 31)).toInt32) then 0 else 1) else 0) : Int32) = 0 ∧ r = 2) ∨ (¬ ((pa &&& 3) = 0) ∧ r = 1) ∨ ((pa &&& 3) = 0 ∧ ¬ ((if (pa &&& 3) = 0 then (if (nI N) ≤ ((pa.toUInt32 >>> ((2 : Int32).toUInt32 &&& Int32.toUInt32 31)).toInt32) then 0 else 1) else 0) : Int32) = 0 ∧ r = 0)) (fun (u : Unit) => [])) 1 6 (va_A [(h0, .inr (14, [.ref q1, .int 0, .ref q9, .ref q18, .ref q27, .ref q42, .int 0, .int (-1), .ref q2, .ref q45, .ref q50, .ref q5])), (q45, .inr (9, [.ref q47, .ref q48, .int 0, .int 0, .int 0, .int 0, .ref q49, .int 0, .ref q2])), (q47, .inl (cI, N, .inl (fun _ => 0)))] sz) := by
  refine va_MetW (cc := cL_poke) (maxL := 4) (ret := (some .int)) (by decide) rfl ?_
  intro p e s m args below meth c s₁ B hml hv
  obtain ⟨rfl, hsz, hP, hKK, hD0, hFx⟩ := hv
  have hK := hKK.1
  have hx := B.exec
  have hb := B.bytes
  have hr := B.returns
  have ht : ∀ w ∈ tw_W, w.before _ s = true := fun w h => atoms_spec (ws := Cond.codeWith yL_poke cL_poke 4 (some .int) [(0, 6, 9, 18), (0, 6, 12, 13)] :: tw_W) B.pre w (List.mem_cons_of_mem _ h)
  have htab := vx_table (x := yL_poke) B (atoms_spec (ws := Cond.codeWith yL_poke cL_poke 4 (some .int) [(0, 6, 9, 18), (0, 6, 12, 13)] :: tw_W) B.pre _ List.mem_cons_self)
  have hown : s.vm.findClass RL = some m.cls := findClass_of_methodNamed B.named
  have hlocks := B.notSynchronized
  subst hsz
  unfold qi_
  have hD := hD0.self (sz := s.heap.size)
  generalize hAe : va_A [(h0, .inr (14, [.ref q1, .int 0, .ref q9, .ref q18, .ref q27, .ref q42, .int 0, .int (-1), .ref q2, .ref q45, .ref q50, .ref q5])), (q45, .inr (9, [.ref q47, .ref q48, .int 0, .int 0, .int 0, .int 0, .ref q49, .int 0, .ref q2])), (q47, .inl (cI, N, .inl (fun _ => 0)))] s.heap.size = A at hD hFx ⊢
  have hA : ∀ q : Nat, s.heap.size ≤ q → A q := fun q h => by rw [← hAe]; exact Or.inr h
  have hS : va_S A s.heap s.heap [] := va_S.rf
  have hP : va_P (dC, dI) vwCl [(h0, .inr (14, [.ref q1, .int 0, .ref q9, .ref q18, .ref q27, .ref q42, .int 0, .int (-1), .ref q2, .ref q45, .ref q50, .ref q5])), (q45, .inr (9, [.ref q47, .ref q48, .int 0, .int 0, .int 0, .int 0, .ref q49, .int 0, .ref q2])), (q47, .inl (cI, N, .inl (fun _ => 0)))] s.heap := hP
  have hl := lv_entry ([.ref h0, .int pa, .int pb]) (n := 4) (Nat.le_of_ble_eq_true rfl)
  rw [lg_entry_eq]
  generalize (lg_sl ([.ref h0, .int pa, .int pb]) ++ List.replicate (4 - (lg_sl ([.ref h0, .int pa, .int pb])).length) Slot.unset).toArray = ls at hl ⊢
  have hl : lv_has ls 4 [(0, .ref h0), (1, .int pa), (2, .int pb)] := hl
  refine lv_aload_n hx hb dL_poke_0 rfl (lv_at hl 0 rfl) ?_
  refine lv_iload_n hx hb dL_poke_1 rfl (lv_at hl 1 rfl) ?_
  refine lv_iload_n hx hb dL_poke_2 rfl (lv_at hl 2 rfl) ?_
  refine ca_xv (wr := []) (rx_V (n := 2) (As := [.int pa, .int pb]) (rest := []) hx hb hml hown ht hKK hFx hP hD hS hA (c_X11_poke l dC dI cI cB cZ cJ cR tb hst s.heap.size h0 pa pb q1 q9 q18 q27 q42 q2 q45 q50 q5 q47 q48 q49 N (by omega) (by omega)) tw_303 tw_304 (by decide +kernel) rfl rfl ⟨Nat.le_of_ble_eq_true rfl, Nat.le_of_ble_eq_true rfl⟩ [0, 1, 2] rfl (by decide) rfl rfl rfl rfl hl.1 rfl (Nat.le_of_ble_eq_true rfl) dL_poke_3 ⟨Nat.le_of_ble_eq_true rfl, Nat.le_of_ble_eq_true rfl⟩) hP hD hS hA (isC := [0, 1, 2]) (isR := []) rfl rfl (by decide) (by decide) (fun E9 ce9 q9 H locs hx9 hP hD hS hc9 hv9 hf9 => ?_) (fun u H locs hw9 hP hD hS => ?_)
  · rcases hx9 with ⟨h3, h4, rfl⟩ | ⟨h5, rfl⟩
    · refine vx_catch (own := RL) (name := "java/lang/IndexOutOfBoundsException") hown [⟨0, 6, 9, 18⟩] ⟨0, 6, 12, 13⟩ [] (by rw [htab]; rfl) (fun z h9 => by rw [List.mem_singleton] at h9; subst h9; exact Or.inr ⟨by decide, "java/lang/IllegalArgumentException", ht _ tw_294, hKK.2.2.2.2.2.2 _ (List.mem_of_getElem? (i := 0) rfl)⟩) (by decide) (by decide) (ht _ tw_291) (va_Nw.use rfl (hKK.2.2.2.2.2.1 _ (List.mem_of_getElem? (i := 0) rfl))) hc9 hv9 hf9 ?_
      refine W.eq (g2 := F0 m 12 ls [.ref q9]) rfl ?_
      have hP : va_P (dC, dI) vwCl [] H := hP
      have hD : va_D A [] := hD
      refine W.widen (k := 1) (n := 6) (by omega) (by omega) ?_
      refine lv_astore_n (lv' := [(3, .ref q9), (0, .ref h0), (1, .int pa), (2, .int pb)]) hx hb dL_poke_12 rfl hl (by decide) rfl (fun ls hl => ?_)
      refine lv_iconst (v := 2) hx hb dL_poke_13 (by decide) ?_
      have hP9 := hP.sub (ws' := []) [] rfl
      have hD9 := hD.sub (ws' := []) [] (by decide) rfl
      refine W.widen (k := 1) (n := 6) (by omega) (by omega) ?_
      exact W.iret (v := 2) hx hb hr (fun t ht9 hW => ⟨⟨2, (), rfl, (Or.inl ⟨h3, h4, rfl⟩), by rw [ht9]; exact hP9, hD9⟩, hS.F ht9⟩) hS.2.2 dL_poke_14
    · refine vx_catch (own := RL) (name := "java/lang/IllegalArgumentException") hown [] ⟨0, 6, 9, 18⟩ [⟨0, 6, 12, 13⟩] (by rw [htab]; rfl) (fun z h9 => by simp at h9) (by decide) (by decide) (ht _ tw_294) (va_Nw.use rfl (hKK.2.2.2.2.2.1 _ (List.mem_of_getElem? (i := 1) rfl))) hc9 hv9 hf9 ?_
      refine W.eq (g2 := F0 m 9 ls [.ref q9]) rfl ?_
      have hP : va_P (dC, dI) vwCl [] H := hP
      have hD : va_D A [] := hD
      refine W.widen (k := 1) (n := 6) (by omega) (by omega) ?_
      refine lv_astore_n (lv' := [(3, .ref q9), (0, .ref h0), (1, .int pa), (2, .int pb)]) hx hb dL_poke_9 rfl hl (by decide) rfl (fun ls hl => ?_)
      refine lv_iconst (v := 1) hx hb dL_poke_10 (by decide) ?_
      have hP9 := hP.sub (ws' := []) [] rfl
      have hD9 := hD.sub (ws' := []) [] (by decide) rfl
      refine W.widen (k := 1) (n := 6) (by omega) (by omega) ?_
      exact W.iret (v := 1) hx hb hr (fun t ht9 hW => ⟨⟨1, (), rfl, (Or.inr (Or.inl ⟨h5, rfl⟩)), by rw [ht9]; exact hP9, hD9⟩, hS.F ht9⟩) hS.2.2 dL_poke_11
  · rcases hw9 with ⟨h6, h7, _⟩
    · have hP : va_P (dC, dI) vwCl [] H := hP
      have hD : va_D A [] := hD
      refine W.widen (k := 1) (n := 6) (by omega) (by omega) ?_
      refine lv_goto (tgt := 15) hx hb dL_poke_6 (by decide) ?_
      refine lv_iconst (v := 0) hx hb dL_poke_15 (by decide) ?_
      have hP9 := hP.sub (ws' := []) [] rfl
      have hD9 := hD.sub (ws' := []) [] (by decide) rfl
      refine W.widen (k := 1) (n := 6) (by omega) (by omega) ?_
      exact W.iret (v := 0) hx hb hr (fun t ht9 hW => ⟨⟨0, (), rfl, (Or.inr (Or.inr (⟨h6, h7, rfl⟩))), by rw [ht9]; exact hP9, hD9⟩, hS.F ht9⟩) hS.2.2 dL_poke_16
set_option maxHeartbeats 4000000 in
set_option maxRecDepth 100000 in
/-- the law: put -/
theorem c_L_put (l : Launch) (dC : Nat → ClassId) (dI : Nat → Nat → Nat) (cI cB cZ cJ cR : ClassId) (tb : Nat → Nat) (hst : l.stackTraces = false) (sz : Nat) (h0 : Nat) (pa : Int32) (o0 : Nat) (q1 : Nat) (q9 : Nat) (q18 : Nat) (q27 : Nat) (q42 : Nat) (q2 : Nat) (q45 : Nat) (q50 : Nat) (q5 : Nat) (q47 : Nat) (q48 : Nat) (q49 : Nat)  : Met l yL_put (Cond.codeWith yL_put cL_put 4 (some .int) [(0, 9, 12, 39)] :: tw_W) ({ frames := 7, cells := 1, slots := 6, locals := 103 }) (pc_ (dC, dI) (tyS cI cB cZ cJ cR) tb [(h0, .inr (14, [.ref q1, .int 0, .ref q9, .ref q18, .ref q27, .ref q42, .int 0, .int (-1), .ref q2, .ref q45, .ref q50, .ref q5])), (q45, .inr (9, [.ref q47, .ref q48, .int 0, .int 0, .int 0, .int 0, .ref q49, .int 0, .ref q2])), (o0, .inl (cJ, 1, .inr (.inl (fun _ => 0))))] sz [.ref h0, .int pa, .ref o0]) (qi_ (dC, dI) [(h0, .inr (14, [.ref q1, .int 0, .ref q9, .ref q18, .ref q27, .ref q42, .int 0, .int (-1), .ref q2, .ref q45, .ref q50, .ref q5])), (q45, .inr (9, [.ref q47, .ref q48, .int 0, .int 0, .int 0, .int 0, .ref q49, .int 0, .ref q2])), (o0, .inl (cJ, 1, .inr (.inl (fun _ => 0))))] sz (fun (r : Int32) (u : Nat → Int64) => (pa < 0 ∧ r = 1) ∨ (¬ (pa < 0) ∧ r = 1)) (fun (u : Nat → Int64) => [(o0, .inl (cJ, 1, .inr (.inl u)))])) 1 6 (va_A [(h0, .inr (14, [.ref q1, .int 0, .ref q9, .ref q18, .ref q27, .ref q42, .int 0, .int (-1), .ref q2, .ref q45, .ref q50, .ref q5])), (q45, .inr (9, [.ref q47, .ref q48, .int 0, .int 0, .int 0, .int 0, .ref q49, .int 0, .ref q2])), (o0, .inl (cJ, 1, .inr (.inl (fun _ => 0))))] sz) := by
  refine va_MetW (cc := cL_put) (maxL := 4) (ret := (some .int)) (by decide) rfl ?_
  intro p e s m args below meth c s₁ B hml hv
  obtain ⟨rfl, hsz, hP, hKK, hD0, hFx⟩ := hv
  have hK := hKK.1
  have hx := B.exec
  have hb := B.bytes
  have hr := B.returns
  have ht : ∀ w ∈ tw_W, w.before _ s = true := fun w h => atoms_spec (ws := Cond.codeWith yL_put cL_put 4 (some .int) [(0, 9, 12, 39)] :: tw_W) B.pre w (List.mem_cons_of_mem _ h)
  have htab := vx_table (x := yL_put) B (atoms_spec (ws := Cond.codeWith yL_put cL_put 4 (some .int) [(0, 9, 12, 39)] :: tw_W) B.pre _ List.mem_cons_self)
  have hown : s.vm.findClass RL = some m.cls := findClass_of_methodNamed B.named
  have hlocks := B.notSynchronized
  subst hsz
  unfold qi_
  have hD := hD0.self (sz := s.heap.size)
  generalize hAe : va_A [(h0, .inr (14, [.ref q1, .int 0, .ref q9, .ref q18, .ref q27, .ref q42, .int 0, .int (-1), .ref q2, .ref q45, .ref q50, .ref q5])), (q45, .inr (9, [.ref q47, .ref q48, .int 0, .int 0, .int 0, .int 0, .ref q49, .int 0, .ref q2])), (o0, .inl (cJ, 1, .inr (.inl (fun _ => 0))))] s.heap.size = A at hD hFx ⊢
  have hA : ∀ q : Nat, s.heap.size ≤ q → A q := fun q h => by rw [← hAe]; exact Or.inr h
  have hS : va_S A s.heap s.heap [] := va_S.rf
  have hP : va_P (dC, dI) vwCl [(h0, .inr (14, [.ref q1, .int 0, .ref q9, .ref q18, .ref q27, .ref q42, .int 0, .int (-1), .ref q2, .ref q45, .ref q50, .ref q5])), (q45, .inr (9, [.ref q47, .ref q48, .int 0, .int 0, .int 0, .int 0, .ref q49, .int 0, .ref q2])), (o0, .inl (cJ, 1, .inr (.inl (fun _ => 0))))] s.heap := hP
  have hl := lv_entry ([.ref h0, .int pa, .ref o0]) (n := 4) (Nat.le_of_ble_eq_true rfl)
  rw [lg_entry_eq]
  generalize (lg_sl ([.ref h0, .int pa, .ref o0]) ++ List.replicate (4 - (lg_sl ([.ref h0, .int pa, .ref o0])).length) Slot.unset).toArray = ls at hl ⊢
  have hl : lv_has ls 4 [(0, .ref h0), (1, .int pa), (2, .ref o0)] := hl
  refine lv_aload_n hx hb dL_put_0 rfl (lv_at hl 2 rfl) ?_
  refine lv_iconst (v := 0) hx hb dL_put_1 (by decide) ?_
  refine lv_aload_n hx hb dL_put_2 rfl (lv_at hl 0 rfl) ?_
  refine lv_iload_n hx hb dL_put_3 rfl (lv_at hl 1 rfl) ?_
  refine ca_xi (wr := [(o0, .inl (cJ, 1, .inr (.inl (fun _ => 0))))]) (rx_V (n := 1) (As := [.int pa]) (rest := [.int 0, .ref o0]) hx hb hml hown ht hKK hFx hP hD hS hA (c_X11_put l dC dI cI cB cZ cJ cR tb hst s.heap.size h0 pa q1 q9 q18 q27 q42 q2 q45 q50 q5 q47 q48 q49) tw_305 tw_306 (by decide +kernel) rfl rfl ⟨Nat.le_of_ble_eq_true rfl, Nat.le_of_ble_eq_true rfl⟩ [0, 1] rfl (by decide) rfl rfl rfl rfl hl.1 rfl (Nat.le_of_ble_eq_true rfl) dL_put_4 ⟨Nat.le_of_ble_eq_true rfl, Nat.le_of_ble_eq_true rfl⟩) hP hD hS hA (isC := [0, 1]) (isR := [2]) rfl rfl (by decide) (by decide) (fun E9 ce9 q9 H locs hx9 hP hD hS hc9 hv9 hf9 => ?_) (fun r2 u H locs hw9 hP hD hS => ?_)
  · rcases hx9 with ⟨h3, rfl⟩ | ⟨h4, rfl⟩
    · refine vx_catch (own := RL) (name := "java/util/NoSuchElementException") hown [] ⟨0, 9, 12, 39⟩ [] (by rw [htab]; rfl) (fun z h9 => by simp at h9) (by decide) (by decide) (ht _ tw_307) (va_Nw.use rfl (hKK.2.2.2.2.2.1 _ (List.mem_of_getElem? (i := 2) rfl))) hc9 hv9 hf9 ?_
      refine W.eq (g2 := F0 m 12 ls [.ref q9]) rfl ?_
      have hP : va_P (dC, dI) vwCl [(o0, .inl (cJ, 1, .inr (.inl (fun _ => 0))))] H := hP
      have hD : va_D A [(o0, .inl (cJ, 1, .inr (.inl (fun _ => 0))))] := hD
      refine W.widen (k := 1) (n := 6) (by omega) (by omega) ?_
      refine lv_astore_n (lv' := [(3, .ref q9), (0, .ref h0), (1, .int pa), (2, .ref o0)]) hx hb dL_put_12 rfl hl (by decide) rfl (fun ls hl => ?_)
      refine lv_iconst (v := 1) hx hb dL_put_13 (by decide) ?_
      have hP9 := hP.sub (ws' := [(o0, .inl (cJ, 1, .inr (.inl (fun _ => 0))))]) [0] rfl
      have hD9 := hD.sub (ws' := [(o0, .inl (cJ, 1, .inr (.inl (fun _ => 0))))]) [0] (by decide) rfl
      refine W.widen (k := 1) (n := 6) (by omega) (by omega) ?_
      exact W.iret (v := 1) hx hb hr (fun t ht9 hW => ⟨⟨1, (fun _ => 0), rfl, (Or.inl ⟨h3, rfl⟩), by rw [ht9]; exact hP9, hD9⟩, hS.F ht9⟩) hS.2.2 dL_put_14
    · refine vx_catch (own := RL) (name := "java/util/NoSuchElementException") hown [] ⟨0, 9, 12, 39⟩ [] (by rw [htab]; rfl) (fun z h9 => by simp at h9) (by decide) (by decide) (ht _ tw_307) (va_Nw.use rfl (hKK.2.2.2.2.2.1 _ (List.mem_of_getElem? (i := 2) rfl))) hc9 hv9 hf9 ?_
      refine W.eq (g2 := F0 m 12 ls [.ref q9]) rfl ?_
      have hP : va_P (dC, dI) vwCl [(o0, .inl (cJ, 1, .inr (.inl (fun _ => 0))))] H := hP
      have hD : va_D A [(o0, .inl (cJ, 1, .inr (.inl (fun _ => 0))))] := hD
      refine W.widen (k := 1) (n := 6) (by omega) (by omega) ?_
      refine lv_astore_n (lv' := [(3, .ref q9), (0, .ref h0), (1, .int pa), (2, .ref o0)]) hx hb dL_put_12 rfl hl (by decide) rfl (fun ls hl => ?_)
      refine lv_iconst (v := 1) hx hb dL_put_13 (by decide) ?_
      have hP9 := hP.sub (ws' := [(o0, .inl (cJ, 1, .inr (.inl (fun _ => 0))))]) [0] rfl
      have hD9 := hD.sub (ws' := [(o0, .inl (cJ, 1, .inr (.inl (fun _ => 0))))]) [0] (by decide) rfl
      refine W.widen (k := 1) (n := 6) (by omega) (by omega) ?_
      exact W.iret (v := 1) hx hb hr (fun t ht9 hW => ⟨⟨1, (fun _ => 0), rfl, (Or.inr (⟨h4, rfl⟩)), by rw [ht9]; exact hP9, hD9⟩, hS.F ht9⟩) hS.2.2 dL_put_14
  · exact hw9.elim
set_option maxHeartbeats 4000000 in
set_option maxRecDepth 100000 in
/-- the law: work -/
theorem c_L_work (l : Launch) (dC : Nat → ClassId) (dI : Nat → Nat → Nat) (cI cB cZ cJ cR : ClassId) (tb : Nat → Nat) (hst : l.stackTraces = false) (sz : Nat) (h0 : Nat) (pa : Int32) (pb : Int32) (pc : Int32) (pd : Int32) (o0 : Nat) (q1 : Nat) (q9 : Nat) (q18 : Nat) (q27 : Nat) (q42 : Nat) (q2 : Nat) (q45 : Nat) (q50 : Nat) (q5 : Nat) (q11 : Nat) (q12 : Nat) (q13 : Nat) (q14 : Nat) (q15 : Nat) (q16 : Nat) (q17 : Nat)  : Met l yL_work (Cond.codeWith yL_work cL_work 7 (some .int) [(0, 14, 17, 39), (0, 14, 21, 18)] :: tw_W) ({ frames := 7, cells := 1, slots := 6, locals := 107 }) (pc_ (dC, dI) (tyS cI cB cZ cJ cR) tb [(h0, .inr (14, [.ref q1, .int 0, .ref q9, .ref q18, .ref q27, .ref q42, .int 0, .int (-1), .ref q2, .ref q45, .ref q50, .ref q5])), (q9, .inr (10, [.ref q11, .int 0, .ref q12, .int 0, .ref q13, .int 0, .ref q14, .ref q15, .ref q16, .int 0, .ref q17, .int 2, .int 8])), (o0, .inl (cJ, 1, .inr (.inl (fun _ => 0))))] sz [.ref h0, .int pa, .int pb, .int pc, .int pd, .ref o0]) (qi_ (dC, dI) [(h0, .inr (14, [.ref q1, .int 0, .ref q9, .ref q18, .ref q27, .ref q42, .int 0, .int (-1), .ref q2, .ref q45, .ref q50, .ref q5])), (q9, .inr (10, [.ref q11, .int 0, .ref q12, .int 0, .ref q13, .int 0, .ref q14, .ref q15, .ref q16, .int 0, .ref q17, .int 2, .int 8])), (o0, .inl (cJ, 1, .inr (.inl (fun _ => 0))))] sz (fun (r : Int32) (u : Nat → Int64) => (r = 1)) (fun (u : Nat → Int64) => [(o0, .inl (cJ, 1, .inr (.inl u)))])) 1 6 (va_A [(h0, .inr (14, [.ref q1, .int 0, .ref q9, .ref q18, .ref q27, .ref q42, .int 0, .int (-1), .ref q2, .ref q45, .ref q50, .ref q5])), (q9, .inr (10, [.ref q11, .int 0, .ref q12, .int 0, .ref q13, .int 0, .ref q14, .ref q15, .ref q16, .int 0, .ref q17, .int 2, .int 8])), (o0, .inl (cJ, 1, .inr (.inl (fun _ => 0))))] sz) := by
  refine va_MetW (cc := cL_work) (maxL := 7) (ret := (some .int)) (by decide) rfl ?_
  intro p e s m args below meth c s₁ B hml hv
  obtain ⟨rfl, hsz, hP, hKK, hD0, hFx⟩ := hv
  have hK := hKK.1
  have hx := B.exec
  have hb := B.bytes
  have hr := B.returns
  have ht : ∀ w ∈ tw_W, w.before _ s = true := fun w h => atoms_spec (ws := Cond.codeWith yL_work cL_work 7 (some .int) [(0, 14, 17, 39), (0, 14, 21, 18)] :: tw_W) B.pre w (List.mem_cons_of_mem _ h)
  have htab := vx_table (x := yL_work) B (atoms_spec (ws := Cond.codeWith yL_work cL_work 7 (some .int) [(0, 14, 17, 39), (0, 14, 21, 18)] :: tw_W) B.pre _ List.mem_cons_self)
  have hown : s.vm.findClass RL = some m.cls := findClass_of_methodNamed B.named
  have hlocks := B.notSynchronized
  subst hsz
  unfold qi_
  have hD := hD0.self (sz := s.heap.size)
  generalize hAe : va_A [(h0, .inr (14, [.ref q1, .int 0, .ref q9, .ref q18, .ref q27, .ref q42, .int 0, .int (-1), .ref q2, .ref q45, .ref q50, .ref q5])), (q9, .inr (10, [.ref q11, .int 0, .ref q12, .int 0, .ref q13, .int 0, .ref q14, .ref q15, .ref q16, .int 0, .ref q17, .int 2, .int 8])), (o0, .inl (cJ, 1, .inr (.inl (fun _ => 0))))] s.heap.size = A at hD hFx ⊢
  have hA : ∀ q : Nat, s.heap.size ≤ q → A q := fun q h => by rw [← hAe]; exact Or.inr h
  have hS : va_S A s.heap s.heap [] := va_S.rf
  have hP : va_P (dC, dI) vwCl [(h0, .inr (14, [.ref q1, .int 0, .ref q9, .ref q18, .ref q27, .ref q42, .int 0, .int (-1), .ref q2, .ref q45, .ref q50, .ref q5])), (q9, .inr (10, [.ref q11, .int 0, .ref q12, .int 0, .ref q13, .int 0, .ref q14, .ref q15, .ref q16, .int 0, .ref q17, .int 2, .int 8])), (o0, .inl (cJ, 1, .inr (.inl (fun _ => 0))))] s.heap := hP
  have hl := lv_entry ([.ref h0, .int pa, .int pb, .int pc, .int pd, .ref o0]) (n := 7) (Nat.le_of_ble_eq_true rfl)
  rw [lg_entry_eq]
  generalize (lg_sl ([.ref h0, .int pa, .int pb, .int pc, .int pd, .ref o0]) ++ List.replicate (7 - (lg_sl ([.ref h0, .int pa, .int pb, .int pc, .int pd, .ref o0])).length) Slot.unset).toArray = ls at hl ⊢
  have hl : lv_has ls 7 [(0, .ref h0), (1, .int pa), (2, .int pb), (3, .int pc), (4, .int pd), (5, .ref o0)] := hl
  refine lv_aload hx hb dL_work_0 (lv_at hl 5 rfl) ?_
  refine lv_iconst (v := 0) hx hb dL_work_2 (by decide) ?_
  refine lv_aload_n hx hb dL_work_3 rfl (lv_at hl 0 rfl) ?_
  refine lv_iload_n hx hb dL_work_4 rfl (lv_at hl 1 rfl) ?_
  refine lv_iload_n hx hb dL_work_5 rfl (lv_at hl 2 rfl) ?_
  refine lv_iload_n hx hb dL_work_6 rfl (lv_at hl 3 rfl) ?_
  refine lv_iload hx hb dL_work_7 (lv_at hl 4 rfl) ?_
  refine ca_xi (wr := [(o0, .inl (cJ, 1, .inr (.inl (fun _ => 0))))]) (rx_V (n := 4) (As := [.int pa, .int pb, .int pc, .int pd]) (rest := [.int 0, .ref o0]) hx hb hml hown ht hKK hFx hP hD hS hA (c_X11_work l dC dI cI cB cZ cJ cR tb hst s.heap.size h0 pa pb pc pd q1 q9 q18 q27 q42 q2 q45 q50 q5 q11 q12 q13 q14 q15 q16 q17) tw_308 tw_309 (by decide +kernel) rfl rfl ⟨Nat.le_of_ble_eq_true rfl, Nat.le_of_ble_eq_true rfl⟩ [0, 1] rfl (by decide) rfl rfl rfl rfl hl.1 rfl (Nat.le_of_ble_eq_true rfl) dL_work_9 ⟨Nat.le_of_ble_eq_true rfl, Nat.le_of_ble_eq_true rfl⟩) hP hD hS hA (isC := [0, 1]) (isR := [2]) rfl rfl (by decide) (by decide) (fun E9 ce9 q9 H locs hx9 hP hD hS hc9 hv9 hf9 => ?_) (fun r2 u H locs hw9 hP hD hS => ?_)
  · rcases hx9 with rfl
    · refine vx_catch (own := RL) (name := "java/util/NoSuchElementException") hown [] ⟨0, 14, 17, 39⟩ [⟨0, 14, 21, 18⟩] (by rw [htab]; rfl) (fun z h9 => by simp at h9) (by decide) (by decide) (ht _ tw_307) (va_Nw.use rfl (hKK.2.2.2.2.2.1 _ (List.mem_of_getElem? (i := 2) rfl))) hc9 hv9 hf9 ?_
      refine W.eq (g2 := F0 m 17 ls [.ref q9]) rfl ?_
      have hP : va_P (dC, dI) vwCl [(o0, .inl (cJ, 1, .inr (.inl (fun _ => 0))))] H := hP
      have hD : va_D A [(o0, .inl (cJ, 1, .inr (.inl (fun _ => 0))))] := hD
      refine W.widen (k := 1) (n := 6) (by omega) (by omega) ?_
      refine lv_astore (lv' := [(6, .ref q9), (0, .ref h0), (1, .int pa), (2, .int pb), (3, .int pc), (4, .int pd), (5, .ref o0)]) hx hb dL_work_17 hl (by decide) rfl (fun ls hl => ?_)
      refine lv_iconst (v := 1) hx hb dL_work_19 (by decide) ?_
      have hP9 := hP.sub (ws' := [(o0, .inl (cJ, 1, .inr (.inl (fun _ => 0))))]) [0] rfl
      have hD9 := hD.sub (ws' := [(o0, .inl (cJ, 1, .inr (.inl (fun _ => 0))))]) [0] (by decide) rfl
      refine W.widen (k := 1) (n := 6) (by omega) (by omega) ?_
      exact W.iret (v := 1) hx hb hr (fun t ht9 hW => ⟨⟨1, (fun _ => 0), rfl, (rfl), by rw [ht9]; exact hP9, hD9⟩, hS.F ht9⟩) hS.2.2 dL_work_20
  · exact hw9.elim
set_option maxHeartbeats 4000000 in
set_option maxRecDepth 100000 in
/-- the law: worked -/
theorem c_L_worked (l : Launch) (dC : Nat → ClassId) (dI : Nat → Nat → Nat) (cI cB cZ cJ cR : ClassId) (tb : Nat → Nat) (hst : l.stackTraces = false) (sz : Nat) (h0 : Nat) (pa : Int32) (o0 : Nat) (q1 : Nat) (q9 : Nat) (q18 : Nat) (q27 : Nat) (q42 : Nat) (q2 : Nat) (q45 : Nat) (q50 : Nat) (q5 : Nat) (N : Nat) (q52 : Nat) (q53 : Nat) (q54 : Nat) (hf_N_0 : 256 ≤ N) (hf_N_1 : N ≤ 4096) : Met l yL_worked (Cond.codeWith yL_worked cL_worked 4 (some .int) [(0, 9, 12, 39)] :: tw_W) ({ frames := 7, cells := 1, slots := 6, locals := 103 }) (pc_ (dC, dI) (tyS cI cB cZ cJ cR) tb [(h0, .inr (14, [.ref q1, .int 0, .ref q9, .ref q18, .ref q27, .ref q42, .int 0, .int (-1), .ref q2, .ref q45, .ref q50, .ref q5])), (q50, .inr (13, [.ref q9, .ref q2, .int (4 * (nI N)), .ref q52, .ref q53, .ref q54, .int 0, .int 0, .int 0, .int 0, .int 0, .int 0, .int 0, .int 0, .int 0, .int 0, .int 0])), (o0, .inl (cJ, 1, .inr (.inl (fun _ => 0))))] sz [.ref h0, .int pa, .ref o0]) (qi_ (dC, dI) [(h0, .inr (14, [.ref q1, .int 0, .ref q9, .ref q18, .ref q27, .ref q42, .int 0, .int (-1), .ref q2, .ref q45, .ref q50, .ref q5])), (q50, .inr (13, [.ref q9, .ref q2, .int (4 * (nI N)), .ref q52, .ref q53, .ref q54, .int 0, .int 0, .int 0, .int 0, .int 0, .int 0, .int 0, .int 0, .int 0, .int 0, .int 0])), (o0, .inl (cJ, 1, .inr (.inl (fun _ => 0))))] sz (fun (r : Int32) (u : Nat → Int64) => (r = 1)) (fun (u : Nat → Int64) => [(o0, .inl (cJ, 1, .inr (.inl u)))])) 1 6 (va_A [(h0, .inr (14, [.ref q1, .int 0, .ref q9, .ref q18, .ref q27, .ref q42, .int 0, .int (-1), .ref q2, .ref q45, .ref q50, .ref q5])), (q50, .inr (13, [.ref q9, .ref q2, .int (4 * (nI N)), .ref q52, .ref q53, .ref q54, .int 0, .int 0, .int 0, .int 0, .int 0, .int 0, .int 0, .int 0, .int 0, .int 0, .int 0])), (o0, .inl (cJ, 1, .inr (.inl (fun _ => 0))))] sz) := by
  refine va_MetW (cc := cL_worked) (maxL := 4) (ret := (some .int)) (by decide) rfl ?_
  intro p e s m args below meth c s₁ B hml hv
  obtain ⟨rfl, hsz, hP, hKK, hD0, hFx⟩ := hv
  have hK := hKK.1
  have hx := B.exec
  have hb := B.bytes
  have hr := B.returns
  have ht : ∀ w ∈ tw_W, w.before _ s = true := fun w h => atoms_spec (ws := Cond.codeWith yL_worked cL_worked 4 (some .int) [(0, 9, 12, 39)] :: tw_W) B.pre w (List.mem_cons_of_mem _ h)
  have htab := vx_table (x := yL_worked) B (atoms_spec (ws := Cond.codeWith yL_worked cL_worked 4 (some .int) [(0, 9, 12, 39)] :: tw_W) B.pre _ List.mem_cons_self)
  have hown : s.vm.findClass RL = some m.cls := findClass_of_methodNamed B.named
  have hlocks := B.notSynchronized
  subst hsz
  unfold qi_
  have hD := hD0.self (sz := s.heap.size)
  generalize hAe : va_A [(h0, .inr (14, [.ref q1, .int 0, .ref q9, .ref q18, .ref q27, .ref q42, .int 0, .int (-1), .ref q2, .ref q45, .ref q50, .ref q5])), (q50, .inr (13, [.ref q9, .ref q2, .int (4 * (nI N)), .ref q52, .ref q53, .ref q54, .int 0, .int 0, .int 0, .int 0, .int 0, .int 0, .int 0, .int 0, .int 0, .int 0, .int 0])), (o0, .inl (cJ, 1, .inr (.inl (fun _ => 0))))] s.heap.size = A at hD hFx ⊢
  have hA : ∀ q : Nat, s.heap.size ≤ q → A q := fun q h => by rw [← hAe]; exact Or.inr h
  have hS : va_S A s.heap s.heap [] := va_S.rf
  have hP : va_P (dC, dI) vwCl [(h0, .inr (14, [.ref q1, .int 0, .ref q9, .ref q18, .ref q27, .ref q42, .int 0, .int (-1), .ref q2, .ref q45, .ref q50, .ref q5])), (q50, .inr (13, [.ref q9, .ref q2, .int (4 * (nI N)), .ref q52, .ref q53, .ref q54, .int 0, .int 0, .int 0, .int 0, .int 0, .int 0, .int 0, .int 0, .int 0, .int 0, .int 0])), (o0, .inl (cJ, 1, .inr (.inl (fun _ => 0))))] s.heap := hP
  have hl := lv_entry ([.ref h0, .int pa, .ref o0]) (n := 4) (Nat.le_of_ble_eq_true rfl)
  rw [lg_entry_eq]
  generalize (lg_sl ([.ref h0, .int pa, .ref o0]) ++ List.replicate (4 - (lg_sl ([.ref h0, .int pa, .ref o0])).length) Slot.unset).toArray = ls at hl ⊢
  have hl : lv_has ls 4 [(0, .ref h0), (1, .int pa), (2, .ref o0)] := hl
  refine lv_aload_n hx hb dL_worked_0 rfl (lv_at hl 2 rfl) ?_
  refine lv_iconst (v := 0) hx hb dL_worked_1 (by decide) ?_
  refine lv_aload_n hx hb dL_worked_2 rfl (lv_at hl 0 rfl) ?_
  refine lv_iload_n hx hb dL_worked_3 rfl (lv_at hl 1 rfl) ?_
  refine ca_xi (wr := [(o0, .inl (cJ, 1, .inr (.inl (fun _ => 0))))]) (rx_V (n := 1) (As := [.int pa]) (rest := [.int 0, .ref o0]) hx hb hml hown ht hKK hFx hP hD hS hA (c_X11_worked l dC dI cI cB cZ cJ cR tb hst s.heap.size h0 pa q1 q9 q18 q27 q42 q2 q45 q50 q5 N q52 q53 q54 (by omega) (by omega)) tw_310 tw_311 (by decide +kernel) rfl rfl ⟨Nat.le_of_ble_eq_true rfl, Nat.le_of_ble_eq_true rfl⟩ [0, 1] rfl (by decide) rfl rfl rfl rfl hl.1 rfl (Nat.le_of_ble_eq_true rfl) dL_worked_4 ⟨Nat.le_of_ble_eq_true rfl, Nat.le_of_ble_eq_true rfl⟩) hP hD hS hA (isC := [0, 1]) (isR := [2]) rfl rfl (by decide) (by decide) (fun E9 ce9 q9 H locs hx9 hP hD hS hc9 hv9 hf9 => ?_) (fun r2 u H locs hw9 hP hD hS => ?_)
  · rcases hx9 with rfl
    · refine vx_catch (own := RL) (name := "java/util/NoSuchElementException") hown [] ⟨0, 9, 12, 39⟩ [] (by rw [htab]; rfl) (fun z h9 => by simp at h9) (by decide) (by decide) (ht _ tw_307) (va_Nw.use rfl (hKK.2.2.2.2.2.1 _ (List.mem_of_getElem? (i := 2) rfl))) hc9 hv9 hf9 ?_
      refine W.eq (g2 := F0 m 12 ls [.ref q9]) rfl ?_
      have hP : va_P (dC, dI) vwCl [(o0, .inl (cJ, 1, .inr (.inl (fun _ => 0))))] H := hP
      have hD : va_D A [(o0, .inl (cJ, 1, .inr (.inl (fun _ => 0))))] := hD
      refine W.widen (k := 1) (n := 6) (by omega) (by omega) ?_
      refine lv_astore_n (lv' := [(3, .ref q9), (0, .ref h0), (1, .int pa), (2, .ref o0)]) hx hb dL_worked_12 rfl hl (by decide) rfl (fun ls hl => ?_)
      refine lv_iconst (v := 1) hx hb dL_worked_13 (by decide) ?_
      have hP9 := hP.sub (ws' := [(o0, .inl (cJ, 1, .inr (.inl (fun _ => 0))))]) [0] rfl
      have hD9 := hD.sub (ws' := [(o0, .inl (cJ, 1, .inr (.inl (fun _ => 0))))]) [0] (by decide) rfl
      refine W.widen (k := 1) (n := 6) (by omega) (by omega) ?_
      exact W.iret (v := 1) hx hb hr (fun t ht9 hW => ⟨⟨1, (fun _ => 0), rfl, (rfl), by rw [ht9]; exact hP9, hD9⟩, hS.F ht9⟩) hS.2.2 dL_worked_14
  · exact hw9.elim
set_option maxHeartbeats 4000000 in
set_option maxRecDepth 100000 in
/-- the law: left -/
theorem c_L_left (l : Launch) (dC : Nat → ClassId) (dI : Nat → Nat → Nat) (cI cB cZ cJ cR : ClassId) (tb : Nat → Nat) (hst : l.stackTraces = false) (sz : Nat) (h0 : Nat) (pa : Int32) (pb : Int32) (o0 : Nat) (q1 : Nat) (q9 : Nat) (q18 : Nat) (q27 : Nat) (q42 : Nat) (q2 : Nat) (q45 : Nat) (q50 : Nat) (q5 : Nat) (N : Nat) (q52 : Nat) (q53 : Nat) (q54 : Nat) (hf_N_0 : 256 ≤ N) (hf_N_1 : N ≤ 4096) : Met l yL_left (Cond.codeWith yL_left cL_left 5 (some .int) [(0, 10, 13, 39)] :: tw_W) ({ frames := 7, cells := 1, slots := 6, locals := 104 }) (pc_ (dC, dI) (tyS cI cB cZ cJ cR) tb [(h0, .inr (14, [.ref q1, .int 0, .ref q9, .ref q18, .ref q27, .ref q42, .int 0, .int (-1), .ref q2, .ref q45, .ref q50, .ref q5])), (q50, .inr (13, [.ref q9, .ref q2, .int (4 * (nI N)), .ref q52, .ref q53, .ref q54, .int 0, .int 0, .int 0, .int 0, .int 0, .int 0, .int 0, .int 0, .int 0, .int 0, .int 0])), (o0, .inl (cJ, 1, .inr (.inl (fun _ => 0))))] sz [.ref h0, .int pa, .int pb, .ref o0]) (qi_ (dC, dI) [(h0, .inr (14, [.ref q1, .int 0, .ref q9, .ref q18, .ref q27, .ref q42, .int 0, .int (-1), .ref q2, .ref q45, .ref q50, .ref q5])), (q50, .inr (13, [.ref q9, .ref q2, .int (4 * (nI N)), .ref q52, .ref q53, .ref q54, .int 0, .int 0, .int 0, .int 0, .int 0, .int 0, .int 0, .int 0, .int 0, .int 0, .int 0])), (o0, .inl (cJ, 1, .inr (.inl (fun _ => 0))))] sz (fun (r : Int32) (u : Nat → Int64) => (r = 1)) (fun (u : Nat → Int64) => [(o0, .inl (cJ, 1, .inr (.inl u)))])) 1 6 (va_A [(h0, .inr (14, [.ref q1, .int 0, .ref q9, .ref q18, .ref q27, .ref q42, .int 0, .int (-1), .ref q2, .ref q45, .ref q50, .ref q5])), (q50, .inr (13, [.ref q9, .ref q2, .int (4 * (nI N)), .ref q52, .ref q53, .ref q54, .int 0, .int 0, .int 0, .int 0, .int 0, .int 0, .int 0, .int 0, .int 0, .int 0, .int 0])), (o0, .inl (cJ, 1, .inr (.inl (fun _ => 0))))] sz) := by
  refine va_MetW (cc := cL_left) (maxL := 5) (ret := (some .int)) (by decide) rfl ?_
  intro p e s m args below meth c s₁ B hml hv
  obtain ⟨rfl, hsz, hP, hKK, hD0, hFx⟩ := hv
  have hK := hKK.1
  have hx := B.exec
  have hb := B.bytes
  have hr := B.returns
  have ht : ∀ w ∈ tw_W, w.before _ s = true := fun w h => atoms_spec (ws := Cond.codeWith yL_left cL_left 5 (some .int) [(0, 10, 13, 39)] :: tw_W) B.pre w (List.mem_cons_of_mem _ h)
  have htab := vx_table (x := yL_left) B (atoms_spec (ws := Cond.codeWith yL_left cL_left 5 (some .int) [(0, 10, 13, 39)] :: tw_W) B.pre _ List.mem_cons_self)
  have hown : s.vm.findClass RL = some m.cls := findClass_of_methodNamed B.named
  have hlocks := B.notSynchronized
  subst hsz
  unfold qi_
  have hD := hD0.self (sz := s.heap.size)
  generalize hAe : va_A [(h0, .inr (14, [.ref q1, .int 0, .ref q9, .ref q18, .ref q27, .ref q42, .int 0, .int (-1), .ref q2, .ref q45, .ref q50, .ref q5])), (q50, .inr (13, [.ref q9, .ref q2, .int (4 * (nI N)), .ref q52, .ref q53, .ref q54, .int 0, .int 0, .int 0, .int 0, .int 0, .int 0, .int 0, .int 0, .int 0, .int 0, .int 0])), (o0, .inl (cJ, 1, .inr (.inl (fun _ => 0))))] s.heap.size = A at hD hFx ⊢
  have hA : ∀ q : Nat, s.heap.size ≤ q → A q := fun q h => by rw [← hAe]; exact Or.inr h
  have hS : va_S A s.heap s.heap [] := va_S.rf
  have hP : va_P (dC, dI) vwCl [(h0, .inr (14, [.ref q1, .int 0, .ref q9, .ref q18, .ref q27, .ref q42, .int 0, .int (-1), .ref q2, .ref q45, .ref q50, .ref q5])), (q50, .inr (13, [.ref q9, .ref q2, .int (4 * (nI N)), .ref q52, .ref q53, .ref q54, .int 0, .int 0, .int 0, .int 0, .int 0, .int 0, .int 0, .int 0, .int 0, .int 0, .int 0])), (o0, .inl (cJ, 1, .inr (.inl (fun _ => 0))))] s.heap := hP
  have hl := lv_entry ([.ref h0, .int pa, .int pb, .ref o0]) (n := 5) (Nat.le_of_ble_eq_true rfl)
  rw [lg_entry_eq]
  generalize (lg_sl ([.ref h0, .int pa, .int pb, .ref o0]) ++ List.replicate (5 - (lg_sl ([.ref h0, .int pa, .int pb, .ref o0])).length) Slot.unset).toArray = ls at hl ⊢
  have hl : lv_has ls 5 [(0, .ref h0), (1, .int pa), (2, .int pb), (3, .ref o0)] := hl
  refine lv_aload_n hx hb dL_left_0 rfl (lv_at hl 3 rfl) ?_
  refine lv_iconst (v := 0) hx hb dL_left_1 (by decide) ?_
  refine lv_aload_n hx hb dL_left_2 rfl (lv_at hl 0 rfl) ?_
  refine lv_iload_n hx hb dL_left_3 rfl (lv_at hl 1 rfl) ?_
  refine lv_iload_n hx hb dL_left_4 rfl (lv_at hl 2 rfl) ?_
  refine ca_xi (wr := [(o0, .inl (cJ, 1, .inr (.inl (fun _ => 0))))]) (rx_V (n := 2) (As := [.int pa, .int pb]) (rest := [.int 0, .ref o0]) hx hb hml hown ht hKK hFx hP hD hS hA (c_X11_left l dC dI cI cB cZ cJ cR tb hst s.heap.size h0 pa pb q1 q9 q18 q27 q42 q2 q45 q50 q5 N q52 q53 q54 (by omega) (by omega)) tw_312 tw_313 (by decide +kernel) rfl rfl ⟨Nat.le_of_ble_eq_true rfl, Nat.le_of_ble_eq_true rfl⟩ [0, 1] rfl (by decide) rfl rfl rfl rfl hl.1 rfl (Nat.le_of_ble_eq_true rfl) dL_left_5 ⟨Nat.le_of_ble_eq_true rfl, Nat.le_of_ble_eq_true rfl⟩) hP hD hS hA (isC := [0, 1]) (isR := [2]) rfl rfl (by decide) (by decide) (fun E9 ce9 q9 H locs hx9 hP hD hS hc9 hv9 hf9 => ?_) (fun r2 u H locs hw9 hP hD hS => ?_)
  · rcases hx9 with rfl
    · refine vx_catch (own := RL) (name := "java/util/NoSuchElementException") hown [] ⟨0, 10, 13, 39⟩ [] (by rw [htab]; rfl) (fun z h9 => by simp at h9) (by decide) (by decide) (ht _ tw_307) (va_Nw.use rfl (hKK.2.2.2.2.2.1 _ (List.mem_of_getElem? (i := 2) rfl))) hc9 hv9 hf9 ?_
      refine W.eq (g2 := F0 m 13 ls [.ref q9]) rfl ?_
      have hP : va_P (dC, dI) vwCl [(o0, .inl (cJ, 1, .inr (.inl (fun _ => 0))))] H := hP
      have hD : va_D A [(o0, .inl (cJ, 1, .inr (.inl (fun _ => 0))))] := hD
      refine W.widen (k := 1) (n := 6) (by omega) (by omega) ?_
      refine lv_astore (lv' := [(4, .ref q9), (0, .ref h0), (1, .int pa), (2, .int pb), (3, .ref o0)]) hx hb dL_left_13 hl (by decide) rfl (fun ls hl => ?_)
      refine lv_iconst (v := 1) hx hb dL_left_15 (by decide) ?_
      have hP9 := hP.sub (ws' := [(o0, .inl (cJ, 1, .inr (.inl (fun _ => 0))))]) [0] rfl
      have hD9 := hD.sub (ws' := [(o0, .inl (cJ, 1, .inr (.inl (fun _ => 0))))]) [0] (by decide) rfl
      refine W.widen (k := 1) (n := 6) (by omega) (by omega) ?_
      exact W.iret (v := 1) hx hb hr (fun t ht9 hW => ⟨⟨1, (fun _ => 0), rfl, (rfl), by rw [ht9]; exact hP9, hD9⟩, hS.F ht9⟩) hS.2.2 dL_left_16
  · exact hw9.elim
