theorem dX11_word_0 : decode cX11_word 0 = .ok (.aload_n 0, 1) := by decide +kernel
theorem dX11_word_1 : decode cX11_word 1 = .ok (.iload_n 1, 1) := by decide +kernel
theorem dX11_word_2 : decode cX11_word 2 = .ok (.invokevirtual 187, 3) := by decide +kernel
theorem dX11_checkAddress_0 : decode cX11_checkAddress 0 = .ok (.iload_n 1, 1) := by decide +kernel
theorem dX11_checkAddress_1 : decode cX11_checkAddress 1 = .ok (.iconst 3, 1) := by decide +kernel
theorem dX11_checkAddress_2 : decode cX11_checkAddress 2 = .ok (.iand, 1) := by decide +kernel
theorem dX11_checkAddress_3 : decode cX11_checkAddress 3 = .ok (.ifCond .eq 13, 3) := by decide +kernel
theorem dX11_checkAddress_16 : decode cX11_checkAddress 16 = .ok (.aload_n 0, 1) := by decide +kernel
theorem dX11_checkAddress_17 : decode cX11_checkAddress 17 = .ok (.getfield 66, 3) := by decide +kernel
theorem dX11_checkAddress_20 : decode cX11_checkAddress 20 = .ok (.iload_n 1, 1) := by decide +kernel
theorem dX11_checkAddress_21 : decode cX11_checkAddress 21 = .ok (.invokevirtual 196, 3) := by decide +kernel
theorem dX6_hasWord_21 : decode cX6_hasWord 21 = .ok (.iconst 0, 1) := by decide +kernel
theorem tw_281 : ∀ w ∈ ([.methodLink RX11 196 yX6_hasWord, .instanceMethod yX6_hasWord, .selects RX6 yX6_hasWord yX6_hasWord, .initialized RX6] : List Cond), w ∈ tw_W := tw_all (by decide +kernel)
theorem dX11_checkAddress_24 : decode cX11_checkAddress 24 = .ok (.ifCond .ne 13, 3) := by decide +kernel
theorem dX11_checkAddress_37 : decode cX11_checkAddress 37 = .ok (.return_, 1) := by decide +kernel
theorem dX11_checkAddress_27 : decode cX11_checkAddress 27 = .ok (.new 119, 3) := by decide +kernel
theorem dX11_checkAddress_30 : decode cX11_checkAddress 30 = .ok (.dup, 1) := by decide +kernel
theorem dX11_checkAddress_31 : decode cX11_checkAddress 31 = .ok (.ldc 200, 2) := by decide +kernel
theorem dX11_checkAddress_33 : decode cX11_checkAddress 33 = .ok (.invokespecial 123, 3) := by decide +kernel
theorem dX11_checkAddress_36 : decode cX11_checkAddress 36 = .ok (.athrow, 1) := by decide +kernel
theorem dX11_checkAddress_6 : decode cX11_checkAddress 6 = .ok (.new 137, 3) := by decide +kernel
theorem dX11_checkAddress_9 : decode cX11_checkAddress 9 = .ok (.dup, 1) := by decide +kernel
theorem dX11_checkAddress_10 : decode cX11_checkAddress 10 = .ok (.ldc 194, 2) := by decide +kernel
theorem dX11_checkAddress_12 : decode cX11_checkAddress 12 = .ok (.invokespecial 141, 3) := by decide +kernel
theorem dX11_checkAddress_15 : decode cX11_checkAddress 15 = .ok (.athrow, 1) := by decide +kernel
theorem tw_282 : (.code yX11_checkAddress cX11_checkAddress 2 none : Cond) ∈ tw_W := tw_in (by decide +kernel) (by decide +kernel)
theorem tw_283 : ∀ w ∈ ([.methodLink RX11 187 yX11_checkAddress, .instanceMethod yX11_checkAddress, .selects RX11 yX11_checkAddress yX11_checkAddress, .initialized RX11] : List Cond), w ∈ tw_W := tw_all (by decide +kernel)
theorem dX11_word_5 : decode cX11_word 5 = .ok (.aload_n 0, 1) := by decide +kernel
theorem dX11_word_6 : decode cX11_word 6 = .ok (.getfield 66, 3) := by decide +kernel
theorem dX11_word_9 : decode cX11_word 9 = .ok (.iload_n 1, 1) := by decide +kernel
theorem dX11_word_10 : decode cX11_word 10 = .ok (.invokevirtual 190, 3) := by decide +kernel
theorem dX6_wordAt_22 : decode cX6_wordAt 22 = .ok (.iconst 0, 1) := by decide +kernel
theorem tw_284 : ∀ w ∈ ([.methodLink RX11 190 yX6_wordAt, .instanceMethod yX6_wordAt, .selects RX6 yX6_wordAt yX6_wordAt, .initialized RX6] : List Cond), w ∈ tw_W := tw_all (by decide +kernel)
theorem dX11_word_13 : decode cX11_word 13 = .ok (.ireturn, 1) := by decide +kernel
theorem dX11_poke_0 : decode cX11_poke 0 = .ok (.aload_n 0, 1) := by decide +kernel
theorem dX11_poke_1 : decode cX11_poke 1 = .ok (.iload_n 1, 1) := by decide +kernel
theorem dX11_poke_2 : decode cX11_poke 2 = .ok (.invokevirtual 187, 3) := by decide +kernel
theorem dX11_poke_5 : decode cX11_poke 5 = .ok (.aload_n 0, 1) := by decide +kernel
theorem dX11_poke_6 : decode cX11_poke 6 = .ok (.getfield 66, 3) := by decide +kernel
theorem dX11_poke_9 : decode cX11_poke 9 = .ok (.iload_n 1, 1) := by decide +kernel
theorem dX11_poke_10 : decode cX11_poke 10 = .ok (.iload_n 2, 1) := by decide +kernel
theorem dX11_poke_11 : decode cX11_poke 11 = .ok (.invokevirtual 191, 3) := by decide +kernel
theorem dX6_layWord_0 : decode cX6_layWord 0 = .ok (.iload_n 1, 1) := by decide +kernel
theorem dX6_layWord_1 : decode cX6_layWord 1 = .ok (.iconst 2, 1) := by decide +kernel
theorem dX6_layWord_2 : decode cX6_layWord 2 = .ok (.iushr, 1) := by decide +kernel
theorem dX6_layWord_3 : decode cX6_layWord 3 = .ok (.istore_n 3, 1) := by decide +kernel
theorem dX6_layWord_4 : decode cX6_layWord 4 = .ok (.iload_n 3, 1) := by decide +kernel
theorem dX6_layWord_5 : decode cX6_layWord 5 = .ok (.aload_n 0, 1) := by decide +kernel
theorem dX6_layWord_6 : decode cX6_layWord 6 = .ok (.getfield 18, 3) := by decide +kernel
theorem dX6_layWord_9 : decode cX6_layWord 9 = .ok (.arraylength, 1) := by decide +kernel
theorem dX6_layWord_10 : decode cX6_layWord 10 = .ok (.if_icmp .ge 10, 3) := by decide +kernel
theorem dX6_layWord_20 : decode cX6_layWord 20 = .ok (.return_, 1) := by decide +kernel
theorem dX6_layWord_13 : decode cX6_layWord 13 = .ok (.aload_n 0, 1) := by decide +kernel
theorem dX6_layWord_14 : decode cX6_layWord 14 = .ok (.getfield 18, 3) := by decide +kernel
theorem dX6_layWord_17 : decode cX6_layWord 17 = .ok (.iload_n 3, 1) := by decide +kernel
theorem dX6_layWord_18 : decode cX6_layWord 18 = .ok (.iload_n 2, 1) := by decide +kernel
theorem dX6_layWord_19 : decode cX6_layWord 19 = .ok (.iastore, 1) := by decide +kernel
theorem tw_285 : (.code yX6_layWord cX6_layWord 4 none : Cond) ∈ tw_W := tw_in (by decide +kernel) (by decide +kernel)
theorem tw_286 : ∀ w ∈ ([.methodLink RX11 191 yX6_layWord, .instanceMethod yX6_layWord, .selects RX6 yX6_layWord yX6_layWord, .initialized RX6] : List Cond), w ∈ tw_W := tw_all (by decide +kernel)
theorem dX11_poke_14 : decode cX11_poke 14 = .ok (.return_, 1) := by decide +kernel
set_option maxHeartbeats 4000000 in
set_option maxRecDepth 100000 in
theorem c_X6_hasWord_2 (l : Launch) (dC : Nat → ClassId) (dI : Nat → Nat → Nat) (cI cB cZ cJ cR : ClassId) (tb : Nat → Nat) (sz : Nat) (a0_ : Nat) (x0_ : Int32) (a1_ : Nat) (a2_ : Nat) (a3_ : Nat) (a4_ : Nat) (N : Nat) (hf_N_0 : 256 ≤ N) (hf_N_1 : N ≤ 4096) : Met l yX6_hasWord (Cond.code yX6_hasWord cX6_hasWord 2 (some .boolean) :: tw_W) ({ frames := 0, cells := 0, slots := 0, locals := 0 }) (pc_ (dC, dI) (tyS cI cB cZ cJ cR) tb [(a0_, .inr (9, [.ref a1_, .ref a2_, .int 0, .int 0, .int 0, .int 0, .ref a3_, .int 0, .ref a4_])), (a1_, .inl (cI, N, .inl (fun _ => 0)))] sz [.ref a0_, .int x0_]) (qi_ (dC, dI) [(a0_, .inr (9, [.ref a1_, .ref a2_, .int 0, .int 0, .int 0, .int 0, .ref a3_, .int 0, .ref a4_])), (a1_, .inl (cI, N, .inl (fun _ => 0)))] sz (fun (r : Int32) (u : Unit) => r = (if (x0_ &&& 3) = 0 then (if (nI N) ≤ ((x0_.toUInt32 >>> ((2 : Int32).toUInt32 &&& Int32.toUInt32 31)).toInt32) then 0 else 1) else 0)) (fun (u : Unit) => [(a0_, .inr (9, [.ref a1_, .ref a2_, .int 0, .int 0, .int 0, .int 0, .ref a3_, .int 0, .ref a4_])), (a1_, .inl (cI, N, .inl (fun _ => 0)))])) 0 0 (va_A [(a0_, .inr (9, [.ref a1_, .ref a2_, .int 0, .int 0, .int 0, .int 0, .ref a3_, .int 0, .ref a4_])), (a1_, .inl (cI, N, .inl (fun _ => 0)))] sz) := by
  refine Met.ofW (cc := cX6_hasWord) (maxL := 2) (ret := (some .boolean)) (by decide) rfl ?_
  intro p e s m args below meth c s₁ B hml hv
  obtain ⟨rfl, hsz, hP, hKK, hD0, hFx⟩ := hv
  have hK := hKK.1
  have hx := B.exec
  have hb := B.bytes
  have hr := B.returns
  have ht : ∀ w ∈ tw_W, w.before _ s = true := fun w h => atoms_spec (ws := Cond.code yX6_hasWord cX6_hasWord 2 (some .boolean) :: tw_W) B.pre w (List.mem_cons_of_mem _ h)
  have hown : s.vm.findClass RX6 = some m.cls := findClass_of_methodNamed B.named
  have hlocks := B.notSynchronized
  subst hsz
  unfold qi_
  have hD := hD0.self (sz := s.heap.size)
  generalize hAe : va_A [(a0_, .inr (9, [.ref a1_, .ref a2_, .int 0, .int 0, .int 0, .int 0, .ref a3_, .int 0, .ref a4_])), (a1_, .inl (cI, N, .inl (fun _ => 0)))] s.heap.size = A at hD hFx ⊢
  have hA : ∀ q : Nat, s.heap.size ≤ q → A q := fun q h => by rw [← hAe]; exact Or.inr h
  have hS : va_S A s.heap s.heap [] := va_S.rf
  have hP : va_P (dC, dI) vwCl [(a0_, .inr (9, [.ref a1_, .ref a2_, .int 0, .int 0, .int 0, .int 0, .ref a3_, .int 0, .ref a4_])), (a1_, .inl (cI, N, .inl (fun _ => 0)))] s.heap := hP
  have hl := lv_entry ([.ref a0_, .int x0_]) (n := 2) (Nat.le_of_ble_eq_true rfl)
  rw [lg_entry_eq]
  generalize (lg_sl ([.ref a0_, .int x0_]) ++ List.replicate (2 - (lg_sl ([.ref a0_, .int x0_])).length) Slot.unset).toArray = ls at hl ⊢
  have hl : lv_has ls 2 [(0, .ref a0_), (1, .int x0_)] := hl
  refine lv_iload_n hx hb dX6_hasWord_0 rfl (lv_at hl 1 rfl) ?_
  refine lv_iconst (v := 3) hx hb dX6_hasWord_1 (by decide) ?_
  refine lv_iand hx hb dX6_hasWord_2 ?_
  refine lv_if_ne (tgt := 21) hx hb dX6_hasWord_3 (by decide) (fun h1 => ?_) (fun h1 => ?_)
  · refine lv_iconst (v := 0) hx hb dX6_hasWord_21 (by decide) ?_
    have hP9 := hP.sub (ws' := [(a0_, .inr (9, [.ref a1_, .ref a2_, .int 0, .int 0, .int 0, .int 0, .ref a3_, .int 0, .ref a4_])), (a1_, .inl (cI, N, .inl (fun _ => 0)))]) [0, 1] rfl
    have hD9 := hD.sub (ws' := [(a0_, .inr (9, [.ref a1_, .ref a2_, .int 0, .int 0, .int 0, .int 0, .ref a3_, .int 0, .ref a4_])), (a1_, .inl (cI, N, .inl (fun _ => 0)))]) [0, 1] (by decide) rfl
    refine W.widen (k := 0) (n := 0) (by omega) (by omega) ?_
    exact W.zret (v := 0) hx hb hr rfl (fun t ht9 hW => ⟨⟨0, (), rfl, (by rw [if_neg h1]), by rw [ht9]; exact hP9, hD9⟩, hS.F ht9⟩) hS.2.2 dX6_hasWord_22
  · refine lv_iload_n hx hb dX6_hasWord_6 rfl (lv_at hl 1 rfl) ?_
    refine lv_iconst (v := 2) hx hb dX6_hasWord_7 (by decide) ?_
    refine lv_iushr hx hb dX6_hasWord_8 rfl ?_
    refine lv_aload_n hx hb dX6_hasWord_9 rfl (lv_at hl 0 rfl) ?_
    refine va_get (D := (dC, dI)) (ci := 9) (v := .ref a1_) (C := RX6) (T := TX6) (N := 9) hx hb ht itX6 hown hK hP 0 rfl rfl 0 (by decide) (ht _ tw_134) (fun _ h9 => h9) rfl dX6_hasWord_10 ?_
    refine va_alen (D := (dC, dI)) (v := (nI N)) hx hb hK hP 1 0 rfl rfl rfl dX6_hasWord_13 ?_
    refine lv_icmp_ge (tgt := 21) hx hb dX6_hasWord_14 (by decide) (fun h2 => ?_) (fun h2 => ?_)
    · refine lv_iconst (v := 0) hx hb dX6_hasWord_21 (by decide) ?_
      have hP9 := hP.sub (ws' := [(a0_, .inr (9, [.ref a1_, .ref a2_, .int 0, .int 0, .int 0, .int 0, .ref a3_, .int 0, .ref a4_])), (a1_, .inl (cI, N, .inl (fun _ => 0)))]) [0, 1] rfl
      have hD9 := hD.sub (ws' := [(a0_, .inr (9, [.ref a1_, .ref a2_, .int 0, .int 0, .int 0, .int 0, .ref a3_, .int 0, .ref a4_])), (a1_, .inl (cI, N, .inl (fun _ => 0)))]) [0, 1] (by decide) rfl
      refine W.widen (k := 0) (n := 0) (by omega) (by omega) ?_
      exact W.zret (v := 0) hx hb hr rfl (fun t ht9 hW => ⟨⟨0, (), rfl, (by rw [if_pos h1, if_pos h2]), by rw [ht9]; exact hP9, hD9⟩, hS.F ht9⟩) hS.2.2 dX6_hasWord_22
    · refine lv_iconst (v := 1) hx hb dX6_hasWord_17 (by decide) ?_
      refine lv_goto (tgt := 22) hx hb dX6_hasWord_18 (by decide) ?_
      have hP9 := hP.sub (ws' := [(a0_, .inr (9, [.ref a1_, .ref a2_, .int 0, .int 0, .int 0, .int 0, .ref a3_, .int 0, .ref a4_])), (a1_, .inl (cI, N, .inl (fun _ => 0)))]) [0, 1] rfl
      have hD9 := hD.sub (ws' := [(a0_, .inr (9, [.ref a1_, .ref a2_, .int 0, .int 0, .int 0, .int 0, .ref a3_, .int 0, .ref a4_])), (a1_, .inl (cI, N, .inl (fun _ => 0)))]) [0, 1] (by decide) rfl
      refine W.widen (k := 0) (n := 0) (by omega) (by omega) ?_
      exact W.zret (v := 1) hx hb hr rfl (fun t ht9 hW => ⟨⟨1, (), rfl, (by rw [if_pos h1, if_neg h2]), by rw [ht9]; exact hP9, hD9⟩, hS.F ht9⟩) hS.2.2 dX6_hasWord_22
set_option maxHeartbeats 4000000 in
set_option maxRecDepth 100000 in
theorem c_X11_checkAddress (l : Launch) (dC : Nat → ClassId) (dI : Nat → Nat → Nat) (cI cB cZ cJ cR : ClassId) (tb : Nat → Nat) (hst : l.stackTraces = false) (sz : Nat) (a0_ : Nat) (x0_ : Int32) (a1_ : Nat) (a2_ : Nat) (a3_ : Nat) (a4_ : Nat) (a5_ : Nat) (a6_ : Nat) (a7_ : Nat) (a8_ : Nat) (a9_ : Nat) (a10_ : Nat) (a11_ : Nat) (a12_ : Nat) (N : Nat) (hf_N_0 : 256 ≤ N) (hf_N_1 : N ≤ 4096) : vx_Met l yX11_checkAddress (Cond.code yX11_checkAddress cX11_checkAddress 2 none :: tw_W) ({ frames := 6, cells := 1, slots := 6, locals := 82 }) (pc_ (dC, dI) (tyS cI cB cZ cJ cR) tb [(a0_, .inr (14, [.ref a1_, .int 0, .ref a2_, .ref a3_, .ref a4_, .ref a5_, .int 0, .int (-1), .ref a6_, .ref a7_, .ref a8_, .ref a9_])), (a7_, .inr (9, [.ref a10_, .ref a11_, .int 0, .int 0, .int 0, .int 0, .ref a12_, .int 0, .ref a6_])), (a10_, .inl (cI, N, .inl (fun _ => 0)))] sz [.ref a0_, .int x0_]) (qv_ (dC, dI) [(a0_, .inr (14, [.ref a1_, .int 0, .ref a2_, .ref a3_, .ref a4_, .ref a5_, .int 0, .int (-1), .ref a6_, .ref a7_, .ref a8_, .ref a9_])), (a7_, .inr (9, [.ref a10_, .ref a11_, .int 0, .int 0, .int 0, .int 0, .ref a12_, .int 0, .ref a6_])), (a10_, .inl (cI, N, .inl (fun _ => 0)))] sz (fun (u : Unit) => ((x0_ &&& 3) = 0 ∧ ¬ ((if (x0_ &&& 3) = 0 then (if (nI N) ≤ ((x0_.toUInt32 >>> ((2 : Int32).toUInt32 &&& Int32.toUInt32 31)).toInt32) then 0 else 1) else 0) : Int32) = 0 ∧ True)) (fun (u : Unit) => [(a0_, .inr (14, [.ref a1_, .int 0, .ref a2_, .ref a3_, .ref a4_, .ref a5_, .int 0, .int (-1), .ref a6_, .ref a7_, .ref a8_, .ref a9_])), (a7_, .inr (9, [.ref a10_, .ref a11_, .int 0, .int 0, .int 0, .int 0, .ref a12_, .int 0, .ref a6_])), (a10_, .inl (cI, N, .inl (fun _ => 0)))])) (qx_ [(a0_, .inr (14, [.ref a1_, .int 0, .ref a2_, .ref a3_, .ref a4_, .ref a5_, .int 0, .int (-1), .ref a6_, .ref a7_, .ref a8_, .ref a9_])), (a7_, .inr (9, [.ref a10_, .ref a11_, .int 0, .int 0, .int 0, .int 0, .ref a12_, .int 0, .ref a6_])), (a10_, .inl (cI, N, .inl (fun _ => 0)))] sz (fun E => ((x0_ &&& 3) = 0 ∧ ((if (x0_ &&& 3) = 0 then (if (nI N) ≤ ((x0_.toUInt32 >>> ((2 : Int32).toUInt32 &&& Int32.toUInt32 31)).toInt32) then 0 else 1) else 0) : Int32) = 0 ∧ E = "java/lang/IndexOutOfBoundsException") ∨ (¬ ((x0_ &&& 3) = 0) ∧ E = "java/lang/IllegalArgumentException"))) 1 6 (va_A [(a0_, .inr (14, [.ref a1_, .int 0, .ref a2_, .ref a3_, .ref a4_, .ref a5_, .int 0, .int (-1), .ref a6_, .ref a7_, .ref a8_, .ref a9_])), (a7_, .inr (9, [.ref a10_, .ref a11_, .int 0, .int 0, .int 0, .int 0, .ref a12_, .int 0, .ref a6_])), (a10_, .inl (cI, N, .inl (fun _ => 0)))] sz) := by
  refine vx_ofW (cc := cX11_checkAddress) (maxL := 2) (ret := none) (by decide) rfl ?_
  intro p e s m args below meth c s₁ B hml hnt hv
  obtain ⟨rfl, hsz, hP, hKK, hD0, hFx⟩ := hv
  have hK := hKK.1
  have hx := B.exec
  have hb := B.bytes
  have hr := B.returns
  have ht : ∀ w ∈ tw_W, w.before _ s = true := fun w h => atoms_spec (ws := Cond.code yX11_checkAddress cX11_checkAddress 2 none :: tw_W) B.pre w (List.mem_cons_of_mem _ h)
  have hown : s.vm.findClass RX11 = some m.cls := findClass_of_methodNamed B.named
  have hlocks := B.notSynchronized
  subst hsz
  unfold qv_ qx_
  have hD := hD0.self (sz := s.heap.size)
  generalize hAe : va_A [(a0_, .inr (14, [.ref a1_, .int 0, .ref a2_, .ref a3_, .ref a4_, .ref a5_, .int 0, .int (-1), .ref a6_, .ref a7_, .ref a8_, .ref a9_])), (a7_, .inr (9, [.ref a10_, .ref a11_, .int 0, .int 0, .int 0, .int 0, .ref a12_, .int 0, .ref a6_])), (a10_, .inl (cI, N, .inl (fun _ => 0)))] s.heap.size = A at hD hFx ⊢
  have hA : ∀ q : Nat, s.heap.size ≤ q → A q := fun q h => by rw [← hAe]; exact Or.inr h
  have hS : va_S A s.heap s.heap [] := va_S.rf
  have hP : va_P (dC, dI) vwCl [(a0_, .inr (14, [.ref a1_, .int 0, .ref a2_, .ref a3_, .ref a4_, .ref a5_, .int 0, .int (-1), .ref a6_, .ref a7_, .ref a8_, .ref a9_])), (a7_, .inr (9, [.ref a10_, .ref a11_, .int 0, .int 0, .int 0, .int 0, .ref a12_, .int 0, .ref a6_])), (a10_, .inl (cI, N, .inl (fun _ => 0)))] s.heap := hP
  have hl := lv_entry ([.ref a0_, .int x0_]) (n := 2) (Nat.le_of_ble_eq_true rfl)
  rw [lg_entry_eq]
  generalize (lg_sl ([.ref a0_, .int x0_]) ++ List.replicate (2 - (lg_sl ([.ref a0_, .int x0_])).length) Slot.unset).toArray = ls at hl ⊢
  have hl : lv_has ls 2 [(0, .ref a0_), (1, .int x0_)] := hl
  refine lv_iload_n hx hb dX11_checkAddress_0 rfl (lv_at hl 1 rfl) ?_
  refine lv_iconst (v := 3) hx hb dX11_checkAddress_1 (by decide) ?_
  refine lv_iand hx hb dX11_checkAddress_2 ?_
  refine lv_if_eq (tgt := 16) hx hb dX11_checkAddress_3 (by decide) (fun h1 => ?_) (fun h1 => ?_)
  · refine lv_aload_n hx hb dX11_checkAddress_16 rfl (lv_at hl 0 rfl) ?_
    refine va_get (D := (dC, dI)) (ci := 14) (v := .ref a7_) (C := RX11) (T := TX11) (N := 12) hx hb ht itX11 hown hK hP 0 rfl rfl 9 (by decide) (ht _ tw_140) (fun _ h9 => h9) rfl dX11_checkAddress_17 ?_
    refine lv_iload_n hx hb dX11_checkAddress_20 rfl (lv_at hl 1 rfl) ?_
    refine ca_i (wr := [(a0_, .inr (14, [.ref a1_, .int 0, .ref a2_, .ref a3_, .ref a4_, .ref a5_, .int 0, .int (-1), .ref a6_, .ref a7_, .ref a8_, .ref a9_]))]) (rn_V (n := 1) (As := [.int x0_]) (rest := []) hx hb hml hown ht hKK hFx hP hD hS hA (c_X6_hasWord_2 l dC dI cI cB cZ cJ cR tb s.heap.size a7_ x0_ a10_ a11_ a12_ a6_ N (by omega) (by omega)) tw_229 tw_281 (by decide +kernel) rfl rfl ⟨Nat.le_of_ble_eq_true rfl, Nat.le_of_ble_eq_true rfl⟩ [1, 2] rfl (by decide) rfl rfl rfl rfl hl.1 rfl (Nat.le_of_ble_eq_true rfl) dX11_checkAddress_21 ⟨Nat.le_of_ble_eq_true rfl, Nat.le_of_ble_eq_true rfl⟩) hP hD hS hA (isC := [1, 2]) (isR := [0]) rfl rfl (by decide) (by decide) (fun r3 u H locs hw2 hP hD hS => ?_)
    subst hw2
    have hP : va_P (dC, dI) vwCl [(a0_, .inr (14, [.ref a1_, .int 0, .ref a2_, .ref a3_, .ref a4_, .ref a5_, .int 0, .int (-1), .ref a6_, .ref a7_, .ref a8_, .ref a9_])), (a7_, .inr (9, [.ref a10_, .ref a11_, .int 0, .int 0, .int 0, .int 0, .ref a12_, .int 0, .ref a6_])), (a10_, .inl (cI, N, .inl (fun _ => 0)))] H := hP
    have hD : va_D A [(a0_, .inr (14, [.ref a1_, .int 0, .ref a2_, .ref a3_, .ref a4_, .ref a5_, .int 0, .int (-1), .ref a6_, .ref a7_, .ref a8_, .ref a9_])), (a7_, .inr (9, [.ref a10_, .ref a11_, .int 0, .int 0, .int 0, .int 0, .ref a12_, .int 0, .ref a6_])), (a10_, .inl (cI, N, .inl (fun _ => 0)))] := hD
    refine W.widen (k := 0) (n := 0) (by omega) (by omega) ?_
    refine lv_if_ne (tgt := 37) hx hb dX11_checkAddress_24 (by decide) (fun h4 => ?_) (fun h4 => ?_)
    · have hP9 := hP.sub (ws' := [(a0_, .inr (14, [.ref a1_, .int 0, .ref a2_, .ref a3_, .ref a4_, .ref a5_, .int 0, .int (-1), .ref a6_, .ref a7_, .ref a8_, .ref a9_])), (a7_, .inr (9, [.ref a10_, .ref a11_, .int 0, .int 0, .int 0, .int 0, .ref a12_, .int 0, .ref a6_])), (a10_, .inl (cI, N, .inl (fun _ => 0)))]) [0, 1, 2] rfl
      have hD9 := hD.sub (ws' := [(a0_, .inr (14, [.ref a1_, .int 0, .ref a2_, .ref a3_, .ref a4_, .ref a5_, .int 0, .int (-1), .ref a6_, .ref a7_, .ref a8_, .ref a9_])), (a7_, .inr (9, [.ref a10_, .ref a11_, .int 0, .int 0, .int 0, .int 0, .ref a12_, .int 0, .ref a6_])), (a10_, .inl (cI, N, .inl (fun _ => 0)))]) [0, 1, 2] (by decide) rfl
      refine W.widen (k := 1) (n := 6) (by omega) (by omega) ?_
      refine vx_ret ?_
      exact W.vret hx hb hr (fun t ht9 hW => ⟨⟨(), rfl, (⟨h1, h4, trivial⟩), by rw [ht9]; exact hP9, hD9⟩, hS.F ht9⟩) hS.2.2 dX11_checkAddress_37
    · refine vx_throwS (names := ["java/lang/RuntimeException", "java/lang/Exception"]) (A := A) hx hb hst hown (by decide +kernel) (by decide +kernel) (ht _ tw_268) (ht _ tw_269) (st_ hKK 18 (own := RX11) (idx := 200) (tx := "not in the memory") (n := 18) rfl) (vx_hat (fun w h => ht w (xat_0 w h)) xat_0_n (vx_c (va_Nw.use rfl (hKK.2.2.2.2.2.1 _ (List.mem_of_getElem? (i := 0) rfl))) (vx_c (dcl_0 ht) (vx_c (dcl_1 ht) (vx_c (dcl_2 ht) vx_n))))) xat_0_o hFx.2.2.2.2.1 hFx.2.2.2.2.2.1 hS (by rw [hml]; exact hl.1) dX11_checkAddress_27 dX11_checkAddress_30 dX11_checkAddress_31 dX11_checkAddress_33 dX11_checkAddress_36 (fun x h9 => (hnt x h9).elim) (Nat.le_of_ble_eq_true rfl) (Nat.le_of_ble_eq_true rfl) (Nat.le_of_ble_eq_true rfl) (Nat.le_of_ble_eq_true rfl) hlocks (fun t9 hv9 hz9 hk9 => ⟨(), trivial, (Or.inl ⟨h1, h4, rfl⟩), ⟨Nat.le_trans hS.1 hz9, fun q h1 h2 => (hk9 q (Nat.lt_of_lt_of_le h1 hS.1)).trans (hS.2.1 q h1 h2)⟩⟩) hS.2.2 (Nat.le_of_ble_eq_true rfl) (Nat.le_of_ble_eq_true rfl)
  · refine vx_throwS (names := ["java/lang/RuntimeException", "java/lang/Exception"]) (A := A) hx hb hst hown (by decide +kernel) (by decide +kernel) (ht _ tw_270) (ht _ tw_271) (st_ hKK 17 (own := RX11) (idx := 194) (tx := "no multiple of 4") (n := 17) rfl) (vx_hat (fun w h => ht w (xat_1 w h)) xat_1_n (vx_c (va_Nw.use rfl (hKK.2.2.2.2.2.1 _ (List.mem_of_getElem? (i := 1) rfl))) (vx_c (dcl_0 ht) (vx_c (dcl_1 ht) (vx_c (dcl_2 ht) vx_n))))) xat_1_o hFx.2.2.2.2.1 hFx.2.2.2.2.2.1 hS (by rw [hml]; exact hl.1) dX11_checkAddress_6 dX11_checkAddress_9 dX11_checkAddress_10 dX11_checkAddress_12 dX11_checkAddress_15 (fun x h9 => (hnt x h9).elim) (Nat.le_of_ble_eq_true rfl) (Nat.le_of_ble_eq_true rfl) (Nat.le_of_ble_eq_true rfl) (Nat.le_of_ble_eq_true rfl) hlocks (fun t9 hv9 hz9 hk9 => ⟨(), trivial, (Or.inr (⟨h1, rfl⟩)), ⟨Nat.le_trans hS.1 hz9, fun q h1 h2 => (hk9 q (Nat.lt_of_lt_of_le h1 hS.1)).trans (hS.2.1 q h1 h2)⟩⟩) hS.2.2 (Nat.le_of_ble_eq_true rfl) (Nat.le_of_ble_eq_true rfl)
set_option maxHeartbeats 4000000 in
set_option maxRecDepth 100000 in
theorem c_X6_wordAt_2 (l : Launch) (dC : Nat → ClassId) (dI : Nat → Nat → Nat) (cI cB cZ cJ cR : ClassId) (tb : Nat → Nat) (sz : Nat) (a0_ : Nat) (x0_ : Int32) (a1_ : Nat) (a2_ : Nat) (a3_ : Nat) (a4_ : Nat) (N : Nat) (hf_N_0 : 256 ≤ N) (hf_N_1 : N ≤ 4096) : Met l yX6_wordAt (Cond.code yX6_wordAt cX6_wordAt 3 (some .int) :: tw_W) ({ frames := 0, cells := 0, slots := 0, locals := 0 }) (pc_ (dC, dI) (tyS cI cB cZ cJ cR) tb [(a0_, .inr (9, [.ref a1_, .ref a2_, .int 0, .int 0, .int 0, .int 0, .ref a3_, .int 0, .ref a4_])), (a1_, .inl (cI, N, .inl (fun _ => 0)))] sz [.ref a0_, .int x0_]) (qi_ (dC, dI) [(a0_, .inr (9, [.ref a1_, .ref a2_, .int 0, .int 0, .int 0, .int 0, .ref a3_, .int 0, .ref a4_])), (a1_, .inl (cI, N, .inl (fun _ => 0)))] sz (fun (r : Int32) (u : Unit) => r = 0) (fun (u : Unit) => [(a0_, .inr (9, [.ref a1_, .ref a2_, .int 0, .int 0, .int 0, .int 0, .ref a3_, .int 0, .ref a4_])), (a1_, .inl (cI, N, .inl (fun _ => 0)))])) 0 0 (va_A [(a0_, .inr (9, [.ref a1_, .ref a2_, .int 0, .int 0, .int 0, .int 0, .ref a3_, .int 0, .ref a4_])), (a1_, .inl (cI, N, .inl (fun _ => 0)))] sz) := by
  refine Met.ofW (cc := cX6_wordAt) (maxL := 3) (ret := (some .int)) (by decide) rfl ?_
  intro p e s m args below meth c s₁ B hml hv
  obtain ⟨rfl, hsz, hP, hKK, hD0, hFx⟩ := hv
  have hK := hKK.1
  have hx := B.exec
  have hb := B.bytes
  have hr := B.returns
  have ht : ∀ w ∈ tw_W, w.before _ s = true := fun w h => atoms_spec (ws := Cond.code yX6_wordAt cX6_wordAt 3 (some .int) :: tw_W) B.pre w (List.mem_cons_of_mem _ h)
  have hown : s.vm.findClass RX6 = some m.cls := findClass_of_methodNamed B.named
  have hlocks := B.notSynchronized
  subst hsz
  unfold qi_
  have hD := hD0.self (sz := s.heap.size)
  generalize hAe : va_A [(a0_, .inr (9, [.ref a1_, .ref a2_, .int 0, .int 0, .int 0, .int 0, .ref a3_, .int 0, .ref a4_])), (a1_, .inl (cI, N, .inl (fun _ => 0)))] s.heap.size = A at hD hFx ⊢
  have hA : ∀ q : Nat, s.heap.size ≤ q → A q := fun q h => by rw [← hAe]; exact Or.inr h
  have hS : va_S A s.heap s.heap [] := va_S.rf
  have hP : va_P (dC, dI) vwCl [(a0_, .inr (9, [.ref a1_, .ref a2_, .int 0, .int 0, .int 0, .int 0, .ref a3_, .int 0, .ref a4_])), (a1_, .inl (cI, N, .inl (fun _ => 0)))] s.heap := hP
  have hl := lv_entry ([.ref a0_, .int x0_]) (n := 3) (Nat.le_of_ble_eq_true rfl)
  rw [lg_entry_eq]
  generalize (lg_sl ([.ref a0_, .int x0_]) ++ List.replicate (3 - (lg_sl ([.ref a0_, .int x0_])).length) Slot.unset).toArray = ls at hl ⊢
  have hl : lv_has ls 3 [(0, .ref a0_), (1, .int x0_)] := hl
  refine lv_iload_n hx hb dX6_wordAt_0 rfl (lv_at hl 1 rfl) ?_
  refine lv_iconst (v := 2) hx hb dX6_wordAt_1 (by decide) ?_
  refine lv_iushr hx hb dX6_wordAt_2 rfl ?_
  refine lv_istore_n (lv' := [(2, .int ((x0_.toUInt32 >>> ((2 : Int32).toUInt32 &&& Int32.toUInt32 31)).toInt32)), (0, .ref a0_), (1, .int x0_)]) hx hb dX6_wordAt_3 rfl hl (by decide) rfl (fun ls hl => ?_)
  refine lv_iload_n hx hb dX6_wordAt_4 rfl (lv_at hl 0 rfl) ?_
  refine lv_aload_n hx hb dX6_wordAt_5 rfl (lv_at hl 1 rfl) ?_
  refine va_get (D := (dC, dI)) (ci := 9) (v := .ref a1_) (C := RX6) (T := TX6) (N := 9) hx hb ht itX6 hown hK hP 0 rfl rfl 0 (by decide) (ht _ tw_134) (fun _ h9 => h9) rfl dX6_wordAt_6 ?_
  refine va_alen (D := (dC, dI)) (v := (nI N)) hx hb hK hP 1 0 rfl rfl rfl dX6_wordAt_9 ?_
  refine lv_icmp_ge (tgt := 22) hx hb dX6_wordAt_10 (by decide) (fun h1 => ?_) (fun h1 => ?_)
  · refine lv_iconst (v := 0) hx hb dX6_wordAt_22 (by decide) ?_
    have hP9 := hP.sub (ws' := [(a0_, .inr (9, [.ref a1_, .ref a2_, .int 0, .int 0, .int 0, .int 0, .ref a3_, .int 0, .ref a4_])), (a1_, .inl (cI, N, .inl (fun _ => 0)))]) [0, 1] rfl
    have hD9 := hD.sub (ws' := [(a0_, .inr (9, [.ref a1_, .ref a2_, .int 0, .int 0, .int 0, .int 0, .ref a3_, .int 0, .ref a4_])), (a1_, .inl (cI, N, .inl (fun _ => 0)))]) [0, 1] (by decide) rfl
    refine W.widen (k := 0) (n := 0) (by omega) (by omega) ?_
    exact W.iret (v := 0) hx hb hr (fun t ht9 hW => ⟨⟨0, (), rfl, rfl, by rw [ht9]; exact hP9, hD9⟩, hS.F ht9⟩) hS.2.2 dX6_wordAt_23
  · refine lv_aload_n hx hb dX6_wordAt_13 rfl (lv_at hl 1 rfl) ?_
    refine va_get (D := (dC, dI)) (ci := 9) (v := .ref a1_) (C := RX6) (T := TX6) (N := 9) hx hb ht itX6 hown hK hP 0 rfl rfl 0 (by decide) (ht _ tw_134) (fun _ h9 => h9) rfl dX6_wordAt_14 ?_
    refine lv_iload_n hx hb dX6_wordAt_17 rfl (lv_at hl 0 rfl) ?_
    refine va_iald (D := (dC, dI)) hx hb hK hP 1 0 rfl rfl (ush2_in _ h1 (by omega)) dX6_wordAt_18 ?_
    refine tp_i (y := 0) (rfl) ?_
    refine lv_goto (tgt := 23) hx hb dX6_wordAt_19 (by decide) ?_
    have hP9 := hP.sub (ws' := [(a0_, .inr (9, [.ref a1_, .ref a2_, .int 0, .int 0, .int 0, .int 0, .ref a3_, .int 0, .ref a4_])), (a1_, .inl (cI, N, .inl (fun _ => 0)))]) [0, 1] rfl
    have hD9 := hD.sub (ws' := [(a0_, .inr (9, [.ref a1_, .ref a2_, .int 0, .int 0, .int 0, .int 0, .ref a3_, .int 0, .ref a4_])), (a1_, .inl (cI, N, .inl (fun _ => 0)))]) [0, 1] (by decide) rfl
    refine W.widen (k := 0) (n := 0) (by omega) (by omega) ?_
    exact W.iret (v := 0) hx hb hr (fun t ht9 hW => ⟨⟨0, (), rfl, rfl, by rw [ht9]; exact hP9, hD9⟩, hS.F ht9⟩) hS.2.2 dX6_wordAt_23
set_option maxHeartbeats 4000000 in
set_option maxRecDepth 100000 in
/-- X11_word on a new object: it returns or throws -/
theorem c_X11_word (l : Launch) (dC : Nat → ClassId) (dI : Nat → Nat → Nat) (cI cB cZ cJ cR : ClassId) (tb : Nat → Nat) (hst : l.stackTraces = false) (sz : Nat) (h0 : Nat) (pa : Int32) (q1 : Nat) (q9 : Nat) (q18 : Nat) (q27 : Nat) (q42 : Nat) (q2 : Nat) (q45 : Nat) (q50 : Nat) (q5 : Nat) (q47 : Nat) (q48 : Nat) (q49 : Nat) (N : Nat) (hf_N_0 : 256 ≤ N) (hf_N_1 : N ≤ 4096) : vx_Met l yX11_word (Cond.code yX11_word cX11_word 2 (some .int) :: tw_W) ({ frames := 7, cells := 1, slots := 6, locals := 103 }) (pc_ (dC, dI) (tyS cI cB cZ cJ cR) tb [(h0, .inr (14, [.ref q1, .int 0, .ref q9, .ref q18, .ref q27, .ref q42, .int 0, .int (-1), .ref q2, .ref q45, .ref q50, .ref q5])), (q45, .inr (9, [.ref q47, .ref q48, .int 0, .int 0, .int 0, .int 0, .ref q49, .int 0, .ref q2])), (q47, .inl (cI, N, .inl (fun _ => 0)))] sz [.ref h0, .int pa]) (qi_ (dC, dI) [(h0, .inr (14, [.ref q1, .int 0, .ref q9, .ref q18, .ref q27, .ref q42, .int 0, .int (-1), .ref q2, .ref q45, .ref q50, .ref q5])), (q45, .inr (9, [.ref q47, .ref q48, .int 0, .int 0, .int 0, .int 0, .ref q49, .int 0, .ref q2])), (q47, .inl (cI, N, .inl (fun _ => 0)))] sz (fun (r : Int32) (u : Unit) => ((pa &&& 3) = 0 ∧ ¬ ((if (pa &&& 3) = 0 then (if (nI N) ≤ ((pa.toUInt32 >>> ((2 : Int32).toUInt32 &&& Int32.toUInt32 31)).toInt32) then 0 else 1) else 0) : Int32) = 0 ∧ r = 0)) (fun (u : Unit) => [])) (qx_ [(h0, .inr (14, [.ref q1, .int 0, .ref q9, .ref q18, .ref q27, .ref q42, .int 0, .int (-1), .ref q2, .ref q45, .ref q50, .ref q5])), (q45, .inr (9, [.ref q47, .ref q48, .int 0, .int 0, .int 0, .int 0, .ref q49, .int 0, .ref q2])), (q47, .inl (cI, N, .inl (fun _ => 0)))] sz (fun E => ((pa &&& 3) = 0 ∧ ((if (pa &&& 3) = 0 then (if (nI N) ≤ ((pa.toUInt32 >>> ((2 : Int32).toUInt32 &&& Int32.toUInt32 31)).toInt32) then 0 else 1) else 0) : Int32) = 0 ∧ E = "java/lang/IndexOutOfBoundsException") ∨ (¬ ((pa &&& 3) = 0) ∧ E = "java/lang/IllegalArgumentException"))) 1 6 (va_A [(h0, .inr (14, [.ref q1, .int 0, .ref q9, .ref q18, .ref q27, .ref q42, .int 0, .int (-1), .ref q2, .ref q45, .ref q50, .ref q5])), (q45, .inr (9, [.ref q47, .ref q48, .int 0, .int 0, .int 0, .int 0, .ref q49, .int 0, .ref q2])), (q47, .inl (cI, N, .inl (fun _ => 0)))] sz) := by
  refine vx_ofW (cc := cX11_word) (maxL := 2) (ret := (some .int)) (by decide) rfl ?_
  intro p e s m args below meth c s₁ B hml hnt hv
  obtain ⟨rfl, hsz, hP, hKK, hD0, hFx⟩ := hv
  have hK := hKK.1
  have hx := B.exec
  have hb := B.bytes
  have hr := B.returns
  have ht : ∀ w ∈ tw_W, w.before _ s = true := fun w h => atoms_spec (ws := Cond.code yX11_word cX11_word 2 (some .int) :: tw_W) B.pre w (List.mem_cons_of_mem _ h)
  have hown : s.vm.findClass RX11 = some m.cls := findClass_of_methodNamed B.named
  have hlocks := B.notSynchronized
  subst hsz
  unfold qi_ qx_
  have hD := hD0.self (sz := s.heap.size)
  generalize hAe : va_A [(h0, .inr (14, [.ref q1, .int 0, .ref q9, .ref q18, .ref q27, .ref q42, .int 0, .int (-1), .ref q2, .ref q45, .ref q50, .ref q5])), (q45, .inr (9, [.ref q47, .ref q48, .int 0, .int 0, .int 0, .int 0, .ref q49, .int 0, .ref q2])), (q47, .inl (cI, N, .inl (fun _ => 0)))] s.heap.size = A at hD hFx ⊢
  have hA : ∀ q : Nat, s.heap.size ≤ q → A q := fun q h => by rw [← hAe]; exact Or.inr h
  have hS : va_S A s.heap s.heap [] := va_S.rf
  have hP : va_P (dC, dI) vwCl [(h0, .inr (14, [.ref q1, .int 0, .ref q9, .ref q18, .ref q27, .ref q42, .int 0, .int (-1), .ref q2, .ref q45, .ref q50, .ref q5])), (q45, .inr (9, [.ref q47, .ref q48, .int 0, .int 0, .int 0, .int 0, .ref q49, .int 0, .ref q2])), (q47, .inl (cI, N, .inl (fun _ => 0)))] s.heap := hP
  have hl := lv_entry ([.ref h0, .int pa]) (n := 2) (Nat.le_of_ble_eq_true rfl)
  rw [lg_entry_eq]
  generalize (lg_sl ([.ref h0, .int pa]) ++ List.replicate (2 - (lg_sl ([.ref h0, .int pa])).length) Slot.unset).toArray = ls at hl ⊢
  have hl : lv_has ls 2 [(0, .ref h0), (1, .int pa)] := hl
  refine lv_aload_n hx hb dX11_word_0 rfl (lv_at hl 0 rfl) ?_
  refine lv_iload_n hx hb dX11_word_1 rfl (lv_at hl 1 rfl) ?_
  refine ca_xv (wr := []) (rx_V (n := 1) (As := [.int pa]) (rest := []) hx hb hml hown ht hKK hFx hP hD hS hA (c_X11_checkAddress l dC dI cI cB cZ cJ cR tb hst s.heap.size h0 pa q1 q9 q18 q27 q42 q2 q45 q50 q5 q47 q48 q49 N (by omega) (by omega)) tw_282 tw_283 (by decide +kernel) rfl rfl ⟨Nat.le_of_ble_eq_true rfl, Nat.le_of_ble_eq_true rfl⟩ [0, 1, 2] rfl (by decide) rfl rfl rfl rfl hl.1 rfl (Nat.le_of_ble_eq_true rfl) dX11_word_2 ⟨Nat.le_of_ble_eq_true rfl, Nat.le_of_ble_eq_true rfl⟩) hP hD hS hA (isC := [0, 1, 2]) (isR := []) rfl rfl (by decide) (by decide) (fun E9 ce9 q9 H locs hx9 hP hD hS hc9 hv9 hf9 => ?_) (fun u H locs hw9 hP hD hS => ?_)
  · rcases hx9 with ⟨h3, h4, rfl⟩ | ⟨h5, rfl⟩
    · refine vx_out (fun x h9 => (hnt x h9).elim) hlocks hc9 hv9 hf9 (fun t9 ht9 hv8 => ⟨(), trivial, (Or.inl ⟨h3, h4, rfl⟩), hS.F ht9⟩) hS.2.2 (by omega) (by omega)
    · refine vx_out (fun x h9 => (hnt x h9).elim) hlocks hc9 hv9 hf9 (fun t9 ht9 hv8 => ⟨(), trivial, (Or.inr (⟨h5, rfl⟩)), hS.F ht9⟩) hS.2.2 (by omega) (by omega)
  · rcases hw9 with ⟨h6, h7, _⟩
    · have hP : va_P (dC, dI) vwCl [(h0, .inr (14, [.ref q1, .int 0, .ref q9, .ref q18, .ref q27, .ref q42, .int 0, .int (-1), .ref q2, .ref q45, .ref q50, .ref q5])), (q45, .inr (9, [.ref q47, .ref q48, .int 0, .int 0, .int 0, .int 0, .ref q49, .int 0, .ref q2])), (q47, .inl (cI, N, .inl (fun _ => 0)))] H := hP
      have hD : va_D A [(h0, .inr (14, [.ref q1, .int 0, .ref q9, .ref q18, .ref q27, .ref q42, .int 0, .int (-1), .ref q2, .ref q45, .ref q50, .ref q5])), (q45, .inr (9, [.ref q47, .ref q48, .int 0, .int 0, .int 0, .int 0, .ref q49, .int 0, .ref q2])), (q47, .inl (cI, N, .inl (fun _ => 0)))] := hD
      refine W.widen (k := 1) (n := 6) (by omega) (by omega) ?_
      refine lv_aload_n hx hb dX11_word_5 rfl (lv_at hl 0 rfl) ?_
      refine va_get (D := (dC, dI)) (ci := 14) (v := .ref q45) (C := RX11) (T := TX11) (N := 12) hx hb ht itX11 hown hK hP 0 rfl rfl 9 (by decide) (ht _ tw_140) (fun _ h9 => h9) rfl dX11_word_6 ?_
      refine lv_iload_n hx hb dX11_word_9 rfl (lv_at hl 1 rfl) ?_
      refine ca_i (wr := [(h0, .inr (14, [.ref q1, .int 0, .ref q9, .ref q18, .ref q27, .ref q42, .int 0, .int (-1), .ref q2, .ref q45, .ref q50, .ref q5]))]) (rn_V (n := 1) (As := [.int pa]) (rest := []) hx hb hml hown ht hKK hFx hP hD hS hA (c_X6_wordAt_2 l dC dI cI cB cZ cJ cR tb H.size q45 pa q47 q48 q49 q2 N (by omega) (by omega)) tw_231 tw_284 (by decide +kernel) rfl rfl ⟨Nat.le_of_ble_eq_true rfl, Nat.le_of_ble_eq_true rfl⟩ [1, 2] rfl (by decide) rfl rfl rfl rfl hl.1 rfl (Nat.le_of_ble_eq_true rfl) dX11_word_10 ⟨Nat.le_of_ble_eq_true rfl, Nat.le_of_ble_eq_true rfl⟩) hP hD hS hA (isC := [1, 2]) (isR := [0]) rfl rfl (by decide) (by decide) (fun r9 u H locs hw8 hP hD hS => ?_)
      subst hw8
      have hP : va_P (dC, dI) vwCl [(h0, .inr (14, [.ref q1, .int 0, .ref q9, .ref q18, .ref q27, .ref q42, .int 0, .int (-1), .ref q2, .ref q45, .ref q50, .ref q5])), (q45, .inr (9, [.ref q47, .ref q48, .int 0, .int 0, .int 0, .int 0, .ref q49, .int 0, .ref q2])), (q47, .inl (cI, N, .inl (fun _ => 0)))] H := hP
      have hD : va_D A [(h0, .inr (14, [.ref q1, .int 0, .ref q9, .ref q18, .ref q27, .ref q42, .int 0, .int (-1), .ref q2, .ref q45, .ref q50, .ref q5])), (q45, .inr (9, [.ref q47, .ref q48, .int 0, .int 0, .int 0, .int 0, .ref q49, .int 0, .ref q2])), (q47, .inl (cI, N, .inl (fun _ => 0)))] := hD
      refine W.widen (k := 1) (n := 6) (by omega) (by omega) ?_
      have hP9 := hP.sub (ws' := []) [] rfl
      have hD9 := hD.sub (ws' := []) [] (by decide) rfl
      refine W.widen (k := 1) (n := 6) (by omega) (by omega) ?_
      refine vx_ret ?_
      exact W.iret (v := 0) hx hb hr (fun t ht9 hW => ⟨⟨0, (), rfl, (⟨h6, h7, rfl⟩), by rw [ht9]; exact hP9, hD9⟩, hS.F ht9⟩) hS.2.2 dX11_word_13
set_option maxHeartbeats 4000000 in
set_option maxRecDepth 100000 in
theorem c_X6_layWord (l : Launch) (dC : Nat → ClassId) (dI : Nat → Nat → Nat) (cI cB cZ cJ cR : ClassId) (tb : Nat → Nat) (sz : Nat) (a0_ : Nat) (x0_ : Int32) (x1_ : Int32) (a1_ : Nat) (a2_ : Nat) (a3_ : Nat) (a4_ : Nat) (N : Nat) (hf_N_0 : 256 ≤ N) (hf_N_1 : N ≤ 4096) : Met l yX6_layWord (Cond.code yX6_layWord cX6_layWord 4 none :: tw_W) ({ frames := 0, cells := 0, slots := 0, locals := 0 }) (pc_ (dC, dI) (tyS cI cB cZ cJ cR) tb [(a0_, .inr (9, [.ref a1_, .ref a2_, .int 0, .int 0, .int 0, .int 0, .ref a3_, .int 0, .ref a4_])), (a1_, .inl (cI, N, .inl (fun _ => 0)))] sz [.ref a0_, .int x0_, .int x1_]) (qv_ (dC, dI) [(a0_, .inr (9, [.ref a1_, .ref a2_, .int 0, .int 0, .int 0, .int 0, .ref a3_, .int 0, .ref a4_])), (a1_, .inl (cI, N, .inl (fun _ => 0)))] sz (fun (u : Unit) => True) (fun (u : Unit) => [(a0_, .inr (9, [.ref a1_, .ref a2_, .int 0, .int 0, .int 0, .int 0, .ref a3_, .int 0, .ref a4_]))])) 0 0 (va_A [(a0_, .inr (9, [.ref a1_, .ref a2_, .int 0, .int 0, .int 0, .int 0, .ref a3_, .int 0, .ref a4_])), (a1_, .inl (cI, N, .inl (fun _ => 0)))] sz) := by
  refine Met.ofW (cc := cX6_layWord) (maxL := 4) (ret := none) (by decide) rfl ?_
  intro p e s m args below meth c s₁ B hml hv
  obtain ⟨rfl, hsz, hP, hKK, hD0, hFx⟩ := hv
  have hK := hKK.1
  have hx := B.exec
  have hb := B.bytes
  have hr := B.returns
  have ht : ∀ w ∈ tw_W, w.before _ s = true := fun w h => atoms_spec (ws := Cond.code yX6_layWord cX6_layWord 4 none :: tw_W) B.pre w (List.mem_cons_of_mem _ h)
  have hown : s.vm.findClass RX6 = some m.cls := findClass_of_methodNamed B.named
  have hlocks := B.notSynchronized
  subst hsz
  unfold qv_
  have hD := hD0.self (sz := s.heap.size)
  generalize hAe : va_A [(a0_, .inr (9, [.ref a1_, .ref a2_, .int 0, .int 0, .int 0, .int 0, .ref a3_, .int 0, .ref a4_])), (a1_, .inl (cI, N, .inl (fun _ => 0)))] s.heap.size = A at hD hFx ⊢
  have hA : ∀ q : Nat, s.heap.size ≤ q → A q := fun q h => by rw [← hAe]; exact Or.inr h
  have hS : va_S A s.heap s.heap [] := va_S.rf
  have hP : va_P (dC, dI) vwCl [(a0_, .inr (9, [.ref a1_, .ref a2_, .int 0, .int 0, .int 0, .int 0, .ref a3_, .int 0, .ref a4_])), (a1_, .inl (cI, N, .inl (fun _ => 0)))] s.heap := hP
  have hl := lv_entry ([.ref a0_, .int x0_, .int x1_]) (n := 4) (Nat.le_of_ble_eq_true rfl)
  rw [lg_entry_eq]
  generalize (lg_sl ([.ref a0_, .int x0_, .int x1_]) ++ List.replicate (4 - (lg_sl ([.ref a0_, .int x0_, .int x1_])).length) Slot.unset).toArray = ls at hl ⊢
  have hl : lv_has ls 4 [(0, .ref a0_), (1, .int x0_), (2, .int x1_)] := hl
  refine lv_iload_n hx hb dX6_layWord_0 rfl (lv_at hl 1 rfl) ?_
  refine lv_iconst (v := 2) hx hb dX6_layWord_1 (by decide) ?_
  refine lv_iushr hx hb dX6_layWord_2 rfl ?_
  refine lv_istore_n (lv' := [(3, .int ((x0_.toUInt32 >>> ((2 : Int32).toUInt32 &&& Int32.toUInt32 31)).toInt32)), (0, .ref a0_), (1, .int x0_), (2, .int x1_)]) hx hb dX6_layWord_3 rfl hl (by decide) rfl (fun ls hl => ?_)
  refine lv_iload_n hx hb dX6_layWord_4 rfl (lv_at hl 0 rfl) ?_
  refine lv_aload_n hx hb dX6_layWord_5 rfl (lv_at hl 1 rfl) ?_
  refine va_get (D := (dC, dI)) (ci := 9) (v := .ref a1_) (C := RX6) (T := TX6) (N := 9) hx hb ht itX6 hown hK hP 0 rfl rfl 0 (by decide) (ht _ tw_134) (fun _ h9 => h9) rfl dX6_layWord_6 ?_
  refine va_alen (D := (dC, dI)) (v := (nI N)) hx hb hK hP 1 0 rfl rfl rfl dX6_layWord_9 ?_
  refine lv_icmp_ge (tgt := 20) hx hb dX6_layWord_10 (by decide) (fun h1 => ?_) (fun h1 => ?_)
  · have hP9 := hP.sub (ws' := [(a0_, .inr (9, [.ref a1_, .ref a2_, .int 0, .int 0, .int 0, .int 0, .ref a3_, .int 0, .ref a4_]))]) [0] rfl
    have hD9 := hD.sub (ws' := [(a0_, .inr (9, [.ref a1_, .ref a2_, .int 0, .int 0, .int 0, .int 0, .ref a3_, .int 0, .ref a4_]))]) [0] (by decide) rfl
    refine W.widen (k := 0) (n := 0) (by omega) (by omega) ?_
    exact W.vret hx hb hr (fun t ht9 hW => ⟨⟨(), rfl, trivial, by rw [ht9]; exact hP9, hD9⟩, hS.F ht9⟩) hS.2.2 dX6_layWord_20
  · refine lv_aload_n hx hb dX6_layWord_13 rfl (lv_at hl 1 rfl) ?_
    refine va_get (D := (dC, dI)) (ci := 9) (v := .ref a1_) (C := RX6) (T := TX6) (N := 9) hx hb ht itX6 hown hK hP 0 rfl rfl 0 (by decide) (ht _ tw_134) (fun _ h9 => h9) rfl dX6_layWord_14 ?_
    refine lv_iload_n hx hb dX6_layWord_17 rfl (lv_at hl 0 rfl) ?_
    refine lv_iload_n hx hb dX6_layWord_18 rfl (lv_at hl 3 rfl) ?_
    refine va_iast (D := (dC, dI)) hx hb hK hP hD hS 1 0 rfl rfl (ush2_in _ h1 (by omega)) dX6_layWord_19 (fun H locs hP hD hS => ?_)
    have hP : va_P (dC, dI) vwCl [(a0_, .inr (9, [.ref a1_, .ref a2_, .int 0, .int 0, .int 0, .int 0, .ref a3_, .int 0, .ref a4_])), (a1_, .inl (cI, N, .inl (upd (fun _ => 0) ((x0_.toUInt32 >>> ((2 : Int32).toUInt32 &&& Int32.toUInt32 31)).toInt32).toNatClampNeg x1_)))] H := hP
    have hD : va_D A [(a0_, .inr (9, [.ref a1_, .ref a2_, .int 0, .int 0, .int 0, .int 0, .ref a3_, .int 0, .ref a4_])), (a1_, .inl (cI, N, .inl (upd (fun _ => 0) ((x0_.toUInt32 >>> ((2 : Int32).toUInt32 &&& Int32.toUInt32 31)).toInt32).toNatClampNeg x1_)))] := hD
    have hP9 := hP.sub (ws' := [(a0_, .inr (9, [.ref a1_, .ref a2_, .int 0, .int 0, .int 0, .int 0, .ref a3_, .int 0, .ref a4_]))]) [0] rfl
    have hD9 := hD.sub (ws' := [(a0_, .inr (9, [.ref a1_, .ref a2_, .int 0, .int 0, .int 0, .int 0, .ref a3_, .int 0, .ref a4_]))]) [0] (by decide) rfl
    refine W.widen (k := 0) (n := 0) (by omega) (by omega) ?_
    exact W.vret hx hb hr (fun t ht9 hW => ⟨⟨(), rfl, trivial, by rw [ht9]; exact hP9, hD9⟩, hS.F ht9⟩) hS.2.2 dX6_layWord_20
set_option maxHeartbeats 4000000 in
set_option maxRecDepth 100000 in
/-- X11_poke on a new object: it returns or throws -/
theorem c_X11_poke (l : Launch) (dC : Nat → ClassId) (dI : Nat → Nat → Nat) (cI cB cZ cJ cR : ClassId) (tb : Nat → Nat) (hst : l.stackTraces = false) (sz : Nat) (h0 : Nat) (pa : Int32) (pb : Int32) (q1 : Nat) (q9 : Nat) (q18 : Nat) (q27 : Nat) (q42 : Nat) (q2 : Nat) (q45 : Nat) (q50 : Nat) (q5 : Nat) (q47 : Nat) (q48 : Nat) (q49 : Nat) (N : Nat) (hf_N_0 : 256 ≤ N) (hf_N_1 : N ≤ 4096) : vx_Met l yX11_poke (Cond.code yX11_poke cX11_poke 3 none :: tw_W) ({ frames := 7, cells := 1, slots := 6, locals := 103 }) (pc_ (dC, dI) (tyS cI cB cZ cJ cR) tb [(h0, .inr (14, [.ref q1, .int 0, .ref q9, .ref q18, .ref q27, .ref q42, .int 0, .int (-1), .ref q2, .ref q45, .ref q50, .ref q5])), (q45, .inr (9, [.ref q47, .ref q48, .int 0, .int 0, .int 0, .int 0, .ref q49, .int 0, .ref q2])), (q47, .inl (cI, N, .inl (fun _ => 0)))] sz [.ref h0, .int pa, .int pb]) (qv_ (dC, dI) [(h0, .inr (14, [.ref q1, .int 0, .ref q9, .ref q18, .ref q27, .ref q42, .int 0, .int (-1), .ref q2, .ref q45, .ref q50, .ref q5])), (q45, .inr (9, [.ref q47, .ref q48, .int 0, .int 0, .int 0, .int 0, .ref q49, .int 0, .ref q2])), (q47, .inl (cI, N, .inl (fun _ => 0)))] sz (fun (u : Unit) => ((pa &&& 3) = 0 ∧ ¬ ((if (pa &&& 3) = 0 then (if (nI N) ≤ ((pa.toUInt32 >>> ((2 : Int32).toUInt32 &&& Int32.toUInt32 31)).toInt32) then 0 else 1) else 0) : Int32) = 0 ∧ True)) (fun (u : Unit) => [])) (qx_ [(h0, .inr (14, [.ref q1, .int 0, .ref q9, .ref q18, .ref q27, .ref q42, .int 0, .int (-1), .ref q2, .ref q45, .ref q50, .ref q5])), (q45, .inr (9, [.ref q47, .ref q48, .int 0, .int 0, .int 0, .int 0, .ref q49, .int 0, .ref q2])), (q47, .inl (cI, N, .inl (fun _ => 0)))] sz (fun E => ((pa &&& 3) = 0 ∧ ((if (pa &&& 3) = 0 then (if (nI N) ≤ ((pa.toUInt32 >>> ((2 : Int32).toUInt32 &&& Int32.toUInt32 31)).toInt32) then 0 else 1) else 0) : Int32) = 0 ∧ E = "java/lang/IndexOutOfBoundsException") ∨ (¬ ((pa &&& 3) = 0) ∧ E = "java/lang/IllegalArgumentException"))) 1 6 (va_A [(h0, .inr (14, [.ref q1, .int 0, .ref q9, .ref q18, .ref q27, .ref q42, .int 0, .int (-1), .ref q2, .ref q45, .ref q50, .ref q5])), (q45, .inr (9, [.ref q47, .ref q48, .int 0, .int 0, .int 0, .int 0, .ref q49, .int 0, .ref q2])), (q47, .inl (cI, N, .inl (fun _ => 0)))] sz) := by
  refine vx_ofW (cc := cX11_poke) (maxL := 3) (ret := none) (by decide) rfl ?_
  intro p e s m args below meth c s₁ B hml hnt hv
  obtain ⟨rfl, hsz, hP, hKK, hD0, hFx⟩ := hv
  have hK := hKK.1
  have hx := B.exec
  have hb := B.bytes
  have hr := B.returns
  have ht : ∀ w ∈ tw_W, w.before _ s = true := fun w h => atoms_spec (ws := Cond.code yX11_poke cX11_poke 3 none :: tw_W) B.pre w (List.mem_cons_of_mem _ h)
  have hown : s.vm.findClass RX11 = some m.cls := findClass_of_methodNamed B.named
  have hlocks := B.notSynchronized
  subst hsz
  unfold qv_ qx_
  have hD := hD0.self (sz := s.heap.size)
  generalize hAe : va_A [(h0, .inr (14, [.ref q1, .int 0, .ref q9, .ref q18, .ref q27, .ref q42, .int 0, .int (-1), .ref q2, .ref q45, .ref q50, .ref q5])), (q45, .inr (9, [.ref q47, .ref q48, .int 0, .int 0, .int 0, .int 0, .ref q49, .int 0, .ref q2])), (q47, .inl (cI, N, .inl (fun _ => 0)))] s.heap.size = A at hD hFx ⊢
  have hA : ∀ q : Nat, s.heap.size ≤ q → A q := fun q h => by rw [← hAe]; exact Or.inr h
  have hS : va_S A s.heap s.heap [] := va_S.rf
  have hP : va_P (dC, dI) vwCl [(h0, .inr (14, [.ref q1, .int 0, .ref q9, .ref q18, .ref q27, .ref q42, .int 0, .int (-1), .ref q2, .ref q45, .ref q50, .ref q5])), (q45, .inr (9, [.ref q47, .ref q48, .int 0, .int 0, .int 0, .int 0, .ref q49, .int 0, .ref q2])), (q47, .inl (cI, N, .inl (fun _ => 0)))] s.heap := hP
  have hl := lv_entry ([.ref h0, .int pa, .int pb]) (n := 3) (Nat.le_of_ble_eq_true rfl)
  rw [lg_entry_eq]
  generalize (lg_sl ([.ref h0, .int pa, .int pb]) ++ List.replicate (3 - (lg_sl ([.ref h0, .int pa, .int pb])).length) Slot.unset).toArray = ls at hl ⊢
  have hl : lv_has ls 3 [(0, .ref h0), (1, .int pa), (2, .int pb)] := hl
  refine lv_aload_n hx hb dX11_poke_0 rfl (lv_at hl 0 rfl) ?_
  refine lv_iload_n hx hb dX11_poke_1 rfl (lv_at hl 1 rfl) ?_
  refine ca_xv (wr := []) (rx_V (n := 1) (As := [.int pa]) (rest := []) hx hb hml hown ht hKK hFx hP hD hS hA (c_X11_checkAddress l dC dI cI cB cZ cJ cR tb hst s.heap.size h0 pa q1 q9 q18 q27 q42 q2 q45 q50 q5 q47 q48 q49 N (by omega) (by omega)) tw_282 tw_283 (by decide +kernel) rfl rfl ⟨Nat.le_of_ble_eq_true rfl, Nat.le_of_ble_eq_true rfl⟩ [0, 1, 2] rfl (by decide) rfl rfl rfl rfl hl.1 rfl (Nat.le_of_ble_eq_true rfl) dX11_poke_2 ⟨Nat.le_of_ble_eq_true rfl, Nat.le_of_ble_eq_true rfl⟩) hP hD hS hA (isC := [0, 1, 2]) (isR := []) rfl rfl (by decide) (by decide) (fun E9 ce9 q9 H locs hx9 hP hD hS hc9 hv9 hf9 => ?_) (fun u H locs hw9 hP hD hS => ?_)
  · rcases hx9 with ⟨h3, h4, rfl⟩ | ⟨h5, rfl⟩
    · refine vx_out (fun x h9 => (hnt x h9).elim) hlocks hc9 hv9 hf9 (fun t9 ht9 hv8 => ⟨(), trivial, (Or.inl ⟨h3, h4, rfl⟩), hS.F ht9⟩) hS.2.2 (by omega) (by omega)
    · refine vx_out (fun x h9 => (hnt x h9).elim) hlocks hc9 hv9 hf9 (fun t9 ht9 hv8 => ⟨(), trivial, (Or.inr (⟨h5, rfl⟩)), hS.F ht9⟩) hS.2.2 (by omega) (by omega)
  · rcases hw9 with ⟨h6, h7, _⟩
    · have hP : va_P (dC, dI) vwCl [(h0, .inr (14, [.ref q1, .int 0, .ref q9, .ref q18, .ref q27, .ref q42, .int 0, .int (-1), .ref q2, .ref q45, .ref q50, .ref q5])), (q45, .inr (9, [.ref q47, .ref q48, .int 0, .int 0, .int 0, .int 0, .ref q49, .int 0, .ref q2])), (q47, .inl (cI, N, .inl (fun _ => 0)))] H := hP
      have hD : va_D A [(h0, .inr (14, [.ref q1, .int 0, .ref q9, .ref q18, .ref q27, .ref q42, .int 0, .int (-1), .ref q2, .ref q45, .ref q50, .ref q5])), (q45, .inr (9, [.ref q47, .ref q48, .int 0, .int 0, .int 0, .int 0, .ref q49, .int 0, .ref q2])), (q47, .inl (cI, N, .inl (fun _ => 0)))] := hD
      refine W.widen (k := 1) (n := 6) (by omega) (by omega) ?_
      refine lv_aload_n hx hb dX11_poke_5 rfl (lv_at hl 0 rfl) ?_
      refine va_get (D := (dC, dI)) (ci := 14) (v := .ref q45) (C := RX11) (T := TX11) (N := 12) hx hb ht itX11 hown hK hP 0 rfl rfl 9 (by decide) (ht _ tw_140) (fun _ h9 => h9) rfl dX11_poke_6 ?_
      refine lv_iload_n hx hb dX11_poke_9 rfl (lv_at hl 1 rfl) ?_
      refine lv_iload_n hx hb dX11_poke_10 rfl (lv_at hl 2 rfl) ?_
      refine ca_v (wr := [(h0, .inr (14, [.ref q1, .int 0, .ref q9, .ref q18, .ref q27, .ref q42, .int 0, .int (-1), .ref q2, .ref q45, .ref q50, .ref q5]))]) (rn_V (n := 2) (As := [.int pa, .int pb]) (rest := []) hx hb hml hown ht hKK hFx hP hD hS hA (c_X6_layWord l dC dI cI cB cZ cJ cR tb H.size q45 pa pb q47 q48 q49 q2 N (by omega) (by omega)) tw_285 tw_286 (by decide +kernel) rfl rfl ⟨Nat.le_of_ble_eq_true rfl, Nat.le_of_ble_eq_true rfl⟩ [1, 2] rfl (by decide) rfl rfl rfl rfl hl.1 rfl (Nat.le_of_ble_eq_true rfl) dX11_poke_11 ⟨Nat.le_of_ble_eq_true rfl, Nat.le_of_ble_eq_true rfl⟩) hP hD hS hA (isC := [1, 2]) (isR := [0]) rfl rfl (by decide) (by decide) (fun u H locs hw8 hP hD hS => ?_)
      have hP : va_P (dC, dI) vwCl [(h0, .inr (14, [.ref q1, .int 0, .ref q9, .ref q18, .ref q27, .ref q42, .int 0, .int (-1), .ref q2, .ref q45, .ref q50, .ref q5])), (q45, .inr (9, [.ref q47, .ref q48, .int 0, .int 0, .int 0, .int 0, .ref q49, .int 0, .ref q2]))] H := hP
      have hD : va_D A [(h0, .inr (14, [.ref q1, .int 0, .ref q9, .ref q18, .ref q27, .ref q42, .int 0, .int (-1), .ref q2, .ref q45, .ref q50, .ref q5])), (q45, .inr (9, [.ref q47, .ref q48, .int 0, .int 0, .int 0, .int 0, .ref q49, .int 0, .ref q2]))] := hD
      refine W.widen (k := 1) (n := 6) (by omega) (by omega) ?_
      have hP9 := hP.sub (ws' := []) [] rfl
      have hD9 := hD.sub (ws' := []) [] (by decide) rfl
      refine W.widen (k := 1) (n := 6) (by omega) (by omega) ?_
      refine vx_ret ?_
      exact W.vret hx hb hr (fun t ht9 hW => ⟨⟨(), rfl, (⟨h6, h7, trivial⟩), by rw [ht9]; exact hP9, hD9⟩, hS.F ht9⟩) hS.2.2 dX11_poke_14
