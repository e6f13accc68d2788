theorem dX11_set_0 : decode cX11_set 0 = .ok (.iload_n 1, 1) := by decide +kernel
theorem dX11_set_1 : decode cX11_set 1 = .ok (.ifCond .lt 9, 3) := by decide +kernel
theorem dX11_set_10 : decode cX11_set 10 = .ok (.new 119, 3) := by decide +kernel
theorem dX11_set_13 : decode cX11_set 13 = .ok (.dup, 1) := by decide +kernel
theorem dX11_set_14 : decode cX11_set 14 = .ok (.ldc 178, 2) := by decide +kernel
theorem dX11_set_16 : decode cX11_set 16 = .ok (.invokespecial 123, 3) := by decide +kernel
theorem dX11_set_19 : decode cX11_set 19 = .ok (.athrow, 1) := by decide +kernel
theorem dX11_set_4 : decode cX11_set 4 = .ok (.iload_n 1, 1) := by decide +kernel
theorem dX11_set_5 : decode cX11_set 5 = .ok (.bipush 32, 2) := by decide +kernel
theorem dX11_set_7 : decode cX11_set 7 = .ok (.if_icmp .le 13, 3) := by decide +kernel
theorem dX11_set_20 : decode cX11_set 20 = .ok (.aload_n 0, 1) := by decide +kernel
theorem dX11_set_21 : decode cX11_set 21 = .ok (.getfield 66, 3) := by decide +kernel
theorem dX11_set_24 : decode cX11_set 24 = .ok (.iload_n 1, 1) := by decide +kernel
theorem dX11_set_25 : decode cX11_set 25 = .ok (.iload_n 2, 1) := by decide +kernel
theorem dX11_set_26 : decode cX11_set 26 = .ok (.invokevirtual 183, 3) := by decide +kernel
theorem dX6_change_0 : decode cX6_change 0 = .ok (.iload_n 1, 1) := by decide +kernel
theorem dX6_change_1 : decode cX6_change 1 = .ok (.bipush 32, 2) := by decide +kernel
theorem dX6_change_3 : decode cX6_change 3 = .ok (.if_icmp .ne 11, 3) := by decide +kernel
theorem dX6_change_14 : decode cX6_change 14 = .ok (.aload_n 0, 1) := by decide +kernel
theorem dX6_change_15 : decode cX6_change 15 = .ok (.iload_n 1, 1) := by decide +kernel
theorem dX6_change_16 : decode cX6_change 16 = .ok (.iload_n 2, 1) := by decide +kernel
theorem dX6_change_17 : decode cX6_change 17 = .ok (.invokevirtual 29, 3) := by decide +kernel
theorem dX6_write_0 : decode cX6_write 0 = .ok (.iload_n 1, 1) := by decide +kernel
theorem dX6_write_1 : decode cX6_write 1 = .ok (.ifCond .le 19, 3) := by decide +kernel
theorem dX6_write_20 : decode cX6_write 20 = .ok (.return_, 1) := by decide +kernel
theorem dX6_write_4 : decode cX6_write 4 = .ok (.iload_n 1, 1) := by decide +kernel
theorem dX6_write_5 : decode cX6_write 5 = .ok (.aload_n 0, 1) := by decide +kernel
theorem dX6_write_6 : decode cX6_write 6 = .ok (.getfield 9, 3) := by decide +kernel
theorem dX6_write_9 : decode cX6_write 9 = .ok (.arraylength, 1) := by decide +kernel
theorem dX6_write_10 : decode cX6_write 10 = .ok (.if_icmp .ge 10, 3) := by decide +kernel
theorem dX6_write_13 : decode cX6_write 13 = .ok (.aload_n 0, 1) := by decide +kernel
theorem dX6_write_14 : decode cX6_write 14 = .ok (.getfield 9, 3) := by decide +kernel
theorem dX6_write_17 : decode cX6_write 17 = .ok (.iload_n 1, 1) := by decide +kernel
theorem dX6_write_18 : decode cX6_write 18 = .ok (.iload_n 2, 1) := by decide +kernel
theorem dX6_write_19 : decode cX6_write 19 = .ok (.iastore, 1) := by decide +kernel
theorem tw_273 : (.code yX6_write cX6_write 3 none : Cond) ∈ tw_W := tw_in (by decide +kernel) (by decide +kernel)
theorem tw_274 : ∀ w ∈ ([.methodLink RX6 29 yX6_write, .instanceMethod yX6_write, .selects RX6 yX6_write yX6_write, .initialized RX6] : List Cond), w ∈ tw_W := tw_all (by decide +kernel)
theorem dX6_change_20 : decode cX6_change 20 = .ok (.aload_n 0, 1) := by decide +kernel
theorem dX6_change_21 : decode cX6_change 21 = .ok (.iconst 0, 1) := by decide +kernel
theorem dX6_change_22 : decode cX6_change 22 = .ok (.putfield 33, 3) := by decide +kernel
theorem dX6_change_25 : decode cX6_change 25 = .ok (.return_, 1) := by decide +kernel
theorem dX6_change_6 : decode cX6_change 6 = .ok (.aload_n 0, 1) := by decide +kernel
theorem dX6_change_7 : decode cX6_change 7 = .ok (.iload_n 2, 1) := by decide +kernel
theorem dX6_change_8 : decode cX6_change 8 = .ok (.putfield 25, 3) := by decide +kernel
theorem dX6_change_11 : decode cX6_change 11 = .ok (.goto 9, 3) := by decide +kernel
theorem tw_275 : (.code yX6_change cX6_change 3 none : Cond) ∈ tw_W := tw_in (by decide +kernel) (by decide +kernel)
theorem tw_276 : ∀ w ∈ ([.methodLink RX11 183 yX6_change, .instanceMethod yX6_change, .selects RX6 yX6_change yX6_change, .initialized RX6] : List Cond), w ∈ tw_W := tw_all (by decide +kernel)
theorem dX11_set_29 : decode cX11_set 29 = .ok (.return_, 1) := by decide +kernel
theorem dX11_run_0 : decode cX11_run 0 = .ok (.iload_n 1, 1) := by decide +kernel
theorem dX11_run_1 : decode cX11_run 1 = .ok (.ifCond .lt 9, 3) := by decide +kernel
theorem dX11_run_10 : decode cX11_run 10 = .ok (.new 137, 3) := by decide +kernel
theorem dX11_run_13 : decode cX11_run 13 = .ok (.dup, 1) := by decide +kernel
theorem dX11_run_14 : decode cX11_run 14 = .ok (.ldc 170, 2) := by decide +kernel
theorem dX11_run_16 : decode cX11_run 16 = .ok (.invokespecial 141, 3) := by decide +kernel
theorem dX11_run_19 : decode cX11_run 19 = .ok (.athrow, 1) := by decide +kernel
theorem dX11_run_4 : decode cX11_run 4 = .ok (.iload_n 1, 1) := by decide +kernel
theorem dX11_run_5 : decode cX11_run 5 = .ok (.ldc 169, 2) := by decide +kernel
theorem tw_277 : (.constant RX11 169 (50000) : Cond) ∈ tw_W := tw_in (by decide +kernel) (by decide +kernel)
theorem dX11_run_7 : decode cX11_run 7 = .ok (.if_icmp .le 13, 3) := by decide +kernel
theorem dX11_run_20 : decode cX11_run 20 = .ok (.aload_n 0, 1) := by decide +kernel
theorem dX11_run_21 : decode cX11_run 21 = .ok (.getfield 66, 3) := by decide +kernel
theorem dX11_run_24 : decode cX11_run 24 = .ok (.iload_n 1, 1) := by decide +kernel
theorem dX11_run_25 : decode cX11_run 25 = .ok (.invokevirtual 172, 3) := by decide +kernel
theorem dX6_ticks_0 : decode cX6_ticks 0 = .ok (.aload_n 0, 1) := by decide +kernel
theorem dX6_ticks_1 : decode cX6_ticks 1 = .ok (.getfield 54, 3) := by decide +kernel
theorem dX6_ticks_4 : decode cX6_ticks 4 = .ok (.istore_n 2, 1) := by decide +kernel
theorem dX6_ticks_5 : decode cX6_ticks 5 = .ok (.iconst 0, 1) := by decide +kernel
theorem dX6_ticks_6 : decode cX6_ticks 6 = .ok (.istore_n 3, 1) := by decide +kernel
theorem dX6_ticks_7 : decode cX6_ticks 7 = .ok (.iload_n 3, 1) := by decide +kernel
theorem dX6_ticks_8 : decode cX6_ticks 8 = .ok (.iload_n 1, 1) := by decide +kernel
theorem dX6_ticks_9 : decode cX6_ticks 9 = .ok (.if_icmp .ge 20, 3) := by decide +kernel
theorem dX6_ticks_29 : decode cX6_ticks 29 = .ok (.aload_n 0, 1) := by decide +kernel
theorem dX6_ticks_30 : decode cX6_ticks 30 = .ok (.getfield 54, 3) := by decide +kernel
theorem dX6_ticks_33 : decode cX6_ticks 33 = .ok (.iload_n 2, 1) := by decide +kernel
theorem dX6_ticks_34 : decode cX6_ticks 34 = .ok (.isub, 1) := by decide +kernel
theorem dX6_ticks_35 : decode cX6_ticks 35 = .ok (.ireturn, 1) := by decide +kernel
theorem dX6_ticks_12 : decode cX6_ticks 12 = .ok (.aload_n 0, 1) := by decide +kernel
theorem dX6_ticks_13 : decode cX6_ticks 13 = .ok (.getfield 33, 3) := by decide +kernel
theorem dX6_ticks_16 : decode cX6_ticks 16 = .ok (.ifCond .ne 13, 3) := by decide +kernel
theorem dX6_ticks_19 : decode cX6_ticks 19 = .ok (.aload_n 0, 1) := by decide +kernel
theorem dX6_ticks_20 : decode cX6_ticks 20 = .ok (.invokevirtual 65, 3) := by decide +kernel
theorem tw_278 : ∀ w ∈ ([.methodLink RX6 65 yX6_tick, .instanceMethod yX6_tick, .selects RX6 yX6_tick yX6_tick, .initialized RX6] : List Cond), w ∈ tw_W := tw_all (by decide +kernel)
theorem dX6_ticks_23 : decode cX6_ticks 23 = .ok (.iinc 3 1, 3) := by decide +kernel
theorem dX6_ticks_26 : decode cX6_ticks 26 = .ok (.goto (-19), 3) := by decide +kernel
theorem tw_279 : (.code yX6_ticks cX6_ticks 4 (some .int) : Cond) ∈ tw_W := tw_in (by decide +kernel) (by decide +kernel)
theorem tw_280 : ∀ w ∈ ([.methodLink RX11 172 yX6_ticks, .instanceMethod yX6_ticks, .selects RX6 yX6_ticks yX6_ticks, .initialized RX6] : List Cond), w ∈ tw_W := tw_all (by decide +kernel)
theorem dX11_run_28 : decode cX11_run 28 = .ok (.ireturn, 1) := by decide +kernel
set_option maxHeartbeats 4000000 in
set_option maxRecDepth 100000 in
theorem c_X6_write (l : Launch) (dC : Nat → ClassId) (dI : Nat → Nat → Nat) (cI cB cZ cJ cR : ClassId) (tb : Nat → Nat) (sz : Nat) (a0_ : Nat) (x0_ : Int32) (x1_ : Int32) (a1_ : Nat) (a2_ : Nat) (a3_ : Nat) (a4_ : Nat)  : Met l yX6_write (Cond.code yX6_write cX6_write 3 none :: tw_W) ({ frames := 0, cells := 0, slots := 0, locals := 0 }) (pc_ (dC, dI) (tyS cI cB cZ cJ cR) tb [(a0_, .inr (9, [.ref a1_, .ref a2_, .int 0, .int 0, .int 0, .int 0, .ref a3_, .int 0, .ref a4_])), (a2_, .inl (cI, 32, .inl (fun _ => 0)))] sz [.ref a0_, .int x0_, .int x1_]) (qv_ (dC, dI) [(a0_, .inr (9, [.ref a1_, .ref a2_, .int 0, .int 0, .int 0, .int 0, .ref a3_, .int 0, .ref a4_])), (a2_, .inl (cI, 32, .inl (fun _ => 0)))] sz (fun (u : Unit) => True) (fun (u : Unit) => [(a0_, .inr (9, [.ref a1_, .ref a2_, .int 0, .int 0, .int 0, .int 0, .ref a3_, .int 0, .ref a4_]))])) 0 0 (va_A [(a0_, .inr (9, [.ref a1_, .ref a2_, .int 0, .int 0, .int 0, .int 0, .ref a3_, .int 0, .ref a4_])), (a2_, .inl (cI, 32, .inl (fun _ => 0)))] sz) := by
  refine Met.ofW (cc := cX6_write) (maxL := 3) (ret := none) (by decide) rfl ?_
  intro p e s m args below meth c s₁ B hml hv
  obtain ⟨rfl, hsz, hP, hKK, hD0, hFx⟩ := hv
  have hK := hKK.1
  have hx := B.exec
  have hb := B.bytes
  have hr := B.returns
  have ht : ∀ w ∈ tw_W, w.before _ s = true := fun w h => atoms_spec (ws := Cond.code yX6_write cX6_write 3 none :: tw_W) B.pre w (List.mem_cons_of_mem _ h)
  have hown : s.vm.findClass RX6 = some m.cls := findClass_of_methodNamed B.named
  have hlocks := B.notSynchronized
  subst hsz
  unfold qv_
  have hD := hD0.self (sz := s.heap.size)
  generalize hAe : va_A [(a0_, .inr (9, [.ref a1_, .ref a2_, .int 0, .int 0, .int 0, .int 0, .ref a3_, .int 0, .ref a4_])), (a2_, .inl (cI, 32, .inl (fun _ => 0)))] s.heap.size = A at hD hFx ⊢
  have hA : ∀ q : Nat, s.heap.size ≤ q → A q := fun q h => by rw [← hAe]; exact Or.inr h
  have hS : va_S A s.heap s.heap [] := va_S.rf
  have hP : va_P (dC, dI) vwCl [(a0_, .inr (9, [.ref a1_, .ref a2_, .int 0, .int 0, .int 0, .int 0, .ref a3_, .int 0, .ref a4_])), (a2_, .inl (cI, 32, .inl (fun _ => 0)))] s.heap := hP
  have hl := lv_entry ([.ref a0_, .int x0_, .int x1_]) (n := 3) (Nat.le_of_ble_eq_true rfl)
  rw [lg_entry_eq]
  generalize (lg_sl ([.ref a0_, .int x0_, .int x1_]) ++ List.replicate (3 - (lg_sl ([.ref a0_, .int x0_, .int x1_])).length) Slot.unset).toArray = ls at hl ⊢
  have hl : lv_has ls 3 [(0, .ref a0_), (1, .int x0_), (2, .int x1_)] := hl
  refine lv_iload_n hx hb dX6_write_0 rfl (lv_at hl 1 rfl) ?_
  refine lv_if_le (tgt := 20) hx hb dX6_write_1 (by decide) (fun h1 => ?_) (fun h1 => ?_)
  · have hP9 := hP.sub (ws' := [(a0_, .inr (9, [.ref a1_, .ref a2_, .int 0, .int 0, .int 0, .int 0, .ref a3_, .int 0, .ref a4_]))]) [0] rfl
    have hD9 := hD.sub (ws' := [(a0_, .inr (9, [.ref a1_, .ref a2_, .int 0, .int 0, .int 0, .int 0, .ref a3_, .int 0, .ref a4_]))]) [0] (by decide) rfl
    refine W.widen (k := 0) (n := 0) (by omega) (by omega) ?_
    exact W.vret hx hb hr (fun t ht9 hW => ⟨⟨(), rfl, trivial, by rw [ht9]; exact hP9, hD9⟩, hS.F ht9⟩) hS.2.2 dX6_write_20
  · refine lv_iload_n hx hb dX6_write_4 rfl (lv_at hl 1 rfl) ?_
    refine lv_aload_n hx hb dX6_write_5 rfl (lv_at hl 0 rfl) ?_
    refine va_get (D := (dC, dI)) (ci := 9) (v := .ref a2_) (C := RX6) (T := TX6) (N := 9) hx hb ht itX6 hown hK hP 0 rfl rfl 1 (by decide) (ht _ tw_132) (fun _ h9 => h9) rfl dX6_write_6 ?_
    refine va_alen (D := (dC, dI)) (v := 32) hx hb hK hP 1 0 rfl rfl (by decide) dX6_write_9 ?_
    refine lv_icmp_ge (tgt := 20) hx hb dX6_write_10 (by decide) (fun h2 => ?_) (fun h2 => ?_)
    · have hP9 := hP.sub (ws' := [(a0_, .inr (9, [.ref a1_, .ref a2_, .int 0, .int 0, .int 0, .int 0, .ref a3_, .int 0, .ref a4_]))]) [0] rfl
      have hD9 := hD.sub (ws' := [(a0_, .inr (9, [.ref a1_, .ref a2_, .int 0, .int 0, .int 0, .int 0, .ref a3_, .int 0, .ref a4_]))]) [0] (by decide) rfl
      refine W.widen (k := 0) (n := 0) (by omega) (by omega) ?_
      exact W.vret hx hb hr (fun t ht9 hW => ⟨⟨(), rfl, trivial, by rw [ht9]; exact hP9, hD9⟩, hS.F ht9⟩) hS.2.2 dX6_write_20
    · refine lv_aload_n hx hb dX6_write_13 rfl (lv_at hl 0 rfl) ?_
      refine va_get (D := (dC, dI)) (ci := 9) (v := .ref a2_) (C := RX6) (T := TX6) (N := 9) hx hb ht itX6 hown hK hP 0 rfl rfl 1 (by decide) (ht _ tw_132) (fun _ h9 => h9) rfl dX6_write_14 ?_
      refine lv_iload_n hx hb dX6_write_17 rfl (lv_at hl 1 rfl) ?_
      refine lv_iload_n hx hb dX6_write_18 rfl (lv_at hl 2 rfl) ?_
      refine va_iast (D := (dC, dI)) hx hb hK hP hD hS 1 0 rfl rfl (vp_in_iff.mpr (by rw [Int32.le_iff_toInt_le] at h1; rw [Int32.le_iff_toInt_le] at h2; have : (0 : Int32).toInt = 0 := (by decide); have : (32 : Int32).toInt = 32 := (by decide); constructor <;> omega)) dX6_write_19 (fun H locs hP hD hS => ?_)
      have hP : va_P (dC, dI) vwCl [(a0_, .inr (9, [.ref a1_, .ref a2_, .int 0, .int 0, .int 0, .int 0, .ref a3_, .int 0, .ref a4_])), (a2_, .inl (cI, 32, .inl (upd (fun _ => 0) x0_.toNatClampNeg x1_)))] H := hP
      have hD : va_D A [(a0_, .inr (9, [.ref a1_, .ref a2_, .int 0, .int 0, .int 0, .int 0, .ref a3_, .int 0, .ref a4_])), (a2_, .inl (cI, 32, .inl (upd (fun _ => 0) x0_.toNatClampNeg x1_)))] := hD
      have hP9 := hP.sub (ws' := [(a0_, .inr (9, [.ref a1_, .ref a2_, .int 0, .int 0, .int 0, .int 0, .ref a3_, .int 0, .ref a4_]))]) [0] rfl
      have hD9 := hD.sub (ws' := [(a0_, .inr (9, [.ref a1_, .ref a2_, .int 0, .int 0, .int 0, .int 0, .ref a3_, .int 0, .ref a4_]))]) [0] (by decide) rfl
      refine W.widen (k := 0) (n := 0) (by omega) (by omega) ?_
      exact W.vret hx hb hr (fun t ht9 hW => ⟨⟨(), rfl, trivial, by rw [ht9]; exact hP9, hD9⟩, hS.F ht9⟩) hS.2.2 dX6_write_20
set_option maxHeartbeats 4000000 in
set_option maxRecDepth 100000 in
theorem c_X6_change (l : Launch) (dC : Nat → ClassId) (dI : Nat → Nat → Nat) (cI cB cZ cJ cR : ClassId) (tb : Nat → Nat) (sz : Nat) (a0_ : Nat) (x0_ : Int32) (x1_ : Int32) (a1_ : Nat) (a2_ : Nat) (a3_ : Nat) (a4_ : Nat)  : Met l yX6_change (Cond.code yX6_change cX6_change 3 none :: tw_W) ({ frames := 1, cells := 0, slots := 0, locals := 22 }) (pc_ (dC, dI) (tyS cI cB cZ cJ cR) tb [(a0_, .inr (9, [.ref a1_, .ref a2_, .int 0, .int 0, .int 0, .int 0, .ref a3_, .int 0, .ref a4_])), (a2_, .inl (cI, 32, .inl (fun _ => 0)))] sz [.ref a0_, .int x0_, .int x1_]) (qv_ (dC, dI) [(a0_, .inr (9, [.ref a1_, .ref a2_, .int 0, .int 0, .int 0, .int 0, .ref a3_, .int 0, .ref a4_])), (a2_, .inl (cI, 32, .inl (fun _ => 0)))] sz (fun (u : Unit) => True) (fun (u : Unit) => [])) 0 0 (va_A [(a0_, .inr (9, [.ref a1_, .ref a2_, .int 0, .int 0, .int 0, .int 0, .ref a3_, .int 0, .ref a4_])), (a2_, .inl (cI, 32, .inl (fun _ => 0)))] sz) := by
  refine Met.ofW (cc := cX6_change) (maxL := 3) (ret := none) (by decide) rfl ?_
  intro p e s m args below meth c s₁ B hml hv
  obtain ⟨rfl, hsz, hP, hKK, hD0, hFx⟩ := hv
  have hK := hKK.1
  have hx := B.exec
  have hb := B.bytes
  have hr := B.returns
  have ht : ∀ w ∈ tw_W, w.before _ s = true := fun w h => atoms_spec (ws := Cond.code yX6_change cX6_change 3 none :: tw_W) B.pre w (List.mem_cons_of_mem _ h)
  have hown : s.vm.findClass RX6 = some m.cls := findClass_of_methodNamed B.named
  have hlocks := B.notSynchronized
  subst hsz
  unfold qv_
  have hD := hD0.self (sz := s.heap.size)
  generalize hAe : va_A [(a0_, .inr (9, [.ref a1_, .ref a2_, .int 0, .int 0, .int 0, .int 0, .ref a3_, .int 0, .ref a4_])), (a2_, .inl (cI, 32, .inl (fun _ => 0)))] s.heap.size = A at hD hFx ⊢
  have hA : ∀ q : Nat, s.heap.size ≤ q → A q := fun q h => by rw [← hAe]; exact Or.inr h
  have hS : va_S A s.heap s.heap [] := va_S.rf
  have hP : va_P (dC, dI) vwCl [(a0_, .inr (9, [.ref a1_, .ref a2_, .int 0, .int 0, .int 0, .int 0, .ref a3_, .int 0, .ref a4_])), (a2_, .inl (cI, 32, .inl (fun _ => 0)))] s.heap := hP
  have hl := lv_entry ([.ref a0_, .int x0_, .int x1_]) (n := 3) (Nat.le_of_ble_eq_true rfl)
  rw [lg_entry_eq]
  generalize (lg_sl ([.ref a0_, .int x0_, .int x1_]) ++ List.replicate (3 - (lg_sl ([.ref a0_, .int x0_, .int x1_])).length) Slot.unset).toArray = ls at hl ⊢
  have hl : lv_has ls 3 [(0, .ref a0_), (1, .int x0_), (2, .int x1_)] := hl
  refine lv_iload_n hx hb dX6_change_0 rfl (lv_at hl 1 rfl) ?_
  refine lv_bipush (v := 32) hx hb dX6_change_1 (by decide) ?_
  refine lv_icmp_ne (tgt := 14) hx hb dX6_change_3 (by decide) (fun h1 => ?_) (fun h1 => ?_)
  · refine lv_aload_n hx hb dX6_change_14 rfl (lv_at hl 0 rfl) ?_
    refine lv_iload_n hx hb dX6_change_15 rfl (lv_at hl 1 rfl) ?_
    refine lv_iload_n hx hb dX6_change_16 rfl (lv_at hl 2 rfl) ?_
    refine ca_v (wr := []) (rn_V (n := 2) (As := [.int x0_, .int x1_]) (rest := []) hx hb hml hown ht hKK hFx hP hD hS hA (c_X6_write l dC dI cI cB cZ cJ cR tb s.heap.size a0_ x0_ x1_ a1_ a2_ a3_ a4_) tw_273 tw_274 (by decide +kernel) rfl rfl ⟨Nat.le_of_ble_eq_true rfl, Nat.le_of_ble_eq_true rfl⟩ [0, 1] rfl (by decide) rfl rfl rfl rfl hl.1 rfl (Nat.le_of_ble_eq_true rfl) dX6_change_17 ⟨Nat.le_of_ble_eq_true rfl, Nat.le_of_ble_eq_true rfl⟩) hP hD hS hA (isC := [0, 1]) (isR := []) rfl rfl (by decide) (by decide) (fun u H locs hw2 hP hD hS => ?_)
    have hP : va_P (dC, dI) vwCl [(a0_, .inr (9, [.ref a1_, .ref a2_, .int 0, .int 0, .int 0, .int 0, .ref a3_, .int 0, .ref a4_]))] H := hP
    have hD : va_D A [(a0_, .inr (9, [.ref a1_, .ref a2_, .int 0, .int 0, .int 0, .int 0, .ref a3_, .int 0, .ref a4_]))] := hD
    refine W.widen (k := 0) (n := 0) (by omega) (by omega) ?_
    refine lv_aload_n hx hb dX6_change_20 rfl (lv_at hl 0 rfl) ?_
    refine lv_iconst (v := 0) hx hb dX6_change_21 (by decide) ?_
    refine va_put (D := (dC, dI)) (ci := 9) (v := .int 0) (ty := .int) (C := RX6) (T := TX6) (N := 9) hx hb ht itX6 tyX6 tyX6_ok nmX6 hown hK hP hD hS 0 rfl rfl 4 (by decide) (ht _ tw_226) (fun _ h9 => h9) rfl (by decide +kernel) rfl rfl (Nat.le_of_ble_eq_true rfl) dX6_change_22 (fun H locs hP hD hS => ?_)
    have hP : va_P (dC, dI) vwCl [(a0_, .inr (9, [.ref a1_, .ref a2_, .int 0, .int 0, .int 0, .int 0, .ref a3_, .int 0, .ref a4_]))] H := hP
    have hD : va_D A [(a0_, .inr (9, [.ref a1_, .ref a2_, .int 0, .int 0, .int 0, .int 0, .ref a3_, .int 0, .ref a4_]))] := hD
    have hP9 := hP.sub (ws' := []) [] rfl
    have hD9 := hD.sub (ws' := []) [] (by decide) rfl
    refine W.widen (k := 0) (n := 0) (by omega) (by omega) ?_
    exact W.vret hx hb hr (fun t ht9 hW => ⟨⟨(), rfl, trivial, by rw [ht9]; exact hP9, hD9⟩, hS.F ht9⟩) hS.2.2 dX6_change_25
  · refine lv_aload_n hx hb dX6_change_6 rfl (lv_at hl 0 rfl) ?_
    refine lv_iload_n hx hb dX6_change_7 rfl (lv_at hl 2 rfl) ?_
    refine va_put (D := (dC, dI)) (ci := 9) (v := .int x1_) (ty := .int) (C := RX6) (T := TX6) (N := 9) hx hb ht itX6 tyX6 tyX6_ok nmX6 hown hK hP hD hS 0 rfl rfl 2 (by decide) (ht _ tw_228) (fun _ h9 => h9) rfl (by decide +kernel) rfl rfl (Nat.le_of_ble_eq_true rfl) dX6_change_8 (fun H locs hP hD hS => ?_)
    have hP : va_P (dC, dI) vwCl [(a0_, .inr (9, [.ref a1_, .ref a2_, .int x1_, .int 0, .int 0, .int 0, .ref a3_, .int 0, .ref a4_])), (a2_, .inl (cI, 32, .inl (fun _ => 0)))] H := hP
    have hD : va_D A [(a0_, .inr (9, [.ref a1_, .ref a2_, .int x1_, .int 0, .int 0, .int 0, .ref a3_, .int 0, .ref a4_])), (a2_, .inl (cI, 32, .inl (fun _ => 0)))] := hD
    refine lv_goto (tgt := 20) hx hb dX6_change_11 (by decide) ?_
    refine lv_aload_n hx hb dX6_change_20 rfl (lv_at hl 0 rfl) ?_
    refine lv_iconst (v := 0) hx hb dX6_change_21 (by decide) ?_
    refine va_put (D := (dC, dI)) (ci := 9) (v := .int 0) (ty := .int) (C := RX6) (T := TX6) (N := 9) hx hb ht itX6 tyX6 tyX6_ok nmX6 hown hK hP hD hS 0 rfl rfl 4 (by decide) (ht _ tw_226) (fun _ h9 => h9) rfl (by decide +kernel) rfl rfl (Nat.le_of_ble_eq_true rfl) dX6_change_22 (fun H locs hP hD hS => ?_)
    have hP : va_P (dC, dI) vwCl [(a0_, .inr (9, [.ref a1_, .ref a2_, .int x1_, .int 0, .int 0, .int 0, .ref a3_, .int 0, .ref a4_])), (a2_, .inl (cI, 32, .inl (fun _ => 0)))] H := hP
    have hD : va_D A [(a0_, .inr (9, [.ref a1_, .ref a2_, .int x1_, .int 0, .int 0, .int 0, .ref a3_, .int 0, .ref a4_])), (a2_, .inl (cI, 32, .inl (fun _ => 0)))] := hD
    have hP9 := hP.sub (ws' := []) [] rfl
    have hD9 := hD.sub (ws' := []) [] (by decide) rfl
    refine W.widen (k := 0) (n := 0) (by omega) (by omega) ?_
    exact W.vret hx hb hr (fun t ht9 hW => ⟨⟨(), rfl, trivial, by rw [ht9]; exact hP9, hD9⟩, hS.F ht9⟩) hS.2.2 dX6_change_25
set_option maxHeartbeats 4000000 in
set_option maxRecDepth 100000 in
/-- X11_set on a new object: it returns or throws -/
theorem c_X11_set (l : Launch) (dC : Nat → ClassId) (dI : Nat → Nat → Nat) (cI cB cZ cJ cR : ClassId) (tb : Nat → Nat) (hst : l.stackTraces = false) (sz : Nat) (h0 : Nat) (pa : Int32) (pb : Int32) (q1 : Nat) (q9 : Nat) (q18 : Nat) (q27 : Nat) (q42 : Nat) (q2 : Nat) (q45 : Nat) (q50 : Nat) (q5 : Nat) (q47 : Nat) (q48 : Nat) (q49 : Nat)  : vx_Met l yX11_set (Cond.code yX11_set cX11_set 3 none :: tw_W) ({ frames := 6, cells := 1, slots := 6, locals := 82 }) (pc_ (dC, dI) (tyS cI cB cZ cJ cR) tb [(h0, .inr (14, [.ref q1, .int 0, .ref q9, .ref q18, .ref q27, .ref q42, .int 0, .int (-1), .ref q2, .ref q45, .ref q50, .ref q5])), (q45, .inr (9, [.ref q47, .ref q48, .int 0, .int 0, .int 0, .int 0, .ref q49, .int 0, .ref q2])), (q48, .inl (cI, 32, .inl (fun _ => 0)))] sz [.ref h0, .int pa, .int pb]) (qv_ (dC, dI) [(h0, .inr (14, [.ref q1, .int 0, .ref q9, .ref q18, .ref q27, .ref q42, .int 0, .int (-1), .ref q2, .ref q45, .ref q50, .ref q5])), (q45, .inr (9, [.ref q47, .ref q48, .int 0, .int 0, .int 0, .int 0, .ref q49, .int 0, .ref q2])), (q48, .inl (cI, 32, .inl (fun _ => 0)))] sz (fun (u : Unit) => (¬ (pa < 0) ∧ pa ≤ 32 ∧ True)) (fun (u : Unit) => [])) (qx_ [(h0, .inr (14, [.ref q1, .int 0, .ref q9, .ref q18, .ref q27, .ref q42, .int 0, .int (-1), .ref q2, .ref q45, .ref q50, .ref q5])), (q45, .inr (9, [.ref q47, .ref q48, .int 0, .int 0, .int 0, .int 0, .ref q49, .int 0, .ref q2])), (q48, .inl (cI, 32, .inl (fun _ => 0)))] sz (fun E => (pa < 0 ∧ E = "java/lang/IndexOutOfBoundsException") ∨ (¬ (pa < 0) ∧ ¬ (pa ≤ 32) ∧ E = "java/lang/IndexOutOfBoundsException"))) 1 6 (va_A [(h0, .inr (14, [.ref q1, .int 0, .ref q9, .ref q18, .ref q27, .ref q42, .int 0, .int (-1), .ref q2, .ref q45, .ref q50, .ref q5])), (q45, .inr (9, [.ref q47, .ref q48, .int 0, .int 0, .int 0, .int 0, .ref q49, .int 0, .ref q2])), (q48, .inl (cI, 32, .inl (fun _ => 0)))] sz) := by
  refine vx_ofW (cc := cX11_set) (maxL := 3) (ret := none) (by decide) rfl ?_
  intro p e s m args below meth c s₁ B hml hnt hv
  obtain ⟨rfl, hsz, hP, hKK, hD0, hFx⟩ := hv
  have hK := hKK.1
  have hx := B.exec
  have hb := B.bytes
  have hr := B.returns
  have ht : ∀ w ∈ tw_W, w.before _ s = true := fun w h => atoms_spec (ws := Cond.code yX11_set cX11_set 3 none :: tw_W) B.pre w (List.mem_cons_of_mem _ h)
  have hown : s.vm.findClass RX11 = some m.cls := findClass_of_methodNamed B.named
  have hlocks := B.notSynchronized
  subst hsz
  unfold qv_ qx_
  have hD := hD0.self (sz := s.heap.size)
  generalize hAe : va_A [(h0, .inr (14, [.ref q1, .int 0, .ref q9, .ref q18, .ref q27, .ref q42, .int 0, .int (-1), .ref q2, .ref q45, .ref q50, .ref q5])), (q45, .inr (9, [.ref q47, .ref q48, .int 0, .int 0, .int 0, .int 0, .ref q49, .int 0, .ref q2])), (q48, .inl (cI, 32, .inl (fun _ => 0)))] s.heap.size = A at hD hFx ⊢
  have hA : ∀ q : Nat, s.heap.size ≤ q → A q := fun q h => by rw [← hAe]; exact Or.inr h
  have hS : va_S A s.heap s.heap [] := va_S.rf
  have hP : va_P (dC, dI) vwCl [(h0, .inr (14, [.ref q1, .int 0, .ref q9, .ref q18, .ref q27, .ref q42, .int 0, .int (-1), .ref q2, .ref q45, .ref q50, .ref q5])), (q45, .inr (9, [.ref q47, .ref q48, .int 0, .int 0, .int 0, .int 0, .ref q49, .int 0, .ref q2])), (q48, .inl (cI, 32, .inl (fun _ => 0)))] s.heap := hP
  have hl := lv_entry ([.ref h0, .int pa, .int pb]) (n := 3) (Nat.le_of_ble_eq_true rfl)
  rw [lg_entry_eq]
  generalize (lg_sl ([.ref h0, .int pa, .int pb]) ++ List.replicate (3 - (lg_sl ([.ref h0, .int pa, .int pb])).length) Slot.unset).toArray = ls at hl ⊢
  have hl : lv_has ls 3 [(0, .ref h0), (1, .int pa), (2, .int pb)] := hl
  refine lv_iload_n hx hb dX11_set_0 rfl (lv_at hl 1 rfl) ?_
  refine lv_if_lt (tgt := 10) hx hb dX11_set_1 (by decide) (fun h1 => ?_) (fun h1 => ?_)
  · refine vx_throwS (names := ["java/lang/RuntimeException", "java/lang/Exception"]) (A := A) hx hb hst hown (by decide +kernel) (by decide +kernel) (ht _ tw_268) (ht _ tw_269) (st_ hKK 16 (own := RX11) (idx := 178) (tx := "no such register") (n := 16) rfl) (vx_hat (fun w h => ht w (xat_0 w h)) xat_0_n (vx_c (va_Nw.use rfl (hKK.2.2.2.2.2.1 _ (List.mem_of_getElem? (i := 0) rfl))) (vx_c (dcl_0 ht) (vx_c (dcl_1 ht) (vx_c (dcl_2 ht) vx_n))))) xat_0_o hFx.2.2.2.2.1 hFx.2.2.2.2.2.1 hS (by rw [hml]; exact hl.1) dX11_set_10 dX11_set_13 dX11_set_14 dX11_set_16 dX11_set_19 (fun x h9 => (hnt x h9).elim) (Nat.le_of_ble_eq_true rfl) (Nat.le_of_ble_eq_true rfl) (Nat.le_of_ble_eq_true rfl) (Nat.le_of_ble_eq_true rfl) hlocks (fun t9 hv9 hz9 hk9 => ⟨(), trivial, (Or.inl ⟨h1, rfl⟩), ⟨Nat.le_trans hS.1 hz9, fun q h1 h2 => (hk9 q (Nat.lt_of_lt_of_le h1 hS.1)).trans (hS.2.1 q h1 h2)⟩⟩) hS.2.2 (Nat.le_of_ble_eq_true rfl) (Nat.le_of_ble_eq_true rfl)
  · refine lv_iload_n hx hb dX11_set_4 rfl (lv_at hl 1 rfl) ?_
    refine lv_bipush (v := 32) hx hb dX11_set_5 (by decide) ?_
    refine lv_icmp_le (tgt := 20) hx hb dX11_set_7 (by decide) (fun h2 => ?_) (fun h2 => ?_)
    · refine lv_aload_n hx hb dX11_set_20 rfl (lv_at hl 0 rfl) ?_
      refine va_get (D := (dC, dI)) (ci := 14) (v := .ref q45) (C := RX11) (T := TX11) (N := 12) hx hb ht itX11 hown hK hP 0 rfl rfl 9 (by decide) (ht _ tw_140) (fun _ h9 => h9) rfl dX11_set_21 ?_
      refine lv_iload_n hx hb dX11_set_24 rfl (lv_at hl 1 rfl) ?_
      refine lv_iload_n hx hb dX11_set_25 rfl (lv_at hl 2 rfl) ?_
      refine ca_v (wr := [(h0, .inr (14, [.ref q1, .int 0, .ref q9, .ref q18, .ref q27, .ref q42, .int 0, .int (-1), .ref q2, .ref q45, .ref q50, .ref q5]))]) (rn_V (n := 2) (As := [.int pa, .int pb]) (rest := []) hx hb hml hown ht hKK hFx hP hD hS hA (c_X6_change l dC dI cI cB cZ cJ cR tb s.heap.size q45 pa pb q47 q48 q49 q2) tw_275 tw_276 (by decide +kernel) rfl rfl ⟨Nat.le_of_ble_eq_true rfl, Nat.le_of_ble_eq_true rfl⟩ [1, 2] rfl (by decide) rfl rfl rfl rfl hl.1 rfl (Nat.le_of_ble_eq_true rfl) dX11_set_26 ⟨Nat.le_of_ble_eq_true rfl, Nat.le_of_ble_eq_true rfl⟩) hP hD hS hA (isC := [1, 2]) (isR := [0]) rfl rfl (by decide) (by decide) (fun u H locs hw3 hP hD hS => ?_)
      have hP : va_P (dC, dI) vwCl [(h0, .inr (14, [.ref q1, .int 0, .ref q9, .ref q18, .ref q27, .ref q42, .int 0, .int (-1), .ref q2, .ref q45, .ref q50, .ref q5]))] H := hP
      have hD : va_D A [(h0, .inr (14, [.ref q1, .int 0, .ref q9, .ref q18, .ref q27, .ref q42, .int 0, .int (-1), .ref q2, .ref q45, .ref q50, .ref q5]))] := hD
      refine W.widen (k := 0) (n := 0) (by omega) (by omega) ?_
      have hP9 := hP.sub (ws' := []) [] rfl
      have hD9 := hD.sub (ws' := []) [] (by decide) rfl
      refine W.widen (k := 1) (n := 6) (by omega) (by omega) ?_
      refine vx_ret ?_
      exact W.vret hx hb hr (fun t ht9 hW => ⟨⟨(), rfl, (⟨h1, h2, trivial⟩), by rw [ht9]; exact hP9, hD9⟩, hS.F ht9⟩) hS.2.2 dX11_set_29
    · refine vx_throwS (names := ["java/lang/RuntimeException", "java/lang/Exception"]) (A := A) hx hb hst hown (by decide +kernel) (by decide +kernel) (ht _ tw_268) (ht _ tw_269) (st_ hKK 16 (own := RX11) (idx := 178) (tx := "no such register") (n := 16) rfl) (vx_hat (fun w h => ht w (xat_0 w h)) xat_0_n (vx_c (va_Nw.use rfl (hKK.2.2.2.2.2.1 _ (List.mem_of_getElem? (i := 0) rfl))) (vx_c (dcl_0 ht) (vx_c (dcl_1 ht) (vx_c (dcl_2 ht) vx_n))))) xat_0_o hFx.2.2.2.2.1 hFx.2.2.2.2.2.1 hS (by rw [hml]; exact hl.1) dX11_set_10 dX11_set_13 dX11_set_14 dX11_set_16 dX11_set_19 (fun x h9 => (hnt x h9).elim) (Nat.le_of_ble_eq_true rfl) (Nat.le_of_ble_eq_true rfl) (Nat.le_of_ble_eq_true rfl) (Nat.le_of_ble_eq_true rfl) hlocks (fun t9 hv9 hz9 hk9 => ⟨(), trivial, (Or.inr (⟨h1, h2, rfl⟩)), ⟨Nat.le_trans hS.1 hz9, fun q h1 h2 => (hk9 q (Nat.lt_of_lt_of_le h1 hS.1)).trans (hS.2.1 q h1 h2)⟩⟩) hS.2.2 (Nat.le_of_ble_eq_true rfl) (Nat.le_of_ble_eq_true rfl)
set_option maxHeartbeats 4000000 in
set_option maxRecDepth 100000 in
theorem c_X6_ticks (l : Launch) (dC : Nat → ClassId) (dI : Nat → Nat → Nat) (cI cB cZ cJ cR : ClassId) (tb : Nat → Nat) (sz : Nat) (a0_ : Nat) (x0_ : Int32) (a1_ : Nat) (a2_ : Nat) (a3_ : Nat) (a4_ : Nat) (N : Nat) (hf_N_0 : 256 ≤ N) (hf_N_1 : N ≤ 4096) : Met l yX6_ticks (Cond.code yX6_ticks cX6_ticks 4 (some .int) :: tw_W) ({ frames := 3, cells := 0, slots := 0, locals := 69 }) (pc_ (dC, dI) (tyS cI cB cZ cJ cR) tb [(a0_, .inr (9, [.ref a1_, .ref a2_, .int 0, .int 0, .int 0, .int 0, .ref a3_, .int 0, .ref a4_])), (a2_, .inl (cI, 32, .inl (fun _ => 0))), (a1_, .inl (cI, N, .inl (fun _ => 0)))] sz [.ref a0_, .int x0_]) (qi_ (dC, dI) [(a0_, .inr (9, [.ref a1_, .ref a2_, .int 0, .int 0, .int 0, .int 0, .ref a3_, .int 0, .ref a4_])), (a2_, .inl (cI, 32, .inl (fun _ => 0))), (a1_, .inl (cI, N, .inl (fun _ => 0)))] sz (fun (r : Int32) (u : Unit) => r = (if x0_ ≤ (0 : Int32) then 0 else 1)) (fun (u : Unit) => [(a2_, .inl (cI, 32, .inl (fun _ => 0))), (a1_, .inl (cI, N, .inl (fun _ => 0)))])) 0 0 (va_A [(a0_, .inr (9, [.ref a1_, .ref a2_, .int 0, .int 0, .int 0, .int 0, .ref a3_, .int 0, .ref a4_])), (a2_, .inl (cI, 32, .inl (fun _ => 0))), (a1_, .inl (cI, N, .inl (fun _ => 0)))] sz) := by
  refine Met.ofW (cc := cX6_ticks) (maxL := 4) (ret := (some .int)) (by decide) rfl ?_
  intro p e s m args below meth c s₁ B hml hv
  obtain ⟨rfl, hsz, hP, hKK, hD0, hFx⟩ := hv
  have hK := hKK.1
  have hx := B.exec
  have hb := B.bytes
  have hr := B.returns
  have ht : ∀ w ∈ tw_W, w.before _ s = true := fun w h => atoms_spec (ws := Cond.code yX6_ticks cX6_ticks 4 (some .int) :: tw_W) B.pre w (List.mem_cons_of_mem _ h)
  have hown : s.vm.findClass RX6 = some m.cls := findClass_of_methodNamed B.named
  have hlocks := B.notSynchronized
  subst hsz
  unfold qi_
  have hD := hD0.self (sz := s.heap.size)
  generalize hAe : va_A [(a0_, .inr (9, [.ref a1_, .ref a2_, .int 0, .int 0, .int 0, .int 0, .ref a3_, .int 0, .ref a4_])), (a2_, .inl (cI, 32, .inl (fun _ => 0))), (a1_, .inl (cI, N, .inl (fun _ => 0)))] s.heap.size = A at hD hFx ⊢
  have hA : ∀ q : Nat, s.heap.size ≤ q → A q := fun q h => by rw [← hAe]; exact Or.inr h
  have hS : va_S A s.heap s.heap [] := va_S.rf
  have hP : va_P (dC, dI) vwCl [(a0_, .inr (9, [.ref a1_, .ref a2_, .int 0, .int 0, .int 0, .int 0, .ref a3_, .int 0, .ref a4_])), (a2_, .inl (cI, 32, .inl (fun _ => 0))), (a1_, .inl (cI, N, .inl (fun _ => 0)))] s.heap := hP
  have hl := lv_entry ([.ref a0_, .int x0_]) (n := 4) (Nat.le_of_ble_eq_true rfl)
  rw [lg_entry_eq]
  generalize (lg_sl ([.ref a0_, .int x0_]) ++ List.replicate (4 - (lg_sl ([.ref a0_, .int x0_])).length) Slot.unset).toArray = ls at hl ⊢
  have hl : lv_has ls 4 [(0, .ref a0_), (1, .int x0_)] := hl
  refine lv_aload_n hx hb dX6_ticks_0 rfl (lv_at hl 0 rfl) ?_
  refine va_get (D := (dC, dI)) (ci := 9) (v := .int 0) (C := RX6) (T := TX6) (N := 9) hx hb ht itX6 hown hK hP 0 rfl rfl 5 (by decide) (ht _ tw_227) (fun _ h9 => h9) rfl dX6_ticks_1 ?_
  refine lv_istore_n (lv' := [(2, .int 0), (0, .ref a0_), (1, .int x0_)]) hx hb dX6_ticks_4 rfl hl (by decide) rfl (fun ls hl => ?_)
  refine lv_iconst (v := 0) hx hb dX6_ticks_5 (by decide) ?_
  refine lv_istore_n (lv' := [(3, .int 0), (2, .int 0), (0, .ref a0_), (1, .int x0_)]) hx hb dX6_ticks_6 rfl hl (by decide) rfl (fun ls hl => ?_)
  refine lv_iload_n hx hb dX6_ticks_7 rfl (lv_at hl 0 rfl) ?_
  refine lv_iload_n hx hb dX6_ticks_8 rfl (lv_at hl 3 rfl) ?_
  refine lv_icmp_ge (tgt := 29) hx hb dX6_ticks_9 (by decide) (fun h1 => ?_) (fun h1 => ?_)
  · refine lv_aload_n hx hb dX6_ticks_29 rfl (lv_at hl 2 rfl) ?_
    refine va_get (D := (dC, dI)) (ci := 9) (v := .int 0) (C := RX6) (T := TX6) (N := 9) hx hb ht itX6 hown hK hP 0 rfl rfl 5 (by decide) (ht _ tw_227) (fun _ h9 => h9) rfl dX6_ticks_30 ?_
    refine lv_iload_n hx hb dX6_ticks_33 rfl (lv_at hl 1 rfl) ?_
    refine lv_isub hx hb dX6_ticks_34 ?_
    refine tp_i (y := 0) (by decide) ?_
    have hP9 := hP.sub (ws' := [(a2_, .inl (cI, 32, .inl (fun _ => 0))), (a1_, .inl (cI, N, .inl (fun _ => 0)))]) [1, 2] rfl
    have hD9 := hD.sub (ws' := [(a2_, .inl (cI, 32, .inl (fun _ => 0))), (a1_, .inl (cI, N, .inl (fun _ => 0)))]) [1, 2] (by decide) rfl
    refine W.widen (k := 0) (n := 0) (by omega) (by omega) ?_
    exact W.iret (v := 0) hx hb hr (fun t ht9 hW => ⟨⟨0, (), rfl, (by rw [if_pos h1]), by rw [ht9]; exact hP9, hD9⟩, hS.F ht9⟩) hS.2.2 dX6_ticks_35
  · refine lv_aload_n hx hb dX6_ticks_12 rfl (lv_at hl 2 rfl) ?_
    refine va_get (D := (dC, dI)) (ci := 9) (v := .int 0) (C := RX6) (T := TX6) (N := 9) hx hb ht itX6 hown hK hP 0 rfl rfl 4 (by decide) (ht _ tw_226) (fun _ h9 => h9) rfl dX6_ticks_13 ?_
    refine lv_if_ne (tgt := 29) hx hb dX6_ticks_16 (by decide) (fun k2 => absurd k2 (by decide)) (fun _ => ?_)
    refine lv_aload_n hx hb dX6_ticks_19 rfl (lv_at hl 2 rfl) ?_
    refine ca_v (wr := []) (rn_V (n := 0) (As := []) (rest := []) hx hb hml hown ht hKK hFx hP hD hS hA (c_X6_tick l dC dI cI cB cZ cJ cR tb s.heap.size a0_ a1_ a2_ a3_ a4_ N (by omega) (by omega)) tw_248 tw_278 (by decide +kernel) rfl rfl ⟨Nat.le_of_ble_eq_true rfl, Nat.le_of_ble_eq_true rfl⟩ [0, 1, 2] rfl (by decide) rfl rfl rfl rfl hl.1 rfl (Nat.le_of_ble_eq_true rfl) dX6_ticks_20 ⟨Nat.le_of_ble_eq_true rfl, Nat.le_of_ble_eq_true rfl⟩) hP hD hS hA (isC := [0, 1, 2]) (isR := []) rfl rfl (by decide) (by decide) (fun u H locs hw3 hP hD hS => ?_)
    have hP : va_P (dC, dI) vwCl [(a0_, .inr (9, [.ref a1_, .ref a2_, .int 0, .int 4, .int 2, .int 1, .ref a3_, .int 0, .ref a4_])), (a2_, .inl (cI, 32, .inl (fun _ => 0))), (a1_, .inl (cI, N, .inl (fun _ => 0)))] H := hP
    have hD : va_D A [(a0_, .inr (9, [.ref a1_, .ref a2_, .int 0, .int 4, .int 2, .int 1, .ref a3_, .int 0, .ref a4_])), (a2_, .inl (cI, 32, .inl (fun _ => 0))), (a1_, .inl (cI, N, .inl (fun _ => 0)))] := hD
    refine W.widen (k := 0) (n := 0) (by omega) (by omega) ?_
    refine lv_iinc (v := 1) (lv' := [(3, .int 1), (2, .int 0), (0, .ref a0_), (1, .int x0_)]) hx hb dX6_ticks_23 hl (k := 0) rfl (by decide) (by decide) rfl (fun ls hl => ?_)
    refine lv_goto (tgt := 7) hx hb dX6_ticks_26 (by decide) ?_
    refine lv_iload_n hx hb dX6_ticks_7 rfl (lv_at hl 0 rfl) ?_
    refine lv_iload_n hx hb dX6_ticks_8 rfl (lv_at hl 3 rfl) ?_
    refine lv_icmp_ge (tgt := 29) hx hb dX6_ticks_9 (by decide) (fun h4 => ?_) (fun h4 => ?_)
    · refine lv_aload_n hx hb dX6_ticks_29 rfl (lv_at hl 2 rfl) ?_
      refine va_get (D := (dC, dI)) (ci := 9) (v := .int 1) (C := RX6) (T := TX6) (N := 9) hx hb ht itX6 hown hK hP 0 rfl rfl 5 (by decide) (ht _ tw_227) (fun _ h9 => h9) rfl dX6_ticks_30 ?_
      refine lv_iload_n hx hb dX6_ticks_33 rfl (lv_at hl 1 rfl) ?_
      refine lv_isub hx hb dX6_ticks_34 ?_
      refine tp_i (y := 1) (by decide) ?_
      have hP9 := hP.sub (ws' := [(a2_, .inl (cI, 32, .inl (fun _ => 0))), (a1_, .inl (cI, N, .inl (fun _ => 0)))]) [1, 2] rfl
      have hD9 := hD.sub (ws' := [(a2_, .inl (cI, 32, .inl (fun _ => 0))), (a1_, .inl (cI, N, .inl (fun _ => 0)))]) [1, 2] (by decide) rfl
      refine W.widen (k := 0) (n := 0) (by omega) (by omega) ?_
      exact W.iret (v := 1) hx hb hr (fun t ht9 hW => ⟨⟨1, (), rfl, (by rw [if_neg h1]), by rw [ht9]; exact hP9, hD9⟩, hS.F ht9⟩) hS.2.2 dX6_ticks_35
    · refine lv_aload_n hx hb dX6_ticks_12 rfl (lv_at hl 2 rfl) ?_
      refine va_get (D := (dC, dI)) (ci := 9) (v := .int 2) (C := RX6) (T := TX6) (N := 9) hx hb ht itX6 hown hK hP 0 rfl rfl 4 (by decide) (ht _ tw_226) (fun _ h9 => h9) rfl dX6_ticks_13 ?_
      refine lv_if_ne (tgt := 29) hx hb dX6_ticks_16 (by decide) (fun _ => ?_) (fun k5 => absurd k5 (by decide))
      refine lv_aload_n hx hb dX6_ticks_29 rfl (lv_at hl 2 rfl) ?_
      refine va_get (D := (dC, dI)) (ci := 9) (v := .int 1) (C := RX6) (T := TX6) (N := 9) hx hb ht itX6 hown hK hP 0 rfl rfl 5 (by decide) (ht _ tw_227) (fun _ h9 => h9) rfl dX6_ticks_30 ?_
      refine lv_iload_n hx hb dX6_ticks_33 rfl (lv_at hl 1 rfl) ?_
      refine lv_isub hx hb dX6_ticks_34 ?_
      refine tp_i (y := 1) (by decide) ?_
      have hP9 := hP.sub (ws' := [(a2_, .inl (cI, 32, .inl (fun _ => 0))), (a1_, .inl (cI, N, .inl (fun _ => 0)))]) [1, 2] rfl
      have hD9 := hD.sub (ws' := [(a2_, .inl (cI, 32, .inl (fun _ => 0))), (a1_, .inl (cI, N, .inl (fun _ => 0)))]) [1, 2] (by decide) rfl
      refine W.widen (k := 0) (n := 0) (by omega) (by omega) ?_
      exact W.iret (v := 1) hx hb hr (fun t ht9 hW => ⟨⟨1, (), rfl, (by rw [if_neg h1]), by rw [ht9]; exact hP9, hD9⟩, hS.F ht9⟩) hS.2.2 dX6_ticks_35
set_option maxHeartbeats 4000000 in
set_option maxRecDepth 100000 in
/-- X11_run on a new object: it returns or throws -/
theorem c_X11_run (l : Launch) (dC : Nat → ClassId) (dI : Nat → Nat → Nat) (cI cB cZ cJ cR : ClassId) (tb : Nat → Nat) (hst : l.stackTraces = false) (sz : Nat) (h0 : Nat) (pa : Int32) (q1 : Nat) (q9 : Nat) (q18 : Nat) (q27 : Nat) (q42 : Nat) (q2 : Nat) (q45 : Nat) (q50 : Nat) (q5 : Nat) (q47 : Nat) (q48 : Nat) (q49 : Nat) (N : Nat) (hf_N_0 : 256 ≤ N) (hf_N_1 : N ≤ 4096) : vx_Met l yX11_run (Cond.code yX11_run cX11_run 2 (some .int) :: tw_W) ({ frames := 6, cells := 1, slots := 6, locals := 92 }) (pc_ (dC, dI) (tyS cI cB cZ cJ cR) tb [(h0, .inr (14, [.ref q1, .int 0, .ref q9, .ref q18, .ref q27, .ref q42, .int 0, .int (-1), .ref q2, .ref q45, .ref q50, .ref q5])), (q45, .inr (9, [.ref q47, .ref q48, .int 0, .int 0, .int 0, .int 0, .ref q49, .int 0, .ref q2])), (q48, .inl (cI, 32, .inl (fun _ => 0))), (q47, .inl (cI, N, .inl (fun _ => 0)))] sz [.ref h0, .int pa]) (qi_ (dC, dI) [(h0, .inr (14, [.ref q1, .int 0, .ref q9, .ref q18, .ref q27, .ref q42, .int 0, .int (-1), .ref q2, .ref q45, .ref q50, .ref q5])), (q45, .inr (9, [.ref q47, .ref q48, .int 0, .int 0, .int 0, .int 0, .ref q49, .int 0, .ref q2])), (q48, .inl (cI, 32, .inl (fun _ => 0))), (q47, .inl (cI, N, .inl (fun _ => 0)))] sz (fun (r : Int32) (u : Unit) => (¬ (pa < 0) ∧ pa ≤ 50000 ∧ r = (if pa ≤ (0 : Int32) then 0 else 1))) (fun (u : Unit) => [])) (qx_ [(h0, .inr (14, [.ref q1, .int 0, .ref q9, .ref q18, .ref q27, .ref q42, .int 0, .int (-1), .ref q2, .ref q45, .ref q50, .ref q5])), (q45, .inr (9, [.ref q47, .ref q48, .int 0, .int 0, .int 0, .int 0, .ref q49, .int 0, .ref q2])), (q48, .inl (cI, 32, .inl (fun _ => 0))), (q47, .inl (cI, N, .inl (fun _ => 0)))] sz (fun E => (pa < 0 ∧ E = "java/lang/IllegalArgumentException") ∨ (¬ (pa < 0) ∧ ¬ (pa ≤ 50000) ∧ E = "java/lang/IllegalArgumentException"))) 1 6 (va_A [(h0, .inr (14, [.ref q1, .int 0, .ref q9, .ref q18, .ref q27, .ref q42, .int 0, .int (-1), .ref q2, .ref q45, .ref q50, .ref q5])), (q45, .inr (9, [.ref q47, .ref q48, .int 0, .int 0, .int 0, .int 0, .ref q49, .int 0, .ref q2])), (q48, .inl (cI, 32, .inl (fun _ => 0))), (q47, .inl (cI, N, .inl (fun _ => 0)))] sz) := by
  refine vx_ofW (cc := cX11_run) (maxL := 2) (ret := (some .int)) (by decide) rfl ?_
  intro p e s m args below meth c s₁ B hml hnt hv
  obtain ⟨rfl, hsz, hP, hKK, hD0, hFx⟩ := hv
  have hK := hKK.1
  have hx := B.exec
  have hb := B.bytes
  have hr := B.returns
  have ht : ∀ w ∈ tw_W, w.before _ s = true := fun w h => atoms_spec (ws := Cond.code yX11_run cX11_run 2 (some .int) :: tw_W) B.pre w (List.mem_cons_of_mem _ h)
  have hown : s.vm.findClass RX11 = some m.cls := findClass_of_methodNamed B.named
  have hlocks := B.notSynchronized
  subst hsz
  unfold qi_ qx_
  have hD := hD0.self (sz := s.heap.size)
  generalize hAe : va_A [(h0, .inr (14, [.ref q1, .int 0, .ref q9, .ref q18, .ref q27, .ref q42, .int 0, .int (-1), .ref q2, .ref q45, .ref q50, .ref q5])), (q45, .inr (9, [.ref q47, .ref q48, .int 0, .int 0, .int 0, .int 0, .ref q49, .int 0, .ref q2])), (q48, .inl (cI, 32, .inl (fun _ => 0))), (q47, .inl (cI, N, .inl (fun _ => 0)))] s.heap.size = A at hD hFx ⊢
  have hA : ∀ q : Nat, s.heap.size ≤ q → A q := fun q h => by rw [← hAe]; exact Or.inr h
  have hS : va_S A s.heap s.heap [] := va_S.rf
  have hP : va_P (dC, dI) vwCl [(h0, .inr (14, [.ref q1, .int 0, .ref q9, .ref q18, .ref q27, .ref q42, .int 0, .int (-1), .ref q2, .ref q45, .ref q50, .ref q5])), (q45, .inr (9, [.ref q47, .ref q48, .int 0, .int 0, .int 0, .int 0, .ref q49, .int 0, .ref q2])), (q48, .inl (cI, 32, .inl (fun _ => 0))), (q47, .inl (cI, N, .inl (fun _ => 0)))] s.heap := hP
  have hl := lv_entry ([.ref h0, .int pa]) (n := 2) (Nat.le_of_ble_eq_true rfl)
  rw [lg_entry_eq]
  generalize (lg_sl ([.ref h0, .int pa]) ++ List.replicate (2 - (lg_sl ([.ref h0, .int pa])).length) Slot.unset).toArray = ls at hl ⊢
  have hl : lv_has ls 2 [(0, .ref h0), (1, .int pa)] := hl
  refine lv_iload_n hx hb dX11_run_0 rfl (lv_at hl 1 rfl) ?_
  refine lv_if_lt (tgt := 10) hx hb dX11_run_1 (by decide) (fun h1 => ?_) (fun h1 => ?_)
  · refine vx_throwS (names := ["java/lang/RuntimeException", "java/lang/Exception"]) (A := A) hx hb hst hown (by decide +kernel) (by decide +kernel) (ht _ tw_270) (ht _ tw_271) (st_ hKK 15 (own := RX11) (idx := 170) (tx := "not 0 to 50,000 steps") (n := 15) rfl) (vx_hat (fun w h => ht w (xat_1 w h)) xat_1_n (vx_c (va_Nw.use rfl (hKK.2.2.2.2.2.1 _ (List.mem_of_getElem? (i := 1) rfl))) (vx_c (dcl_0 ht) (vx_c (dcl_1 ht) (vx_c (dcl_2 ht) vx_n))))) xat_1_o hFx.2.2.2.2.1 hFx.2.2.2.2.2.1 hS (by rw [hml]; exact hl.1) dX11_run_10 dX11_run_13 dX11_run_14 dX11_run_16 dX11_run_19 (fun x h9 => (hnt x h9).elim) (Nat.le_of_ble_eq_true rfl) (Nat.le_of_ble_eq_true rfl) (Nat.le_of_ble_eq_true rfl) (Nat.le_of_ble_eq_true rfl) hlocks (fun t9 hv9 hz9 hk9 => ⟨(), trivial, (Or.inl ⟨h1, rfl⟩), ⟨Nat.le_trans hS.1 hz9, fun q h1 h2 => (hk9 q (Nat.lt_of_lt_of_le h1 hS.1)).trans (hS.2.1 q h1 h2)⟩⟩) hS.2.2 (Nat.le_of_ble_eq_true rfl) (Nat.le_of_ble_eq_true rfl)
  · refine lv_iload_n hx hb dX11_run_4 rfl (lv_at hl 1 rfl) ?_
    refine lv_ldc (v := 50000) hx hb hown (ht _ tw_277) dX11_run_5 ?_
    refine lv_icmp_le (tgt := 20) hx hb dX11_run_7 (by decide) (fun h2 => ?_) (fun h2 => ?_)
    · refine lv_aload_n hx hb dX11_run_20 rfl (lv_at hl 0 rfl) ?_
      refine va_get (D := (dC, dI)) (ci := 14) (v := .ref q45) (C := RX11) (T := TX11) (N := 12) hx hb ht itX11 hown hK hP 0 rfl rfl 9 (by decide) (ht _ tw_140) (fun _ h9 => h9) rfl dX11_run_21 ?_
      refine lv_iload_n hx hb dX11_run_24 rfl (lv_at hl 1 rfl) ?_
      refine ca_i (wr := [(h0, .inr (14, [.ref q1, .int 0, .ref q9, .ref q18, .ref q27, .ref q42, .int 0, .int (-1), .ref q2, .ref q45, .ref q50, .ref q5]))]) (rn_V (n := 1) (As := [.int pa]) (rest := []) hx hb hml hown ht hKK hFx hP hD hS hA (c_X6_ticks l dC dI cI cB cZ cJ cR tb s.heap.size q45 pa q47 q48 q49 q2 N (by omega) (by omega)) tw_279 tw_280 (by decide +kernel) rfl rfl ⟨Nat.le_of_ble_eq_true rfl, Nat.le_of_ble_eq_true rfl⟩ [1, 2, 3] rfl (by decide) rfl rfl rfl rfl hl.1 rfl (Nat.le_of_ble_eq_true rfl) dX11_run_25 ⟨Nat.le_of_ble_eq_true rfl, Nat.le_of_ble_eq_true rfl⟩) hP hD hS hA (isC := [1, 2, 3]) (isR := [0]) rfl rfl (by decide) (by decide) (fun r4 u H locs hw3 hP hD hS => ?_)
      subst hw3
      have hP : va_P (dC, dI) vwCl [(h0, .inr (14, [.ref q1, .int 0, .ref q9, .ref q18, .ref q27, .ref q42, .int 0, .int (-1), .ref q2, .ref q45, .ref q50, .ref q5])), (q48, .inl (cI, 32, .inl (fun _ => 0))), (q47, .inl (cI, N, .inl (fun _ => 0)))] H := hP
      have hD : va_D A [(h0, .inr (14, [.ref q1, .int 0, .ref q9, .ref q18, .ref q27, .ref q42, .int 0, .int (-1), .ref q2, .ref q45, .ref q50, .ref q5])), (q48, .inl (cI, 32, .inl (fun _ => 0))), (q47, .inl (cI, N, .inl (fun _ => 0)))] := hD
      refine W.widen (k := 0) (n := 0) (by omega) (by omega) ?_
      have hP9 := hP.sub (ws' := []) [] rfl
      have hD9 := hD.sub (ws' := []) [] (by decide) rfl
      refine W.widen (k := 1) (n := 6) (by omega) (by omega) ?_
      refine vx_ret ?_
      exact W.iret (v := (if pa ≤ (0 : Int32) then 0 else 1)) hx hb hr (fun t ht9 hW => ⟨⟨(if pa ≤ (0 : Int32) then 0 else 1), (), rfl, (⟨h1, h2, rfl⟩), by rw [ht9]; exact hP9, hD9⟩, hS.F ht9⟩) hS.2.2 dX11_run_28
    · refine vx_throwS (names := ["java/lang/RuntimeException", "java/lang/Exception"]) (A := A) hx hb hst hown (by decide +kernel) (by decide +kernel) (ht _ tw_270) (ht _ tw_271) (st_ hKK 15 (own := RX11) (idx := 170) (tx := "not 0 to 50,000 steps") (n := 15) rfl) (vx_hat (fun w h => ht w (xat_1 w h)) xat_1_n (vx_c (va_Nw.use rfl (hKK.2.2.2.2.2.1 _ (List.mem_of_getElem? (i := 1) rfl))) (vx_c (dcl_0 ht) (vx_c (dcl_1 ht) (vx_c (dcl_2 ht) vx_n))))) xat_1_o hFx.2.2.2.2.1 hFx.2.2.2.2.2.1 hS (by rw [hml]; exact hl.1) dX11_run_10 dX11_run_13 dX11_run_14 dX11_run_16 dX11_run_19 (fun x h9 => (hnt x h9).elim) (Nat.le_of_ble_eq_true rfl) (Nat.le_of_ble_eq_true rfl) (Nat.le_of_ble_eq_true rfl) (Nat.le_of_ble_eq_true rfl) hlocks (fun t9 hv9 hz9 hk9 => ⟨(), trivial, (Or.inr (⟨h1, h2, rfl⟩)), ⟨Nat.le_trans hS.1 hz9, fun q h1 h2 => (hk9 q (Nat.lt_of_lt_of_le h1 hS.1)).trans (hS.2.1 q h1 h2)⟩⟩) hS.2.2 (Nat.le_of_ble_eq_true rfl) (Nat.le_of_ble_eq_true rfl)
