theorem dX11_load_0 : decode cX11_load 0 = .ok (.aload_n 0, 1) := by decide +kernel
theorem dX11_load_1 : decode cX11_load 1 = .ok (.getfield 40, 3) := by decide +kernel
theorem dX11_load_4 : decode cX11_load 4 = .ok (.aload_n 0, 1) := by decide +kernel
theorem dX11_load_5 : decode cX11_load 5 = .ok (.getfield 9, 3) := by decide +kernel
theorem dX11_load_8 : decode cX11_load 8 = .ok (.aload_n 0, 1) := by decide +kernel
theorem dX11_load_9 : decode cX11_load 9 = .ok (.getfield 86, 3) := by decide +kernel
theorem dX11_load_12 : decode cX11_load 12 = .ok (.invokevirtual 92, 3) := by decide +kernel
theorem dX7_copyText_0 : decode cX7_copyText 0 = .ok (.aload_n 0, 1) := by decide +kernel
theorem dX7_copyText_1 : decode cX7_copyText 1 = .ok (.iload_n 2, 1) := by decide +kernel
theorem dX7_copyText_2 : decode cX7_copyText 2 = .ok (.ifCond .lt 22, 3) := by decide +kernel
theorem dX7_copyText_5 : decode cX7_copyText 5 = .ok (.iload_n 2, 1) := by decide +kernel
theorem dX7_copyText_6 : decode cX7_copyText 6 = .ok (.aload_n 1, 1) := by decide +kernel
theorem dX7_copyText_7 : decode cX7_copyText 7 = .ok (.arraylength, 1) := by decide +kernel
theorem dX7_copyText_8 : decode cX7_copyText 8 = .ok (.if_icmp .gt 16, 3) := by decide +kernel
theorem dX7_copyText_11 : decode cX7_copyText 11 = .ok (.iload_n 2, 1) := by decide +kernel
theorem dX7_copyText_12 : decode cX7_copyText 12 = .ok (.aload_n 0, 1) := by decide +kernel
theorem dX7_copyText_13 : decode cX7_copyText 13 = .ok (.getfield 9, 3) := by decide +kernel
theorem dX7_copyText_16 : decode cX7_copyText 16 = .ok (.arraylength, 1) := by decide +kernel
theorem dX7_copyText_17 : decode cX7_copyText 17 = .ok (.if_icmp .gt 7, 3) := by decide +kernel
theorem dX7_copyText_20 : decode cX7_copyText 20 = .ok (.iload_n 2, 1) := by decide +kernel
theorem dX7_copyText_21 : decode cX7_copyText 21 = .ok (.goto 4, 3) := by decide +kernel
theorem dX7_copyText_25 : decode cX7_copyText 25 = .ok (.putfield 35, 3) := by decide +kernel
theorem dX7_copyText_28 : decode cX7_copyText 28 = .ok (.aload_n 1, 1) := by decide +kernel
theorem dX7_copyText_29 : decode cX7_copyText 29 = .ok (.iconst 0, 1) := by decide +kernel
theorem dX7_copyText_30 : decode cX7_copyText 30 = .ok (.aload_n 0, 1) := by decide +kernel
theorem dX7_copyText_31 : decode cX7_copyText 31 = .ok (.getfield 9, 3) := by decide +kernel
theorem dX7_copyText_34 : decode cX7_copyText 34 = .ok (.iconst 0, 1) := by decide +kernel
theorem dX7_copyText_35 : decode cX7_copyText 35 = .ok (.aload_n 0, 1) := by decide +kernel
theorem dX7_copyText_36 : decode cX7_copyText 36 = .ok (.getfield 35, 3) := by decide +kernel
theorem dX7_copyText_39 : decode cX7_copyText 39 = .ok (.invokestatic 39, 3) := by decide +kernel
theorem tw_314 : (.methodLink RX7 39 arraycopyName : Cond) ∈ tw_W := tw_in (by decide +kernel) (by decide +kernel)
theorem tw_315 : (.native arraycopyName : Cond) ∈ tw_W := tw_in (by decide +kernel) (by decide +kernel)
theorem tw_316 : (.static arraycopyName : Cond) ∈ tw_W := tw_in (by decide +kernel) (by decide +kernel)
theorem tw_317 : (.initialized "java/lang/System" : Cond) ∈ tw_W := tw_in (by decide +kernel) (by decide +kernel)
theorem dX7_copyText_42 : decode cX7_copyText 42 = .ok (.return_, 1) := by decide +kernel
theorem tw_318 : (.code yX7_copyText cX7_copyText 3 none : Cond) ∈ tw_W := tw_in (by decide +kernel) (by decide +kernel)
theorem tw_319 : ∀ w ∈ ([.methodLink RX11 92 yX7_copyText, .instanceMethod yX7_copyText, .selects RX7 yX7_copyText yX7_copyText, .initialized RX7] : List Cond), w ∈ tw_W := tw_all (by decide +kernel)
theorem dX11_load_15 : decode cX11_load 15 = .ok (.aload_n 0, 1) := by decide +kernel
theorem dX11_load_16 : decode cX11_load 16 = .ok (.iconst 0, 1) := by decide +kernel
theorem dX11_load_17 : decode cX11_load 17 = .ok (.putfield 86, 3) := by decide +kernel
theorem dX11_load_20 : decode cX11_load 20 = .ok (.aload_n 0, 1) := by decide +kernel
theorem dX11_load_21 : decode cX11_load 21 = .ok (.iconst 0, 1) := by decide +kernel
theorem dX11_load_22 : decode cX11_load 22 = .ok (.putfield 96, 3) := by decide +kernel
theorem dX11_load_25 : decode cX11_load 25 = .ok (.aload_n 0, 1) := by decide +kernel
theorem dX11_load_26 : decode cX11_load 26 = .ok (.iconst (-1), 1) := by decide +kernel
theorem dX11_load_27 : decode cX11_load 27 = .ok (.putfield 13, 3) := by decide +kernel
theorem dX11_load_30 : decode cX11_load 30 = .ok (.aload_n 0, 1) := by decide +kernel
theorem dX11_load_31 : decode cX11_load 31 = .ok (.getfield 48, 3) := by decide +kernel
theorem dX11_load_34 : decode cX11_load 34 = .ok (.aload_n 0, 1) := by decide +kernel
theorem dX11_load_35 : decode cX11_load 35 = .ok (.getfield 40, 3) := by decide +kernel
theorem dX11_load_38 : decode cX11_load 38 = .ok (.invokevirtual 79, 3) := by decide +kernel
theorem dX11_load_41 : decode cX11_load 41 = .ok (.goto 32, 3) := by decide +kernel
theorem dX11_load_73 : decode cX11_load 73 = .ok (.aload_n 0, 1) := by decide +kernel
theorem dX11_load_74 : decode cX11_load 74 = .ok (.getfield 96, 3) := by decide +kernel
theorem dX11_load_77 : decode cX11_load 77 = .ok (.ifCond .ne 34, 3) := by decide +kernel
theorem dX11_load_80 : decode cX11_load 80 = .ok (.aload_n 0, 1) := by decide +kernel
theorem dX11_load_81 : decode cX11_load 81 = .ok (.getfield 57, 3) := by decide +kernel
theorem dX11_load_84 : decode cX11_load 84 = .ok (.aload_n 0, 1) := by decide +kernel
theorem dX11_load_85 : decode cX11_load 85 = .ok (.getfield 40, 3) := by decide +kernel
theorem dX11_load_88 : decode cX11_load 88 = .ok (.invokevirtual 82, 3) := by decide +kernel
theorem dX11_load_91 : decode cX11_load 91 = .ok (.ifCond .ne 20, 3) := by decide +kernel
theorem dX11_load_111 : decode cX11_load 111 = .ok (.aload_n 0, 1) := by decide +kernel
theorem dX11_load_112 : decode cX11_load 112 = .ok (.getfield 96, 3) := by decide +kernel
theorem dX11_load_115 : decode cX11_load 115 = .ok (.ifCond .ne 28, 3) := by decide +kernel
theorem dX11_load_118 : decode cX11_load 118 = .ok (.aload_n 0, 1) := by decide +kernel
theorem dX11_load_119 : decode cX11_load 119 = .ok (.getfield 36, 3) := by decide +kernel
theorem dX11_load_122 : decode cX11_load 122 = .ok (.astore_n 1, 1) := by decide +kernel
theorem dX11_load_123 : decode cX11_load 123 = .ok (.aload_n 0, 1) := by decide +kernel
theorem dX11_load_124 : decode cX11_load 124 = .ok (.aload_n 0, 1) := by decide +kernel
theorem dX11_load_125 : decode cX11_load 125 = .ok (.getfield 40, 3) := by decide +kernel
theorem dX11_load_128 : decode cX11_load 128 = .ok (.putfield 36, 3) := by decide +kernel
theorem dX11_load_131 : decode cX11_load 131 = .ok (.aload_n 0, 1) := by decide +kernel
theorem dX11_load_132 : decode cX11_load 132 = .ok (.aload_n 1, 1) := by decide +kernel
theorem dX11_load_133 : decode cX11_load 133 = .ok (.putfield 40, 3) := by decide +kernel
theorem dX11_load_136 : decode cX11_load 136 = .ok (.aload_n 0, 1) := by decide +kernel
theorem dX11_load_137 : decode cX11_load 137 = .ok (.getfield 75, 3) := by decide +kernel
theorem dX11_load_140 : decode cX11_load 140 = .ok (.invokevirtual 116, 3) := by decide +kernel
theorem dX10_drop_0 : decode cX10_drop 0 = .ok (.aload_n 0, 1) := by decide +kernel
theorem dX10_drop_1 : decode cX10_drop 1 = .ok (.iconst 0, 1) := by decide +kernel
theorem dX10_drop_2 : decode cX10_drop 2 = .ok (.putfield 33, 3) := by decide +kernel
theorem dX10_drop_5 : decode cX10_drop 5 = .ok (.return_, 1) := by decide +kernel
theorem tw_320 : (.code yX10_drop cX10_drop 1 none : Cond) ∈ tw_W := tw_in (by decide +kernel) (by decide +kernel)
theorem tw_321 : ∀ w ∈ ([.methodLink RX11 116 yX10_drop, .instanceMethod yX10_drop, .selects RX10 yX10_drop yX10_drop, .initialized RX10] : List Cond), w ∈ tw_W := tw_all (by decide +kernel)
theorem dX11_load_143 : decode cX11_load 143 = .ok (.aload_n 0, 1) := by decide +kernel
theorem dX11_load_144 : decode cX11_load 144 = .ok (.getfield 96, 3) := by decide +kernel
theorem dX11_load_147 : decode cX11_load 147 = .ok (.ireturn, 1) := by decide +kernel
set_option maxHeartbeats 4000000 in
set_option maxRecDepth 100000 in
theorem c_X7_copyText (l : Launch) (dC : Nat → ClassId) (dI : Nat → Nat → Nat) (cI cB cZ cJ cR : ClassId) (tb : Nat → Nat) (sz : Nat) (a0_ : Nat) (a1_ : Nat) (a2_ : Nat) (a3_ : Nat) (a4_ : Nat) (a5_ : Nat) (a6_ : Nat) (a7_ : Nat) (a8_ : Nat)  : Met l yX7_copyText (Cond.code yX7_copyText cX7_copyText 3 none :: tw_W) ({ frames := 1, cells := 0, slots := 0, locals := 40 }) (pc_ (dC, dI) (tyS cI cB cZ cJ cR) tb [(a0_, .inr (10, [.ref a2_, .int 0, .ref a3_, .int 0, .ref a4_, .int 0, .ref a5_, .ref a6_, .ref a7_, .int 0, .ref a8_, .int 0, .int 0])), (a1_, .inl (cI, 4000, .inl (fun _ => 0))), (a2_, .inl (cI, 4000, .inl (fun _ => 0)))] sz [.ref a0_, .ref a1_, .int 0]) (qv_ (dC, dI) [(a0_, .inr (10, [.ref a2_, .int 0, .ref a3_, .int 0, .ref a4_, .int 0, .ref a5_, .ref a6_, .ref a7_, .int 0, .ref a8_, .int 0, .int 0])), (a1_, .inl (cI, 4000, .inl (fun _ => 0))), (a2_, .inl (cI, 4000, .inl (fun _ => 0)))] sz (fun (u : Unit) => True) (fun (u : Unit) => [(a0_, .inr (10, [.ref a2_, .int 0, .ref a3_, .int 0, .ref a4_, .int 0, .ref a5_, .ref a6_, .ref a7_, .int 0, .ref a8_, .int 0, .int 0])), (a1_, .inl (cI, 4000, .inl (fun _ => 0))), (a2_, .inl (cI, 4000, .inl (va_cpy (fun _ => 0) (fun _ => 0) 0 0 0)))])) 0 0 (va_A [(a0_, .inr (10, [.ref a2_, .int 0, .ref a3_, .int 0, .ref a4_, .int 0, .ref a5_, .ref a6_, .ref a7_, .int 0, .ref a8_, .int 0, .int 0])), (a1_, .inl (cI, 4000, .inl (fun _ => 0))), (a2_, .inl (cI, 4000, .inl (fun _ => 0)))] sz) := by
  refine Met.ofW (cc := cX7_copyText) (maxL := 3) (ret := none) (by decide) rfl ?_
  intro p e s m args below meth c s₁ B hml hv
  obtain ⟨rfl, hsz, hP, hKK, hD0, hFx⟩ := hv
  have hK := hKK.1
  have hx := B.exec
  have hb := B.bytes
  have hr := B.returns
  have ht : ∀ w ∈ tw_W, w.before _ s = true := fun w h => atoms_spec (ws := Cond.code yX7_copyText cX7_copyText 3 none :: tw_W) B.pre w (List.mem_cons_of_mem _ h)
  have hown : s.vm.findClass RX7 = some m.cls := findClass_of_methodNamed B.named
  have hlocks := B.notSynchronized
  subst hsz
  unfold qv_
  have hD := hD0.self (sz := s.heap.size)
  generalize hAe : va_A [(a0_, .inr (10, [.ref a2_, .int 0, .ref a3_, .int 0, .ref a4_, .int 0, .ref a5_, .ref a6_, .ref a7_, .int 0, .ref a8_, .int 0, .int 0])), (a1_, .inl (cI, 4000, .inl (fun _ => 0))), (a2_, .inl (cI, 4000, .inl (fun _ => 0)))] s.heap.size = A at hD hFx ⊢
  have hA : ∀ q : Nat, s.heap.size ≤ q → A q := fun q h => by rw [← hAe]; exact Or.inr h
  have hS : va_S A s.heap s.heap [] := va_S.rf
  have hP : va_P (dC, dI) vwCl [(a0_, .inr (10, [.ref a2_, .int 0, .ref a3_, .int 0, .ref a4_, .int 0, .ref a5_, .ref a6_, .ref a7_, .int 0, .ref a8_, .int 0, .int 0])), (a1_, .inl (cI, 4000, .inl (fun _ => 0))), (a2_, .inl (cI, 4000, .inl (fun _ => 0)))] s.heap := hP
  have hl := lv_entry ([.ref a0_, .ref a1_, .int 0]) (n := 3) (Nat.le_of_ble_eq_true rfl)
  rw [lg_entry_eq]
  generalize (lg_sl ([.ref a0_, .ref a1_, .int 0]) ++ List.replicate (3 - (lg_sl ([.ref a0_, .ref a1_, .int 0])).length) Slot.unset).toArray = ls at hl ⊢
  have hl : lv_has ls 3 [(0, .ref a0_), (1, .ref a1_), (2, .int 0)] := hl
  refine lv_aload_n hx hb dX7_copyText_0 rfl (lv_at hl 0 rfl) ?_
  refine lv_iload_n hx hb dX7_copyText_1 rfl (lv_at hl 2 rfl) ?_
  refine lv_if_lt (tgt := 24) hx hb dX7_copyText_2 (by decide) (fun k1 => absurd k1 (by decide)) (fun _ => ?_)
  refine lv_iload_n hx hb dX7_copyText_5 rfl (lv_at hl 2 rfl) ?_
  refine lv_aload_n hx hb dX7_copyText_6 rfl (lv_at hl 1 rfl) ?_
  refine va_alen (D := (dC, dI)) (v := 4000) hx hb hK hP 1 0 rfl rfl (by decide) dX7_copyText_7 ?_
  refine lv_icmp_gt (tgt := 24) hx hb dX7_copyText_8 (by decide) (fun k2 => absurd k2 (by decide)) (fun _ => ?_)
  refine lv_iload_n hx hb dX7_copyText_11 rfl (lv_at hl 2 rfl) ?_
  refine lv_aload_n hx hb dX7_copyText_12 rfl (lv_at hl 0 rfl) ?_
  refine va_get (D := (dC, dI)) (ci := 10) (v := .ref a2_) (C := RX7) (T := TX7) (N := 13) hx hb ht itX7 hown hK hP 0 rfl rfl 0 (by decide) (ht _ tw_4) (fun _ h9 => h9) rfl dX7_copyText_13 ?_
  refine va_alen (D := (dC, dI)) (v := 4000) hx hb hK hP 2 0 rfl rfl (by decide) dX7_copyText_16 ?_
  refine lv_icmp_gt (tgt := 24) hx hb dX7_copyText_17 (by decide) (fun k3 => absurd k3 (by decide)) (fun _ => ?_)
  refine lv_iload_n hx hb dX7_copyText_20 rfl (lv_at hl 2 rfl) ?_
  refine lv_goto (tgt := 25) hx hb dX7_copyText_21 (by decide) ?_
  refine va_put (D := (dC, dI)) (ci := 10) (v := .int 0) (ty := .int) (C := RX7) (T := TX7) (N := 13) hx hb ht itX7 tyX7 tyX7_ok nmX7 hown hK hP hD hS 0 rfl rfl 1 (by decide) (ht _ tw_158) (fun _ h9 => h9) rfl (by decide +kernel) rfl rfl (Nat.le_of_ble_eq_true rfl) dX7_copyText_25 (fun H locs hP hD hS => ?_)
  have hP : va_P (dC, dI) vwCl [(a0_, .inr (10, [.ref a2_, .int 0, .ref a3_, .int 0, .ref a4_, .int 0, .ref a5_, .ref a6_, .ref a7_, .int 0, .ref a8_, .int 0, .int 0])), (a1_, .inl (cI, 4000, .inl (fun _ => 0))), (a2_, .inl (cI, 4000, .inl (fun _ => 0)))] H := hP
  have hD : va_D A [(a0_, .inr (10, [.ref a2_, .int 0, .ref a3_, .int 0, .ref a4_, .int 0, .ref a5_, .ref a6_, .ref a7_, .int 0, .ref a8_, .int 0, .int 0])), (a1_, .inl (cI, 4000, .inl (fun _ => 0))), (a2_, .inl (cI, 4000, .inl (fun _ => 0)))] := hD
  refine lv_aload_n hx hb dX7_copyText_28 rfl (lv_at hl 1 rfl) ?_
  refine lv_iconst (v := 0) hx hb dX7_copyText_29 (by decide) ?_
  refine lv_aload_n hx hb dX7_copyText_30 rfl (lv_at hl 0 rfl) ?_
  refine va_get (D := (dC, dI)) (ci := 10) (v := .ref a2_) (C := RX7) (T := TX7) (N := 13) hx hb ht itX7 hown hK hP 0 rfl rfl 0 (by decide) (ht _ tw_4) (fun _ h9 => h9) rfl dX7_copyText_31 ?_
  refine lv_iconst (v := 0) hx hb dX7_copyText_34 (by decide) ?_
  refine lv_aload_n hx hb dX7_copyText_35 rfl (lv_at hl 0 rfl) ?_
  refine va_get (D := (dC, dI)) (ci := 10) (v := .int 0) (C := RX7) (T := TX7) (N := 13) hx hb ht itX7 hown hK hP 0 rfl rfl 1 (by decide) (ht _ tw_158) (fun _ h9 => h9) rfl dX7_copyText_36 ?_
  refine va_copyi (D := (dC, dI)) (ty := .int) hx hb (by rw [hml]; exact hl.1.symm) hown (ht _ tw_314) (ht _ tw_315) (ht _ tw_316) (ht _ tw_317) hK hP hD hS 1 2 0 0 rfl rfl rfl rfl rfl (by decide) (by decide) (by decide) (Nat.le_of_ble_eq_true rfl) (Nat.le_of_ble_eq_true rfl) (fun i h => absurd h (Nat.not_lt_zero i)) (Nat.le_of_ble_eq_true rfl) (Nat.le_of_ble_eq_true rfl) dX7_copyText_39 (fun H locs hP hD hS => ?_)
  have hP : va_P (dC, dI) vwCl [(a0_, .inr (10, [.ref a2_, .int 0, .ref a3_, .int 0, .ref a4_, .int 0, .ref a5_, .ref a6_, .ref a7_, .int 0, .ref a8_, .int 0, .int 0])), (a1_, .inl (cI, 4000, .inl (fun _ => 0))), (a2_, .inl (cI, 4000, .inl (va_cpy (fun _ => 0) (fun _ => 0) 0 0 0)))] H := hP
  have hD : va_D A [(a0_, .inr (10, [.ref a2_, .int 0, .ref a3_, .int 0, .ref a4_, .int 0, .ref a5_, .ref a6_, .ref a7_, .int 0, .ref a8_, .int 0, .int 0])), (a1_, .inl (cI, 4000, .inl (fun _ => 0))), (a2_, .inl (cI, 4000, .inl (va_cpy (fun _ => 0) (fun _ => 0) 0 0 0)))] := hD
  have hP9 := hP.sub (ws' := [(a0_, .inr (10, [.ref a2_, .int 0, .ref a3_, .int 0, .ref a4_, .int 0, .ref a5_, .ref a6_, .ref a7_, .int 0, .ref a8_, .int 0, .int 0])), (a1_, .inl (cI, 4000, .inl (fun _ => 0))), (a2_, .inl (cI, 4000, .inl (va_cpy (fun _ => 0) (fun _ => 0) 0 0 0)))]) [0, 1, 2] rfl
  have hD9 := hD.sub (ws' := [(a0_, .inr (10, [.ref a2_, .int 0, .ref a3_, .int 0, .ref a4_, .int 0, .ref a5_, .ref a6_, .ref a7_, .int 0, .ref a8_, .int 0, .int 0])), (a1_, .inl (cI, 4000, .inl (fun _ => 0))), (a2_, .inl (cI, 4000, .inl (va_cpy (fun _ => 0) (fun _ => 0) 0 0 0)))]) [0, 1, 2] (by decide) rfl
  refine W.widen (k := 0) (n := 0) (by omega) (by omega) ?_
  exact W.vret hx hb hr (fun t ht9 hW => ⟨⟨(), rfl, trivial, by rw [ht9]; exact hP9, hD9⟩, hS.F ht9⟩) hS.2.2 dX7_copyText_42
set_option maxHeartbeats 4000000 in
set_option maxRecDepth 100000 in
theorem c_X9_add_2 (l : Launch) (dC : Nat → ClassId) (dI : Nat → Nat → Nat) (cI cB cZ cJ cR : ClassId) (tb : Nat → Nat) (sz : Nat) (a0_ : Nat) (a1_ : Nat) (a2_ : Nat) (a3_ : Nat) (a4_ : Nat)  : Met l yX9_add (Cond.code yX9_add cX9_add 5 (some .int) :: tw_W) ({ frames := 0, cells := 0, slots := 0, locals := 0 }) (pc_ (dC, dI) (tyS cI cB cZ cJ cR) tb [(a0_, .inr (12, [.ref a1_, .ref a2_, .ref a3_, .ref a4_, .int 0, .int 0, .int 0, .int (-1), .int 0, .int (-1)])), (a2_, .inl (cI, 1503, .inl (upd (fun _ => 0) 0 0))), (a3_, .inl (cI, 1503, .inl (upd (fun _ => 0) 0 0))), (a4_, .inl (cI, 1503, .inl (upd (fun _ => 0) 0 0)))] sz [.ref a0_, .int 0, .int 0, .int 0, .int 0]) (qi_ (dC, dI) [(a0_, .inr (12, [.ref a1_, .ref a2_, .ref a3_, .ref a4_, .int 0, .int 0, .int 0, .int (-1), .int 0, .int (-1)])), (a2_, .inl (cI, 1503, .inl (upd (fun _ => 0) 0 0))), (a3_, .inl (cI, 1503, .inl (upd (fun _ => 0) 0 0))), (a4_, .inl (cI, 1503, .inl (upd (fun _ => 0) 0 0)))] sz (fun (r : Int32) (u : Unit) => r = 0) (fun (u : Unit) => [(a0_, .inr (12, [.ref a1_, .ref a2_, .ref a3_, .ref a4_, .int 1, .int 0, .int 0, .int (-1), .int 0, .int (-1)])), (a2_, .inl (cI, 1503, .inl (upd (upd (fun _ => 0) 0 0) 0 0))), (a3_, .inl (cI, 1503, .inl (upd (upd (fun _ => 0) 0 0) 0 0))), (a4_, .inl (cI, 1503, .inl (upd (upd (fun _ => 0) 0 0) 0 0)))])) 0 0 (va_A [(a0_, .inr (12, [.ref a1_, .ref a2_, .ref a3_, .ref a4_, .int 0, .int 0, .int 0, .int (-1), .int 0, .int (-1)])), (a2_, .inl (cI, 1503, .inl (upd (fun _ => 0) 0 0))), (a3_, .inl (cI, 1503, .inl (upd (fun _ => 0) 0 0))), (a4_, .inl (cI, 1503, .inl (upd (fun _ => 0) 0 0)))] sz) := by
  refine Met.ofW (cc := cX9_add) (maxL := 5) (ret := (some .int)) (by decide) rfl ?_
  intro p e s m args below meth c s₁ B hml hv
  obtain ⟨rfl, hsz, hP, hKK, hD0, hFx⟩ := hv
  have hK := hKK.1
  have hx := B.exec
  have hb := B.bytes
  have hr := B.returns
  have ht : ∀ w ∈ tw_W, w.before _ s = true := fun w h => atoms_spec (ws := Cond.code yX9_add cX9_add 5 (some .int) :: tw_W) B.pre w (List.mem_cons_of_mem _ h)
  have hown : s.vm.findClass RX9 = some m.cls := findClass_of_methodNamed B.named
  have hlocks := B.notSynchronized
  subst hsz
  unfold qi_
  have hD := hD0.self (sz := s.heap.size)
  generalize hAe : va_A [(a0_, .inr (12, [.ref a1_, .ref a2_, .ref a3_, .ref a4_, .int 0, .int 0, .int 0, .int (-1), .int 0, .int (-1)])), (a2_, .inl (cI, 1503, .inl (upd (fun _ => 0) 0 0))), (a3_, .inl (cI, 1503, .inl (upd (fun _ => 0) 0 0))), (a4_, .inl (cI, 1503, .inl (upd (fun _ => 0) 0 0)))] s.heap.size = A at hD hFx ⊢
  have hA : ∀ q : Nat, s.heap.size ≤ q → A q := fun q h => by rw [← hAe]; exact Or.inr h
  have hS : va_S A s.heap s.heap [] := va_S.rf
  have hP : va_P (dC, dI) vwCl [(a0_, .inr (12, [.ref a1_, .ref a2_, .ref a3_, .ref a4_, .int 0, .int 0, .int 0, .int (-1), .int 0, .int (-1)])), (a2_, .inl (cI, 1503, .inl (upd (fun _ => 0) 0 0))), (a3_, .inl (cI, 1503, .inl (upd (fun _ => 0) 0 0))), (a4_, .inl (cI, 1503, .inl (upd (fun _ => 0) 0 0)))] s.heap := hP
  have hl := lv_entry ([.ref a0_, .int 0, .int 0, .int 0, .int 0]) (n := 5) (Nat.le_of_ble_eq_true rfl)
  rw [lg_entry_eq]
  generalize (lg_sl ([.ref a0_, .int 0, .int 0, .int 0, .int 0]) ++ List.replicate (5 - (lg_sl ([.ref a0_, .int 0, .int 0, .int 0, .int 0])).length) Slot.unset).toArray = ls at hl ⊢
  have hl : lv_has ls 5 [(0, .ref a0_), (1, .int 0), (2, .int 0), (3, .int 0), (4, .int 0)] := hl
  refine lv_aload_n hx hb dX9_add_0 rfl (lv_at hl 0 rfl) ?_
  refine va_get (D := (dC, dI)) (ci := 12) (v := .int 0) (C := RX9) (T := TX9) (N := 10) hx hb ht itX9 hown hK hP 0 rfl rfl 4 (by decide) (ht _ tw_149) (fun _ h9 => h9) rfl dX9_add_1 ?_
  refine lv_sipush (v := 1503) hx hb dX9_add_4 (by decide) ?_
  refine lv_icmp_ge (tgt := 50) hx hb dX9_add_7 (by decide) (fun k1 => absurd k1 (by decide)) (fun _ => ?_)
  refine lv_aload_n hx hb dX9_add_10 rfl (lv_at hl 0 rfl) ?_
  refine va_get (D := (dC, dI)) (ci := 12) (v := .ref a2_) (C := RX9) (T := TX9) (N := 10) hx hb ht itX9 hown hK hP 0 rfl rfl 1 (by decide) (ht _ tw_48) (fun _ h9 => h9) rfl dX9_add_11 ?_
  refine lv_aload_n hx hb dX9_add_14 rfl (lv_at hl 0 rfl) ?_
  refine va_get (D := (dC, dI)) (ci := 12) (v := .int 0) (C := RX9) (T := TX9) (N := 10) hx hb ht itX9 hown hK hP 0 rfl rfl 4 (by decide) (ht _ tw_149) (fun _ h9 => h9) rfl dX9_add_15 ?_
  refine lv_iload_n hx hb dX9_add_18 rfl (lv_at hl 1 rfl) ?_
  refine va_iast (D := (dC, dI)) hx hb hK hP hD hS 1 0 rfl rfl (vp_in_iff.mpr (by decide)) dX9_add_19 (fun H locs hP hD hS => ?_)
  have hP : va_P (dC, dI) vwCl [(a0_, .inr (12, [.ref a1_, .ref a2_, .ref a3_, .ref a4_, .int 0, .int 0, .int 0, .int (-1), .int 0, .int (-1)])), (a2_, .inl (cI, 1503, .inl (upd (upd (fun _ => 0) 0 0) 0 0))), (a3_, .inl (cI, 1503, .inl (upd (fun _ => 0) 0 0))), (a4_, .inl (cI, 1503, .inl (upd (fun _ => 0) 0 0)))] H := hP
  have hD : va_D A [(a0_, .inr (12, [.ref a1_, .ref a2_, .ref a3_, .ref a4_, .int 0, .int 0, .int 0, .int (-1), .int 0, .int (-1)])), (a2_, .inl (cI, 1503, .inl (upd (upd (fun _ => 0) 0 0) 0 0))), (a3_, .inl (cI, 1503, .inl (upd (fun _ => 0) 0 0))), (a4_, .inl (cI, 1503, .inl (upd (fun _ => 0) 0 0)))] := hD
  refine lv_aload_n hx hb dX9_add_20 rfl (lv_at hl 0 rfl) ?_
  refine va_get (D := (dC, dI)) (ci := 12) (v := .ref a3_) (C := RX9) (T := TX9) (N := 10) hx hb ht itX9 hown hK hP 0 rfl rfl 2 (by decide) (ht _ tw_49) (fun _ h9 => h9) rfl dX9_add_21 ?_
  refine lv_aload_n hx hb dX9_add_24 rfl (lv_at hl 0 rfl) ?_
  refine va_get (D := (dC, dI)) (ci := 12) (v := .int 0) (C := RX9) (T := TX9) (N := 10) hx hb ht itX9 hown hK hP 0 rfl rfl 4 (by decide) (ht _ tw_149) (fun _ h9 => h9) rfl dX9_add_25 ?_
  refine lv_iload_n hx hb dX9_add_28 rfl (lv_at hl 2 rfl) ?_
  refine va_iast (D := (dC, dI)) hx hb hK hP hD hS 2 0 rfl rfl (vp_in_iff.mpr (by decide)) dX9_add_29 (fun H locs hP hD hS => ?_)
  have hP : va_P (dC, dI) vwCl [(a0_, .inr (12, [.ref a1_, .ref a2_, .ref a3_, .ref a4_, .int 0, .int 0, .int 0, .int (-1), .int 0, .int (-1)])), (a2_, .inl (cI, 1503, .inl (upd (upd (fun _ => 0) 0 0) 0 0))), (a3_, .inl (cI, 1503, .inl (upd (upd (fun _ => 0) 0 0) 0 0))), (a4_, .inl (cI, 1503, .inl (upd (fun _ => 0) 0 0)))] H := hP
  have hD : va_D A [(a0_, .inr (12, [.ref a1_, .ref a2_, .ref a3_, .ref a4_, .int 0, .int 0, .int 0, .int (-1), .int 0, .int (-1)])), (a2_, .inl (cI, 1503, .inl (upd (upd (fun _ => 0) 0 0) 0 0))), (a3_, .inl (cI, 1503, .inl (upd (upd (fun _ => 0) 0 0) 0 0))), (a4_, .inl (cI, 1503, .inl (upd (fun _ => 0) 0 0)))] := hD
  refine lv_aload_n hx hb dX9_add_30 rfl (lv_at hl 0 rfl) ?_
  refine va_get (D := (dC, dI)) (ci := 12) (v := .ref a4_) (C := RX9) (T := TX9) (N := 10) hx hb ht itX9 hown hK hP 0 rfl rfl 3 (by decide) (ht _ tw_50) (fun _ h9 => h9) rfl dX9_add_31 ?_
  refine lv_aload_n hx hb dX9_add_34 rfl (lv_at hl 0 rfl) ?_
  refine va_get (D := (dC, dI)) (ci := 12) (v := .int 0) (C := RX9) (T := TX9) (N := 10) hx hb ht itX9 hown hK hP 0 rfl rfl 4 (by decide) (ht _ tw_149) (fun _ h9 => h9) rfl dX9_add_35 ?_
  refine lv_iload_n hx hb dX9_add_38 rfl (lv_at hl 3 rfl) ?_
  refine va_iast (D := (dC, dI)) hx hb hK hP hD hS 3 0 rfl rfl (vp_in_iff.mpr (by decide)) dX9_add_39 (fun H locs hP hD hS => ?_)
  have hP : va_P (dC, dI) vwCl [(a0_, .inr (12, [.ref a1_, .ref a2_, .ref a3_, .ref a4_, .int 0, .int 0, .int 0, .int (-1), .int 0, .int (-1)])), (a2_, .inl (cI, 1503, .inl (upd (upd (fun _ => 0) 0 0) 0 0))), (a3_, .inl (cI, 1503, .inl (upd (upd (fun _ => 0) 0 0) 0 0))), (a4_, .inl (cI, 1503, .inl (upd (upd (fun _ => 0) 0 0) 0 0)))] H := hP
  have hD : va_D A [(a0_, .inr (12, [.ref a1_, .ref a2_, .ref a3_, .ref a4_, .int 0, .int 0, .int 0, .int (-1), .int 0, .int (-1)])), (a2_, .inl (cI, 1503, .inl (upd (upd (fun _ => 0) 0 0) 0 0))), (a3_, .inl (cI, 1503, .inl (upd (upd (fun _ => 0) 0 0) 0 0))), (a4_, .inl (cI, 1503, .inl (upd (upd (fun _ => 0) 0 0) 0 0)))] := hD
  refine lv_aload_n hx hb dX9_add_40 rfl (lv_at hl 0 rfl) ?_
  refine lv_dup hx hb dX9_add_41 rfl ?_
  refine va_get (D := (dC, dI)) (ci := 12) (v := .int 0) (C := RX9) (T := TX9) (N := 10) hx hb ht itX9 hown hK hP 0 rfl rfl 4 (by decide) (ht _ tw_149) (fun _ h9 => h9) rfl dX9_add_42 ?_
  refine lv_iconst (v := 1) hx hb dX9_add_45 (by decide) ?_
  refine lv_iadd hx hb dX9_add_46 ?_
  refine tp_i (y := 1) (by decide) ?_
  refine va_put (D := (dC, dI)) (ci := 12) (v := .int 1) (ty := .int) (C := RX9) (T := TX9) (N := 10) hx hb ht itX9 tyX9 tyX9_ok nmX9 hown hK hP hD hS 0 rfl rfl 4 (by decide) (ht _ tw_149) (fun _ h9 => h9) rfl (by decide +kernel) rfl rfl (Nat.le_of_ble_eq_true rfl) dX9_add_47 (fun H locs hP hD hS => ?_)
  have hP : va_P (dC, dI) vwCl [(a0_, .inr (12, [.ref a1_, .ref a2_, .ref a3_, .ref a4_, .int 1, .int 0, .int 0, .int (-1), .int 0, .int (-1)])), (a2_, .inl (cI, 1503, .inl (upd (upd (fun _ => 0) 0 0) 0 0))), (a3_, .inl (cI, 1503, .inl (upd (upd (fun _ => 0) 0 0) 0 0))), (a4_, .inl (cI, 1503, .inl (upd (upd (fun _ => 0) 0 0) 0 0)))] H := hP
  have hD : va_D A [(a0_, .inr (12, [.ref a1_, .ref a2_, .ref a3_, .ref a4_, .int 1, .int 0, .int 0, .int (-1), .int 0, .int (-1)])), (a2_, .inl (cI, 1503, .inl (upd (upd (fun _ => 0) 0 0) 0 0))), (a3_, .inl (cI, 1503, .inl (upd (upd (fun _ => 0) 0 0) 0 0))), (a4_, .inl (cI, 1503, .inl (upd (upd (fun _ => 0) 0 0) 0 0)))] := hD
  refine lv_iload_n hx hb dX9_add_50 rfl (lv_at hl 2 rfl) ?_
  refine lv_iload hx hb dX9_add_51 (lv_at hl 4 rfl) ?_
  refine lv_iadd hx hb dX9_add_53 ?_
  refine tp_i (y := 0) (by decide) ?_
  have hP9 := hP.sub (ws' := [(a0_, .inr (12, [.ref a1_, .ref a2_, .ref a3_, .ref a4_, .int 1, .int 0, .int 0, .int (-1), .int 0, .int (-1)])), (a2_, .inl (cI, 1503, .inl (upd (upd (fun _ => 0) 0 0) 0 0))), (a3_, .inl (cI, 1503, .inl (upd (upd (fun _ => 0) 0 0) 0 0))), (a4_, .inl (cI, 1503, .inl (upd (upd (fun _ => 0) 0 0) 0 0)))]) [0, 1, 2, 3] rfl
  have hD9 := hD.sub (ws' := [(a0_, .inr (12, [.ref a1_, .ref a2_, .ref a3_, .ref a4_, .int 1, .int 0, .int 0, .int (-1), .int 0, .int (-1)])), (a2_, .inl (cI, 1503, .inl (upd (upd (fun _ => 0) 0 0) 0 0))), (a3_, .inl (cI, 1503, .inl (upd (upd (fun _ => 0) 0 0) 0 0))), (a4_, .inl (cI, 1503, .inl (upd (upd (fun _ => 0) 0 0) 0 0)))]) [0, 1, 2, 3] (by decide) rfl
  refine W.widen (k := 0) (n := 0) (by omega) (by omega) ?_
  exact W.iret (v := 0) hx hb hr (fun t ht9 hW => ⟨⟨0, (), rfl, rfl, by rw [ht9]; exact hP9, hD9⟩, hS.F ht9⟩) hS.2.2 dX9_add_54
set_option maxHeartbeats 4000000 in
set_option maxRecDepth 100000 in
theorem c_X9_scanOne_2 (l : Launch) (dC : Nat → ClassId) (dI : Nat → Nat → Nat) (cI cB cZ cJ cR : ClassId) (tb : Nat → Nat) (sz : Nat) (a0_ : Nat) (a1_ : Nat) (a2_ : Nat) (a3_ : Nat) (a4_ : Nat) (a5_ : Nat) (a6_ : Nat) (a7_ : Nat) (a8_ : Nat) (a9_ : Nat) (a10_ : Nat) (a11_ : Nat)  : Met l yX9_scanOne (Cond.code yX9_scanOne cX9_scanOne 3 (some .int) :: tw_W) ({ frames := 1, cells := 0, slots := 0, locals := 24 }) (pc_ (dC, dI) (tyS cI cB cZ cJ cR) tb [(a0_, .inr (12, [.ref a1_, .ref a2_, .ref a3_, .ref a4_, .int 0, .int 0, .int 0, .int (-1), .int 0, .int (-1)])), (a2_, .inl (cI, 1503, .inl (upd (fun _ => 0) 0 0))), (a3_, .inl (cI, 1503, .inl (upd (fun _ => 0) 0 0))), (a4_, .inl (cI, 1503, .inl (upd (fun _ => 0) 0 0))), (a1_, .inr (10, [.ref a5_, .int 0, .ref a6_, .int 0, .ref a7_, .int 0, .ref a8_, .ref a9_, .ref a10_, .int 0, .ref a11_, .int 0, .int 0]))] sz [.ref a0_, .int 0]) (qi_ (dC, dI) [(a0_, .inr (12, [.ref a1_, .ref a2_, .ref a3_, .ref a4_, .int 0, .int 0, .int 0, .int (-1), .int 0, .int (-1)])), (a2_, .inl (cI, 1503, .inl (upd (fun _ => 0) 0 0))), (a3_, .inl (cI, 1503, .inl (upd (fun _ => 0) 0 0))), (a4_, .inl (cI, 1503, .inl (upd (fun _ => 0) 0 0))), (a1_, .inr (10, [.ref a5_, .int 0, .ref a6_, .int 0, .ref a7_, .int 0, .ref a8_, .ref a9_, .ref a10_, .int 0, .ref a11_, .int 0, .int 0]))] sz (fun (r : Int32) (u : Unit) => r = 0) (fun (u : Unit) => [(a0_, .inr (12, [.ref a1_, .ref a2_, .ref a3_, .ref a4_, .int 1, .int 0, .int 0, .int (-1), .int 0, .int (-1)])), (a2_, .inl (cI, 1503, .inl (upd (upd (fun _ => 0) 0 0) 0 0))), (a3_, .inl (cI, 1503, .inl (upd (upd (fun _ => 0) 0 0) 0 0))), (a4_, .inl (cI, 1503, .inl (upd (upd (fun _ => 0) 0 0) 0 0))), (a1_, .inr (10, [.ref a5_, .int 0, .ref a6_, .int 0, .ref a7_, .int 0, .ref a8_, .ref a9_, .ref a10_, .int 0, .ref a11_, .int 0, .int 0]))])) 0 0 (va_A [(a0_, .inr (12, [.ref a1_, .ref a2_, .ref a3_, .ref a4_, .int 0, .int 0, .int 0, .int (-1), .int 0, .int (-1)])), (a2_, .inl (cI, 1503, .inl (upd (fun _ => 0) 0 0))), (a3_, .inl (cI, 1503, .inl (upd (fun _ => 0) 0 0))), (a4_, .inl (cI, 1503, .inl (upd (fun _ => 0) 0 0))), (a1_, .inr (10, [.ref a5_, .int 0, .ref a6_, .int 0, .ref a7_, .int 0, .ref a8_, .ref a9_, .ref a10_, .int 0, .ref a11_, .int 0, .int 0]))] sz) := by
  refine Met.ofW (cc := cX9_scanOne) (maxL := 3) (ret := (some .int)) (by decide) rfl ?_
  intro p e s m args below meth c s₁ B hml hv
  obtain ⟨rfl, hsz, hP, hKK, hD0, hFx⟩ := hv
  have hK := hKK.1
  have hx := B.exec
  have hb := B.bytes
  have hr := B.returns
  have ht : ∀ w ∈ tw_W, w.before _ s = true := fun w h => atoms_spec (ws := Cond.code yX9_scanOne cX9_scanOne 3 (some .int) :: tw_W) B.pre w (List.mem_cons_of_mem _ h)
  have hown : s.vm.findClass RX9 = some m.cls := findClass_of_methodNamed B.named
  have hlocks := B.notSynchronized
  subst hsz
  unfold qi_
  have hD := hD0.self (sz := s.heap.size)
  generalize hAe : va_A [(a0_, .inr (12, [.ref a1_, .ref a2_, .ref a3_, .ref a4_, .int 0, .int 0, .int 0, .int (-1), .int 0, .int (-1)])), (a2_, .inl (cI, 1503, .inl (upd (fun _ => 0) 0 0))), (a3_, .inl (cI, 1503, .inl (upd (fun _ => 0) 0 0))), (a4_, .inl (cI, 1503, .inl (upd (fun _ => 0) 0 0))), (a1_, .inr (10, [.ref a5_, .int 0, .ref a6_, .int 0, .ref a7_, .int 0, .ref a8_, .ref a9_, .ref a10_, .int 0, .ref a11_, .int 0, .int 0]))] s.heap.size = A at hD hFx ⊢
  have hA : ∀ q : Nat, s.heap.size ≤ q → A q := fun q h => by rw [← hAe]; exact Or.inr h
  have hS : va_S A s.heap s.heap [] := va_S.rf
  have hP : va_P (dC, dI) vwCl [(a0_, .inr (12, [.ref a1_, .ref a2_, .ref a3_, .ref a4_, .int 0, .int 0, .int 0, .int (-1), .int 0, .int (-1)])), (a2_, .inl (cI, 1503, .inl (upd (fun _ => 0) 0 0))), (a3_, .inl (cI, 1503, .inl (upd (fun _ => 0) 0 0))), (a4_, .inl (cI, 1503, .inl (upd (fun _ => 0) 0 0))), (a1_, .inr (10, [.ref a5_, .int 0, .ref a6_, .int 0, .ref a7_, .int 0, .ref a8_, .ref a9_, .ref a10_, .int 0, .ref a11_, .int 0, .int 0]))] s.heap := hP
  have hl := lv_entry ([.ref a0_, .int 0]) (n := 3) (Nat.le_of_ble_eq_true rfl)
  rw [lg_entry_eq]
  generalize (lg_sl ([.ref a0_, .int 0]) ++ List.replicate (3 - (lg_sl ([.ref a0_, .int 0])).length) Slot.unset).toArray = ls at hl ⊢
  have hl : lv_has ls 3 [(0, .ref a0_), (1, .int 0)] := hl
  refine lv_aload_n hx hb dX9_scanOne_0 rfl (lv_at hl 0 rfl) ?_
  refine va_get (D := (dC, dI)) (ci := 12) (v := .ref a1_) (C := RX9) (T := TX9) (N := 10) hx hb ht itX9 hown hK hP 0 rfl rfl 0 (by decide) (ht _ tw_51) (fun _ h9 => h9) rfl dX9_scanOne_1 ?_
  refine lv_iload_n hx hb dX9_scanOne_4 rfl (lv_at hl 1 rfl) ?_
  refine ca_i (wr := [(a0_, .inr (12, [.ref a1_, .ref a2_, .ref a3_, .ref a4_, .int 0, .int 0, .int 0, .int (-1), .int 0, .int (-1)])), (a2_, .inl (cI, 1503, .inl (upd (fun _ => 0) 0 0))), (a3_, .inl (cI, 1503, .inl (upd (fun _ => 0) 0 0))), (a4_, .inl (cI, 1503, .inl (upd (fun _ => 0) 0 0)))]) (rn_V (n := 1) (As := [.int 0]) (rest := []) hx hb hml hown ht hKK hFx hP hD hS hA (c_X7_byteAt l dC dI cI cB cZ cJ cR tb s.heap.size a1_ a5_ a6_ a7_ a8_ a9_ a10_ a11_) tw_159 tw_160 (by decide +kernel) rfl rfl ⟨Nat.le_of_ble_eq_true rfl, Nat.le_of_ble_eq_true rfl⟩ [4] rfl (by decide) rfl rfl rfl rfl hl.1 rfl (Nat.le_of_ble_eq_true rfl) dX9_scanOne_5 ⟨Nat.le_of_ble_eq_true rfl, Nat.le_of_ble_eq_true rfl⟩) hP hD hS hA (isC := [4]) (isR := [0, 1, 2, 3]) rfl rfl (by decide) (by decide) (fun r2 u H locs hw1 hP hD hS => ?_)
  subst hw1
  have hP : va_P (dC, dI) vwCl [(a0_, .inr (12, [.ref a1_, .ref a2_, .ref a3_, .ref a4_, .int 0, .int 0, .int 0, .int (-1), .int 0, .int (-1)])), (a2_, .inl (cI, 1503, .inl (upd (fun _ => 0) 0 0))), (a3_, .inl (cI, 1503, .inl (upd (fun _ => 0) 0 0))), (a4_, .inl (cI, 1503, .inl (upd (fun _ => 0) 0 0))), (a1_, .inr (10, [.ref a5_, .int 0, .ref a6_, .int 0, .ref a7_, .int 0, .ref a8_, .ref a9_, .ref a10_, .int 0, .ref a11_, .int 0, .int 0]))] H := hP
  have hD : va_D A [(a0_, .inr (12, [.ref a1_, .ref a2_, .ref a3_, .ref a4_, .int 0, .int 0, .int 0, .int (-1), .int 0, .int (-1)])), (a2_, .inl (cI, 1503, .inl (upd (fun _ => 0) 0 0))), (a3_, .inl (cI, 1503, .inl (upd (fun _ => 0) 0 0))), (a4_, .inl (cI, 1503, .inl (upd (fun _ => 0) 0 0))), (a1_, .inr (10, [.ref a5_, .int 0, .ref a6_, .int 0, .ref a7_, .int 0, .ref a8_, .ref a9_, .ref a10_, .int 0, .ref a11_, .int 0, .int 0]))] := hD
  refine W.widen (k := 0) (n := 0) (by omega) (by omega) ?_
  refine lv_istore_n (lv' := [(2, .int (-1)), (0, .ref a0_), (1, .int 0)]) hx hb dX9_scanOne_8 rfl hl (by decide) rfl (fun ls hl => ?_)
  refine lv_iload_n hx hb dX9_scanOne_9 rfl (lv_at hl 0 rfl) ?_
  refine lv_iconst (v := -1) hx hb dX9_scanOne_10 (by decide) ?_
  refine lv_icmp_ne (tgt := 23) hx hb dX9_scanOne_11 (by decide) (fun k3 => absurd k3 (by decide)) (fun _ => ?_)
  refine lv_aload_n hx hb dX9_scanOne_14 rfl (lv_at hl 1 rfl) ?_
  refine lv_iconst (v := 0) hx hb dX9_scanOne_15 (by decide) ?_
  refine lv_iload_n hx hb dX9_scanOne_16 rfl (lv_at hl 2 rfl) ?_
  refine lv_iconst (v := 0) hx hb dX9_scanOne_17 (by decide) ?_
  refine lv_iconst (v := 0) hx hb dX9_scanOne_18 (by decide) ?_
  refine ca_i (wr := [(a1_, .inr (10, [.ref a5_, .int 0, .ref a6_, .int 0, .ref a7_, .int 0, .ref a8_, .ref a9_, .ref a10_, .int 0, .ref a11_, .int 0, .int 0]))]) (rn_V (n := 4) (As := [.int 0, .int 0, .int 0, .int 0]) (rest := []) hx hb hml hown ht hKK hFx hP hD hS hA (c_X9_add_2 l dC dI cI cB cZ cJ cR tb H.size a0_ a1_ a2_ a3_ a4_) tw_161 tw_162 (by decide +kernel) rfl rfl ⟨Nat.le_of_ble_eq_true rfl, Nat.le_of_ble_eq_true rfl⟩ [0, 1, 2, 3] rfl (by decide) rfl rfl rfl rfl hl.1 rfl (Nat.le_of_ble_eq_true rfl) dX9_scanOne_19 ⟨Nat.le_of_ble_eq_true rfl, Nat.le_of_ble_eq_true rfl⟩) hP hD hS hA (isC := [0, 1, 2, 3]) (isR := [4]) rfl rfl (by decide) (by decide) (fun r5 u H locs hw4 hP hD hS => ?_)
  subst hw4
  have hP : va_P (dC, dI) vwCl [(a1_, .inr (10, [.ref a5_, .int 0, .ref a6_, .int 0, .ref a7_, .int 0, .ref a8_, .ref a9_, .ref a10_, .int 0, .ref a11_, .int 0, .int 0])), (a0_, .inr (12, [.ref a1_, .ref a2_, .ref a3_, .ref a4_, .int 1, .int 0, .int 0, .int (-1), .int 0, .int (-1)])), (a2_, .inl (cI, 1503, .inl (upd (upd (fun _ => 0) 0 0) 0 0))), (a3_, .inl (cI, 1503, .inl (upd (upd (fun _ => 0) 0 0) 0 0))), (a4_, .inl (cI, 1503, .inl (upd (upd (fun _ => 0) 0 0) 0 0)))] H := hP
  have hD : va_D A [(a1_, .inr (10, [.ref a5_, .int 0, .ref a6_, .int 0, .ref a7_, .int 0, .ref a8_, .ref a9_, .ref a10_, .int 0, .ref a11_, .int 0, .int 0])), (a0_, .inr (12, [.ref a1_, .ref a2_, .ref a3_, .ref a4_, .int 1, .int 0, .int 0, .int (-1), .int 0, .int (-1)])), (a2_, .inl (cI, 1503, .inl (upd (upd (fun _ => 0) 0 0) 0 0))), (a3_, .inl (cI, 1503, .inl (upd (upd (fun _ => 0) 0 0) 0 0))), (a4_, .inl (cI, 1503, .inl (upd (upd (fun _ => 0) 0 0) 0 0)))] := hD
  refine W.widen (k := 0) (n := 0) (by omega) (by omega) ?_
  have hP9 := hP.sub (ws' := [(a0_, .inr (12, [.ref a1_, .ref a2_, .ref a3_, .ref a4_, .int 1, .int 0, .int 0, .int (-1), .int 0, .int (-1)])), (a2_, .inl (cI, 1503, .inl (upd (upd (fun _ => 0) 0 0) 0 0))), (a3_, .inl (cI, 1503, .inl (upd (upd (fun _ => 0) 0 0) 0 0))), (a4_, .inl (cI, 1503, .inl (upd (upd (fun _ => 0) 0 0) 0 0))), (a1_, .inr (10, [.ref a5_, .int 0, .ref a6_, .int 0, .ref a7_, .int 0, .ref a8_, .ref a9_, .ref a10_, .int 0, .ref a11_, .int 0, .int 0]))]) [1, 2, 3, 4, 0] rfl
  have hD9 := hD.sub (ws' := [(a0_, .inr (12, [.ref a1_, .ref a2_, .ref a3_, .ref a4_, .int 1, .int 0, .int 0, .int (-1), .int 0, .int (-1)])), (a2_, .inl (cI, 1503, .inl (upd (upd (fun _ => 0) 0 0) 0 0))), (a3_, .inl (cI, 1503, .inl (upd (upd (fun _ => 0) 0 0) 0 0))), (a4_, .inl (cI, 1503, .inl (upd (upd (fun _ => 0) 0 0) 0 0))), (a1_, .inr (10, [.ref a5_, .int 0, .ref a6_, .int 0, .ref a7_, .int 0, .ref a8_, .ref a9_, .ref a10_, .int 0, .ref a11_, .int 0, .int 0]))]) [1, 2, 3, 4, 0] (by decide) rfl
  refine W.widen (k := 0) (n := 0) (by omega) (by omega) ?_
  exact W.iret (v := 0) hx hb hr (fun t ht9 hW => ⟨⟨0, (), rfl, rfl, by rw [ht9]; exact hP9, hD9⟩, hS.F ht9⟩) hS.2.2 dX9_scanOne_22
set_option maxHeartbeats 4000000 in
set_option maxRecDepth 100000 in
theorem c_X9_scan_2 (l : Launch) (dC : Nat → ClassId) (dI : Nat → Nat → Nat) (cI cB cZ cJ cR : ClassId) (tb : Nat → Nat) (sz : Nat) (a0_ : Nat) (a1_ : Nat) (a2_ : Nat) (a3_ : Nat) (a4_ : Nat) (a5_ : Nat) (a6_ : Nat) (a7_ : Nat) (a8_ : Nat) (a9_ : Nat) (a10_ : Nat) (a11_ : Nat) (a12_ : Nat)  : Met l yX9_scan (Cond.code yX9_scan cX9_scan 4 none :: tw_W) ({ frames := 2, cells := 0, slots := 0, locals := 46 }) (pc_ (dC, dI) (tyS cI cB cZ cJ cR) tb [(a0_, .inr (12, [.ref a2_, .ref a3_, .ref a4_, .ref a5_, .int 1, .int 0, .int 0, .int (-1), .int 0, .int (-1)])), (a3_, .inl (cI, 1503, .inl (upd (fun _ => 0) 0 0))), (a4_, .inl (cI, 1503, .inl (upd (fun _ => 0) 0 0))), (a5_, .inl (cI, 1503, .inl (upd (fun _ => 0) 0 0))), (a1_, .inr (10, [.ref a6_, .int 0, .ref a7_, .int 0, .ref a8_, .int 0, .ref a9_, .ref a10_, .ref a11_, .int 0, .ref a12_, .int 0, .int 0]))] sz [.ref a0_, .ref a1_]) (qv_ (dC, dI) [(a0_, .inr (12, [.ref a2_, .ref a3_, .ref a4_, .ref a5_, .int 1, .int 0, .int 0, .int (-1), .int 0, .int (-1)])), (a3_, .inl (cI, 1503, .inl (upd (fun _ => 0) 0 0))), (a4_, .inl (cI, 1503, .inl (upd (fun _ => 0) 0 0))), (a5_, .inl (cI, 1503, .inl (upd (fun _ => 0) 0 0))), (a1_, .inr (10, [.ref a6_, .int 0, .ref a7_, .int 0, .ref a8_, .int 0, .ref a9_, .ref a10_, .ref a11_, .int 0, .ref a12_, .int 0, .int 0]))] sz (fun (u : Unit) => True) (fun (u : Unit) => [(a0_, .inr (12, [.ref a1_, .ref a3_, .ref a4_, .ref a5_, .int 1, .int 0, .int 0, .int (-1), .int 0, .int (-1)])), (a3_, .inl (cI, 1503, .inl (upd (upd (fun _ => 0) 0 0) 0 0))), (a4_, .inl (cI, 1503, .inl (upd (upd (fun _ => 0) 0 0) 0 0))), (a5_, .inl (cI, 1503, .inl (upd (upd (fun _ => 0) 0 0) 0 0))), (a1_, .inr (10, [.ref a6_, .int 0, .ref a7_, .int 0, .ref a8_, .int 0, .ref a9_, .ref a10_, .ref a11_, .int 0, .ref a12_, .int 0, .int 0]))])) 0 0 (va_A [(a0_, .inr (12, [.ref a2_, .ref a3_, .ref a4_, .ref a5_, .int 1, .int 0, .int 0, .int (-1), .int 0, .int (-1)])), (a3_, .inl (cI, 1503, .inl (upd (fun _ => 0) 0 0))), (a4_, .inl (cI, 1503, .inl (upd (fun _ => 0) 0 0))), (a5_, .inl (cI, 1503, .inl (upd (fun _ => 0) 0 0))), (a1_, .inr (10, [.ref a6_, .int 0, .ref a7_, .int 0, .ref a8_, .int 0, .ref a9_, .ref a10_, .ref a11_, .int 0, .ref a12_, .int 0, .int 0]))] sz) := by
  refine Met.ofW (cc := cX9_scan) (maxL := 4) (ret := none) (by decide) rfl ?_
  intro p e s m args below meth c s₁ B hml hv
  obtain ⟨rfl, hsz, hP, hKK, hD0, hFx⟩ := hv
  have hK := hKK.1
  have hx := B.exec
  have hb := B.bytes
  have hr := B.returns
  have ht : ∀ w ∈ tw_W, w.before _ s = true := fun w h => atoms_spec (ws := Cond.code yX9_scan cX9_scan 4 none :: tw_W) B.pre w (List.mem_cons_of_mem _ h)
  have hown : s.vm.findClass RX9 = some m.cls := findClass_of_methodNamed B.named
  have hlocks := B.notSynchronized
  subst hsz
  unfold qv_
  have hD := hD0.self (sz := s.heap.size)
  generalize hAe : va_A [(a0_, .inr (12, [.ref a2_, .ref a3_, .ref a4_, .ref a5_, .int 1, .int 0, .int 0, .int (-1), .int 0, .int (-1)])), (a3_, .inl (cI, 1503, .inl (upd (fun _ => 0) 0 0))), (a4_, .inl (cI, 1503, .inl (upd (fun _ => 0) 0 0))), (a5_, .inl (cI, 1503, .inl (upd (fun _ => 0) 0 0))), (a1_, .inr (10, [.ref a6_, .int 0, .ref a7_, .int 0, .ref a8_, .int 0, .ref a9_, .ref a10_, .ref a11_, .int 0, .ref a12_, .int 0, .int 0]))] s.heap.size = A at hD hFx ⊢
  have hA : ∀ q : Nat, s.heap.size ≤ q → A q := fun q h => by rw [← hAe]; exact Or.inr h
  have hS : va_S A s.heap s.heap [] := va_S.rf
  have hP : va_P (dC, dI) vwCl [(a0_, .inr (12, [.ref a2_, .ref a3_, .ref a4_, .ref a5_, .int 1, .int 0, .int 0, .int (-1), .int 0, .int (-1)])), (a3_, .inl (cI, 1503, .inl (upd (fun _ => 0) 0 0))), (a4_, .inl (cI, 1503, .inl (upd (fun _ => 0) 0 0))), (a5_, .inl (cI, 1503, .inl (upd (fun _ => 0) 0 0))), (a1_, .inr (10, [.ref a6_, .int 0, .ref a7_, .int 0, .ref a8_, .int 0, .ref a9_, .ref a10_, .ref a11_, .int 0, .ref a12_, .int 0, .int 0]))] s.heap := hP
  have hl := lv_entry ([.ref a0_, .ref a1_]) (n := 4) (Nat.le_of_ble_eq_true rfl)
  rw [lg_entry_eq]
  generalize (lg_sl ([.ref a0_, .ref a1_]) ++ List.replicate (4 - (lg_sl ([.ref a0_, .ref a1_])).length) Slot.unset).toArray = ls at hl ⊢
  have hl : lv_has ls 4 [(0, .ref a0_), (1, .ref a1_)] := hl
  refine lv_aload_n hx hb dX9_scan_0 rfl (lv_at hl 0 rfl) ?_
  refine lv_aload_n hx hb dX9_scan_1 rfl (lv_at hl 1 rfl) ?_
  refine va_put (D := (dC, dI)) (ci := 12) (v := .ref a1_) (ty := .object "PocketCompiler$Program") (C := RX9) (T := TX9) (N := 10) hx hb ht itX9 tyX9 tyX9_ok nmX9 hown hK hP hD hS 0 rfl rfl 0 (by decide) (ht _ tw_51) (fun _ h9 => h9) rfl (by decide +kernel) rfl rfl (Nat.le_of_ble_eq_true rfl) dX9_scan_2 (fun H locs hP hD hS => ?_)
  have hP : va_P (dC, dI) vwCl [(a0_, .inr (12, [.ref a1_, .ref a3_, .ref a4_, .ref a5_, .int 1, .int 0, .int 0, .int (-1), .int 0, .int (-1)])), (a3_, .inl (cI, 1503, .inl (upd (fun _ => 0) 0 0))), (a4_, .inl (cI, 1503, .inl (upd (fun _ => 0) 0 0))), (a5_, .inl (cI, 1503, .inl (upd (fun _ => 0) 0 0))), (a1_, .inr (10, [.ref a6_, .int 0, .ref a7_, .int 0, .ref a8_, .int 0, .ref a9_, .ref a10_, .ref a11_, .int 0, .ref a12_, .int 0, .int 0]))] H := hP
  have hD : va_D A [(a0_, .inr (12, [.ref a1_, .ref a3_, .ref a4_, .ref a5_, .int 1, .int 0, .int 0, .int (-1), .int 0, .int (-1)])), (a3_, .inl (cI, 1503, .inl (upd (fun _ => 0) 0 0))), (a4_, .inl (cI, 1503, .inl (upd (fun _ => 0) 0 0))), (a5_, .inl (cI, 1503, .inl (upd (fun _ => 0) 0 0))), (a1_, .inr (10, [.ref a6_, .int 0, .ref a7_, .int 0, .ref a8_, .int 0, .ref a9_, .ref a10_, .ref a11_, .int 0, .ref a12_, .int 0, .int 0]))] := hD
  refine lv_aload_n hx hb dX9_scan_5 rfl (lv_at hl 0 rfl) ?_
  refine lv_iconst (v := 0) hx hb dX9_scan_6 (by decide) ?_
  refine va_put (D := (dC, dI)) (ci := 12) (v := .int 0) (ty := .int) (C := RX9) (T := TX9) (N := 10) hx hb ht itX9 tyX9 tyX9_ok nmX9 hown hK hP hD hS 0 rfl rfl 4 (by decide) (ht _ tw_149) (fun _ h9 => h9) rfl (by decide +kernel) rfl rfl (Nat.le_of_ble_eq_true rfl) dX9_scan_7 (fun H locs hP hD hS => ?_)
  have hP : va_P (dC, dI) vwCl [(a0_, .inr (12, [.ref a1_, .ref a3_, .ref a4_, .ref a5_, .int 0, .int 0, .int 0, .int (-1), .int 0, .int (-1)])), (a3_, .inl (cI, 1503, .inl (upd (fun _ => 0) 0 0))), (a4_, .inl (cI, 1503, .inl (upd (fun _ => 0) 0 0))), (a5_, .inl (cI, 1503, .inl (upd (fun _ => 0) 0 0))), (a1_, .inr (10, [.ref a6_, .int 0, .ref a7_, .int 0, .ref a8_, .int 0, .ref a9_, .ref a10_, .ref a11_, .int 0, .ref a12_, .int 0, .int 0]))] H := hP
  have hD : va_D A [(a0_, .inr (12, [.ref a1_, .ref a3_, .ref a4_, .ref a5_, .int 0, .int 0, .int 0, .int (-1), .int 0, .int (-1)])), (a3_, .inl (cI, 1503, .inl (upd (fun _ => 0) 0 0))), (a4_, .inl (cI, 1503, .inl (upd (fun _ => 0) 0 0))), (a5_, .inl (cI, 1503, .inl (upd (fun _ => 0) 0 0))), (a1_, .inr (10, [.ref a6_, .int 0, .ref a7_, .int 0, .ref a8_, .int 0, .ref a9_, .ref a10_, .ref a11_, .int 0, .ref a12_, .int 0, .int 0]))] := hD
  refine lv_aload_n hx hb dX9_scan_10 rfl (lv_at hl 0 rfl) ?_
  refine lv_iconst (v := 0) hx hb dX9_scan_11 (by decide) ?_
  refine va_put (D := (dC, dI)) (ci := 12) (v := .int 0) (ty := .int) (C := RX9) (T := TX9) (N := 10) hx hb ht itX9 tyX9 tyX9_ok nmX9 hown hK hP hD hS 0 rfl rfl 5 (by decide) (ht _ tw_150) (fun _ h9 => h9) rfl (by decide +kernel) rfl rfl (Nat.le_of_ble_eq_true rfl) dX9_scan_12 (fun H locs hP hD hS => ?_)
  have hP : va_P (dC, dI) vwCl [(a0_, .inr (12, [.ref a1_, .ref a3_, .ref a4_, .ref a5_, .int 0, .int 0, .int 0, .int (-1), .int 0, .int (-1)])), (a3_, .inl (cI, 1503, .inl (upd (fun _ => 0) 0 0))), (a4_, .inl (cI, 1503, .inl (upd (fun _ => 0) 0 0))), (a5_, .inl (cI, 1503, .inl (upd (fun _ => 0) 0 0))), (a1_, .inr (10, [.ref a6_, .int 0, .ref a7_, .int 0, .ref a8_, .int 0, .ref a9_, .ref a10_, .ref a11_, .int 0, .ref a12_, .int 0, .int 0]))] H := hP
  have hD : va_D A [(a0_, .inr (12, [.ref a1_, .ref a3_, .ref a4_, .ref a5_, .int 0, .int 0, .int 0, .int (-1), .int 0, .int (-1)])), (a3_, .inl (cI, 1503, .inl (upd (fun _ => 0) 0 0))), (a4_, .inl (cI, 1503, .inl (upd (fun _ => 0) 0 0))), (a5_, .inl (cI, 1503, .inl (upd (fun _ => 0) 0 0))), (a1_, .inr (10, [.ref a6_, .int 0, .ref a7_, .int 0, .ref a8_, .int 0, .ref a9_, .ref a10_, .ref a11_, .int 0, .ref a12_, .int 0, .int 0]))] := hD
  refine lv_aload_n hx hb dX9_scan_15 rfl (lv_at hl 0 rfl) ?_
  refine lv_iconst (v := 0) hx hb dX9_scan_16 (by decide) ?_
  refine va_put (D := (dC, dI)) (ci := 12) (v := .int 0) (ty := .int) (C := RX9) (T := TX9) (N := 10) hx hb ht itX9 tyX9 tyX9_ok nmX9 hown hK hP hD hS 0 rfl rfl 6 (by decide) (ht _ tw_151) (fun _ h9 => h9) rfl (by decide +kernel) rfl rfl (Nat.le_of_ble_eq_true rfl) dX9_scan_17 (fun H locs hP hD hS => ?_)
  have hP : va_P (dC, dI) vwCl [(a0_, .inr (12, [.ref a1_, .ref a3_, .ref a4_, .ref a5_, .int 0, .int 0, .int 0, .int (-1), .int 0, .int (-1)])), (a3_, .inl (cI, 1503, .inl (upd (fun _ => 0) 0 0))), (a4_, .inl (cI, 1503, .inl (upd (fun _ => 0) 0 0))), (a5_, .inl (cI, 1503, .inl (upd (fun _ => 0) 0 0))), (a1_, .inr (10, [.ref a6_, .int 0, .ref a7_, .int 0, .ref a8_, .int 0, .ref a9_, .ref a10_, .ref a11_, .int 0, .ref a12_, .int 0, .int 0]))] H := hP
  have hD : va_D A [(a0_, .inr (12, [.ref a1_, .ref a3_, .ref a4_, .ref a5_, .int 0, .int 0, .int 0, .int (-1), .int 0, .int (-1)])), (a3_, .inl (cI, 1503, .inl (upd (fun _ => 0) 0 0))), (a4_, .inl (cI, 1503, .inl (upd (fun _ => 0) 0 0))), (a5_, .inl (cI, 1503, .inl (upd (fun _ => 0) 0 0))), (a1_, .inr (10, [.ref a6_, .int 0, .ref a7_, .int 0, .ref a8_, .int 0, .ref a9_, .ref a10_, .ref a11_, .int 0, .ref a12_, .int 0, .int 0]))] := hD
  refine lv_aload_n hx hb dX9_scan_20 rfl (lv_at hl 0 rfl) ?_
  refine lv_iconst (v := -1) hx hb dX9_scan_21 (by decide) ?_
  refine va_put (D := (dC, dI)) (ci := 12) (v := .int (-1)) (ty := .int) (C := RX9) (T := TX9) (N := 10) hx hb ht itX9 tyX9 tyX9_ok nmX9 hown hK hP hD hS 0 rfl rfl 7 (by decide) (ht _ tw_152) (fun _ h9 => h9) rfl (by decide +kernel) rfl rfl (Nat.le_of_ble_eq_true rfl) dX9_scan_22 (fun H locs hP hD hS => ?_)
  have hP : va_P (dC, dI) vwCl [(a0_, .inr (12, [.ref a1_, .ref a3_, .ref a4_, .ref a5_, .int 0, .int 0, .int 0, .int (-1), .int 0, .int (-1)])), (a3_, .inl (cI, 1503, .inl (upd (fun _ => 0) 0 0))), (a4_, .inl (cI, 1503, .inl (upd (fun _ => 0) 0 0))), (a5_, .inl (cI, 1503, .inl (upd (fun _ => 0) 0 0))), (a1_, .inr (10, [.ref a6_, .int 0, .ref a7_, .int 0, .ref a8_, .int 0, .ref a9_, .ref a10_, .ref a11_, .int 0, .ref a12_, .int 0, .int 0]))] H := hP
  have hD : va_D A [(a0_, .inr (12, [.ref a1_, .ref a3_, .ref a4_, .ref a5_, .int 0, .int 0, .int 0, .int (-1), .int 0, .int (-1)])), (a3_, .inl (cI, 1503, .inl (upd (fun _ => 0) 0 0))), (a4_, .inl (cI, 1503, .inl (upd (fun _ => 0) 0 0))), (a5_, .inl (cI, 1503, .inl (upd (fun _ => 0) 0 0))), (a1_, .inr (10, [.ref a6_, .int 0, .ref a7_, .int 0, .ref a8_, .int 0, .ref a9_, .ref a10_, .ref a11_, .int 0, .ref a12_, .int 0, .int 0]))] := hD
  refine lv_aload_n hx hb dX9_scan_25 rfl (lv_at hl 0 rfl) ?_
  refine lv_iconst (v := 0) hx hb dX9_scan_26 (by decide) ?_
  refine va_put (D := (dC, dI)) (ci := 12) (v := .int 0) (ty := .int) (C := RX9) (T := TX9) (N := 10) hx hb ht itX9 tyX9 tyX9_ok nmX9 hown hK hP hD hS 0 rfl rfl 8 (by decide) (ht _ tw_153) (fun _ h9 => h9) rfl (by decide +kernel) rfl rfl (Nat.le_of_ble_eq_true rfl) dX9_scan_27 (fun H locs hP hD hS => ?_)
  have hP : va_P (dC, dI) vwCl [(a0_, .inr (12, [.ref a1_, .ref a3_, .ref a4_, .ref a5_, .int 0, .int 0, .int 0, .int (-1), .int 0, .int (-1)])), (a3_, .inl (cI, 1503, .inl (upd (fun _ => 0) 0 0))), (a4_, .inl (cI, 1503, .inl (upd (fun _ => 0) 0 0))), (a5_, .inl (cI, 1503, .inl (upd (fun _ => 0) 0 0))), (a1_, .inr (10, [.ref a6_, .int 0, .ref a7_, .int 0, .ref a8_, .int 0, .ref a9_, .ref a10_, .ref a11_, .int 0, .ref a12_, .int 0, .int 0]))] H := hP
  have hD : va_D A [(a0_, .inr (12, [.ref a1_, .ref a3_, .ref a4_, .ref a5_, .int 0, .int 0, .int 0, .int (-1), .int 0, .int (-1)])), (a3_, .inl (cI, 1503, .inl (upd (fun _ => 0) 0 0))), (a4_, .inl (cI, 1503, .inl (upd (fun _ => 0) 0 0))), (a5_, .inl (cI, 1503, .inl (upd (fun _ => 0) 0 0))), (a1_, .inr (10, [.ref a6_, .int 0, .ref a7_, .int 0, .ref a8_, .int 0, .ref a9_, .ref a10_, .ref a11_, .int 0, .ref a12_, .int 0, .int 0]))] := hD
  refine lv_aload_n hx hb dX9_scan_30 rfl (lv_at hl 0 rfl) ?_
  refine lv_iconst (v := -1) hx hb dX9_scan_31 (by decide) ?_
  refine va_put (D := (dC, dI)) (ci := 12) (v := .int (-1)) (ty := .int) (C := RX9) (T := TX9) (N := 10) hx hb ht itX9 tyX9 tyX9_ok nmX9 hown hK hP hD hS 0 rfl rfl 9 (by decide) (ht _ tw_154) (fun _ h9 => h9) rfl (by decide +kernel) rfl rfl (Nat.le_of_ble_eq_true rfl) dX9_scan_32 (fun H locs hP hD hS => ?_)
  have hP : va_P (dC, dI) vwCl [(a0_, .inr (12, [.ref a1_, .ref a3_, .ref a4_, .ref a5_, .int 0, .int 0, .int 0, .int (-1), .int 0, .int (-1)])), (a3_, .inl (cI, 1503, .inl (upd (fun _ => 0) 0 0))), (a4_, .inl (cI, 1503, .inl (upd (fun _ => 0) 0 0))), (a5_, .inl (cI, 1503, .inl (upd (fun _ => 0) 0 0))), (a1_, .inr (10, [.ref a6_, .int 0, .ref a7_, .int 0, .ref a8_, .int 0, .ref a9_, .ref a10_, .ref a11_, .int 0, .ref a12_, .int 0, .int 0]))] H := hP
  have hD : va_D A [(a0_, .inr (12, [.ref a1_, .ref a3_, .ref a4_, .ref a5_, .int 0, .int 0, .int 0, .int (-1), .int 0, .int (-1)])), (a3_, .inl (cI, 1503, .inl (upd (fun _ => 0) 0 0))), (a4_, .inl (cI, 1503, .inl (upd (fun _ => 0) 0 0))), (a5_, .inl (cI, 1503, .inl (upd (fun _ => 0) 0 0))), (a1_, .inr (10, [.ref a6_, .int 0, .ref a7_, .int 0, .ref a8_, .int 0, .ref a9_, .ref a10_, .ref a11_, .int 0, .ref a12_, .int 0, .int 0]))] := hD
  refine lv_iconst (v := 0) hx hb dX9_scan_35 (by decide) ?_
  refine lv_istore_n (lv' := [(2, .int 0), (0, .ref a0_), (1, .ref a1_)]) hx hb dX9_scan_36 rfl hl (by decide) rfl (fun ls hl => ?_)
  refine lv_iconst (v := 0) hx hb dX9_scan_37 (by decide) ?_
  refine lv_istore_n (lv' := [(3, .int 0), (2, .int 0), (0, .ref a0_), (1, .ref a1_)]) hx hb dX9_scan_38 rfl hl (by decide) rfl (fun ls hl => ?_)
  refine lv_iload_n hx hb dX9_scan_39 rfl (lv_at hl 0 rfl) ?_
  refine lv_sipush (v := 1503) hx hb dX9_scan_40 (by decide) ?_
  refine lv_icmp_ge (tgt := 82) hx hb dX9_scan_43 (by decide) (fun k1 => absurd k1 (by decide)) (fun _ => ?_)
  refine lv_aload_n hx hb dX9_scan_46 rfl (lv_at hl 2 rfl) ?_
  refine lv_aload_n hx hb dX9_scan_47 rfl (lv_at hl 2 rfl) ?_
  refine lv_iload_n hx hb dX9_scan_48 rfl (lv_at hl 1 rfl) ?_
  refine ca_i (wr := [(a3_, .inl (cI, 1503, .inl (upd (fun _ => 0) 0 0))), (a4_, .inl (cI, 1503, .inl (upd (fun _ => 0) 0 0))), (a5_, .inl (cI, 1503, .inl (upd (fun _ => 0) 0 0)))]) (rn_V (n := 1) (As := [.int 0]) (rest := [.ref a0_]) hx hb hml hown ht hKK hFx hP hD hS hA (c_X9_behindBlanks l dC dI cI cB cZ cJ cR tb H.size a0_ a1_ a3_ a4_ a5_ a6_ a7_ a8_ a9_ a10_ a11_ a12_) tw_156 tw_157 (by decide +kernel) rfl rfl ⟨Nat.le_of_ble_eq_true rfl, Nat.le_of_ble_eq_true rfl⟩ [0, 4] rfl (by decide) rfl rfl rfl rfl hl.1 rfl (Nat.le_of_ble_eq_true rfl) dX9_scan_49 ⟨Nat.le_of_ble_eq_true rfl, Nat.le_of_ble_eq_true rfl⟩) hP hD hS hA (isC := [0, 4]) (isR := [1, 2, 3]) rfl rfl (by decide) (by decide) (fun r3 u H locs hw2 hP hD hS => ?_)
  subst hw2
  have hP : va_P (dC, dI) vwCl [(a3_, .inl (cI, 1503, .inl (upd (fun _ => 0) 0 0))), (a4_, .inl (cI, 1503, .inl (upd (fun _ => 0) 0 0))), (a5_, .inl (cI, 1503, .inl (upd (fun _ => 0) 0 0))), (a0_, .inr (12, [.ref a1_, .ref a3_, .ref a4_, .ref a5_, .int 0, .int 0, .int 0, .int (-1), .int 0, .int (-1)])), (a1_, .inr (10, [.ref a6_, .int 0, .ref a7_, .int 0, .ref a8_, .int 0, .ref a9_, .ref a10_, .ref a11_, .int 0, .ref a12_, .int 0, .int 0]))] H := hP
  have hD : va_D A [(a3_, .inl (cI, 1503, .inl (upd (fun _ => 0) 0 0))), (a4_, .inl (cI, 1503, .inl (upd (fun _ => 0) 0 0))), (a5_, .inl (cI, 1503, .inl (upd (fun _ => 0) 0 0))), (a0_, .inr (12, [.ref a1_, .ref a3_, .ref a4_, .ref a5_, .int 0, .int 0, .int 0, .int (-1), .int 0, .int (-1)])), (a1_, .inr (10, [.ref a6_, .int 0, .ref a7_, .int 0, .ref a8_, .int 0, .ref a9_, .ref a10_, .ref a11_, .int 0, .ref a12_, .int 0, .int 0]))] := hD
  refine W.widen (k := 0) (n := 0) (by omega) (by omega) ?_
  refine ca_i (wr := []) (rn_V (n := 1) (As := [.int 0]) (rest := []) hx hb hml hown ht hKK hFx hP hD hS hA (c_X9_scanOne_2 l dC dI cI cB cZ cJ cR tb H.size a0_ a1_ a3_ a4_ a5_ a6_ a7_ a8_ a9_ a10_ a11_ a12_) tw_163 tw_164 (by decide +kernel) rfl rfl ⟨Nat.le_of_ble_eq_true rfl, Nat.le_of_ble_eq_true rfl⟩ [3, 0, 1, 2, 4] rfl (by decide) rfl rfl rfl rfl hl.1 rfl (Nat.le_of_ble_eq_true rfl) dX9_scan_52 ⟨Nat.le_of_ble_eq_true rfl, Nat.le_of_ble_eq_true rfl⟩) hP hD hS hA (isC := [3, 0, 1, 2, 4]) (isR := []) rfl rfl (by decide) (by decide) (fun r5 u H locs hw4 hP hD hS => ?_)
  subst hw4
  have hP : va_P (dC, dI) vwCl [(a0_, .inr (12, [.ref a1_, .ref a3_, .ref a4_, .ref a5_, .int 1, .int 0, .int 0, .int (-1), .int 0, .int (-1)])), (a3_, .inl (cI, 1503, .inl (upd (upd (fun _ => 0) 0 0) 0 0))), (a4_, .inl (cI, 1503, .inl (upd (upd (fun _ => 0) 0 0) 0 0))), (a5_, .inl (cI, 1503, .inl (upd (upd (fun _ => 0) 0 0) 0 0))), (a1_, .inr (10, [.ref a6_, .int 0, .ref a7_, .int 0, .ref a8_, .int 0, .ref a9_, .ref a10_, .ref a11_, .int 0, .ref a12_, .int 0, .int 0]))] H := hP
  have hD : va_D A [(a0_, .inr (12, [.ref a1_, .ref a3_, .ref a4_, .ref a5_, .int 1, .int 0, .int 0, .int (-1), .int 0, .int (-1)])), (a3_, .inl (cI, 1503, .inl (upd (upd (fun _ => 0) 0 0) 0 0))), (a4_, .inl (cI, 1503, .inl (upd (upd (fun _ => 0) 0 0) 0 0))), (a5_, .inl (cI, 1503, .inl (upd (upd (fun _ => 0) 0 0) 0 0))), (a1_, .inr (10, [.ref a6_, .int 0, .ref a7_, .int 0, .ref a8_, .int 0, .ref a9_, .ref a10_, .ref a11_, .int 0, .ref a12_, .int 0, .int 0]))] := hD
  refine W.widen (k := 0) (n := 0) (by omega) (by omega) ?_
  refine lv_istore_n (lv' := [(2, .int 0), (3, .int 0), (0, .ref a0_), (1, .ref a1_)]) hx hb dX9_scan_55 rfl hl (by decide) rfl (fun ls hl => ?_)
  refine lv_aload_n hx hb dX9_scan_56 rfl (lv_at hl 2 rfl) ?_
  refine va_get (D := (dC, dI)) (ci := 12) (v := .ref a3_) (C := RX9) (T := TX9) (N := 10) hx hb ht itX9 hown hK hP 0 rfl rfl 1 (by decide) (ht _ tw_48) (fun _ h9 => h9) rfl dX9_scan_57 ?_
  refine lv_iload_n hx hb dX9_scan_60 rfl (lv_at hl 1 rfl) ?_
  refine va_iald (D := (dC, dI)) hx hb hK hP 1 0 rfl rfl (vp_in_iff.mpr (by decide)) dX9_scan_61 ?_
  refine tp_i (y := 0) (rfl) ?_
  refine lv_if_eq (tgt := 75) hx hb dX9_scan_62 (by decide) (fun _ => ?_) (fun k6 => absurd k6 (by decide))
  have hP9 := hP.sub (ws' := [(a0_, .inr (12, [.ref a1_, .ref a3_, .ref a4_, .ref a5_, .int 1, .int 0, .int 0, .int (-1), .int 0, .int (-1)])), (a3_, .inl (cI, 1503, .inl (upd (upd (fun _ => 0) 0 0) 0 0))), (a4_, .inl (cI, 1503, .inl (upd (upd (fun _ => 0) 0 0) 0 0))), (a5_, .inl (cI, 1503, .inl (upd (upd (fun _ => 0) 0 0) 0 0))), (a1_, .inr (10, [.ref a6_, .int 0, .ref a7_, .int 0, .ref a8_, .int 0, .ref a9_, .ref a10_, .ref a11_, .int 0, .ref a12_, .int 0, .int 0]))]) [0, 1, 2, 3, 4] rfl
  have hD9 := hD.sub (ws' := [(a0_, .inr (12, [.ref a1_, .ref a3_, .ref a4_, .ref a5_, .int 1, .int 0, .int 0, .int (-1), .int 0, .int (-1)])), (a3_, .inl (cI, 1503, .inl (upd (upd (fun _ => 0) 0 0) 0 0))), (a4_, .inl (cI, 1503, .inl (upd (upd (fun _ => 0) 0 0) 0 0))), (a5_, .inl (cI, 1503, .inl (upd (upd (fun _ => 0) 0 0) 0 0))), (a1_, .inr (10, [.ref a6_, .int 0, .ref a7_, .int 0, .ref a8_, .int 0, .ref a9_, .ref a10_, .ref a11_, .int 0, .ref a12_, .int 0, .int 0]))]) [0, 1, 2, 3, 4] (by decide) rfl
  refine W.widen (k := 0) (n := 0) (by omega) (by omega) ?_
  exact W.vret hx hb hr (fun t ht9 hW => ⟨⟨(), rfl, trivial, by rw [ht9]; exact hP9, hD9⟩, hS.F ht9⟩) hS.2.2 dX9_scan_75
set_option maxHeartbeats 4000000 in
set_option maxRecDepth 100000 in
theorem c_X1_begin_2 (l : Launch) (dC : Nat → ClassId) (dI : Nat → Nat → Nat) (cI cB cZ cJ cR : ClassId) (tb : Nat → Nat) (sz : Nat) (a0_ : Nat) (a1_ : Nat) (a2_ : Nat) (a3_ : Nat) (a4_ : Nat) (a5_ : Nat) (a6_ : Nat) (a7_ : Nat) (a8_ : Nat) (a9_ : Nat) (a10_ : Nat) (a11_ : Nat) (a12_ : Nat) (a13_ : Nat) (a14_ : Nat)  : Met l yX1_begin (Cond.code yX1_begin cX1_begin 2 none :: tw_W) ({ frames := 1, cells := 0, slots := 0, locals := 20 }) (pc_ (dC, dI) (tyS cI cB cZ cJ cR) tb [(a0_, .inr (5, [.ref a2_, .ref a3_, .int 0, .int 0, .int 0, .int 0, .ref a4_, .int 0, .ref a5_, .ref a6_, .ref a7_, .int 0])), (a1_, .inr (10, [.ref a8_, .int 0, .ref a9_, .int 0, .ref a10_, .int 0, .ref a11_, .ref a12_, .ref a13_, .int 0, .ref a14_, .int 0, .int 0]))] sz [.ref a0_, .ref a1_]) (qv_ (dC, dI) [(a0_, .inr (5, [.ref a2_, .ref a3_, .int 0, .int 0, .int 0, .int 0, .ref a4_, .int 0, .ref a5_, .ref a6_, .ref a7_, .int 0])), (a1_, .inr (10, [.ref a8_, .int 0, .ref a9_, .int 0, .ref a10_, .int 0, .ref a11_, .ref a12_, .ref a13_, .int 0, .ref a14_, .int 0, .int 0]))] sz (fun (u : Unit) => True) (fun (u : Unit) => [(a0_, .inr (5, [.ref a1_, .ref a3_, .int 0, .int 0, .int 0, .int 0, .ref a4_, .int 0, .ref a5_, .ref a6_, .ref a7_, .int 0])), (a1_, .inr (10, [.ref a8_, .int 0, .ref a9_, .int 0, .ref a10_, .int 0, .ref a11_, .ref a12_, .ref a13_, .int 0, .ref a14_, .int 0, .int 0]))])) 0 0 (va_A [(a0_, .inr (5, [.ref a2_, .ref a3_, .int 0, .int 0, .int 0, .int 0, .ref a4_, .int 0, .ref a5_, .ref a6_, .ref a7_, .int 0])), (a1_, .inr (10, [.ref a8_, .int 0, .ref a9_, .int 0, .ref a10_, .int 0, .ref a11_, .ref a12_, .ref a13_, .int 0, .ref a14_, .int 0, .int 0]))] sz) := by
  refine Met.ofW (cc := cX1_begin) (maxL := 2) (ret := none) (by decide) rfl ?_
  intro p e s m args below meth c s₁ B hml hv
  obtain ⟨rfl, hsz, hP, hKK, hD0, hFx⟩ := hv
  have hK := hKK.1
  have hx := B.exec
  have hb := B.bytes
  have hr := B.returns
  have ht : ∀ w ∈ tw_W, w.before _ s = true := fun w h => atoms_spec (ws := Cond.code yX1_begin cX1_begin 2 none :: tw_W) B.pre w (List.mem_cons_of_mem _ h)
  have hown : s.vm.findClass RX1 = some m.cls := findClass_of_methodNamed B.named
  have hlocks := B.notSynchronized
  subst hsz
  unfold qv_
  have hD := hD0.self (sz := s.heap.size)
  generalize hAe : va_A [(a0_, .inr (5, [.ref a2_, .ref a3_, .int 0, .int 0, .int 0, .int 0, .ref a4_, .int 0, .ref a5_, .ref a6_, .ref a7_, .int 0])), (a1_, .inr (10, [.ref a8_, .int 0, .ref a9_, .int 0, .ref a10_, .int 0, .ref a11_, .ref a12_, .ref a13_, .int 0, .ref a14_, .int 0, .int 0]))] s.heap.size = A at hD hFx ⊢
  have hA : ∀ q : Nat, s.heap.size ≤ q → A q := fun q h => by rw [← hAe]; exact Or.inr h
  have hS : va_S A s.heap s.heap [] := va_S.rf
  have hP : va_P (dC, dI) vwCl [(a0_, .inr (5, [.ref a2_, .ref a3_, .int 0, .int 0, .int 0, .int 0, .ref a4_, .int 0, .ref a5_, .ref a6_, .ref a7_, .int 0])), (a1_, .inr (10, [.ref a8_, .int 0, .ref a9_, .int 0, .ref a10_, .int 0, .ref a11_, .ref a12_, .ref a13_, .int 0, .ref a14_, .int 0, .int 0]))] s.heap := hP
  have hl := lv_entry ([.ref a0_, .ref a1_]) (n := 2) (Nat.le_of_ble_eq_true rfl)
  rw [lg_entry_eq]
  generalize (lg_sl ([.ref a0_, .ref a1_]) ++ List.replicate (2 - (lg_sl ([.ref a0_, .ref a1_])).length) Slot.unset).toArray = ls at hl ⊢
  have hl : lv_has ls 2 [(0, .ref a0_), (1, .ref a1_)] := hl
  refine lv_aload_n hx hb dX1_begin_0 rfl (lv_at hl 0 rfl) ?_
  refine lv_aload_n hx hb dX1_begin_1 rfl (lv_at hl 1 rfl) ?_
  refine va_put (D := (dC, dI)) (ci := 5) (v := .ref a1_) (ty := .object "PocketCompiler$Program") (C := RX1) (T := TX1) (N := 12) hx hb ht itX1 tyX1 tyX1_ok nmX1 hown hK hP hD hS 0 rfl rfl 0 (by decide) (ht _ tw_36) (fun _ h9 => h9) rfl (by decide +kernel) rfl rfl (Nat.le_of_ble_eq_true rfl) dX1_begin_2 (fun H locs hP hD hS => ?_)
  have hP : va_P (dC, dI) vwCl [(a0_, .inr (5, [.ref a1_, .ref a3_, .int 0, .int 0, .int 0, .int 0, .ref a4_, .int 0, .ref a5_, .ref a6_, .ref a7_, .int 0])), (a1_, .inr (10, [.ref a8_, .int 0, .ref a9_, .int 0, .ref a10_, .int 0, .ref a11_, .ref a12_, .ref a13_, .int 0, .ref a14_, .int 0, .int 0]))] H := hP
  have hD : va_D A [(a0_, .inr (5, [.ref a1_, .ref a3_, .int 0, .int 0, .int 0, .int 0, .ref a4_, .int 0, .ref a5_, .ref a6_, .ref a7_, .int 0])), (a1_, .inr (10, [.ref a8_, .int 0, .ref a9_, .int 0, .ref a10_, .int 0, .ref a11_, .ref a12_, .ref a13_, .int 0, .ref a14_, .int 0, .int 0]))] := hD
  refine lv_aload_n hx hb dX1_begin_5 rfl (lv_at hl 0 rfl) ?_
  refine va_get (D := (dC, dI)) (ci := 5) (v := .ref a1_) (C := RX1) (T := TX1) (N := 12) hx hb ht itX1 hown hK hP 0 rfl rfl 0 (by decide) (ht _ tw_36) (fun _ h9 => h9) rfl dX1_begin_6 ?_
  refine ca_v (wr := [(a0_, .inr (5, [.ref a1_, .ref a3_, .int 0, .int 0, .int 0, .int 0, .ref a4_, .int 0, .ref a5_, .ref a6_, .ref a7_, .int 0]))]) (rn_V (n := 0) (As := []) (rest := []) hx hb hml hown ht hKK hFx hP hD hS hA (c_X7_clear l dC dI cI cB cZ cJ cR tb H.size a1_ a8_ a9_ a10_ a11_ a12_ a13_ a14_) tw_172 tw_173 (by decide +kernel) rfl rfl ⟨Nat.le_of_ble_eq_true rfl, Nat.le_of_ble_eq_true rfl⟩ [1] rfl (by decide) rfl rfl rfl rfl hl.1 rfl (Nat.le_of_ble_eq_true rfl) dX1_begin_9 ⟨Nat.le_of_ble_eq_true rfl, Nat.le_of_ble_eq_true rfl⟩) hP hD hS hA (isC := [1]) (isR := [0]) rfl rfl (by decide) (by decide) (fun u H locs hw1 hP hD hS => ?_)
  have hP : va_P (dC, dI) vwCl [(a0_, .inr (5, [.ref a1_, .ref a3_, .int 0, .int 0, .int 0, .int 0, .ref a4_, .int 0, .ref a5_, .ref a6_, .ref a7_, .int 0])), (a1_, .inr (10, [.ref a8_, .int 0, .ref a9_, .int 0, .ref a10_, .int 0, .ref a11_, .ref a12_, .ref a13_, .int 0, .ref a14_, .int 0, .int 0]))] H := hP
  have hD : va_D A [(a0_, .inr (5, [.ref a1_, .ref a3_, .int 0, .int 0, .int 0, .int 0, .ref a4_, .int 0, .ref a5_, .ref a6_, .ref a7_, .int 0])), (a1_, .inr (10, [.ref a8_, .int 0, .ref a9_, .int 0, .ref a10_, .int 0, .ref a11_, .ref a12_, .ref a13_, .int 0, .ref a14_, .int 0, .int 0]))] := hD
  refine W.widen (k := 0) (n := 0) (by omega) (by omega) ?_
  refine lv_aload_n hx hb dX1_begin_12 rfl (lv_at hl 0 rfl) ?_
  refine lv_iconst (v := 0) hx hb dX1_begin_13 (by decide) ?_
  refine va_put (D := (dC, dI)) (ci := 5) (v := .int 0) (ty := .int) (C := RX1) (T := TX1) (N := 12) hx hb ht itX1 tyX1 tyX1_ok nmX1 hown hK hP hD hS 0 rfl rfl 7 (by decide) (ht _ tw_174) (fun _ h9 => h9) rfl (by decide +kernel) rfl rfl (Nat.le_of_ble_eq_true rfl) dX1_begin_14 (fun H locs hP hD hS => ?_)
  have hP : va_P (dC, dI) vwCl [(a0_, .inr (5, [.ref a1_, .ref a3_, .int 0, .int 0, .int 0, .int 0, .ref a4_, .int 0, .ref a5_, .ref a6_, .ref a7_, .int 0])), (a1_, .inr (10, [.ref a8_, .int 0, .ref a9_, .int 0, .ref a10_, .int 0, .ref a11_, .ref a12_, .ref a13_, .int 0, .ref a14_, .int 0, .int 0]))] H := hP
  have hD : va_D A [(a0_, .inr (5, [.ref a1_, .ref a3_, .int 0, .int 0, .int 0, .int 0, .ref a4_, .int 0, .ref a5_, .ref a6_, .ref a7_, .int 0])), (a1_, .inr (10, [.ref a8_, .int 0, .ref a9_, .int 0, .ref a10_, .int 0, .ref a11_, .ref a12_, .ref a13_, .int 0, .ref a14_, .int 0, .int 0]))] := hD
  refine lv_aload_n hx hb dX1_begin_17 rfl (lv_at hl 0 rfl) ?_
  refine lv_iconst (v := 0) hx hb dX1_begin_18 (by decide) ?_
  refine va_put (D := (dC, dI)) (ci := 5) (v := .int 0) (ty := .int) (C := RX1) (T := TX1) (N := 12) hx hb ht itX1 tyX1 tyX1_ok nmX1 hown hK hP hD hS 0 rfl rfl 11 (by decide) (ht _ tw_175) (fun _ h9 => h9) rfl (by decide +kernel) rfl rfl (Nat.le_of_ble_eq_true rfl) dX1_begin_19 (fun H locs hP hD hS => ?_)
  have hP : va_P (dC, dI) vwCl [(a0_, .inr (5, [.ref a1_, .ref a3_, .int 0, .int 0, .int 0, .int 0, .ref a4_, .int 0, .ref a5_, .ref a6_, .ref a7_, .int 0])), (a1_, .inr (10, [.ref a8_, .int 0, .ref a9_, .int 0, .ref a10_, .int 0, .ref a11_, .ref a12_, .ref a13_, .int 0, .ref a14_, .int 0, .int 0]))] H := hP
  have hD : va_D A [(a0_, .inr (5, [.ref a1_, .ref a3_, .int 0, .int 0, .int 0, .int 0, .ref a4_, .int 0, .ref a5_, .ref a6_, .ref a7_, .int 0])), (a1_, .inr (10, [.ref a8_, .int 0, .ref a9_, .int 0, .ref a10_, .int 0, .ref a11_, .ref a12_, .ref a13_, .int 0, .ref a14_, .int 0, .int 0]))] := hD
  have hP9 := hP.sub (ws' := [(a0_, .inr (5, [.ref a1_, .ref a3_, .int 0, .int 0, .int 0, .int 0, .ref a4_, .int 0, .ref a5_, .ref a6_, .ref a7_, .int 0])), (a1_, .inr (10, [.ref a8_, .int 0, .ref a9_, .int 0, .ref a10_, .int 0, .ref a11_, .ref a12_, .ref a13_, .int 0, .ref a14_, .int 0, .int 0]))]) [0, 1] rfl
  have hD9 := hD.sub (ws' := [(a0_, .inr (5, [.ref a1_, .ref a3_, .int 0, .int 0, .int 0, .int 0, .ref a4_, .int 0, .ref a5_, .ref a6_, .ref a7_, .int 0])), (a1_, .inr (10, [.ref a8_, .int 0, .ref a9_, .int 0, .ref a10_, .int 0, .ref a11_, .ref a12_, .ref a13_, .int 0, .ref a14_, .int 0, .int 0]))]) [0, 1] (by decide) rfl
  refine W.widen (k := 0) (n := 0) (by omega) (by omega) ?_
  exact W.vret hx hb hr (fun t ht9 hW => ⟨⟨(), rfl, trivial, by rw [ht9]; exact hP9, hD9⟩, hS.F ht9⟩) hS.2.2 dX1_begin_22
set_option maxHeartbeats 4000000 in
set_option maxRecDepth 100000 in
theorem c_X9_kind_2 (l : Launch) (dC : Nat → ClassId) (dI : Nat → Nat → Nat) (cI cB cZ cJ cR : ClassId) (tb : Nat → Nat) (sz : Nat) (a0_ : Nat) (a1_ : Nat) (a2_ : Nat) (a3_ : Nat) (a4_ : Nat)  : Met l yX9_kind (Cond.code yX9_kind cX9_kind 1 (some .int) :: tw_W) ({ frames := 0, cells := 0, slots := 0, locals := 0 }) (pc_ (dC, dI) (tyS cI cB cZ cJ cR) tb [(a0_, .inr (12, [.ref a1_, .ref a2_, .ref a3_, .ref a4_, .int 1, .int 0, .int 0, .int (-1), .int 0, .int (-1)])), (a2_, .inl (cI, 1503, .inl (upd (upd (fun _ => 0) 0 0) 0 0)))] sz [.ref a0_]) (qi_ (dC, dI) [(a0_, .inr (12, [.ref a1_, .ref a2_, .ref a3_, .ref a4_, .int 1, .int 0, .int 0, .int (-1), .int 0, .int (-1)])), (a2_, .inl (cI, 1503, .inl (upd (upd (fun _ => 0) 0 0) 0 0)))] sz (fun (r : Int32) (u : Unit) => r = 0) (fun (u : Unit) => [(a0_, .inr (12, [.ref a1_, .ref a2_, .ref a3_, .ref a4_, .int 1, .int 0, .int 0, .int (-1), .int 0, .int (-1)])), (a2_, .inl (cI, 1503, .inl (upd (upd (fun _ => 0) 0 0) 0 0)))])) 0 0 (va_A [(a0_, .inr (12, [.ref a1_, .ref a2_, .ref a3_, .ref a4_, .int 1, .int 0, .int 0, .int (-1), .int 0, .int (-1)])), (a2_, .inl (cI, 1503, .inl (upd (upd (fun _ => 0) 0 0) 0 0)))] sz) := by
  refine Met.ofW (cc := cX9_kind) (maxL := 1) (ret := (some .int)) (by decide) rfl ?_
  intro p e s m args below meth c s₁ B hml hv
  obtain ⟨rfl, hsz, hP, hKK, hD0, hFx⟩ := hv
  have hK := hKK.1
  have hx := B.exec
  have hb := B.bytes
  have hr := B.returns
  have ht : ∀ w ∈ tw_W, w.before _ s = true := fun w h => atoms_spec (ws := Cond.code yX9_kind cX9_kind 1 (some .int) :: tw_W) B.pre w (List.mem_cons_of_mem _ h)
  have hown : s.vm.findClass RX9 = some m.cls := findClass_of_methodNamed B.named
  have hlocks := B.notSynchronized
  subst hsz
  unfold qi_
  have hD := hD0.self (sz := s.heap.size)
  generalize hAe : va_A [(a0_, .inr (12, [.ref a1_, .ref a2_, .ref a3_, .ref a4_, .int 1, .int 0, .int 0, .int (-1), .int 0, .int (-1)])), (a2_, .inl (cI, 1503, .inl (upd (upd (fun _ => 0) 0 0) 0 0)))] s.heap.size = A at hD hFx ⊢
  have hA : ∀ q : Nat, s.heap.size ≤ q → A q := fun q h => by rw [← hAe]; exact Or.inr h
  have hS : va_S A s.heap s.heap [] := va_S.rf
  have hP : va_P (dC, dI) vwCl [(a0_, .inr (12, [.ref a1_, .ref a2_, .ref a3_, .ref a4_, .int 1, .int 0, .int 0, .int (-1), .int 0, .int (-1)])), (a2_, .inl (cI, 1503, .inl (upd (upd (fun _ => 0) 0 0) 0 0)))] s.heap := hP
  have hl := lv_entry ([.ref a0_]) (n := 1) (Nat.le_of_ble_eq_true rfl)
  rw [lg_entry_eq]
  generalize (lg_sl ([.ref a0_]) ++ List.replicate (1 - (lg_sl ([.ref a0_])).length) Slot.unset).toArray = ls at hl ⊢
  have hl : lv_has ls 1 [(0, .ref a0_)] := hl
  refine lv_aload_n hx hb dX9_kind_0 rfl (lv_at hl 0 rfl) ?_
  refine va_get (D := (dC, dI)) (ci := 12) (v := .int 0) (C := RX9) (T := TX9) (N := 10) hx hb ht itX9 hown hK hP 0 rfl rfl 5 (by decide) (ht _ tw_150) (fun _ h9 => h9) rfl dX9_kind_1 ?_
  refine lv_if_lt (tgt := 30) hx hb dX9_kind_4 (by decide) (fun k1 => absurd k1 (by decide)) (fun _ => ?_)
  refine lv_aload_n hx hb dX9_kind_7 rfl (lv_at hl 0 rfl) ?_
  refine va_get (D := (dC, dI)) (ci := 12) (v := .int 0) (C := RX9) (T := TX9) (N := 10) hx hb ht itX9 hown hK hP 0 rfl rfl 5 (by decide) (ht _ tw_150) (fun _ h9 => h9) rfl dX9_kind_8 ?_
  refine lv_aload_n hx hb dX9_kind_11 rfl (lv_at hl 0 rfl) ?_
  refine va_get (D := (dC, dI)) (ci := 12) (v := .int 1) (C := RX9) (T := TX9) (N := 10) hx hb ht itX9 hown hK hP 0 rfl rfl 4 (by decide) (ht _ tw_149) (fun _ h9 => h9) rfl dX9_kind_12 ?_
  refine lv_icmp_ge (tgt := 30) hx hb dX9_kind_15 (by decide) (fun k2 => absurd k2 (by decide)) (fun _ => ?_)
  refine lv_aload_n hx hb dX9_kind_18 rfl (lv_at hl 0 rfl) ?_
  refine va_get (D := (dC, dI)) (ci := 12) (v := .ref a2_) (C := RX9) (T := TX9) (N := 10) hx hb ht itX9 hown hK hP 0 rfl rfl 1 (by decide) (ht _ tw_48) (fun _ h9 => h9) rfl dX9_kind_19 ?_
  refine lv_aload_n hx hb dX9_kind_22 rfl (lv_at hl 0 rfl) ?_
  refine va_get (D := (dC, dI)) (ci := 12) (v := .int 0) (C := RX9) (T := TX9) (N := 10) hx hb ht itX9 hown hK hP 0 rfl rfl 5 (by decide) (ht _ tw_150) (fun _ h9 => h9) rfl dX9_kind_23 ?_
  refine va_iald (D := (dC, dI)) hx hb hK hP 1 0 rfl rfl (vp_in_iff.mpr (by decide)) dX9_kind_26 ?_
  refine tp_i (y := 0) (rfl) ?_
  refine lv_goto (tgt := 31) hx hb dX9_kind_27 (by decide) ?_
  have hP9 := hP.sub (ws' := [(a0_, .inr (12, [.ref a1_, .ref a2_, .ref a3_, .ref a4_, .int 1, .int 0, .int 0, .int (-1), .int 0, .int (-1)])), (a2_, .inl (cI, 1503, .inl (upd (upd (fun _ => 0) 0 0) 0 0)))]) [0, 1] rfl
  have hD9 := hD.sub (ws' := [(a0_, .inr (12, [.ref a1_, .ref a2_, .ref a3_, .ref a4_, .int 1, .int 0, .int 0, .int (-1), .int 0, .int (-1)])), (a2_, .inl (cI, 1503, .inl (upd (upd (fun _ => 0) 0 0) 0 0)))]) [0, 1] (by decide) rfl
  refine W.widen (k := 0) (n := 0) (by omega) (by omega) ?_
  exact W.iret (v := 0) hx hb hr (fun t ht9 hW => ⟨⟨0, (), rfl, rfl, by rw [ht9]; exact hP9, hD9⟩, hS.F ht9⟩) hS.2.2 dX9_kind_31
set_option maxHeartbeats 4000000 in
set_option maxRecDepth 100000 in
theorem c_X5_readText_2 (l : Launch) (dC : Nat → ClassId) (dI : Nat → Nat → Nat) (cI cB cZ cJ cR : ClassId) (tb : Nat → Nat) (sz : Nat) (a0_ : Nat) (a1_ : Nat) (a2_ : Nat) (a3_ : Nat) (a4_ : Nat) (a5_ : Nat) (a6_ : Nat) (a7_ : Nat) (a8_ : Nat) (a9_ : Nat) (a10_ : Nat) (a11_ : Nat) (a12_ : Nat) (a13_ : Nat) (a14_ : Nat) (a15_ : Nat) (a16_ : Nat) (a17_ : Nat) (a18_ : Nat) (a19_ : Nat) (a20_ : Nat) (a21_ : Nat) (a22_ : Nat)  : Met l yX5_readText (Cond.code yX5_readText cX5_readText 4 none :: tw_W) ({ frames := 3, cells := 0, slots := 0, locals := 69 }) (pc_ (dC, dI) (tyS cI cB cZ cJ cR) tb [(a0_, .inr (8, [.ref a2_, .ref a3_, .ref a4_, .ref a5_, .int 0, .int 0, .int 0])), (a3_, .inr (12, [.ref a2_, .ref a6_, .ref a7_, .ref a8_, .int 1, .int 0, .int 0, .int (-1), .int 0, .int (-1)])), (a6_, .inl (cI, 1503, .inl (upd (fun _ => 0) 0 0))), (a7_, .inl (cI, 1503, .inl (upd (fun _ => 0) 0 0))), (a8_, .inl (cI, 1503, .inl (upd (fun _ => 0) 0 0))), (a4_, .inr (5, [.ref a2_, .ref a9_, .int 0, .int 0, .int 0, .int 0, .ref a10_, .int 0, .ref a11_, .ref a12_, .ref a13_, .int 0])), (a5_, .inr (6, [.ref a3_, .ref a4_, .ref a14_, .ref a15_, .int 0])), (a1_, .inr (10, [.ref a16_, .int 0, .ref a17_, .int 0, .ref a18_, .int 0, .ref a19_, .ref a20_, .ref a21_, .int 0, .ref a22_, .int 0, .int 0]))] sz [.ref a0_, .ref a1_]) (qv_ (dC, dI) [(a0_, .inr (8, [.ref a2_, .ref a3_, .ref a4_, .ref a5_, .int 0, .int 0, .int 0])), (a3_, .inr (12, [.ref a2_, .ref a6_, .ref a7_, .ref a8_, .int 1, .int 0, .int 0, .int (-1), .int 0, .int (-1)])), (a6_, .inl (cI, 1503, .inl (upd (fun _ => 0) 0 0))), (a7_, .inl (cI, 1503, .inl (upd (fun _ => 0) 0 0))), (a8_, .inl (cI, 1503, .inl (upd (fun _ => 0) 0 0))), (a4_, .inr (5, [.ref a2_, .ref a9_, .int 0, .int 0, .int 0, .int 0, .ref a10_, .int 0, .ref a11_, .ref a12_, .ref a13_, .int 0])), (a5_, .inr (6, [.ref a3_, .ref a4_, .ref a14_, .ref a15_, .int 0])), (a1_, .inr (10, [.ref a16_, .int 0, .ref a17_, .int 0, .ref a18_, .int 0, .ref a19_, .ref a20_, .ref a21_, .int 0, .ref a22_, .int 0, .int 0]))] sz (fun (u : Unit) => True) (fun (u : Unit) => [(a0_, .inr (8, [.ref a1_, .ref a3_, .ref a4_, .ref a5_, .int 0, .int 0, .int 0])), (a3_, .inr (12, [.ref a1_, .ref a6_, .ref a7_, .ref a8_, .int 1, .int 0, .int 0, .int (-1), .int 0, .int (-1)])), (a6_, .inl (cI, 1503, .inl (upd (upd (fun _ => 0) 0 0) 0 0))), (a7_, .inl (cI, 1503, .inl (upd (upd (fun _ => 0) 0 0) 0 0))), (a8_, .inl (cI, 1503, .inl (upd (upd (fun _ => 0) 0 0) 0 0))), (a4_, .inr (5, [.ref a1_, .ref a9_, .int 0, .int 0, .int 0, .int 0, .ref a10_, .int 0, .ref a11_, .ref a12_, .ref a13_, .int 0])), (a5_, .inr (6, [.ref a3_, .ref a4_, .ref a14_, .ref a15_, .int 0])), (a1_, .inr (10, [.ref a16_, .int 0, .ref a17_, .int 0, .ref a18_, .int 0, .ref a19_, .ref a20_, .ref a21_, .int 0, .ref a22_, .int 0, .int 0]))])) 0 0 (va_A [(a0_, .inr (8, [.ref a2_, .ref a3_, .ref a4_, .ref a5_, .int 0, .int 0, .int 0])), (a3_, .inr (12, [.ref a2_, .ref a6_, .ref a7_, .ref a8_, .int 1, .int 0, .int 0, .int (-1), .int 0, .int (-1)])), (a6_, .inl (cI, 1503, .inl (upd (fun _ => 0) 0 0))), (a7_, .inl (cI, 1503, .inl (upd (fun _ => 0) 0 0))), (a8_, .inl (cI, 1503, .inl (upd (fun _ => 0) 0 0))), (a4_, .inr (5, [.ref a2_, .ref a9_, .int 0, .int 0, .int 0, .int 0, .ref a10_, .int 0, .ref a11_, .ref a12_, .ref a13_, .int 0])), (a5_, .inr (6, [.ref a3_, .ref a4_, .ref a14_, .ref a15_, .int 0])), (a1_, .inr (10, [.ref a16_, .int 0, .ref a17_, .int 0, .ref a18_, .int 0, .ref a19_, .ref a20_, .ref a21_, .int 0, .ref a22_, .int 0, .int 0]))] sz) := by
  refine Met.ofW (cc := cX5_readText) (maxL := 4) (ret := none) (by decide) rfl ?_
  intro p e s m args below meth c s₁ B hml hv
  obtain ⟨rfl, hsz, hP, hKK, hD0, hFx⟩ := hv
  have hK := hKK.1
  have hx := B.exec
  have hb := B.bytes
  have hr := B.returns
  have ht : ∀ w ∈ tw_W, w.before _ s = true := fun w h => atoms_spec (ws := Cond.code yX5_readText cX5_readText 4 none :: tw_W) B.pre w (List.mem_cons_of_mem _ h)
  have hown : s.vm.findClass RX5 = some m.cls := findClass_of_methodNamed B.named
  have hlocks := B.notSynchronized
  subst hsz
  unfold qv_
  have hD := hD0.self (sz := s.heap.size)
  generalize hAe : va_A [(a0_, .inr (8, [.ref a2_, .ref a3_, .ref a4_, .ref a5_, .int 0, .int 0, .int 0])), (a3_, .inr (12, [.ref a2_, .ref a6_, .ref a7_, .ref a8_, .int 1, .int 0, .int 0, .int (-1), .int 0, .int (-1)])), (a6_, .inl (cI, 1503, .inl (upd (fun _ => 0) 0 0))), (a7_, .inl (cI, 1503, .inl (upd (fun _ => 0) 0 0))), (a8_, .inl (cI, 1503, .inl (upd (fun _ => 0) 0 0))), (a4_, .inr (5, [.ref a2_, .ref a9_, .int 0, .int 0, .int 0, .int 0, .ref a10_, .int 0, .ref a11_, .ref a12_, .ref a13_, .int 0])), (a5_, .inr (6, [.ref a3_, .ref a4_, .ref a14_, .ref a15_, .int 0])), (a1_, .inr (10, [.ref a16_, .int 0, .ref a17_, .int 0, .ref a18_, .int 0, .ref a19_, .ref a20_, .ref a21_, .int 0, .ref a22_, .int 0, .int 0]))] s.heap.size = A at hD hFx ⊢
  have hA : ∀ q : Nat, s.heap.size ≤ q → A q := fun q h => by rw [← hAe]; exact Or.inr h
  have hS : va_S A s.heap s.heap [] := va_S.rf
  have hP : va_P (dC, dI) vwCl [(a0_, .inr (8, [.ref a2_, .ref a3_, .ref a4_, .ref a5_, .int 0, .int 0, .int 0])), (a3_, .inr (12, [.ref a2_, .ref a6_, .ref a7_, .ref a8_, .int 1, .int 0, .int 0, .int (-1), .int 0, .int (-1)])), (a6_, .inl (cI, 1503, .inl (upd (fun _ => 0) 0 0))), (a7_, .inl (cI, 1503, .inl (upd (fun _ => 0) 0 0))), (a8_, .inl (cI, 1503, .inl (upd (fun _ => 0) 0 0))), (a4_, .inr (5, [.ref a2_, .ref a9_, .int 0, .int 0, .int 0, .int 0, .ref a10_, .int 0, .ref a11_, .ref a12_, .ref a13_, .int 0])), (a5_, .inr (6, [.ref a3_, .ref a4_, .ref a14_, .ref a15_, .int 0])), (a1_, .inr (10, [.ref a16_, .int 0, .ref a17_, .int 0, .ref a18_, .int 0, .ref a19_, .ref a20_, .ref a21_, .int 0, .ref a22_, .int 0, .int 0]))] s.heap := hP
  have hl := lv_entry ([.ref a0_, .ref a1_]) (n := 4) (Nat.le_of_ble_eq_true rfl)
  rw [lg_entry_eq]
  generalize (lg_sl ([.ref a0_, .ref a1_]) ++ List.replicate (4 - (lg_sl ([.ref a0_, .ref a1_])).length) Slot.unset).toArray = ls at hl ⊢
  have hl : lv_has ls 4 [(0, .ref a0_), (1, .ref a1_)] := hl
  refine lv_aload_n hx hb dX5_readText_0 rfl (lv_at hl 0 rfl) ?_
  refine lv_aload_n hx hb dX5_readText_1 rfl (lv_at hl 1 rfl) ?_
  refine va_put (D := (dC, dI)) (ci := 8) (v := .ref a1_) (ty := .object "PocketCompiler$Program") (C := RX5) (T := TX5) (N := 7) hx hb ht itX5 tyX5 tyX5_ok nmX5 hown hK hP hD hS 0 rfl rfl 0 (by decide) (ht _ tw_43) (fun _ h9 => h9) rfl (by decide +kernel) rfl rfl (Nat.le_of_ble_eq_true rfl) dX5_readText_2 (fun H locs hP hD hS => ?_)
  have hP : va_P (dC, dI) vwCl [(a0_, .inr (8, [.ref a1_, .ref a3_, .ref a4_, .ref a5_, .int 0, .int 0, .int 0])), (a3_, .inr (12, [.ref a2_, .ref a6_, .ref a7_, .ref a8_, .int 1, .int 0, .int 0, .int (-1), .int 0, .int (-1)])), (a6_, .inl (cI, 1503, .inl (upd (fun _ => 0) 0 0))), (a7_, .inl (cI, 1503, .inl (upd (fun _ => 0) 0 0))), (a8_, .inl (cI, 1503, .inl (upd (fun _ => 0) 0 0))), (a4_, .inr (5, [.ref a2_, .ref a9_, .int 0, .int 0, .int 0, .int 0, .ref a10_, .int 0, .ref a11_, .ref a12_, .ref a13_, .int 0])), (a5_, .inr (6, [.ref a3_, .ref a4_, .ref a14_, .ref a15_, .int 0])), (a1_, .inr (10, [.ref a16_, .int 0, .ref a17_, .int 0, .ref a18_, .int 0, .ref a19_, .ref a20_, .ref a21_, .int 0, .ref a22_, .int 0, .int 0]))] H := hP
  have hD : va_D A [(a0_, .inr (8, [.ref a1_, .ref a3_, .ref a4_, .ref a5_, .int 0, .int 0, .int 0])), (a3_, .inr (12, [.ref a2_, .ref a6_, .ref a7_, .ref a8_, .int 1, .int 0, .int 0, .int (-1), .int 0, .int (-1)])), (a6_, .inl (cI, 1503, .inl (upd (fun _ => 0) 0 0))), (a7_, .inl (cI, 1503, .inl (upd (fun _ => 0) 0 0))), (a8_, .inl (cI, 1503, .inl (upd (fun _ => 0) 0 0))), (a4_, .inr (5, [.ref a2_, .ref a9_, .int 0, .int 0, .int 0, .int 0, .ref a10_, .int 0, .ref a11_, .ref a12_, .ref a13_, .int 0])), (a5_, .inr (6, [.ref a3_, .ref a4_, .ref a14_, .ref a15_, .int 0])), (a1_, .inr (10, [.ref a16_, .int 0, .ref a17_, .int 0, .ref a18_, .int 0, .ref a19_, .ref a20_, .ref a21_, .int 0, .ref a22_, .int 0, .int 0]))] := hD
  refine lv_aload_n hx hb dX5_readText_5 rfl (lv_at hl 0 rfl) ?_
  refine va_get (D := (dC, dI)) (ci := 8) (v := .ref a3_) (C := RX5) (T := TX5) (N := 7) hx hb ht itX5 hown hK hP 0 rfl rfl 1 (by decide) (ht _ tw_56) (fun _ h9 => h9) rfl dX5_readText_6 ?_
  refine lv_aload_n hx hb dX5_readText_9 rfl (lv_at hl 1 rfl) ?_
  refine ca_v (wr := [(a0_, .inr (8, [.ref a1_, .ref a3_, .ref a4_, .ref a5_, .int 0, .int 0, .int 0])), (a4_, .inr (5, [.ref a2_, .ref a9_, .int 0, .int 0, .int 0, .int 0, .ref a10_, .int 0, .ref a11_, .ref a12_, .ref a13_, .int 0])), (a5_, .inr (6, [.ref a3_, .ref a4_, .ref a14_, .ref a15_, .int 0]))]) (rn_V (n := 1) (As := [.ref a1_]) (rest := []) hx hb hml hown ht hKK hFx hP hD hS hA (c_X9_scan_2 l dC dI cI cB cZ cJ cR tb H.size a3_ a1_ a2_ a6_ a7_ a8_ a16_ a17_ a18_ a19_ a20_ a21_ a22_) tw_165 tw_166 (by decide +kernel) rfl rfl ⟨Nat.le_of_ble_eq_true rfl, Nat.le_of_ble_eq_true rfl⟩ [1, 2, 3, 4, 7] rfl (by decide) rfl rfl rfl rfl hl.1 rfl (Nat.le_of_ble_eq_true rfl) dX5_readText_10 ⟨Nat.le_of_ble_eq_true rfl, Nat.le_of_ble_eq_true rfl⟩) hP hD hS hA (isC := [1, 2, 3, 4, 7]) (isR := [0, 5, 6]) rfl rfl (by decide) (by decide) (fun u H locs hw1 hP hD hS => ?_)
  have hP : va_P (dC, dI) vwCl [(a0_, .inr (8, [.ref a1_, .ref a3_, .ref a4_, .ref a5_, .int 0, .int 0, .int 0])), (a4_, .inr (5, [.ref a2_, .ref a9_, .int 0, .int 0, .int 0, .int 0, .ref a10_, .int 0, .ref a11_, .ref a12_, .ref a13_, .int 0])), (a5_, .inr (6, [.ref a3_, .ref a4_, .ref a14_, .ref a15_, .int 0])), (a3_, .inr (12, [.ref a1_, .ref a6_, .ref a7_, .ref a8_, .int 1, .int 0, .int 0, .int (-1), .int 0, .int (-1)])), (a6_, .inl (cI, 1503, .inl (upd (upd (fun _ => 0) 0 0) 0 0))), (a7_, .inl (cI, 1503, .inl (upd (upd (fun _ => 0) 0 0) 0 0))), (a8_, .inl (cI, 1503, .inl (upd (upd (fun _ => 0) 0 0) 0 0))), (a1_, .inr (10, [.ref a16_, .int 0, .ref a17_, .int 0, .ref a18_, .int 0, .ref a19_, .ref a20_, .ref a21_, .int 0, .ref a22_, .int 0, .int 0]))] H := hP
  have hD : va_D A [(a0_, .inr (8, [.ref a1_, .ref a3_, .ref a4_, .ref a5_, .int 0, .int 0, .int 0])), (a4_, .inr (5, [.ref a2_, .ref a9_, .int 0, .int 0, .int 0, .int 0, .ref a10_, .int 0, .ref a11_, .ref a12_, .ref a13_, .int 0])), (a5_, .inr (6, [.ref a3_, .ref a4_, .ref a14_, .ref a15_, .int 0])), (a3_, .inr (12, [.ref a1_, .ref a6_, .ref a7_, .ref a8_, .int 1, .int 0, .int 0, .int (-1), .int 0, .int (-1)])), (a6_, .inl (cI, 1503, .inl (upd (upd (fun _ => 0) 0 0) 0 0))), (a7_, .inl (cI, 1503, .inl (upd (upd (fun _ => 0) 0 0) 0 0))), (a8_, .inl (cI, 1503, .inl (upd (upd (fun _ => 0) 0 0) 0 0))), (a1_, .inr (10, [.ref a16_, .int 0, .ref a17_, .int 0, .ref a18_, .int 0, .ref a19_, .ref a20_, .ref a21_, .int 0, .ref a22_, .int 0, .int 0]))] := hD
  refine W.widen (k := 0) (n := 0) (by omega) (by omega) ?_
  refine lv_aload_n hx hb dX5_readText_13 rfl (lv_at hl 0 rfl) ?_
  refine va_get (D := (dC, dI)) (ci := 8) (v := .ref a4_) (C := RX5) (T := TX5) (N := 7) hx hb ht itX5 hown hK hP 0 rfl rfl 2 (by decide) (ht _ tw_64) (fun _ h9 => h9) rfl dX5_readText_14 ?_
  refine lv_aload_n hx hb dX5_readText_17 rfl (lv_at hl 1 rfl) ?_
  refine ca_v (wr := [(a0_, .inr (8, [.ref a1_, .ref a3_, .ref a4_, .ref a5_, .int 0, .int 0, .int 0])), (a5_, .inr (6, [.ref a3_, .ref a4_, .ref a14_, .ref a15_, .int 0])), (a3_, .inr (12, [.ref a1_, .ref a6_, .ref a7_, .ref a8_, .int 1, .int 0, .int 0, .int (-1), .int 0, .int (-1)])), (a6_, .inl (cI, 1503, .inl (upd (upd (fun _ => 0) 0 0) 0 0))), (a7_, .inl (cI, 1503, .inl (upd (upd (fun _ => 0) 0 0) 0 0))), (a8_, .inl (cI, 1503, .inl (upd (upd (fun _ => 0) 0 0) 0 0)))]) (rn_V (n := 1) (As := [.ref a1_]) (rest := []) hx hb hml hown ht hKK hFx hP hD hS hA (c_X1_begin_2 l dC dI cI cB cZ cJ cR tb H.size a4_ a1_ a2_ a9_ a10_ a11_ a12_ a13_ a16_ a17_ a18_ a19_ a20_ a21_ a22_) tw_176 tw_177 (by decide +kernel) rfl rfl ⟨Nat.le_of_ble_eq_true rfl, Nat.le_of_ble_eq_true rfl⟩ [1, 7] rfl (by decide) rfl rfl rfl rfl hl.1 rfl (Nat.le_of_ble_eq_true rfl) dX5_readText_18 ⟨Nat.le_of_ble_eq_true rfl, Nat.le_of_ble_eq_true rfl⟩) hP hD hS hA (isC := [1, 7]) (isR := [0, 2, 3, 4, 5, 6]) rfl rfl (by decide) (by decide) (fun u H locs hw2 hP hD hS => ?_)
  have hP : va_P (dC, dI) vwCl [(a0_, .inr (8, [.ref a1_, .ref a3_, .ref a4_, .ref a5_, .int 0, .int 0, .int 0])), (a5_, .inr (6, [.ref a3_, .ref a4_, .ref a14_, .ref a15_, .int 0])), (a3_, .inr (12, [.ref a1_, .ref a6_, .ref a7_, .ref a8_, .int 1, .int 0, .int 0, .int (-1), .int 0, .int (-1)])), (a6_, .inl (cI, 1503, .inl (upd (upd (fun _ => 0) 0 0) 0 0))), (a7_, .inl (cI, 1503, .inl (upd (upd (fun _ => 0) 0 0) 0 0))), (a8_, .inl (cI, 1503, .inl (upd (upd (fun _ => 0) 0 0) 0 0))), (a4_, .inr (5, [.ref a1_, .ref a9_, .int 0, .int 0, .int 0, .int 0, .ref a10_, .int 0, .ref a11_, .ref a12_, .ref a13_, .int 0])), (a1_, .inr (10, [.ref a16_, .int 0, .ref a17_, .int 0, .ref a18_, .int 0, .ref a19_, .ref a20_, .ref a21_, .int 0, .ref a22_, .int 0, .int 0]))] H := hP
  have hD : va_D A [(a0_, .inr (8, [.ref a1_, .ref a3_, .ref a4_, .ref a5_, .int 0, .int 0, .int 0])), (a5_, .inr (6, [.ref a3_, .ref a4_, .ref a14_, .ref a15_, .int 0])), (a3_, .inr (12, [.ref a1_, .ref a6_, .ref a7_, .ref a8_, .int 1, .int 0, .int 0, .int (-1), .int 0, .int (-1)])), (a6_, .inl (cI, 1503, .inl (upd (upd (fun _ => 0) 0 0) 0 0))), (a7_, .inl (cI, 1503, .inl (upd (upd (fun _ => 0) 0 0) 0 0))), (a8_, .inl (cI, 1503, .inl (upd (upd (fun _ => 0) 0 0) 0 0))), (a4_, .inr (5, [.ref a1_, .ref a9_, .int 0, .int 0, .int 0, .int 0, .ref a10_, .int 0, .ref a11_, .ref a12_, .ref a13_, .int 0])), (a1_, .inr (10, [.ref a16_, .int 0, .ref a17_, .int 0, .ref a18_, .int 0, .ref a19_, .ref a20_, .ref a21_, .int 0, .ref a22_, .int 0, .int 0]))] := hD
  refine W.widen (k := 0) (n := 0) (by omega) (by omega) ?_
  refine lv_aload_n hx hb dX5_readText_21 rfl (lv_at hl 0 rfl) ?_
  refine va_get (D := (dC, dI)) (ci := 8) (v := .ref a5_) (C := RX5) (T := TX5) (N := 7) hx hb ht itX5 hown hK hP 0 rfl rfl 3 (by decide) (ht _ tw_72) (fun _ h9 => h9) rfl dX5_readText_22 ?_
  refine ca_v (wr := [(a0_, .inr (8, [.ref a1_, .ref a3_, .ref a4_, .ref a5_, .int 0, .int 0, .int 0])), (a3_, .inr (12, [.ref a1_, .ref a6_, .ref a7_, .ref a8_, .int 1, .int 0, .int 0, .int (-1), .int 0, .int (-1)])), (a6_, .inl (cI, 1503, .inl (upd (upd (fun _ => 0) 0 0) 0 0))), (a7_, .inl (cI, 1503, .inl (upd (upd (fun _ => 0) 0 0) 0 0))), (a8_, .inl (cI, 1503, .inl (upd (upd (fun _ => 0) 0 0) 0 0))), (a4_, .inr (5, [.ref a1_, .ref a9_, .int 0, .int 0, .int 0, .int 0, .ref a10_, .int 0, .ref a11_, .ref a12_, .ref a13_, .int 0])), (a1_, .inr (10, [.ref a16_, .int 0, .ref a17_, .int 0, .ref a18_, .int 0, .ref a19_, .ref a20_, .ref a21_, .int 0, .ref a22_, .int 0, .int 0]))]) (rn_V (n := 0) (As := []) (rest := []) hx hb hml hown ht hKK hFx hP hD hS hA (c_X2_begin l dC dI cI cB cZ cJ cR tb H.size a5_ a3_ a4_ a14_ a15_) tw_179 tw_180 (by decide +kernel) rfl rfl ⟨Nat.le_of_ble_eq_true rfl, Nat.le_of_ble_eq_true rfl⟩ [1] rfl (by decide) rfl rfl rfl rfl hl.1 rfl (Nat.le_of_ble_eq_true rfl) dX5_readText_25 ⟨Nat.le_of_ble_eq_true rfl, Nat.le_of_ble_eq_true rfl⟩) hP hD hS hA (isC := [1]) (isR := [0, 2, 3, 4, 5, 6, 7]) rfl rfl (by decide) (by decide) (fun u H locs hw3 hP hD hS => ?_)
  have hP : va_P (dC, dI) vwCl [(a0_, .inr (8, [.ref a1_, .ref a3_, .ref a4_, .ref a5_, .int 0, .int 0, .int 0])), (a3_, .inr (12, [.ref a1_, .ref a6_, .ref a7_, .ref a8_, .int 1, .int 0, .int 0, .int (-1), .int 0, .int (-1)])), (a6_, .inl (cI, 1503, .inl (upd (upd (fun _ => 0) 0 0) 0 0))), (a7_, .inl (cI, 1503, .inl (upd (upd (fun _ => 0) 0 0) 0 0))), (a8_, .inl (cI, 1503, .inl (upd (upd (fun _ => 0) 0 0) 0 0))), (a4_, .inr (5, [.ref a1_, .ref a9_, .int 0, .int 0, .int 0, .int 0, .ref a10_, .int 0, .ref a11_, .ref a12_, .ref a13_, .int 0])), (a1_, .inr (10, [.ref a16_, .int 0, .ref a17_, .int 0, .ref a18_, .int 0, .ref a19_, .ref a20_, .ref a21_, .int 0, .ref a22_, .int 0, .int 0])), (a5_, .inr (6, [.ref a3_, .ref a4_, .ref a14_, .ref a15_, .int 0]))] H := hP
  have hD : va_D A [(a0_, .inr (8, [.ref a1_, .ref a3_, .ref a4_, .ref a5_, .int 0, .int 0, .int 0])), (a3_, .inr (12, [.ref a1_, .ref a6_, .ref a7_, .ref a8_, .int 1, .int 0, .int 0, .int (-1), .int 0, .int (-1)])), (a6_, .inl (cI, 1503, .inl (upd (upd (fun _ => 0) 0 0) 0 0))), (a7_, .inl (cI, 1503, .inl (upd (upd (fun _ => 0) 0 0) 0 0))), (a8_, .inl (cI, 1503, .inl (upd (upd (fun _ => 0) 0 0) 0 0))), (a4_, .inr (5, [.ref a1_, .ref a9_, .int 0, .int 0, .int 0, .int 0, .ref a10_, .int 0, .ref a11_, .ref a12_, .ref a13_, .int 0])), (a1_, .inr (10, [.ref a16_, .int 0, .ref a17_, .int 0, .ref a18_, .int 0, .ref a19_, .ref a20_, .ref a21_, .int 0, .ref a22_, .int 0, .int 0])), (a5_, .inr (6, [.ref a3_, .ref a4_, .ref a14_, .ref a15_, .int 0]))] := hD
  refine W.widen (k := 0) (n := 0) (by omega) (by omega) ?_
  refine lv_iconst (v := 0) hx hb dX5_readText_28 (by decide) ?_
  refine lv_istore_n (lv' := [(2, .int 0), (0, .ref a0_), (1, .ref a1_)]) hx hb dX5_readText_29 rfl hl (by decide) rfl (fun ls hl => ?_)
  refine lv_iload_n hx hb dX5_readText_30 rfl (lv_at hl 0 rfl) ?_
  refine lv_sipush (v := 1500) hx hb dX5_readText_31 (by decide) ?_
  refine lv_icmp_ge (tgt := 76) hx hb dX5_readText_34 (by decide) (fun k4 => absurd k4 (by decide)) (fun _ => ?_)
  refine lv_aload_n hx hb dX5_readText_37 rfl (lv_at hl 1 rfl) ?_
  refine va_get (D := (dC, dI)) (ci := 8) (v := .ref a3_) (C := RX5) (T := TX5) (N := 7) hx hb ht itX5 hown hK hP 0 rfl rfl 1 (by decide) (ht _ tw_56) (fun _ h9 => h9) rfl dX5_readText_38 ?_
  refine ca_i (wr := [(a0_, .inr (8, [.ref a1_, .ref a3_, .ref a4_, .ref a5_, .int 0, .int 0, .int 0])), (a7_, .inl (cI, 1503, .inl (upd (upd (fun _ => 0) 0 0) 0 0))), (a8_, .inl (cI, 1503, .inl (upd (upd (fun _ => 0) 0 0) 0 0))), (a4_, .inr (5, [.ref a1_, .ref a9_, .int 0, .int 0, .int 0, .int 0, .ref a10_, .int 0, .ref a11_, .ref a12_, .ref a13_, .int 0])), (a1_, .inr (10, [.ref a16_, .int 0, .ref a17_, .int 0, .ref a18_, .int 0, .ref a19_, .ref a20_, .ref a21_, .int 0, .ref a22_, .int 0, .int 0])), (a5_, .inr (6, [.ref a3_, .ref a4_, .ref a14_, .ref a15_, .int 0]))]) (rn_V (n := 0) (As := []) (rest := []) hx hb hml hown ht hKK hFx hP hD hS hA (c_X9_kind_2 l dC dI cI cB cZ cJ cR tb H.size a3_ a1_ a6_ a7_ a8_) tw_181 tw_182 (by decide +kernel) rfl rfl ⟨Nat.le_of_ble_eq_true rfl, Nat.le_of_ble_eq_true rfl⟩ [1, 2] rfl (by decide) rfl rfl rfl rfl hl.1 rfl (Nat.le_of_ble_eq_true rfl) dX5_readText_41 ⟨Nat.le_of_ble_eq_true rfl, Nat.le_of_ble_eq_true rfl⟩) hP hD hS hA (isC := [1, 2]) (isR := [0, 3, 4, 5, 6, 7]) rfl rfl (by decide) (by decide) (fun r6 u H locs hw5 hP hD hS => ?_)
  subst hw5
  have hP : va_P (dC, dI) vwCl [(a0_, .inr (8, [.ref a1_, .ref a3_, .ref a4_, .ref a5_, .int 0, .int 0, .int 0])), (a7_, .inl (cI, 1503, .inl (upd (upd (fun _ => 0) 0 0) 0 0))), (a8_, .inl (cI, 1503, .inl (upd (upd (fun _ => 0) 0 0) 0 0))), (a4_, .inr (5, [.ref a1_, .ref a9_, .int 0, .int 0, .int 0, .int 0, .ref a10_, .int 0, .ref a11_, .ref a12_, .ref a13_, .int 0])), (a1_, .inr (10, [.ref a16_, .int 0, .ref a17_, .int 0, .ref a18_, .int 0, .ref a19_, .ref a20_, .ref a21_, .int 0, .ref a22_, .int 0, .int 0])), (a5_, .inr (6, [.ref a3_, .ref a4_, .ref a14_, .ref a15_, .int 0])), (a3_, .inr (12, [.ref a1_, .ref a6_, .ref a7_, .ref a8_, .int 1, .int 0, .int 0, .int (-1), .int 0, .int (-1)])), (a6_, .inl (cI, 1503, .inl (upd (upd (fun _ => 0) 0 0) 0 0)))] H := hP
  have hD : va_D A [(a0_, .inr (8, [.ref a1_, .ref a3_, .ref a4_, .ref a5_, .int 0, .int 0, .int 0])), (a7_, .inl (cI, 1503, .inl (upd (upd (fun _ => 0) 0 0) 0 0))), (a8_, .inl (cI, 1503, .inl (upd (upd (fun _ => 0) 0 0) 0 0))), (a4_, .inr (5, [.ref a1_, .ref a9_, .int 0, .int 0, .int 0, .int 0, .ref a10_, .int 0, .ref a11_, .ref a12_, .ref a13_, .int 0])), (a1_, .inr (10, [.ref a16_, .int 0, .ref a17_, .int 0, .ref a18_, .int 0, .ref a19_, .ref a20_, .ref a21_, .int 0, .ref a22_, .int 0, .int 0])), (a5_, .inr (6, [.ref a3_, .ref a4_, .ref a14_, .ref a15_, .int 0])), (a3_, .inr (12, [.ref a1_, .ref a6_, .ref a7_, .ref a8_, .int 1, .int 0, .int 0, .int (-1), .int 0, .int (-1)])), (a6_, .inl (cI, 1503, .inl (upd (upd (fun _ => 0) 0 0) 0 0)))] := hD
  refine W.widen (k := 0) (n := 0) (by omega) (by omega) ?_
  refine lv_if_eq (tgt := 76) hx hb dX5_readText_44 (by decide) (fun _ => ?_) (fun k7 => absurd k7 (by decide))
  refine lv_aload_n hx hb dX5_readText_76 rfl (lv_at hl 1 rfl) ?_
  refine ca_v (wr := [(a7_, .inl (cI, 1503, .inl (upd (upd (fun _ => 0) 0 0) 0 0))), (a8_, .inl (cI, 1503, .inl (upd (upd (fun _ => 0) 0 0) 0 0))), (a1_, .inr (10, [.ref a16_, .int 0, .ref a17_, .int 0, .ref a18_, .int 0, .ref a19_, .ref a20_, .ref a21_, .int 0, .ref a22_, .int 0, .int 0])), (a5_, .inr (6, [.ref a3_, .ref a4_, .ref a14_, .ref a15_, .int 0])), (a3_, .inr (12, [.ref a1_, .ref a6_, .ref a7_, .ref a8_, .int 1, .int 0, .int 0, .int (-1), .int 0, .int (-1)])), (a6_, .inl (cI, 1503, .inl (upd (upd (fun _ => 0) 0 0) 0 0)))]) (rn_V (n := 0) (As := []) (rest := []) hx hb hml hown ht hKK hFx hP hD hS hA (c_X5_checkCalls l dC dI cI cB cZ cJ cR tb H.size a0_ a1_ a3_ a4_ a5_ a9_ a10_ a11_ a12_ a13_) tw_183 tw_184 (by decide +kernel) rfl rfl ⟨Nat.le_of_ble_eq_true rfl, Nat.le_of_ble_eq_true rfl⟩ [0, 3] rfl (by decide) rfl rfl rfl rfl hl.1 rfl (Nat.le_of_ble_eq_true rfl) dX5_readText_77 ⟨Nat.le_of_ble_eq_true rfl, Nat.le_of_ble_eq_true rfl⟩) hP hD hS hA (isC := [0, 3]) (isR := [1, 2, 4, 5, 6, 7]) rfl rfl (by decide) (by decide) (fun u H locs hw8 hP hD hS => ?_)
  have hP : va_P (dC, dI) vwCl [(a7_, .inl (cI, 1503, .inl (upd (upd (fun _ => 0) 0 0) 0 0))), (a8_, .inl (cI, 1503, .inl (upd (upd (fun _ => 0) 0 0) 0 0))), (a1_, .inr (10, [.ref a16_, .int 0, .ref a17_, .int 0, .ref a18_, .int 0, .ref a19_, .ref a20_, .ref a21_, .int 0, .ref a22_, .int 0, .int 0])), (a5_, .inr (6, [.ref a3_, .ref a4_, .ref a14_, .ref a15_, .int 0])), (a3_, .inr (12, [.ref a1_, .ref a6_, .ref a7_, .ref a8_, .int 1, .int 0, .int 0, .int (-1), .int 0, .int (-1)])), (a6_, .inl (cI, 1503, .inl (upd (upd (fun _ => 0) 0 0) 0 0))), (a0_, .inr (8, [.ref a1_, .ref a3_, .ref a4_, .ref a5_, .int 0, .int 0, .int 0])), (a4_, .inr (5, [.ref a1_, .ref a9_, .int 0, .int 0, .int 0, .int 0, .ref a10_, .int 0, .ref a11_, .ref a12_, .ref a13_, .int 0]))] H := hP
  have hD : va_D A [(a7_, .inl (cI, 1503, .inl (upd (upd (fun _ => 0) 0 0) 0 0))), (a8_, .inl (cI, 1503, .inl (upd (upd (fun _ => 0) 0 0) 0 0))), (a1_, .inr (10, [.ref a16_, .int 0, .ref a17_, .int 0, .ref a18_, .int 0, .ref a19_, .ref a20_, .ref a21_, .int 0, .ref a22_, .int 0, .int 0])), (a5_, .inr (6, [.ref a3_, .ref a4_, .ref a14_, .ref a15_, .int 0])), (a3_, .inr (12, [.ref a1_, .ref a6_, .ref a7_, .ref a8_, .int 1, .int 0, .int 0, .int (-1), .int 0, .int (-1)])), (a6_, .inl (cI, 1503, .inl (upd (upd (fun _ => 0) 0 0) 0 0))), (a0_, .inr (8, [.ref a1_, .ref a3_, .ref a4_, .ref a5_, .int 0, .int 0, .int 0])), (a4_, .inr (5, [.ref a1_, .ref a9_, .int 0, .int 0, .int 0, .int 0, .ref a10_, .int 0, .ref a11_, .ref a12_, .ref a13_, .int 0]))] := hD
  refine W.widen (k := 0) (n := 0) (by omega) (by omega) ?_
  refine lv_aload_n hx hb dX5_readText_80 rfl (lv_at hl 1 rfl) ?_
  refine va_get (D := (dC, dI)) (ci := 8) (v := .ref a4_) (C := RX5) (T := TX5) (N := 7) hx hb ht itX5 hown hK hP 6 rfl rfl 2 (by decide) (ht _ tw_64) (fun _ h9 => h9) rfl dX5_readText_81 ?_
  refine ca_v (wr := [(a7_, .inl (cI, 1503, .inl (upd (upd (fun _ => 0) 0 0) 0 0))), (a8_, .inl (cI, 1503, .inl (upd (upd (fun _ => 0) 0 0) 0 0))), (a5_, .inr (6, [.ref a3_, .ref a4_, .ref a14_, .ref a15_, .int 0])), (a3_, .inr (12, [.ref a1_, .ref a6_, .ref a7_, .ref a8_, .int 1, .int 0, .int 0, .int (-1), .int 0, .int (-1)])), (a6_, .inl (cI, 1503, .inl (upd (upd (fun _ => 0) 0 0) 0 0))), (a0_, .inr (8, [.ref a1_, .ref a3_, .ref a4_, .ref a5_, .int 0, .int 0, .int 0]))]) (rn_V (n := 0) (As := []) (rest := []) hx hb hml hown ht hKK hFx hP hD hS hA (c_X1_link l dC dI cI cB cZ cJ cR tb H.size a4_ a1_ a9_ a10_ a11_ a12_ a13_ a16_ a17_ a18_ a19_ a20_ a21_ a22_) tw_186 tw_187 (by decide +kernel) rfl rfl ⟨Nat.le_of_ble_eq_true rfl, Nat.le_of_ble_eq_true rfl⟩ [7, 2] rfl (by decide) rfl rfl rfl rfl hl.1 rfl (Nat.le_of_ble_eq_true rfl) dX5_readText_84 ⟨Nat.le_of_ble_eq_true rfl, Nat.le_of_ble_eq_true rfl⟩) hP hD hS hA (isC := [7, 2]) (isR := [0, 1, 3, 4, 5, 6]) rfl rfl (by decide) (by decide) (fun u H locs hw9 hP hD hS => ?_)
  have hP : va_P (dC, dI) vwCl [(a7_, .inl (cI, 1503, .inl (upd (upd (fun _ => 0) 0 0) 0 0))), (a8_, .inl (cI, 1503, .inl (upd (upd (fun _ => 0) 0 0) 0 0))), (a5_, .inr (6, [.ref a3_, .ref a4_, .ref a14_, .ref a15_, .int 0])), (a3_, .inr (12, [.ref a1_, .ref a6_, .ref a7_, .ref a8_, .int 1, .int 0, .int 0, .int (-1), .int 0, .int (-1)])), (a6_, .inl (cI, 1503, .inl (upd (upd (fun _ => 0) 0 0) 0 0))), (a0_, .inr (8, [.ref a1_, .ref a3_, .ref a4_, .ref a5_, .int 0, .int 0, .int 0])), (a4_, .inr (5, [.ref a1_, .ref a9_, .int 0, .int 0, .int 0, .int 0, .ref a10_, .int 0, .ref a11_, .ref a12_, .ref a13_, .int 0])), (a1_, .inr (10, [.ref a16_, .int 0, .ref a17_, .int 0, .ref a18_, .int 0, .ref a19_, .ref a20_, .ref a21_, .int 0, .ref a22_, .int 0, .int 0]))] H := hP
  have hD : va_D A [(a7_, .inl (cI, 1503, .inl (upd (upd (fun _ => 0) 0 0) 0 0))), (a8_, .inl (cI, 1503, .inl (upd (upd (fun _ => 0) 0 0) 0 0))), (a5_, .inr (6, [.ref a3_, .ref a4_, .ref a14_, .ref a15_, .int 0])), (a3_, .inr (12, [.ref a1_, .ref a6_, .ref a7_, .ref a8_, .int 1, .int 0, .int 0, .int (-1), .int 0, .int (-1)])), (a6_, .inl (cI, 1503, .inl (upd (upd (fun _ => 0) 0 0) 0 0))), (a0_, .inr (8, [.ref a1_, .ref a3_, .ref a4_, .ref a5_, .int 0, .int 0, .int 0])), (a4_, .inr (5, [.ref a1_, .ref a9_, .int 0, .int 0, .int 0, .int 0, .ref a10_, .int 0, .ref a11_, .ref a12_, .ref a13_, .int 0])), (a1_, .inr (10, [.ref a16_, .int 0, .ref a17_, .int 0, .ref a18_, .int 0, .ref a19_, .ref a20_, .ref a21_, .int 0, .ref a22_, .int 0, .int 0]))] := hD
  refine W.widen (k := 0) (n := 0) (by omega) (by omega) ?_
  have hP9 := hP.sub (ws' := [(a0_, .inr (8, [.ref a1_, .ref a3_, .ref a4_, .ref a5_, .int 0, .int 0, .int 0])), (a3_, .inr (12, [.ref a1_, .ref a6_, .ref a7_, .ref a8_, .int 1, .int 0, .int 0, .int (-1), .int 0, .int (-1)])), (a6_, .inl (cI, 1503, .inl (upd (upd (fun _ => 0) 0 0) 0 0))), (a7_, .inl (cI, 1503, .inl (upd (upd (fun _ => 0) 0 0) 0 0))), (a8_, .inl (cI, 1503, .inl (upd (upd (fun _ => 0) 0 0) 0 0))), (a4_, .inr (5, [.ref a1_, .ref a9_, .int 0, .int 0, .int 0, .int 0, .ref a10_, .int 0, .ref a11_, .ref a12_, .ref a13_, .int 0])), (a5_, .inr (6, [.ref a3_, .ref a4_, .ref a14_, .ref a15_, .int 0])), (a1_, .inr (10, [.ref a16_, .int 0, .ref a17_, .int 0, .ref a18_, .int 0, .ref a19_, .ref a20_, .ref a21_, .int 0, .ref a22_, .int 0, .int 0]))]) [5, 3, 4, 0, 1, 6, 2, 7] rfl
  have hD9 := hD.sub (ws' := [(a0_, .inr (8, [.ref a1_, .ref a3_, .ref a4_, .ref a5_, .int 0, .int 0, .int 0])), (a3_, .inr (12, [.ref a1_, .ref a6_, .ref a7_, .ref a8_, .int 1, .int 0, .int 0, .int (-1), .int 0, .int (-1)])), (a6_, .inl (cI, 1503, .inl (upd (upd (fun _ => 0) 0 0) 0 0))), (a7_, .inl (cI, 1503, .inl (upd (upd (fun _ => 0) 0 0) 0 0))), (a8_, .inl (cI, 1503, .inl (upd (upd (fun _ => 0) 0 0) 0 0))), (a4_, .inr (5, [.ref a1_, .ref a9_, .int 0, .int 0, .int 0, .int 0, .ref a10_, .int 0, .ref a11_, .ref a12_, .ref a13_, .int 0])), (a5_, .inr (6, [.ref a3_, .ref a4_, .ref a14_, .ref a15_, .int 0])), (a1_, .inr (10, [.ref a16_, .int 0, .ref a17_, .int 0, .ref a18_, .int 0, .ref a19_, .ref a20_, .ref a21_, .int 0, .ref a22_, .int 0, .int 0]))]) [5, 3, 4, 0, 1, 6, 2, 7] (by decide) rfl
  refine W.widen (k := 0) (n := 0) (by omega) (by omega) ?_
  exact W.vret hx hb hr (fun t ht9 hW => ⟨⟨(), rfl, trivial, by rw [ht9]; exact hP9, hD9⟩, hS.F ht9⟩) hS.2.2 dX5_readText_87
set_option maxHeartbeats 4000000 in
set_option maxRecDepth 100000 in
theorem c_X0_emit_5 (l : Launch) (dC : Nat → ClassId) (dI : Nat → Nat → Nat) (cI cB cZ cJ cR : ClassId) (tb : Nat → Nat) (sz : Nat) (a0_ : Nat) (a1_ : Nat) (N : Nat) (a2_ : Nat) (hf_N_0 : 256 ≤ N) (hf_N_1 : N ≤ 4096) : Met l yX0_emit (Cond.code yX0_emit cX0_emit 2 none :: tw_W) ({ frames := 0, cells := 0, slots := 0, locals := 0 }) (pc_ (dC, dI) (tyS cI cB cZ cJ cR) tb [(a0_, .inr (4, [.ref a1_, .int (4 * (nI N)), .ref a2_, .int 0, .int 0, .int 0, .int 0, .int 8, .int 8]))] sz [.ref a0_, .int 2195]) (qv_ (dC, dI) [(a0_, .inr (4, [.ref a1_, .int (4 * (nI N)), .ref a2_, .int 0, .int 0, .int 0, .int 0, .int 8, .int 8]))] sz (fun (u : Unit) => True) (fun (u : Unit) => [(a0_, .inr (4, [.ref a1_, .int (4 * (nI N)), .ref a2_, .int 1, .int 0, .int 0, .int 0, .int 8, .int 8]))])) 0 0 (va_A [(a0_, .inr (4, [.ref a1_, .int (4 * (nI N)), .ref a2_, .int 0, .int 0, .int 0, .int 0, .int 8, .int 8]))] sz) := by
  refine Met.ofW (cc := cX0_emit) (maxL := 2) (ret := none) (by decide) rfl ?_
  intro p e s m args below meth c s₁ B hml hv
  obtain ⟨rfl, hsz, hP, hKK, hD0, hFx⟩ := hv
  have hK := hKK.1
  have hx := B.exec
  have hb := B.bytes
  have hr := B.returns
  have ht : ∀ w ∈ tw_W, w.before _ s = true := fun w h => atoms_spec (ws := Cond.code yX0_emit cX0_emit 2 none :: tw_W) B.pre w (List.mem_cons_of_mem _ h)
  have hown : s.vm.findClass RX0 = some m.cls := findClass_of_methodNamed B.named
  have hlocks := B.notSynchronized
  subst hsz
  unfold qv_
  have hD := hD0.self (sz := s.heap.size)
  generalize hAe : va_A [(a0_, .inr (4, [.ref a1_, .int (4 * (nI N)), .ref a2_, .int 0, .int 0, .int 0, .int 0, .int 8, .int 8]))] s.heap.size = A at hD hFx ⊢
  have hA : ∀ q : Nat, s.heap.size ≤ q → A q := fun q h => by rw [← hAe]; exact Or.inr h
  have hS : va_S A s.heap s.heap [] := va_S.rf
  have hP : va_P (dC, dI) vwCl [(a0_, .inr (4, [.ref a1_, .int (4 * (nI N)), .ref a2_, .int 0, .int 0, .int 0, .int 0, .int 8, .int 8]))] s.heap := hP
  have hl := lv_entry ([.ref a0_, .int 2195]) (n := 2) (Nat.le_of_ble_eq_true rfl)
  rw [lg_entry_eq]
  generalize (lg_sl ([.ref a0_, .int 2195]) ++ List.replicate (2 - (lg_sl ([.ref a0_, .int 2195])).length) Slot.unset).toArray = ls at hl ⊢
  have hl : lv_has ls 2 [(0, .ref a0_), (1, .int 2195)] := hl
  refine lv_aload_n hx hb dX0_emit_0 rfl (lv_at hl 0 rfl) ?_
  refine va_get (D := (dC, dI)) (ci := 4) (v := .int 0) (C := RX0) (T := TX0) (N := 9) hx hb ht itX0 hown hK hP 0 rfl rfl 4 (by decide) (ht _ tw_190) (fun _ h9 => h9) rfl dX0_emit_1 ?_
  refine lv_if_eq (tgt := 35) hx hb dX0_emit_4 (by decide) (fun _ => ?_) (fun k1 => absurd k1 (by decide))
  refine lv_aload_n hx hb dX0_emit_35 rfl (lv_at hl 0 rfl) ?_
  refine lv_dup hx hb dX0_emit_36 rfl ?_
  refine va_get (D := (dC, dI)) (ci := 4) (v := .int 0) (C := RX0) (T := TX0) (N := 9) hx hb ht itX0 hown hK hP 0 rfl rfl 3 (by decide) (ht _ tw_191) (fun _ h9 => h9) rfl dX0_emit_37 ?_
  refine lv_iconst (v := 1) hx hb dX0_emit_40 (by decide) ?_
  refine lv_iadd hx hb dX0_emit_41 ?_
  refine tp_i (y := 1) (by decide) ?_
  refine va_put (D := (dC, dI)) (ci := 4) (v := .int 1) (ty := .int) (C := RX0) (T := TX0) (N := 9) hx hb ht itX0 tyX0 tyX0_ok nmX0 hown hK hP hD hS 0 rfl rfl 3 (by decide) (ht _ tw_191) (fun _ h9 => h9) rfl (by decide +kernel) rfl rfl (Nat.le_of_ble_eq_true rfl) dX0_emit_42 (fun H locs hP hD hS => ?_)
  have hP : va_P (dC, dI) vwCl [(a0_, .inr (4, [.ref a1_, .int (4 * (nI N)), .ref a2_, .int 1, .int 0, .int 0, .int 0, .int 8, .int 8]))] H := hP
  have hD : va_D A [(a0_, .inr (4, [.ref a1_, .int (4 * (nI N)), .ref a2_, .int 1, .int 0, .int 0, .int 0, .int 8, .int 8]))] := hD
  have hP9 := hP.sub (ws' := [(a0_, .inr (4, [.ref a1_, .int (4 * (nI N)), .ref a2_, .int 1, .int 0, .int 0, .int 0, .int 8, .int 8]))]) [0] rfl
  have hD9 := hD.sub (ws' := [(a0_, .inr (4, [.ref a1_, .int (4 * (nI N)), .ref a2_, .int 1, .int 0, .int 0, .int 0, .int 8, .int 8]))]) [0] (by decide) rfl
  refine W.widen (k := 0) (n := 0) (by omega) (by omega) ?_
  exact W.vret hx hb hr (fun t ht9 hW => ⟨⟨(), rfl, trivial, by rw [ht9]; exact hP9, hD9⟩, hS.F ht9⟩) hS.2.2 dX0_emit_45
set_option maxHeartbeats 4000000 in
set_option maxRecDepth 100000 in
theorem c_X0_immediate_3 (l : Launch) (dC : Nat → ClassId) (dI : Nat → Nat → Nat) (cI cB cZ cJ cR : ClassId) (tb : Nat → Nat) (sz : Nat) (a0_ : Nat) (a1_ : Nat) (N : Nat) (a2_ : Nat) (hf_N_0 : 256 ≤ N) (hf_N_1 : N ≤ 4096) : Met l yX0_immediate (Cond.code yX0_immediate cX0_immediate 5 none :: tw_W) ({ frames := 1, cells := 0, slots := 0, locals := 21 }) (pc_ (dC, dI) (tyS cI cB cZ cJ cR) tb [(a0_, .inr (4, [.ref a1_, .int (4 * (nI N)), .ref a2_, .int 0, .int 0, .int 0, .int 0, .int 8, .int 8]))] sz [.ref a0_, .int 19, .int 17, .int 0, .int 0]) (qv_ (dC, dI) [(a0_, .inr (4, [.ref a1_, .int (4 * (nI N)), .ref a2_, .int 0, .int 0, .int 0, .int 0, .int 8, .int 8]))] sz (fun (u : Unit) => True) (fun (u : Unit) => [(a0_, .inr (4, [.ref a1_, .int (4 * (nI N)), .ref a2_, .int 1, .int 0, .int 0, .int 0, .int 8, .int 8]))])) 0 0 (va_A [(a0_, .inr (4, [.ref a1_, .int (4 * (nI N)), .ref a2_, .int 0, .int 0, .int 0, .int 0, .int 8, .int 8]))] sz) := by
  refine Met.ofW (cc := cX0_immediate) (maxL := 5) (ret := none) (by decide) rfl ?_
  intro p e s m args below meth c s₁ B hml hv
  obtain ⟨rfl, hsz, hP, hKK, hD0, hFx⟩ := hv
  have hK := hKK.1
  have hx := B.exec
  have hb := B.bytes
  have hr := B.returns
  have ht : ∀ w ∈ tw_W, w.before _ s = true := fun w h => atoms_spec (ws := Cond.code yX0_immediate cX0_immediate 5 none :: tw_W) B.pre w (List.mem_cons_of_mem _ h)
  have hown : s.vm.findClass RX0 = some m.cls := findClass_of_methodNamed B.named
  have hlocks := B.notSynchronized
  subst hsz
  unfold qv_
  have hD := hD0.self (sz := s.heap.size)
  generalize hAe : va_A [(a0_, .inr (4, [.ref a1_, .int (4 * (nI N)), .ref a2_, .int 0, .int 0, .int 0, .int 0, .int 8, .int 8]))] s.heap.size = A at hD hFx ⊢
  have hA : ∀ q : Nat, s.heap.size ≤ q → A q := fun q h => by rw [← hAe]; exact Or.inr h
  have hS : va_S A s.heap s.heap [] := va_S.rf
  have hP : va_P (dC, dI) vwCl [(a0_, .inr (4, [.ref a1_, .int (4 * (nI N)), .ref a2_, .int 0, .int 0, .int 0, .int 0, .int 8, .int 8]))] s.heap := hP
  have hl := lv_entry ([.ref a0_, .int 19, .int 17, .int 0, .int 0]) (n := 5) (Nat.le_of_ble_eq_true rfl)
  rw [lg_entry_eq]
  generalize (lg_sl ([.ref a0_, .int 19, .int 17, .int 0, .int 0]) ++ List.replicate (5 - (lg_sl ([.ref a0_, .int 19, .int 17, .int 0, .int 0])).length) Slot.unset).toArray = ls at hl ⊢
  have hl : lv_has ls 5 [(0, .ref a0_), (1, .int 19), (2, .int 17), (3, .int 0), (4, .int 0)] := hl
  refine lv_aload_n hx hb dX0_immediate_0 rfl (lv_at hl 0 rfl) ?_
  refine lv_iload_n hx hb dX0_immediate_1 rfl (lv_at hl 1 rfl) ?_
  refine lv_iload_n hx hb dX0_immediate_2 rfl (lv_at hl 2 rfl) ?_
  refine lv_bipush (v := 7) hx hb dX0_immediate_3 (by decide) ?_
  refine lv_ishl hx hb dX0_immediate_5 ?_
  refine tp_i (y := 2176) (by decide) ?_
  refine lv_ior hx hb dX0_immediate_6 ?_
  refine tp_i (y := 2195) (by decide) ?_
  refine lv_iload_n hx hb dX0_immediate_7 rfl (lv_at hl 3 rfl) ?_
  refine lv_bipush (v := 15) hx hb dX0_immediate_8 (by decide) ?_
  refine lv_ishl hx hb dX0_immediate_10 ?_
  refine tp_i (y := 0) (by decide) ?_
  refine lv_ior hx hb dX0_immediate_11 ?_
  refine tp_i (y := 2195) (by decide) ?_
  refine lv_iload hx hb dX0_immediate_12 (lv_at hl 4 rfl) ?_
  refine lv_bipush (v := 20) hx hb dX0_immediate_14 (by decide) ?_
  refine lv_ishl hx hb dX0_immediate_16 ?_
  refine tp_i (y := 0) (by decide) ?_
  refine lv_ior hx hb dX0_immediate_17 ?_
  refine tp_i (y := 2195) (by decide) ?_
  refine ca_v (wr := []) (rn_V (n := 1) (As := [.int 2195]) (rest := []) hx hb hml hown ht hKK hFx hP hD hS hA (c_X0_emit_5 l dC dI cI cB cZ cJ cR tb s.heap.size a0_ a1_ N a2_ (by omega) (by omega)) tw_194 tw_195 (by decide +kernel) rfl rfl ⟨Nat.le_of_ble_eq_true rfl, Nat.le_of_ble_eq_true rfl⟩ [0] rfl (by decide) rfl rfl rfl rfl hl.1 rfl (Nat.le_of_ble_eq_true rfl) dX0_immediate_18 ⟨Nat.le_of_ble_eq_true rfl, Nat.le_of_ble_eq_true rfl⟩) hP hD hS hA (isC := [0]) (isR := []) rfl rfl (by decide) (by decide) (fun u H locs hw1 hP hD hS => ?_)
  have hP : va_P (dC, dI) vwCl [(a0_, .inr (4, [.ref a1_, .int (4 * (nI N)), .ref a2_, .int 1, .int 0, .int 0, .int 0, .int 8, .int 8]))] H := hP
  have hD : va_D A [(a0_, .inr (4, [.ref a1_, .int (4 * (nI N)), .ref a2_, .int 1, .int 0, .int 0, .int 0, .int 8, .int 8]))] := hD
  refine W.widen (k := 0) (n := 0) (by omega) (by omega) ?_
  have hP9 := hP.sub (ws' := [(a0_, .inr (4, [.ref a1_, .int (4 * (nI N)), .ref a2_, .int 1, .int 0, .int 0, .int 0, .int 8, .int 8]))]) [0] rfl
  have hD9 := hD.sub (ws' := [(a0_, .inr (4, [.ref a1_, .int (4 * (nI N)), .ref a2_, .int 1, .int 0, .int 0, .int 0, .int 8, .int 8]))]) [0] (by decide) rfl
  refine W.widen (k := 0) (n := 0) (by omega) (by omega) ?_
  exact W.vret hx hb hr (fun t ht9 hW => ⟨⟨(), rfl, trivial, by rw [ht9]; exact hP9, hD9⟩, hS.F ht9⟩) hS.2.2 dX0_immediate_21
set_option maxHeartbeats 4000000 in
set_option maxRecDepth 100000 in
theorem c_X0_emit_6 (l : Launch) (dC : Nat → ClassId) (dI : Nat → Nat → Nat) (cI cB cZ cJ cR : ClassId) (tb : Nat → Nat) (sz : Nat) (a0_ : Nat) (a1_ : Nat) (N : Nat) (a2_ : Nat) (hf_N_0 : 256 ≤ N) (hf_N_1 : N ≤ 4096) : Met l yX0_emit (Cond.code yX0_emit cX0_emit 2 none :: tw_W) ({ frames := 0, cells := 0, slots := 0, locals := 0 }) (pc_ (dC, dI) (tyS cI cB cZ cJ cR) tb [(a0_, .inr (4, [.ref a1_, .int (4 * (nI N)), .ref a2_, .int 1, .int 0, .int 0, .int 0, .int 8, .int 8]))] sz [.ref a0_, .int 1048691]) (qv_ (dC, dI) [(a0_, .inr (4, [.ref a1_, .int (4 * (nI N)), .ref a2_, .int 1, .int 0, .int 0, .int 0, .int 8, .int 8]))] sz (fun (u : Unit) => True) (fun (u : Unit) => [(a0_, .inr (4, [.ref a1_, .int (4 * (nI N)), .ref a2_, .int 2, .int 0, .int 0, .int 0, .int 8, .int 8]))])) 0 0 (va_A [(a0_, .inr (4, [.ref a1_, .int (4 * (nI N)), .ref a2_, .int 1, .int 0, .int 0, .int 0, .int 8, .int 8]))] sz) := by
  refine Met.ofW (cc := cX0_emit) (maxL := 2) (ret := none) (by decide) rfl ?_
  intro p e s m args below meth c s₁ B hml hv
  obtain ⟨rfl, hsz, hP, hKK, hD0, hFx⟩ := hv
  have hK := hKK.1
  have hx := B.exec
  have hb := B.bytes
  have hr := B.returns
  have ht : ∀ w ∈ tw_W, w.before _ s = true := fun w h => atoms_spec (ws := Cond.code yX0_emit cX0_emit 2 none :: tw_W) B.pre w (List.mem_cons_of_mem _ h)
  have hown : s.vm.findClass RX0 = some m.cls := findClass_of_methodNamed B.named
  have hlocks := B.notSynchronized
  subst hsz
  unfold qv_
  have hD := hD0.self (sz := s.heap.size)
  generalize hAe : va_A [(a0_, .inr (4, [.ref a1_, .int (4 * (nI N)), .ref a2_, .int 1, .int 0, .int 0, .int 0, .int 8, .int 8]))] s.heap.size = A at hD hFx ⊢
  have hA : ∀ q : Nat, s.heap.size ≤ q → A q := fun q h => by rw [← hAe]; exact Or.inr h
  have hS : va_S A s.heap s.heap [] := va_S.rf
  have hP : va_P (dC, dI) vwCl [(a0_, .inr (4, [.ref a1_, .int (4 * (nI N)), .ref a2_, .int 1, .int 0, .int 0, .int 0, .int 8, .int 8]))] s.heap := hP
  have hl := lv_entry ([.ref a0_, .int 1048691]) (n := 2) (Nat.le_of_ble_eq_true rfl)
  rw [lg_entry_eq]
  generalize (lg_sl ([.ref a0_, .int 1048691]) ++ List.replicate (2 - (lg_sl ([.ref a0_, .int 1048691])).length) Slot.unset).toArray = ls at hl ⊢
  have hl : lv_has ls 2 [(0, .ref a0_), (1, .int 1048691)] := hl
  refine lv_aload_n hx hb dX0_emit_0 rfl (lv_at hl 0 rfl) ?_
  refine va_get (D := (dC, dI)) (ci := 4) (v := .int 0) (C := RX0) (T := TX0) (N := 9) hx hb ht itX0 hown hK hP 0 rfl rfl 4 (by decide) (ht _ tw_190) (fun _ h9 => h9) rfl dX0_emit_1 ?_
  refine lv_if_eq (tgt := 35) hx hb dX0_emit_4 (by decide) (fun _ => ?_) (fun k1 => absurd k1 (by decide))
  refine lv_aload_n hx hb dX0_emit_35 rfl (lv_at hl 0 rfl) ?_
  refine lv_dup hx hb dX0_emit_36 rfl ?_
  refine va_get (D := (dC, dI)) (ci := 4) (v := .int 1) (C := RX0) (T := TX0) (N := 9) hx hb ht itX0 hown hK hP 0 rfl rfl 3 (by decide) (ht _ tw_191) (fun _ h9 => h9) rfl dX0_emit_37 ?_
  refine lv_iconst (v := 1) hx hb dX0_emit_40 (by decide) ?_
  refine lv_iadd hx hb dX0_emit_41 ?_
  refine tp_i (y := 2) (by decide) ?_
  refine va_put (D := (dC, dI)) (ci := 4) (v := .int 2) (ty := .int) (C := RX0) (T := TX0) (N := 9) hx hb ht itX0 tyX0 tyX0_ok nmX0 hown hK hP hD hS 0 rfl rfl 3 (by decide) (ht _ tw_191) (fun _ h9 => h9) rfl (by decide +kernel) rfl rfl (Nat.le_of_ble_eq_true rfl) dX0_emit_42 (fun H locs hP hD hS => ?_)
  have hP : va_P (dC, dI) vwCl [(a0_, .inr (4, [.ref a1_, .int (4 * (nI N)), .ref a2_, .int 2, .int 0, .int 0, .int 0, .int 8, .int 8]))] H := hP
  have hD : va_D A [(a0_, .inr (4, [.ref a1_, .int (4 * (nI N)), .ref a2_, .int 2, .int 0, .int 0, .int 0, .int 8, .int 8]))] := hD
  have hP9 := hP.sub (ws' := [(a0_, .inr (4, [.ref a1_, .int (4 * (nI N)), .ref a2_, .int 2, .int 0, .int 0, .int 0, .int 8, .int 8]))]) [0] rfl
  have hD9 := hD.sub (ws' := [(a0_, .inr (4, [.ref a1_, .int (4 * (nI N)), .ref a2_, .int 2, .int 0, .int 0, .int 0, .int 8, .int 8]))]) [0] (by decide) rfl
  refine W.widen (k := 0) (n := 0) (by omega) (by omega) ?_
  exact W.vret hx hb hr (fun t ht9 hW => ⟨⟨(), rfl, trivial, by rw [ht9]; exact hP9, hD9⟩, hS.F ht9⟩) hS.2.2 dX0_emit_45
set_option maxHeartbeats 4000000 in
set_option maxRecDepth 100000 in
theorem c_X0_layAll_3 (l : Launch) (dC : Nat → ClassId) (dI : Nat → Nat → Nat) (cI cB cZ cJ cR : ClassId) (tb : Nat → Nat) (sz : Nat) (a0_ : Nat) (a1_ : Nat) (N : Nat) (a2_ : Nat) (a3_ : Nat) (a4_ : Nat) (a5_ : Nat) (a6_ : Nat) (a7_ : Nat) (a8_ : Nat) (a9_ : Nat) (hf_N_0 : 256 ≤ N) (hf_N_1 : N ≤ 4096) : Met l yX0_layAll (Cond.code yX0_layAll cX0_layAll 2 none :: tw_W) ({ frames := 2, cells := 0, slots := 0, locals := 45 }) (pc_ (dC, dI) (tyS cI cB cZ cJ cR) tb [(a0_, .inr (4, [.ref a1_, .int (4 * (nI N)), .ref a2_, .int 2, .int 0, .int 0, .int 0, .int 8, .int 8])), (a1_, .inr (10, [.ref a3_, .int 0, .ref a4_, .int 0, .ref a5_, .int 0, .ref a6_, .ref a7_, .ref a8_, .int 0, .ref a9_, .int 0, .int 0]))] sz [.ref a0_]) (qv_ (dC, dI) [(a0_, .inr (4, [.ref a1_, .int (4 * (nI N)), .ref a2_, .int 2, .int 0, .int 0, .int 0, .int 8, .int 8])), (a1_, .inr (10, [.ref a3_, .int 0, .ref a4_, .int 0, .ref a5_, .int 0, .ref a6_, .ref a7_, .ref a8_, .int 0, .ref a9_, .int 0, .int 0]))] sz (fun (u : Unit) => True) (fun (u : Unit) => [(a0_, .inr (4, [.ref a1_, .int (4 * (nI N)), .ref a2_, .int 2, .int 0, .int 0, .int 0, .int 8, .int 8])), (a1_, .inr (10, [.ref a3_, .int 0, .ref a4_, .int 0, .ref a5_, .int 0, .ref a6_, .ref a7_, .ref a8_, .int 0, .ref a9_, .int 2, .int 8]))])) 0 0 (va_A [(a0_, .inr (4, [.ref a1_, .int (4 * (nI N)), .ref a2_, .int 2, .int 0, .int 0, .int 0, .int 8, .int 8])), (a1_, .inr (10, [.ref a3_, .int 0, .ref a4_, .int 0, .ref a5_, .int 0, .ref a6_, .ref a7_, .ref a8_, .int 0, .ref a9_, .int 0, .int 0]))] sz) := by
  refine Met.ofW (cc := cX0_layAll) (maxL := 2) (ret := none) (by decide) rfl ?_
  intro p e s m args below meth c s₁ B hml hv
  obtain ⟨rfl, hsz, hP, hKK, hD0, hFx⟩ := hv
  have hK := hKK.1
  have hx := B.exec
  have hb := B.bytes
  have hr := B.returns
  have ht : ∀ w ∈ tw_W, w.before _ s = true := fun w h => atoms_spec (ws := Cond.code yX0_layAll cX0_layAll 2 none :: tw_W) B.pre w (List.mem_cons_of_mem _ h)
  have hown : s.vm.findClass RX0 = some m.cls := findClass_of_methodNamed B.named
  have hlocks := B.notSynchronized
  subst hsz
  unfold qv_
  have hD := hD0.self (sz := s.heap.size)
  generalize hAe : va_A [(a0_, .inr (4, [.ref a1_, .int (4 * (nI N)), .ref a2_, .int 2, .int 0, .int 0, .int 0, .int 8, .int 8])), (a1_, .inr (10, [.ref a3_, .int 0, .ref a4_, .int 0, .ref a5_, .int 0, .ref a6_, .ref a7_, .ref a8_, .int 0, .ref a9_, .int 0, .int 0]))] s.heap.size = A at hD hFx ⊢
  have hA : ∀ q : Nat, s.heap.size ≤ q → A q := fun q h => by rw [← hAe]; exact Or.inr h
  have hS : va_S A s.heap s.heap [] := va_S.rf
  have hP : va_P (dC, dI) vwCl [(a0_, .inr (4, [.ref a1_, .int (4 * (nI N)), .ref a2_, .int 2, .int 0, .int 0, .int 0, .int 8, .int 8])), (a1_, .inr (10, [.ref a3_, .int 0, .ref a4_, .int 0, .ref a5_, .int 0, .ref a6_, .ref a7_, .ref a8_, .int 0, .ref a9_, .int 0, .int 0]))] s.heap := hP
  have hl := lv_entry ([.ref a0_]) (n := 2) (Nat.le_of_ble_eq_true rfl)
  rw [lg_entry_eq]
  generalize (lg_sl ([.ref a0_]) ++ List.replicate (2 - (lg_sl ([.ref a0_])).length) Slot.unset).toArray = ls at hl ⊢
  have hl : lv_has ls 2 [(0, .ref a0_)] := hl
  refine lv_aload_n hx hb dX0_layAll_0 rfl (lv_at hl 0 rfl) ?_
  refine lv_iconst (v := 0) hx hb dX0_layAll_1 (by decide) ?_
  refine va_put (D := (dC, dI)) (ci := 4) (v := .int 0) (ty := .int) (C := RX0) (T := TX0) (N := 9) hx hb ht itX0 tyX0 tyX0_ok nmX0 hown hK hP hD hS 0 rfl rfl 3 (by decide) (ht _ tw_191) (fun _ h9 => h9) rfl (by decide +kernel) rfl rfl (Nat.le_of_ble_eq_true rfl) dX0_layAll_2 (fun H locs hP hD hS => ?_)
  have hP : va_P (dC, dI) vwCl [(a0_, .inr (4, [.ref a1_, .int (4 * (nI N)), .ref a2_, .int 0, .int 0, .int 0, .int 0, .int 8, .int 8])), (a1_, .inr (10, [.ref a3_, .int 0, .ref a4_, .int 0, .ref a5_, .int 0, .ref a6_, .ref a7_, .ref a8_, .int 0, .ref a9_, .int 0, .int 0]))] H := hP
  have hD : va_D A [(a0_, .inr (4, [.ref a1_, .int (4 * (nI N)), .ref a2_, .int 0, .int 0, .int 0, .int 0, .int 8, .int 8])), (a1_, .inr (10, [.ref a3_, .int 0, .ref a4_, .int 0, .ref a5_, .int 0, .ref a6_, .ref a7_, .ref a8_, .int 0, .ref a9_, .int 0, .int 0]))] := hD
  refine lv_aload_n hx hb dX0_layAll_5 rfl (lv_at hl 0 rfl) ?_
  refine lv_iconst (v := 0) hx hb dX0_layAll_6 (by decide) ?_
  refine va_put (D := (dC, dI)) (ci := 4) (v := .int 0) (ty := .boolean) (C := RX0) (T := TX0) (N := 9) hx hb ht itX0 tyX0 tyX0_ok nmX0 hown hK hP hD hS 0 rfl rfl 5 (by decide) (ht _ tw_192) (fun _ h9 => h9) rfl (by decide +kernel) rfl rfl (Nat.le_of_ble_eq_true rfl) dX0_layAll_7 (fun H locs hP hD hS => ?_)
  have hP : va_P (dC, dI) vwCl [(a0_, .inr (4, [.ref a1_, .int (4 * (nI N)), .ref a2_, .int 0, .int 0, .int 0, .int 0, .int 8, .int 8])), (a1_, .inr (10, [.ref a3_, .int 0, .ref a4_, .int 0, .ref a5_, .int 0, .ref a6_, .ref a7_, .ref a8_, .int 0, .ref a9_, .int 0, .int 0]))] H := hP
  have hD : va_D A [(a0_, .inr (4, [.ref a1_, .int (4 * (nI N)), .ref a2_, .int 0, .int 0, .int 0, .int 0, .int 8, .int 8])), (a1_, .inr (10, [.ref a3_, .int 0, .ref a4_, .int 0, .ref a5_, .int 0, .ref a6_, .ref a7_, .ref a8_, .int 0, .ref a9_, .int 0, .int 0]))] := hD
  refine lv_aload_n hx hb dX0_layAll_10 rfl (lv_at hl 0 rfl) ?_
  refine lv_iconst (v := 0) hx hb dX0_layAll_11 (by decide) ?_
  refine va_put (D := (dC, dI)) (ci := 4) (v := .int 0) (ty := .boolean) (C := RX0) (T := TX0) (N := 9) hx hb ht itX0 tyX0 tyX0_ok nmX0 hown hK hP hD hS 0 rfl rfl 6 (by decide) (ht _ tw_193) (fun _ h9 => h9) rfl (by decide +kernel) rfl rfl (Nat.le_of_ble_eq_true rfl) dX0_layAll_12 (fun H locs hP hD hS => ?_)
  have hP : va_P (dC, dI) vwCl [(a0_, .inr (4, [.ref a1_, .int (4 * (nI N)), .ref a2_, .int 0, .int 0, .int 0, .int 0, .int 8, .int 8])), (a1_, .inr (10, [.ref a3_, .int 0, .ref a4_, .int 0, .ref a5_, .int 0, .ref a6_, .ref a7_, .ref a8_, .int 0, .ref a9_, .int 0, .int 0]))] H := hP
  have hD : va_D A [(a0_, .inr (4, [.ref a1_, .int (4 * (nI N)), .ref a2_, .int 0, .int 0, .int 0, .int 0, .int 8, .int 8])), (a1_, .inr (10, [.ref a3_, .int 0, .ref a4_, .int 0, .ref a5_, .int 0, .ref a6_, .ref a7_, .ref a8_, .int 0, .ref a9_, .int 0, .int 0]))] := hD
  refine lv_aload_n hx hb dX0_layAll_15 rfl (lv_at hl 0 rfl) ?_
  refine lv_bipush (v := 19) hx hb dX0_layAll_16 (by decide) ?_
  refine lv_bipush (v := 17) hx hb dX0_layAll_18 (by decide) ?_
  refine lv_iconst (v := 0) hx hb dX0_layAll_20 (by decide) ?_
  refine lv_iconst (v := 0) hx hb dX0_layAll_21 (by decide) ?_
  refine ca_v (wr := [(a1_, .inr (10, [.ref a3_, .int 0, .ref a4_, .int 0, .ref a5_, .int 0, .ref a6_, .ref a7_, .ref a8_, .int 0, .ref a9_, .int 0, .int 0]))]) (rn_V (n := 4) (As := [.int 19, .int 17, .int 0, .int 0]) (rest := []) hx hb hml hown ht hKK hFx hP hD hS hA (c_X0_immediate_3 l dC dI cI cB cZ cJ cR tb H.size a0_ a1_ N a2_ (by omega) (by omega)) tw_196 tw_197 (by decide +kernel) rfl rfl ⟨Nat.le_of_ble_eq_true rfl, Nat.le_of_ble_eq_true rfl⟩ [0] rfl (by decide) rfl rfl rfl rfl hl.1 rfl (Nat.le_of_ble_eq_true rfl) dX0_layAll_22 ⟨Nat.le_of_ble_eq_true rfl, Nat.le_of_ble_eq_true rfl⟩) hP hD hS hA (isC := [0]) (isR := [1]) rfl rfl (by decide) (by decide) (fun u H locs hw1 hP hD hS => ?_)
  have hP : va_P (dC, dI) vwCl [(a1_, .inr (10, [.ref a3_, .int 0, .ref a4_, .int 0, .ref a5_, .int 0, .ref a6_, .ref a7_, .ref a8_, .int 0, .ref a9_, .int 0, .int 0])), (a0_, .inr (4, [.ref a1_, .int (4 * (nI N)), .ref a2_, .int 1, .int 0, .int 0, .int 0, .int 8, .int 8]))] H := hP
  have hD : va_D A [(a1_, .inr (10, [.ref a3_, .int 0, .ref a4_, .int 0, .ref a5_, .int 0, .ref a6_, .ref a7_, .ref a8_, .int 0, .ref a9_, .int 0, .int 0])), (a0_, .inr (4, [.ref a1_, .int (4 * (nI N)), .ref a2_, .int 1, .int 0, .int 0, .int 0, .int 8, .int 8]))] := hD
  refine W.widen (k := 0) (n := 0) (by omega) (by omega) ?_
  refine lv_aload_n hx hb dX0_layAll_25 rfl (lv_at hl 0 rfl) ?_
  refine lv_ldc (v := 1048691) hx hb hown (ht _ tw_198) dX0_layAll_26 ?_
  refine ca_v (wr := [(a1_, .inr (10, [.ref a3_, .int 0, .ref a4_, .int 0, .ref a5_, .int 0, .ref a6_, .ref a7_, .ref a8_, .int 0, .ref a9_, .int 0, .int 0]))]) (rn_V (n := 1) (As := [.int 1048691]) (rest := []) hx hb hml hown ht hKK hFx hP hD hS hA (c_X0_emit_6 l dC dI cI cB cZ cJ cR tb H.size a0_ a1_ N a2_ (by omega) (by omega)) tw_194 tw_195 (by decide +kernel) rfl rfl ⟨Nat.le_of_ble_eq_true rfl, Nat.le_of_ble_eq_true rfl⟩ [1] rfl (by decide) rfl rfl rfl rfl hl.1 rfl (Nat.le_of_ble_eq_true rfl) dX0_layAll_28 ⟨Nat.le_of_ble_eq_true rfl, Nat.le_of_ble_eq_true rfl⟩) hP hD hS hA (isC := [1]) (isR := [0]) rfl rfl (by decide) (by decide) (fun u H locs hw2 hP hD hS => ?_)
  have hP : va_P (dC, dI) vwCl [(a1_, .inr (10, [.ref a3_, .int 0, .ref a4_, .int 0, .ref a5_, .int 0, .ref a6_, .ref a7_, .ref a8_, .int 0, .ref a9_, .int 0, .int 0])), (a0_, .inr (4, [.ref a1_, .int (4 * (nI N)), .ref a2_, .int 2, .int 0, .int 0, .int 0, .int 8, .int 8]))] H := hP
  have hD : va_D A [(a1_, .inr (10, [.ref a3_, .int 0, .ref a4_, .int 0, .ref a5_, .int 0, .ref a6_, .ref a7_, .ref a8_, .int 0, .ref a9_, .int 0, .int 0])), (a0_, .inr (4, [.ref a1_, .int (4 * (nI N)), .ref a2_, .int 2, .int 0, .int 0, .int 0, .int 8, .int 8]))] := hD
  refine W.widen (k := 0) (n := 0) (by omega) (by omega) ?_
  refine lv_iconst (v := 0) hx hb dX0_layAll_31 (by decide) ?_
  refine lv_istore_n (lv' := [(1, .int 0), (0, .ref a0_)]) hx hb dX0_layAll_32 rfl hl (by decide) rfl (fun ls hl => ?_)
  refine lv_iload_n hx hb dX0_layAll_33 rfl (lv_at hl 0 rfl) ?_
  refine lv_aload_n hx hb dX0_layAll_34 rfl (lv_at hl 1 rfl) ?_
  refine va_get (D := (dC, dI)) (ci := 4) (v := .ref a1_) (C := RX0) (T := TX0) (N := 9) hx hb ht itX0 hown hK hP 1 rfl rfl 0 (by decide) (ht _ tw_75) (fun _ h9 => h9) rfl dX0_layAll_35 ?_
  refine va_get (D := (dC, dI)) (ci := 10) (v := .int 0) (C := RX7) (T := TX7) (N := 13) hx hb ht itX7 hown hK hP 0 rfl rfl 9 (by decide) (ht _ tw_199) (fun _ h9 => h9) rfl dX0_layAll_38 ?_
  refine lv_icmp_ge (tgt := 100) hx hb dX0_layAll_41 (by decide) (fun _ => ?_) (fun k3 => absurd k3 (by decide))
  refine lv_aload_n hx hb dX0_layAll_100 rfl (lv_at hl 1 rfl) ?_
  refine lv_iconst (v := 4) hx hb dX0_layAll_101 (by decide) ?_
  refine lv_aload_n hx hb dX0_layAll_102 rfl (lv_at hl 1 rfl) ?_
  refine va_get (D := (dC, dI)) (ci := 4) (v := .int 2) (C := RX0) (T := TX0) (N := 9) hx hb ht itX0 hown hK hP 1 rfl rfl 3 (by decide) (ht _ tw_191) (fun _ h9 => h9) rfl dX0_layAll_103 ?_
  refine lv_imul hx hb dX0_layAll_106 ?_
  refine tp_i (y := 8) (by decide) ?_
  refine va_put (D := (dC, dI)) (ci := 4) (v := .int 8) (ty := .int) (C := RX0) (T := TX0) (N := 9) hx hb ht itX0 tyX0 tyX0_ok nmX0 hown hK hP hD hS 1 rfl rfl 7 (by decide) (ht _ tw_200) (fun _ h9 => h9) rfl (by decide +kernel) rfl rfl (Nat.le_of_ble_eq_true rfl) dX0_layAll_107 (fun H locs hP hD hS => ?_)
  have hP : va_P (dC, dI) vwCl [(a1_, .inr (10, [.ref a3_, .int 0, .ref a4_, .int 0, .ref a5_, .int 0, .ref a6_, .ref a7_, .ref a8_, .int 0, .ref a9_, .int 0, .int 0])), (a0_, .inr (4, [.ref a1_, .int (4 * (nI N)), .ref a2_, .int 2, .int 0, .int 0, .int 0, .int 8, .int 8]))] H := hP
  have hD : va_D A [(a1_, .inr (10, [.ref a3_, .int 0, .ref a4_, .int 0, .ref a5_, .int 0, .ref a6_, .ref a7_, .ref a8_, .int 0, .ref a9_, .int 0, .int 0])), (a0_, .inr (4, [.ref a1_, .int (4 * (nI N)), .ref a2_, .int 2, .int 0, .int 0, .int 0, .int 8, .int 8]))] := hD
  refine lv_aload_n hx hb dX0_layAll_110 rfl (lv_at hl 1 rfl) ?_
  refine va_get (D := (dC, dI)) (ci := 4) (v := .int 0) (C := RX0) (T := TX0) (N := 9) hx hb ht itX0 hown hK hP 1 rfl rfl 5 (by decide) (ht _ tw_192) (fun _ h9 => h9) rfl dX0_layAll_111 ?_
  refine lv_if_eq (tgt := 121) hx hb dX0_layAll_114 (by decide) (fun _ => ?_) (fun k4 => absurd k4 (by decide))
  refine lv_aload_n hx hb dX0_layAll_121 rfl (lv_at hl 1 rfl) ?_
  refine lv_iconst (v := 4) hx hb dX0_layAll_122 (by decide) ?_
  refine lv_aload_n hx hb dX0_layAll_123 rfl (lv_at hl 1 rfl) ?_
  refine va_get (D := (dC, dI)) (ci := 4) (v := .int 2) (C := RX0) (T := TX0) (N := 9) hx hb ht itX0 hown hK hP 1 rfl rfl 3 (by decide) (ht _ tw_191) (fun _ h9 => h9) rfl dX0_layAll_124 ?_
  refine lv_imul hx hb dX0_layAll_127 ?_
  refine tp_i (y := 8) (by decide) ?_
  refine va_put (D := (dC, dI)) (ci := 4) (v := .int 8) (ty := .int) (C := RX0) (T := TX0) (N := 9) hx hb ht itX0 tyX0 tyX0_ok nmX0 hown hK hP hD hS 1 rfl rfl 8 (by decide) (ht _ tw_201) (fun _ h9 => h9) rfl (by decide +kernel) rfl rfl (Nat.le_of_ble_eq_true rfl) dX0_layAll_128 (fun H locs hP hD hS => ?_)
  have hP : va_P (dC, dI) vwCl [(a1_, .inr (10, [.ref a3_, .int 0, .ref a4_, .int 0, .ref a5_, .int 0, .ref a6_, .ref a7_, .ref a8_, .int 0, .ref a9_, .int 0, .int 0])), (a0_, .inr (4, [.ref a1_, .int (4 * (nI N)), .ref a2_, .int 2, .int 0, .int 0, .int 0, .int 8, .int 8]))] H := hP
  have hD : va_D A [(a1_, .inr (10, [.ref a3_, .int 0, .ref a4_, .int 0, .ref a5_, .int 0, .ref a6_, .ref a7_, .ref a8_, .int 0, .ref a9_, .int 0, .int 0])), (a0_, .inr (4, [.ref a1_, .int (4 * (nI N)), .ref a2_, .int 2, .int 0, .int 0, .int 0, .int 8, .int 8]))] := hD
  refine lv_aload_n hx hb dX0_layAll_131 rfl (lv_at hl 1 rfl) ?_
  refine va_get (D := (dC, dI)) (ci := 4) (v := .int 0) (C := RX0) (T := TX0) (N := 9) hx hb ht itX0 hown hK hP 1 rfl rfl 6 (by decide) (ht _ tw_193) (fun _ h9 => h9) rfl dX0_layAll_132 ?_
  refine lv_if_eq (tgt := 142) hx hb dX0_layAll_135 (by decide) (fun _ => ?_) (fun k5 => absurd k5 (by decide))
  refine lv_aload_n hx hb dX0_layAll_142 rfl (lv_at hl 1 rfl) ?_
  refine va_get (D := (dC, dI)) (ci := 4) (v := .ref a1_) (C := RX0) (T := TX0) (N := 9) hx hb ht itX0 hown hK hP 1 rfl rfl 0 (by decide) (ht _ tw_75) (fun _ h9 => h9) rfl dX0_layAll_143 ?_
  refine lv_aload_n hx hb dX0_layAll_146 rfl (lv_at hl 1 rfl) ?_
  refine va_get (D := (dC, dI)) (ci := 4) (v := .int 2) (C := RX0) (T := TX0) (N := 9) hx hb ht itX0 hown hK hP 1 rfl rfl 3 (by decide) (ht _ tw_191) (fun _ h9 => h9) rfl dX0_layAll_147 ?_
  refine va_put (D := (dC, dI)) (ci := 10) (v := .int 2) (ty := .int) (C := RX7) (T := TX7) (N := 13) hx hb ht itX7 tyX7 tyX7_ok nmX7 hown hK hP hD hS 0 rfl rfl 11 (by decide) (ht _ tw_202) (fun _ h9 => h9) rfl (by decide +kernel) rfl rfl (Nat.le_of_ble_eq_true rfl) dX0_layAll_150 (fun H locs hP hD hS => ?_)
  have hP : va_P (dC, dI) vwCl [(a1_, .inr (10, [.ref a3_, .int 0, .ref a4_, .int 0, .ref a5_, .int 0, .ref a6_, .ref a7_, .ref a8_, .int 0, .ref a9_, .int 2, .int 0])), (a0_, .inr (4, [.ref a1_, .int (4 * (nI N)), .ref a2_, .int 2, .int 0, .int 0, .int 0, .int 8, .int 8]))] H := hP
  have hD : va_D A [(a1_, .inr (10, [.ref a3_, .int 0, .ref a4_, .int 0, .ref a5_, .int 0, .ref a6_, .ref a7_, .ref a8_, .int 0, .ref a9_, .int 2, .int 0])), (a0_, .inr (4, [.ref a1_, .int (4 * (nI N)), .ref a2_, .int 2, .int 0, .int 0, .int 0, .int 8, .int 8]))] := hD
  refine lv_aload_n hx hb dX0_layAll_153 rfl (lv_at hl 1 rfl) ?_
  refine ca_v (wr := []) (rn_V (n := 0) (As := []) (rest := []) hx hb hml hown ht hKK hFx hP hD hS hA (c_X0_placeGlobals l dC dI cI cB cZ cJ cR tb H.size a0_ a1_ N a2_ a3_ a4_ a5_ a6_ a7_ a8_ a9_ (by omega) (by omega)) tw_205 tw_206 (by decide +kernel) rfl rfl ⟨Nat.le_of_ble_eq_true rfl, Nat.le_of_ble_eq_true rfl⟩ [1, 0] rfl (by decide) rfl rfl rfl rfl hl.1 rfl (Nat.le_of_ble_eq_true rfl) dX0_layAll_154 ⟨Nat.le_of_ble_eq_true rfl, Nat.le_of_ble_eq_true rfl⟩) hP hD hS hA (isC := [1, 0]) (isR := []) rfl rfl (by decide) (by decide) (fun u H locs hw6 hP hD hS => ?_)
  have hP : va_P (dC, dI) vwCl [(a0_, .inr (4, [.ref a1_, .int (4 * (nI N)), .ref a2_, .int 2, .int 0, .int 0, .int 0, .int 8, .int 8])), (a1_, .inr (10, [.ref a3_, .int 0, .ref a4_, .int 0, .ref a5_, .int 0, .ref a6_, .ref a7_, .ref a8_, .int 0, .ref a9_, .int 2, .int 8]))] H := hP
  have hD : va_D A [(a0_, .inr (4, [.ref a1_, .int (4 * (nI N)), .ref a2_, .int 2, .int 0, .int 0, .int 0, .int 8, .int 8])), (a1_, .inr (10, [.ref a3_, .int 0, .ref a4_, .int 0, .ref a5_, .int 0, .ref a6_, .ref a7_, .ref a8_, .int 0, .ref a9_, .int 2, .int 8]))] := hD
  refine W.widen (k := 0) (n := 0) (by omega) (by omega) ?_
  have hP9 := hP.sub (ws' := [(a0_, .inr (4, [.ref a1_, .int (4 * (nI N)), .ref a2_, .int 2, .int 0, .int 0, .int 0, .int 8, .int 8])), (a1_, .inr (10, [.ref a3_, .int 0, .ref a4_, .int 0, .ref a5_, .int 0, .ref a6_, .ref a7_, .ref a8_, .int 0, .ref a9_, .int 2, .int 8]))]) [0, 1] rfl
  have hD9 := hD.sub (ws' := [(a0_, .inr (4, [.ref a1_, .int (4 * (nI N)), .ref a2_, .int 2, .int 0, .int 0, .int 0, .int 8, .int 8])), (a1_, .inr (10, [.ref a3_, .int 0, .ref a4_, .int 0, .ref a5_, .int 0, .ref a6_, .ref a7_, .ref a8_, .int 0, .ref a9_, .int 2, .int 8]))]) [0, 1] (by decide) rfl
  refine W.widen (k := 0) (n := 0) (by omega) (by omega) ?_
  exact W.vret hx hb hr (fun t ht9 hW => ⟨⟨(), rfl, trivial, by rw [ht9]; exact hP9, hD9⟩, hS.F ht9⟩) hS.2.2 dX0_layAll_157
set_option maxHeartbeats 4000000 in
set_option maxRecDepth 100000 in
theorem c_X0_assemble_2 (l : Launch) (dC : Nat → ClassId) (dI : Nat → Nat → Nat) (cI cB cZ cJ cR : ClassId) (tb : Nat → Nat) (sz : Nat) (a0_ : Nat) (a1_ : Nat) (a2_ : Nat) (N : Nat) (a3_ : Nat) (a4_ : Nat) (a5_ : Nat) (a6_ : Nat) (a7_ : Nat) (a8_ : Nat) (a9_ : Nat) (a10_ : Nat) (hf_N_0 : 256 ≤ N) (hf_N_1 : N ≤ 4096) : Met l yX0_assemble (Cond.code yX0_assemble cX0_assemble 2 (some .boolean) :: tw_W) ({ frames := 3, cells := 0, slots := 0, locals := 66 }) (pc_ (dC, dI) (tyS cI cB cZ cJ cR) tb [(a0_, .inr (4, [.ref a2_, .int (4 * (nI N)), .ref a3_, .int 2, .int 1, .int 0, .int 0, .int 8, .int 8])), (a4_, .inl (cI, N, .inl (fun _ => 0))), (a1_, .inr (10, [.ref a5_, .int 0, .ref a6_, .int 0, .ref a7_, .int 0, .ref a8_, .ref a9_, .ref a10_, .int 0, .ref a4_, .int 0, .int 0]))] sz [.ref a0_, .ref a1_]) (qi_ (dC, dI) [(a0_, .inr (4, [.ref a2_, .int (4 * (nI N)), .ref a3_, .int 2, .int 1, .int 0, .int 0, .int 8, .int 8])), (a4_, .inl (cI, N, .inl (fun _ => 0))), (a1_, .inr (10, [.ref a5_, .int 0, .ref a6_, .int 0, .ref a7_, .int 0, .ref a8_, .ref a9_, .ref a10_, .int 0, .ref a4_, .int 0, .int 0]))] sz (fun (r : Int32) (u : Unit) => r = 1) (fun (u : Unit) => [(a0_, .inr (4, [.ref a1_, .int (4 * (nI N)), .ref a3_, .int 2, .int 1, .int 0, .int 0, .int 8, .int 8])), (a4_, .inl (cI, N, .inl (upd (upd (fun _ => 0) 0 2195) 1 1048691))), (a1_, .inr (10, [.ref a5_, .int 0, .ref a6_, .int 0, .ref a7_, .int 0, .ref a8_, .ref a9_, .ref a10_, .int 0, .ref a4_, .int 2, .int 8]))])) 0 0 (va_A [(a0_, .inr (4, [.ref a2_, .int (4 * (nI N)), .ref a3_, .int 2, .int 1, .int 0, .int 0, .int 8, .int 8])), (a4_, .inl (cI, N, .inl (fun _ => 0))), (a1_, .inr (10, [.ref a5_, .int 0, .ref a6_, .int 0, .ref a7_, .int 0, .ref a8_, .ref a9_, .ref a10_, .int 0, .ref a4_, .int 0, .int 0]))] sz) := by
  refine Met.ofW (cc := cX0_assemble) (maxL := 2) (ret := (some .boolean)) (by decide) rfl ?_
  intro p e s m args below meth c s₁ B hml hv
  obtain ⟨rfl, hsz, hP, hKK, hD0, hFx⟩ := hv
  have hK := hKK.1
  have hx := B.exec
  have hb := B.bytes
  have hr := B.returns
  have ht : ∀ w ∈ tw_W, w.before _ s = true := fun w h => atoms_spec (ws := Cond.code yX0_assemble cX0_assemble 2 (some .boolean) :: tw_W) B.pre w (List.mem_cons_of_mem _ h)
  have hown : s.vm.findClass RX0 = some m.cls := findClass_of_methodNamed B.named
  have hlocks := B.notSynchronized
  subst hsz
  unfold qi_
  have hD := hD0.self (sz := s.heap.size)
  generalize hAe : va_A [(a0_, .inr (4, [.ref a2_, .int (4 * (nI N)), .ref a3_, .int 2, .int 1, .int 0, .int 0, .int 8, .int 8])), (a4_, .inl (cI, N, .inl (fun _ => 0))), (a1_, .inr (10, [.ref a5_, .int 0, .ref a6_, .int 0, .ref a7_, .int 0, .ref a8_, .ref a9_, .ref a10_, .int 0, .ref a4_, .int 0, .int 0]))] s.heap.size = A at hD hFx ⊢
  have hA : ∀ q : Nat, s.heap.size ≤ q → A q := fun q h => by rw [← hAe]; exact Or.inr h
  have hS : va_S A s.heap s.heap [] := va_S.rf
  have hP : va_P (dC, dI) vwCl [(a0_, .inr (4, [.ref a2_, .int (4 * (nI N)), .ref a3_, .int 2, .int 1, .int 0, .int 0, .int 8, .int 8])), (a4_, .inl (cI, N, .inl (fun _ => 0))), (a1_, .inr (10, [.ref a5_, .int 0, .ref a6_, .int 0, .ref a7_, .int 0, .ref a8_, .ref a9_, .ref a10_, .int 0, .ref a4_, .int 0, .int 0]))] s.heap := hP
  have hl := lv_entry ([.ref a0_, .ref a1_]) (n := 2) (Nat.le_of_ble_eq_true rfl)
  rw [lg_entry_eq]
  generalize (lg_sl ([.ref a0_, .ref a1_]) ++ List.replicate (2 - (lg_sl ([.ref a0_, .ref a1_])).length) Slot.unset).toArray = ls at hl ⊢
  have hl : lv_has ls 2 [(0, .ref a0_), (1, .ref a1_)] := hl
  refine lv_aload_n hx hb dX0_assemble_0 rfl (lv_at hl 0 rfl) ?_
  refine lv_aload_n hx hb dX0_assemble_1 rfl (lv_at hl 1 rfl) ?_
  refine va_put (D := (dC, dI)) (ci := 4) (v := .ref a1_) (ty := .object "PocketCompiler$Program") (C := RX0) (T := TX0) (N := 9) hx hb ht itX0 tyX0 tyX0_ok nmX0 hown hK hP hD hS 0 rfl rfl 0 (by decide) (ht _ tw_75) (fun _ h9 => h9) rfl (by decide +kernel) rfl rfl (Nat.le_of_ble_eq_true rfl) dX0_assemble_2 (fun H locs hP hD hS => ?_)
  have hP : va_P (dC, dI) vwCl [(a0_, .inr (4, [.ref a1_, .int (4 * (nI N)), .ref a3_, .int 2, .int 1, .int 0, .int 0, .int 8, .int 8])), (a4_, .inl (cI, N, .inl (fun _ => 0))), (a1_, .inr (10, [.ref a5_, .int 0, .ref a6_, .int 0, .ref a7_, .int 0, .ref a8_, .ref a9_, .ref a10_, .int 0, .ref a4_, .int 0, .int 0]))] H := hP
  have hD : va_D A [(a0_, .inr (4, [.ref a1_, .int (4 * (nI N)), .ref a3_, .int 2, .int 1, .int 0, .int 0, .int 8, .int 8])), (a4_, .inl (cI, N, .inl (fun _ => 0))), (a1_, .inr (10, [.ref a5_, .int 0, .ref a6_, .int 0, .ref a7_, .int 0, .ref a8_, .ref a9_, .ref a10_, .int 0, .ref a4_, .int 0, .int 0]))] := hD
  refine lv_aload_n hx hb dX0_assemble_5 rfl (lv_at hl 0 rfl) ?_
  refine lv_iconst (v := 0) hx hb dX0_assemble_6 (by decide) ?_
  refine va_put (D := (dC, dI)) (ci := 4) (v := .int 0) (ty := .boolean) (C := RX0) (T := TX0) (N := 9) hx hb ht itX0 tyX0 tyX0_ok nmX0 hown hK hP hD hS 0 rfl rfl 4 (by decide) (ht _ tw_190) (fun _ h9 => h9) rfl (by decide +kernel) rfl rfl (Nat.le_of_ble_eq_true rfl) dX0_assemble_7 (fun H locs hP hD hS => ?_)
  have hP : va_P (dC, dI) vwCl [(a0_, .inr (4, [.ref a1_, .int (4 * (nI N)), .ref a3_, .int 2, .int 0, .int 0, .int 0, .int 8, .int 8])), (a4_, .inl (cI, N, .inl (fun _ => 0))), (a1_, .inr (10, [.ref a5_, .int 0, .ref a6_, .int 0, .ref a7_, .int 0, .ref a8_, .ref a9_, .ref a10_, .int 0, .ref a4_, .int 0, .int 0]))] H := hP
  have hD : va_D A [(a0_, .inr (4, [.ref a1_, .int (4 * (nI N)), .ref a3_, .int 2, .int 0, .int 0, .int 0, .int 8, .int 8])), (a4_, .inl (cI, N, .inl (fun _ => 0))), (a1_, .inr (10, [.ref a5_, .int 0, .ref a6_, .int 0, .ref a7_, .int 0, .ref a8_, .ref a9_, .ref a10_, .int 0, .ref a4_, .int 0, .int 0]))] := hD
  refine lv_aload_n hx hb dX0_assemble_10 rfl (lv_at hl 0 rfl) ?_
  refine ca_v (wr := [(a4_, .inl (cI, N, .inl (fun _ => 0)))]) (rn_V (n := 0) (As := []) (rest := []) hx hb hml hown ht hKK hFx hP hD hS hA (c_X0_layAll_3 l dC dI cI cB cZ cJ cR tb H.size a0_ a1_ N a3_ a5_ a6_ a7_ a8_ a9_ a10_ a4_ (by omega) (by omega)) tw_207 tw_208 (by decide +kernel) rfl rfl ⟨Nat.le_of_ble_eq_true rfl, Nat.le_of_ble_eq_true rfl⟩ [0, 2] rfl (by decide) rfl rfl rfl rfl hl.1 rfl (Nat.le_of_ble_eq_true rfl) dX0_assemble_11 ⟨Nat.le_of_ble_eq_true rfl, Nat.le_of_ble_eq_true rfl⟩) hP hD hS hA (isC := [0, 2]) (isR := [1]) rfl rfl (by decide) (by decide) (fun u H locs hw1 hP hD hS => ?_)
  have hP : va_P (dC, dI) vwCl [(a4_, .inl (cI, N, .inl (fun _ => 0))), (a0_, .inr (4, [.ref a1_, .int (4 * (nI N)), .ref a3_, .int 2, .int 0, .int 0, .int 0, .int 8, .int 8])), (a1_, .inr (10, [.ref a5_, .int 0, .ref a6_, .int 0, .ref a7_, .int 0, .ref a8_, .ref a9_, .ref a10_, .int 0, .ref a4_, .int 2, .int 8]))] H := hP
  have hD : va_D A [(a4_, .inl (cI, N, .inl (fun _ => 0))), (a0_, .inr (4, [.ref a1_, .int (4 * (nI N)), .ref a3_, .int 2, .int 0, .int 0, .int 0, .int 8, .int 8])), (a1_, .inr (10, [.ref a5_, .int 0, .ref a6_, .int 0, .ref a7_, .int 0, .ref a8_, .ref a9_, .ref a10_, .int 0, .ref a4_, .int 2, .int 8]))] := hD
  refine W.widen (k := 0) (n := 0) (by omega) (by omega) ?_
  refine lv_aload_n hx hb dX0_assemble_14 rfl (lv_at hl 0 rfl) ?_
  refine va_get (D := (dC, dI)) (ci := 4) (v := .ref a1_) (C := RX0) (T := TX0) (N := 9) hx hb ht itX0 hown hK hP 1 rfl rfl 0 (by decide) (ht _ tw_75) (fun _ h9 => h9) rfl dX0_assemble_15 ?_
  refine va_get (D := (dC, dI)) (ci := 10) (v := .int 8) (C := RX7) (T := TX7) (N := 13) hx hb ht itX7 hown hK hP 2 rfl rfl 12 (by decide) (ht _ tw_204) (fun _ h9 => h9) rfl dX0_assemble_18 ?_
  refine lv_bipush (v := 64) hx hb dX0_assemble_21 (by decide) ?_
  refine lv_iadd hx hb dX0_assemble_23 ?_
  refine tp_i (y := 72) (by decide) ?_
  refine lv_aload_n hx hb dX0_assemble_24 rfl (lv_at hl 0 rfl) ?_
  refine va_get (D := (dC, dI)) (ci := 4) (v := .int (4 * (nI N))) (C := RX0) (T := TX0) (N := 9) hx hb ht itX0 hown hK hP 1 rfl rfl 1 (by decide) (ht _ tw_76) (fun _ h9 => h9) rfl dX0_assemble_25 ?_
  refine lv_icmp_le (tgt := 33) hx hb dX0_assemble_28 (by decide) (fun _ => ?_) (fun k2 => absurd (le_4 (j := 72) (by decide) (by omega) (by omega)) k2)
  refine lv_aload_n hx hb dX0_assemble_33 rfl (lv_at hl 0 rfl) ?_
  refine lv_iconst (v := 1) hx hb dX0_assemble_34 (by decide) ?_
  refine va_put (D := (dC, dI)) (ci := 4) (v := .int 1) (ty := .boolean) (C := RX0) (T := TX0) (N := 9) hx hb ht itX0 tyX0 tyX0_ok nmX0 hown hK hP hD hS 1 rfl rfl 4 (by decide) (ht _ tw_190) (fun _ h9 => h9) rfl (by decide +kernel) rfl rfl (Nat.le_of_ble_eq_true rfl) dX0_assemble_35 (fun H locs hP hD hS => ?_)
  have hP : va_P (dC, dI) vwCl [(a4_, .inl (cI, N, .inl (fun _ => 0))), (a0_, .inr (4, [.ref a1_, .int (4 * (nI N)), .ref a3_, .int 2, .int 1, .int 0, .int 0, .int 8, .int 8])), (a1_, .inr (10, [.ref a5_, .int 0, .ref a6_, .int 0, .ref a7_, .int 0, .ref a8_, .ref a9_, .ref a10_, .int 0, .ref a4_, .int 2, .int 8]))] H := hP
  have hD : va_D A [(a4_, .inl (cI, N, .inl (fun _ => 0))), (a0_, .inr (4, [.ref a1_, .int (4 * (nI N)), .ref a3_, .int 2, .int 1, .int 0, .int 0, .int 8, .int 8])), (a1_, .inr (10, [.ref a5_, .int 0, .ref a6_, .int 0, .ref a7_, .int 0, .ref a8_, .ref a9_, .ref a10_, .int 0, .ref a4_, .int 2, .int 8]))] := hD
  refine lv_aload_n hx hb dX0_assemble_38 rfl (lv_at hl 0 rfl) ?_
  refine ca_v (wr := []) (rn_V (n := 0) (As := []) (rest := []) hx hb hml hown ht hKK hFx hP hD hS hA (c_X0_layAll_2 l dC dI cI cB cZ cJ cR tb H.size a0_ a1_ N a3_ a4_ a5_ a6_ a7_ a8_ a9_ a10_ (by omega) (by omega)) tw_207 tw_208 (by decide +kernel) rfl rfl ⟨Nat.le_of_ble_eq_true rfl, Nat.le_of_ble_eq_true rfl⟩ [1, 0, 2] rfl (by decide) rfl rfl rfl rfl hl.1 rfl (Nat.le_of_ble_eq_true rfl) dX0_assemble_39 ⟨Nat.le_of_ble_eq_true rfl, Nat.le_of_ble_eq_true rfl⟩) hP hD hS hA (isC := [1, 0, 2]) (isR := []) rfl rfl (by decide) (by decide) (fun u H locs hw3 hP hD hS => ?_)
  have hP : va_P (dC, dI) vwCl [(a0_, .inr (4, [.ref a1_, .int (4 * (nI N)), .ref a3_, .int 2, .int 1, .int 0, .int 0, .int 8, .int 8])), (a4_, .inl (cI, N, .inl (upd (upd (fun _ => 0) 0 2195) 1 1048691))), (a1_, .inr (10, [.ref a5_, .int 0, .ref a6_, .int 0, .ref a7_, .int 0, .ref a8_, .ref a9_, .ref a10_, .int 0, .ref a4_, .int 2, .int 8]))] H := hP
  have hD : va_D A [(a0_, .inr (4, [.ref a1_, .int (4 * (nI N)), .ref a3_, .int 2, .int 1, .int 0, .int 0, .int 8, .int 8])), (a4_, .inl (cI, N, .inl (upd (upd (fun _ => 0) 0 2195) 1 1048691))), (a1_, .inr (10, [.ref a5_, .int 0, .ref a6_, .int 0, .ref a7_, .int 0, .ref a8_, .ref a9_, .ref a10_, .int 0, .ref a4_, .int 2, .int 8]))] := hD
  refine W.widen (k := 0) (n := 0) (by omega) (by omega) ?_
  refine lv_iconst (v := 1) hx hb dX0_assemble_42 (by decide) ?_
  have hP9 := hP.sub (ws' := [(a0_, .inr (4, [.ref a1_, .int (4 * (nI N)), .ref a3_, .int 2, .int 1, .int 0, .int 0, .int 8, .int 8])), (a4_, .inl (cI, N, .inl (upd (upd (fun _ => 0) 0 2195) 1 1048691))), (a1_, .inr (10, [.ref a5_, .int 0, .ref a6_, .int 0, .ref a7_, .int 0, .ref a8_, .ref a9_, .ref a10_, .int 0, .ref a4_, .int 2, .int 8]))]) [0, 1, 2] rfl
  have hD9 := hD.sub (ws' := [(a0_, .inr (4, [.ref a1_, .int (4 * (nI N)), .ref a3_, .int 2, .int 1, .int 0, .int 0, .int 8, .int 8])), (a4_, .inl (cI, N, .inl (upd (upd (fun _ => 0) 0 2195) 1 1048691))), (a1_, .inr (10, [.ref a5_, .int 0, .ref a6_, .int 0, .ref a7_, .int 0, .ref a8_, .ref a9_, .ref a10_, .int 0, .ref a4_, .int 2, .int 8]))]) [0, 1, 2] (by decide) rfl
  refine W.widen (k := 0) (n := 0) (by omega) (by omega) ?_
  exact W.zret (v := 1) hx hb hr rfl (fun t ht9 hW => ⟨⟨1, (), rfl, rfl, by rw [ht9]; exact hP9, hD9⟩, hS.F ht9⟩) hS.2.2 dX0_assemble_43
set_option maxHeartbeats 4000000 in
set_option maxRecDepth 100000 in
theorem c_X10_drop (l : Launch) (dC : Nat → ClassId) (dI : Nat → Nat → Nat) (cI cB cZ cJ cR : ClassId) (tb : Nat → Nat) (sz : Nat) (a0_ : Nat) (a1_ : Nat) (a2_ : Nat) (N : Nat) (a3_ : Nat) (a4_ : Nat) (a5_ : Nat) (hf_N_0 : 256 ≤ N) (hf_N_1 : N ≤ 4096) : Met l yX10_drop (Cond.code yX10_drop cX10_drop 1 none :: tw_W) ({ frames := 0, cells := 0, slots := 0, locals := 0 }) (pc_ (dC, dI) (tyS cI cB cZ cJ cR) tb [(a0_, .inr (13, [.ref a1_, .ref a2_, .int (4 * (nI N)), .ref a3_, .ref a4_, .ref a5_, .int 0, .int 0, .int 0, .int 0, .int 0, .int 0, .int 0, .int 0, .int 0, .int 0, .int 0]))] sz [.ref a0_]) (qv_ (dC, dI) [(a0_, .inr (13, [.ref a1_, .ref a2_, .int (4 * (nI N)), .ref a3_, .ref a4_, .ref a5_, .int 0, .int 0, .int 0, .int 0, .int 0, .int 0, .int 0, .int 0, .int 0, .int 0, .int 0]))] sz (fun (u : Unit) => True) (fun (u : Unit) => [(a0_, .inr (13, [.ref a1_, .ref a2_, .int (4 * (nI N)), .ref a3_, .ref a4_, .ref a5_, .int 0, .int 0, .int 0, .int 0, .int 0, .int 0, .int 0, .int 0, .int 0, .int 0, .int 0]))])) 0 0 (va_A [(a0_, .inr (13, [.ref a1_, .ref a2_, .int (4 * (nI N)), .ref a3_, .ref a4_, .ref a5_, .int 0, .int 0, .int 0, .int 0, .int 0, .int 0, .int 0, .int 0, .int 0, .int 0, .int 0]))] sz) := by
  refine Met.ofW (cc := cX10_drop) (maxL := 1) (ret := none) (by decide) rfl ?_
  intro p e s m args below meth c s₁ B hml hv
  obtain ⟨rfl, hsz, hP, hKK, hD0, hFx⟩ := hv
  have hK := hKK.1
  have hx := B.exec
  have hb := B.bytes
  have hr := B.returns
  have ht : ∀ w ∈ tw_W, w.before _ s = true := fun w h => atoms_spec (ws := Cond.code yX10_drop cX10_drop 1 none :: tw_W) B.pre w (List.mem_cons_of_mem _ h)
  have hown : s.vm.findClass RX10 = some m.cls := findClass_of_methodNamed B.named
  have hlocks := B.notSynchronized
  subst hsz
  unfold qv_
  have hD := hD0.self (sz := s.heap.size)
  generalize hAe : va_A [(a0_, .inr (13, [.ref a1_, .ref a2_, .int (4 * (nI N)), .ref a3_, .ref a4_, .ref a5_, .int 0, .int 0, .int 0, .int 0, .int 0, .int 0, .int 0, .int 0, .int 0, .int 0, .int 0]))] s.heap.size = A at hD hFx ⊢
  have hA : ∀ q : Nat, s.heap.size ≤ q → A q := fun q h => by rw [← hAe]; exact Or.inr h
  have hS : va_S A s.heap s.heap [] := va_S.rf
  have hP : va_P (dC, dI) vwCl [(a0_, .inr (13, [.ref a1_, .ref a2_, .int (4 * (nI N)), .ref a3_, .ref a4_, .ref a5_, .int 0, .int 0, .int 0, .int 0, .int 0, .int 0, .int 0, .int 0, .int 0, .int 0, .int 0]))] s.heap := hP
  have hl := lv_entry ([.ref a0_]) (n := 1) (Nat.le_of_ble_eq_true rfl)
  rw [lg_entry_eq]
  generalize (lg_sl ([.ref a0_]) ++ List.replicate (1 - (lg_sl ([.ref a0_])).length) Slot.unset).toArray = ls at hl ⊢
  have hl : lv_has ls 1 [(0, .ref a0_)] := hl
  refine lv_aload_n hx hb dX10_drop_0 rfl (lv_at hl 0 rfl) ?_
  refine lv_iconst (v := 0) hx hb dX10_drop_1 (by decide) ?_
  refine va_put (D := (dC, dI)) (ci := 13) (v := .int 0) (ty := .boolean) (C := RX10) (T := TX10) (N := 17) hx hb ht itX10 tyX10 tyX10_ok nmX10 hown hK hP hD hS 0 rfl rfl 6 (by decide) (ht _ tw_250) (fun _ h9 => h9) rfl (by decide +kernel) rfl rfl (Nat.le_of_ble_eq_true rfl) dX10_drop_2 (fun H locs hP hD hS => ?_)
  have hP : va_P (dC, dI) vwCl [(a0_, .inr (13, [.ref a1_, .ref a2_, .int (4 * (nI N)), .ref a3_, .ref a4_, .ref a5_, .int 0, .int 0, .int 0, .int 0, .int 0, .int 0, .int 0, .int 0, .int 0, .int 0, .int 0]))] H := hP
  have hD : va_D A [(a0_, .inr (13, [.ref a1_, .ref a2_, .int (4 * (nI N)), .ref a3_, .ref a4_, .ref a5_, .int 0, .int 0, .int 0, .int 0, .int 0, .int 0, .int 0, .int 0, .int 0, .int 0, .int 0]))] := hD
  have hP9 := hP.sub (ws' := [(a0_, .inr (13, [.ref a1_, .ref a2_, .int (4 * (nI N)), .ref a3_, .ref a4_, .ref a5_, .int 0, .int 0, .int 0, .int 0, .int 0, .int 0, .int 0, .int 0, .int 0, .int 0, .int 0]))]) [0] rfl
  have hD9 := hD.sub (ws' := [(a0_, .inr (13, [.ref a1_, .ref a2_, .int (4 * (nI N)), .ref a3_, .ref a4_, .ref a5_, .int 0, .int 0, .int 0, .int 0, .int 0, .int 0, .int 0, .int 0, .int 0, .int 0, .int 0]))]) [0] (by decide) rfl
  refine W.widen (k := 0) (n := 0) (by omega) (by omega) ?_
  exact W.vret hx hb hr (fun t ht9 hW => ⟨⟨(), rfl, trivial, by rw [ht9]; exact hP9, hD9⟩, hS.F ht9⟩) hS.2.2 dX10_drop_5
set_option maxHeartbeats 4000000 in
set_option maxRecDepth 100000 in
/-- X11_load on a new object -/
theorem c_X11_load (l : Launch) (dC : Nat → ClassId) (dI : Nat → Nat → Nat) (cI cB cZ cJ cR : ClassId) (tb : Nat → Nat) (sz : Nat) (h0 : Nat) (q1 : Nat) (q9 : Nat) (q18 : Nat) (q27 : Nat) (q42 : Nat) (q2 : Nat) (q45 : Nat) (q50 : Nat) (q5 : Nat) (q20 : Nat) (q21 : Nat) (q22 : Nat) (q23 : Nat) (q24 : Nat) (q25 : Nat) (q26 : Nat) (N : Nat) (q52 : Nat) (q53 : Nat) (q54 : Nat) (q29 : Nat) (q30 : Nat) (q31 : Nat) (q32 : Nat) (q33 : Nat) (q34 : Nat) (q35 : Nat) (q36 : Nat) (q37 : Nat) (q38 : Nat) (q39 : Nat) (q40 : Nat) (q41 : Nat) (q44 : Nat) (hf_N_0 : 256 ≤ N) (hf_N_1 : N ≤ 4096) : Met l yX11_load (Cond.codeWith yX11_load cX11_load 2 (some .int) [(30, 41, 44, 99)] :: tw_W) ({ frames := 4, cells := 0, slots := 0, locals := 92 }) (pc_ (dC, dI) (tyS cI cB cZ cJ cR) tb [(h0, .inr (14, [.ref q1, .int 0, .ref q9, .ref q18, .ref q27, .ref q42, .int 0, .int (-1), .ref q2, .ref q45, .ref q50, .ref q5])), (q1, .inl (cI, 4000, .inl (fun _ => 0))), (q18, .inr (10, [.ref q20, .int 0, .ref q21, .int 0, .ref q22, .int 0, .ref q23, .ref q24, .ref q25, .int 0, .ref q26, .int 0, .int 0])), (q20, .inl (cI, 4000, .inl (fun _ => 0))), (q26, .inl (cI, N, .inl (fun _ => 0))), (q50, .inr (13, [.ref q9, .ref q2, .int (4 * (nI N)), .ref q52, .ref q53, .ref q54, .int 0, .int 0, .int 0, .int 0, .int 0, .int 0, .int 0, .int 0, .int 0, .int 0, .int 0])), (q27, .inr (8, [.ref q9, .ref q29, .ref q30, .ref q31, .int 0, .int 0, .int 0])), (q29, .inr (12, [.ref q9, .ref q32, .ref q33, .ref q34, .int 1, .int 0, .int 0, .int (-1), .int 0, .int (-1)])), (q32, .inl (cI, 1503, .inl (upd (fun _ => 0) 0 0))), (q33, .inl (cI, 1503, .inl (upd (fun _ => 0) 0 0))), (q34, .inl (cI, 1503, .inl (upd (fun _ => 0) 0 0))), (q30, .inr (5, [.ref q9, .ref q35, .int 0, .int 0, .int 0, .int 0, .ref q36, .int 0, .ref q37, .ref q38, .ref q39, .int 0])), (q31, .inr (6, [.ref q29, .ref q30, .ref q40, .ref q41, .int 0])), (q42, .inr (4, [.ref q9, .int (4 * (nI N)), .ref q44, .int 2, .int 1, .int 0, .int 0, .int 8, .int 8]))] sz [.ref h0]) (qi_ (dC, dI) [(h0, .inr (14, [.ref q1, .int 0, .ref q9, .ref q18, .ref q27, .ref q42, .int 0, .int (-1), .ref q2, .ref q45, .ref q50, .ref q5])), (q1, .inl (cI, 4000, .inl (fun _ => 0))), (q18, .inr (10, [.ref q20, .int 0, .ref q21, .int 0, .ref q22, .int 0, .ref q23, .ref q24, .ref q25, .int 0, .ref q26, .int 0, .int 0])), (q20, .inl (cI, 4000, .inl (fun _ => 0))), (q26, .inl (cI, N, .inl (fun _ => 0))), (q50, .inr (13, [.ref q9, .ref q2, .int (4 * (nI N)), .ref q52, .ref q53, .ref q54, .int 0, .int 0, .int 0, .int 0, .int 0, .int 0, .int 0, .int 0, .int 0, .int 0, .int 0])), (q27, .inr (8, [.ref q9, .ref q29, .ref q30, .ref q31, .int 0, .int 0, .int 0])), (q29, .inr (12, [.ref q9, .ref q32, .ref q33, .ref q34, .int 1, .int 0, .int 0, .int (-1), .int 0, .int (-1)])), (q32, .inl (cI, 1503, .inl (upd (fun _ => 0) 0 0))), (q33, .inl (cI, 1503, .inl (upd (fun _ => 0) 0 0))), (q34, .inl (cI, 1503, .inl (upd (fun _ => 0) 0 0))), (q30, .inr (5, [.ref q9, .ref q35, .int 0, .int 0, .int 0, .int 0, .ref q36, .int 0, .ref q37, .ref q38, .ref q39, .int 0])), (q31, .inr (6, [.ref q29, .ref q30, .ref q40, .ref q41, .int 0])), (q42, .inr (4, [.ref q9, .int (4 * (nI N)), .ref q44, .int 2, .int 1, .int 0, .int 0, .int 8, .int 8]))] sz (fun (r : Int32) (u : Unit) => r = 0) (fun (u : Unit) => [])) 0 0 (va_A [(h0, .inr (14, [.ref q1, .int 0, .ref q9, .ref q18, .ref q27, .ref q42, .int 0, .int (-1), .ref q2, .ref q45, .ref q50, .ref q5])), (q1, .inl (cI, 4000, .inl (fun _ => 0))), (q18, .inr (10, [.ref q20, .int 0, .ref q21, .int 0, .ref q22, .int 0, .ref q23, .ref q24, .ref q25, .int 0, .ref q26, .int 0, .int 0])), (q20, .inl (cI, 4000, .inl (fun _ => 0))), (q26, .inl (cI, N, .inl (fun _ => 0))), (q50, .inr (13, [.ref q9, .ref q2, .int (4 * (nI N)), .ref q52, .ref q53, .ref q54, .int 0, .int 0, .int 0, .int 0, .int 0, .int 0, .int 0, .int 0, .int 0, .int 0, .int 0])), (q27, .inr (8, [.ref q9, .ref q29, .ref q30, .ref q31, .int 0, .int 0, .int 0])), (q29, .inr (12, [.ref q9, .ref q32, .ref q33, .ref q34, .int 1, .int 0, .int 0, .int (-1), .int 0, .int (-1)])), (q32, .inl (cI, 1503, .inl (upd (fun _ => 0) 0 0))), (q33, .inl (cI, 1503, .inl (upd (fun _ => 0) 0 0))), (q34, .inl (cI, 1503, .inl (upd (fun _ => 0) 0 0))), (q30, .inr (5, [.ref q9, .ref q35, .int 0, .int 0, .int 0, .int 0, .ref q36, .int 0, .ref q37, .ref q38, .ref q39, .int 0])), (q31, .inr (6, [.ref q29, .ref q30, .ref q40, .ref q41, .int 0])), (q42, .inr (4, [.ref q9, .int (4 * (nI N)), .ref q44, .int 2, .int 1, .int 0, .int 0, .int 8, .int 8]))] sz) := by
  refine va_MetW (cc := cX11_load) (maxL := 2) (ret := (some .int)) (by decide) rfl ?_
  intro p e s m args below meth c s₁ B hml hv
  obtain ⟨rfl, hsz, hP, hKK, hD0, hFx⟩ := hv
  have hK := hKK.1
  have hx := B.exec
  have hb := B.bytes
  have hr := B.returns
  have ht : ∀ w ∈ tw_W, w.before _ s = true := fun w h => atoms_spec (ws := Cond.codeWith yX11_load cX11_load 2 (some .int) [(30, 41, 44, 99)] :: tw_W) B.pre w (List.mem_cons_of_mem _ h)
  have htab := vx_table (x := yX11_load) B (atoms_spec (ws := Cond.codeWith yX11_load cX11_load 2 (some .int) [(30, 41, 44, 99)] :: tw_W) B.pre _ List.mem_cons_self)
  have hown : s.vm.findClass RX11 = some m.cls := findClass_of_methodNamed B.named
  have hlocks := B.notSynchronized
  subst hsz
  unfold qi_
  have hD := hD0.self (sz := s.heap.size)
  generalize hAe : va_A [(h0, .inr (14, [.ref q1, .int 0, .ref q9, .ref q18, .ref q27, .ref q42, .int 0, .int (-1), .ref q2, .ref q45, .ref q50, .ref q5])), (q1, .inl (cI, 4000, .inl (fun _ => 0))), (q18, .inr (10, [.ref q20, .int 0, .ref q21, .int 0, .ref q22, .int 0, .ref q23, .ref q24, .ref q25, .int 0, .ref q26, .int 0, .int 0])), (q20, .inl (cI, 4000, .inl (fun _ => 0))), (q26, .inl (cI, N, .inl (fun _ => 0))), (q50, .inr (13, [.ref q9, .ref q2, .int (4 * (nI N)), .ref q52, .ref q53, .ref q54, .int 0, .int 0, .int 0, .int 0, .int 0, .int 0, .int 0, .int 0, .int 0, .int 0, .int 0])), (q27, .inr (8, [.ref q9, .ref q29, .ref q30, .ref q31, .int 0, .int 0, .int 0])), (q29, .inr (12, [.ref q9, .ref q32, .ref q33, .ref q34, .int 1, .int 0, .int 0, .int (-1), .int 0, .int (-1)])), (q32, .inl (cI, 1503, .inl (upd (fun _ => 0) 0 0))), (q33, .inl (cI, 1503, .inl (upd (fun _ => 0) 0 0))), (q34, .inl (cI, 1503, .inl (upd (fun _ => 0) 0 0))), (q30, .inr (5, [.ref q9, .ref q35, .int 0, .int 0, .int 0, .int 0, .ref q36, .int 0, .ref q37, .ref q38, .ref q39, .int 0])), (q31, .inr (6, [.ref q29, .ref q30, .ref q40, .ref q41, .int 0])), (q42, .inr (4, [.ref q9, .int (4 * (nI N)), .ref q44, .int 2, .int 1, .int 0, .int 0, .int 8, .int 8]))] s.heap.size = A at hD hFx ⊢
  have hA : ∀ q : Nat, s.heap.size ≤ q → A q := fun q h => by rw [← hAe]; exact Or.inr h
  have hS : va_S A s.heap s.heap [] := va_S.rf
  have hP : va_P (dC, dI) vwCl [(h0, .inr (14, [.ref q1, .int 0, .ref q9, .ref q18, .ref q27, .ref q42, .int 0, .int (-1), .ref q2, .ref q45, .ref q50, .ref q5])), (q1, .inl (cI, 4000, .inl (fun _ => 0))), (q18, .inr (10, [.ref q20, .int 0, .ref q21, .int 0, .ref q22, .int 0, .ref q23, .ref q24, .ref q25, .int 0, .ref q26, .int 0, .int 0])), (q20, .inl (cI, 4000, .inl (fun _ => 0))), (q26, .inl (cI, N, .inl (fun _ => 0))), (q50, .inr (13, [.ref q9, .ref q2, .int (4 * (nI N)), .ref q52, .ref q53, .ref q54, .int 0, .int 0, .int 0, .int 0, .int 0, .int 0, .int 0, .int 0, .int 0, .int 0, .int 0])), (q27, .inr (8, [.ref q9, .ref q29, .ref q30, .ref q31, .int 0, .int 0, .int 0])), (q29, .inr (12, [.ref q9, .ref q32, .ref q33, .ref q34, .int 1, .int 0, .int 0, .int (-1), .int 0, .int (-1)])), (q32, .inl (cI, 1503, .inl (upd (fun _ => 0) 0 0))), (q33, .inl (cI, 1503, .inl (upd (fun _ => 0) 0 0))), (q34, .inl (cI, 1503, .inl (upd (fun _ => 0) 0 0))), (q30, .inr (5, [.ref q9, .ref q35, .int 0, .int 0, .int 0, .int 0, .ref q36, .int 0, .ref q37, .ref q38, .ref q39, .int 0])), (q31, .inr (6, [.ref q29, .ref q30, .ref q40, .ref q41, .int 0])), (q42, .inr (4, [.ref q9, .int (4 * (nI N)), .ref q44, .int 2, .int 1, .int 0, .int 0, .int 8, .int 8]))] s.heap := hP
  have hl := lv_entry ([.ref h0]) (n := 2) (Nat.le_of_ble_eq_true rfl)
  rw [lg_entry_eq]
  generalize (lg_sl ([.ref h0]) ++ List.replicate (2 - (lg_sl ([.ref h0])).length) Slot.unset).toArray = ls at hl ⊢
  have hl : lv_has ls 2 [(0, .ref h0)] := hl
  refine lv_aload_n hx hb dX11_load_0 rfl (lv_at hl 0 rfl) ?_
  refine va_get (D := (dC, dI)) (ci := 14) (v := .ref q18) (C := RX11) (T := TX11) (N := 12) hx hb ht itX11 hown hK hP 0 rfl rfl 3 (by decide) (ht _ tw_111) (fun _ h9 => h9) rfl dX11_load_1 ?_
  refine lv_aload_n hx hb dX11_load_4 rfl (lv_at hl 0 rfl) ?_
  refine va_get (D := (dC, dI)) (ci := 14) (v := .ref q1) (C := RX11) (T := TX11) (N := 12) hx hb ht itX11 hown hK hP 0 rfl rfl 0 (by decide) (ht _ tw_85) (fun _ h9 => h9) rfl dX11_load_5 ?_
  refine lv_aload_n hx hb dX11_load_8 rfl (lv_at hl 0 rfl) ?_
  refine va_get (D := (dC, dI)) (ci := 14) (v := .int 0) (C := RX11) (T := TX11) (N := 12) hx hb ht itX11 hown hK hP 0 rfl rfl 1 (by decide) (ht _ tw_212) (fun _ h9 => h9) rfl dX11_load_9 ?_
  refine ca_v (wr := [(h0, .inr (14, [.ref q1, .int 0, .ref q9, .ref q18, .ref q27, .ref q42, .int 0, .int (-1), .ref q2, .ref q45, .ref q50, .ref q5])), (q26, .inl (cI, N, .inl (fun _ => 0))), (q50, .inr (13, [.ref q9, .ref q2, .int (4 * (nI N)), .ref q52, .ref q53, .ref q54, .int 0, .int 0, .int 0, .int 0, .int 0, .int 0, .int 0, .int 0, .int 0, .int 0, .int 0])), (q27, .inr (8, [.ref q9, .ref q29, .ref q30, .ref q31, .int 0, .int 0, .int 0])), (q29, .inr (12, [.ref q9, .ref q32, .ref q33, .ref q34, .int 1, .int 0, .int 0, .int (-1), .int 0, .int (-1)])), (q32, .inl (cI, 1503, .inl (upd (fun _ => 0) 0 0))), (q33, .inl (cI, 1503, .inl (upd (fun _ => 0) 0 0))), (q34, .inl (cI, 1503, .inl (upd (fun _ => 0) 0 0))), (q30, .inr (5, [.ref q9, .ref q35, .int 0, .int 0, .int 0, .int 0, .ref q36, .int 0, .ref q37, .ref q38, .ref q39, .int 0])), (q31, .inr (6, [.ref q29, .ref q30, .ref q40, .ref q41, .int 0])), (q42, .inr (4, [.ref q9, .int (4 * (nI N)), .ref q44, .int 2, .int 1, .int 0, .int 0, .int 8, .int 8]))]) (rn_V (n := 2) (As := [.ref q1, .int 0]) (rest := []) hx hb hml hown ht hKK hFx hP hD hS hA (c_X7_copyText l dC dI cI cB cZ cJ cR tb s.heap.size q18 q1 q20 q21 q22 q23 q24 q25 q26) tw_318 tw_319 (by decide +kernel) rfl rfl ⟨Nat.le_of_ble_eq_true rfl, Nat.le_of_ble_eq_true rfl⟩ [2, 1, 3] rfl (by decide) rfl rfl rfl rfl hl.1 rfl (Nat.le_of_ble_eq_true rfl) dX11_load_12 ⟨Nat.le_of_ble_eq_true rfl, Nat.le_of_ble_eq_true rfl⟩) hP hD hS hA (isC := [2, 1, 3]) (isR := [0, 4, 5, 6, 7, 8, 9, 10, 11, 12, 13]) rfl rfl (by decide) (by decide) (fun u H locs hw1 hP hD hS => ?_)
  have hP : va_P (dC, dI) vwCl [(h0, .inr (14, [.ref q1, .int 0, .ref q9, .ref q18, .ref q27, .ref q42, .int 0, .int (-1), .ref q2, .ref q45, .ref q50, .ref q5])), (q26, .inl (cI, N, .inl (fun _ => 0))), (q50, .inr (13, [.ref q9, .ref q2, .int (4 * (nI N)), .ref q52, .ref q53, .ref q54, .int 0, .int 0, .int 0, .int 0, .int 0, .int 0, .int 0, .int 0, .int 0, .int 0, .int 0])), (q27, .inr (8, [.ref q9, .ref q29, .ref q30, .ref q31, .int 0, .int 0, .int 0])), (q29, .inr (12, [.ref q9, .ref q32, .ref q33, .ref q34, .int 1, .int 0, .int 0, .int (-1), .int 0, .int (-1)])), (q32, .inl (cI, 1503, .inl (upd (fun _ => 0) 0 0))), (q33, .inl (cI, 1503, .inl (upd (fun _ => 0) 0 0))), (q34, .inl (cI, 1503, .inl (upd (fun _ => 0) 0 0))), (q30, .inr (5, [.ref q9, .ref q35, .int 0, .int 0, .int 0, .int 0, .ref q36, .int 0, .ref q37, .ref q38, .ref q39, .int 0])), (q31, .inr (6, [.ref q29, .ref q30, .ref q40, .ref q41, .int 0])), (q42, .inr (4, [.ref q9, .int (4 * (nI N)), .ref q44, .int 2, .int 1, .int 0, .int 0, .int 8, .int 8])), (q18, .inr (10, [.ref q20, .int 0, .ref q21, .int 0, .ref q22, .int 0, .ref q23, .ref q24, .ref q25, .int 0, .ref q26, .int 0, .int 0])), (q1, .inl (cI, 4000, .inl (fun _ => 0))), (q20, .inl (cI, 4000, .inl (va_cpy (fun _ => 0) (fun _ => 0) 0 0 0)))] H := hP
  have hD : va_D A [(h0, .inr (14, [.ref q1, .int 0, .ref q9, .ref q18, .ref q27, .ref q42, .int 0, .int (-1), .ref q2, .ref q45, .ref q50, .ref q5])), (q26, .inl (cI, N, .inl (fun _ => 0))), (q50, .inr (13, [.ref q9, .ref q2, .int (4 * (nI N)), .ref q52, .ref q53, .ref q54, .int 0, .int 0, .int 0, .int 0, .int 0, .int 0, .int 0, .int 0, .int 0, .int 0, .int 0])), (q27, .inr (8, [.ref q9, .ref q29, .ref q30, .ref q31, .int 0, .int 0, .int 0])), (q29, .inr (12, [.ref q9, .ref q32, .ref q33, .ref q34, .int 1, .int 0, .int 0, .int (-1), .int 0, .int (-1)])), (q32, .inl (cI, 1503, .inl (upd (fun _ => 0) 0 0))), (q33, .inl (cI, 1503, .inl (upd (fun _ => 0) 0 0))), (q34, .inl (cI, 1503, .inl (upd (fun _ => 0) 0 0))), (q30, .inr (5, [.ref q9, .ref q35, .int 0, .int 0, .int 0, .int 0, .ref q36, .int 0, .ref q37, .ref q38, .ref q39, .int 0])), (q31, .inr (6, [.ref q29, .ref q30, .ref q40, .ref q41, .int 0])), (q42, .inr (4, [.ref q9, .int (4 * (nI N)), .ref q44, .int 2, .int 1, .int 0, .int 0, .int 8, .int 8])), (q18, .inr (10, [.ref q20, .int 0, .ref q21, .int 0, .ref q22, .int 0, .ref q23, .ref q24, .ref q25, .int 0, .ref q26, .int 0, .int 0])), (q1, .inl (cI, 4000, .inl (fun _ => 0))), (q20, .inl (cI, 4000, .inl (va_cpy (fun _ => 0) (fun _ => 0) 0 0 0)))] := hD
  refine W.widen (k := 0) (n := 0) (by omega) (by omega) ?_
  refine lv_aload_n hx hb dX11_load_15 rfl (lv_at hl 0 rfl) ?_
  refine lv_iconst (v := 0) hx hb dX11_load_16 (by decide) ?_
  refine va_put (D := (dC, dI)) (ci := 14) (v := .int 0) (ty := .int) (C := RX11) (T := TX11) (N := 12) hx hb ht itX11 tyX11 tyX11_ok nmX11 hown hK hP hD hS 0 rfl rfl 1 (by decide) (ht _ tw_212) (fun _ h9 => h9) rfl (by decide +kernel) rfl rfl (Nat.le_of_ble_eq_true rfl) dX11_load_17 (fun H locs hP hD hS => ?_)
  have hP : va_P (dC, dI) vwCl [(h0, .inr (14, [.ref q1, .int 0, .ref q9, .ref q18, .ref q27, .ref q42, .int 0, .int (-1), .ref q2, .ref q45, .ref q50, .ref q5])), (q26, .inl (cI, N, .inl (fun _ => 0))), (q50, .inr (13, [.ref q9, .ref q2, .int (4 * (nI N)), .ref q52, .ref q53, .ref q54, .int 0, .int 0, .int 0, .int 0, .int 0, .int 0, .int 0, .int 0, .int 0, .int 0, .int 0])), (q27, .inr (8, [.ref q9, .ref q29, .ref q30, .ref q31, .int 0, .int 0, .int 0])), (q29, .inr (12, [.ref q9, .ref q32, .ref q33, .ref q34, .int 1, .int 0, .int 0, .int (-1), .int 0, .int (-1)])), (q32, .inl (cI, 1503, .inl (upd (fun _ => 0) 0 0))), (q33, .inl (cI, 1503, .inl (upd (fun _ => 0) 0 0))), (q34, .inl (cI, 1503, .inl (upd (fun _ => 0) 0 0))), (q30, .inr (5, [.ref q9, .ref q35, .int 0, .int 0, .int 0, .int 0, .ref q36, .int 0, .ref q37, .ref q38, .ref q39, .int 0])), (q31, .inr (6, [.ref q29, .ref q30, .ref q40, .ref q41, .int 0])), (q42, .inr (4, [.ref q9, .int (4 * (nI N)), .ref q44, .int 2, .int 1, .int 0, .int 0, .int 8, .int 8])), (q18, .inr (10, [.ref q20, .int 0, .ref q21, .int 0, .ref q22, .int 0, .ref q23, .ref q24, .ref q25, .int 0, .ref q26, .int 0, .int 0])), (q1, .inl (cI, 4000, .inl (fun _ => 0))), (q20, .inl (cI, 4000, .inl (va_cpy (fun _ => 0) (fun _ => 0) 0 0 0)))] H := hP
  have hD : va_D A [(h0, .inr (14, [.ref q1, .int 0, .ref q9, .ref q18, .ref q27, .ref q42, .int 0, .int (-1), .ref q2, .ref q45, .ref q50, .ref q5])), (q26, .inl (cI, N, .inl (fun _ => 0))), (q50, .inr (13, [.ref q9, .ref q2, .int (4 * (nI N)), .ref q52, .ref q53, .ref q54, .int 0, .int 0, .int 0, .int 0, .int 0, .int 0, .int 0, .int 0, .int 0, .int 0, .int 0])), (q27, .inr (8, [.ref q9, .ref q29, .ref q30, .ref q31, .int 0, .int 0, .int 0])), (q29, .inr (12, [.ref q9, .ref q32, .ref q33, .ref q34, .int 1, .int 0, .int 0, .int (-1), .int 0, .int (-1)])), (q32, .inl (cI, 1503, .inl (upd (fun _ => 0) 0 0))), (q33, .inl (cI, 1503, .inl (upd (fun _ => 0) 0 0))), (q34, .inl (cI, 1503, .inl (upd (fun _ => 0) 0 0))), (q30, .inr (5, [.ref q9, .ref q35, .int 0, .int 0, .int 0, .int 0, .ref q36, .int 0, .ref q37, .ref q38, .ref q39, .int 0])), (q31, .inr (6, [.ref q29, .ref q30, .ref q40, .ref q41, .int 0])), (q42, .inr (4, [.ref q9, .int (4 * (nI N)), .ref q44, .int 2, .int 1, .int 0, .int 0, .int 8, .int 8])), (q18, .inr (10, [.ref q20, .int 0, .ref q21, .int 0, .ref q22, .int 0, .ref q23, .ref q24, .ref q25, .int 0, .ref q26, .int 0, .int 0])), (q1, .inl (cI, 4000, .inl (fun _ => 0))), (q20, .inl (cI, 4000, .inl (va_cpy (fun _ => 0) (fun _ => 0) 0 0 0)))] := hD
  refine lv_aload_n hx hb dX11_load_20 rfl (lv_at hl 0 rfl) ?_
  refine lv_iconst (v := 0) hx hb dX11_load_21 (by decide) ?_
  refine va_put (D := (dC, dI)) (ci := 14) (v := .int 0) (ty := .int) (C := RX11) (T := TX11) (N := 12) hx hb ht itX11 tyX11 tyX11_ok nmX11 hown hK hP hD hS 0 rfl rfl 6 (by decide) (ht _ tw_215) (fun _ h9 => h9) rfl (by decide +kernel) rfl rfl (Nat.le_of_ble_eq_true rfl) dX11_load_22 (fun H locs hP hD hS => ?_)
  have hP : va_P (dC, dI) vwCl [(h0, .inr (14, [.ref q1, .int 0, .ref q9, .ref q18, .ref q27, .ref q42, .int 0, .int (-1), .ref q2, .ref q45, .ref q50, .ref q5])), (q26, .inl (cI, N, .inl (fun _ => 0))), (q50, .inr (13, [.ref q9, .ref q2, .int (4 * (nI N)), .ref q52, .ref q53, .ref q54, .int 0, .int 0, .int 0, .int 0, .int 0, .int 0, .int 0, .int 0, .int 0, .int 0, .int 0])), (q27, .inr (8, [.ref q9, .ref q29, .ref q30, .ref q31, .int 0, .int 0, .int 0])), (q29, .inr (12, [.ref q9, .ref q32, .ref q33, .ref q34, .int 1, .int 0, .int 0, .int (-1), .int 0, .int (-1)])), (q32, .inl (cI, 1503, .inl (upd (fun _ => 0) 0 0))), (q33, .inl (cI, 1503, .inl (upd (fun _ => 0) 0 0))), (q34, .inl (cI, 1503, .inl (upd (fun _ => 0) 0 0))), (q30, .inr (5, [.ref q9, .ref q35, .int 0, .int 0, .int 0, .int 0, .ref q36, .int 0, .ref q37, .ref q38, .ref q39, .int 0])), (q31, .inr (6, [.ref q29, .ref q30, .ref q40, .ref q41, .int 0])), (q42, .inr (4, [.ref q9, .int (4 * (nI N)), .ref q44, .int 2, .int 1, .int 0, .int 0, .int 8, .int 8])), (q18, .inr (10, [.ref q20, .int 0, .ref q21, .int 0, .ref q22, .int 0, .ref q23, .ref q24, .ref q25, .int 0, .ref q26, .int 0, .int 0])), (q1, .inl (cI, 4000, .inl (fun _ => 0))), (q20, .inl (cI, 4000, .inl (va_cpy (fun _ => 0) (fun _ => 0) 0 0 0)))] H := hP
  have hD : va_D A [(h0, .inr (14, [.ref q1, .int 0, .ref q9, .ref q18, .ref q27, .ref q42, .int 0, .int (-1), .ref q2, .ref q45, .ref q50, .ref q5])), (q26, .inl (cI, N, .inl (fun _ => 0))), (q50, .inr (13, [.ref q9, .ref q2, .int (4 * (nI N)), .ref q52, .ref q53, .ref q54, .int 0, .int 0, .int 0, .int 0, .int 0, .int 0, .int 0, .int 0, .int 0, .int 0, .int 0])), (q27, .inr (8, [.ref q9, .ref q29, .ref q30, .ref q31, .int 0, .int 0, .int 0])), (q29, .inr (12, [.ref q9, .ref q32, .ref q33, .ref q34, .int 1, .int 0, .int 0, .int (-1), .int 0, .int (-1)])), (q32, .inl (cI, 1503, .inl (upd (fun _ => 0) 0 0))), (q33, .inl (cI, 1503, .inl (upd (fun _ => 0) 0 0))), (q34, .inl (cI, 1503, .inl (upd (fun _ => 0) 0 0))), (q30, .inr (5, [.ref q9, .ref q35, .int 0, .int 0, .int 0, .int 0, .ref q36, .int 0, .ref q37, .ref q38, .ref q39, .int 0])), (q31, .inr (6, [.ref q29, .ref q30, .ref q40, .ref q41, .int 0])), (q42, .inr (4, [.ref q9, .int (4 * (nI N)), .ref q44, .int 2, .int 1, .int 0, .int 0, .int 8, .int 8])), (q18, .inr (10, [.ref q20, .int 0, .ref q21, .int 0, .ref q22, .int 0, .ref q23, .ref q24, .ref q25, .int 0, .ref q26, .int 0, .int 0])), (q1, .inl (cI, 4000, .inl (fun _ => 0))), (q20, .inl (cI, 4000, .inl (va_cpy (fun _ => 0) (fun _ => 0) 0 0 0)))] := hD
  refine lv_aload_n hx hb dX11_load_25 rfl (lv_at hl 0 rfl) ?_
  refine lv_iconst (v := -1) hx hb dX11_load_26 (by decide) ?_
  refine va_put (D := (dC, dI)) (ci := 14) (v := .int (-1)) (ty := .int) (C := RX11) (T := TX11) (N := 12) hx hb ht itX11 tyX11 tyX11_ok nmX11 hown hK hP hD hS 0 rfl rfl 7 (by decide) (ht _ tw_86) (fun _ h9 => h9) rfl (by decide +kernel) rfl rfl (Nat.le_of_ble_eq_true rfl) dX11_load_27 (fun H locs hP hD hS => ?_)
  have hP : va_P (dC, dI) vwCl [(h0, .inr (14, [.ref q1, .int 0, .ref q9, .ref q18, .ref q27, .ref q42, .int 0, .int (-1), .ref q2, .ref q45, .ref q50, .ref q5])), (q26, .inl (cI, N, .inl (fun _ => 0))), (q50, .inr (13, [.ref q9, .ref q2, .int (4 * (nI N)), .ref q52, .ref q53, .ref q54, .int 0, .int 0, .int 0, .int 0, .int 0, .int 0, .int 0, .int 0, .int 0, .int 0, .int 0])), (q27, .inr (8, [.ref q9, .ref q29, .ref q30, .ref q31, .int 0, .int 0, .int 0])), (q29, .inr (12, [.ref q9, .ref q32, .ref q33, .ref q34, .int 1, .int 0, .int 0, .int (-1), .int 0, .int (-1)])), (q32, .inl (cI, 1503, .inl (upd (fun _ => 0) 0 0))), (q33, .inl (cI, 1503, .inl (upd (fun _ => 0) 0 0))), (q34, .inl (cI, 1503, .inl (upd (fun _ => 0) 0 0))), (q30, .inr (5, [.ref q9, .ref q35, .int 0, .int 0, .int 0, .int 0, .ref q36, .int 0, .ref q37, .ref q38, .ref q39, .int 0])), (q31, .inr (6, [.ref q29, .ref q30, .ref q40, .ref q41, .int 0])), (q42, .inr (4, [.ref q9, .int (4 * (nI N)), .ref q44, .int 2, .int 1, .int 0, .int 0, .int 8, .int 8])), (q18, .inr (10, [.ref q20, .int 0, .ref q21, .int 0, .ref q22, .int 0, .ref q23, .ref q24, .ref q25, .int 0, .ref q26, .int 0, .int 0])), (q1, .inl (cI, 4000, .inl (fun _ => 0))), (q20, .inl (cI, 4000, .inl (va_cpy (fun _ => 0) (fun _ => 0) 0 0 0)))] H := hP
  have hD : va_D A [(h0, .inr (14, [.ref q1, .int 0, .ref q9, .ref q18, .ref q27, .ref q42, .int 0, .int (-1), .ref q2, .ref q45, .ref q50, .ref q5])), (q26, .inl (cI, N, .inl (fun _ => 0))), (q50, .inr (13, [.ref q9, .ref q2, .int (4 * (nI N)), .ref q52, .ref q53, .ref q54, .int 0, .int 0, .int 0, .int 0, .int 0, .int 0, .int 0, .int 0, .int 0, .int 0, .int 0])), (q27, .inr (8, [.ref q9, .ref q29, .ref q30, .ref q31, .int 0, .int 0, .int 0])), (q29, .inr (12, [.ref q9, .ref q32, .ref q33, .ref q34, .int 1, .int 0, .int 0, .int (-1), .int 0, .int (-1)])), (q32, .inl (cI, 1503, .inl (upd (fun _ => 0) 0 0))), (q33, .inl (cI, 1503, .inl (upd (fun _ => 0) 0 0))), (q34, .inl (cI, 1503, .inl (upd (fun _ => 0) 0 0))), (q30, .inr (5, [.ref q9, .ref q35, .int 0, .int 0, .int 0, .int 0, .ref q36, .int 0, .ref q37, .ref q38, .ref q39, .int 0])), (q31, .inr (6, [.ref q29, .ref q30, .ref q40, .ref q41, .int 0])), (q42, .inr (4, [.ref q9, .int (4 * (nI N)), .ref q44, .int 2, .int 1, .int 0, .int 0, .int 8, .int 8])), (q18, .inr (10, [.ref q20, .int 0, .ref q21, .int 0, .ref q22, .int 0, .ref q23, .ref q24, .ref q25, .int 0, .ref q26, .int 0, .int 0])), (q1, .inl (cI, 4000, .inl (fun _ => 0))), (q20, .inl (cI, 4000, .inl (va_cpy (fun _ => 0) (fun _ => 0) 0 0 0)))] := hD
  refine lv_aload_n hx hb dX11_load_30 rfl (lv_at hl 0 rfl) ?_
  refine va_get (D := (dC, dI)) (ci := 14) (v := .ref q27) (C := RX11) (T := TX11) (N := 12) hx hb ht itX11 hown hK hP 0 rfl rfl 4 (by decide) (ht _ tw_119) (fun _ h9 => h9) rfl dX11_load_31 ?_
  refine lv_aload_n hx hb dX11_load_34 rfl (lv_at hl 0 rfl) ?_
  refine va_get (D := (dC, dI)) (ci := 14) (v := .ref q18) (C := RX11) (T := TX11) (N := 12) hx hb ht itX11 hown hK hP 0 rfl rfl 3 (by decide) (ht _ tw_111) (fun _ h9 => h9) rfl dX11_load_35 ?_
  refine ca_v (wr := [(h0, .inr (14, [.ref q1, .int 0, .ref q9, .ref q18, .ref q27, .ref q42, .int 0, .int (-1), .ref q2, .ref q45, .ref q50, .ref q5])), (q26, .inl (cI, N, .inl (fun _ => 0))), (q50, .inr (13, [.ref q9, .ref q2, .int (4 * (nI N)), .ref q52, .ref q53, .ref q54, .int 0, .int 0, .int 0, .int 0, .int 0, .int 0, .int 0, .int 0, .int 0, .int 0, .int 0])), (q42, .inr (4, [.ref q9, .int (4 * (nI N)), .ref q44, .int 2, .int 1, .int 0, .int 0, .int 8, .int 8])), (q1, .inl (cI, 4000, .inl (fun _ => 0))), (q20, .inl (cI, 4000, .inl (va_cpy (fun _ => 0) (fun _ => 0) 0 0 0)))]) (rn_V (n := 1) (As := [.ref q18]) (rest := []) hx hb hml hown ht hKK hFx hP hD hS hA (c_X5_readText_2 l dC dI cI cB cZ cJ cR tb H.size q27 q18 q9 q29 q30 q31 q32 q33 q34 q35 q36 q37 q38 q39 q40 q41 q20 q21 q22 q23 q24 q25 q26) tw_188 tw_189 (by decide +kernel) rfl rfl ⟨Nat.le_of_ble_eq_true rfl, Nat.le_of_ble_eq_true rfl⟩ [3, 4, 5, 6, 7, 8, 9, 11] rfl (by decide) rfl rfl rfl rfl hl.1 rfl (Nat.le_of_ble_eq_true rfl) dX11_load_38 ⟨Nat.le_of_ble_eq_true rfl, Nat.le_of_ble_eq_true rfl⟩) hP hD hS hA (isC := [3, 4, 5, 6, 7, 8, 9, 11]) (isR := [0, 1, 2, 10, 12, 13]) rfl rfl (by decide) (by decide) (fun u H locs hw2 hP hD hS => ?_)
  have hP : va_P (dC, dI) vwCl [(h0, .inr (14, [.ref q1, .int 0, .ref q9, .ref q18, .ref q27, .ref q42, .int 0, .int (-1), .ref q2, .ref q45, .ref q50, .ref q5])), (q26, .inl (cI, N, .inl (fun _ => 0))), (q50, .inr (13, [.ref q9, .ref q2, .int (4 * (nI N)), .ref q52, .ref q53, .ref q54, .int 0, .int 0, .int 0, .int 0, .int 0, .int 0, .int 0, .int 0, .int 0, .int 0, .int 0])), (q42, .inr (4, [.ref q9, .int (4 * (nI N)), .ref q44, .int 2, .int 1, .int 0, .int 0, .int 8, .int 8])), (q1, .inl (cI, 4000, .inl (fun _ => 0))), (q20, .inl (cI, 4000, .inl (va_cpy (fun _ => 0) (fun _ => 0) 0 0 0))), (q27, .inr (8, [.ref q18, .ref q29, .ref q30, .ref q31, .int 0, .int 0, .int 0])), (q29, .inr (12, [.ref q18, .ref q32, .ref q33, .ref q34, .int 1, .int 0, .int 0, .int (-1), .int 0, .int (-1)])), (q32, .inl (cI, 1503, .inl (upd (upd (fun _ => 0) 0 0) 0 0))), (q33, .inl (cI, 1503, .inl (upd (upd (fun _ => 0) 0 0) 0 0))), (q34, .inl (cI, 1503, .inl (upd (upd (fun _ => 0) 0 0) 0 0))), (q30, .inr (5, [.ref q18, .ref q35, .int 0, .int 0, .int 0, .int 0, .ref q36, .int 0, .ref q37, .ref q38, .ref q39, .int 0])), (q31, .inr (6, [.ref q29, .ref q30, .ref q40, .ref q41, .int 0])), (q18, .inr (10, [.ref q20, .int 0, .ref q21, .int 0, .ref q22, .int 0, .ref q23, .ref q24, .ref q25, .int 0, .ref q26, .int 0, .int 0]))] H := hP
  have hD : va_D A [(h0, .inr (14, [.ref q1, .int 0, .ref q9, .ref q18, .ref q27, .ref q42, .int 0, .int (-1), .ref q2, .ref q45, .ref q50, .ref q5])), (q26, .inl (cI, N, .inl (fun _ => 0))), (q50, .inr (13, [.ref q9, .ref q2, .int (4 * (nI N)), .ref q52, .ref q53, .ref q54, .int 0, .int 0, .int 0, .int 0, .int 0, .int 0, .int 0, .int 0, .int 0, .int 0, .int 0])), (q42, .inr (4, [.ref q9, .int (4 * (nI N)), .ref q44, .int 2, .int 1, .int 0, .int 0, .int 8, .int 8])), (q1, .inl (cI, 4000, .inl (fun _ => 0))), (q20, .inl (cI, 4000, .inl (va_cpy (fun _ => 0) (fun _ => 0) 0 0 0))), (q27, .inr (8, [.ref q18, .ref q29, .ref q30, .ref q31, .int 0, .int 0, .int 0])), (q29, .inr (12, [.ref q18, .ref q32, .ref q33, .ref q34, .int 1, .int 0, .int 0, .int (-1), .int 0, .int (-1)])), (q32, .inl (cI, 1503, .inl (upd (upd (fun _ => 0) 0 0) 0 0))), (q33, .inl (cI, 1503, .inl (upd (upd (fun _ => 0) 0 0) 0 0))), (q34, .inl (cI, 1503, .inl (upd (upd (fun _ => 0) 0 0) 0 0))), (q30, .inr (5, [.ref q18, .ref q35, .int 0, .int 0, .int 0, .int 0, .ref q36, .int 0, .ref q37, .ref q38, .ref q39, .int 0])), (q31, .inr (6, [.ref q29, .ref q30, .ref q40, .ref q41, .int 0])), (q18, .inr (10, [.ref q20, .int 0, .ref q21, .int 0, .ref q22, .int 0, .ref q23, .ref q24, .ref q25, .int 0, .ref q26, .int 0, .int 0]))] := hD
  refine W.widen (k := 0) (n := 0) (by omega) (by omega) ?_
  refine lv_goto (tgt := 73) hx hb dX11_load_41 (by decide) ?_
  refine lv_aload_n hx hb dX11_load_73 rfl (lv_at hl 0 rfl) ?_
  refine va_get (D := (dC, dI)) (ci := 14) (v := .int 0) (C := RX11) (T := TX11) (N := 12) hx hb ht itX11 hown hK hP 0 rfl rfl 6 (by decide) (ht _ tw_215) (fun _ h9 => h9) rfl dX11_load_74 ?_
  refine lv_if_ne (tgt := 111) hx hb dX11_load_77 (by decide) (fun k3 => absurd k3 (by decide)) (fun _ => ?_)
  refine lv_aload_n hx hb dX11_load_80 rfl (lv_at hl 0 rfl) ?_
  refine va_get (D := (dC, dI)) (ci := 14) (v := .ref q42) (C := RX11) (T := TX11) (N := 12) hx hb ht itX11 hown hK hP 0 rfl rfl 5 (by decide) (ht _ tw_127) (fun _ h9 => h9) rfl dX11_load_81 ?_
  refine lv_aload_n hx hb dX11_load_84 rfl (lv_at hl 0 rfl) ?_
  refine va_get (D := (dC, dI)) (ci := 14) (v := .ref q18) (C := RX11) (T := TX11) (N := 12) hx hb ht itX11 hown hK hP 0 rfl rfl 3 (by decide) (ht _ tw_111) (fun _ h9 => h9) rfl dX11_load_85 ?_
  refine ca_i (wr := [(h0, .inr (14, [.ref q1, .int 0, .ref q9, .ref q18, .ref q27, .ref q42, .int 0, .int (-1), .ref q2, .ref q45, .ref q50, .ref q5])), (q50, .inr (13, [.ref q9, .ref q2, .int (4 * (nI N)), .ref q52, .ref q53, .ref q54, .int 0, .int 0, .int 0, .int 0, .int 0, .int 0, .int 0, .int 0, .int 0, .int 0, .int 0])), (q1, .inl (cI, 4000, .inl (fun _ => 0))), (q20, .inl (cI, 4000, .inl (va_cpy (fun _ => 0) (fun _ => 0) 0 0 0))), (q27, .inr (8, [.ref q18, .ref q29, .ref q30, .ref q31, .int 0, .int 0, .int 0])), (q29, .inr (12, [.ref q18, .ref q32, .ref q33, .ref q34, .int 1, .int 0, .int 0, .int (-1), .int 0, .int (-1)])), (q32, .inl (cI, 1503, .inl (upd (upd (fun _ => 0) 0 0) 0 0))), (q33, .inl (cI, 1503, .inl (upd (upd (fun _ => 0) 0 0) 0 0))), (q34, .inl (cI, 1503, .inl (upd (upd (fun _ => 0) 0 0) 0 0))), (q30, .inr (5, [.ref q18, .ref q35, .int 0, .int 0, .int 0, .int 0, .ref q36, .int 0, .ref q37, .ref q38, .ref q39, .int 0])), (q31, .inr (6, [.ref q29, .ref q30, .ref q40, .ref q41, .int 0]))]) (rn_V (n := 1) (As := [.ref q18]) (rest := []) hx hb hml hown ht hKK hFx hP hD hS hA (c_X0_assemble_2 l dC dI cI cB cZ cJ cR tb H.size q42 q18 q9 N q44 q26 q20 q21 q22 q23 q24 q25 (by omega) (by omega)) tw_210 tw_211 (by decide +kernel) rfl rfl ⟨Nat.le_of_ble_eq_true rfl, Nat.le_of_ble_eq_true rfl⟩ [3, 1, 13] rfl (by decide) rfl rfl rfl rfl hl.1 rfl (Nat.le_of_ble_eq_true rfl) dX11_load_88 ⟨Nat.le_of_ble_eq_true rfl, Nat.le_of_ble_eq_true rfl⟩) hP hD hS hA (isC := [3, 1, 13]) (isR := [0, 2, 4, 5, 6, 7, 8, 9, 10, 11, 12]) rfl rfl (by decide) (by decide) (fun r5 u H locs hw4 hP hD hS => ?_)
  subst hw4
  have hP : va_P (dC, dI) vwCl [(h0, .inr (14, [.ref q1, .int 0, .ref q9, .ref q18, .ref q27, .ref q42, .int 0, .int (-1), .ref q2, .ref q45, .ref q50, .ref q5])), (q50, .inr (13, [.ref q9, .ref q2, .int (4 * (nI N)), .ref q52, .ref q53, .ref q54, .int 0, .int 0, .int 0, .int 0, .int 0, .int 0, .int 0, .int 0, .int 0, .int 0, .int 0])), (q1, .inl (cI, 4000, .inl (fun _ => 0))), (q20, .inl (cI, 4000, .inl (va_cpy (fun _ => 0) (fun _ => 0) 0 0 0))), (q27, .inr (8, [.ref q18, .ref q29, .ref q30, .ref q31, .int 0, .int 0, .int 0])), (q29, .inr (12, [.ref q18, .ref q32, .ref q33, .ref q34, .int 1, .int 0, .int 0, .int (-1), .int 0, .int (-1)])), (q32, .inl (cI, 1503, .inl (upd (upd (fun _ => 0) 0 0) 0 0))), (q33, .inl (cI, 1503, .inl (upd (upd (fun _ => 0) 0 0) 0 0))), (q34, .inl (cI, 1503, .inl (upd (upd (fun _ => 0) 0 0) 0 0))), (q30, .inr (5, [.ref q18, .ref q35, .int 0, .int 0, .int 0, .int 0, .ref q36, .int 0, .ref q37, .ref q38, .ref q39, .int 0])), (q31, .inr (6, [.ref q29, .ref q30, .ref q40, .ref q41, .int 0])), (q42, .inr (4, [.ref q18, .int (4 * (nI N)), .ref q44, .int 2, .int 1, .int 0, .int 0, .int 8, .int 8])), (q26, .inl (cI, N, .inl (upd (upd (fun _ => 0) 0 2195) 1 1048691))), (q18, .inr (10, [.ref q20, .int 0, .ref q21, .int 0, .ref q22, .int 0, .ref q23, .ref q24, .ref q25, .int 0, .ref q26, .int 2, .int 8]))] H := hP
  have hD : va_D A [(h0, .inr (14, [.ref q1, .int 0, .ref q9, .ref q18, .ref q27, .ref q42, .int 0, .int (-1), .ref q2, .ref q45, .ref q50, .ref q5])), (q50, .inr (13, [.ref q9, .ref q2, .int (4 * (nI N)), .ref q52, .ref q53, .ref q54, .int 0, .int 0, .int 0, .int 0, .int 0, .int 0, .int 0, .int 0, .int 0, .int 0, .int 0])), (q1, .inl (cI, 4000, .inl (fun _ => 0))), (q20, .inl (cI, 4000, .inl (va_cpy (fun _ => 0) (fun _ => 0) 0 0 0))), (q27, .inr (8, [.ref q18, .ref q29, .ref q30, .ref q31, .int 0, .int 0, .int 0])), (q29, .inr (12, [.ref q18, .ref q32, .ref q33, .ref q34, .int 1, .int 0, .int 0, .int (-1), .int 0, .int (-1)])), (q32, .inl (cI, 1503, .inl (upd (upd (fun _ => 0) 0 0) 0 0))), (q33, .inl (cI, 1503, .inl (upd (upd (fun _ => 0) 0 0) 0 0))), (q34, .inl (cI, 1503, .inl (upd (upd (fun _ => 0) 0 0) 0 0))), (q30, .inr (5, [.ref q18, .ref q35, .int 0, .int 0, .int 0, .int 0, .ref q36, .int 0, .ref q37, .ref q38, .ref q39, .int 0])), (q31, .inr (6, [.ref q29, .ref q30, .ref q40, .ref q41, .int 0])), (q42, .inr (4, [.ref q18, .int (4 * (nI N)), .ref q44, .int 2, .int 1, .int 0, .int 0, .int 8, .int 8])), (q26, .inl (cI, N, .inl (upd (upd (fun _ => 0) 0 2195) 1 1048691))), (q18, .inr (10, [.ref q20, .int 0, .ref q21, .int 0, .ref q22, .int 0, .ref q23, .ref q24, .ref q25, .int 0, .ref q26, .int 2, .int 8]))] := hD
  refine W.widen (k := 0) (n := 0) (by omega) (by omega) ?_
  refine lv_if_ne (tgt := 111) hx hb dX11_load_91 (by decide) (fun _ => ?_) (fun k6 => absurd k6 (by decide))
  refine lv_aload_n hx hb dX11_load_111 rfl (lv_at hl 0 rfl) ?_
  refine va_get (D := (dC, dI)) (ci := 14) (v := .int 0) (C := RX11) (T := TX11) (N := 12) hx hb ht itX11 hown hK hP 0 rfl rfl 6 (by decide) (ht _ tw_215) (fun _ h9 => h9) rfl dX11_load_112 ?_
  refine lv_if_ne (tgt := 143) hx hb dX11_load_115 (by decide) (fun k7 => absurd k7 (by decide)) (fun _ => ?_)
  refine lv_aload_n hx hb dX11_load_118 rfl (lv_at hl 0 rfl) ?_
  refine va_get (D := (dC, dI)) (ci := 14) (v := .ref q9) (C := RX11) (T := TX11) (N := 12) hx hb ht itX11 hown hK hP 0 rfl rfl 2 (by decide) (ht _ tw_110) (fun _ h9 => h9) rfl dX11_load_119 ?_
  refine lv_astore_n (lv' := [(1, .ref q9), (0, .ref h0)]) hx hb dX11_load_122 rfl hl (by decide) rfl (fun ls hl => ?_)
  refine lv_aload_n hx hb dX11_load_123 rfl (lv_at hl 1 rfl) ?_
  refine lv_aload_n hx hb dX11_load_124 rfl (lv_at hl 1 rfl) ?_
  refine va_get (D := (dC, dI)) (ci := 14) (v := .ref q18) (C := RX11) (T := TX11) (N := 12) hx hb ht itX11 hown hK hP 0 rfl rfl 3 (by decide) (ht _ tw_111) (fun _ h9 => h9) rfl dX11_load_125 ?_
  refine va_put (D := (dC, dI)) (ci := 14) (v := .ref q18) (ty := .object "PocketCompiler$Program") (C := RX11) (T := TX11) (N := 12) hx hb ht itX11 tyX11 tyX11_ok nmX11 hown hK hP hD hS 0 rfl rfl 2 (by decide) (ht _ tw_110) (fun _ h9 => h9) rfl (by decide +kernel) rfl rfl (Nat.le_of_ble_eq_true rfl) dX11_load_128 (fun H locs hP hD hS => ?_)
  have hP : va_P (dC, dI) vwCl [(h0, .inr (14, [.ref q1, .int 0, .ref q18, .ref q18, .ref q27, .ref q42, .int 0, .int (-1), .ref q2, .ref q45, .ref q50, .ref q5])), (q50, .inr (13, [.ref q9, .ref q2, .int (4 * (nI N)), .ref q52, .ref q53, .ref q54, .int 0, .int 0, .int 0, .int 0, .int 0, .int 0, .int 0, .int 0, .int 0, .int 0, .int 0])), (q1, .inl (cI, 4000, .inl (fun _ => 0))), (q20, .inl (cI, 4000, .inl (va_cpy (fun _ => 0) (fun _ => 0) 0 0 0))), (q27, .inr (8, [.ref q18, .ref q29, .ref q30, .ref q31, .int 0, .int 0, .int 0])), (q29, .inr (12, [.ref q18, .ref q32, .ref q33, .ref q34, .int 1, .int 0, .int 0, .int (-1), .int 0, .int (-1)])), (q32, .inl (cI, 1503, .inl (upd (upd (fun _ => 0) 0 0) 0 0))), (q33, .inl (cI, 1503, .inl (upd (upd (fun _ => 0) 0 0) 0 0))), (q34, .inl (cI, 1503, .inl (upd (upd (fun _ => 0) 0 0) 0 0))), (q30, .inr (5, [.ref q18, .ref q35, .int 0, .int 0, .int 0, .int 0, .ref q36, .int 0, .ref q37, .ref q38, .ref q39, .int 0])), (q31, .inr (6, [.ref q29, .ref q30, .ref q40, .ref q41, .int 0])), (q42, .inr (4, [.ref q18, .int (4 * (nI N)), .ref q44, .int 2, .int 1, .int 0, .int 0, .int 8, .int 8])), (q26, .inl (cI, N, .inl (upd (upd (fun _ => 0) 0 2195) 1 1048691))), (q18, .inr (10, [.ref q20, .int 0, .ref q21, .int 0, .ref q22, .int 0, .ref q23, .ref q24, .ref q25, .int 0, .ref q26, .int 2, .int 8]))] H := hP
  have hD : va_D A [(h0, .inr (14, [.ref q1, .int 0, .ref q18, .ref q18, .ref q27, .ref q42, .int 0, .int (-1), .ref q2, .ref q45, .ref q50, .ref q5])), (q50, .inr (13, [.ref q9, .ref q2, .int (4 * (nI N)), .ref q52, .ref q53, .ref q54, .int 0, .int 0, .int 0, .int 0, .int 0, .int 0, .int 0, .int 0, .int 0, .int 0, .int 0])), (q1, .inl (cI, 4000, .inl (fun _ => 0))), (q20, .inl (cI, 4000, .inl (va_cpy (fun _ => 0) (fun _ => 0) 0 0 0))), (q27, .inr (8, [.ref q18, .ref q29, .ref q30, .ref q31, .int 0, .int 0, .int 0])), (q29, .inr (12, [.ref q18, .ref q32, .ref q33, .ref q34, .int 1, .int 0, .int 0, .int (-1), .int 0, .int (-1)])), (q32, .inl (cI, 1503, .inl (upd (upd (fun _ => 0) 0 0) 0 0))), (q33, .inl (cI, 1503, .inl (upd (upd (fun _ => 0) 0 0) 0 0))), (q34, .inl (cI, 1503, .inl (upd (upd (fun _ => 0) 0 0) 0 0))), (q30, .inr (5, [.ref q18, .ref q35, .int 0, .int 0, .int 0, .int 0, .ref q36, .int 0, .ref q37, .ref q38, .ref q39, .int 0])), (q31, .inr (6, [.ref q29, .ref q30, .ref q40, .ref q41, .int 0])), (q42, .inr (4, [.ref q18, .int (4 * (nI N)), .ref q44, .int 2, .int 1, .int 0, .int 0, .int 8, .int 8])), (q26, .inl (cI, N, .inl (upd (upd (fun _ => 0) 0 2195) 1 1048691))), (q18, .inr (10, [.ref q20, .int 0, .ref q21, .int 0, .ref q22, .int 0, .ref q23, .ref q24, .ref q25, .int 0, .ref q26, .int 2, .int 8]))] := hD
  refine lv_aload_n hx hb dX11_load_131 rfl (lv_at hl 1 rfl) ?_
  refine lv_aload_n hx hb dX11_load_132 rfl (lv_at hl 0 rfl) ?_
  refine va_put (D := (dC, dI)) (ci := 14) (v := .ref q9) (ty := .object "PocketCompiler$Program") (C := RX11) (T := TX11) (N := 12) hx hb ht itX11 tyX11 tyX11_ok nmX11 hown hK hP hD hS 0 rfl rfl 3 (by decide) (ht _ tw_111) (fun _ h9 => h9) rfl (by decide +kernel) rfl rfl (Nat.le_of_ble_eq_true rfl) dX11_load_133 (fun H locs hP hD hS => ?_)
  have hP : va_P (dC, dI) vwCl [(h0, .inr (14, [.ref q1, .int 0, .ref q18, .ref q9, .ref q27, .ref q42, .int 0, .int (-1), .ref q2, .ref q45, .ref q50, .ref q5])), (q50, .inr (13, [.ref q9, .ref q2, .int (4 * (nI N)), .ref q52, .ref q53, .ref q54, .int 0, .int 0, .int 0, .int 0, .int 0, .int 0, .int 0, .int 0, .int 0, .int 0, .int 0])), (q1, .inl (cI, 4000, .inl (fun _ => 0))), (q20, .inl (cI, 4000, .inl (va_cpy (fun _ => 0) (fun _ => 0) 0 0 0))), (q27, .inr (8, [.ref q18, .ref q29, .ref q30, .ref q31, .int 0, .int 0, .int 0])), (q29, .inr (12, [.ref q18, .ref q32, .ref q33, .ref q34, .int 1, .int 0, .int 0, .int (-1), .int 0, .int (-1)])), (q32, .inl (cI, 1503, .inl (upd (upd (fun _ => 0) 0 0) 0 0))), (q33, .inl (cI, 1503, .inl (upd (upd (fun _ => 0) 0 0) 0 0))), (q34, .inl (cI, 1503, .inl (upd (upd (fun _ => 0) 0 0) 0 0))), (q30, .inr (5, [.ref q18, .ref q35, .int 0, .int 0, .int 0, .int 0, .ref q36, .int 0, .ref q37, .ref q38, .ref q39, .int 0])), (q31, .inr (6, [.ref q29, .ref q30, .ref q40, .ref q41, .int 0])), (q42, .inr (4, [.ref q18, .int (4 * (nI N)), .ref q44, .int 2, .int 1, .int 0, .int 0, .int 8, .int 8])), (q26, .inl (cI, N, .inl (upd (upd (fun _ => 0) 0 2195) 1 1048691))), (q18, .inr (10, [.ref q20, .int 0, .ref q21, .int 0, .ref q22, .int 0, .ref q23, .ref q24, .ref q25, .int 0, .ref q26, .int 2, .int 8]))] H := hP
  have hD : va_D A [(h0, .inr (14, [.ref q1, .int 0, .ref q18, .ref q9, .ref q27, .ref q42, .int 0, .int (-1), .ref q2, .ref q45, .ref q50, .ref q5])), (q50, .inr (13, [.ref q9, .ref q2, .int (4 * (nI N)), .ref q52, .ref q53, .ref q54, .int 0, .int 0, .int 0, .int 0, .int 0, .int 0, .int 0, .int 0, .int 0, .int 0, .int 0])), (q1, .inl (cI, 4000, .inl (fun _ => 0))), (q20, .inl (cI, 4000, .inl (va_cpy (fun _ => 0) (fun _ => 0) 0 0 0))), (q27, .inr (8, [.ref q18, .ref q29, .ref q30, .ref q31, .int 0, .int 0, .int 0])), (q29, .inr (12, [.ref q18, .ref q32, .ref q33, .ref q34, .int 1, .int 0, .int 0, .int (-1), .int 0, .int (-1)])), (q32, .inl (cI, 1503, .inl (upd (upd (fun _ => 0) 0 0) 0 0))), (q33, .inl (cI, 1503, .inl (upd (upd (fun _ => 0) 0 0) 0 0))), (q34, .inl (cI, 1503, .inl (upd (upd (fun _ => 0) 0 0) 0 0))), (q30, .inr (5, [.ref q18, .ref q35, .int 0, .int 0, .int 0, .int 0, .ref q36, .int 0, .ref q37, .ref q38, .ref q39, .int 0])), (q31, .inr (6, [.ref q29, .ref q30, .ref q40, .ref q41, .int 0])), (q42, .inr (4, [.ref q18, .int (4 * (nI N)), .ref q44, .int 2, .int 1, .int 0, .int 0, .int 8, .int 8])), (q26, .inl (cI, N, .inl (upd (upd (fun _ => 0) 0 2195) 1 1048691))), (q18, .inr (10, [.ref q20, .int 0, .ref q21, .int 0, .ref q22, .int 0, .ref q23, .ref q24, .ref q25, .int 0, .ref q26, .int 2, .int 8]))] := hD
  refine lv_aload_n hx hb dX11_load_136 rfl (lv_at hl 1 rfl) ?_
  refine va_get (D := (dC, dI)) (ci := 14) (v := .ref q50) (C := RX11) (T := TX11) (N := 12) hx hb ht itX11 hown hK hP 0 rfl rfl 10 (by decide) (ht _ tw_148) (fun _ h9 => h9) rfl dX11_load_137 ?_
  refine ca_v (wr := [(h0, .inr (14, [.ref q1, .int 0, .ref q18, .ref q9, .ref q27, .ref q42, .int 0, .int (-1), .ref q2, .ref q45, .ref q50, .ref q5])), (q1, .inl (cI, 4000, .inl (fun _ => 0))), (q20, .inl (cI, 4000, .inl (va_cpy (fun _ => 0) (fun _ => 0) 0 0 0))), (q27, .inr (8, [.ref q18, .ref q29, .ref q30, .ref q31, .int 0, .int 0, .int 0])), (q29, .inr (12, [.ref q18, .ref q32, .ref q33, .ref q34, .int 1, .int 0, .int 0, .int (-1), .int 0, .int (-1)])), (q32, .inl (cI, 1503, .inl (upd (upd (fun _ => 0) 0 0) 0 0))), (q33, .inl (cI, 1503, .inl (upd (upd (fun _ => 0) 0 0) 0 0))), (q34, .inl (cI, 1503, .inl (upd (upd (fun _ => 0) 0 0) 0 0))), (q30, .inr (5, [.ref q18, .ref q35, .int 0, .int 0, .int 0, .int 0, .ref q36, .int 0, .ref q37, .ref q38, .ref q39, .int 0])), (q31, .inr (6, [.ref q29, .ref q30, .ref q40, .ref q41, .int 0])), (q42, .inr (4, [.ref q18, .int (4 * (nI N)), .ref q44, .int 2, .int 1, .int 0, .int 0, .int 8, .int 8])), (q26, .inl (cI, N, .inl (upd (upd (fun _ => 0) 0 2195) 1 1048691))), (q18, .inr (10, [.ref q20, .int 0, .ref q21, .int 0, .ref q22, .int 0, .ref q23, .ref q24, .ref q25, .int 0, .ref q26, .int 2, .int 8]))]) (rn_V (n := 0) (As := []) (rest := []) hx hb hml hown ht hKK hFx hP hD hS hA (c_X10_drop l dC dI cI cB cZ cJ cR tb H.size q50 q9 q2 N q52 q53 q54 (by omega) (by omega)) tw_320 tw_321 (by decide +kernel) rfl rfl ⟨Nat.le_of_ble_eq_true rfl, Nat.le_of_ble_eq_true rfl⟩ [1] rfl (by decide) rfl rfl rfl rfl hl.1 rfl (Nat.le_of_ble_eq_true rfl) dX11_load_140 ⟨Nat.le_of_ble_eq_true rfl, Nat.le_of_ble_eq_true rfl⟩) hP hD hS hA (isC := [1]) (isR := [0, 2, 3, 4, 5, 6, 7, 8, 9, 10, 11, 12, 13]) rfl rfl (by decide) (by decide) (fun u H locs hw8 hP hD hS => ?_)
  have hP : va_P (dC, dI) vwCl [(h0, .inr (14, [.ref q1, .int 0, .ref q18, .ref q9, .ref q27, .ref q42, .int 0, .int (-1), .ref q2, .ref q45, .ref q50, .ref q5])), (q1, .inl (cI, 4000, .inl (fun _ => 0))), (q20, .inl (cI, 4000, .inl (va_cpy (fun _ => 0) (fun _ => 0) 0 0 0))), (q27, .inr (8, [.ref q18, .ref q29, .ref q30, .ref q31, .int 0, .int 0, .int 0])), (q29, .inr (12, [.ref q18, .ref q32, .ref q33, .ref q34, .int 1, .int 0, .int 0, .int (-1), .int 0, .int (-1)])), (q32, .inl (cI, 1503, .inl (upd (upd (fun _ => 0) 0 0) 0 0))), (q33, .inl (cI, 1503, .inl (upd (upd (fun _ => 0) 0 0) 0 0))), (q34, .inl (cI, 1503, .inl (upd (upd (fun _ => 0) 0 0) 0 0))), (q30, .inr (5, [.ref q18, .ref q35, .int 0, .int 0, .int 0, .int 0, .ref q36, .int 0, .ref q37, .ref q38, .ref q39, .int 0])), (q31, .inr (6, [.ref q29, .ref q30, .ref q40, .ref q41, .int 0])), (q42, .inr (4, [.ref q18, .int (4 * (nI N)), .ref q44, .int 2, .int 1, .int 0, .int 0, .int 8, .int 8])), (q26, .inl (cI, N, .inl (upd (upd (fun _ => 0) 0 2195) 1 1048691))), (q18, .inr (10, [.ref q20, .int 0, .ref q21, .int 0, .ref q22, .int 0, .ref q23, .ref q24, .ref q25, .int 0, .ref q26, .int 2, .int 8])), (q50, .inr (13, [.ref q9, .ref q2, .int (4 * (nI N)), .ref q52, .ref q53, .ref q54, .int 0, .int 0, .int 0, .int 0, .int 0, .int 0, .int 0, .int 0, .int 0, .int 0, .int 0]))] H := hP
  have hD : va_D A [(h0, .inr (14, [.ref q1, .int 0, .ref q18, .ref q9, .ref q27, .ref q42, .int 0, .int (-1), .ref q2, .ref q45, .ref q50, .ref q5])), (q1, .inl (cI, 4000, .inl (fun _ => 0))), (q20, .inl (cI, 4000, .inl (va_cpy (fun _ => 0) (fun _ => 0) 0 0 0))), (q27, .inr (8, [.ref q18, .ref q29, .ref q30, .ref q31, .int 0, .int 0, .int 0])), (q29, .inr (12, [.ref q18, .ref q32, .ref q33, .ref q34, .int 1, .int 0, .int 0, .int (-1), .int 0, .int (-1)])), (q32, .inl (cI, 1503, .inl (upd (upd (fun _ => 0) 0 0) 0 0))), (q33, .inl (cI, 1503, .inl (upd (upd (fun _ => 0) 0 0) 0 0))), (q34, .inl (cI, 1503, .inl (upd (upd (fun _ => 0) 0 0) 0 0))), (q30, .inr (5, [.ref q18, .ref q35, .int 0, .int 0, .int 0, .int 0, .ref q36, .int 0, .ref q37, .ref q38, .ref q39, .int 0])), (q31, .inr (6, [.ref q29, .ref q30, .ref q40, .ref q41, .int 0])), (q42, .inr (4, [.ref q18, .int (4 * (nI N)), .ref q44, .int 2, .int 1, .int 0, .int 0, .int 8, .int 8])), (q26, .inl (cI, N, .inl (upd (upd (fun _ => 0) 0 2195) 1 1048691))), (q18, .inr (10, [.ref q20, .int 0, .ref q21, .int 0, .ref q22, .int 0, .ref q23, .ref q24, .ref q25, .int 0, .ref q26, .int 2, .int 8])), (q50, .inr (13, [.ref q9, .ref q2, .int (4 * (nI N)), .ref q52, .ref q53, .ref q54, .int 0, .int 0, .int 0, .int 0, .int 0, .int 0, .int 0, .int 0, .int 0, .int 0, .int 0]))] := hD
  refine W.widen (k := 0) (n := 0) (by omega) (by omega) ?_
  refine lv_aload_n hx hb dX11_load_143 rfl (lv_at hl 1 rfl) ?_
  refine va_get (D := (dC, dI)) (ci := 14) (v := .int 0) (C := RX11) (T := TX11) (N := 12) hx hb ht itX11 hown hK hP 0 rfl rfl 6 (by decide) (ht _ tw_215) (fun _ h9 => h9) rfl dX11_load_144 ?_
  have hP9 := hP.sub (ws' := []) [] rfl
  have hD9 := hD.sub (ws' := []) [] (by decide) rfl
  refine W.widen (k := 0) (n := 0) (by omega) (by omega) ?_
  exact W.iret (v := 0) hx hb hr (fun t ht9 hW => ⟨⟨0, (), rfl, rfl, by rw [ht9]; exact hP9, hD9⟩, hS.F ht9⟩) hS.2.2 dX11_load_147
