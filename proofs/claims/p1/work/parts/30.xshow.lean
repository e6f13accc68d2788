theorem sdX11_show_0 : decode cX11_show 0 = .ok (.aload_n 0, 1) := by decide +kernel
theorem sdX11_show_1 : decode cX11_show 1 = .ok (.getfield 27, 3) := by decide +kernel
theorem sw_161 : (.fieldLink RX11 27 "PocketCompiler" "shower" "LPocketCompiler$Shower;" : Cond) ∈ tw_W := tw_in (by decide +kernel) (by decide +kernel)
theorem siX11 : ∀ w ∈ wsX110, w ∈ tw_W := tw_all (by decide +kernel)
theorem sdX11_show_4 : decode cX11_show 4 = .ok (.iload_n 1, 1) := by decide +kernel
theorem sdX11_show_5 : decode cX11_show 5 = .ok (.invokevirtual 213, 3) := by decide +kernel
theorem sw_162 : (.code yX8_spell cX8_spell 3 (some .int) : Cond) ∈ tw_W := tw_in (by decide +kernel) (by decide +kernel)
theorem sw_163 : ∀ w ∈ ([.methodLink RX11 213 yX8_spell, .instanceMethod yX8_spell, .selects RX8 yX8_spell yX8_spell, .initialized RX8] : List Cond), w ∈ tw_W := tw_all (by decide +kernel)
theorem sdX11_show_8 : decode cX11_show 8 = .ok (.ireturn, 1) := by decide +kernel
set_option maxHeartbeats 16000000 in
set_option maxRecDepth 100000 in
/-- show on a new object -/
theorem c_X11_show (l : Launch) (dC : Nat → ClassId) (dI : Nat → Nat → Nat) (cI cB cZ cJ cR : ClassId) (tb : Nat → Nat) (sz : Nat) (h0 : Nat) (q1 : Nat) (q9 : Nat) (q18 : Nat) (q27 : Nat) (q42 : Nat) (q2 : Nat) (q45 : Nat) (q50 : Nat) (q5 : Nat) (q7 : Nat) (q8 : Nat) (w : Int32)  : Met l yX11_show (Cond.code yX11_show cX11_show 2 (some .int) :: tw_W) ({ frames := 11, cells := 9, slots := 306, locals := 243 }) (pc_ (dC, dI) (tyS cI cB cZ cJ cR) tb [(h0, .inr (14, [.ref q1, .int 0, .ref q9, .ref q18, .ref q27, .ref q42, .int 0, .int (-1), .ref q2, .ref q45, .ref q50, .ref q5])), (q5, .inr (11, [.ref q7])), (q7, .inr (1, [.ref q8, .int 0, .int 0, .int 0])), (q8, .inl (cB, 16, .inl (fun _ => 0)))] sz [.ref h0, .int w]) (qi_ (dC, dI) [(h0, .inr (14, [.ref q1, .int 0, .ref q9, .ref q18, .ref q27, .ref q42, .int 0, .int (-1), .ref q2, .ref q45, .ref q50, .ref q5])), (q5, .inr (11, [.ref q7])), (q7, .inr (1, [.ref q8, .int 0, .int 0, .int 0])), (q8, .inl (cB, 16, .inl (fun _ => 0)))] sz (fun (r : Int32) (u : Unit) => ∃ kd : Nat, kd ≤ 40 ∧ kdI w = nI kd ∧ r = nI (lenK kd w)) (fun (u : Unit) => [])) 9 306 (va_A [(h0, .inr (14, [.ref q1, .int 0, .ref q9, .ref q18, .ref q27, .ref q42, .int 0, .int (-1), .ref q2, .ref q45, .ref q50, .ref q5])), (q5, .inr (11, [.ref q7])), (q7, .inr (1, [.ref q8, .int 0, .int 0, .int 0])), (q8, .inl (cB, 16, .inl (fun _ => 0)))] sz) := by
  refine Met.ofW (cc := cX11_show) (maxL := 2) (ret := (some .int)) (by decide) rfl ?_
  intro p e s m9 args below meth c s₁ B hml hv
  obtain ⟨rfl, hsz, hP, hKK, hD0, hFx⟩ := hv
  have hK := hKK.1
  have hx := B.exec
  have hb := B.bytes
  have hr := B.returns
  have ht : ∀ w ∈ tw_W, w.before _ s = true := fun w h => atoms_spec (ws := Cond.code yX11_show cX11_show 2 (some .int) :: tw_W) B.pre w (List.mem_cons_of_mem _ h)
  have hown : s.vm.findClass RX11 = some m9.cls := findClass_of_methodNamed B.named
  have hlocks := B.notSynchronized
  subst hsz
  unfold qi_
  have hD := hD0.self (sz := s.heap.size)
  generalize hAe : va_A [(h0, .inr (14, [.ref q1, .int 0, .ref q9, .ref q18, .ref q27, .ref q42, .int 0, .int (-1), .ref q2, .ref q45, .ref q50, .ref q5])), (q5, .inr (11, [.ref q7])), (q7, .inr (1, [.ref q8, .int 0, .int 0, .int 0])), (q8, .inl (cB, 16, .inl (fun _ => 0)))] s.heap.size = A at hD hFx ⊢
  have hA : ∀ q : Nat, s.heap.size ≤ q → A q := fun q h => by rw [← hAe]; exact Or.inr h
  have hS : va_S A s.heap s.heap [] := va_S.rf
  have hP : va_P (dC, dI) vwCl [(h0, .inr (14, [.ref q1, .int 0, .ref q9, .ref q18, .ref q27, .ref q42, .int 0, .int (-1), .ref q2, .ref q45, .ref q50, .ref q5])), (q5, .inr (11, [.ref q7])), (q7, .inr (1, [.ref q8, .int 0, .int 0, .int 0])), (q8, .inl (cB, 16, .inl (fun _ => 0)))] s.heap := hP
  have hl := lv_entry ([.ref h0, .int w]) (n := 2) (Nat.le_of_ble_eq_true rfl)
  rw [lg_entry_eq]
  generalize (lg_sl ([.ref h0, .int w]) ++ List.replicate (2 - (lg_sl ([.ref h0, .int w])).length) Slot.unset).toArray = ls at hl ⊢
  have hl : lv_has ls 2 [(0, .ref h0), (1, .int w)] := hl
  refine lv_aload_n hx hb sdX11_show_0 rfl (lv_at hl 0 rfl) ?_
  refine va_get (D := (dC, dI)) (ci := 14) (v := .ref q5) (C := RX11) (T := TX11) (N := 12) hx hb ht siX11 hown hK hP 0 rfl rfl 11 (by decide) (ht _ sw_161) (fun _ h9 => h9) rfl sdX11_show_1 ?_
  refine lv_iload_n hx hb sdX11_show_4 rfl (lv_at hl 1 rfl) ?_
  refine ca_i (wr := [(h0, .inr (14, [.ref q1, .int 0, .ref q9, .ref q18, .ref q27, .ref q42, .int 0, .int (-1), .ref q2, .ref q45, .ref q50, .ref q5]))]) (rn_V (n := 1) (As := [.int w]) (rest := []) hx hb hml hown ht hKK hFx hP hD hS hA (c_sh_spell l dC dI cI cB cZ cJ cR tb s.heap.size q5 q7 q8 16 (fun _ => 0) w (by first | assumption | omega | rfl | exact sb_fit0) (by first | assumption | omega | rfl | exact sb_fit0)) sw_162 sw_163 (by decide +kernel) rfl rfl ⟨Nat.le_of_ble_eq_true rfl, Nat.le_of_ble_eq_true rfl⟩ [1, 2, 3] rfl (by decide) rfl rfl rfl rfl hl.1 rfl (Nat.le_of_ble_eq_true rfl) sdX11_show_5 ⟨Nat.le_of_ble_eq_true rfl, Nat.le_of_ble_eq_true rfl⟩) hP hD hS hA (isC := [1, 2, 3]) (isR := [0]) rfl rfl (by decide) (by decide) (fun r2 u H locs hw1 hP hD hS => ?_)
  have g3 := hw1
  have g3 : ∃ kd : Nat, kd ≤ 40 ∧ kdI w = nI kd ∧ r2 = nI (lenK kd w) := g3
  have hP : va_P (dC, dI) vwCl [(h0, .inr (14, [.ref q1, .int 0, .ref q9, .ref q18, .ref q27, .ref q42, .int 0, .int (-1), .ref q2, .ref q45, .ref q50, .ref q5]))] H := hP
  have hD : va_D A [(h0, .inr (14, [.ref q1, .int 0, .ref q9, .ref q18, .ref q27, .ref q42, .int 0, .int (-1), .ref q2, .ref q45, .ref q50, .ref q5]))] := hD
  refine W.widen (k := 9) (n := 306) (by omega) (by omega) ?_
  have hP9 := hP.sub (ws' := []) [] rfl
  have hD9 := hD.sub (ws' := []) [] (by decide) rfl
  refine W.widen (k := 9) (n := 306) (by omega) (by omega) ?_
  exact W.iret (v := r2) hx hb hr (fun t ht9 hW => ⟨⟨r2, (), rfl, (by assumption), by rw [ht9]; exact hP9, hD9⟩, hS.F ht9⟩) hS.2.2 sdX11_show_8
