theorem tw_1224 : (.classLink RL 8 RX11 : Cond) ∈ tw_W := tw_in (t8_1 (List.mem_of_getElem? (i := 35) rfl)) rfl
theorem tw_1225 : (.initialized RX11 : Cond) ∈ tw_W := tw_in (t8_1 (List.mem_of_getElem? (i := 1) rfl)) rfl
theorem tw_1226 : (.classLink RL 61 RX13 : Cond) ∈ tw_W := tw_in (t8_9 (List.mem_of_getElem? (i := 41) rfl)) rfl
theorem tw_1227 : (.initialized RX13 : Cond) ∈ tw_W := tw_in (t8_1 (List.mem_of_getElem? (i := 23) rfl)) rfl
theorem tw_1228 : (.code yX11_init cX11_init 3 none : Cond) ∈ tw_W := tw_in (t8_1 (List.mem_of_getElem? (i := 39) rfl)) rfl
theorem t9_in {w : Cond} (h : w ∈ tables_1_9) : w ∈ lw_tbl := List.mem_append_right _ (show w ∈ tables_1 from List.mem_append_right _ (List.mem_append_right _ (List.mem_append_right _ (List.mem_append_right _ (List.mem_append_right _ (List.mem_append_right _ (List.mem_append_right _ (List.mem_append_right _ (List.mem_append_left _ h)))))))))
theorem tw_1229 : (.code yX13_init cX13_init 3 none : Cond) ∈ tw_W := tw_in (t9_in (List.mem_of_getElem? (i := 44) rfl)) rfl
theorem tw_1230 : (.initialized yX11_init.cls : Cond) ∈ tw_W := tw_in (t8_1 (List.mem_of_getElem? (i := 1) rfl)) rfl
theorem tw_1231 : (.methodLink RL 58 yX11_init : Cond) ∈ tw_W := tw_in (t8_1 (List.mem_of_getElem? (i := 37) rfl)) rfl
theorem tw_1232 : (.instanceMethod yX11_init : Cond) ∈ tw_W := tw_in (t8_1 (List.mem_of_getElem? (i := 38) rfl)) rfl
theorem tw_1233 : (.initialized yX13_init.cls : Cond) ∈ tw_W := tw_in (t8_1 (List.mem_of_getElem? (i := 23) rfl)) rfl
theorem tw_1234 : (.methodLink RL 63 yX13_init : Cond) ∈ tw_W := tw_in (t8_9 (List.mem_of_getElem? (i := 42) rfl)) rfl
theorem tw_1235 : (.instanceMethod yX13_init : Cond) ∈ tw_W := tw_in (t8_9 (List.mem_of_getElem? (i := 43) rfl)) rfl
theorem dL_law_0 : decode cL_law 0 = .ok (.new 8, 3) := by decide +kernel
theorem dL_law_3 : decode cL_law 3 = .ok (.dup, 1) := by decide +kernel
theorem dL_law_4 : decode cL_law 4 = .ok (.aload_n 0, 1) := by decide +kernel
theorem dL_law_5 : decode cL_law 5 = .ok (.iconst 0, 1) := by decide +kernel
theorem dL_law_6 : decode cL_law 6 = .ok (.invokestatic 52, 3) := by decide +kernel
theorem dL_law_9 : decode cL_law 9 = .ok (.invokespecial 58, 3) := by decide +kernel
theorem dL_law_12 : decode cL_law 12 = .ok (.astore_n 1, 1) := by decide +kernel
theorem dL_law_13 : decode cL_law 13 = .ok (.new 61, 3) := by decide +kernel
theorem dL_law_16 : decode cL_law 16 = .ok (.dup, 1) := by decide +kernel
theorem dL_law_17 : decode cL_law 17 = .ok (.aload_n 0, 1) := by decide +kernel
theorem dL_law_18 : decode cL_law 18 = .ok (.iconst 0, 1) := by decide +kernel
theorem dL_law_19 : decode cL_law 19 = .ok (.invokestatic 52, 3) := by decide +kernel
theorem dL_law_22 : decode cL_law 22 = .ok (.invokespecial 63, 3) := by decide +kernel
theorem dL_law_25 : decode cL_law 25 = .ok (.astore_n 2, 1) := by decide +kernel
theorem dL_law_26 : decode cL_law 26 = .ok (.iconst 1, 1) := by decide +kernel
theorem dL_law_27 : decode cL_law 27 = .ok (.newarray .long, 2) := by decide +kernel
theorem dL_law_29 : decode cL_law 29 = .ok (.astore_n 3, 1) := by decide +kernel
theorem dL_law_30 : decode cL_law 30 = .ok (.iconst 1, 1) := by decide +kernel
theorem dL_law_31 : decode cL_law 31 = .ok (.istore 4, 2) := by decide +kernel
theorem cD_v {p : Program} {l : Launch} {e : Env} {R : Room} {s : State} {m : MethodId} {args : Array Value} {below : List Frame} {meth : Method} {c : Code} {H H0 : Heap} {locs : List Loc} {cells slots : Nat} {Q : State → Prop} {pc mc ms : Nat} {ls : Array Slot} {rest st0 : List Value} {D : va_G} {A : Nat → Prop} {A0 Z : va_W} {S : Type} {post : S → Prop} {Wf : S → va_W} {a : Array Value} (hr : va_Run p l e R s m args below meth c H locs cells slots mc ms (F0 m pc ls st0) rest (qv_ D A0 H.size post Wf a) (va_A A0 H.size)) (hP : va_P D vwCl (A0 ++ Z) H) (hD : va_D A (A0 ++ Z)) (hS : va_S A H0 H locs) (hA : ∀ q, H0.size ≤ q → A q)
    (kk : ∀ (u : S) (H1 : Heap) (locs1 : List Loc), post u → va_P D vwCl (Wf u ++ Z) H1 → va_D A (Wf u ++ Z) → va_S A H0 H1 locs1 → W p l e R s m args below meth c H1 locs1 (cells + mc) (slots + ms) Q (F0 m (pc + 3) ls rest)) : W p l e R s m args below meth c H locs cells slots Q (F0 m pc ls st0) :=
  ca_v (wr := Z) hr hP hD hS hA (isC := List.range A0.length) (isR := (List.range Z.length).map (fun i => i + A0.length)) (ixA_map A0 Z) (ixB_map A0 Z) (ixB_nd _ _) (ixB_dis _ _) (fun u H1 locs1 hp h1 h2 h3 => kk u H1 locs1 hp (h1.perm List.perm_append_comm) (h2.perm List.perm_append_comm) h3)
set_option maxHeartbeats 16000000 in
set_option maxRecDepth 100000 in
theorem whole_start {p : Program} {e : Env} {s : State} {m : MethodId} {below : List Frame} {meth : Method} {c : Code} (l : Launch) (hst : l.stackTraces = false) {b L : Nat} {xs : Nat → Int32} (hL : L ≤ 3073) (C0 : lw_At p s m meth c b L xs) : W p l e room_1 s m #[Value.ref b] below meth c s.heap [] 0 0 (lw_Z below #[Value.ref b] s) (entryFrame m ([Value.ref b] : List Value).toArray 7) := by
  obtain ⟨hx, hb, hr, hml, hown0, hts, hX, hbl, hlocks, hgv⟩ := C0
  have hown : s.vm.findClass RL = some m.cls := hown0
  have ht : ∀ w ∈ tw_W, w.before #[Value.ref b] s = true := tw_ht hts
  obtain ⟨A, hA, hAs⟩ : ∃ A : Nat → Prop, (∀ q, s.heap.size ≤ q → A q) ∧ ∀ q, A q → s.heap.size ≤ q := ⟨fun q => s.heap.size ≤ q, fun _ h => h, fun _ h => h⟩
  have hbA : ¬ A b := fun h => absurd (hAs b h) (Nat.not_le.mpr hbl)
  obtain ⟨dC, dI, cI, cB, cZ, cJ, cR, tb, hKK, hFx⟩ := law_facts (A := A) hts hgv (fun a h1 h2 => absurd (hAs a h2) (Nat.not_le.mpr h1))
  have hK := hKK.1
  obtain ⟨w, hw0⟩ : ∃ w : Int32, w = (if 0 < L then xs 0 else 0) := ⟨_, rfl⟩
  obtain ⟨N, hNw⟩ : ∃ N, N = sizeW w := ⟨_, rfl⟩
  have hN1 : 256 ≤ N := by rw [hNw]; exact (sz_lo w).1
  have hN2 : N ≤ 4096 := by rw [hNw]; exact (sz_lo w).2
  have hS : va_S A s.heap s.heap [] := va_S.rf
  have hP : va_P (dC, dI) vwCl [] s.heap := fun k q h => by simp at h
  have hD : va_D A [] := ⟨fun i j p q h => by simp at h, fun k q h => by simp at h⟩
  have hl := lv_entry ([.ref b]) (n := 7) (Nat.le_of_ble_eq_true rfl)
  rw [lg_entry_eq]
  generalize (lg_sl ([.ref b]) ++ List.replicate (7 - (lg_sl ([.ref b])).length) Slot.unset).toArray = ls at hl ⊢
  have hl : lv_has ls 7 [(0, .ref b)] := hl
  refine va_new (ci := 14) (fs := [.null, .int 0, .null, .null, .null, .null, .int 0, .int 0, .null, .null, .null, .null]) (C := RX11) (T := TX11) (N := 12) hx hb ht itX11 tyX11 tyX11_ok hown (ht _ tw_1224) (ht _ tw_1219) (ht _ tw_1225) hK hP hD hS hA rfl (by decide +kernel) (Nat.le_of_ble_eq_true rfl) (Nat.le_of_ble_eq_true rfl) dL_law_0 (fun q1 H hP hD hS => ?_)
  have hP : va_P (dC, dI) vwCl [(q1, .inr (14, [.null, .int 0, .null, .null, .null, .null, .int 0, .int 0, .null, .null, .null, .null]))] H := hP
  have hD : va_D A [(q1, .inr (14, [.null, .int 0, .null, .null, .null, .null, .int 0, .int 0, .null, .null, .null, .null]))] := hD
  refine W.widen (k := 1) (n := 12) (by omega) (by omega) ?_
  refine lv_dup hx hb dL_law_3 rfl ?_
  refine lv_aload_n hx hb dL_law_4 rfl (lv_at hl 0 rfl) ?_
  refine lv_iconst (v := 0) hx hb dL_law_5 (by decide) ?_
  refine law_cell hx hb hml hown ht hX hbl hbA (by omega) hP hS hl.1 (Nat.le_of_ble_eq_true rfl) (Nat.le_of_ble_eq_true rfl) dL_law_6 (rest := [.ref q1, .ref q1]) (Nat.le_of_ble_eq_true rfl) (fun H locs hP hS => ?_)
  refine tp_i (y := w) (hw0.symm) ?_
  refine ca_v (wr := []) (rn_I (n := 1) (As := [.int w]) (rest := [.ref q1]) hx hb hml hown ht hKK hFx hP hD hS hA (c_k_X11_init l dC dI cI cB cZ cJ cR tb H.size q1 w N hN1 hN2 hNw) tw_1228 tw_1230 tw_1231 tw_1232 rfl (by decide +kernel) rfl rfl ⟨Nat.le_of_ble_eq_true rfl, Nat.le_of_ble_eq_true rfl⟩ [0] rfl (by decide) rfl hl.1 rfl (Nat.le_of_ble_eq_true rfl) dL_law_9 ⟨Nat.le_of_ble_eq_true rfl, Nat.le_of_ble_eq_true rfl⟩) hP hD hS hA (isC := [0]) (isR := []) rfl rfl rfl (by decide) (fun U H locs hU hP hD hS => ?_)
  rw [List.nil_append] at hP hD
  obtain ⟨c9, hc9, hU⟩ := hU
  refine W.widen (k := 247) (n := 64296) (by omega) (by omega) ?_
  refine lv_astore_n (lv' := [(1, .ref q1), (0, .ref b)]) hx hb dL_law_12 rfl hl (by decide) rfl (fun ls hl => ?_)
  refine va_new (ci := 16) (fs := [.int 0, .null, .int 0, .null, .int 0, .int 0, .null, .null, .null, .null, .null, .null, .int 0, .null, .null, .int 0, .null, .null, .null, .null, .null, .null, .int 0, .null, .null, .null, .null, .int 0, .int 0, .null, .int 0, .int 0, .int 0, .int 0, .int 0, .null, .null, .null, .null, .int 0, .null, .null, .null, .int 0, .int 0, .int 0, .null, .int 0, .int 0, .int 0, .int 0, .int 0, .int 0, .int 0, .int 0, .int 0, .int 0, .int 0, .int 0, .int 0, .int 0, .null, .null, .null, .null, .null, .null, .int 0, .int 0, .int 0, .null, .null, .null, .int 0, .int 0, .int 0, .int 0, .int 0, .null, .null, .null, .null, .null, .null, .null, .null, .null, .null, .null, .null, .null, .int 0, .int 0, .null, .int 0, .int 0, .null, .null, .int 0, .int 0, .int 0, .null, .int 0, .null, .int 0, .null, .int 0, .null, .null, .null, .int 0, .int 0, .int 0, .int 0, .int 0, .int 0, .int 0, .null, .null, .int 0, .int 0, .int 0, .int 0, .int 0]) (C := RX13) (T := TX13) (N := 124) hx hb ht itX13 tyX13 tyX13_ok hown (ht _ tw_1226) (ht _ tw_1220) (ht _ tw_1227) hK hP hD hS hA rfl (by decide +kernel) (Nat.le_of_ble_eq_true rfl) (Nat.le_of_ble_eq_true rfl) dL_law_13 (fun q2 H hP hD hS => ?_)
  have hP : va_P (dC, dI) vwCl ([(q2, .inr (16, [.int 0, .null, .int 0, .null, .int 0, .int 0, .null, .null, .null, .null, .null, .null, .int 0, .null, .null, .int 0, .null, .null, .null, .null, .null, .null, .int 0, .null, .null, .null, .null, .int 0, .int 0, .null, .int 0, .int 0, .int 0, .int 0, .int 0, .null, .null, .null, .null, .int 0, .null, .null, .null, .int 0, .int 0, .int 0, .null, .int 0, .int 0, .int 0, .int 0, .int 0, .int 0, .int 0, .int 0, .int 0, .int 0, .int 0, .int 0, .int 0, .int 0, .null, .null, .null, .null, .null, .null, .int 0, .int 0, .int 0, .null, .null, .null, .int 0, .int 0, .int 0, .int 0, .int 0, .null, .null, .null, .null, .null, .null, .null, .null, .null, .null, .null, .null, .null, .int 0, .int 0, .null, .int 0, .int 0, .null, .null, .int 0, .int 0, .int 0, .null, .int 0, .null, .int 0, .null, .int 0, .null, .null, .null, .int 0, .int 0, .int 0, .int 0, .int 0, .int 0, .int 0, .null, .null, .int 0, .int 0, .int 0, .int 0, .int 0]))] ++ U) H := va_P.perm hP List.perm_append_comm
  have hD : va_D A ([(q2, .inr (16, [.int 0, .null, .int 0, .null, .int 0, .int 0, .null, .null, .null, .null, .null, .null, .int 0, .null, .null, .int 0, .null, .null, .null, .null, .null, .null, .int 0, .null, .null, .null, .null, .int 0, .int 0, .null, .int 0, .int 0, .int 0, .int 0, .int 0, .null, .null, .null, .null, .int 0, .null, .null, .null, .int 0, .int 0, .int 0, .null, .int 0, .int 0, .int 0, .int 0, .int 0, .int 0, .int 0, .int 0, .int 0, .int 0, .int 0, .int 0, .int 0, .int 0, .null, .null, .null, .null, .null, .null, .int 0, .int 0, .int 0, .null, .null, .null, .int 0, .int 0, .int 0, .int 0, .int 0, .null, .null, .null, .null, .null, .null, .null, .null, .null, .null, .null, .null, .null, .int 0, .int 0, .null, .int 0, .int 0, .null, .null, .int 0, .int 0, .int 0, .null, .int 0, .null, .int 0, .null, .int 0, .null, .null, .null, .int 0, .int 0, .int 0, .int 0, .int 0, .int 0, .int 0, .null, .null, .int 0, .int 0, .int 0, .int 0, .int 0]))] ++ U) := va_D.perm hD List.perm_append_comm
  refine W.widen (k := 248) (n := 64420) (by omega) (by omega) ?_
  refine lv_dup hx hb dL_law_16 rfl ?_
  refine lv_aload_n hx hb dL_law_17 rfl (lv_at hl 1 rfl) ?_
  refine lv_iconst (v := 0) hx hb dL_law_18 (by decide) ?_
  refine law_cell hx hb hml hown ht hX hbl hbA (by omega) hP hS hl.1 (Nat.le_of_ble_eq_true rfl) (Nat.le_of_ble_eq_true rfl) dL_law_19 (rest := [.ref q2, .ref q2]) (Nat.le_of_ble_eq_true rfl) (fun H locs hP hS => ?_)
  refine tp_i (y := w) (hw0.symm) ?_
  refine cD_v (rn_I (n := 1) (As := [.int w]) (rest := [.ref q2]) hx hb hml hown ht hKK hFx hP hD hS hA (c_m_init l dC dI cI cB cZ cJ cR tb H.size q2 w N hN1 hN2 hNw) tw_1229 tw_1233 tw_1234 tw_1235 rfl (by decide +kernel) rfl rfl ⟨Nat.le_of_ble_eq_true rfl, Nat.le_of_ble_eq_true rfl⟩ [0] rfl (by decide) rfl hl.1 rfl (Nat.le_of_ble_eq_true rfl) dL_law_22 ⟨Nat.le_of_ble_eq_true rfl, Nat.le_of_ble_eq_true rfl⟩) hP hD hS hA (fun u2 H locs hR hP hD hS => ?_)
  obtain ⟨ad, v⟩ := u2
  obtain ⟨hR0, hR1, hR2, hR3, hR4, hR5, hR6, hR7, hR8, hR9, hR10⟩ := hR
  have hP : va_P (dC, dI) vwCl (mW ad N cI cZ cJ v ++ U) H := hP
  have hD : va_D A (mW ad N cI cZ cJ v ++ U) := hD
  have hV : MIW N 0 q2 cI cZ cJ 0 0 (ZG.bg c9 v) (mW ad N cI cZ cJ v) := ⟨ad, v, List.Perm.refl _, hR0, hR1, hR2, hR3, ⟨HX.nil hR4, fun p9 hp9 => absurd hp9 (by omega), ⟨⟨Int32.toInt_inj.mp hR7, Int32.toInt_inj.mp hR8⟩, ⟨hR5, hR6⟩, fun f hf => absurd (show (f : Int) < 0 from hf) (by omega), fun f hf => absurd (show (f : Int) < 0 from hf) (by omega), fun p hp => absurd (show p < 0 from hp) (Nat.not_lt_zero p), DG0⟩, ⟨MAz.rf, fun j9 hj9 => absurd hj9 (by omega)⟩⟩⟩
  refine W.widen (k := 310) (n := 337401) (by omega) (by omega) ?_
  refine lv_astore_n (lv' := [(2, .ref q2), (1, .ref q1), (0, .ref b)]) hx hb dL_law_25 rfl hl (by decide) rfl (fun ls hl => ?_)
  refine lv_iconst (v := 1) hx hb dL_law_26 (by decide) ?_
  refine va_newE (atype := .long) (ty := .long) (a0 := (1, .inr (.inl (fun _ => 0)))) (cE := cJ) hx hb (ht _ tw_362) rfl hK hP hD hS hA 3 rfl (fun _ => rfl) (by decide) (by decide) (by decide) (Nat.le_of_ble_eq_true rfl) (Nat.le_of_ble_eq_true rfl) dL_law_27 (fun q3 H hP hD hS => ?_)
  have hpm : ((mW ad N cI cZ cJ v ++ U) ++ ([(q3, .inl (cJ, 1, .inr (.inl (fun _ => 0))))] : va_W)).Perm (((q3, .inl (cJ, 1, .inr (.inl (fun _ => 0)))) :: (U ++ mW ad N cI cZ cJ v)) : va_W) := List.Perm.trans List.perm_append_comm (show (((q3, .inl (cJ, 1, .inr (.inl (fun _ => 0)))) :: (mW ad N cI cZ cJ v ++ U)) : va_W).Perm ((q3, .inl (cJ, 1, .inr (.inl (fun _ => 0)))) :: (U ++ mW ad N cI cZ cJ v)) from List.Perm.cons _ List.perm_append_comm)
  have hP := va_P.perm hP hpm
  have hD := va_D.perm hD hpm
  refine W.widen (k := 311) (n := 337402) (by omega) (by omega) ?_
  refine lv_astore_n (lv' := [(3, .ref q3), (2, .ref q2), (1, .ref q1), (0, .ref b)]) hx hb dL_law_29 rfl hl (by decide) rfl (fun ls hl => ?_)
  refine lv_iconst (v := 1) hx hb dL_law_30 (by decide) ?_
  refine lv_istore (lv' := [(4, .int 1), (3, .ref q3), (2, .ref q2), (1, .ref q1), (0, .ref b)]) hx hb dL_law_31 hl (by decide) rfl (fun ls hl => ?_)
  exact law_loop l hst hx hb hr hlocks hml hown ht hX hbl hbA hAs hKK hFx hA hN1 hN2 hL 512 0 0 0 (ZG.bg c9 v) U (mW ad N cI cZ cJ v) (fun _ => 0) H locs ls 311 337402 1 (by omega) (by omega) (hU v) hV ⟨Or.inl ⟨rfl, hc9.1, Int32.toInt_inj.mp hR9⟩, WJz.bg hN1 hN2 hc9.2 hR10⟩ (by omega) (by omega) (by omega) (by omega) hP hD hS (lv_sub hl [4, 3, 2, 1, 0] rfl)
