theorem dX13_joined_0 : decode cX13_joined 0 = .ok (.iload_n 2, 1) := by decide +kernel
theorem dX13_joined_1 : decode cX13_joined 1 = .ok (.ifCond .ne 7, 3) := by decide +kernel
theorem dX13_joined_8 : decode cX13_joined 8 = .ok (.aload_n 0, 1) := by decide +kernel
theorem dX13_joined_9 : decode cX13_joined 9 = .ok (.invokevirtual 320, 3) := by decide +kernel
theorem tw_128 : (.code yX13_strength cX13_strength 1 (some .int) : Cond) ∈ tw_W := tw_in (by decide +kernel) (by decide +kernel)
theorem tw_129 : ∀ w ∈ ([.methodLink RX13 320 yX13_strength, .instanceMethod yX13_strength, .selects RX13 yX13_strength yX13_strength, .initialized RX13] : List Cond), w ∈ tw_W := tw_all (by decide +kernel)
theorem dX13_joined_12 : decode cX13_joined 12 = .ok (.istore_n 3, 1) := by decide +kernel
theorem dX13_joined_13 : decode cX13_joined 13 = .ok (.iload_n 3, 1) := by decide +kernel
theorem dX13_joined_14 : decode cX13_joined 14 = .ok (.iload_n 1, 1) := by decide +kernel
theorem dX13_joined_15 : decode cX13_joined 15 = .ok (.if_icmp .lt 140, 3) := by decide +kernel
theorem dX13_joined_155 : decode cX13_joined 155 = .ok (.return_, 1) := by decide +kernel
theorem dX13_joined_18 : decode cX13_joined 18 = .ok (.iload_n 3, 1) := by decide +kernel
theorem dX13_joined_19 : decode cX13_joined 19 = .ok (.ifCond .le 136, 3) := by decide +kernel
theorem dX13_joined_22 : decode cX13_joined 22 = .ok (.aload_n 0, 1) := by decide +kernel
theorem dX13_joined_23 : decode cX13_joined 23 = .ok (.getfield 56, 3) := by decide +kernel
theorem dX13_joined_26 : decode cX13_joined 26 = .ok (.aload_n 0, 1) := by decide +kernel
theorem dX13_joined_27 : decode cX13_joined 27 = .ok (.getfield 137, 3) := by decide +kernel
theorem dX13_joined_30 : decode cX13_joined 30 = .ok (.laload, 1) := by decide +kernel
theorem dX13_joined_31 : decode cX13_joined 31 = .ok (.l2i, 1) := by decide +kernel
theorem dX13_joined_32 : decode cX13_joined 32 = .ok (.istore 4, 2) := by decide +kernel
theorem dX13_joined_34 : decode cX13_joined 34 = .ok (.iload_n 3, 1) := by decide +kernel
theorem dX13_joined_35 : decode cX13_joined 35 = .ok (.iconst 3, 1) := by decide +kernel
theorem dX13_joined_36 : decode cX13_joined 36 = .ok (.if_icmp .ge 27, 3) := by decide +kernel
theorem dX13_joined_63 : decode cX13_joined 63 = .ok (.aload_n 0, 1) := by decide +kernel
theorem dX13_joined_64 : decode cX13_joined 64 = .ok (.iconst 1, 1) := by decide +kernel
theorem dX13_joined_65 : decode cX13_joined 65 = .ok (.invokevirtual 298, 3) := by decide +kernel
theorem dX13_joined_68 : decode cX13_joined 68 = .ok (.istore 5, 2) := by decide +kernel
theorem dX13_joined_70 : decode cX13_joined 70 = .ok (.aload_n 0, 1) := by decide +kernel
theorem dX13_joined_71 : decode cX13_joined 71 = .ok (.iload 4, 2) := by decide +kernel
theorem dX13_joined_73 : decode cX13_joined 73 = .ok (.invokevirtual 301, 3) := by decide +kernel
theorem dX13_joined_76 : decode cX13_joined 76 = .ok (.aload_n 0, 1) := by decide +kernel
theorem dX13_joined_77 : decode cX13_joined 77 = .ok (.invokevirtual 154, 3) := by decide +kernel
theorem dX13_joined_80 : decode cX13_joined 80 = .ok (.aload_n 0, 1) := by decide +kernel
theorem dX13_joined_81 : decode cX13_joined 81 = .ok (.bipush 10, 2) := by decide +kernel
theorem dX13_joined_83 : decode cX13_joined 83 = .ok (.iload 5, 2) := by decide +kernel
theorem dX13_joined_85 : decode cX13_joined 85 = .ok (.invokestatic 272, 3) := by decide +kernel
theorem dX13_joined_88 : decode cX13_joined 88 = .ok (.bipush 8, 2) := by decide +kernel
theorem dX13_joined_90 : decode cX13_joined 90 = .ok (.invokestatic 278, 3) := by decide +kernel
theorem dX13_joined_93 : decode cX13_joined 93 = .ok (.invokevirtual 111, 3) := by decide +kernel
theorem dX13_joined_96 : decode cX13_joined 96 = .ok (.pop, 1) := by decide +kernel
theorem dX13_joined_97 : decode cX13_joined 97 = .ok (.aload_n 0, 1) := by decide +kernel
theorem dX13_joined_98 : decode cX13_joined 98 = .ok (.dup, 1) := by decide +kernel
theorem dX13_joined_99 : decode cX13_joined 99 = .ok (.getfield 174, 3) := by decide +kernel
theorem dX13_joined_102 : decode cX13_joined 102 = .ok (.iconst 1, 1) := by decide +kernel
theorem dX13_joined_103 : decode cX13_joined 103 = .ok (.iadd, 1) := by decide +kernel
theorem dX13_joined_104 : decode cX13_joined 104 = .ok (.putfield 174, 3) := by decide +kernel
theorem dX13_joined_107 : decode cX13_joined 107 = .ok (.aload_n 0, 1) := by decide +kernel
theorem dX13_joined_108 : decode cX13_joined 108 = .ok (.iload_n 3, 1) := by decide +kernel
theorem dX13_joined_109 : decode cX13_joined 109 = .ok (.iconst 1, 1) := by decide +kernel
theorem dX13_joined_110 : decode cX13_joined 110 = .ok (.iadd, 1) := by decide +kernel
theorem dX13_joined_111 : decode cX13_joined 111 = .ok (.iconst 0, 1) := by decide +kernel
theorem dX13_joined_112 : decode cX13_joined 112 = .ok (.invokevirtual 310, 3) := by decide +kernel
theorem dX13_joined_115 : decode cX13_joined 115 = .ok (.aload_n 0, 1) := by decide +kernel
theorem dX13_joined_116 : decode cX13_joined 116 = .ok (.dup, 1) := by decide +kernel
theorem dX13_joined_117 : decode cX13_joined 117 = .ok (.getfield 174, 3) := by decide +kernel
theorem dX13_joined_120 : decode cX13_joined 120 = .ok (.iconst 1, 1) := by decide +kernel
theorem dX13_joined_121 : decode cX13_joined 121 = .ok (.isub, 1) := by decide +kernel
theorem dX13_joined_122 : decode cX13_joined 122 = .ok (.putfield 174, 3) := by decide +kernel
theorem dX13_joined_125 : decode cX13_joined 125 = .ok (.aload_n 0, 1) := by decide +kernel
theorem dX13_joined_126 : decode cX13_joined 126 = .ok (.iconst 5, 1) := by decide +kernel
theorem dX13_joined_127 : decode cX13_joined 127 = .ok (.iload 5, 2) := by decide +kernel
theorem dX13_joined_129 : decode cX13_joined 129 = .ok (.invokestatic 272, 3) := by decide +kernel
theorem dX13_joined_132 : decode cX13_joined 132 = .ok (.bipush 8, 2) := by decide +kernel
theorem dX13_joined_134 : decode cX13_joined 134 = .ok (.invokestatic 265, 3) := by decide +kernel
theorem dX13_joined_137 : decode cX13_joined 137 = .ok (.invokevirtual 111, 3) := by decide +kernel
theorem dX13_joined_140 : decode cX13_joined 140 = .ok (.pop, 1) := by decide +kernel
theorem dX13_joined_141 : decode cX13_joined 141 = .ok (.aload_n 0, 1) := by decide +kernel
theorem dX13_joined_142 : decode cX13_joined 142 = .ok (.iload 4, 2) := by decide +kernel
theorem dX13_joined_144 : decode cX13_joined 144 = .ok (.invokevirtual 304, 3) := by decide +kernel
theorem dX13_joined_147 : decode cX13_joined 147 = .ok (.aload_n 0, 1) := by decide +kernel
theorem dX13_joined_148 : decode cX13_joined 148 = .ok (.invokevirtual 320, 3) := by decide +kernel
theorem dX13_joined_151 : decode cX13_joined 151 = .ok (.istore_n 3, 1) := by decide +kernel
theorem dX13_joined_152 : decode cX13_joined 152 = .ok (.goto (-139), 3) := by decide +kernel
theorem dX13_joined_39 : decode cX13_joined 39 = .ok (.aload_n 0, 1) := by decide +kernel
theorem dX13_joined_40 : decode cX13_joined 40 = .ok (.invokevirtual 154, 3) := by decide +kernel
theorem dX13_joined_43 : decode cX13_joined 43 = .ok (.aload_n 0, 1) := by decide +kernel
theorem dX13_joined_44 : decode cX13_joined 44 = .ok (.iload_n 3, 1) := by decide +kernel
theorem dX13_joined_45 : decode cX13_joined 45 = .ok (.iconst 1, 1) := by decide +kernel
theorem dX13_joined_46 : decode cX13_joined 46 = .ok (.if_icmp .ne 7, 3) := by decide +kernel
theorem dX13_joined_53 : decode cX13_joined 53 = .ok (.iconst 0, 1) := by decide +kernel
theorem dX13_joined_54 : decode cX13_joined 54 = .ok (.iload_n 3, 1) := by decide +kernel
theorem dX13_joined_55 : decode cX13_joined 55 = .ok (.iconst 1, 1) := by decide +kernel
theorem dX13_joined_56 : decode cX13_joined 56 = .ok (.iadd, 1) := by decide +kernel
theorem dX13_joined_57 : decode cX13_joined 57 = .ok (.invokevirtual 323, 3) := by decide +kernel
theorem tw_130 : (.code yX13_both cX13_both 5 none : Cond) ∈ tw_W := tw_in (by decide +kernel) (by decide +kernel)
theorem tw_131 : ∀ w ∈ ([.methodLink RX13 323 yX13_both, .instanceMethod yX13_both, .selects RX13 yX13_both yX13_both, .initialized RX13] : List Cond), w ∈ tw_W := tw_all (by decide +kernel)
theorem dX13_joined_60 : decode cX13_joined 60 = .ok (.goto 87, 3) := by decide +kernel
theorem dX13_joined_49 : decode cX13_joined 49 = .ok (.iconst 1, 1) := by decide +kernel
theorem dX13_joined_50 : decode cX13_joined 50 = .ok (.goto 4, 3) := by decide +kernel
theorem dX13_joined_4 : decode cX13_joined 4 = .ok (.aload_n 0, 1) := by decide +kernel
theorem dX13_joined_5 : decode cX13_joined 5 = .ok (.invokevirtual 317, 3) := by decide +kernel
set_option maxHeartbeats 16000000 in
set_option maxRecDepth 100000 in
theorem c_m_joined (l : Launch) (n : Nat) (kk : Nat) (O : Cx_operand l n) (ihJ : ∀ m, kk = m + 1 → Cx_joined l n m) (dC : Nat → ClassId) (dI : Nat → Nat → Nat) (cI cB cZ cJ cR : ClassId) (tb : Nat → Nat) (sz : Nat) (ad : Nat → Nat) (N : Nat) (v : MS) (pa : Int32) (pb : Int32) (zn : 40 ≤ (v.1 0 48).toInt + (n : Int)) (zt : 0 ≤ (v.1 0 47).toInt ∧ (v.1 0 47).toInt ≤ 1500) (zop : 0 ≤ (v.1 0 48).toInt ∧ (v.1 0 48).toInt ≤ 40) (zkn : 0 ≤ (v.1 0 30).toInt ∧ (v.1 0 30).toInt ≤ 500) (zhi : 0 ≤ (v.1 0 33).toInt ∧ (v.1 0 33).toInt ≤ 500) (zs : 0 ≤ (v.1 0 32).toInt ∧ (v.1 0 30).toInt + (v.1 0 32).toInt ≤ 500) (zws : 0 ≤ (v.1 0 12).toInt ∧ (v.1 0 12).toInt ≤ 15 * (v.1 0 47).toInt + 2) (zos : 0 ≤ (v.1 0 15).toInt ∧ (v.1 0 15).toInt ≤ 10 * (v.1 0 47).toInt + 0) (zfs : 0 ≤ (v.1 0 43).toInt ∧ (v.1 0 43).toInt ≤ 15 * (v.1 0 47).toInt + 0) (zcs : 0 ≤ (v.1 0 39).toInt ∧ (v.1 0 39).toInt ≤ 1 * (v.1 0 47).toInt + 0) (zgl : 0 ≤ (v.1 0 27).toInt ∧ (v.1 0 27).toInt ≤ 60) (hT : TI v) (n29 : NI 29 v) (n23 : NI 23 v) (n35 : NI 35 v) (zl : 1 ≤ pa.toInt ∧ pa.toInt ≤ 12 ∧ 11 ≤ pa.toInt + (kk : Int)) : vx_Met l yX13_joined (Cond.code yX13_joined cX13_joined 6 none :: tw_W) ({ frames := 40 * n + 10 + 2 * kk, cells := 0, slots := 0, locals := 28 * (40 * n + 10 + 2 * kk) }) (pc_ (dC, dI) (tyS cI cB cZ cJ cR) tb (mW ad N cI cZ cJ v) sz [.ref (ad 0), .int pa, .int pb]) (qv_ (dC, dI) (mW ad N cI cZ cJ v) sz (fun (u : MS) => FG [12, 15, 32, 33, 39, 43, 44, 45, 47, 48, 49, 50, 51] [0, 11, 13, 14, 35, 36, 37, 38, 40, 41, 42] v u ∧ ((v.1 0 47).toInt + 0 ≤ (u.1 0 47).toInt ∧ (u.1 0 47).toInt ≤ 1500) ∧ (pb.toInt ≠ 0 ∨ ((v.1 0 47).toInt + 1 ≤ (u.1 0 47).toInt ∧ (v.1 0 49).toInt ≠ (v.1 0 47).toInt)) ∧ ((v.1 0 12).toInt ≤ (u.1 0 12).toInt ∧ (u.1 0 12).toInt - 15 * (u.1 0 47).toInt ≤ (v.1 0 12).toInt - 15 * (v.1 0 47).toInt) ∧ ((v.1 0 15).toInt ≤ (u.1 0 15).toInt ∧ (u.1 0 15).toInt - 10 * (u.1 0 47).toInt ≤ (v.1 0 15).toInt - 10 * (v.1 0 47).toInt) ∧ ((v.1 0 43).toInt ≤ (u.1 0 43).toInt ∧ (u.1 0 43).toInt - 15 * (u.1 0 47).toInt ≤ (v.1 0 43).toInt - 15 * (v.1 0 47).toInt) ∧ ((v.1 0 39).toInt ≤ (u.1 0 39).toInt ∧ (u.1 0 39).toInt - 1 * (u.1 0 47).toInt ≤ (v.1 0 39).toInt - 1 * (v.1 0 47).toInt) ∧ ((u.1 0 32).toInt = (v.1 0 32).toInt ∧ (u.1 0 48).toInt = (v.1 0 48).toInt) ∧ ((v.1 0 33).toInt ≤ (u.1 0 33).toInt ∧ (u.1 0 33).toInt ≤ 500) ∧ (∀ j : Nat, (j : Int) < (v.1 0 12).toInt → (u.1 11) j = (v.1 11) j) ∧ (∀ j : Nat, (j : Int) < (v.1 0 15).toInt → (u.1 13) j = (v.1 13) j) ∧ (∀ j : Nat, (j : Int) < (v.1 0 15).toInt → (u.1 14) j = (v.1 14) j) ∧ (NI 35 u)) (fun (u : MS) => (mW ad N cI cZ cJ u))) (qxm (dC, dI) (mW ad N cI cZ cJ v) sz (fun (u : MS) => (mW ad N cI cZ cJ u)) (fun (u : MS) => Fr v u)) 0 0 (va_A (mW ad N cI cZ cJ v) sz) := by
  refine vx_ofW (cc := cX13_joined) (maxL := 6) (ret := none) (by decide) rfl ?_
  intro p e s m args below meth c s₁ B hml hnt hv
  obtain ⟨rfl, hsz, hP, hKK, hD0, hFx⟩ := hv
  have hK := hKK.1
  have hx := B.exec
  have hb := B.bytes
  have hr := B.returns
  have ht : ∀ w ∈ tw_W, w.before _ s = true := fun w h => atoms_spec (ws := Cond.code yX13_joined cX13_joined 6 none :: tw_W) B.pre w (List.mem_cons_of_mem _ h)
  have hown : s.vm.findClass RX13 = some m.cls := findClass_of_methodNamed B.named
  have hlocks := B.notSynchronized
  subst hsz
  unfold qv_ qxm
  have hD := hD0.self (sz := s.heap.size)
  generalize hAe : va_A (mW ad N cI cZ cJ v) s.heap.size = A at hD hFx ⊢
  have hA : ∀ q : Nat, s.heap.size ≤ q → A q := fun q h => by rw [← hAe]; exact Or.inr h
  have hS : va_S A s.heap s.heap [] := va_S.rf
  have hl := lv_entry ([.ref (ad 0), .int pa, .int pb]) (n := 6) (Nat.le_of_ble_eq_true rfl)
  rw [lg_entry_eq]
  generalize (lg_sl ([.ref (ad 0), .int pa, .int pb]) ++ List.replicate (6 - (lg_sl ([.ref (ad 0), .int pa, .int pb])).length) Slot.unset).toArray = ls at hl ⊢
  have hl : lv_has ls 6 [(0, .ref (ad 0)), (1, .int pa), (2, .int pb)] := hl
  refine lv_iload_n hx hb dX13_joined_0 rfl (lv_at hl 2 rfl) ?_
  refine lv_if_ne (tgt := 8) hx hb dX13_joined_1 (by decide) (fun h1 => ?_) (fun h1 => ?_)
  · have z2 : pb.toInt ≠ 0 := ne_z rfl (show (0 : Int32).toInt = 0 by decide) h1
    refine lv_aload_n hx hb dX13_joined_8 rfl (lv_at hl 0 rfl) ?_
    refine cu_i (rn_V (n := 0) (As := []) (rest := []) hx hb hml hown ht hKK hFx hP hD hS hA (c_m_strength l dC dI cI cB cZ cJ cR tb s.heap.size ad N v  (show 0 ≤ (v.1 0 47).toInt ∧ (v.1 0 47).toInt ≤ 1500 by omega)) tw_128 tw_129 (by decide +kernel) rfl rfl ⟨by show 0 + 1 ≤ 40 * n + 10 + 2 * kk; omega, by show 8 + (1 + 11) + 0 ≤ 28 * (40 * n + 10 + 2 * kk); omega⟩ (List.range (mW ad N cI cZ cJ v).length) (rg_map _) (mW_nd _ _ _ _ _ _) rfl rfl rfl rfl hl.1 rfl (Nat.le_of_ble_eq_true rfl) dX13_joined_9 ⟨Nat.le_of_ble_eq_true rfl, Nat.le_of_ble_eq_true rfl⟩) hP hD hS hA (fun r5 u4 H locs hw3 hP hD hS => ?_)
    obtain ⟨rfl, a3, b3⟩ := hw3
    refine W.widen (k := 0) (n := 0) (by omega) (by omega) ?_
    refine lv_istore_n (lv' := [(3, .int r5), (0, .ref (ad 0)), (1, .int pa), (2, .int pb)]) hx hb dX13_joined_12 rfl hl (by decide) rfl (fun ls hl => ?_)
    refine lpm_ (X := Int32 × MS) (P := (fun (x9 : Int32 × MS) (H : Heap) (locs : List Loc) (ls : Array Slot) => (FG [12, 15, 32, 33, 39, 43, 44, 45, 47, 48, 49, 50, 51] [0, 11, 13, 14, 35, 36, 37, 38, 40, 41, 42] v x9.2) ∧ (0 ≤ x9.1.toInt ∧ x9.1.toInt ≤ 10) ∧ ((v.1 0 47).toInt + 0 ≤ (x9.2.1 0 47).toInt ∧ (x9.2.1 0 47).toInt ≤ 1500) ∧ (pb.toInt ≠ 0 ∨ ((v.1 0 47).toInt + 1 ≤ (x9.2.1 0 47).toInt ∧ (v.1 0 49).toInt ≠ (v.1 0 47).toInt)) ∧ ((v.1 0 12).toInt ≤ (x9.2.1 0 12).toInt ∧ (x9.2.1 0 12).toInt - 15 * (x9.2.1 0 47).toInt ≤ (v.1 0 12).toInt - 15 * (v.1 0 47).toInt) ∧ ((v.1 0 15).toInt ≤ (x9.2.1 0 15).toInt ∧ (x9.2.1 0 15).toInt - 10 * (x9.2.1 0 47).toInt ≤ (v.1 0 15).toInt - 10 * (v.1 0 47).toInt) ∧ ((v.1 0 43).toInt ≤ (x9.2.1 0 43).toInt ∧ (x9.2.1 0 43).toInt - 15 * (x9.2.1 0 47).toInt ≤ (v.1 0 43).toInt - 15 * (v.1 0 47).toInt) ∧ ((v.1 0 39).toInt ≤ (x9.2.1 0 39).toInt ∧ (x9.2.1 0 39).toInt - 1 * (x9.2.1 0 47).toInt ≤ (v.1 0 39).toInt - 1 * (v.1 0 47).toInt) ∧ ((x9.2.1 0 32).toInt = (v.1 0 32).toInt ∧ (x9.2.1 0 48).toInt = (v.1 0 48).toInt) ∧ ((v.1 0 33).toInt ≤ (x9.2.1 0 33).toInt ∧ (x9.2.1 0 33).toInt ≤ 500) ∧ (∀ j : Nat, (j : Int) < (v.1 0 12).toInt → (x9.2.1 11) j = (v.1 11) j) ∧ (∀ j : Nat, (j : Int) < (v.1 0 15).toInt → (x9.2.1 13) j = (v.1 13) j) ∧ (∀ j : Nat, (j : Int) < (v.1 0 15).toInt → (x9.2.1 14) j = (v.1 14) j) ∧ (NI 35 x9.2) ∧ va_P (dC, dI) vwCl (mW ad N cI cZ cJ x9.2) H ∧ va_D A (mW ad N cI cZ cJ x9.2) ∧ va_S A s.heap H locs ∧ lv_has ls 6 [(3, .int x9.1), (0, .ref (ad 0)), (1, .int pa), (2, .int pb)])) (fun x9 => (1500 - (x9.2.1 0 47).toInt).toNat) 13 (fun x9 H locs ls hh ih13 => ?_) (r5, v) _ _ _ ⟨(show FG [12, 15, 32, 33, 39, 43, 44, 45, 47, 48, 49, 50, 51] [0, 11, 13, 14, 35, 36, 37, 38, 40, 41, 42] v v from (FG.rf _)), (show 0 ≤ r5.toInt ∧ r5.toInt ≤ 10 by omega), (show (v.1 0 47).toInt + 0 ≤ (v.1 0 47).toInt ∧ (v.1 0 47).toInt ≤ 1500 by omega), (show pb.toInt ≠ 0 ∨ ((v.1 0 47).toInt + 1 ≤ (v.1 0 47).toInt ∧ (v.1 0 49).toInt ≠ (v.1 0 47).toInt) by omega), (show (v.1 0 12).toInt ≤ (v.1 0 12).toInt ∧ (v.1 0 12).toInt - 15 * (v.1 0 47).toInt ≤ (v.1 0 12).toInt - 15 * (v.1 0 47).toInt by omega), (show (v.1 0 15).toInt ≤ (v.1 0 15).toInt ∧ (v.1 0 15).toInt - 10 * (v.1 0 47).toInt ≤ (v.1 0 15).toInt - 10 * (v.1 0 47).toInt by omega), (show (v.1 0 43).toInt ≤ (v.1 0 43).toInt ∧ (v.1 0 43).toInt - 15 * (v.1 0 47).toInt ≤ (v.1 0 43).toInt - 15 * (v.1 0 47).toInt by omega), (show (v.1 0 39).toInt ≤ (v.1 0 39).toInt ∧ (v.1 0 39).toInt - 1 * (v.1 0 47).toInt ≤ (v.1 0 39).toInt - 1 * (v.1 0 47).toInt by omega), (show (v.1 0 32).toInt = (v.1 0 32).toInt ∧ (v.1 0 48).toInt = (v.1 0 48).toInt by omega), (show (v.1 0 33).toInt ≤ (v.1 0 33).toInt ∧ (v.1 0 33).toInt ≤ 500 by omega), (show ∀ j : Nat, (j : Int) < (v.1 0 12).toInt → (v.1 11) j = (v.1 11) j from (fun (j9 : Nat) hj9 => rfl)), (show ∀ j : Nat, (j : Int) < (v.1 0 15).toInt → (v.1 13) j = (v.1 13) j from (fun (j9 : Nat) hj9 => rfl)), (show ∀ j : Nat, (j : Int) < (v.1 0 15).toInt → (v.1 14) j = (v.1 14) j from (fun (j9 : Nat) hj9 => rfl)), (show NI 35 v from n35), hP, hD, hS, lv_sub hl [0, 1, 2, 3] rfl⟩
    obtain ⟨by9, w⟩ := x9
    obtain ⟨fw, l1, pt, pb, pw, po, pf, pk, pp, ph, kc, ko, kg, n35, hP, hD, hS, hl⟩ := hh
    have fw : FG [12, 15, 32, 33, 39, 43, 44, 45, 47, 48, 49, 50, 51] [0, 11, 13, 14, 35, 36, 37, 38, 40, 41, 42] v w := fw
    have l1 : 0 ≤ by9.toInt ∧ by9.toInt ≤ 10 := l1
    have pt : (v.1 0 47).toInt + 0 ≤ (w.1 0 47).toInt ∧ (w.1 0 47).toInt ≤ 1500 := pt
    have pb : pb.toInt ≠ 0 ∨ ((v.1 0 47).toInt + 1 ≤ (w.1 0 47).toInt ∧ (v.1 0 49).toInt ≠ (v.1 0 47).toInt) := pb
    have pw : (v.1 0 12).toInt ≤ (w.1 0 12).toInt ∧ (w.1 0 12).toInt - 15 * (w.1 0 47).toInt ≤ (v.1 0 12).toInt - 15 * (v.1 0 47).toInt := pw
    have po : (v.1 0 15).toInt ≤ (w.1 0 15).toInt ∧ (w.1 0 15).toInt - 10 * (w.1 0 47).toInt ≤ (v.1 0 15).toInt - 10 * (v.1 0 47).toInt := po
    have pf : (v.1 0 43).toInt ≤ (w.1 0 43).toInt ∧ (w.1 0 43).toInt - 15 * (w.1 0 47).toInt ≤ (v.1 0 43).toInt - 15 * (v.1 0 47).toInt := pf
    have pk : (v.1 0 39).toInt ≤ (w.1 0 39).toInt ∧ (w.1 0 39).toInt - 1 * (w.1 0 47).toInt ≤ (v.1 0 39).toInt - 1 * (v.1 0 47).toInt := pk
    have pp : (w.1 0 32).toInt = (v.1 0 32).toInt ∧ (w.1 0 48).toInt = (v.1 0 48).toInt := pp
    have ph : (v.1 0 33).toInt ≤ (w.1 0 33).toInt ∧ (w.1 0 33).toInt ≤ 500 := ph
    have kc : ∀ j : Nat, (j : Int) < (v.1 0 12).toInt → (w.1 11) j = (v.1 11) j := kc
    have ko : ∀ j : Nat, (j : Int) < (v.1 0 15).toInt → (w.1 13) j = (v.1 13) j := ko
    have kg : ∀ j : Nat, (j : Int) < (v.1 0 15).toInt → (w.1 14) j = (v.1 14) j := kg
    have n35 : NI 35 w := n35
    have hP : va_P (dC, dI) vwCl (mW ad N cI cZ cJ w) H := hP
    have hD : va_D A (mW ad N cI cZ cJ w) := hD
    have hl : lv_has ls 6 [(3, .int by9), (0, .ref (ad 0)), (1, .int pa), (2, .int pb)] := hl
    have q_2 : (w.1 0 2).toInt = (v.1 0 2).toInt := congrArg Int32.toInt (fw.2.1 2 (by decide))
    have q_4 : (w.1 0 4).toInt = (v.1 0 4).toInt := congrArg Int32.toInt (fw.2.1 4 (by decide))
    have q_5 : (w.1 0 5).toInt = (v.1 0 5).toInt := congrArg Int32.toInt (fw.2.1 5 (by decide))
    have q_22 : (w.1 0 22).toInt = (v.1 0 22).toInt := congrArg Int32.toInt (fw.2.1 22 (by decide))
    have q_27 : (w.1 0 27).toInt = (v.1 0 27).toInt := congrArg Int32.toInt (fw.2.1 27 (by decide))
    have q_28 : (w.1 0 28).toInt = (v.1 0 28).toInt := congrArg Int32.toInt (fw.2.1 28 (by decide))
    have q_30 : (w.1 0 30).toInt = (v.1 0 30).toInt := congrArg Int32.toInt (fw.2.1 30 (by decide))
    have q_31 : (w.1 0 31).toInt = (v.1 0 31).toInt := congrArg Int32.toInt (fw.2.1 31 (by decide))
    have q_34 : (w.1 0 34).toInt = (v.1 0 34).toInt := congrArg Int32.toInt (fw.2.1 34 (by decide))
    have q_52 : (w.1 0 52).toInt = (v.1 0 52).toInt := congrArg Int32.toInt (fw.2.1 52 (by decide))
    refine lv_iload_n hx hb dX13_joined_13 rfl (lv_at hl 0 rfl) ?_
    refine lv_iload_n hx hb dX13_joined_14 rfl (lv_at hl 2 rfl) ?_
    refine lv_icmp_lt (tgt := 155) hx hb dX13_joined_15 (by decide) (fun h6 => ?_) (fun h6 => ?_)
    · have z7 : by9.toInt < pa.toInt := lt_z rfl rfl h6
      refine vx_ret ?_
      exact W.vret hx hb hr (fun t ht9 hW => ⟨⟨w, rfl, ⟨(FG.tr (FG.rf _) (FG.up fw (by decide) (by decide))), (show (v.1 0 47).toInt + 0 ≤ (w.1 0 47).toInt ∧ (w.1 0 47).toInt ≤ 1500 by omega), (show pb.toInt ≠ 0 ∨ ((v.1 0 47).toInt + 1 ≤ (w.1 0 47).toInt ∧ (v.1 0 49).toInt ≠ (v.1 0 47).toInt) by omega), (show (v.1 0 12).toInt ≤ (w.1 0 12).toInt ∧ (w.1 0 12).toInt - 15 * (w.1 0 47).toInt ≤ (v.1 0 12).toInt - 15 * (v.1 0 47).toInt by omega), (show (v.1 0 15).toInt ≤ (w.1 0 15).toInt ∧ (w.1 0 15).toInt - 10 * (w.1 0 47).toInt ≤ (v.1 0 15).toInt - 10 * (v.1 0 47).toInt by omega), (show (v.1 0 43).toInt ≤ (w.1 0 43).toInt ∧ (w.1 0 43).toInt - 15 * (w.1 0 47).toInt ≤ (v.1 0 43).toInt - 15 * (v.1 0 47).toInt by omega), (show (v.1 0 39).toInt ≤ (w.1 0 39).toInt ∧ (w.1 0 39).toInt - 1 * (w.1 0 47).toInt ≤ (v.1 0 39).toInt - 1 * (v.1 0 47).toInt by omega), (show (w.1 0 32).toInt = (v.1 0 32).toInt ∧ (w.1 0 48).toInt = (v.1 0 48).toInt by omega), (show (v.1 0 33).toInt ≤ (w.1 0 33).toInt ∧ (w.1 0 33).toInt ≤ 500 by omega), (fun (j9 : Nat) hj9 => (kc j9 (by omega))), (fun (j9 : Nat) hj9 => (ko j9 (by omega))), (fun (j9 : Nat) hj9 => (kg j9 (by omega))), n35⟩, by rw [ht9]; exact hP, hD⟩, hS.F ht9⟩) hS.2.2 dX13_joined_155
    · have z8 : pa.toInt ≤ by9.toInt := nlt_z rfl rfl h6
      refine lv_iload_n hx hb dX13_joined_18 rfl (lv_at hl 0 rfl) ?_
      refine lv_if_le (tgt := 155) hx hb dX13_joined_19 (by decide) (fun h9 => ?_) (fun h9 => ?_)
      · have z10 : by9.toInt ≤ 0 := le_z rfl (show (0 : Int32).toInt = 0 by decide) h9
        refine vx_ret ?_
        exact W.vret hx hb hr (fun t ht9 hW => ⟨⟨w, rfl, ⟨(FG.tr (FG.rf _) (FG.up fw (by decide) (by decide))), (show (v.1 0 47).toInt + 0 ≤ (w.1 0 47).toInt ∧ (w.1 0 47).toInt ≤ 1500 by omega), (show pb.toInt ≠ 0 ∨ ((v.1 0 47).toInt + 1 ≤ (w.1 0 47).toInt ∧ (v.1 0 49).toInt ≠ (v.1 0 47).toInt) by omega), (show (v.1 0 12).toInt ≤ (w.1 0 12).toInt ∧ (w.1 0 12).toInt - 15 * (w.1 0 47).toInt ≤ (v.1 0 12).toInt - 15 * (v.1 0 47).toInt by omega), (show (v.1 0 15).toInt ≤ (w.1 0 15).toInt ∧ (w.1 0 15).toInt - 10 * (w.1 0 47).toInt ≤ (v.1 0 15).toInt - 10 * (v.1 0 47).toInt by omega), (show (v.1 0 43).toInt ≤ (w.1 0 43).toInt ∧ (w.1 0 43).toInt - 15 * (w.1 0 47).toInt ≤ (v.1 0 43).toInt - 15 * (v.1 0 47).toInt by omega), (show (v.1 0 39).toInt ≤ (w.1 0 39).toInt ∧ (w.1 0 39).toInt - 1 * (w.1 0 47).toInt ≤ (v.1 0 39).toInt - 1 * (v.1 0 47).toInt by omega), (show (w.1 0 32).toInt = (v.1 0 32).toInt ∧ (w.1 0 48).toInt = (v.1 0 48).toInt by omega), (show (v.1 0 33).toInt ≤ (w.1 0 33).toInt ∧ (w.1 0 33).toInt ≤ 500 by omega), (fun (j9 : Nat) hj9 => (kc j9 (by omega))), (fun (j9 : Nat) hj9 => (ko j9 (by omega))), (fun (j9 : Nat) hj9 => (kg j9 (by omega))), n35⟩, by rw [ht9]; exact hP, hD⟩, hS.F ht9⟩) hS.2.2 dX13_joined_155
      · have z11 : 0 < by9.toInt := nle_z rfl (show (0 : Int32).toInt = 0 by decide) h9
        refine lv_aload_n hx hb dX13_joined_22 rfl (lv_at hl 1 rfl) ?_
        refine va_get (D := (dC, dI)) (ci := 16) (fs := mF ad w) (v := .ref (ad 9)) (C := RX13) (T := TX13) (N := 124) hx hb ht itX13 hown hK hP 0 rfl rfl 9 (by decide) (ht _ tw_27) (fun _ h9 => h9) rfl dX13_joined_23 ?_
        refine lv_aload_n hx hb dX13_joined_26 rfl (lv_at hl 1 rfl) ?_
        refine va_get (D := (dC, dI)) (ci := 16) (fs := mF ad w) (v := .int (w.1 0 47)) (C := RX13) (T := TX13) (N := 124) hx hb ht itX13 hown hK hP 0 rfl rfl 47 (by decide) (ht _ tw_24) (fun _ h9 => h9) rfl dX13_joined_27 ?_
        refine va_lald (D := (dC, dI)) (f := w.2) hx hb hK hP 6 3 rfl rfl (in_z (a := (w.1 0 47).toInt) rfl (by omega) (by omega)) dX13_joined_30 ?_
        refine lv_l2i hx hb dX13_joined_31 rfl ?_
        refine lv_istore (lv' := [(4, .int ((w.2 (w.1 0 47).toNatClampNeg).toInt32)), (3, .int by9), (0, .ref (ad 0)), (1, .int pa), (2, .int pb)]) hx hb dX13_joined_32 hl (by decide) rfl (fun ls hl => ?_)
        refine lv_iload_n hx hb dX13_joined_34 rfl (lv_at hl 1 rfl) ?_
        refine lv_iconst (v := 3) hx hb dX13_joined_35 (by decide) ?_
        refine lv_icmp_ge (tgt := 63) hx hb dX13_joined_36 (by decide) (fun h12 => ?_) (fun h12 => ?_)
        · have z13 : 3 ≤ by9.toInt := le_z (show (3 : Int32).toInt = 3 by decide) rfl h12
          refine lv_aload_n hx hb dX13_joined_63 rfl (lv_at hl 2 rfl) ?_
          refine lv_iconst (v := 1) hx hb dX13_joined_64 (by decide) ?_
          refine cu_i (rn_V (n := 1) (As := [.int 1]) (rest := []) hx hb hml hown ht hKK hFx hP hD hS hA (c_m_slots l dC dI cI cB cZ cJ cR tb H.size ad N w (1 : Int32) (show 0 ≤ (w.1 0 30).toInt ∧ (w.1 0 30).toInt ≤ 500 by omega) (show 0 ≤ (w.1 0 32).toInt ∧ (w.1 0 32).toInt ≤ 2000 by omega) (show 0 ≤ (w.1 0 33).toInt ∧ (w.1 0 33).toInt ≤ 500 by omega) (show 0 ≤ 1 ∧ 1 ≤ 8 by omega)) tw_88 tw_89 (by decide +kernel) rfl rfl ⟨by show 0 + 1 ≤ 40 * n + 10 + 2 * kk; omega, by show 8 + (3 + 11) + 0 ≤ 28 * (40 * n + 10 + 2 * kk); omega⟩ (List.range (mW ad N cI cZ cJ w).length) (rg_map _) (mW_nd _ _ _ _ _ _) rfl rfl rfl rfl hl.1 rfl (Nat.le_of_ble_eq_true rfl) dX13_joined_65 ⟨Nat.le_of_ble_eq_true rfl, Nat.le_of_ble_eq_true rfl⟩) hP hD hS hA (fun r16 u15 H locs hw14 hP hD hS => ?_)
          obtain ⟨fr14, sr14, sb14, sh14⟩ := hw14
          have q14_2 : (u15.1 0 2).toInt = (w.1 0 2).toInt := congrArg Int32.toInt ((fr14.2.1 2 (by decide)).trans (show w.1 0 2 = (w.1 0 2) by rfl))
          have q14_4 : (u15.1 0 4).toInt = (w.1 0 4).toInt := congrArg Int32.toInt ((fr14.2.1 4 (by decide)).trans (show w.1 0 4 = (w.1 0 4) by rfl))
          have q14_5 : (u15.1 0 5).toInt = (w.1 0 5).toInt := congrArg Int32.toInt ((fr14.2.1 5 (by decide)).trans (show w.1 0 5 = (w.1 0 5) by rfl))
          have q14_12 : (u15.1 0 12).toInt = (w.1 0 12).toInt := congrArg Int32.toInt ((fr14.2.1 12 (by decide)).trans (show w.1 0 12 = (w.1 0 12) by rfl))
          have q14_15 : (u15.1 0 15).toInt = (w.1 0 15).toInt := congrArg Int32.toInt ((fr14.2.1 15 (by decide)).trans (show w.1 0 15 = (w.1 0 15) by rfl))
          have q14_22 : (u15.1 0 22).toInt = (w.1 0 22).toInt := congrArg Int32.toInt ((fr14.2.1 22 (by decide)).trans (show w.1 0 22 = (w.1 0 22) by rfl))
          have q14_27 : (u15.1 0 27).toInt = (w.1 0 27).toInt := congrArg Int32.toInt ((fr14.2.1 27 (by decide)).trans (show w.1 0 27 = (w.1 0 27) by rfl))
          have q14_28 : (u15.1 0 28).toInt = (w.1 0 28).toInt := congrArg Int32.toInt ((fr14.2.1 28 (by decide)).trans (show w.1 0 28 = (w.1 0 28) by rfl))
          have q14_30 : (u15.1 0 30).toInt = (w.1 0 30).toInt := congrArg Int32.toInt ((fr14.2.1 30 (by decide)).trans (show w.1 0 30 = (w.1 0 30) by rfl))
          have q14_31 : (u15.1 0 31).toInt = (w.1 0 31).toInt := congrArg Int32.toInt ((fr14.2.1 31 (by decide)).trans (show w.1 0 31 = (w.1 0 31) by rfl))
          have q14_32 : (u15.1 0 32).toInt = (w.1 0 32).toInt := congrArg Int32.toInt ((fr14.2.1 32 (by decide)).trans (show w.1 0 32 = (w.1 0 32) by rfl))
          have q14_34 : (u15.1 0 34).toInt = (w.1 0 34).toInt := congrArg Int32.toInt ((fr14.2.1 34 (by decide)).trans (show w.1 0 34 = (w.1 0 34) by rfl))
          have q14_39 : (u15.1 0 39).toInt = (w.1 0 39).toInt := congrArg Int32.toInt ((fr14.2.1 39 (by decide)).trans (show w.1 0 39 = (w.1 0 39) by rfl))
          have q14_43 : (u15.1 0 43).toInt = (w.1 0 43).toInt := congrArg Int32.toInt ((fr14.2.1 43 (by decide)).trans (show w.1 0 43 = (w.1 0 43) by rfl))
          have q14_47 : (u15.1 0 47).toInt = (w.1 0 47).toInt := congrArg Int32.toInt ((fr14.2.1 47 (by decide)).trans (show w.1 0 47 = (w.1 0 47) by rfl))
          have q14_48 : (u15.1 0 48).toInt = (w.1 0 48).toInt := congrArg Int32.toInt ((fr14.2.1 48 (by decide)).trans (show w.1 0 48 = (w.1 0 48) by rfl))
          have q14_52 : (u15.1 0 52).toInt = (w.1 0 52).toInt := congrArg Int32.toInt ((fr14.2.1 52 (by decide)).trans (show w.1 0 52 = (w.1 0 52) by rfl))
          have sr14 : r16.toInt = (w.1 0 30).toInt + (w.1 0 32).toInt := sr14
          have sb14 : ((w.1 0 30).toInt + (w.1 0 32).toInt + 1 ≤ (u15.1 0 33).toInt ∧ (u15.1 0 49).toInt = (w.1 0 49).toInt) ∨ (u15.1 0 49).toInt = (w.1 0 47).toInt := sb14
          have sh14 : (w.1 0 33).toInt ≤ (u15.1 0 33).toInt ∧ (u15.1 0 33).toInt ≤ 500 := sh14
          refine W.widen (k := 0) (n := 0) (by omega) (by omega) ?_
          refine lv_istore (lv' := [(5, .int r16), (4, .int ((w.2 (w.1 0 47).toNatClampNeg).toInt32)), (3, .int by9), (0, .ref (ad 0)), (1, .int pa), (2, .int pb)]) hx hb dX13_joined_68 hl (by decide) rfl (fun ls hl => ?_)
          refine lv_aload_n hx hb dX13_joined_70 rfl (lv_at hl 3 rfl) ?_
          refine lv_iload hx hb dX13_joined_71 (lv_at hl 1 rfl) ?_
          refine cu_v (rn_V (n := 1) (As := [.int ((w.2 (w.1 0 47).toNatClampNeg).toInt32)]) (rest := []) hx hb hml hown ht hKK hFx hP hD hS hA (c_m_remember l dC dI cI cB cZ cJ cR tb H.size ad N u15 ((w.2 (w.1 0 47).toNatClampNeg).toInt32) ) tw_90 tw_91 (by decide +kernel) rfl rfl ⟨by show 0 + 1 ≤ 40 * n + 10 + 2 * kk; omega, by show 8 + (2 + 11) + 0 ≤ 28 * (40 * n + 10 + 2 * kk); omega⟩ (List.range (mW ad N cI cZ cJ u15).length) (rg_map _) (mW_nd _ _ _ _ _ _) rfl rfl rfl rfl hl.1 rfl (Nat.le_of_ble_eq_true rfl) dX13_joined_73 ⟨Nat.le_of_ble_eq_true rfl, Nat.le_of_ble_eq_true rfl⟩) hP hD hS hA (fun u18 H locs hw17 hP hD hS => ?_)
          have fr17 := hw17
          have q17_2 : (u18.1 0 2).toInt = (u15.1 0 2).toInt := congrArg Int32.toInt ((fr17.2.1 2 (by decide)).trans (show u15.1 0 2 = (u15.1 0 2) by rfl))
          have q17_4 : (u18.1 0 4).toInt = (u15.1 0 4).toInt := congrArg Int32.toInt ((fr17.2.1 4 (by decide)).trans (show u15.1 0 4 = (u15.1 0 4) by rfl))
          have q17_5 : (u18.1 0 5).toInt = (u15.1 0 5).toInt := congrArg Int32.toInt ((fr17.2.1 5 (by decide)).trans (show u15.1 0 5 = (u15.1 0 5) by rfl))
          have q17_12 : (u18.1 0 12).toInt = (u15.1 0 12).toInt := congrArg Int32.toInt ((fr17.2.1 12 (by decide)).trans (show u15.1 0 12 = (u15.1 0 12) by rfl))
          have q17_15 : (u18.1 0 15).toInt = (u15.1 0 15).toInt := congrArg Int32.toInt ((fr17.2.1 15 (by decide)).trans (show u15.1 0 15 = (u15.1 0 15) by rfl))
          have q17_22 : (u18.1 0 22).toInt = (u15.1 0 22).toInt := congrArg Int32.toInt ((fr17.2.1 22 (by decide)).trans (show u15.1 0 22 = (u15.1 0 22) by rfl))
          have q17_27 : (u18.1 0 27).toInt = (u15.1 0 27).toInt := congrArg Int32.toInt ((fr17.2.1 27 (by decide)).trans (show u15.1 0 27 = (u15.1 0 27) by rfl))
          have q17_28 : (u18.1 0 28).toInt = (u15.1 0 28).toInt := congrArg Int32.toInt ((fr17.2.1 28 (by decide)).trans (show u15.1 0 28 = (u15.1 0 28) by rfl))
          have q17_30 : (u18.1 0 30).toInt = (u15.1 0 30).toInt := congrArg Int32.toInt ((fr17.2.1 30 (by decide)).trans (show u15.1 0 30 = (u15.1 0 30) by rfl))
          have q17_31 : (u18.1 0 31).toInt = (u15.1 0 31).toInt := congrArg Int32.toInt ((fr17.2.1 31 (by decide)).trans (show u15.1 0 31 = (u15.1 0 31) by rfl))
          have q17_32 : (u18.1 0 32).toInt = (u15.1 0 32).toInt := congrArg Int32.toInt ((fr17.2.1 32 (by decide)).trans (show u15.1 0 32 = (u15.1 0 32) by rfl))
          have q17_33 : (u18.1 0 33).toInt = (u15.1 0 33).toInt := congrArg Int32.toInt ((fr17.2.1 33 (by decide)).trans (show u15.1 0 33 = (u15.1 0 33) by rfl))
          have q17_34 : (u18.1 0 34).toInt = (u15.1 0 34).toInt := congrArg Int32.toInt ((fr17.2.1 34 (by decide)).trans (show u15.1 0 34 = (u15.1 0 34) by rfl))
          have q17_39 : (u18.1 0 39).toInt = (u15.1 0 39).toInt := congrArg Int32.toInt ((fr17.2.1 39 (by decide)).trans (show u15.1 0 39 = (u15.1 0 39) by rfl))
          have q17_43 : (u18.1 0 43).toInt = (u15.1 0 43).toInt := congrArg Int32.toInt ((fr17.2.1 43 (by decide)).trans (show u15.1 0 43 = (u15.1 0 43) by rfl))
          have q17_47 : (u18.1 0 47).toInt = (u15.1 0 47).toInt := congrArg Int32.toInt ((fr17.2.1 47 (by decide)).trans (show u15.1 0 47 = (u15.1 0 47) by rfl))
          have q17_48 : (u18.1 0 48).toInt = (u15.1 0 48).toInt := congrArg Int32.toInt ((fr17.2.1 48 (by decide)).trans (show u15.1 0 48 = (u15.1 0 48) by rfl))
          have q17_49 : (u18.1 0 49).toInt = (u15.1 0 49).toInt := congrArg Int32.toInt ((fr17.2.1 49 (by decide)).trans (show u15.1 0 49 = (u15.1 0 49) by rfl))
          have q17_52 : (u18.1 0 52).toInt = (u15.1 0 52).toInt := congrArg Int32.toInt ((fr17.2.1 52 (by decide)).trans (show u15.1 0 52 = (u15.1 0 52) by rfl))
          refine W.widen (k := 0) (n := 0) (by omega) (by omega) ?_
          refine lv_aload_n hx hb dX13_joined_76 rfl (lv_at hl 3 rfl) ?_
          refine cux_v (rx_V (n := 0) (As := []) (rest := []) hx hb hml hown ht hKK hFx hP hD hS hA (c_m_take l dC dI cI cB cZ cJ cR tb H.size ad N u18  (show 0 ≤ (u18.1 0 47).toInt ∧ (u18.1 0 47).toInt ≤ 1500 by omega)) tw_32 tw_33 (by decide +kernel) rfl rfl ⟨by show 1 + 1 ≤ 40 * n + 10 + 2 * kk; omega, by show 8 + (1 + 11) + 22 ≤ 28 * (40 * n + 10 + 2 * kk); omega⟩ (List.range (mW ad N cI cZ cJ u18).length) (rg_map _) (mW_nd _ _ _ _ _ _) rfl rfl rfl rfl hl.1 rfl (Nat.le_of_ble_eq_true rfl) dX13_joined_77 ⟨Nat.le_of_ble_eq_true rfl, Nat.le_of_ble_eq_true rfl⟩) hP hD hS hA (fun u9 ce9 q9 H locs hx9 hP hD hS hc9 hv9 hf9 => ?_) (fun u21 H locs hw20 hP hD hS => ?_)
          · exact vx_out (fun x h9 => (hnt x h9).elim) hlocks hc9 hv9 hf9 (fun t9 ht9 hv8 => ⟨u9, (FG.tr (FG.tr (FG.tr (FG.tr (FG.rf _) (FG.up fw (by decide) (by decide))) (FG.up fr14 (by decide) (by decide))) (FG.up fr17 (by decide) (by decide))) hx9), ⟨rfl, by rw [ht9]; exact hP, hD⟩, hS.F ht9⟩) hS.2.2 (by omega) (by omega)
          obtain ⟨rfl, a20, b20⟩ := hw20
          have z23 : ((u18.1 0 47) + (1 : Int32)).toInt = (u18.1 0 47).toInt + 1 := add_z rfl (show (1 : Int32).toInt = 1 by decide) (by omega) (by omega)
          have hP : va_P (dC, dI) vwCl (mW ad N cI cZ cJ (wA u18 0 47 ((u18.1 0 47) + (1 : Int32)))) H := hP
          have hD : va_D A (mW ad N cI cZ cJ (wA u18 0 47 ((u18.1 0 47) + (1 : Int32)))) := hD
          have a20 : (u18.1 0 47).toInt < 1500 := a20
          have b20 : (u18.1 0 49).toInt ≠ (u18.1 0 47).toInt := b20
          refine W.widen (k := 0) (n := 0) (by omega) (by omega) ?_
          refine lv_aload_n hx hb dX13_joined_80 rfl (lv_at hl 3 rfl) ?_
          refine lv_bipush (v := 10) hx hb dX13_joined_81 (by decide) ?_
          refine lv_iload hx hb dX13_joined_83 (lv_at hl 0 rfl) ?_
          refine cu_s (mW_nd _ _ _ _ _ _) (rn_S (n := 1) (As := [.int r16]) (rest := [.int 10, .ref (ad 0)]) hx hb hml hown ht hKK hFx hP hD hS hA (c_m_slotAt l dC dI cI cB cZ cJ cR tb H.size r16 ) tw_74 tw_75 (by decide +kernel) rfl rfl ⟨by show 0 + 1 ≤ 40 * n + 10 + 2 * kk; omega, by show 8 + (1 + 11) + 0 ≤ 28 * (40 * n + 10 + 2 * kk); omega⟩ [] rfl rfl rfl hl.1 rfl (Nat.le_of_ble_eq_true rfl) dX13_joined_85 ⟨Nat.le_of_ble_eq_true rfl, Nat.le_of_ble_eq_true rfl⟩) hP hD hS hA (fun r26 H locs hw24 hP hD hS => ?_)
          refine W.widen (k := 0) (n := 0) (by omega) (by omega) ?_
          refine lv_bipush (v := 8) hx hb dX13_joined_88 (by decide) ?_
          refine cu_s (mW_nd _ _ _ _ _ _) (rn_S (n := 3) (As := [.int 10, .int r26, .int 8]) (rest := [.ref (ad 0)]) hx hb hml hown ht hKK hFx hP hD hS hA (c_m_sw l dC dI cI cB cZ cJ cR tb H.size (10 : Int32) r26 (8 : Int32) ) tw_76 tw_77 (by decide +kernel) rfl rfl ⟨by show 0 + 1 ≤ 40 * n + 10 + 2 * kk; omega, by show 8 + (3 + 11) + 0 ≤ 28 * (40 * n + 10 + 2 * kk); omega⟩ [] rfl rfl rfl hl.1 rfl (Nat.le_of_ble_eq_true rfl) dX13_joined_90 ⟨Nat.le_of_ble_eq_true rfl, Nat.le_of_ble_eq_true rfl⟩) hP hD hS hA (fun r29 H locs hw27 hP hD hS => ?_)
          refine W.widen (k := 0) (n := 0) (by omega) (by omega) ?_
          refine cu_i (rn_V (n := 1) (As := [.int r29]) (rest := []) hx hb hml hown ht hKK hFx hP hD hS hA (c_m_emit l dC dI cI cB cZ cJ cR tb H.size ad N (wA u18 0 47 ((u18.1 0 47) + (1 : Int32))) r29 (show 0 ≤ (u18.1 0 12).toInt ∧ (u18.1 0 12).toInt < 24000 by omega)) tw_8 tw_9 (by decide +kernel) rfl rfl ⟨by show 0 + 1 ≤ 40 * n + 10 + 2 * kk; omega, by show 8 + (2 + 11) + 0 ≤ 28 * (40 * n + 10 + 2 * kk); omega⟩ (List.range (mW ad N cI cZ cJ (wA u18 0 47 ((u18.1 0 47) + (1 : Int32)))).length) (rg_map _) (mW_nd _ _ _ _ _ _) rfl rfl rfl rfl hl.1 rfl (Nat.le_of_ble_eq_true rfl) dX13_joined_93 ⟨Nat.le_of_ble_eq_true rfl, Nat.le_of_ble_eq_true rfl⟩) hP hD hS hA (fun r32 u31 H locs hw30 hP hD hS => ?_)
          obtain ⟨rfl, rfl⟩ := hw30
          have z33 : ((u18.1 0 12) + (1 : Int32)).toInt = (u18.1 0 12).toInt + 1 := add_z rfl (show (1 : Int32).toInt = 1 by decide) (by omega) (by omega)
          have hP : va_P (dC, dI) vwCl (mW ad N cI cZ cJ (wA (wA (wA u18 0 47 ((u18.1 0 47) + (1 : Int32))) 11 ((u18.1 0 12).toNatClampNeg) r29) 0 12 ((u18.1 0 12) + (1 : Int32)))) H := hP
          have hD : va_D A (mW ad N cI cZ cJ (wA (wA (wA u18 0 47 ((u18.1 0 47) + (1 : Int32))) 11 ((u18.1 0 12).toNatClampNeg) r29) 0 12 ((u18.1 0 12) + (1 : Int32)))) := hD
          refine tp_i (y := (u18.1 0 12)) (rfl) ?_
          refine W.widen (k := 0) (n := 0) (by omega) (by omega) ?_
          refine lv_pop hx hb dX13_joined_96 rfl ?_
          refine lv_aload_n hx hb dX13_joined_97 rfl (lv_at hl 3 rfl) ?_
          refine lv_dup hx hb dX13_joined_98 rfl ?_
          refine va_get (D := (dC, dI)) (ci := 16) (fs := mF ad (wA (wA (wA u18 0 47 ((u18.1 0 47) + (1 : Int32))) 11 ((u18.1 0 12).toNatClampNeg) r29) 0 12 ((u18.1 0 12) + (1 : Int32)))) (v := .int (u18.1 0 32)) (C := RX13) (T := TX13) (N := 124) hx hb ht itX13 hown hK hP 0 rfl rfl 32 (by decide) (ht _ tw_52) (fun _ h9 => h9) rfl dX13_joined_99 ?_
          refine lv_iconst (v := 1) hx hb dX13_joined_102 (by decide) ?_
          refine lv_iadd hx hb dX13_joined_103 ?_
          have z34 : ((u18.1 0 32) + (1 : Int32)).toInt = (u18.1 0 32).toInt + 1 := add_z rfl (show (1 : Int32).toInt = 1 by decide) (by omega) (by omega)
          refine va_put (D := (dC, dI)) (ci := 16) (fs := mF ad (wA (wA (wA u18 0 47 ((u18.1 0 47) + (1 : Int32))) 11 ((u18.1 0 12).toNatClampNeg) r29) 0 12 ((u18.1 0 12) + (1 : Int32)))) (v := .int ((u18.1 0 32) + (1 : Int32))) (ty := .int) (C := RX13) (T := TX13) (N := 124) hx hb ht itX13 tyX13 tyX13_ok nmX13 hown hK hP hD hS 0 rfl rfl 32 (by decide) (ht _ tw_52) (fun _ h9 => h9) rfl (by decide +kernel) rfl rfl (Nat.le_of_ble_eq_true rfl) dX13_joined_104 (fun H locs hP hD hS => ?_)
          have hP := cP_ (mw_32 ad N cI cZ cJ (wA (wA (wA u18 0 47 ((u18.1 0 47) + (1 : Int32))) 11 ((u18.1 0 12).toNatClampNeg) r29) 0 12 ((u18.1 0 12) + (1 : Int32))) ((u18.1 0 32) + (1 : Int32))) hP
          have hD := cD_ (mw_32 ad N cI cZ cJ (wA (wA (wA u18 0 47 ((u18.1 0 47) + (1 : Int32))) 11 ((u18.1 0 12).toNatClampNeg) r29) 0 12 ((u18.1 0 12) + (1 : Int32))) ((u18.1 0 32) + (1 : Int32))) hD
          refine lv_aload_n hx hb dX13_joined_107 rfl (lv_at hl 3 rfl) ?_
          refine lv_iload_n hx hb dX13_joined_108 rfl (lv_at hl 2 rfl) ?_
          refine lv_iconst (v := 1) hx hb dX13_joined_109 (by decide) ?_
          refine lv_iadd hx hb dX13_joined_110 ?_
          have z35 : (by9 + (1 : Int32)).toInt = by9.toInt + 1 := add_z rfl (show (1 : Int32).toInt = 1 by decide) (by omega) (by omega)
          refine lv_iconst (v := 0) hx hb dX13_joined_111 (by decide) ?_
          obtain ⟨kk36, hk37⟩ : ∃ m, kk = m + 1 := ⟨kk - 1, by omega⟩
          refine cux_v (rx_V (n := 2) (As := [.int (by9 + (1 : Int32)), .int 0]) (rest := []) hx hb hml hown ht hKK hFx hP hD hS hA (ihJ kk36 hk37 dC dI cI cB cZ cJ cR tb H.size ad N (wA (wA (wA (wA u18 0 47 ((u18.1 0 47) + (1 : Int32))) 11 ((u18.1 0 12).toNatClampNeg) r29) 0 12 ((u18.1 0 12) + (1 : Int32))) 0 32 ((u18.1 0 32) + (1 : Int32))) (by9 + (1 : Int32)) (0 : Int32) (show 40 ≤ (u18.1 0 48).toInt + (n : Int) by omega) (show 0 ≤ ((u18.1 0 47) + (1 : Int32)).toInt ∧ ((u18.1 0 47) + (1 : Int32)).toInt ≤ 1500 by omega) (show 0 ≤ (u18.1 0 48).toInt ∧ (u18.1 0 48).toInt ≤ 40 by omega) (show 0 ≤ (u18.1 0 30).toInt ∧ (u18.1 0 30).toInt ≤ 500 by omega) (show 0 ≤ (u18.1 0 33).toInt ∧ (u18.1 0 33).toInt ≤ 500 by omega) (show 0 ≤ ((u18.1 0 32) + (1 : Int32)).toInt ∧ (u18.1 0 30).toInt + ((u18.1 0 32) + (1 : Int32)).toInt ≤ 500 by omega) (show 0 ≤ ((u18.1 0 12) + (1 : Int32)).toInt ∧ ((u18.1 0 12) + (1 : Int32)).toInt ≤ 15 * ((u18.1 0 47) + (1 : Int32)).toInt + 2 by omega) (show 0 ≤ (u18.1 0 15).toInt ∧ (u18.1 0 15).toInt ≤ 10 * ((u18.1 0 47) + (1 : Int32)).toInt + 0 by omega) (show 0 ≤ (u18.1 0 43).toInt ∧ (u18.1 0 43).toInt ≤ 15 * ((u18.1 0 47) + (1 : Int32)).toInt + 0 by omega) (show 0 ≤ (u18.1 0 39).toInt ∧ (u18.1 0 39).toInt ≤ 1 * ((u18.1 0 47) + (1 : Int32)).toInt + 0 by omega) (show 0 ≤ (u18.1 0 27).toInt ∧ (u18.1 0 27).toInt ≤ 60 by omega) (FG.ti (fl := pfl) (al := pal) (FG.f (FG.f (FG.a (FG.f (FG.tr (FG.tr (FG.tr (FG.rf _) (FG.up fw (by decide) (by decide))) (FG.up fr14 (by decide) (by decide))) (FG.up fr17 (by decide) (by decide))) ((u18.1 0 47) + (1 : Int32)) (by decide)) ((u18.1 0 12).toNatClampNeg) r29 (by decide) (by decide)) ((u18.1 0 12) + (1 : Int32)) (by decide)) ((u18.1 0 32) + (1 : Int32)) (by decide)) (by decide) (by decide) hT) ((show NI 29 u18 from NI.fr (fl := [44, 45]) (al := [0]) fr17 (by decide) (show NI 29 u15 from NI.fr (fl := [33, 49]) (al := [0]) fr14 (by decide) (show NI 29 w from NI.fr (fl := [12, 15, 32, 33, 39, 43, 44, 45, 47, 48, 49, 50, 51]) (al := [0, 11, 13, 14, 35, 36, 37, 38, 40, 41, 42]) fw (by decide) n29)))) ((show NI 23 u18 from NI.fr (fl := [44, 45]) (al := [0]) fr17 (by decide) (show NI 23 u15 from NI.fr (fl := [33, 49]) (al := [0]) fr14 (by decide) (show NI 23 w from NI.fr (fl := [12, 15, 32, 33, 39, 43, 44, 45, 47, 48, 49, 50, 51]) (al := [0, 11, 13, 14, 35, 36, 37, 38, 40, 41, 42]) fw (by decide) n23)))) ((show NI 35 u18 from NI.fr (fl := [44, 45]) (al := [0]) fr17 (by decide) (show NI 35 u15 from NI.fr (fl := [33, 49]) (al := [0]) fr14 (by decide) n35))) (show 1 ≤ (by9 + (1 : Int32)).toInt ∧ (by9 + (1 : Int32)).toInt ≤ 12 ∧ 11 ≤ (by9 + (1 : Int32)).toInt + (kk36 : Int) by omega)) tw_124 tw_125 (by decide +kernel) rfl rfl ⟨by show (40 * n + 10 + 2 * kk36) + 1 ≤ 40 * n + 10 + 2 * kk; omega, by show 8 + (6 + 11) + 28 * (40 * n + 10 + 2 * kk36) ≤ 28 * (40 * n + 10 + 2 * kk); omega⟩ (List.range (mW ad N cI cZ cJ (wA (wA (wA (wA u18 0 47 ((u18.1 0 47) + (1 : Int32))) 11 ((u18.1 0 12).toNatClampNeg) r29) 0 12 ((u18.1 0 12) + (1 : Int32))) 0 32 ((u18.1 0 32) + (1 : Int32)))).length) (rg_map _) (mW_nd _ _ _ _ _ _) rfl rfl rfl rfl hl.1 rfl (Nat.le_of_ble_eq_true rfl) dX13_joined_112 ⟨Nat.le_of_ble_eq_true rfl, Nat.le_of_ble_eq_true rfl⟩) hP hD hS hA (fun u9 ce9 q9 H locs hx9 hP hD hS hc9 hv9 hf9 => ?_) (fun u39 H locs hw38 hP hD hS => ?_)
          · exact vx_out (fun x h9 => (hnt x h9).elim) hlocks hc9 hv9 hf9 (fun t9 ht9 hv8 => ⟨u9, (FG.tr (FG.f (FG.f (FG.a (FG.f (FG.tr (FG.tr (FG.tr (FG.rf _) (FG.up fw (by decide) (by decide))) (FG.up fr14 (by decide) (by decide))) (FG.up fr17 (by decide) (by decide))) ((u18.1 0 47) + (1 : Int32)) (by decide)) ((u18.1 0 12).toNatClampNeg) r29 (by decide) (by decide)) ((u18.1 0 12) + (1 : Int32)) (by decide)) ((u18.1 0 32) + (1 : Int32)) (by decide)) hx9), ⟨rfl, by rw [ht9]; exact hP, hD⟩, hS.F ht9⟩) hS.2.2 (by omega) (by omega)
          obtain ⟨fr38, pt38, pb38, pw38, po38, pf38, pk38, pp38, ph38, kc38, ko38, kg38, n3538⟩ := hw38
          have q38_2 : (u39.1 0 2).toInt = (u18.1 0 2).toInt := congrArg Int32.toInt ((fr38.2.1 2 (by decide)).trans (show (wA (wA (wA (wA u18 0 47 ((u18.1 0 47) + (1 : Int32))) 11 ((u18.1 0 12).toNatClampNeg) r29) 0 12 ((u18.1 0 12) + (1 : Int32))) 0 32 ((u18.1 0 32) + (1 : Int32))).1 0 2 = (u18.1 0 2) by rfl))
          have q38_4 : (u39.1 0 4).toInt = (u18.1 0 4).toInt := congrArg Int32.toInt ((fr38.2.1 4 (by decide)).trans (show (wA (wA (wA (wA u18 0 47 ((u18.1 0 47) + (1 : Int32))) 11 ((u18.1 0 12).toNatClampNeg) r29) 0 12 ((u18.1 0 12) + (1 : Int32))) 0 32 ((u18.1 0 32) + (1 : Int32))).1 0 4 = (u18.1 0 4) by rfl))
          have q38_5 : (u39.1 0 5).toInt = (u18.1 0 5).toInt := congrArg Int32.toInt ((fr38.2.1 5 (by decide)).trans (show (wA (wA (wA (wA u18 0 47 ((u18.1 0 47) + (1 : Int32))) 11 ((u18.1 0 12).toNatClampNeg) r29) 0 12 ((u18.1 0 12) + (1 : Int32))) 0 32 ((u18.1 0 32) + (1 : Int32))).1 0 5 = (u18.1 0 5) by rfl))
          have q38_22 : (u39.1 0 22).toInt = (u18.1 0 22).toInt := congrArg Int32.toInt ((fr38.2.1 22 (by decide)).trans (show (wA (wA (wA (wA u18 0 47 ((u18.1 0 47) + (1 : Int32))) 11 ((u18.1 0 12).toNatClampNeg) r29) 0 12 ((u18.1 0 12) + (1 : Int32))) 0 32 ((u18.1 0 32) + (1 : Int32))).1 0 22 = (u18.1 0 22) by rfl))
          have q38_27 : (u39.1 0 27).toInt = (u18.1 0 27).toInt := congrArg Int32.toInt ((fr38.2.1 27 (by decide)).trans (show (wA (wA (wA (wA u18 0 47 ((u18.1 0 47) + (1 : Int32))) 11 ((u18.1 0 12).toNatClampNeg) r29) 0 12 ((u18.1 0 12) + (1 : Int32))) 0 32 ((u18.1 0 32) + (1 : Int32))).1 0 27 = (u18.1 0 27) by rfl))
          have q38_28 : (u39.1 0 28).toInt = (u18.1 0 28).toInt := congrArg Int32.toInt ((fr38.2.1 28 (by decide)).trans (show (wA (wA (wA (wA u18 0 47 ((u18.1 0 47) + (1 : Int32))) 11 ((u18.1 0 12).toNatClampNeg) r29) 0 12 ((u18.1 0 12) + (1 : Int32))) 0 32 ((u18.1 0 32) + (1 : Int32))).1 0 28 = (u18.1 0 28) by rfl))
          have q38_30 : (u39.1 0 30).toInt = (u18.1 0 30).toInt := congrArg Int32.toInt ((fr38.2.1 30 (by decide)).trans (show (wA (wA (wA (wA u18 0 47 ((u18.1 0 47) + (1 : Int32))) 11 ((u18.1 0 12).toNatClampNeg) r29) 0 12 ((u18.1 0 12) + (1 : Int32))) 0 32 ((u18.1 0 32) + (1 : Int32))).1 0 30 = (u18.1 0 30) by rfl))
          have q38_31 : (u39.1 0 31).toInt = (u18.1 0 31).toInt := congrArg Int32.toInt ((fr38.2.1 31 (by decide)).trans (show (wA (wA (wA (wA u18 0 47 ((u18.1 0 47) + (1 : Int32))) 11 ((u18.1 0 12).toNatClampNeg) r29) 0 12 ((u18.1 0 12) + (1 : Int32))) 0 32 ((u18.1 0 32) + (1 : Int32))).1 0 31 = (u18.1 0 31) by rfl))
          have q38_34 : (u39.1 0 34).toInt = (u18.1 0 34).toInt := congrArg Int32.toInt ((fr38.2.1 34 (by decide)).trans (show (wA (wA (wA (wA u18 0 47 ((u18.1 0 47) + (1 : Int32))) 11 ((u18.1 0 12).toNatClampNeg) r29) 0 12 ((u18.1 0 12) + (1 : Int32))) 0 32 ((u18.1 0 32) + (1 : Int32))).1 0 34 = (u18.1 0 34) by rfl))
          have q38_52 : (u39.1 0 52).toInt = (u18.1 0 52).toInt := congrArg Int32.toInt ((fr38.2.1 52 (by decide)).trans (show (wA (wA (wA (wA u18 0 47 ((u18.1 0 47) + (1 : Int32))) 11 ((u18.1 0 12).toNatClampNeg) r29) 0 12 ((u18.1 0 12) + (1 : Int32))) 0 32 ((u18.1 0 32) + (1 : Int32))).1 0 52 = (u18.1 0 52) by rfl))
          have pt38 : ((u18.1 0 47) + (1 : Int32)).toInt + 0 ≤ (u39.1 0 47).toInt ∧ (u39.1 0 47).toInt ≤ 1500 := pt38
          have pb38 : 0 ≠ 0 ∨ (((u18.1 0 47) + (1 : Int32)).toInt + 1 ≤ (u39.1 0 47).toInt ∧ (u18.1 0 49).toInt ≠ ((u18.1 0 47) + (1 : Int32)).toInt) := pb38
          have pw38 : ((u18.1 0 12) + (1 : Int32)).toInt ≤ (u39.1 0 12).toInt ∧ (u39.1 0 12).toInt - 15 * (u39.1 0 47).toInt ≤ ((u18.1 0 12) + (1 : Int32)).toInt - 15 * ((u18.1 0 47) + (1 : Int32)).toInt := pw38
          have po38 : (u18.1 0 15).toInt ≤ (u39.1 0 15).toInt ∧ (u39.1 0 15).toInt - 10 * (u39.1 0 47).toInt ≤ (u18.1 0 15).toInt - 10 * ((u18.1 0 47) + (1 : Int32)).toInt := po38
          have pf38 : (u18.1 0 43).toInt ≤ (u39.1 0 43).toInt ∧ (u39.1 0 43).toInt - 15 * (u39.1 0 47).toInt ≤ (u18.1 0 43).toInt - 15 * ((u18.1 0 47) + (1 : Int32)).toInt := pf38
          have pk38 : (u18.1 0 39).toInt ≤ (u39.1 0 39).toInt ∧ (u39.1 0 39).toInt - 1 * (u39.1 0 47).toInt ≤ (u18.1 0 39).toInt - 1 * ((u18.1 0 47) + (1 : Int32)).toInt := pk38
          have pp38 : (u39.1 0 32).toInt = ((u18.1 0 32) + (1 : Int32)).toInt ∧ (u39.1 0 48).toInt = (u18.1 0 48).toInt := pp38
          have ph38 : (u18.1 0 33).toInt ≤ (u39.1 0 33).toInt ∧ (u39.1 0 33).toInt ≤ 500 := ph38
          have kc38 : ∀ j : Nat, (j : Int) < ((u18.1 0 12) + (1 : Int32)).toInt → (u39.1 11) j = (upd (u18.1 11) ((u18.1 0 12).toNatClampNeg) r29) j := kc38
          have ko38 : ∀ j : Nat, (j : Int) < (u18.1 0 15).toInt → (u39.1 13) j = (u18.1 13) j := ko38
          have kg38 : ∀ j : Nat, (j : Int) < (u18.1 0 15).toInt → (u39.1 14) j = (u18.1 14) j := kg38
          have n3538 : NI 35 u39 := n3538
          refine W.widen (k := 0) (n := 0) (by omega) (by omega) ?_
          refine lv_aload_n hx hb dX13_joined_115 rfl (lv_at hl 3 rfl) ?_
          refine lv_dup hx hb dX13_joined_116 rfl ?_
          refine va_get (D := (dC, dI)) (ci := 16) (fs := mF ad u39) (v := .int (u39.1 0 32)) (C := RX13) (T := TX13) (N := 124) hx hb ht itX13 hown hK hP 0 rfl rfl 32 (by decide) (ht _ tw_52) (fun _ h9 => h9) rfl dX13_joined_117 ?_
          refine lv_iconst (v := 1) hx hb dX13_joined_120 (by decide) ?_
          refine lv_isub hx hb dX13_joined_121 ?_
          have z41 : ((u39.1 0 32) - (1 : Int32)).toInt = (u39.1 0 32).toInt - 1 := sub_z rfl (show (1 : Int32).toInt = 1 by decide) (by omega) (by omega)
          refine va_put (D := (dC, dI)) (ci := 16) (fs := mF ad u39) (v := .int ((u39.1 0 32) - (1 : Int32))) (ty := .int) (C := RX13) (T := TX13) (N := 124) hx hb ht itX13 tyX13 tyX13_ok nmX13 hown hK hP hD hS 0 rfl rfl 32 (by decide) (ht _ tw_52) (fun _ h9 => h9) rfl (by decide +kernel) rfl rfl (Nat.le_of_ble_eq_true rfl) dX13_joined_122 (fun H locs hP hD hS => ?_)
          have hP := cP_ (mw_32 ad N cI cZ cJ u39 ((u39.1 0 32) - (1 : Int32))) hP
          have hD := cD_ (mw_32 ad N cI cZ cJ u39 ((u39.1 0 32) - (1 : Int32))) hD
          refine lv_aload_n hx hb dX13_joined_125 rfl (lv_at hl 3 rfl) ?_
          refine lv_iconst (v := 5) hx hb dX13_joined_126 (by decide) ?_
          refine lv_iload hx hb dX13_joined_127 (lv_at hl 0 rfl) ?_
          refine cu_s (mW_nd _ _ _ _ _ _) (rn_S (n := 1) (As := [.int r16]) (rest := [.int 5, .ref (ad 0)]) hx hb hml hown ht hKK hFx hP hD hS hA (c_m_slotAt l dC dI cI cB cZ cJ cR tb H.size r16 ) tw_74 tw_75 (by decide +kernel) rfl rfl ⟨by show 0 + 1 ≤ 40 * n + 10 + 2 * kk; omega, by show 8 + (1 + 11) + 0 ≤ 28 * (40 * n + 10 + 2 * kk); omega⟩ [] rfl rfl rfl hl.1 rfl (Nat.le_of_ble_eq_true rfl) dX13_joined_129 ⟨Nat.le_of_ble_eq_true rfl, Nat.le_of_ble_eq_true rfl⟩) hP hD hS hA (fun r44 H locs hw42 hP hD hS => ?_)
          refine W.widen (k := 0) (n := 0) (by omega) (by omega) ?_
          refine lv_bipush (v := 8) hx hb dX13_joined_132 (by decide) ?_
          refine cu_s (mW_nd _ _ _ _ _ _) (rn_S (n := 3) (As := [.int 5, .int r44, .int 8]) (rest := [.ref (ad 0)]) hx hb hml hown ht hKK hFx hP hD hS hA (c_m_lw l dC dI cI cB cZ cJ cR tb H.size (5 : Int32) r44 (8 : Int32) ) tw_71 tw_72 (by decide +kernel) rfl rfl ⟨by show 1 + 1 ≤ 40 * n + 10 + 2 * kk; omega, by show 8 + (3 + 11) + 24 ≤ 28 * (40 * n + 10 + 2 * kk); omega⟩ [] rfl rfl rfl hl.1 rfl (Nat.le_of_ble_eq_true rfl) dX13_joined_134 ⟨Nat.le_of_ble_eq_true rfl, Nat.le_of_ble_eq_true rfl⟩) hP hD hS hA (fun r47 H locs hw45 hP hD hS => ?_)
          refine W.widen (k := 0) (n := 0) (by omega) (by omega) ?_
          refine cu_i (rn_V (n := 1) (As := [.int r47]) (rest := []) hx hb hml hown ht hKK hFx hP hD hS hA (c_m_emit l dC dI cI cB cZ cJ cR tb H.size ad N (wA u39 0 32 ((u39.1 0 32) - (1 : Int32))) r47 (show 0 ≤ (u39.1 0 12).toInt ∧ (u39.1 0 12).toInt < 24000 by omega)) tw_8 tw_9 (by decide +kernel) rfl rfl ⟨by show 0 + 1 ≤ 40 * n + 10 + 2 * kk; omega, by show 8 + (2 + 11) + 0 ≤ 28 * (40 * n + 10 + 2 * kk); omega⟩ (List.range (mW ad N cI cZ cJ (wA u39 0 32 ((u39.1 0 32) - (1 : Int32)))).length) (rg_map _) (mW_nd _ _ _ _ _ _) rfl rfl rfl rfl hl.1 rfl (Nat.le_of_ble_eq_true rfl) dX13_joined_137 ⟨Nat.le_of_ble_eq_true rfl, Nat.le_of_ble_eq_true rfl⟩) hP hD hS hA (fun r50 u49 H locs hw48 hP hD hS => ?_)
          obtain ⟨rfl, rfl⟩ := hw48
          have z51 : ((u39.1 0 12) + (1 : Int32)).toInt = (u39.1 0 12).toInt + 1 := add_z rfl (show (1 : Int32).toInt = 1 by decide) (by omega) (by omega)
          have hP : va_P (dC, dI) vwCl (mW ad N cI cZ cJ (wA (wA (wA u39 0 32 ((u39.1 0 32) - (1 : Int32))) 11 ((u39.1 0 12).toNatClampNeg) r47) 0 12 ((u39.1 0 12) + (1 : Int32)))) H := hP
          have hD : va_D A (mW ad N cI cZ cJ (wA (wA (wA u39 0 32 ((u39.1 0 32) - (1 : Int32))) 11 ((u39.1 0 12).toNatClampNeg) r47) 0 12 ((u39.1 0 12) + (1 : Int32)))) := hD
          refine tp_i (y := (u39.1 0 12)) (rfl) ?_
          refine W.widen (k := 0) (n := 0) (by omega) (by omega) ?_
          refine lv_pop hx hb dX13_joined_140 rfl ?_
          refine lv_aload_n hx hb dX13_joined_141 rfl (lv_at hl 3 rfl) ?_
          refine lv_iload hx hb dX13_joined_142 (lv_at hl 1 rfl) ?_
          refine cu_v (rn_V (n := 1) (As := [.int ((w.2 (w.1 0 47).toNatClampNeg).toInt32)]) (rest := []) hx hb hml hown ht hKK hFx hP hD hS hA (c_m_operate l dC dI cI cB cZ cJ cR tb H.size ad N (wA (wA (wA u39 0 32 ((u39.1 0 32) - (1 : Int32))) 11 ((u39.1 0 12).toNatClampNeg) r47) 0 12 ((u39.1 0 12) + (1 : Int32))) ((w.2 (w.1 0 47).toNatClampNeg).toInt32) (show 0 ≤ ((u39.1 0 12) + (1 : Int32)).toInt ∧ ((u39.1 0 12) + (1 : Int32)).toInt ≤ 23980 by omega) (show 0 ≤ (u39.1 0 15).toInt ∧ (u39.1 0 15).toInt ≤ 15980 by omega) (show 0 ≤ (u39.1 0 43).toInt ∧ (u39.1 0 43).toInt ≤ 23980 by omega)) tw_94 tw_95 (by decide +kernel) rfl rfl ⟨by show 2 + 1 ≤ 40 * n + 10 + 2 * kk; omega, by show 8 + (2 + 11) + 46 ≤ 28 * (40 * n + 10 + 2 * kk); omega⟩ (List.range (mW ad N cI cZ cJ (wA (wA (wA u39 0 32 ((u39.1 0 32) - (1 : Int32))) 11 ((u39.1 0 12).toNatClampNeg) r47) 0 12 ((u39.1 0 12) + (1 : Int32)))).length) (rg_map _) (mW_nd _ _ _ _ _ _) rfl rfl rfl rfl hl.1 rfl (Nat.le_of_ble_eq_true rfl) dX13_joined_144 ⟨Nat.le_of_ble_eq_true rfl, Nat.le_of_ble_eq_true rfl⟩) hP hD hS hA (fun u53 H locs hw52 hP hD hS => ?_)
          obtain ⟨fr52, pw52, po52, pf52, kc52, ko52, kg52⟩ := hw52
          have q52_2 : (u53.1 0 2).toInt = (u39.1 0 2).toInt := congrArg Int32.toInt ((fr52.2.1 2 (by decide)).trans (show (wA (wA (wA u39 0 32 ((u39.1 0 32) - (1 : Int32))) 11 ((u39.1 0 12).toNatClampNeg) r47) 0 12 ((u39.1 0 12) + (1 : Int32))).1 0 2 = (u39.1 0 2) by rfl))
          have q52_4 : (u53.1 0 4).toInt = (u39.1 0 4).toInt := congrArg Int32.toInt ((fr52.2.1 4 (by decide)).trans (show (wA (wA (wA u39 0 32 ((u39.1 0 32) - (1 : Int32))) 11 ((u39.1 0 12).toNatClampNeg) r47) 0 12 ((u39.1 0 12) + (1 : Int32))).1 0 4 = (u39.1 0 4) by rfl))
          have q52_5 : (u53.1 0 5).toInt = (u39.1 0 5).toInt := congrArg Int32.toInt ((fr52.2.1 5 (by decide)).trans (show (wA (wA (wA u39 0 32 ((u39.1 0 32) - (1 : Int32))) 11 ((u39.1 0 12).toNatClampNeg) r47) 0 12 ((u39.1 0 12) + (1 : Int32))).1 0 5 = (u39.1 0 5) by rfl))
          have q52_22 : (u53.1 0 22).toInt = (u39.1 0 22).toInt := congrArg Int32.toInt ((fr52.2.1 22 (by decide)).trans (show (wA (wA (wA u39 0 32 ((u39.1 0 32) - (1 : Int32))) 11 ((u39.1 0 12).toNatClampNeg) r47) 0 12 ((u39.1 0 12) + (1 : Int32))).1 0 22 = (u39.1 0 22) by rfl))
          have q52_27 : (u53.1 0 27).toInt = (u39.1 0 27).toInt := congrArg Int32.toInt ((fr52.2.1 27 (by decide)).trans (show (wA (wA (wA u39 0 32 ((u39.1 0 32) - (1 : Int32))) 11 ((u39.1 0 12).toNatClampNeg) r47) 0 12 ((u39.1 0 12) + (1 : Int32))).1 0 27 = (u39.1 0 27) by rfl))
          have q52_28 : (u53.1 0 28).toInt = (u39.1 0 28).toInt := congrArg Int32.toInt ((fr52.2.1 28 (by decide)).trans (show (wA (wA (wA u39 0 32 ((u39.1 0 32) - (1 : Int32))) 11 ((u39.1 0 12).toNatClampNeg) r47) 0 12 ((u39.1 0 12) + (1 : Int32))).1 0 28 = (u39.1 0 28) by rfl))
          have q52_30 : (u53.1 0 30).toInt = (u39.1 0 30).toInt := congrArg Int32.toInt ((fr52.2.1 30 (by decide)).trans (show (wA (wA (wA u39 0 32 ((u39.1 0 32) - (1 : Int32))) 11 ((u39.1 0 12).toNatClampNeg) r47) 0 12 ((u39.1 0 12) + (1 : Int32))).1 0 30 = (u39.1 0 30) by rfl))
          have q52_31 : (u53.1 0 31).toInt = (u39.1 0 31).toInt := congrArg Int32.toInt ((fr52.2.1 31 (by decide)).trans (show (wA (wA (wA u39 0 32 ((u39.1 0 32) - (1 : Int32))) 11 ((u39.1 0 12).toNatClampNeg) r47) 0 12 ((u39.1 0 12) + (1 : Int32))).1 0 31 = (u39.1 0 31) by rfl))
          have q52_32 : (u53.1 0 32).toInt = ((u39.1 0 32) - (1 : Int32)).toInt := congrArg Int32.toInt ((fr52.2.1 32 (by decide)).trans (show (wA (wA (wA u39 0 32 ((u39.1 0 32) - (1 : Int32))) 11 ((u39.1 0 12).toNatClampNeg) r47) 0 12 ((u39.1 0 12) + (1 : Int32))).1 0 32 = ((u39.1 0 32) - (1 : Int32)) by rfl))
          have q52_33 : (u53.1 0 33).toInt = (u39.1 0 33).toInt := congrArg Int32.toInt ((fr52.2.1 33 (by decide)).trans (show (wA (wA (wA u39 0 32 ((u39.1 0 32) - (1 : Int32))) 11 ((u39.1 0 12).toNatClampNeg) r47) 0 12 ((u39.1 0 12) + (1 : Int32))).1 0 33 = (u39.1 0 33) by rfl))
          have q52_34 : (u53.1 0 34).toInt = (u39.1 0 34).toInt := congrArg Int32.toInt ((fr52.2.1 34 (by decide)).trans (show (wA (wA (wA u39 0 32 ((u39.1 0 32) - (1 : Int32))) 11 ((u39.1 0 12).toNatClampNeg) r47) 0 12 ((u39.1 0 12) + (1 : Int32))).1 0 34 = (u39.1 0 34) by rfl))
          have q52_39 : (u53.1 0 39).toInt = (u39.1 0 39).toInt := congrArg Int32.toInt ((fr52.2.1 39 (by decide)).trans (show (wA (wA (wA u39 0 32 ((u39.1 0 32) - (1 : Int32))) 11 ((u39.1 0 12).toNatClampNeg) r47) 0 12 ((u39.1 0 12) + (1 : Int32))).1 0 39 = (u39.1 0 39) by rfl))
          have q52_47 : (u53.1 0 47).toInt = (u39.1 0 47).toInt := congrArg Int32.toInt ((fr52.2.1 47 (by decide)).trans (show (wA (wA (wA u39 0 32 ((u39.1 0 32) - (1 : Int32))) 11 ((u39.1 0 12).toNatClampNeg) r47) 0 12 ((u39.1 0 12) + (1 : Int32))).1 0 47 = (u39.1 0 47) by rfl))
          have q52_48 : (u53.1 0 48).toInt = (u39.1 0 48).toInt := congrArg Int32.toInt ((fr52.2.1 48 (by decide)).trans (show (wA (wA (wA u39 0 32 ((u39.1 0 32) - (1 : Int32))) 11 ((u39.1 0 12).toNatClampNeg) r47) 0 12 ((u39.1 0 12) + (1 : Int32))).1 0 48 = (u39.1 0 48) by rfl))
          have q52_49 : (u53.1 0 49).toInt = (u39.1 0 49).toInt := congrArg Int32.toInt ((fr52.2.1 49 (by decide)).trans (show (wA (wA (wA u39 0 32 ((u39.1 0 32) - (1 : Int32))) 11 ((u39.1 0 12).toNatClampNeg) r47) 0 12 ((u39.1 0 12) + (1 : Int32))).1 0 49 = (u39.1 0 49) by rfl))
          have q52_52 : (u53.1 0 52).toInt = (u39.1 0 52).toInt := congrArg Int32.toInt ((fr52.2.1 52 (by decide)).trans (show (wA (wA (wA u39 0 32 ((u39.1 0 32) - (1 : Int32))) 11 ((u39.1 0 12).toNatClampNeg) r47) 0 12 ((u39.1 0 12) + (1 : Int32))).1 0 52 = (u39.1 0 52) by rfl))
          have pw52 : ((u39.1 0 12) + (1 : Int32)).toInt ≤ (u53.1 0 12).toInt ∧ (u53.1 0 12).toInt ≤ ((u39.1 0 12) + (1 : Int32)).toInt + 3 := pw52
          have po52 : (u53.1 0 15).toInt = (u39.1 0 15).toInt + 1 := po52
          have pf52 : (u39.1 0 43).toInt ≤ (u53.1 0 43).toInt ∧ (u53.1 0 43).toInt ≤ (u39.1 0 43).toInt + 1 := pf52
          have kc52 : ∀ j : Nat, (j : Int) < ((u39.1 0 12) + (1 : Int32)).toInt → (u53.1 11) j = (upd (u39.1 11) ((u39.1 0 12).toNatClampNeg) r47) j := kc52
          have ko52 : ∀ j : Nat, (j : Int) < (u39.1 0 15).toInt → (u53.1 13) j = (u39.1 13) j := ko52
          have kg52 : ∀ j : Nat, (j : Int) < (u39.1 0 15).toInt → (u53.1 14) j = (u39.1 14) j := kg52
          refine W.widen (k := 0) (n := 0) (by omega) (by omega) ?_
          refine lv_aload_n hx hb dX13_joined_147 rfl (lv_at hl 3 rfl) ?_
          refine cu_i (rn_V (n := 0) (As := []) (rest := []) hx hb hml hown ht hKK hFx hP hD hS hA (c_m_strength l dC dI cI cB cZ cJ cR tb H.size ad N u53  (show 0 ≤ (u53.1 0 47).toInt ∧ (u53.1 0 47).toInt ≤ 1500 by omega)) tw_128 tw_129 (by decide +kernel) rfl rfl ⟨by show 0 + 1 ≤ 40 * n + 10 + 2 * kk; omega, by show 8 + (1 + 11) + 0 ≤ 28 * (40 * n + 10 + 2 * kk); omega⟩ (List.range (mW ad N cI cZ cJ u53).length) (rg_map _) (mW_nd _ _ _ _ _ _) rfl rfl rfl rfl hl.1 rfl (Nat.le_of_ble_eq_true rfl) dX13_joined_148 ⟨Nat.le_of_ble_eq_true rfl, Nat.le_of_ble_eq_true rfl⟩) hP hD hS hA (fun r57 u56 H locs hw55 hP hD hS => ?_)
          obtain ⟨rfl, a55, b55⟩ := hw55
          have a55 : 0 ≤ r57.toInt := a55
          have b55 : r57.toInt ≤ 10 := b55
          refine W.widen (k := 0) (n := 0) (by omega) (by omega) ?_
          refine lv_istore_n (lv' := [(3, .int r57), (5, .int r16), (4, .int ((w.2 (w.1 0 47).toNatClampNeg).toInt32)), (0, .ref (ad 0)), (1, .int pa), (2, .int pb)]) hx hb dX13_joined_151 rfl hl (by decide) rfl (fun ls hl => ?_)
          refine lv_goto (tgt := 13) hx hb dX13_joined_152 (by decide) ?_
          exact ih13 (r57, u53) _ _ _ (by show (1500 - (u53.1 0 47).toInt).toNat < (1500 - (w.1 0 47).toInt).toNat; omega) ⟨(show FG [12, 15, 32, 33, 39, 43, 44, 45, 47, 48, 49, 50, 51] [0, 11, 13, 14, 35, 36, 37, 38, 40, 41, 42] v u53 from (FG.tr (FG.f (FG.a (FG.f (FG.tr (FG.f (FG.f (FG.a (FG.f (FG.tr (FG.tr (FG.tr (FG.rf _) (FG.up fw (by decide) (by decide))) (FG.up fr14 (by decide) (by decide))) (FG.up fr17 (by decide) (by decide))) ((u18.1 0 47) + (1 : Int32)) (by decide)) ((u18.1 0 12).toNatClampNeg) r29 (by decide) (by decide)) ((u18.1 0 12) + (1 : Int32)) (by decide)) ((u18.1 0 32) + (1 : Int32)) (by decide)) (FG.up fr38 (by decide) (by decide))) ((u39.1 0 32) - (1 : Int32)) (by decide)) ((u39.1 0 12).toNatClampNeg) r47 (by decide) (by decide)) ((u39.1 0 12) + (1 : Int32)) (by decide)) (FG.up fr52 (by decide) (by decide)))), (show 0 ≤ r57.toInt ∧ r57.toInt ≤ 10 by omega), (show (v.1 0 47).toInt + 0 ≤ (u53.1 0 47).toInt ∧ (u53.1 0 47).toInt ≤ 1500 by omega), (show pb.toInt ≠ 0 ∨ ((v.1 0 47).toInt + 1 ≤ (u53.1 0 47).toInt ∧ (v.1 0 49).toInt ≠ (v.1 0 47).toInt) by omega), (show (v.1 0 12).toInt ≤ (u53.1 0 12).toInt ∧ (u53.1 0 12).toInt - 15 * (u53.1 0 47).toInt ≤ (v.1 0 12).toInt - 15 * (v.1 0 47).toInt by omega), (show (v.1 0 15).toInt ≤ (u53.1 0 15).toInt ∧ (u53.1 0 15).toInt - 10 * (u53.1 0 47).toInt ≤ (v.1 0 15).toInt - 10 * (v.1 0 47).toInt by omega), (show (v.1 0 43).toInt ≤ (u53.1 0 43).toInt ∧ (u53.1 0 43).toInt - 15 * (u53.1 0 47).toInt ≤ (v.1 0 43).toInt - 15 * (v.1 0 47).toInt by omega), (show (v.1 0 39).toInt ≤ (u53.1 0 39).toInt ∧ (u53.1 0 39).toInt - 1 * (u53.1 0 47).toInt ≤ (v.1 0 39).toInt - 1 * (v.1 0 47).toInt by omega), (show (u53.1 0 32).toInt = (v.1 0 32).toInt ∧ (u53.1 0 48).toInt = (v.1 0 48).toInt by omega), (show (v.1 0 33).toInt ≤ (u53.1 0 33).toInt ∧ (u53.1 0 33).toInt ≤ 500 by omega), (show ∀ j : Nat, (j : Int) < (v.1 0 12).toInt → (u53.1 11) j = (v.1 11) j from (fun (j9 : Nat) hj9 => (Eq.trans (kc52 j9 (by omega)) (Eq.trans (pk_un (by have := cl_z (a := (u39.1 0 12).toInt) rfl (by omega); omega)) (Eq.trans (kc38 j9 (by omega)) (Eq.trans (pk_un (by have := cl_z (a := (u18.1 0 12).toInt) rfl (by omega); omega)) (Eq.trans (congrFun (fr17.2.2 11 (by decide)) j9) (Eq.trans (congrFun (fr14.2.2 11 (by decide)) j9) (kc j9 (by omega)))))))))), (show ∀ j : Nat, (j : Int) < (v.1 0 15).toInt → (u53.1 13) j = (v.1 13) j from (fun (j9 : Nat) hj9 => (Eq.trans (ko52 j9 (by omega)) (Eq.trans (ko38 j9 (by omega)) (Eq.trans (congrFun (fr17.2.2 13 (by decide)) j9) (Eq.trans (congrFun (fr14.2.2 13 (by decide)) j9) (ko j9 (by omega)))))))), (show ∀ j : Nat, (j : Int) < (v.1 0 15).toInt → (u53.1 14) j = (v.1 14) j from (fun (j9 : Nat) hj9 => (Eq.trans (kg52 j9 (by omega)) (Eq.trans (kg38 j9 (by omega)) (Eq.trans (congrFun (fr17.2.2 14 (by decide)) j9) (Eq.trans (congrFun (fr14.2.2 14 (by decide)) j9) (kg j9 (by omega)))))))), (show NI 35 u53 from (show NI 35 u53 from NI.fr (fl := [12, 15, 43]) (al := [0, 11, 13, 14, 40, 41, 42]) fr52 (by decide) n3538)), hP, hD, hS, lv_sub hl [0, 3, 4, 5] rfl⟩
        · have z58 : by9.toInt < 3 := nle_z (show (3 : Int32).toInt = 3 by decide) rfl h12
          refine lv_aload_n hx hb dX13_joined_39 rfl (lv_at hl 2 rfl) ?_
          refine cux_v (rx_V (n := 0) (As := []) (rest := []) hx hb hml hown ht hKK hFx hP hD hS hA (c_m_take l dC dI cI cB cZ cJ cR tb H.size ad N w  (show 0 ≤ (w.1 0 47).toInt ∧ (w.1 0 47).toInt ≤ 1500 by omega)) tw_32 tw_33 (by decide +kernel) rfl rfl ⟨by show 1 + 1 ≤ 40 * n + 10 + 2 * kk; omega, by show 8 + (1 + 11) + 22 ≤ 28 * (40 * n + 10 + 2 * kk); omega⟩ (List.range (mW ad N cI cZ cJ w).length) (rg_map _) (mW_nd _ _ _ _ _ _) rfl rfl rfl rfl hl.1 rfl (Nat.le_of_ble_eq_true rfl) dX13_joined_40 ⟨Nat.le_of_ble_eq_true rfl, Nat.le_of_ble_eq_true rfl⟩) hP hD hS hA (fun u9 ce9 q9 H locs hx9 hP hD hS hc9 hv9 hf9 => ?_) (fun u60 H locs hw59 hP hD hS => ?_)
          · exact vx_out (fun x h9 => (hnt x h9).elim) hlocks hc9 hv9 hf9 (fun t9 ht9 hv8 => ⟨u9, (FG.tr (FG.tr (FG.rf _) (FG.up fw (by decide) (by decide))) hx9), ⟨rfl, by rw [ht9]; exact hP, hD⟩, hS.F ht9⟩) hS.2.2 (by omega) (by omega)
          obtain ⟨rfl, a59, b59⟩ := hw59
          have z62 : ((w.1 0 47) + (1 : Int32)).toInt = (w.1 0 47).toInt + 1 := add_z rfl (show (1 : Int32).toInt = 1 by decide) (by omega) (by omega)
          have hP : va_P (dC, dI) vwCl (mW ad N cI cZ cJ (wA w 0 47 ((w.1 0 47) + (1 : Int32)))) H := hP
          have hD : va_D A (mW ad N cI cZ cJ (wA w 0 47 ((w.1 0 47) + (1 : Int32)))) := hD
          have a59 : (w.1 0 47).toInt < 1500 := a59
          have b59 : (w.1 0 49).toInt ≠ (w.1 0 47).toInt := b59
          refine W.widen (k := 0) (n := 0) (by omega) (by omega) ?_
          refine lv_aload_n hx hb dX13_joined_43 rfl (lv_at hl 2 rfl) ?_
          refine lv_iload_n hx hb dX13_joined_44 rfl (lv_at hl 1 rfl) ?_
          refine lv_iconst (v := 1) hx hb dX13_joined_45 (by decide) ?_
          refine lv_icmp_ne (tgt := 53) hx hb dX13_joined_46 (by decide) (fun h63 => ?_) (fun h63 => ?_)
          · have z64 : by9.toInt ≠ 1 := ne_z rfl (show (1 : Int32).toInt = 1 by decide) h63
            refine lv_iconst (v := 0) hx hb dX13_joined_53 (by decide) ?_
            refine lv_iload_n hx hb dX13_joined_54 rfl (lv_at hl 1 rfl) ?_
            refine lv_iconst (v := 1) hx hb dX13_joined_55 (by decide) ?_
            refine lv_iadd hx hb dX13_joined_56 ?_
            have z65 : (by9 + (1 : Int32)).toInt = by9.toInt + 1 := add_z rfl (show (1 : Int32).toInt = 1 by decide) (by omega) (by omega)
            obtain ⟨kk66, hk67⟩ : ∃ m, kk = m + 1 := ⟨kk - 1, by omega⟩
            refine cux_v (rx_V (n := 2) (As := [.int 0, .int (by9 + (1 : Int32))]) (rest := []) hx hb hml hown ht hKK hFx hP hD hS hA (c_m_both l n kk66 (ihJ kk66 hk67) dC dI cI cB cZ cJ cR tb H.size ad N (wA w 0 47 ((w.1 0 47) + (1 : Int32))) (0 : Int32) (by9 + (1 : Int32)) (show 40 ≤ (w.1 0 48).toInt + (n : Int) by omega) (show 0 ≤ ((w.1 0 47) + (1 : Int32)).toInt ∧ ((w.1 0 47) + (1 : Int32)).toInt ≤ 1500 by omega) (show 0 ≤ (w.1 0 48).toInt ∧ (w.1 0 48).toInt ≤ 40 by omega) (show 0 ≤ (w.1 0 30).toInt ∧ (w.1 0 30).toInt ≤ 500 by omega) (show 0 ≤ (w.1 0 33).toInt ∧ (w.1 0 33).toInt ≤ 500 by omega) (show 0 ≤ (w.1 0 32).toInt ∧ (w.1 0 30).toInt + (w.1 0 32).toInt ≤ 500 by omega) (show 0 ≤ (w.1 0 12).toInt ∧ (w.1 0 12).toInt ≤ 15 * ((w.1 0 47) + (1 : Int32)).toInt + -8 by omega) (show 0 ≤ (w.1 0 15).toInt ∧ (w.1 0 15).toInt ≤ 10 * ((w.1 0 47) + (1 : Int32)).toInt + -5 by omega) (show 0 ≤ (w.1 0 43).toInt ∧ (w.1 0 43).toInt ≤ 15 * ((w.1 0 47) + (1 : Int32)).toInt + 0 by omega) (show 0 ≤ (w.1 0 39).toInt ∧ (w.1 0 39).toInt ≤ 1 * ((w.1 0 47) + (1 : Int32)).toInt + 0 by omega) (show 0 ≤ (w.1 0 27).toInt ∧ (w.1 0 27).toInt ≤ 60 by omega) (FG.ti (fl := pfl) (al := pal) (FG.f (FG.tr (FG.rf _) (FG.up fw (by decide) (by decide))) ((w.1 0 47) + (1 : Int32)) (by decide)) (by decide) (by decide) hT) ((show NI 29 w from NI.fr (fl := [12, 15, 32, 33, 39, 43, 44, 45, 47, 48, 49, 50, 51]) (al := [0, 11, 13, 14, 35, 36, 37, 38, 40, 41, 42]) fw (by decide) n29)) ((show NI 23 w from NI.fr (fl := [12, 15, 32, 33, 39, 43, 44, 45, 47, 48, 49, 50, 51]) (al := [0, 11, 13, 14, 35, 36, 37, 38, 40, 41, 42]) fw (by decide) n23)) (n35) (show 1 ≤ (by9 + (1 : Int32)).toInt ∧ (by9 + (1 : Int32)).toInt ≤ 12 ∧ 11 ≤ (by9 + (1 : Int32)).toInt + (kk66 : Int) by omega)) tw_130 tw_131 (by decide +kernel) rfl rfl ⟨by show (40 * n + 11 + 2 * kk66) + 1 ≤ 40 * n + 10 + 2 * kk; omega, by show 8 + (5 + 11) + 28 * (40 * n + 11 + 2 * kk66) ≤ 28 * (40 * n + 10 + 2 * kk); omega⟩ (List.range (mW ad N cI cZ cJ (wA w 0 47 ((w.1 0 47) + (1 : Int32)))).length) (rg_map _) (mW_nd _ _ _ _ _ _) rfl rfl rfl rfl hl.1 rfl (Nat.le_of_ble_eq_true rfl) dX13_joined_57 ⟨Nat.le_of_ble_eq_true rfl, Nat.le_of_ble_eq_true rfl⟩) hP hD hS hA (fun u9 ce9 q9 H locs hx9 hP hD hS hc9 hv9 hf9 => ?_) (fun u69 H locs hw68 hP hD hS => ?_)
            · exact vx_out (fun x h9 => (hnt x h9).elim) hlocks hc9 hv9 hf9 (fun t9 ht9 hv8 => ⟨u9, (FG.tr (FG.f (FG.tr (FG.rf _) (FG.up fw (by decide) (by decide))) ((w.1 0 47) + (1 : Int32)) (by decide)) hx9), ⟨rfl, by rw [ht9]; exact hP, hD⟩, hS.F ht9⟩) hS.2.2 (by omega) (by omega)
            obtain ⟨fr68, pt68, pb68, pw68, po68, pf68, pk68, pp68, ph68, kc68, ko68, kg68, n3568⟩ := hw68
            have q68_2 : (u69.1 0 2).toInt = (w.1 0 2).toInt := congrArg Int32.toInt ((fr68.2.1 2 (by decide)).trans (show (wA w 0 47 ((w.1 0 47) + (1 : Int32))).1 0 2 = (w.1 0 2) by rfl))
            have q68_4 : (u69.1 0 4).toInt = (w.1 0 4).toInt := congrArg Int32.toInt ((fr68.2.1 4 (by decide)).trans (show (wA w 0 47 ((w.1 0 47) + (1 : Int32))).1 0 4 = (w.1 0 4) by rfl))
            have q68_5 : (u69.1 0 5).toInt = (w.1 0 5).toInt := congrArg Int32.toInt ((fr68.2.1 5 (by decide)).trans (show (wA w 0 47 ((w.1 0 47) + (1 : Int32))).1 0 5 = (w.1 0 5) by rfl))
            have q68_22 : (u69.1 0 22).toInt = (w.1 0 22).toInt := congrArg Int32.toInt ((fr68.2.1 22 (by decide)).trans (show (wA w 0 47 ((w.1 0 47) + (1 : Int32))).1 0 22 = (w.1 0 22) by rfl))
            have q68_27 : (u69.1 0 27).toInt = (w.1 0 27).toInt := congrArg Int32.toInt ((fr68.2.1 27 (by decide)).trans (show (wA w 0 47 ((w.1 0 47) + (1 : Int32))).1 0 27 = (w.1 0 27) by rfl))
            have q68_28 : (u69.1 0 28).toInt = (w.1 0 28).toInt := congrArg Int32.toInt ((fr68.2.1 28 (by decide)).trans (show (wA w 0 47 ((w.1 0 47) + (1 : Int32))).1 0 28 = (w.1 0 28) by rfl))
            have q68_30 : (u69.1 0 30).toInt = (w.1 0 30).toInt := congrArg Int32.toInt ((fr68.2.1 30 (by decide)).trans (show (wA w 0 47 ((w.1 0 47) + (1 : Int32))).1 0 30 = (w.1 0 30) by rfl))
            have q68_31 : (u69.1 0 31).toInt = (w.1 0 31).toInt := congrArg Int32.toInt ((fr68.2.1 31 (by decide)).trans (show (wA w 0 47 ((w.1 0 47) + (1 : Int32))).1 0 31 = (w.1 0 31) by rfl))
            have q68_34 : (u69.1 0 34).toInt = (w.1 0 34).toInt := congrArg Int32.toInt ((fr68.2.1 34 (by decide)).trans (show (wA w 0 47 ((w.1 0 47) + (1 : Int32))).1 0 34 = (w.1 0 34) by rfl))
            have q68_52 : (u69.1 0 52).toInt = (w.1 0 52).toInt := congrArg Int32.toInt ((fr68.2.1 52 (by decide)).trans (show (wA w 0 47 ((w.1 0 47) + (1 : Int32))).1 0 52 = (w.1 0 52) by rfl))
            have pt68 : ((w.1 0 47) + (1 : Int32)).toInt + 1 ≤ (u69.1 0 47).toInt ∧ (u69.1 0 47).toInt ≤ 1500 := pt68
            have pb68 : (w.1 0 49).toInt ≠ ((w.1 0 47) + (1 : Int32)).toInt := pb68
            have pw68 : (w.1 0 12).toInt ≤ (u69.1 0 12).toInt ∧ (u69.1 0 12).toInt - 15 * (u69.1 0 47).toInt ≤ (w.1 0 12).toInt - 15 * ((w.1 0 47) + (1 : Int32)).toInt + 5 := pw68
            have po68 : (w.1 0 15).toInt ≤ (u69.1 0 15).toInt ∧ (u69.1 0 15).toInt - 10 * (u69.1 0 47).toInt ≤ (w.1 0 15).toInt - 10 * ((w.1 0 47) + (1 : Int32)).toInt + 2 := po68
            have pf68 : (w.1 0 43).toInt ≤ (u69.1 0 43).toInt ∧ (u69.1 0 43).toInt - 15 * (u69.1 0 47).toInt ≤ (w.1 0 43).toInt - 15 * ((w.1 0 47) + (1 : Int32)).toInt := pf68
            have pk68 : (w.1 0 39).toInt ≤ (u69.1 0 39).toInt ∧ (u69.1 0 39).toInt - 1 * (u69.1 0 47).toInt ≤ (w.1 0 39).toInt - 1 * ((w.1 0 47) + (1 : Int32)).toInt := pk68
            have pp68 : (u69.1 0 32).toInt = (w.1 0 32).toInt ∧ (u69.1 0 48).toInt = (w.1 0 48).toInt := pp68
            have ph68 : (w.1 0 33).toInt ≤ (u69.1 0 33).toInt ∧ (u69.1 0 33).toInt ≤ 500 := ph68
            have kc68 : ∀ j : Nat, (j : Int) < (w.1 0 12).toInt → (u69.1 11) j = (w.1 11) j := kc68
            have ko68 : ∀ j : Nat, (j : Int) < (w.1 0 15).toInt → (u69.1 13) j = (w.1 13) j := ko68
            have kg68 : ∀ j : Nat, (j : Int) < (w.1 0 15).toInt → (u69.1 14) j = (w.1 14) j := kg68
            have n3568 : NI 35 u69 := n3568
            refine W.widen (k := 0) (n := 0) (by omega) (by omega) ?_
            refine lv_goto (tgt := 147) hx hb dX13_joined_60 (by decide) ?_
            refine lv_aload_n hx hb dX13_joined_147 rfl (lv_at hl 2 rfl) ?_
            refine cu_i (rn_V (n := 0) (As := []) (rest := []) hx hb hml hown ht hKK hFx hP hD hS hA (c_m_strength l dC dI cI cB cZ cJ cR tb H.size ad N u69  (show 0 ≤ (u69.1 0 47).toInt ∧ (u69.1 0 47).toInt ≤ 1500 by omega)) tw_128 tw_129 (by decide +kernel) rfl rfl ⟨by show 0 + 1 ≤ 40 * n + 10 + 2 * kk; omega, by show 8 + (1 + 11) + 0 ≤ 28 * (40 * n + 10 + 2 * kk); omega⟩ (List.range (mW ad N cI cZ cJ u69).length) (rg_map _) (mW_nd _ _ _ _ _ _) rfl rfl rfl rfl hl.1 rfl (Nat.le_of_ble_eq_true rfl) dX13_joined_148 ⟨Nat.le_of_ble_eq_true rfl, Nat.le_of_ble_eq_true rfl⟩) hP hD hS hA (fun r73 u72 H locs hw71 hP hD hS => ?_)
            obtain ⟨rfl, a71, b71⟩ := hw71
            have a71 : 0 ≤ r73.toInt := a71
            have b71 : r73.toInt ≤ 10 := b71
            refine W.widen (k := 0) (n := 0) (by omega) (by omega) ?_
            refine lv_istore_n (lv' := [(3, .int r73), (4, .int ((w.2 (w.1 0 47).toNatClampNeg).toInt32)), (0, .ref (ad 0)), (1, .int pa), (2, .int pb)]) hx hb dX13_joined_151 rfl hl (by decide) rfl (fun ls hl => ?_)
            refine lv_goto (tgt := 13) hx hb dX13_joined_152 (by decide) ?_
            exact ih13 (r73, u69) _ _ _ (by show (1500 - (u69.1 0 47).toInt).toNat < (1500 - (w.1 0 47).toInt).toNat; omega) ⟨(show FG [12, 15, 32, 33, 39, 43, 44, 45, 47, 48, 49, 50, 51] [0, 11, 13, 14, 35, 36, 37, 38, 40, 41, 42] v u69 from (FG.tr (FG.f (FG.tr (FG.rf _) (FG.up fw (by decide) (by decide))) ((w.1 0 47) + (1 : Int32)) (by decide)) (FG.up fr68 (by decide) (by decide)))), (show 0 ≤ r73.toInt ∧ r73.toInt ≤ 10 by omega), (show (v.1 0 47).toInt + 0 ≤ (u69.1 0 47).toInt ∧ (u69.1 0 47).toInt ≤ 1500 by omega), (show pb.toInt ≠ 0 ∨ ((v.1 0 47).toInt + 1 ≤ (u69.1 0 47).toInt ∧ (v.1 0 49).toInt ≠ (v.1 0 47).toInt) by omega), (show (v.1 0 12).toInt ≤ (u69.1 0 12).toInt ∧ (u69.1 0 12).toInt - 15 * (u69.1 0 47).toInt ≤ (v.1 0 12).toInt - 15 * (v.1 0 47).toInt by omega), (show (v.1 0 15).toInt ≤ (u69.1 0 15).toInt ∧ (u69.1 0 15).toInt - 10 * (u69.1 0 47).toInt ≤ (v.1 0 15).toInt - 10 * (v.1 0 47).toInt by omega), (show (v.1 0 43).toInt ≤ (u69.1 0 43).toInt ∧ (u69.1 0 43).toInt - 15 * (u69.1 0 47).toInt ≤ (v.1 0 43).toInt - 15 * (v.1 0 47).toInt by omega), (show (v.1 0 39).toInt ≤ (u69.1 0 39).toInt ∧ (u69.1 0 39).toInt - 1 * (u69.1 0 47).toInt ≤ (v.1 0 39).toInt - 1 * (v.1 0 47).toInt by omega), (show (u69.1 0 32).toInt = (v.1 0 32).toInt ∧ (u69.1 0 48).toInt = (v.1 0 48).toInt by omega), (show (v.1 0 33).toInt ≤ (u69.1 0 33).toInt ∧ (u69.1 0 33).toInt ≤ 500 by omega), (show ∀ j : Nat, (j : Int) < (v.1 0 12).toInt → (u69.1 11) j = (v.1 11) j from (fun (j9 : Nat) hj9 => (Eq.trans (kc68 j9 (by omega)) (kc j9 (by omega))))), (show ∀ j : Nat, (j : Int) < (v.1 0 15).toInt → (u69.1 13) j = (v.1 13) j from (fun (j9 : Nat) hj9 => (Eq.trans (ko68 j9 (by omega)) (ko j9 (by omega))))), (show ∀ j : Nat, (j : Int) < (v.1 0 15).toInt → (u69.1 14) j = (v.1 14) j from (fun (j9 : Nat) hj9 => (Eq.trans (kg68 j9 (by omega)) (kg j9 (by omega))))), (show NI 35 u69 from n3568), hP, hD, hS, lv_sub hl [0, 2, 3, 4] rfl⟩
          · have z74 : by9.toInt = 1 := eq_z rfl (show (1 : Int32).toInt = 1 by decide) h63
            refine lv_iconst (v := 1) hx hb dX13_joined_49 (by decide) ?_
            refine lv_goto (tgt := 54) hx hb dX13_joined_50 (by decide) ?_
            refine lv_iload_n hx hb dX13_joined_54 rfl (lv_at hl 1 rfl) ?_
            refine lv_iconst (v := 1) hx hb dX13_joined_55 (by decide) ?_
            refine lv_iadd hx hb dX13_joined_56 ?_
            have z75 : (by9 + (1 : Int32)).toInt = by9.toInt + 1 := add_z rfl (show (1 : Int32).toInt = 1 by decide) (by omega) (by omega)
            obtain ⟨kk76, hk77⟩ : ∃ m, kk = m + 1 := ⟨kk - 1, by omega⟩
            refine cux_v (rx_V (n := 2) (As := [.int 1, .int (by9 + (1 : Int32))]) (rest := []) hx hb hml hown ht hKK hFx hP hD hS hA (c_m_both l n kk76 (ihJ kk76 hk77) dC dI cI cB cZ cJ cR tb H.size ad N (wA w 0 47 ((w.1 0 47) + (1 : Int32))) (1 : Int32) (by9 + (1 : Int32)) (show 40 ≤ (w.1 0 48).toInt + (n : Int) by omega) (show 0 ≤ ((w.1 0 47) + (1 : Int32)).toInt ∧ ((w.1 0 47) + (1 : Int32)).toInt ≤ 1500 by omega) (show 0 ≤ (w.1 0 48).toInt ∧ (w.1 0 48).toInt ≤ 40 by omega) (show 0 ≤ (w.1 0 30).toInt ∧ (w.1 0 30).toInt ≤ 500 by omega) (show 0 ≤ (w.1 0 33).toInt ∧ (w.1 0 33).toInt ≤ 500 by omega) (show 0 ≤ (w.1 0 32).toInt ∧ (w.1 0 30).toInt + (w.1 0 32).toInt ≤ 500 by omega) (show 0 ≤ (w.1 0 12).toInt ∧ (w.1 0 12).toInt ≤ 15 * ((w.1 0 47) + (1 : Int32)).toInt + -8 by omega) (show 0 ≤ (w.1 0 15).toInt ∧ (w.1 0 15).toInt ≤ 10 * ((w.1 0 47) + (1 : Int32)).toInt + -5 by omega) (show 0 ≤ (w.1 0 43).toInt ∧ (w.1 0 43).toInt ≤ 15 * ((w.1 0 47) + (1 : Int32)).toInt + 0 by omega) (show 0 ≤ (w.1 0 39).toInt ∧ (w.1 0 39).toInt ≤ 1 * ((w.1 0 47) + (1 : Int32)).toInt + 0 by omega) (show 0 ≤ (w.1 0 27).toInt ∧ (w.1 0 27).toInt ≤ 60 by omega) (FG.ti (fl := pfl) (al := pal) (FG.f (FG.tr (FG.rf _) (FG.up fw (by decide) (by decide))) ((w.1 0 47) + (1 : Int32)) (by decide)) (by decide) (by decide) hT) ((show NI 29 w from NI.fr (fl := [12, 15, 32, 33, 39, 43, 44, 45, 47, 48, 49, 50, 51]) (al := [0, 11, 13, 14, 35, 36, 37, 38, 40, 41, 42]) fw (by decide) n29)) ((show NI 23 w from NI.fr (fl := [12, 15, 32, 33, 39, 43, 44, 45, 47, 48, 49, 50, 51]) (al := [0, 11, 13, 14, 35, 36, 37, 38, 40, 41, 42]) fw (by decide) n23)) (n35) (show 1 ≤ (by9 + (1 : Int32)).toInt ∧ (by9 + (1 : Int32)).toInt ≤ 12 ∧ 11 ≤ (by9 + (1 : Int32)).toInt + (kk76 : Int) by omega)) tw_130 tw_131 (by decide +kernel) rfl rfl ⟨by show (40 * n + 11 + 2 * kk76) + 1 ≤ 40 * n + 10 + 2 * kk; omega, by show 8 + (5 + 11) + 28 * (40 * n + 11 + 2 * kk76) ≤ 28 * (40 * n + 10 + 2 * kk); omega⟩ (List.range (mW ad N cI cZ cJ (wA w 0 47 ((w.1 0 47) + (1 : Int32)))).length) (rg_map _) (mW_nd _ _ _ _ _ _) rfl rfl rfl rfl hl.1 rfl (Nat.le_of_ble_eq_true rfl) dX13_joined_57 ⟨Nat.le_of_ble_eq_true rfl, Nat.le_of_ble_eq_true rfl⟩) hP hD hS hA (fun u9 ce9 q9 H locs hx9 hP hD hS hc9 hv9 hf9 => ?_) (fun u79 H locs hw78 hP hD hS => ?_)
            · exact vx_out (fun x h9 => (hnt x h9).elim) hlocks hc9 hv9 hf9 (fun t9 ht9 hv8 => ⟨u9, (FG.tr (FG.f (FG.tr (FG.rf _) (FG.up fw (by decide) (by decide))) ((w.1 0 47) + (1 : Int32)) (by decide)) hx9), ⟨rfl, by rw [ht9]; exact hP, hD⟩, hS.F ht9⟩) hS.2.2 (by omega) (by omega)
            obtain ⟨fr78, pt78, pb78, pw78, po78, pf78, pk78, pp78, ph78, kc78, ko78, kg78, n3578⟩ := hw78
            have q78_2 : (u79.1 0 2).toInt = (w.1 0 2).toInt := congrArg Int32.toInt ((fr78.2.1 2 (by decide)).trans (show (wA w 0 47 ((w.1 0 47) + (1 : Int32))).1 0 2 = (w.1 0 2) by rfl))
            have q78_4 : (u79.1 0 4).toInt = (w.1 0 4).toInt := congrArg Int32.toInt ((fr78.2.1 4 (by decide)).trans (show (wA w 0 47 ((w.1 0 47) + (1 : Int32))).1 0 4 = (w.1 0 4) by rfl))
            have q78_5 : (u79.1 0 5).toInt = (w.1 0 5).toInt := congrArg Int32.toInt ((fr78.2.1 5 (by decide)).trans (show (wA w 0 47 ((w.1 0 47) + (1 : Int32))).1 0 5 = (w.1 0 5) by rfl))
            have q78_22 : (u79.1 0 22).toInt = (w.1 0 22).toInt := congrArg Int32.toInt ((fr78.2.1 22 (by decide)).trans (show (wA w 0 47 ((w.1 0 47) + (1 : Int32))).1 0 22 = (w.1 0 22) by rfl))
            have q78_27 : (u79.1 0 27).toInt = (w.1 0 27).toInt := congrArg Int32.toInt ((fr78.2.1 27 (by decide)).trans (show (wA w 0 47 ((w.1 0 47) + (1 : Int32))).1 0 27 = (w.1 0 27) by rfl))
            have q78_28 : (u79.1 0 28).toInt = (w.1 0 28).toInt := congrArg Int32.toInt ((fr78.2.1 28 (by decide)).trans (show (wA w 0 47 ((w.1 0 47) + (1 : Int32))).1 0 28 = (w.1 0 28) by rfl))
            have q78_30 : (u79.1 0 30).toInt = (w.1 0 30).toInt := congrArg Int32.toInt ((fr78.2.1 30 (by decide)).trans (show (wA w 0 47 ((w.1 0 47) + (1 : Int32))).1 0 30 = (w.1 0 30) by rfl))
            have q78_31 : (u79.1 0 31).toInt = (w.1 0 31).toInt := congrArg Int32.toInt ((fr78.2.1 31 (by decide)).trans (show (wA w 0 47 ((w.1 0 47) + (1 : Int32))).1 0 31 = (w.1 0 31) by rfl))
            have q78_34 : (u79.1 0 34).toInt = (w.1 0 34).toInt := congrArg Int32.toInt ((fr78.2.1 34 (by decide)).trans (show (wA w 0 47 ((w.1 0 47) + (1 : Int32))).1 0 34 = (w.1 0 34) by rfl))
            have q78_52 : (u79.1 0 52).toInt = (w.1 0 52).toInt := congrArg Int32.toInt ((fr78.2.1 52 (by decide)).trans (show (wA w 0 47 ((w.1 0 47) + (1 : Int32))).1 0 52 = (w.1 0 52) by rfl))
            have pt78 : ((w.1 0 47) + (1 : Int32)).toInt + 1 ≤ (u79.1 0 47).toInt ∧ (u79.1 0 47).toInt ≤ 1500 := pt78
            have pb78 : (w.1 0 49).toInt ≠ ((w.1 0 47) + (1 : Int32)).toInt := pb78
            have pw78 : (w.1 0 12).toInt ≤ (u79.1 0 12).toInt ∧ (u79.1 0 12).toInt - 15 * (u79.1 0 47).toInt ≤ (w.1 0 12).toInt - 15 * ((w.1 0 47) + (1 : Int32)).toInt + 5 := pw78
            have po78 : (w.1 0 15).toInt ≤ (u79.1 0 15).toInt ∧ (u79.1 0 15).toInt - 10 * (u79.1 0 47).toInt ≤ (w.1 0 15).toInt - 10 * ((w.1 0 47) + (1 : Int32)).toInt + 2 := po78
            have pf78 : (w.1 0 43).toInt ≤ (u79.1 0 43).toInt ∧ (u79.1 0 43).toInt - 15 * (u79.1 0 47).toInt ≤ (w.1 0 43).toInt - 15 * ((w.1 0 47) + (1 : Int32)).toInt := pf78
            have pk78 : (w.1 0 39).toInt ≤ (u79.1 0 39).toInt ∧ (u79.1 0 39).toInt - 1 * (u79.1 0 47).toInt ≤ (w.1 0 39).toInt - 1 * ((w.1 0 47) + (1 : Int32)).toInt := pk78
            have pp78 : (u79.1 0 32).toInt = (w.1 0 32).toInt ∧ (u79.1 0 48).toInt = (w.1 0 48).toInt := pp78
            have ph78 : (w.1 0 33).toInt ≤ (u79.1 0 33).toInt ∧ (u79.1 0 33).toInt ≤ 500 := ph78
            have kc78 : ∀ j : Nat, (j : Int) < (w.1 0 12).toInt → (u79.1 11) j = (w.1 11) j := kc78
            have ko78 : ∀ j : Nat, (j : Int) < (w.1 0 15).toInt → (u79.1 13) j = (w.1 13) j := ko78
            have kg78 : ∀ j : Nat, (j : Int) < (w.1 0 15).toInt → (u79.1 14) j = (w.1 14) j := kg78
            have n3578 : NI 35 u79 := n3578
            refine W.widen (k := 0) (n := 0) (by omega) (by omega) ?_
            refine lv_goto (tgt := 147) hx hb dX13_joined_60 (by decide) ?_
            refine lv_aload_n hx hb dX13_joined_147 rfl (lv_at hl 2 rfl) ?_
            refine cu_i (rn_V (n := 0) (As := []) (rest := []) hx hb hml hown ht hKK hFx hP hD hS hA (c_m_strength l dC dI cI cB cZ cJ cR tb H.size ad N u79  (show 0 ≤ (u79.1 0 47).toInt ∧ (u79.1 0 47).toInt ≤ 1500 by omega)) tw_128 tw_129 (by decide +kernel) rfl rfl ⟨by show 0 + 1 ≤ 40 * n + 10 + 2 * kk; omega, by show 8 + (1 + 11) + 0 ≤ 28 * (40 * n + 10 + 2 * kk); omega⟩ (List.range (mW ad N cI cZ cJ u79).length) (rg_map _) (mW_nd _ _ _ _ _ _) rfl rfl rfl rfl hl.1 rfl (Nat.le_of_ble_eq_true rfl) dX13_joined_148 ⟨Nat.le_of_ble_eq_true rfl, Nat.le_of_ble_eq_true rfl⟩) hP hD hS hA (fun r83 u82 H locs hw81 hP hD hS => ?_)
            obtain ⟨rfl, a81, b81⟩ := hw81
            have a81 : 0 ≤ r83.toInt := a81
            have b81 : r83.toInt ≤ 10 := b81
            refine W.widen (k := 0) (n := 0) (by omega) (by omega) ?_
            refine lv_istore_n (lv' := [(3, .int r83), (4, .int ((w.2 (w.1 0 47).toNatClampNeg).toInt32)), (0, .ref (ad 0)), (1, .int pa), (2, .int pb)]) hx hb dX13_joined_151 rfl hl (by decide) rfl (fun ls hl => ?_)
            refine lv_goto (tgt := 13) hx hb dX13_joined_152 (by decide) ?_
            exact ih13 (r83, u79) _ _ _ (by show (1500 - (u79.1 0 47).toInt).toNat < (1500 - (w.1 0 47).toInt).toNat; omega) ⟨(show FG [12, 15, 32, 33, 39, 43, 44, 45, 47, 48, 49, 50, 51] [0, 11, 13, 14, 35, 36, 37, 38, 40, 41, 42] v u79 from (FG.tr (FG.f (FG.tr (FG.rf _) (FG.up fw (by decide) (by decide))) ((w.1 0 47) + (1 : Int32)) (by decide)) (FG.up fr78 (by decide) (by decide)))), (show 0 ≤ r83.toInt ∧ r83.toInt ≤ 10 by omega), (show (v.1 0 47).toInt + 0 ≤ (u79.1 0 47).toInt ∧ (u79.1 0 47).toInt ≤ 1500 by omega), (show pb.toInt ≠ 0 ∨ ((v.1 0 47).toInt + 1 ≤ (u79.1 0 47).toInt ∧ (v.1 0 49).toInt ≠ (v.1 0 47).toInt) by omega), (show (v.1 0 12).toInt ≤ (u79.1 0 12).toInt ∧ (u79.1 0 12).toInt - 15 * (u79.1 0 47).toInt ≤ (v.1 0 12).toInt - 15 * (v.1 0 47).toInt by omega), (show (v.1 0 15).toInt ≤ (u79.1 0 15).toInt ∧ (u79.1 0 15).toInt - 10 * (u79.1 0 47).toInt ≤ (v.1 0 15).toInt - 10 * (v.1 0 47).toInt by omega), (show (v.1 0 43).toInt ≤ (u79.1 0 43).toInt ∧ (u79.1 0 43).toInt - 15 * (u79.1 0 47).toInt ≤ (v.1 0 43).toInt - 15 * (v.1 0 47).toInt by omega), (show (v.1 0 39).toInt ≤ (u79.1 0 39).toInt ∧ (u79.1 0 39).toInt - 1 * (u79.1 0 47).toInt ≤ (v.1 0 39).toInt - 1 * (v.1 0 47).toInt by omega), (show (u79.1 0 32).toInt = (v.1 0 32).toInt ∧ (u79.1 0 48).toInt = (v.1 0 48).toInt by omega), (show (v.1 0 33).toInt ≤ (u79.1 0 33).toInt ∧ (u79.1 0 33).toInt ≤ 500 by omega), (show ∀ j : Nat, (j : Int) < (v.1 0 12).toInt → (u79.1 11) j = (v.1 11) j from (fun (j9 : Nat) hj9 => (Eq.trans (kc78 j9 (by omega)) (kc j9 (by omega))))), (show ∀ j : Nat, (j : Int) < (v.1 0 15).toInt → (u79.1 13) j = (v.1 13) j from (fun (j9 : Nat) hj9 => (Eq.trans (ko78 j9 (by omega)) (ko j9 (by omega))))), (show ∀ j : Nat, (j : Int) < (v.1 0 15).toInt → (u79.1 14) j = (v.1 14) j from (fun (j9 : Nat) hj9 => (Eq.trans (kg78 j9 (by omega)) (kg j9 (by omega))))), (show NI 35 u79 from n3578), hP, hD, hS, lv_sub hl [0, 2, 3, 4] rfl⟩
  · have z84 : pb.toInt = 0 := eq_z rfl (show (0 : Int32).toInt = 0 by decide) h1
    refine lv_aload_n hx hb dX13_joined_4 rfl (lv_at hl 0 rfl) ?_
    refine cux_v (rx_V (n := 0) (As := []) (rest := []) hx hb hml hown ht hKK hFx hP hD hS hA (O dC dI cI cB cZ cJ cR tb s.heap.size ad N v  (show 40 ≤ (v.1 0 48).toInt + (n : Int) by omega) (show 0 ≤ (v.1 0 47).toInt ∧ (v.1 0 47).toInt ≤ 1500 by omega) (show 0 ≤ (v.1 0 48).toInt ∧ (v.1 0 48).toInt ≤ 40 by omega) (show 0 ≤ (v.1 0 30).toInt ∧ (v.1 0 30).toInt ≤ 500 by omega) (show 0 ≤ (v.1 0 33).toInt ∧ (v.1 0 33).toInt ≤ 500 by omega) (show 0 ≤ (v.1 0 32).toInt ∧ (v.1 0 30).toInt + (v.1 0 32).toInt ≤ 500 by omega) (show 0 ≤ (v.1 0 12).toInt ∧ (v.1 0 12).toInt ≤ 15 * (v.1 0 47).toInt + 2 by omega) (show 0 ≤ (v.1 0 15).toInt ∧ (v.1 0 15).toInt ≤ 10 * (v.1 0 47).toInt + 0 by omega) (show 0 ≤ (v.1 0 43).toInt ∧ (v.1 0 43).toInt ≤ 15 * (v.1 0 47).toInt + 0 by omega) (show 0 ≤ (v.1 0 39).toInt ∧ (v.1 0 39).toInt ≤ 1 * (v.1 0 47).toInt + 0 by omega) (show 0 ≤ (v.1 0 27).toInt ∧ (v.1 0 27).toInt ≤ 60 by omega) (FG.ti (fl := pfl) (al := pal) (FG.rf _) (by decide) (by decide) hT) (n29) (n23) (n35)) tw_114 tw_115 (by decide +kernel) rfl rfl ⟨by show (40 * n + 9) + 1 ≤ 40 * n + 10 + 2 * kk; omega, by show 8 + (2 + 11) + 28 * (40 * n + 9) ≤ 28 * (40 * n + 10 + 2 * kk); omega⟩ (List.range (mW ad N cI cZ cJ v).length) (rg_map _) (mW_nd _ _ _ _ _ _) rfl rfl rfl rfl hl.1 rfl (Nat.le_of_ble_eq_true rfl) dX13_joined_5 ⟨Nat.le_of_ble_eq_true rfl, Nat.le_of_ble_eq_true rfl⟩) hP hD hS hA (fun u9 ce9 q9 H locs hx9 hP hD hS hc9 hv9 hf9 => ?_) (fun u86 H locs hw85 hP hD hS => ?_)
    · exact vx_out (fun x h9 => (hnt x h9).elim) hlocks hc9 hv9 hf9 (fun t9 ht9 hv8 => ⟨u9, (FG.tr (FG.rf _) hx9), ⟨rfl, by rw [ht9]; exact hP, hD⟩, hS.F ht9⟩) hS.2.2 (by omega) (by omega)
    obtain ⟨fr85, pt85, pb85, pw85, po85, pf85, pk85, pp85, ph85, kc85, ko85, kg85, n3585⟩ := hw85
    have q85_2 : (u86.1 0 2).toInt = (v.1 0 2).toInt := congrArg Int32.toInt ((fr85.2.1 2 (by decide)).trans (show v.1 0 2 = (v.1 0 2) by rfl))
    have q85_4 : (u86.1 0 4).toInt = (v.1 0 4).toInt := congrArg Int32.toInt ((fr85.2.1 4 (by decide)).trans (show v.1 0 4 = (v.1 0 4) by rfl))
    have q85_5 : (u86.1 0 5).toInt = (v.1 0 5).toInt := congrArg Int32.toInt ((fr85.2.1 5 (by decide)).trans (show v.1 0 5 = (v.1 0 5) by rfl))
    have q85_22 : (u86.1 0 22).toInt = (v.1 0 22).toInt := congrArg Int32.toInt ((fr85.2.1 22 (by decide)).trans (show v.1 0 22 = (v.1 0 22) by rfl))
    have q85_27 : (u86.1 0 27).toInt = (v.1 0 27).toInt := congrArg Int32.toInt ((fr85.2.1 27 (by decide)).trans (show v.1 0 27 = (v.1 0 27) by rfl))
    have q85_28 : (u86.1 0 28).toInt = (v.1 0 28).toInt := congrArg Int32.toInt ((fr85.2.1 28 (by decide)).trans (show v.1 0 28 = (v.1 0 28) by rfl))
    have q85_30 : (u86.1 0 30).toInt = (v.1 0 30).toInt := congrArg Int32.toInt ((fr85.2.1 30 (by decide)).trans (show v.1 0 30 = (v.1 0 30) by rfl))
    have q85_31 : (u86.1 0 31).toInt = (v.1 0 31).toInt := congrArg Int32.toInt ((fr85.2.1 31 (by decide)).trans (show v.1 0 31 = (v.1 0 31) by rfl))
    have q85_34 : (u86.1 0 34).toInt = (v.1 0 34).toInt := congrArg Int32.toInt ((fr85.2.1 34 (by decide)).trans (show v.1 0 34 = (v.1 0 34) by rfl))
    have q85_52 : (u86.1 0 52).toInt = (v.1 0 52).toInt := congrArg Int32.toInt ((fr85.2.1 52 (by decide)).trans (show v.1 0 52 = (v.1 0 52) by rfl))
    refine W.widen (k := 0) (n := 0) (by omega) (by omega) ?_
    refine lv_aload_n hx hb dX13_joined_8 rfl (lv_at hl 0 rfl) ?_
    refine cu_i (rn_V (n := 0) (As := []) (rest := []) hx hb hml hown ht hKK hFx hP hD hS hA (c_m_strength l dC dI cI cB cZ cJ cR tb H.size ad N u86  (show 0 ≤ (u86.1 0 47).toInt ∧ (u86.1 0 47).toInt ≤ 1500 by omega)) tw_128 tw_129 (by decide +kernel) rfl rfl ⟨by show 0 + 1 ≤ 40 * n + 10 + 2 * kk; omega, by show 8 + (1 + 11) + 0 ≤ 28 * (40 * n + 10 + 2 * kk); omega⟩ (List.range (mW ad N cI cZ cJ u86).length) (rg_map _) (mW_nd _ _ _ _ _ _) rfl rfl rfl rfl hl.1 rfl (Nat.le_of_ble_eq_true rfl) dX13_joined_9 ⟨Nat.le_of_ble_eq_true rfl, Nat.le_of_ble_eq_true rfl⟩) hP hD hS hA (fun r90 u89 H locs hw88 hP hD hS => ?_)
    obtain ⟨rfl, a88, b88⟩ := hw88
    have a88 : 0 ≤ r90.toInt := a88
    have b88 : r90.toInt ≤ 10 := b88
    refine W.widen (k := 0) (n := 0) (by omega) (by omega) ?_
    refine lv_istore_n (lv' := [(3, .int r90), (0, .ref (ad 0)), (1, .int pa), (2, .int pb)]) hx hb dX13_joined_12 rfl hl (by decide) rfl (fun ls hl => ?_)
    refine lpm_ (X := Int32 × MS) (P := (fun (x9 : Int32 × MS) (H : Heap) (locs : List Loc) (ls : Array Slot) => (FG [12, 15, 32, 33, 39, 43, 44, 45, 47, 48, 49, 50, 51] [0, 11, 13, 14, 35, 36, 37, 38, 40, 41, 42] v x9.2) ∧ (0 ≤ x9.1.toInt ∧ x9.1.toInt ≤ 10) ∧ ((v.1 0 47).toInt + 0 ≤ (x9.2.1 0 47).toInt ∧ (x9.2.1 0 47).toInt ≤ 1500) ∧ (pb.toInt ≠ 0 ∨ ((v.1 0 47).toInt + 1 ≤ (x9.2.1 0 47).toInt ∧ (v.1 0 49).toInt ≠ (v.1 0 47).toInt)) ∧ ((v.1 0 12).toInt ≤ (x9.2.1 0 12).toInt ∧ (x9.2.1 0 12).toInt - 15 * (x9.2.1 0 47).toInt ≤ (v.1 0 12).toInt - 15 * (v.1 0 47).toInt) ∧ ((v.1 0 15).toInt ≤ (x9.2.1 0 15).toInt ∧ (x9.2.1 0 15).toInt - 10 * (x9.2.1 0 47).toInt ≤ (v.1 0 15).toInt - 10 * (v.1 0 47).toInt) ∧ ((v.1 0 43).toInt ≤ (x9.2.1 0 43).toInt ∧ (x9.2.1 0 43).toInt - 15 * (x9.2.1 0 47).toInt ≤ (v.1 0 43).toInt - 15 * (v.1 0 47).toInt) ∧ ((v.1 0 39).toInt ≤ (x9.2.1 0 39).toInt ∧ (x9.2.1 0 39).toInt - 1 * (x9.2.1 0 47).toInt ≤ (v.1 0 39).toInt - 1 * (v.1 0 47).toInt) ∧ ((x9.2.1 0 32).toInt = (v.1 0 32).toInt ∧ (x9.2.1 0 48).toInt = (v.1 0 48).toInt) ∧ ((v.1 0 33).toInt ≤ (x9.2.1 0 33).toInt ∧ (x9.2.1 0 33).toInt ≤ 500) ∧ (∀ j : Nat, (j : Int) < (v.1 0 12).toInt → (x9.2.1 11) j = (v.1 11) j) ∧ (∀ j : Nat, (j : Int) < (v.1 0 15).toInt → (x9.2.1 13) j = (v.1 13) j) ∧ (∀ j : Nat, (j : Int) < (v.1 0 15).toInt → (x9.2.1 14) j = (v.1 14) j) ∧ (NI 35 x9.2) ∧ va_P (dC, dI) vwCl (mW ad N cI cZ cJ x9.2) H ∧ va_D A (mW ad N cI cZ cJ x9.2) ∧ va_S A s.heap H locs ∧ lv_has ls 6 [(3, .int x9.1), (0, .ref (ad 0)), (1, .int pa), (2, .int pb)])) (fun x9 => (1500 - (x9.2.1 0 47).toInt).toNat) 13 (fun x9 H locs ls hh ih13 => ?_) (r90, u86) _ _ _ ⟨(show FG [12, 15, 32, 33, 39, 43, 44, 45, 47, 48, 49, 50, 51] [0, 11, 13, 14, 35, 36, 37, 38, 40, 41, 42] v u86 from (FG.tr (FG.rf _) (FG.up fr85 (by decide) (by decide)))), (show 0 ≤ r90.toInt ∧ r90.toInt ≤ 10 by omega), (show (v.1 0 47).toInt + 0 ≤ (u86.1 0 47).toInt ∧ (u86.1 0 47).toInt ≤ 1500 by omega), (show pb.toInt ≠ 0 ∨ ((v.1 0 47).toInt + 1 ≤ (u86.1 0 47).toInt ∧ (v.1 0 49).toInt ≠ (v.1 0 47).toInt) by omega), (show (v.1 0 12).toInt ≤ (u86.1 0 12).toInt ∧ (u86.1 0 12).toInt - 15 * (u86.1 0 47).toInt ≤ (v.1 0 12).toInt - 15 * (v.1 0 47).toInt by omega), (show (v.1 0 15).toInt ≤ (u86.1 0 15).toInt ∧ (u86.1 0 15).toInt - 10 * (u86.1 0 47).toInt ≤ (v.1 0 15).toInt - 10 * (v.1 0 47).toInt by omega), (show (v.1 0 43).toInt ≤ (u86.1 0 43).toInt ∧ (u86.1 0 43).toInt - 15 * (u86.1 0 47).toInt ≤ (v.1 0 43).toInt - 15 * (v.1 0 47).toInt by omega), (show (v.1 0 39).toInt ≤ (u86.1 0 39).toInt ∧ (u86.1 0 39).toInt - 1 * (u86.1 0 47).toInt ≤ (v.1 0 39).toInt - 1 * (v.1 0 47).toInt by omega), (show (u86.1 0 32).toInt = (v.1 0 32).toInt ∧ (u86.1 0 48).toInt = (v.1 0 48).toInt by omega), (show (v.1 0 33).toInt ≤ (u86.1 0 33).toInt ∧ (u86.1 0 33).toInt ≤ 500 by omega), (show ∀ j : Nat, (j : Int) < (v.1 0 12).toInt → (u86.1 11) j = (v.1 11) j from (fun (j9 : Nat) hj9 => (kc85 j9 (by omega)))), (show ∀ j : Nat, (j : Int) < (v.1 0 15).toInt → (u86.1 13) j = (v.1 13) j from (fun (j9 : Nat) hj9 => (ko85 j9 (by omega)))), (show ∀ j : Nat, (j : Int) < (v.1 0 15).toInt → (u86.1 14) j = (v.1 14) j from (fun (j9 : Nat) hj9 => (kg85 j9 (by omega)))), (show NI 35 u86 from n3585), hP, hD, hS, lv_sub hl [0, 1, 2, 3] rfl⟩
    obtain ⟨by9, w⟩ := x9
    obtain ⟨fw, l1, pt, pb, pw, po, pf, pk, pp, ph, kc, ko, kg, n35, hP, hD, hS, hl⟩ := hh
    have fw : FG [12, 15, 32, 33, 39, 43, 44, 45, 47, 48, 49, 50, 51] [0, 11, 13, 14, 35, 36, 37, 38, 40, 41, 42] v w := fw
    have l1 : 0 ≤ by9.toInt ∧ by9.toInt ≤ 10 := l1
    have pt : (v.1 0 47).toInt + 0 ≤ (w.1 0 47).toInt ∧ (w.1 0 47).toInt ≤ 1500 := pt
    have pb : pb.toInt ≠ 0 ∨ ((v.1 0 47).toInt + 1 ≤ (w.1 0 47).toInt ∧ (v.1 0 49).toInt ≠ (v.1 0 47).toInt) := pb
    have pw : (v.1 0 12).toInt ≤ (w.1 0 12).toInt ∧ (w.1 0 12).toInt - 15 * (w.1 0 47).toInt ≤ (v.1 0 12).toInt - 15 * (v.1 0 47).toInt := pw
    have po : (v.1 0 15).toInt ≤ (w.1 0 15).toInt ∧ (w.1 0 15).toInt - 10 * (w.1 0 47).toInt ≤ (v.1 0 15).toInt - 10 * (v.1 0 47).toInt := po
    have pf : (v.1 0 43).toInt ≤ (w.1 0 43).toInt ∧ (w.1 0 43).toInt - 15 * (w.1 0 47).toInt ≤ (v.1 0 43).toInt - 15 * (v.1 0 47).toInt := pf
    have pk : (v.1 0 39).toInt ≤ (w.1 0 39).toInt ∧ (w.1 0 39).toInt - 1 * (w.1 0 47).toInt ≤ (v.1 0 39).toInt - 1 * (v.1 0 47).toInt := pk
    have pp : (w.1 0 32).toInt = (v.1 0 32).toInt ∧ (w.1 0 48).toInt = (v.1 0 48).toInt := pp
    have ph : (v.1 0 33).toInt ≤ (w.1 0 33).toInt ∧ (w.1 0 33).toInt ≤ 500 := ph
    have kc : ∀ j : Nat, (j : Int) < (v.1 0 12).toInt → (w.1 11) j = (v.1 11) j := kc
    have ko : ∀ j : Nat, (j : Int) < (v.1 0 15).toInt → (w.1 13) j = (v.1 13) j := ko
    have kg : ∀ j : Nat, (j : Int) < (v.1 0 15).toInt → (w.1 14) j = (v.1 14) j := kg
    have n35 : NI 35 w := n35
    have hP : va_P (dC, dI) vwCl (mW ad N cI cZ cJ w) H := hP
    have hD : va_D A (mW ad N cI cZ cJ w) := hD
    have hl : lv_has ls 6 [(3, .int by9), (0, .ref (ad 0)), (1, .int pa), (2, .int pb)] := hl
    have q_2 : (w.1 0 2).toInt = (v.1 0 2).toInt := congrArg Int32.toInt (fw.2.1 2 (by decide))
    have q_4 : (w.1 0 4).toInt = (v.1 0 4).toInt := congrArg Int32.toInt (fw.2.1 4 (by decide))
    have q_5 : (w.1 0 5).toInt = (v.1 0 5).toInt := congrArg Int32.toInt (fw.2.1 5 (by decide))
    have q_22 : (w.1 0 22).toInt = (v.1 0 22).toInt := congrArg Int32.toInt (fw.2.1 22 (by decide))
    have q_27 : (w.1 0 27).toInt = (v.1 0 27).toInt := congrArg Int32.toInt (fw.2.1 27 (by decide))
    have q_28 : (w.1 0 28).toInt = (v.1 0 28).toInt := congrArg Int32.toInt (fw.2.1 28 (by decide))
    have q_30 : (w.1 0 30).toInt = (v.1 0 30).toInt := congrArg Int32.toInt (fw.2.1 30 (by decide))
    have q_31 : (w.1 0 31).toInt = (v.1 0 31).toInt := congrArg Int32.toInt (fw.2.1 31 (by decide))
    have q_34 : (w.1 0 34).toInt = (v.1 0 34).toInt := congrArg Int32.toInt (fw.2.1 34 (by decide))
    have q_52 : (w.1 0 52).toInt = (v.1 0 52).toInt := congrArg Int32.toInt (fw.2.1 52 (by decide))
    refine lv_iload_n hx hb dX13_joined_13 rfl (lv_at hl 0 rfl) ?_
    refine lv_iload_n hx hb dX13_joined_14 rfl (lv_at hl 2 rfl) ?_
    refine lv_icmp_lt (tgt := 155) hx hb dX13_joined_15 (by decide) (fun h91 => ?_) (fun h91 => ?_)
    · have z92 : by9.toInt < pa.toInt := lt_z rfl rfl h91
      refine vx_ret ?_
      exact W.vret hx hb hr (fun t ht9 hW => ⟨⟨w, rfl, ⟨(FG.tr (FG.rf _) (FG.up fw (by decide) (by decide))), (show (v.1 0 47).toInt + 0 ≤ (w.1 0 47).toInt ∧ (w.1 0 47).toInt ≤ 1500 by omega), (show pb.toInt ≠ 0 ∨ ((v.1 0 47).toInt + 1 ≤ (w.1 0 47).toInt ∧ (v.1 0 49).toInt ≠ (v.1 0 47).toInt) by omega), (show (v.1 0 12).toInt ≤ (w.1 0 12).toInt ∧ (w.1 0 12).toInt - 15 * (w.1 0 47).toInt ≤ (v.1 0 12).toInt - 15 * (v.1 0 47).toInt by omega), (show (v.1 0 15).toInt ≤ (w.1 0 15).toInt ∧ (w.1 0 15).toInt - 10 * (w.1 0 47).toInt ≤ (v.1 0 15).toInt - 10 * (v.1 0 47).toInt by omega), (show (v.1 0 43).toInt ≤ (w.1 0 43).toInt ∧ (w.1 0 43).toInt - 15 * (w.1 0 47).toInt ≤ (v.1 0 43).toInt - 15 * (v.1 0 47).toInt by omega), (show (v.1 0 39).toInt ≤ (w.1 0 39).toInt ∧ (w.1 0 39).toInt - 1 * (w.1 0 47).toInt ≤ (v.1 0 39).toInt - 1 * (v.1 0 47).toInt by omega), (show (w.1 0 32).toInt = (v.1 0 32).toInt ∧ (w.1 0 48).toInt = (v.1 0 48).toInt by omega), (show (v.1 0 33).toInt ≤ (w.1 0 33).toInt ∧ (w.1 0 33).toInt ≤ 500 by omega), (fun (j9 : Nat) hj9 => (kc j9 (by omega))), (fun (j9 : Nat) hj9 => (ko j9 (by omega))), (fun (j9 : Nat) hj9 => (kg j9 (by omega))), n35⟩, by rw [ht9]; exact hP, hD⟩, hS.F ht9⟩) hS.2.2 dX13_joined_155
    · have z93 : pa.toInt ≤ by9.toInt := nlt_z rfl rfl h91
      refine lv_iload_n hx hb dX13_joined_18 rfl (lv_at hl 0 rfl) ?_
      refine lv_if_le (tgt := 155) hx hb dX13_joined_19 (by decide) (fun h94 => ?_) (fun h94 => ?_)
      · have z95 : by9.toInt ≤ 0 := le_z rfl (show (0 : Int32).toInt = 0 by decide) h94
        refine vx_ret ?_
        exact W.vret hx hb hr (fun t ht9 hW => ⟨⟨w, rfl, ⟨(FG.tr (FG.rf _) (FG.up fw (by decide) (by decide))), (show (v.1 0 47).toInt + 0 ≤ (w.1 0 47).toInt ∧ (w.1 0 47).toInt ≤ 1500 by omega), (show pb.toInt ≠ 0 ∨ ((v.1 0 47).toInt + 1 ≤ (w.1 0 47).toInt ∧ (v.1 0 49).toInt ≠ (v.1 0 47).toInt) by omega), (show (v.1 0 12).toInt ≤ (w.1 0 12).toInt ∧ (w.1 0 12).toInt - 15 * (w.1 0 47).toInt ≤ (v.1 0 12).toInt - 15 * (v.1 0 47).toInt by omega), (show (v.1 0 15).toInt ≤ (w.1 0 15).toInt ∧ (w.1 0 15).toInt - 10 * (w.1 0 47).toInt ≤ (v.1 0 15).toInt - 10 * (v.1 0 47).toInt by omega), (show (v.1 0 43).toInt ≤ (w.1 0 43).toInt ∧ (w.1 0 43).toInt - 15 * (w.1 0 47).toInt ≤ (v.1 0 43).toInt - 15 * (v.1 0 47).toInt by omega), (show (v.1 0 39).toInt ≤ (w.1 0 39).toInt ∧ (w.1 0 39).toInt - 1 * (w.1 0 47).toInt ≤ (v.1 0 39).toInt - 1 * (v.1 0 47).toInt by omega), (show (w.1 0 32).toInt = (v.1 0 32).toInt ∧ (w.1 0 48).toInt = (v.1 0 48).toInt by omega), (show (v.1 0 33).toInt ≤ (w.1 0 33).toInt ∧ (w.1 0 33).toInt ≤ 500 by omega), (fun (j9 : Nat) hj9 => (kc j9 (by omega))), (fun (j9 : Nat) hj9 => (ko j9 (by omega))), (fun (j9 : Nat) hj9 => (kg j9 (by omega))), n35⟩, by rw [ht9]; exact hP, hD⟩, hS.F ht9⟩) hS.2.2 dX13_joined_155
      · have z96 : 0 < by9.toInt := nle_z rfl (show (0 : Int32).toInt = 0 by decide) h94
        refine lv_aload_n hx hb dX13_joined_22 rfl (lv_at hl 1 rfl) ?_
        refine va_get (D := (dC, dI)) (ci := 16) (fs := mF ad w) (v := .ref (ad 9)) (C := RX13) (T := TX13) (N := 124) hx hb ht itX13 hown hK hP 0 rfl rfl 9 (by decide) (ht _ tw_27) (fun _ h9 => h9) rfl dX13_joined_23 ?_
        refine lv_aload_n hx hb dX13_joined_26 rfl (lv_at hl 1 rfl) ?_
        refine va_get (D := (dC, dI)) (ci := 16) (fs := mF ad w) (v := .int (w.1 0 47)) (C := RX13) (T := TX13) (N := 124) hx hb ht itX13 hown hK hP 0 rfl rfl 47 (by decide) (ht _ tw_24) (fun _ h9 => h9) rfl dX13_joined_27 ?_
        refine va_lald (D := (dC, dI)) (f := w.2) hx hb hK hP 6 3 rfl rfl (in_z (a := (w.1 0 47).toInt) rfl (by omega) (by omega)) dX13_joined_30 ?_
        refine lv_l2i hx hb dX13_joined_31 rfl ?_
        refine lv_istore (lv' := [(4, .int ((w.2 (w.1 0 47).toNatClampNeg).toInt32)), (3, .int by9), (0, .ref (ad 0)), (1, .int pa), (2, .int pb)]) hx hb dX13_joined_32 hl (by decide) rfl (fun ls hl => ?_)
        refine lv_iload_n hx hb dX13_joined_34 rfl (lv_at hl 1 rfl) ?_
        refine lv_iconst (v := 3) hx hb dX13_joined_35 (by decide) ?_
        refine lv_icmp_ge (tgt := 63) hx hb dX13_joined_36 (by decide) (fun h97 => ?_) (fun h97 => ?_)
        · have z98 : 3 ≤ by9.toInt := le_z (show (3 : Int32).toInt = 3 by decide) rfl h97
          refine lv_aload_n hx hb dX13_joined_63 rfl (lv_at hl 2 rfl) ?_
          refine lv_iconst (v := 1) hx hb dX13_joined_64 (by decide) ?_
          refine cu_i (rn_V (n := 1) (As := [.int 1]) (rest := []) hx hb hml hown ht hKK hFx hP hD hS hA (c_m_slots l dC dI cI cB cZ cJ cR tb H.size ad N w (1 : Int32) (show 0 ≤ (w.1 0 30).toInt ∧ (w.1 0 30).toInt ≤ 500 by omega) (show 0 ≤ (w.1 0 32).toInt ∧ (w.1 0 32).toInt ≤ 2000 by omega) (show 0 ≤ (w.1 0 33).toInt ∧ (w.1 0 33).toInt ≤ 500 by omega) (show 0 ≤ 1 ∧ 1 ≤ 8 by omega)) tw_88 tw_89 (by decide +kernel) rfl rfl ⟨by show 0 + 1 ≤ 40 * n + 10 + 2 * kk; omega, by show 8 + (3 + 11) + 0 ≤ 28 * (40 * n + 10 + 2 * kk); omega⟩ (List.range (mW ad N cI cZ cJ w).length) (rg_map _) (mW_nd _ _ _ _ _ _) rfl rfl rfl rfl hl.1 rfl (Nat.le_of_ble_eq_true rfl) dX13_joined_65 ⟨Nat.le_of_ble_eq_true rfl, Nat.le_of_ble_eq_true rfl⟩) hP hD hS hA (fun r101 u100 H locs hw99 hP hD hS => ?_)
          obtain ⟨fr99, sr99, sb99, sh99⟩ := hw99
          have q99_2 : (u100.1 0 2).toInt = (w.1 0 2).toInt := congrArg Int32.toInt ((fr99.2.1 2 (by decide)).trans (show w.1 0 2 = (w.1 0 2) by rfl))
          have q99_4 : (u100.1 0 4).toInt = (w.1 0 4).toInt := congrArg Int32.toInt ((fr99.2.1 4 (by decide)).trans (show w.1 0 4 = (w.1 0 4) by rfl))
          have q99_5 : (u100.1 0 5).toInt = (w.1 0 5).toInt := congrArg Int32.toInt ((fr99.2.1 5 (by decide)).trans (show w.1 0 5 = (w.1 0 5) by rfl))
          have q99_12 : (u100.1 0 12).toInt = (w.1 0 12).toInt := congrArg Int32.toInt ((fr99.2.1 12 (by decide)).trans (show w.1 0 12 = (w.1 0 12) by rfl))
          have q99_15 : (u100.1 0 15).toInt = (w.1 0 15).toInt := congrArg Int32.toInt ((fr99.2.1 15 (by decide)).trans (show w.1 0 15 = (w.1 0 15) by rfl))
          have q99_22 : (u100.1 0 22).toInt = (w.1 0 22).toInt := congrArg Int32.toInt ((fr99.2.1 22 (by decide)).trans (show w.1 0 22 = (w.1 0 22) by rfl))
          have q99_27 : (u100.1 0 27).toInt = (w.1 0 27).toInt := congrArg Int32.toInt ((fr99.2.1 27 (by decide)).trans (show w.1 0 27 = (w.1 0 27) by rfl))
          have q99_28 : (u100.1 0 28).toInt = (w.1 0 28).toInt := congrArg Int32.toInt ((fr99.2.1 28 (by decide)).trans (show w.1 0 28 = (w.1 0 28) by rfl))
          have q99_30 : (u100.1 0 30).toInt = (w.1 0 30).toInt := congrArg Int32.toInt ((fr99.2.1 30 (by decide)).trans (show w.1 0 30 = (w.1 0 30) by rfl))
          have q99_31 : (u100.1 0 31).toInt = (w.1 0 31).toInt := congrArg Int32.toInt ((fr99.2.1 31 (by decide)).trans (show w.1 0 31 = (w.1 0 31) by rfl))
          have q99_32 : (u100.1 0 32).toInt = (w.1 0 32).toInt := congrArg Int32.toInt ((fr99.2.1 32 (by decide)).trans (show w.1 0 32 = (w.1 0 32) by rfl))
          have q99_34 : (u100.1 0 34).toInt = (w.1 0 34).toInt := congrArg Int32.toInt ((fr99.2.1 34 (by decide)).trans (show w.1 0 34 = (w.1 0 34) by rfl))
          have q99_39 : (u100.1 0 39).toInt = (w.1 0 39).toInt := congrArg Int32.toInt ((fr99.2.1 39 (by decide)).trans (show w.1 0 39 = (w.1 0 39) by rfl))
          have q99_43 : (u100.1 0 43).toInt = (w.1 0 43).toInt := congrArg Int32.toInt ((fr99.2.1 43 (by decide)).trans (show w.1 0 43 = (w.1 0 43) by rfl))
          have q99_47 : (u100.1 0 47).toInt = (w.1 0 47).toInt := congrArg Int32.toInt ((fr99.2.1 47 (by decide)).trans (show w.1 0 47 = (w.1 0 47) by rfl))
          have q99_48 : (u100.1 0 48).toInt = (w.1 0 48).toInt := congrArg Int32.toInt ((fr99.2.1 48 (by decide)).trans (show w.1 0 48 = (w.1 0 48) by rfl))
          have q99_52 : (u100.1 0 52).toInt = (w.1 0 52).toInt := congrArg Int32.toInt ((fr99.2.1 52 (by decide)).trans (show w.1 0 52 = (w.1 0 52) by rfl))
          have sr99 : r101.toInt = (w.1 0 30).toInt + (w.1 0 32).toInt := sr99
          have sb99 : ((w.1 0 30).toInt + (w.1 0 32).toInt + 1 ≤ (u100.1 0 33).toInt ∧ (u100.1 0 49).toInt = (w.1 0 49).toInt) ∨ (u100.1 0 49).toInt = (w.1 0 47).toInt := sb99
          have sh99 : (w.1 0 33).toInt ≤ (u100.1 0 33).toInt ∧ (u100.1 0 33).toInt ≤ 500 := sh99
          refine W.widen (k := 0) (n := 0) (by omega) (by omega) ?_
          refine lv_istore (lv' := [(5, .int r101), (4, .int ((w.2 (w.1 0 47).toNatClampNeg).toInt32)), (3, .int by9), (0, .ref (ad 0)), (1, .int pa), (2, .int pb)]) hx hb dX13_joined_68 hl (by decide) rfl (fun ls hl => ?_)
          refine lv_aload_n hx hb dX13_joined_70 rfl (lv_at hl 3 rfl) ?_
          refine lv_iload hx hb dX13_joined_71 (lv_at hl 1 rfl) ?_
          refine cu_v (rn_V (n := 1) (As := [.int ((w.2 (w.1 0 47).toNatClampNeg).toInt32)]) (rest := []) hx hb hml hown ht hKK hFx hP hD hS hA (c_m_remember l dC dI cI cB cZ cJ cR tb H.size ad N u100 ((w.2 (w.1 0 47).toNatClampNeg).toInt32) ) tw_90 tw_91 (by decide +kernel) rfl rfl ⟨by show 0 + 1 ≤ 40 * n + 10 + 2 * kk; omega, by show 8 + (2 + 11) + 0 ≤ 28 * (40 * n + 10 + 2 * kk); omega⟩ (List.range (mW ad N cI cZ cJ u100).length) (rg_map _) (mW_nd _ _ _ _ _ _) rfl rfl rfl rfl hl.1 rfl (Nat.le_of_ble_eq_true rfl) dX13_joined_73 ⟨Nat.le_of_ble_eq_true rfl, Nat.le_of_ble_eq_true rfl⟩) hP hD hS hA (fun u103 H locs hw102 hP hD hS => ?_)
          have fr102 := hw102
          have q102_2 : (u103.1 0 2).toInt = (u100.1 0 2).toInt := congrArg Int32.toInt ((fr102.2.1 2 (by decide)).trans (show u100.1 0 2 = (u100.1 0 2) by rfl))
          have q102_4 : (u103.1 0 4).toInt = (u100.1 0 4).toInt := congrArg Int32.toInt ((fr102.2.1 4 (by decide)).trans (show u100.1 0 4 = (u100.1 0 4) by rfl))
          have q102_5 : (u103.1 0 5).toInt = (u100.1 0 5).toInt := congrArg Int32.toInt ((fr102.2.1 5 (by decide)).trans (show u100.1 0 5 = (u100.1 0 5) by rfl))
          have q102_12 : (u103.1 0 12).toInt = (u100.1 0 12).toInt := congrArg Int32.toInt ((fr102.2.1 12 (by decide)).trans (show u100.1 0 12 = (u100.1 0 12) by rfl))
          have q102_15 : (u103.1 0 15).toInt = (u100.1 0 15).toInt := congrArg Int32.toInt ((fr102.2.1 15 (by decide)).trans (show u100.1 0 15 = (u100.1 0 15) by rfl))
          have q102_22 : (u103.1 0 22).toInt = (u100.1 0 22).toInt := congrArg Int32.toInt ((fr102.2.1 22 (by decide)).trans (show u100.1 0 22 = (u100.1 0 22) by rfl))
          have q102_27 : (u103.1 0 27).toInt = (u100.1 0 27).toInt := congrArg Int32.toInt ((fr102.2.1 27 (by decide)).trans (show u100.1 0 27 = (u100.1 0 27) by rfl))
          have q102_28 : (u103.1 0 28).toInt = (u100.1 0 28).toInt := congrArg Int32.toInt ((fr102.2.1 28 (by decide)).trans (show u100.1 0 28 = (u100.1 0 28) by rfl))
          have q102_30 : (u103.1 0 30).toInt = (u100.1 0 30).toInt := congrArg Int32.toInt ((fr102.2.1 30 (by decide)).trans (show u100.1 0 30 = (u100.1 0 30) by rfl))
          have q102_31 : (u103.1 0 31).toInt = (u100.1 0 31).toInt := congrArg Int32.toInt ((fr102.2.1 31 (by decide)).trans (show u100.1 0 31 = (u100.1 0 31) by rfl))
          have q102_32 : (u103.1 0 32).toInt = (u100.1 0 32).toInt := congrArg Int32.toInt ((fr102.2.1 32 (by decide)).trans (show u100.1 0 32 = (u100.1 0 32) by rfl))
          have q102_33 : (u103.1 0 33).toInt = (u100.1 0 33).toInt := congrArg Int32.toInt ((fr102.2.1 33 (by decide)).trans (show u100.1 0 33 = (u100.1 0 33) by rfl))
          have q102_34 : (u103.1 0 34).toInt = (u100.1 0 34).toInt := congrArg Int32.toInt ((fr102.2.1 34 (by decide)).trans (show u100.1 0 34 = (u100.1 0 34) by rfl))
          have q102_39 : (u103.1 0 39).toInt = (u100.1 0 39).toInt := congrArg Int32.toInt ((fr102.2.1 39 (by decide)).trans (show u100.1 0 39 = (u100.1 0 39) by rfl))
          have q102_43 : (u103.1 0 43).toInt = (u100.1 0 43).toInt := congrArg Int32.toInt ((fr102.2.1 43 (by decide)).trans (show u100.1 0 43 = (u100.1 0 43) by rfl))
          have q102_47 : (u103.1 0 47).toInt = (u100.1 0 47).toInt := congrArg Int32.toInt ((fr102.2.1 47 (by decide)).trans (show u100.1 0 47 = (u100.1 0 47) by rfl))
          have q102_48 : (u103.1 0 48).toInt = (u100.1 0 48).toInt := congrArg Int32.toInt ((fr102.2.1 48 (by decide)).trans (show u100.1 0 48 = (u100.1 0 48) by rfl))
          have q102_49 : (u103.1 0 49).toInt = (u100.1 0 49).toInt := congrArg Int32.toInt ((fr102.2.1 49 (by decide)).trans (show u100.1 0 49 = (u100.1 0 49) by rfl))
          have q102_52 : (u103.1 0 52).toInt = (u100.1 0 52).toInt := congrArg Int32.toInt ((fr102.2.1 52 (by decide)).trans (show u100.1 0 52 = (u100.1 0 52) by rfl))
          refine W.widen (k := 0) (n := 0) (by omega) (by omega) ?_
          refine lv_aload_n hx hb dX13_joined_76 rfl (lv_at hl 3 rfl) ?_
          refine cux_v (rx_V (n := 0) (As := []) (rest := []) hx hb hml hown ht hKK hFx hP hD hS hA (c_m_take l dC dI cI cB cZ cJ cR tb H.size ad N u103  (show 0 ≤ (u103.1 0 47).toInt ∧ (u103.1 0 47).toInt ≤ 1500 by omega)) tw_32 tw_33 (by decide +kernel) rfl rfl ⟨by show 1 + 1 ≤ 40 * n + 10 + 2 * kk; omega, by show 8 + (1 + 11) + 22 ≤ 28 * (40 * n + 10 + 2 * kk); omega⟩ (List.range (mW ad N cI cZ cJ u103).length) (rg_map _) (mW_nd _ _ _ _ _ _) rfl rfl rfl rfl hl.1 rfl (Nat.le_of_ble_eq_true rfl) dX13_joined_77 ⟨Nat.le_of_ble_eq_true rfl, Nat.le_of_ble_eq_true rfl⟩) hP hD hS hA (fun u9 ce9 q9 H locs hx9 hP hD hS hc9 hv9 hf9 => ?_) (fun u106 H locs hw105 hP hD hS => ?_)
          · exact vx_out (fun x h9 => (hnt x h9).elim) hlocks hc9 hv9 hf9 (fun t9 ht9 hv8 => ⟨u9, (FG.tr (FG.tr (FG.tr (FG.tr (FG.rf _) (FG.up fw (by decide) (by decide))) (FG.up fr99 (by decide) (by decide))) (FG.up fr102 (by decide) (by decide))) hx9), ⟨rfl, by rw [ht9]; exact hP, hD⟩, hS.F ht9⟩) hS.2.2 (by omega) (by omega)
          obtain ⟨rfl, a105, b105⟩ := hw105
          have z108 : ((u103.1 0 47) + (1 : Int32)).toInt = (u103.1 0 47).toInt + 1 := add_z rfl (show (1 : Int32).toInt = 1 by decide) (by omega) (by omega)
          have hP : va_P (dC, dI) vwCl (mW ad N cI cZ cJ (wA u103 0 47 ((u103.1 0 47) + (1 : Int32)))) H := hP
          have hD : va_D A (mW ad N cI cZ cJ (wA u103 0 47 ((u103.1 0 47) + (1 : Int32)))) := hD
          have a105 : (u103.1 0 47).toInt < 1500 := a105
          have b105 : (u103.1 0 49).toInt ≠ (u103.1 0 47).toInt := b105
          refine W.widen (k := 0) (n := 0) (by omega) (by omega) ?_
          refine lv_aload_n hx hb dX13_joined_80 rfl (lv_at hl 3 rfl) ?_
          refine lv_bipush (v := 10) hx hb dX13_joined_81 (by decide) ?_
          refine lv_iload hx hb dX13_joined_83 (lv_at hl 0 rfl) ?_
          refine cu_s (mW_nd _ _ _ _ _ _) (rn_S (n := 1) (As := [.int r101]) (rest := [.int 10, .ref (ad 0)]) hx hb hml hown ht hKK hFx hP hD hS hA (c_m_slotAt l dC dI cI cB cZ cJ cR tb H.size r101 ) tw_74 tw_75 (by decide +kernel) rfl rfl ⟨by show 0 + 1 ≤ 40 * n + 10 + 2 * kk; omega, by show 8 + (1 + 11) + 0 ≤ 28 * (40 * n + 10 + 2 * kk); omega⟩ [] rfl rfl rfl hl.1 rfl (Nat.le_of_ble_eq_true rfl) dX13_joined_85 ⟨Nat.le_of_ble_eq_true rfl, Nat.le_of_ble_eq_true rfl⟩) hP hD hS hA (fun r111 H locs hw109 hP hD hS => ?_)
          refine W.widen (k := 0) (n := 0) (by omega) (by omega) ?_
          refine lv_bipush (v := 8) hx hb dX13_joined_88 (by decide) ?_
          refine cu_s (mW_nd _ _ _ _ _ _) (rn_S (n := 3) (As := [.int 10, .int r111, .int 8]) (rest := [.ref (ad 0)]) hx hb hml hown ht hKK hFx hP hD hS hA (c_m_sw l dC dI cI cB cZ cJ cR tb H.size (10 : Int32) r111 (8 : Int32) ) tw_76 tw_77 (by decide +kernel) rfl rfl ⟨by show 0 + 1 ≤ 40 * n + 10 + 2 * kk; omega, by show 8 + (3 + 11) + 0 ≤ 28 * (40 * n + 10 + 2 * kk); omega⟩ [] rfl rfl rfl hl.1 rfl (Nat.le_of_ble_eq_true rfl) dX13_joined_90 ⟨Nat.le_of_ble_eq_true rfl, Nat.le_of_ble_eq_true rfl⟩) hP hD hS hA (fun r114 H locs hw112 hP hD hS => ?_)
          refine W.widen (k := 0) (n := 0) (by omega) (by omega) ?_
          refine cu_i (rn_V (n := 1) (As := [.int r114]) (rest := []) hx hb hml hown ht hKK hFx hP hD hS hA (c_m_emit l dC dI cI cB cZ cJ cR tb H.size ad N (wA u103 0 47 ((u103.1 0 47) + (1 : Int32))) r114 (show 0 ≤ (u103.1 0 12).toInt ∧ (u103.1 0 12).toInt < 24000 by omega)) tw_8 tw_9 (by decide +kernel) rfl rfl ⟨by show 0 + 1 ≤ 40 * n + 10 + 2 * kk; omega, by show 8 + (2 + 11) + 0 ≤ 28 * (40 * n + 10 + 2 * kk); omega⟩ (List.range (mW ad N cI cZ cJ (wA u103 0 47 ((u103.1 0 47) + (1 : Int32)))).length) (rg_map _) (mW_nd _ _ _ _ _ _) rfl rfl rfl rfl hl.1 rfl (Nat.le_of_ble_eq_true rfl) dX13_joined_93 ⟨Nat.le_of_ble_eq_true rfl, Nat.le_of_ble_eq_true rfl⟩) hP hD hS hA (fun r117 u116 H locs hw115 hP hD hS => ?_)
          obtain ⟨rfl, rfl⟩ := hw115
          have z118 : ((u103.1 0 12) + (1 : Int32)).toInt = (u103.1 0 12).toInt + 1 := add_z rfl (show (1 : Int32).toInt = 1 by decide) (by omega) (by omega)
          have hP : va_P (dC, dI) vwCl (mW ad N cI cZ cJ (wA (wA (wA u103 0 47 ((u103.1 0 47) + (1 : Int32))) 11 ((u103.1 0 12).toNatClampNeg) r114) 0 12 ((u103.1 0 12) + (1 : Int32)))) H := hP
          have hD : va_D A (mW ad N cI cZ cJ (wA (wA (wA u103 0 47 ((u103.1 0 47) + (1 : Int32))) 11 ((u103.1 0 12).toNatClampNeg) r114) 0 12 ((u103.1 0 12) + (1 : Int32)))) := hD
          refine tp_i (y := (u103.1 0 12)) (rfl) ?_
          refine W.widen (k := 0) (n := 0) (by omega) (by omega) ?_
          refine lv_pop hx hb dX13_joined_96 rfl ?_
          refine lv_aload_n hx hb dX13_joined_97 rfl (lv_at hl 3 rfl) ?_
          refine lv_dup hx hb dX13_joined_98 rfl ?_
          refine va_get (D := (dC, dI)) (ci := 16) (fs := mF ad (wA (wA (wA u103 0 47 ((u103.1 0 47) + (1 : Int32))) 11 ((u103.1 0 12).toNatClampNeg) r114) 0 12 ((u103.1 0 12) + (1 : Int32)))) (v := .int (u103.1 0 32)) (C := RX13) (T := TX13) (N := 124) hx hb ht itX13 hown hK hP 0 rfl rfl 32 (by decide) (ht _ tw_52) (fun _ h9 => h9) rfl dX13_joined_99 ?_
          refine lv_iconst (v := 1) hx hb dX13_joined_102 (by decide) ?_
          refine lv_iadd hx hb dX13_joined_103 ?_
          have z119 : ((u103.1 0 32) + (1 : Int32)).toInt = (u103.1 0 32).toInt + 1 := add_z rfl (show (1 : Int32).toInt = 1 by decide) (by omega) (by omega)
          refine va_put (D := (dC, dI)) (ci := 16) (fs := mF ad (wA (wA (wA u103 0 47 ((u103.1 0 47) + (1 : Int32))) 11 ((u103.1 0 12).toNatClampNeg) r114) 0 12 ((u103.1 0 12) + (1 : Int32)))) (v := .int ((u103.1 0 32) + (1 : Int32))) (ty := .int) (C := RX13) (T := TX13) (N := 124) hx hb ht itX13 tyX13 tyX13_ok nmX13 hown hK hP hD hS 0 rfl rfl 32 (by decide) (ht _ tw_52) (fun _ h9 => h9) rfl (by decide +kernel) rfl rfl (Nat.le_of_ble_eq_true rfl) dX13_joined_104 (fun H locs hP hD hS => ?_)
          have hP := cP_ (mw_32 ad N cI cZ cJ (wA (wA (wA u103 0 47 ((u103.1 0 47) + (1 : Int32))) 11 ((u103.1 0 12).toNatClampNeg) r114) 0 12 ((u103.1 0 12) + (1 : Int32))) ((u103.1 0 32) + (1 : Int32))) hP
          have hD := cD_ (mw_32 ad N cI cZ cJ (wA (wA (wA u103 0 47 ((u103.1 0 47) + (1 : Int32))) 11 ((u103.1 0 12).toNatClampNeg) r114) 0 12 ((u103.1 0 12) + (1 : Int32))) ((u103.1 0 32) + (1 : Int32))) hD
          refine lv_aload_n hx hb dX13_joined_107 rfl (lv_at hl 3 rfl) ?_
          refine lv_iload_n hx hb dX13_joined_108 rfl (lv_at hl 2 rfl) ?_
          refine lv_iconst (v := 1) hx hb dX13_joined_109 (by decide) ?_
          refine lv_iadd hx hb dX13_joined_110 ?_
          have z120 : (by9 + (1 : Int32)).toInt = by9.toInt + 1 := add_z rfl (show (1 : Int32).toInt = 1 by decide) (by omega) (by omega)
          refine lv_iconst (v := 0) hx hb dX13_joined_111 (by decide) ?_
          obtain ⟨kk121, hk122⟩ : ∃ m, kk = m + 1 := ⟨kk - 1, by omega⟩
          refine cux_v (rx_V (n := 2) (As := [.int (by9 + (1 : Int32)), .int 0]) (rest := []) hx hb hml hown ht hKK hFx hP hD hS hA (ihJ kk121 hk122 dC dI cI cB cZ cJ cR tb H.size ad N (wA (wA (wA (wA u103 0 47 ((u103.1 0 47) + (1 : Int32))) 11 ((u103.1 0 12).toNatClampNeg) r114) 0 12 ((u103.1 0 12) + (1 : Int32))) 0 32 ((u103.1 0 32) + (1 : Int32))) (by9 + (1 : Int32)) (0 : Int32) (show 40 ≤ (u103.1 0 48).toInt + (n : Int) by omega) (show 0 ≤ ((u103.1 0 47) + (1 : Int32)).toInt ∧ ((u103.1 0 47) + (1 : Int32)).toInt ≤ 1500 by omega) (show 0 ≤ (u103.1 0 48).toInt ∧ (u103.1 0 48).toInt ≤ 40 by omega) (show 0 ≤ (u103.1 0 30).toInt ∧ (u103.1 0 30).toInt ≤ 500 by omega) (show 0 ≤ (u103.1 0 33).toInt ∧ (u103.1 0 33).toInt ≤ 500 by omega) (show 0 ≤ ((u103.1 0 32) + (1 : Int32)).toInt ∧ (u103.1 0 30).toInt + ((u103.1 0 32) + (1 : Int32)).toInt ≤ 500 by omega) (show 0 ≤ ((u103.1 0 12) + (1 : Int32)).toInt ∧ ((u103.1 0 12) + (1 : Int32)).toInt ≤ 15 * ((u103.1 0 47) + (1 : Int32)).toInt + 2 by omega) (show 0 ≤ (u103.1 0 15).toInt ∧ (u103.1 0 15).toInt ≤ 10 * ((u103.1 0 47) + (1 : Int32)).toInt + 0 by omega) (show 0 ≤ (u103.1 0 43).toInt ∧ (u103.1 0 43).toInt ≤ 15 * ((u103.1 0 47) + (1 : Int32)).toInt + 0 by omega) (show 0 ≤ (u103.1 0 39).toInt ∧ (u103.1 0 39).toInt ≤ 1 * ((u103.1 0 47) + (1 : Int32)).toInt + 0 by omega) (show 0 ≤ (u103.1 0 27).toInt ∧ (u103.1 0 27).toInt ≤ 60 by omega) (FG.ti (fl := pfl) (al := pal) (FG.f (FG.f (FG.a (FG.f (FG.tr (FG.tr (FG.tr (FG.rf _) (FG.up fw (by decide) (by decide))) (FG.up fr99 (by decide) (by decide))) (FG.up fr102 (by decide) (by decide))) ((u103.1 0 47) + (1 : Int32)) (by decide)) ((u103.1 0 12).toNatClampNeg) r114 (by decide) (by decide)) ((u103.1 0 12) + (1 : Int32)) (by decide)) ((u103.1 0 32) + (1 : Int32)) (by decide)) (by decide) (by decide) hT) ((show NI 29 u103 from NI.fr (fl := [44, 45]) (al := [0]) fr102 (by decide) (show NI 29 u100 from NI.fr (fl := [33, 49]) (al := [0]) fr99 (by decide) (show NI 29 w from NI.fr (fl := [12, 15, 32, 33, 39, 43, 44, 45, 47, 48, 49, 50, 51]) (al := [0, 11, 13, 14, 35, 36, 37, 38, 40, 41, 42]) fw (by decide) n29)))) ((show NI 23 u103 from NI.fr (fl := [44, 45]) (al := [0]) fr102 (by decide) (show NI 23 u100 from NI.fr (fl := [33, 49]) (al := [0]) fr99 (by decide) (show NI 23 w from NI.fr (fl := [12, 15, 32, 33, 39, 43, 44, 45, 47, 48, 49, 50, 51]) (al := [0, 11, 13, 14, 35, 36, 37, 38, 40, 41, 42]) fw (by decide) n23)))) ((show NI 35 u103 from NI.fr (fl := [44, 45]) (al := [0]) fr102 (by decide) (show NI 35 u100 from NI.fr (fl := [33, 49]) (al := [0]) fr99 (by decide) n35))) (show 1 ≤ (by9 + (1 : Int32)).toInt ∧ (by9 + (1 : Int32)).toInt ≤ 12 ∧ 11 ≤ (by9 + (1 : Int32)).toInt + (kk121 : Int) by omega)) tw_124 tw_125 (by decide +kernel) rfl rfl ⟨by show (40 * n + 10 + 2 * kk121) + 1 ≤ 40 * n + 10 + 2 * kk; omega, by show 8 + (6 + 11) + 28 * (40 * n + 10 + 2 * kk121) ≤ 28 * (40 * n + 10 + 2 * kk); omega⟩ (List.range (mW ad N cI cZ cJ (wA (wA (wA (wA u103 0 47 ((u103.1 0 47) + (1 : Int32))) 11 ((u103.1 0 12).toNatClampNeg) r114) 0 12 ((u103.1 0 12) + (1 : Int32))) 0 32 ((u103.1 0 32) + (1 : Int32)))).length) (rg_map _) (mW_nd _ _ _ _ _ _) rfl rfl rfl rfl hl.1 rfl (Nat.le_of_ble_eq_true rfl) dX13_joined_112 ⟨Nat.le_of_ble_eq_true rfl, Nat.le_of_ble_eq_true rfl⟩) hP hD hS hA (fun u9 ce9 q9 H locs hx9 hP hD hS hc9 hv9 hf9 => ?_) (fun u124 H locs hw123 hP hD hS => ?_)
          · exact vx_out (fun x h9 => (hnt x h9).elim) hlocks hc9 hv9 hf9 (fun t9 ht9 hv8 => ⟨u9, (FG.tr (FG.f (FG.f (FG.a (FG.f (FG.tr (FG.tr (FG.tr (FG.rf _) (FG.up fw (by decide) (by decide))) (FG.up fr99 (by decide) (by decide))) (FG.up fr102 (by decide) (by decide))) ((u103.1 0 47) + (1 : Int32)) (by decide)) ((u103.1 0 12).toNatClampNeg) r114 (by decide) (by decide)) ((u103.1 0 12) + (1 : Int32)) (by decide)) ((u103.1 0 32) + (1 : Int32)) (by decide)) hx9), ⟨rfl, by rw [ht9]; exact hP, hD⟩, hS.F ht9⟩) hS.2.2 (by omega) (by omega)
          obtain ⟨fr123, pt123, pb123, pw123, po123, pf123, pk123, pp123, ph123, kc123, ko123, kg123, n35123⟩ := hw123
          have q123_2 : (u124.1 0 2).toInt = (u103.1 0 2).toInt := congrArg Int32.toInt ((fr123.2.1 2 (by decide)).trans (show (wA (wA (wA (wA u103 0 47 ((u103.1 0 47) + (1 : Int32))) 11 ((u103.1 0 12).toNatClampNeg) r114) 0 12 ((u103.1 0 12) + (1 : Int32))) 0 32 ((u103.1 0 32) + (1 : Int32))).1 0 2 = (u103.1 0 2) by rfl))
          have q123_4 : (u124.1 0 4).toInt = (u103.1 0 4).toInt := congrArg Int32.toInt ((fr123.2.1 4 (by decide)).trans (show (wA (wA (wA (wA u103 0 47 ((u103.1 0 47) + (1 : Int32))) 11 ((u103.1 0 12).toNatClampNeg) r114) 0 12 ((u103.1 0 12) + (1 : Int32))) 0 32 ((u103.1 0 32) + (1 : Int32))).1 0 4 = (u103.1 0 4) by rfl))
          have q123_5 : (u124.1 0 5).toInt = (u103.1 0 5).toInt := congrArg Int32.toInt ((fr123.2.1 5 (by decide)).trans (show (wA (wA (wA (wA u103 0 47 ((u103.1 0 47) + (1 : Int32))) 11 ((u103.1 0 12).toNatClampNeg) r114) 0 12 ((u103.1 0 12) + (1 : Int32))) 0 32 ((u103.1 0 32) + (1 : Int32))).1 0 5 = (u103.1 0 5) by rfl))
          have q123_22 : (u124.1 0 22).toInt = (u103.1 0 22).toInt := congrArg Int32.toInt ((fr123.2.1 22 (by decide)).trans (show (wA (wA (wA (wA u103 0 47 ((u103.1 0 47) + (1 : Int32))) 11 ((u103.1 0 12).toNatClampNeg) r114) 0 12 ((u103.1 0 12) + (1 : Int32))) 0 32 ((u103.1 0 32) + (1 : Int32))).1 0 22 = (u103.1 0 22) by rfl))
          have q123_27 : (u124.1 0 27).toInt = (u103.1 0 27).toInt := congrArg Int32.toInt ((fr123.2.1 27 (by decide)).trans (show (wA (wA (wA (wA u103 0 47 ((u103.1 0 47) + (1 : Int32))) 11 ((u103.1 0 12).toNatClampNeg) r114) 0 12 ((u103.1 0 12) + (1 : Int32))) 0 32 ((u103.1 0 32) + (1 : Int32))).1 0 27 = (u103.1 0 27) by rfl))
          have q123_28 : (u124.1 0 28).toInt = (u103.1 0 28).toInt := congrArg Int32.toInt ((fr123.2.1 28 (by decide)).trans (show (wA (wA (wA (wA u103 0 47 ((u103.1 0 47) + (1 : Int32))) 11 ((u103.1 0 12).toNatClampNeg) r114) 0 12 ((u103.1 0 12) + (1 : Int32))) 0 32 ((u103.1 0 32) + (1 : Int32))).1 0 28 = (u103.1 0 28) by rfl))
          have q123_30 : (u124.1 0 30).toInt = (u103.1 0 30).toInt := congrArg Int32.toInt ((fr123.2.1 30 (by decide)).trans (show (wA (wA (wA (wA u103 0 47 ((u103.1 0 47) + (1 : Int32))) 11 ((u103.1 0 12).toNatClampNeg) r114) 0 12 ((u103.1 0 12) + (1 : Int32))) 0 32 ((u103.1 0 32) + (1 : Int32))).1 0 30 = (u103.1 0 30) by rfl))
          have q123_31 : (u124.1 0 31).toInt = (u103.1 0 31).toInt := congrArg Int32.toInt ((fr123.2.1 31 (by decide)).trans (show (wA (wA (wA (wA u103 0 47 ((u103.1 0 47) + (1 : Int32))) 11 ((u103.1 0 12).toNatClampNeg) r114) 0 12 ((u103.1 0 12) + (1 : Int32))) 0 32 ((u103.1 0 32) + (1 : Int32))).1 0 31 = (u103.1 0 31) by rfl))
          have q123_34 : (u124.1 0 34).toInt = (u103.1 0 34).toInt := congrArg Int32.toInt ((fr123.2.1 34 (by decide)).trans (show (wA (wA (wA (wA u103 0 47 ((u103.1 0 47) + (1 : Int32))) 11 ((u103.1 0 12).toNatClampNeg) r114) 0 12 ((u103.1 0 12) + (1 : Int32))) 0 32 ((u103.1 0 32) + (1 : Int32))).1 0 34 = (u103.1 0 34) by rfl))
          have q123_52 : (u124.1 0 52).toInt = (u103.1 0 52).toInt := congrArg Int32.toInt ((fr123.2.1 52 (by decide)).trans (show (wA (wA (wA (wA u103 0 47 ((u103.1 0 47) + (1 : Int32))) 11 ((u103.1 0 12).toNatClampNeg) r114) 0 12 ((u103.1 0 12) + (1 : Int32))) 0 32 ((u103.1 0 32) + (1 : Int32))).1 0 52 = (u103.1 0 52) by rfl))
          have pt123 : ((u103.1 0 47) + (1 : Int32)).toInt + 0 ≤ (u124.1 0 47).toInt ∧ (u124.1 0 47).toInt ≤ 1500 := pt123
          have pb123 : 0 ≠ 0 ∨ (((u103.1 0 47) + (1 : Int32)).toInt + 1 ≤ (u124.1 0 47).toInt ∧ (u103.1 0 49).toInt ≠ ((u103.1 0 47) + (1 : Int32)).toInt) := pb123
          have pw123 : ((u103.1 0 12) + (1 : Int32)).toInt ≤ (u124.1 0 12).toInt ∧ (u124.1 0 12).toInt - 15 * (u124.1 0 47).toInt ≤ ((u103.1 0 12) + (1 : Int32)).toInt - 15 * ((u103.1 0 47) + (1 : Int32)).toInt := pw123
          have po123 : (u103.1 0 15).toInt ≤ (u124.1 0 15).toInt ∧ (u124.1 0 15).toInt - 10 * (u124.1 0 47).toInt ≤ (u103.1 0 15).toInt - 10 * ((u103.1 0 47) + (1 : Int32)).toInt := po123
          have pf123 : (u103.1 0 43).toInt ≤ (u124.1 0 43).toInt ∧ (u124.1 0 43).toInt - 15 * (u124.1 0 47).toInt ≤ (u103.1 0 43).toInt - 15 * ((u103.1 0 47) + (1 : Int32)).toInt := pf123
          have pk123 : (u103.1 0 39).toInt ≤ (u124.1 0 39).toInt ∧ (u124.1 0 39).toInt - 1 * (u124.1 0 47).toInt ≤ (u103.1 0 39).toInt - 1 * ((u103.1 0 47) + (1 : Int32)).toInt := pk123
          have pp123 : (u124.1 0 32).toInt = ((u103.1 0 32) + (1 : Int32)).toInt ∧ (u124.1 0 48).toInt = (u103.1 0 48).toInt := pp123
          have ph123 : (u103.1 0 33).toInt ≤ (u124.1 0 33).toInt ∧ (u124.1 0 33).toInt ≤ 500 := ph123
          have kc123 : ∀ j : Nat, (j : Int) < ((u103.1 0 12) + (1 : Int32)).toInt → (u124.1 11) j = (upd (u103.1 11) ((u103.1 0 12).toNatClampNeg) r114) j := kc123
          have ko123 : ∀ j : Nat, (j : Int) < (u103.1 0 15).toInt → (u124.1 13) j = (u103.1 13) j := ko123
          have kg123 : ∀ j : Nat, (j : Int) < (u103.1 0 15).toInt → (u124.1 14) j = (u103.1 14) j := kg123
          have n35123 : NI 35 u124 := n35123
          refine W.widen (k := 0) (n := 0) (by omega) (by omega) ?_
          refine lv_aload_n hx hb dX13_joined_115 rfl (lv_at hl 3 rfl) ?_
          refine lv_dup hx hb dX13_joined_116 rfl ?_
          refine va_get (D := (dC, dI)) (ci := 16) (fs := mF ad u124) (v := .int (u124.1 0 32)) (C := RX13) (T := TX13) (N := 124) hx hb ht itX13 hown hK hP 0 rfl rfl 32 (by decide) (ht _ tw_52) (fun _ h9 => h9) rfl dX13_joined_117 ?_
          refine lv_iconst (v := 1) hx hb dX13_joined_120 (by decide) ?_
          refine lv_isub hx hb dX13_joined_121 ?_
          have z126 : ((u124.1 0 32) - (1 : Int32)).toInt = (u124.1 0 32).toInt - 1 := sub_z rfl (show (1 : Int32).toInt = 1 by decide) (by omega) (by omega)
          refine va_put (D := (dC, dI)) (ci := 16) (fs := mF ad u124) (v := .int ((u124.1 0 32) - (1 : Int32))) (ty := .int) (C := RX13) (T := TX13) (N := 124) hx hb ht itX13 tyX13 tyX13_ok nmX13 hown hK hP hD hS 0 rfl rfl 32 (by decide) (ht _ tw_52) (fun _ h9 => h9) rfl (by decide +kernel) rfl rfl (Nat.le_of_ble_eq_true rfl) dX13_joined_122 (fun H locs hP hD hS => ?_)
          have hP := cP_ (mw_32 ad N cI cZ cJ u124 ((u124.1 0 32) - (1 : Int32))) hP
          have hD := cD_ (mw_32 ad N cI cZ cJ u124 ((u124.1 0 32) - (1 : Int32))) hD
          refine lv_aload_n hx hb dX13_joined_125 rfl (lv_at hl 3 rfl) ?_
          refine lv_iconst (v := 5) hx hb dX13_joined_126 (by decide) ?_
          refine lv_iload hx hb dX13_joined_127 (lv_at hl 0 rfl) ?_
          refine cu_s (mW_nd _ _ _ _ _ _) (rn_S (n := 1) (As := [.int r101]) (rest := [.int 5, .ref (ad 0)]) hx hb hml hown ht hKK hFx hP hD hS hA (c_m_slotAt l dC dI cI cB cZ cJ cR tb H.size r101 ) tw_74 tw_75 (by decide +kernel) rfl rfl ⟨by show 0 + 1 ≤ 40 * n + 10 + 2 * kk; omega, by show 8 + (1 + 11) + 0 ≤ 28 * (40 * n + 10 + 2 * kk); omega⟩ [] rfl rfl rfl hl.1 rfl (Nat.le_of_ble_eq_true rfl) dX13_joined_129 ⟨Nat.le_of_ble_eq_true rfl, Nat.le_of_ble_eq_true rfl⟩) hP hD hS hA (fun r129 H locs hw127 hP hD hS => ?_)
          refine W.widen (k := 0) (n := 0) (by omega) (by omega) ?_
          refine lv_bipush (v := 8) hx hb dX13_joined_132 (by decide) ?_
          refine cu_s (mW_nd _ _ _ _ _ _) (rn_S (n := 3) (As := [.int 5, .int r129, .int 8]) (rest := [.ref (ad 0)]) hx hb hml hown ht hKK hFx hP hD hS hA (c_m_lw l dC dI cI cB cZ cJ cR tb H.size (5 : Int32) r129 (8 : Int32) ) tw_71 tw_72 (by decide +kernel) rfl rfl ⟨by show 1 + 1 ≤ 40 * n + 10 + 2 * kk; omega, by show 8 + (3 + 11) + 24 ≤ 28 * (40 * n + 10 + 2 * kk); omega⟩ [] rfl rfl rfl hl.1 rfl (Nat.le_of_ble_eq_true rfl) dX13_joined_134 ⟨Nat.le_of_ble_eq_true rfl, Nat.le_of_ble_eq_true rfl⟩) hP hD hS hA (fun r132 H locs hw130 hP hD hS => ?_)
          refine W.widen (k := 0) (n := 0) (by omega) (by omega) ?_
          refine cu_i (rn_V (n := 1) (As := [.int r132]) (rest := []) hx hb hml hown ht hKK hFx hP hD hS hA (c_m_emit l dC dI cI cB cZ cJ cR tb H.size ad N (wA u124 0 32 ((u124.1 0 32) - (1 : Int32))) r132 (show 0 ≤ (u124.1 0 12).toInt ∧ (u124.1 0 12).toInt < 24000 by omega)) tw_8 tw_9 (by decide +kernel) rfl rfl ⟨by show 0 + 1 ≤ 40 * n + 10 + 2 * kk; omega, by show 8 + (2 + 11) + 0 ≤ 28 * (40 * n + 10 + 2 * kk); omega⟩ (List.range (mW ad N cI cZ cJ (wA u124 0 32 ((u124.1 0 32) - (1 : Int32)))).length) (rg_map _) (mW_nd _ _ _ _ _ _) rfl rfl rfl rfl hl.1 rfl (Nat.le_of_ble_eq_true rfl) dX13_joined_137 ⟨Nat.le_of_ble_eq_true rfl, Nat.le_of_ble_eq_true rfl⟩) hP hD hS hA (fun r135 u134 H locs hw133 hP hD hS => ?_)
          obtain ⟨rfl, rfl⟩ := hw133
          have z136 : ((u124.1 0 12) + (1 : Int32)).toInt = (u124.1 0 12).toInt + 1 := add_z rfl (show (1 : Int32).toInt = 1 by decide) (by omega) (by omega)
          have hP : va_P (dC, dI) vwCl (mW ad N cI cZ cJ (wA (wA (wA u124 0 32 ((u124.1 0 32) - (1 : Int32))) 11 ((u124.1 0 12).toNatClampNeg) r132) 0 12 ((u124.1 0 12) + (1 : Int32)))) H := hP
          have hD : va_D A (mW ad N cI cZ cJ (wA (wA (wA u124 0 32 ((u124.1 0 32) - (1 : Int32))) 11 ((u124.1 0 12).toNatClampNeg) r132) 0 12 ((u124.1 0 12) + (1 : Int32)))) := hD
          refine tp_i (y := (u124.1 0 12)) (rfl) ?_
          refine W.widen (k := 0) (n := 0) (by omega) (by omega) ?_
          refine lv_pop hx hb dX13_joined_140 rfl ?_
          refine lv_aload_n hx hb dX13_joined_141 rfl (lv_at hl 3 rfl) ?_
          refine lv_iload hx hb dX13_joined_142 (lv_at hl 1 rfl) ?_
          refine cu_v (rn_V (n := 1) (As := [.int ((w.2 (w.1 0 47).toNatClampNeg).toInt32)]) (rest := []) hx hb hml hown ht hKK hFx hP hD hS hA (c_m_operate l dC dI cI cB cZ cJ cR tb H.size ad N (wA (wA (wA u124 0 32 ((u124.1 0 32) - (1 : Int32))) 11 ((u124.1 0 12).toNatClampNeg) r132) 0 12 ((u124.1 0 12) + (1 : Int32))) ((w.2 (w.1 0 47).toNatClampNeg).toInt32) (show 0 ≤ ((u124.1 0 12) + (1 : Int32)).toInt ∧ ((u124.1 0 12) + (1 : Int32)).toInt ≤ 23980 by omega) (show 0 ≤ (u124.1 0 15).toInt ∧ (u124.1 0 15).toInt ≤ 15980 by omega) (show 0 ≤ (u124.1 0 43).toInt ∧ (u124.1 0 43).toInt ≤ 23980 by omega)) tw_94 tw_95 (by decide +kernel) rfl rfl ⟨by show 2 + 1 ≤ 40 * n + 10 + 2 * kk; omega, by show 8 + (2 + 11) + 46 ≤ 28 * (40 * n + 10 + 2 * kk); omega⟩ (List.range (mW ad N cI cZ cJ (wA (wA (wA u124 0 32 ((u124.1 0 32) - (1 : Int32))) 11 ((u124.1 0 12).toNatClampNeg) r132) 0 12 ((u124.1 0 12) + (1 : Int32)))).length) (rg_map _) (mW_nd _ _ _ _ _ _) rfl rfl rfl rfl hl.1 rfl (Nat.le_of_ble_eq_true rfl) dX13_joined_144 ⟨Nat.le_of_ble_eq_true rfl, Nat.le_of_ble_eq_true rfl⟩) hP hD hS hA (fun u138 H locs hw137 hP hD hS => ?_)
          obtain ⟨fr137, pw137, po137, pf137, kc137, ko137, kg137⟩ := hw137
          have q137_2 : (u138.1 0 2).toInt = (u124.1 0 2).toInt := congrArg Int32.toInt ((fr137.2.1 2 (by decide)).trans (show (wA (wA (wA u124 0 32 ((u124.1 0 32) - (1 : Int32))) 11 ((u124.1 0 12).toNatClampNeg) r132) 0 12 ((u124.1 0 12) + (1 : Int32))).1 0 2 = (u124.1 0 2) by rfl))
          have q137_4 : (u138.1 0 4).toInt = (u124.1 0 4).toInt := congrArg Int32.toInt ((fr137.2.1 4 (by decide)).trans (show (wA (wA (wA u124 0 32 ((u124.1 0 32) - (1 : Int32))) 11 ((u124.1 0 12).toNatClampNeg) r132) 0 12 ((u124.1 0 12) + (1 : Int32))).1 0 4 = (u124.1 0 4) by rfl))
          have q137_5 : (u138.1 0 5).toInt = (u124.1 0 5).toInt := congrArg Int32.toInt ((fr137.2.1 5 (by decide)).trans (show (wA (wA (wA u124 0 32 ((u124.1 0 32) - (1 : Int32))) 11 ((u124.1 0 12).toNatClampNeg) r132) 0 12 ((u124.1 0 12) + (1 : Int32))).1 0 5 = (u124.1 0 5) by rfl))
          have q137_22 : (u138.1 0 22).toInt = (u124.1 0 22).toInt := congrArg Int32.toInt ((fr137.2.1 22 (by decide)).trans (show (wA (wA (wA u124 0 32 ((u124.1 0 32) - (1 : Int32))) 11 ((u124.1 0 12).toNatClampNeg) r132) 0 12 ((u124.1 0 12) + (1 : Int32))).1 0 22 = (u124.1 0 22) by rfl))
          have q137_27 : (u138.1 0 27).toInt = (u124.1 0 27).toInt := congrArg Int32.toInt ((fr137.2.1 27 (by decide)).trans (show (wA (wA (wA u124 0 32 ((u124.1 0 32) - (1 : Int32))) 11 ((u124.1 0 12).toNatClampNeg) r132) 0 12 ((u124.1 0 12) + (1 : Int32))).1 0 27 = (u124.1 0 27) by rfl))
          have q137_28 : (u138.1 0 28).toInt = (u124.1 0 28).toInt := congrArg Int32.toInt ((fr137.2.1 28 (by decide)).trans (show (wA (wA (wA u124 0 32 ((u124.1 0 32) - (1 : Int32))) 11 ((u124.1 0 12).toNatClampNeg) r132) 0 12 ((u124.1 0 12) + (1 : Int32))).1 0 28 = (u124.1 0 28) by rfl))
          have q137_30 : (u138.1 0 30).toInt = (u124.1 0 30).toInt := congrArg Int32.toInt ((fr137.2.1 30 (by decide)).trans (show (wA (wA (wA u124 0 32 ((u124.1 0 32) - (1 : Int32))) 11 ((u124.1 0 12).toNatClampNeg) r132) 0 12 ((u124.1 0 12) + (1 : Int32))).1 0 30 = (u124.1 0 30) by rfl))
          have q137_31 : (u138.1 0 31).toInt = (u124.1 0 31).toInt := congrArg Int32.toInt ((fr137.2.1 31 (by decide)).trans (show (wA (wA (wA u124 0 32 ((u124.1 0 32) - (1 : Int32))) 11 ((u124.1 0 12).toNatClampNeg) r132) 0 12 ((u124.1 0 12) + (1 : Int32))).1 0 31 = (u124.1 0 31) by rfl))
          have q137_32 : (u138.1 0 32).toInt = ((u124.1 0 32) - (1 : Int32)).toInt := congrArg Int32.toInt ((fr137.2.1 32 (by decide)).trans (show (wA (wA (wA u124 0 32 ((u124.1 0 32) - (1 : Int32))) 11 ((u124.1 0 12).toNatClampNeg) r132) 0 12 ((u124.1 0 12) + (1 : Int32))).1 0 32 = ((u124.1 0 32) - (1 : Int32)) by rfl))
          have q137_33 : (u138.1 0 33).toInt = (u124.1 0 33).toInt := congrArg Int32.toInt ((fr137.2.1 33 (by decide)).trans (show (wA (wA (wA u124 0 32 ((u124.1 0 32) - (1 : Int32))) 11 ((u124.1 0 12).toNatClampNeg) r132) 0 12 ((u124.1 0 12) + (1 : Int32))).1 0 33 = (u124.1 0 33) by rfl))
          have q137_34 : (u138.1 0 34).toInt = (u124.1 0 34).toInt := congrArg Int32.toInt ((fr137.2.1 34 (by decide)).trans (show (wA (wA (wA u124 0 32 ((u124.1 0 32) - (1 : Int32))) 11 ((u124.1 0 12).toNatClampNeg) r132) 0 12 ((u124.1 0 12) + (1 : Int32))).1 0 34 = (u124.1 0 34) by rfl))
          have q137_39 : (u138.1 0 39).toInt = (u124.1 0 39).toInt := congrArg Int32.toInt ((fr137.2.1 39 (by decide)).trans (show (wA (wA (wA u124 0 32 ((u124.1 0 32) - (1 : Int32))) 11 ((u124.1 0 12).toNatClampNeg) r132) 0 12 ((u124.1 0 12) + (1 : Int32))).1 0 39 = (u124.1 0 39) by rfl))
          have q137_47 : (u138.1 0 47).toInt = (u124.1 0 47).toInt := congrArg Int32.toInt ((fr137.2.1 47 (by decide)).trans (show (wA (wA (wA u124 0 32 ((u124.1 0 32) - (1 : Int32))) 11 ((u124.1 0 12).toNatClampNeg) r132) 0 12 ((u124.1 0 12) + (1 : Int32))).1 0 47 = (u124.1 0 47) by rfl))
          have q137_48 : (u138.1 0 48).toInt = (u124.1 0 48).toInt := congrArg Int32.toInt ((fr137.2.1 48 (by decide)).trans (show (wA (wA (wA u124 0 32 ((u124.1 0 32) - (1 : Int32))) 11 ((u124.1 0 12).toNatClampNeg) r132) 0 12 ((u124.1 0 12) + (1 : Int32))).1 0 48 = (u124.1 0 48) by rfl))
          have q137_49 : (u138.1 0 49).toInt = (u124.1 0 49).toInt := congrArg Int32.toInt ((fr137.2.1 49 (by decide)).trans (show (wA (wA (wA u124 0 32 ((u124.1 0 32) - (1 : Int32))) 11 ((u124.1 0 12).toNatClampNeg) r132) 0 12 ((u124.1 0 12) + (1 : Int32))).1 0 49 = (u124.1 0 49) by rfl))
          have q137_52 : (u138.1 0 52).toInt = (u124.1 0 52).toInt := congrArg Int32.toInt ((fr137.2.1 52 (by decide)).trans (show (wA (wA (wA u124 0 32 ((u124.1 0 32) - (1 : Int32))) 11 ((u124.1 0 12).toNatClampNeg) r132) 0 12 ((u124.1 0 12) + (1 : Int32))).1 0 52 = (u124.1 0 52) by rfl))
          have pw137 : ((u124.1 0 12) + (1 : Int32)).toInt ≤ (u138.1 0 12).toInt ∧ (u138.1 0 12).toInt ≤ ((u124.1 0 12) + (1 : Int32)).toInt + 3 := pw137
          have po137 : (u138.1 0 15).toInt = (u124.1 0 15).toInt + 1 := po137
          have pf137 : (u124.1 0 43).toInt ≤ (u138.1 0 43).toInt ∧ (u138.1 0 43).toInt ≤ (u124.1 0 43).toInt + 1 := pf137
          have kc137 : ∀ j : Nat, (j : Int) < ((u124.1 0 12) + (1 : Int32)).toInt → (u138.1 11) j = (upd (u124.1 11) ((u124.1 0 12).toNatClampNeg) r132) j := kc137
          have ko137 : ∀ j : Nat, (j : Int) < (u124.1 0 15).toInt → (u138.1 13) j = (u124.1 13) j := ko137
          have kg137 : ∀ j : Nat, (j : Int) < (u124.1 0 15).toInt → (u138.1 14) j = (u124.1 14) j := kg137
          refine W.widen (k := 0) (n := 0) (by omega) (by omega) ?_
          refine lv_aload_n hx hb dX13_joined_147 rfl (lv_at hl 3 rfl) ?_
          refine cu_i (rn_V (n := 0) (As := []) (rest := []) hx hb hml hown ht hKK hFx hP hD hS hA (c_m_strength l dC dI cI cB cZ cJ cR tb H.size ad N u138  (show 0 ≤ (u138.1 0 47).toInt ∧ (u138.1 0 47).toInt ≤ 1500 by omega)) tw_128 tw_129 (by decide +kernel) rfl rfl ⟨by show 0 + 1 ≤ 40 * n + 10 + 2 * kk; omega, by show 8 + (1 + 11) + 0 ≤ 28 * (40 * n + 10 + 2 * kk); omega⟩ (List.range (mW ad N cI cZ cJ u138).length) (rg_map _) (mW_nd _ _ _ _ _ _) rfl rfl rfl rfl hl.1 rfl (Nat.le_of_ble_eq_true rfl) dX13_joined_148 ⟨Nat.le_of_ble_eq_true rfl, Nat.le_of_ble_eq_true rfl⟩) hP hD hS hA (fun r142 u141 H locs hw140 hP hD hS => ?_)
          obtain ⟨rfl, a140, b140⟩ := hw140
          have a140 : 0 ≤ r142.toInt := a140
          have b140 : r142.toInt ≤ 10 := b140
          refine W.widen (k := 0) (n := 0) (by omega) (by omega) ?_
          refine lv_istore_n (lv' := [(3, .int r142), (5, .int r101), (4, .int ((w.2 (w.1 0 47).toNatClampNeg).toInt32)), (0, .ref (ad 0)), (1, .int pa), (2, .int pb)]) hx hb dX13_joined_151 rfl hl (by decide) rfl (fun ls hl => ?_)
          refine lv_goto (tgt := 13) hx hb dX13_joined_152 (by decide) ?_
          exact ih13 (r142, u138) _ _ _ (by show (1500 - (u138.1 0 47).toInt).toNat < (1500 - (w.1 0 47).toInt).toNat; omega) ⟨(show FG [12, 15, 32, 33, 39, 43, 44, 45, 47, 48, 49, 50, 51] [0, 11, 13, 14, 35, 36, 37, 38, 40, 41, 42] v u138 from (FG.tr (FG.f (FG.a (FG.f (FG.tr (FG.f (FG.f (FG.a (FG.f (FG.tr (FG.tr (FG.tr (FG.rf _) (FG.up fw (by decide) (by decide))) (FG.up fr99 (by decide) (by decide))) (FG.up fr102 (by decide) (by decide))) ((u103.1 0 47) + (1 : Int32)) (by decide)) ((u103.1 0 12).toNatClampNeg) r114 (by decide) (by decide)) ((u103.1 0 12) + (1 : Int32)) (by decide)) ((u103.1 0 32) + (1 : Int32)) (by decide)) (FG.up fr123 (by decide) (by decide))) ((u124.1 0 32) - (1 : Int32)) (by decide)) ((u124.1 0 12).toNatClampNeg) r132 (by decide) (by decide)) ((u124.1 0 12) + (1 : Int32)) (by decide)) (FG.up fr137 (by decide) (by decide)))), (show 0 ≤ r142.toInt ∧ r142.toInt ≤ 10 by omega), (show (v.1 0 47).toInt + 0 ≤ (u138.1 0 47).toInt ∧ (u138.1 0 47).toInt ≤ 1500 by omega), (show pb.toInt ≠ 0 ∨ ((v.1 0 47).toInt + 1 ≤ (u138.1 0 47).toInt ∧ (v.1 0 49).toInt ≠ (v.1 0 47).toInt) by omega), (show (v.1 0 12).toInt ≤ (u138.1 0 12).toInt ∧ (u138.1 0 12).toInt - 15 * (u138.1 0 47).toInt ≤ (v.1 0 12).toInt - 15 * (v.1 0 47).toInt by omega), (show (v.1 0 15).toInt ≤ (u138.1 0 15).toInt ∧ (u138.1 0 15).toInt - 10 * (u138.1 0 47).toInt ≤ (v.1 0 15).toInt - 10 * (v.1 0 47).toInt by omega), (show (v.1 0 43).toInt ≤ (u138.1 0 43).toInt ∧ (u138.1 0 43).toInt - 15 * (u138.1 0 47).toInt ≤ (v.1 0 43).toInt - 15 * (v.1 0 47).toInt by omega), (show (v.1 0 39).toInt ≤ (u138.1 0 39).toInt ∧ (u138.1 0 39).toInt - 1 * (u138.1 0 47).toInt ≤ (v.1 0 39).toInt - 1 * (v.1 0 47).toInt by omega), (show (u138.1 0 32).toInt = (v.1 0 32).toInt ∧ (u138.1 0 48).toInt = (v.1 0 48).toInt by omega), (show (v.1 0 33).toInt ≤ (u138.1 0 33).toInt ∧ (u138.1 0 33).toInt ≤ 500 by omega), (show ∀ j : Nat, (j : Int) < (v.1 0 12).toInt → (u138.1 11) j = (v.1 11) j from (fun (j9 : Nat) hj9 => (Eq.trans (kc137 j9 (by omega)) (Eq.trans (pk_un (by have := cl_z (a := (u124.1 0 12).toInt) rfl (by omega); omega)) (Eq.trans (kc123 j9 (by omega)) (Eq.trans (pk_un (by have := cl_z (a := (u103.1 0 12).toInt) rfl (by omega); omega)) (Eq.trans (congrFun (fr102.2.2 11 (by decide)) j9) (Eq.trans (congrFun (fr99.2.2 11 (by decide)) j9) (kc j9 (by omega)))))))))), (show ∀ j : Nat, (j : Int) < (v.1 0 15).toInt → (u138.1 13) j = (v.1 13) j from (fun (j9 : Nat) hj9 => (Eq.trans (ko137 j9 (by omega)) (Eq.trans (ko123 j9 (by omega)) (Eq.trans (congrFun (fr102.2.2 13 (by decide)) j9) (Eq.trans (congrFun (fr99.2.2 13 (by decide)) j9) (ko j9 (by omega)))))))), (show ∀ j : Nat, (j : Int) < (v.1 0 15).toInt → (u138.1 14) j = (v.1 14) j from (fun (j9 : Nat) hj9 => (Eq.trans (kg137 j9 (by omega)) (Eq.trans (kg123 j9 (by omega)) (Eq.trans (congrFun (fr102.2.2 14 (by decide)) j9) (Eq.trans (congrFun (fr99.2.2 14 (by decide)) j9) (kg j9 (by omega)))))))), (show NI 35 u138 from (show NI 35 u138 from NI.fr (fl := [12, 15, 43]) (al := [0, 11, 13, 14, 40, 41, 42]) fr137 (by decide) n35123)), hP, hD, hS, lv_sub hl [0, 3, 4, 5] rfl⟩
        · have z143 : by9.toInt < 3 := nle_z (show (3 : Int32).toInt = 3 by decide) rfl h97
          refine lv_aload_n hx hb dX13_joined_39 rfl (lv_at hl 2 rfl) ?_
          refine cux_v (rx_V (n := 0) (As := []) (rest := []) hx hb hml hown ht hKK hFx hP hD hS hA (c_m_take l dC dI cI cB cZ cJ cR tb H.size ad N w  (show 0 ≤ (w.1 0 47).toInt ∧ (w.1 0 47).toInt ≤ 1500 by omega)) tw_32 tw_33 (by decide +kernel) rfl rfl ⟨by show 1 + 1 ≤ 40 * n + 10 + 2 * kk; omega, by show 8 + (1 + 11) + 22 ≤ 28 * (40 * n + 10 + 2 * kk); omega⟩ (List.range (mW ad N cI cZ cJ w).length) (rg_map _) (mW_nd _ _ _ _ _ _) rfl rfl rfl rfl hl.1 rfl (Nat.le_of_ble_eq_true rfl) dX13_joined_40 ⟨Nat.le_of_ble_eq_true rfl, Nat.le_of_ble_eq_true rfl⟩) hP hD hS hA (fun u9 ce9 q9 H locs hx9 hP hD hS hc9 hv9 hf9 => ?_) (fun u145 H locs hw144 hP hD hS => ?_)
          · exact vx_out (fun x h9 => (hnt x h9).elim) hlocks hc9 hv9 hf9 (fun t9 ht9 hv8 => ⟨u9, (FG.tr (FG.tr (FG.rf _) (FG.up fw (by decide) (by decide))) hx9), ⟨rfl, by rw [ht9]; exact hP, hD⟩, hS.F ht9⟩) hS.2.2 (by omega) (by omega)
          obtain ⟨rfl, a144, b144⟩ := hw144
          have z147 : ((w.1 0 47) + (1 : Int32)).toInt = (w.1 0 47).toInt + 1 := add_z rfl (show (1 : Int32).toInt = 1 by decide) (by omega) (by omega)
          have hP : va_P (dC, dI) vwCl (mW ad N cI cZ cJ (wA w 0 47 ((w.1 0 47) + (1 : Int32)))) H := hP
          have hD : va_D A (mW ad N cI cZ cJ (wA w 0 47 ((w.1 0 47) + (1 : Int32)))) := hD
          have a144 : (w.1 0 47).toInt < 1500 := a144
          have b144 : (w.1 0 49).toInt ≠ (w.1 0 47).toInt := b144
          refine W.widen (k := 0) (n := 0) (by omega) (by omega) ?_
          refine lv_aload_n hx hb dX13_joined_43 rfl (lv_at hl 2 rfl) ?_
          refine lv_iload_n hx hb dX13_joined_44 rfl (lv_at hl 1 rfl) ?_
          refine lv_iconst (v := 1) hx hb dX13_joined_45 (by decide) ?_
          refine lv_icmp_ne (tgt := 53) hx hb dX13_joined_46 (by decide) (fun h148 => ?_) (fun h148 => ?_)
          · have z149 : by9.toInt ≠ 1 := ne_z rfl (show (1 : Int32).toInt = 1 by decide) h148
            refine lv_iconst (v := 0) hx hb dX13_joined_53 (by decide) ?_
            refine lv_iload_n hx hb dX13_joined_54 rfl (lv_at hl 1 rfl) ?_
            refine lv_iconst (v := 1) hx hb dX13_joined_55 (by decide) ?_
            refine lv_iadd hx hb dX13_joined_56 ?_
            have z150 : (by9 + (1 : Int32)).toInt = by9.toInt + 1 := add_z rfl (show (1 : Int32).toInt = 1 by decide) (by omega) (by omega)
            obtain ⟨kk151, hk152⟩ : ∃ m, kk = m + 1 := ⟨kk - 1, by omega⟩
            refine cux_v (rx_V (n := 2) (As := [.int 0, .int (by9 + (1 : Int32))]) (rest := []) hx hb hml hown ht hKK hFx hP hD hS hA (c_m_both l n kk151 (ihJ kk151 hk152) dC dI cI cB cZ cJ cR tb H.size ad N (wA w 0 47 ((w.1 0 47) + (1 : Int32))) (0 : Int32) (by9 + (1 : Int32)) (show 40 ≤ (w.1 0 48).toInt + (n : Int) by omega) (show 0 ≤ ((w.1 0 47) + (1 : Int32)).toInt ∧ ((w.1 0 47) + (1 : Int32)).toInt ≤ 1500 by omega) (show 0 ≤ (w.1 0 48).toInt ∧ (w.1 0 48).toInt ≤ 40 by omega) (show 0 ≤ (w.1 0 30).toInt ∧ (w.1 0 30).toInt ≤ 500 by omega) (show 0 ≤ (w.1 0 33).toInt ∧ (w.1 0 33).toInt ≤ 500 by omega) (show 0 ≤ (w.1 0 32).toInt ∧ (w.1 0 30).toInt + (w.1 0 32).toInt ≤ 500 by omega) (show 0 ≤ (w.1 0 12).toInt ∧ (w.1 0 12).toInt ≤ 15 * ((w.1 0 47) + (1 : Int32)).toInt + -8 by omega) (show 0 ≤ (w.1 0 15).toInt ∧ (w.1 0 15).toInt ≤ 10 * ((w.1 0 47) + (1 : Int32)).toInt + -5 by omega) (show 0 ≤ (w.1 0 43).toInt ∧ (w.1 0 43).toInt ≤ 15 * ((w.1 0 47) + (1 : Int32)).toInt + 0 by omega) (show 0 ≤ (w.1 0 39).toInt ∧ (w.1 0 39).toInt ≤ 1 * ((w.1 0 47) + (1 : Int32)).toInt + 0 by omega) (show 0 ≤ (w.1 0 27).toInt ∧ (w.1 0 27).toInt ≤ 60 by omega) (FG.ti (fl := pfl) (al := pal) (FG.f (FG.tr (FG.rf _) (FG.up fw (by decide) (by decide))) ((w.1 0 47) + (1 : Int32)) (by decide)) (by decide) (by decide) hT) ((show NI 29 w from NI.fr (fl := [12, 15, 32, 33, 39, 43, 44, 45, 47, 48, 49, 50, 51]) (al := [0, 11, 13, 14, 35, 36, 37, 38, 40, 41, 42]) fw (by decide) n29)) ((show NI 23 w from NI.fr (fl := [12, 15, 32, 33, 39, 43, 44, 45, 47, 48, 49, 50, 51]) (al := [0, 11, 13, 14, 35, 36, 37, 38, 40, 41, 42]) fw (by decide) n23)) (n35) (show 1 ≤ (by9 + (1 : Int32)).toInt ∧ (by9 + (1 : Int32)).toInt ≤ 12 ∧ 11 ≤ (by9 + (1 : Int32)).toInt + (kk151 : Int) by omega)) tw_130 tw_131 (by decide +kernel) rfl rfl ⟨by show (40 * n + 11 + 2 * kk151) + 1 ≤ 40 * n + 10 + 2 * kk; omega, by show 8 + (5 + 11) + 28 * (40 * n + 11 + 2 * kk151) ≤ 28 * (40 * n + 10 + 2 * kk); omega⟩ (List.range (mW ad N cI cZ cJ (wA w 0 47 ((w.1 0 47) + (1 : Int32)))).length) (rg_map _) (mW_nd _ _ _ _ _ _) rfl rfl rfl rfl hl.1 rfl (Nat.le_of_ble_eq_true rfl) dX13_joined_57 ⟨Nat.le_of_ble_eq_true rfl, Nat.le_of_ble_eq_true rfl⟩) hP hD hS hA (fun u9 ce9 q9 H locs hx9 hP hD hS hc9 hv9 hf9 => ?_) (fun u154 H locs hw153 hP hD hS => ?_)
            · exact vx_out (fun x h9 => (hnt x h9).elim) hlocks hc9 hv9 hf9 (fun t9 ht9 hv8 => ⟨u9, (FG.tr (FG.f (FG.tr (FG.rf _) (FG.up fw (by decide) (by decide))) ((w.1 0 47) + (1 : Int32)) (by decide)) hx9), ⟨rfl, by rw [ht9]; exact hP, hD⟩, hS.F ht9⟩) hS.2.2 (by omega) (by omega)
            obtain ⟨fr153, pt153, pb153, pw153, po153, pf153, pk153, pp153, ph153, kc153, ko153, kg153, n35153⟩ := hw153
            have q153_2 : (u154.1 0 2).toInt = (w.1 0 2).toInt := congrArg Int32.toInt ((fr153.2.1 2 (by decide)).trans (show (wA w 0 47 ((w.1 0 47) + (1 : Int32))).1 0 2 = (w.1 0 2) by rfl))
            have q153_4 : (u154.1 0 4).toInt = (w.1 0 4).toInt := congrArg Int32.toInt ((fr153.2.1 4 (by decide)).trans (show (wA w 0 47 ((w.1 0 47) + (1 : Int32))).1 0 4 = (w.1 0 4) by rfl))
            have q153_5 : (u154.1 0 5).toInt = (w.1 0 5).toInt := congrArg Int32.toInt ((fr153.2.1 5 (by decide)).trans (show (wA w 0 47 ((w.1 0 47) + (1 : Int32))).1 0 5 = (w.1 0 5) by rfl))
            have q153_22 : (u154.1 0 22).toInt = (w.1 0 22).toInt := congrArg Int32.toInt ((fr153.2.1 22 (by decide)).trans (show (wA w 0 47 ((w.1 0 47) + (1 : Int32))).1 0 22 = (w.1 0 22) by rfl))
            have q153_27 : (u154.1 0 27).toInt = (w.1 0 27).toInt := congrArg Int32.toInt ((fr153.2.1 27 (by decide)).trans (show (wA w 0 47 ((w.1 0 47) + (1 : Int32))).1 0 27 = (w.1 0 27) by rfl))
            have q153_28 : (u154.1 0 28).toInt = (w.1 0 28).toInt := congrArg Int32.toInt ((fr153.2.1 28 (by decide)).trans (show (wA w 0 47 ((w.1 0 47) + (1 : Int32))).1 0 28 = (w.1 0 28) by rfl))
            have q153_30 : (u154.1 0 30).toInt = (w.1 0 30).toInt := congrArg Int32.toInt ((fr153.2.1 30 (by decide)).trans (show (wA w 0 47 ((w.1 0 47) + (1 : Int32))).1 0 30 = (w.1 0 30) by rfl))
            have q153_31 : (u154.1 0 31).toInt = (w.1 0 31).toInt := congrArg Int32.toInt ((fr153.2.1 31 (by decide)).trans (show (wA w 0 47 ((w.1 0 47) + (1 : Int32))).1 0 31 = (w.1 0 31) by rfl))
            have q153_34 : (u154.1 0 34).toInt = (w.1 0 34).toInt := congrArg Int32.toInt ((fr153.2.1 34 (by decide)).trans (show (wA w 0 47 ((w.1 0 47) + (1 : Int32))).1 0 34 = (w.1 0 34) by rfl))
            have q153_52 : (u154.1 0 52).toInt = (w.1 0 52).toInt := congrArg Int32.toInt ((fr153.2.1 52 (by decide)).trans (show (wA w 0 47 ((w.1 0 47) + (1 : Int32))).1 0 52 = (w.1 0 52) by rfl))
            have pt153 : ((w.1 0 47) + (1 : Int32)).toInt + 1 ≤ (u154.1 0 47).toInt ∧ (u154.1 0 47).toInt ≤ 1500 := pt153
            have pb153 : (w.1 0 49).toInt ≠ ((w.1 0 47) + (1 : Int32)).toInt := pb153
            have pw153 : (w.1 0 12).toInt ≤ (u154.1 0 12).toInt ∧ (u154.1 0 12).toInt - 15 * (u154.1 0 47).toInt ≤ (w.1 0 12).toInt - 15 * ((w.1 0 47) + (1 : Int32)).toInt + 5 := pw153
            have po153 : (w.1 0 15).toInt ≤ (u154.1 0 15).toInt ∧ (u154.1 0 15).toInt - 10 * (u154.1 0 47).toInt ≤ (w.1 0 15).toInt - 10 * ((w.1 0 47) + (1 : Int32)).toInt + 2 := po153
            have pf153 : (w.1 0 43).toInt ≤ (u154.1 0 43).toInt ∧ (u154.1 0 43).toInt - 15 * (u154.1 0 47).toInt ≤ (w.1 0 43).toInt - 15 * ((w.1 0 47) + (1 : Int32)).toInt := pf153
            have pk153 : (w.1 0 39).toInt ≤ (u154.1 0 39).toInt ∧ (u154.1 0 39).toInt - 1 * (u154.1 0 47).toInt ≤ (w.1 0 39).toInt - 1 * ((w.1 0 47) + (1 : Int32)).toInt := pk153
            have pp153 : (u154.1 0 32).toInt = (w.1 0 32).toInt ∧ (u154.1 0 48).toInt = (w.1 0 48).toInt := pp153
            have ph153 : (w.1 0 33).toInt ≤ (u154.1 0 33).toInt ∧ (u154.1 0 33).toInt ≤ 500 := ph153
            have kc153 : ∀ j : Nat, (j : Int) < (w.1 0 12).toInt → (u154.1 11) j = (w.1 11) j := kc153
            have ko153 : ∀ j : Nat, (j : Int) < (w.1 0 15).toInt → (u154.1 13) j = (w.1 13) j := ko153
            have kg153 : ∀ j : Nat, (j : Int) < (w.1 0 15).toInt → (u154.1 14) j = (w.1 14) j := kg153
            have n35153 : NI 35 u154 := n35153
            refine W.widen (k := 0) (n := 0) (by omega) (by omega) ?_
            refine lv_goto (tgt := 147) hx hb dX13_joined_60 (by decide) ?_
            refine lv_aload_n hx hb dX13_joined_147 rfl (lv_at hl 2 rfl) ?_
            refine cu_i (rn_V (n := 0) (As := []) (rest := []) hx hb hml hown ht hKK hFx hP hD hS hA (c_m_strength l dC dI cI cB cZ cJ cR tb H.size ad N u154  (show 0 ≤ (u154.1 0 47).toInt ∧ (u154.1 0 47).toInt ≤ 1500 by omega)) tw_128 tw_129 (by decide +kernel) rfl rfl ⟨by show 0 + 1 ≤ 40 * n + 10 + 2 * kk; omega, by show 8 + (1 + 11) + 0 ≤ 28 * (40 * n + 10 + 2 * kk); omega⟩ (List.range (mW ad N cI cZ cJ u154).length) (rg_map _) (mW_nd _ _ _ _ _ _) rfl rfl rfl rfl hl.1 rfl (Nat.le_of_ble_eq_true rfl) dX13_joined_148 ⟨Nat.le_of_ble_eq_true rfl, Nat.le_of_ble_eq_true rfl⟩) hP hD hS hA (fun r158 u157 H locs hw156 hP hD hS => ?_)
            obtain ⟨rfl, a156, b156⟩ := hw156
            have a156 : 0 ≤ r158.toInt := a156
            have b156 : r158.toInt ≤ 10 := b156
            refine W.widen (k := 0) (n := 0) (by omega) (by omega) ?_
            refine lv_istore_n (lv' := [(3, .int r158), (4, .int ((w.2 (w.1 0 47).toNatClampNeg).toInt32)), (0, .ref (ad 0)), (1, .int pa), (2, .int pb)]) hx hb dX13_joined_151 rfl hl (by decide) rfl (fun ls hl => ?_)
            refine lv_goto (tgt := 13) hx hb dX13_joined_152 (by decide) ?_
            exact ih13 (r158, u154) _ _ _ (by show (1500 - (u154.1 0 47).toInt).toNat < (1500 - (w.1 0 47).toInt).toNat; omega) ⟨(show FG [12, 15, 32, 33, 39, 43, 44, 45, 47, 48, 49, 50, 51] [0, 11, 13, 14, 35, 36, 37, 38, 40, 41, 42] v u154 from (FG.tr (FG.f (FG.tr (FG.rf _) (FG.up fw (by decide) (by decide))) ((w.1 0 47) + (1 : Int32)) (by decide)) (FG.up fr153 (by decide) (by decide)))), (show 0 ≤ r158.toInt ∧ r158.toInt ≤ 10 by omega), (show (v.1 0 47).toInt + 0 ≤ (u154.1 0 47).toInt ∧ (u154.1 0 47).toInt ≤ 1500 by omega), (show pb.toInt ≠ 0 ∨ ((v.1 0 47).toInt + 1 ≤ (u154.1 0 47).toInt ∧ (v.1 0 49).toInt ≠ (v.1 0 47).toInt) by omega), (show (v.1 0 12).toInt ≤ (u154.1 0 12).toInt ∧ (u154.1 0 12).toInt - 15 * (u154.1 0 47).toInt ≤ (v.1 0 12).toInt - 15 * (v.1 0 47).toInt by omega), (show (v.1 0 15).toInt ≤ (u154.1 0 15).toInt ∧ (u154.1 0 15).toInt - 10 * (u154.1 0 47).toInt ≤ (v.1 0 15).toInt - 10 * (v.1 0 47).toInt by omega), (show (v.1 0 43).toInt ≤ (u154.1 0 43).toInt ∧ (u154.1 0 43).toInt - 15 * (u154.1 0 47).toInt ≤ (v.1 0 43).toInt - 15 * (v.1 0 47).toInt by omega), (show (v.1 0 39).toInt ≤ (u154.1 0 39).toInt ∧ (u154.1 0 39).toInt - 1 * (u154.1 0 47).toInt ≤ (v.1 0 39).toInt - 1 * (v.1 0 47).toInt by omega), (show (u154.1 0 32).toInt = (v.1 0 32).toInt ∧ (u154.1 0 48).toInt = (v.1 0 48).toInt by omega), (show (v.1 0 33).toInt ≤ (u154.1 0 33).toInt ∧ (u154.1 0 33).toInt ≤ 500 by omega), (show ∀ j : Nat, (j : Int) < (v.1 0 12).toInt → (u154.1 11) j = (v.1 11) j from (fun (j9 : Nat) hj9 => (Eq.trans (kc153 j9 (by omega)) (kc j9 (by omega))))), (show ∀ j : Nat, (j : Int) < (v.1 0 15).toInt → (u154.1 13) j = (v.1 13) j from (fun (j9 : Nat) hj9 => (Eq.trans (ko153 j9 (by omega)) (ko j9 (by omega))))), (show ∀ j : Nat, (j : Int) < (v.1 0 15).toInt → (u154.1 14) j = (v.1 14) j from (fun (j9 : Nat) hj9 => (Eq.trans (kg153 j9 (by omega)) (kg j9 (by omega))))), (show NI 35 u154 from n35153), hP, hD, hS, lv_sub hl [0, 2, 3, 4] rfl⟩
          · have z159 : by9.toInt = 1 := eq_z rfl (show (1 : Int32).toInt = 1 by decide) h148
            refine lv_iconst (v := 1) hx hb dX13_joined_49 (by decide) ?_
            refine lv_goto (tgt := 54) hx hb dX13_joined_50 (by decide) ?_
            refine lv_iload_n hx hb dX13_joined_54 rfl (lv_at hl 1 rfl) ?_
            refine lv_iconst (v := 1) hx hb dX13_joined_55 (by decide) ?_
            refine lv_iadd hx hb dX13_joined_56 ?_
            have z160 : (by9 + (1 : Int32)).toInt = by9.toInt + 1 := add_z rfl (show (1 : Int32).toInt = 1 by decide) (by omega) (by omega)
            obtain ⟨kk161, hk162⟩ : ∃ m, kk = m + 1 := ⟨kk - 1, by omega⟩
            refine cux_v (rx_V (n := 2) (As := [.int 1, .int (by9 + (1 : Int32))]) (rest := []) hx hb hml hown ht hKK hFx hP hD hS hA (c_m_both l n kk161 (ihJ kk161 hk162) dC dI cI cB cZ cJ cR tb H.size ad N (wA w 0 47 ((w.1 0 47) + (1 : Int32))) (1 : Int32) (by9 + (1 : Int32)) (show 40 ≤ (w.1 0 48).toInt + (n : Int) by omega) (show 0 ≤ ((w.1 0 47) + (1 : Int32)).toInt ∧ ((w.1 0 47) + (1 : Int32)).toInt ≤ 1500 by omega) (show 0 ≤ (w.1 0 48).toInt ∧ (w.1 0 48).toInt ≤ 40 by omega) (show 0 ≤ (w.1 0 30).toInt ∧ (w.1 0 30).toInt ≤ 500 by omega) (show 0 ≤ (w.1 0 33).toInt ∧ (w.1 0 33).toInt ≤ 500 by omega) (show 0 ≤ (w.1 0 32).toInt ∧ (w.1 0 30).toInt + (w.1 0 32).toInt ≤ 500 by omega) (show 0 ≤ (w.1 0 12).toInt ∧ (w.1 0 12).toInt ≤ 15 * ((w.1 0 47) + (1 : Int32)).toInt + -8 by omega) (show 0 ≤ (w.1 0 15).toInt ∧ (w.1 0 15).toInt ≤ 10 * ((w.1 0 47) + (1 : Int32)).toInt + -5 by omega) (show 0 ≤ (w.1 0 43).toInt ∧ (w.1 0 43).toInt ≤ 15 * ((w.1 0 47) + (1 : Int32)).toInt + 0 by omega) (show 0 ≤ (w.1 0 39).toInt ∧ (w.1 0 39).toInt ≤ 1 * ((w.1 0 47) + (1 : Int32)).toInt + 0 by omega) (show 0 ≤ (w.1 0 27).toInt ∧ (w.1 0 27).toInt ≤ 60 by omega) (FG.ti (fl := pfl) (al := pal) (FG.f (FG.tr (FG.rf _) (FG.up fw (by decide) (by decide))) ((w.1 0 47) + (1 : Int32)) (by decide)) (by decide) (by decide) hT) ((show NI 29 w from NI.fr (fl := [12, 15, 32, 33, 39, 43, 44, 45, 47, 48, 49, 50, 51]) (al := [0, 11, 13, 14, 35, 36, 37, 38, 40, 41, 42]) fw (by decide) n29)) ((show NI 23 w from NI.fr (fl := [12, 15, 32, 33, 39, 43, 44, 45, 47, 48, 49, 50, 51]) (al := [0, 11, 13, 14, 35, 36, 37, 38, 40, 41, 42]) fw (by decide) n23)) (n35) (show 1 ≤ (by9 + (1 : Int32)).toInt ∧ (by9 + (1 : Int32)).toInt ≤ 12 ∧ 11 ≤ (by9 + (1 : Int32)).toInt + (kk161 : Int) by omega)) tw_130 tw_131 (by decide +kernel) rfl rfl ⟨by show (40 * n + 11 + 2 * kk161) + 1 ≤ 40 * n + 10 + 2 * kk; omega, by show 8 + (5 + 11) + 28 * (40 * n + 11 + 2 * kk161) ≤ 28 * (40 * n + 10 + 2 * kk); omega⟩ (List.range (mW ad N cI cZ cJ (wA w 0 47 ((w.1 0 47) + (1 : Int32)))).length) (rg_map _) (mW_nd _ _ _ _ _ _) rfl rfl rfl rfl hl.1 rfl (Nat.le_of_ble_eq_true rfl) dX13_joined_57 ⟨Nat.le_of_ble_eq_true rfl, Nat.le_of_ble_eq_true rfl⟩) hP hD hS hA (fun u9 ce9 q9 H locs hx9 hP hD hS hc9 hv9 hf9 => ?_) (fun u164 H locs hw163 hP hD hS => ?_)
            · exact vx_out (fun x h9 => (hnt x h9).elim) hlocks hc9 hv9 hf9 (fun t9 ht9 hv8 => ⟨u9, (FG.tr (FG.f (FG.tr (FG.rf _) (FG.up fw (by decide) (by decide))) ((w.1 0 47) + (1 : Int32)) (by decide)) hx9), ⟨rfl, by rw [ht9]; exact hP, hD⟩, hS.F ht9⟩) hS.2.2 (by omega) (by omega)
            obtain ⟨fr163, pt163, pb163, pw163, po163, pf163, pk163, pp163, ph163, kc163, ko163, kg163, n35163⟩ := hw163
            have q163_2 : (u164.1 0 2).toInt = (w.1 0 2).toInt := congrArg Int32.toInt ((fr163.2.1 2 (by decide)).trans (show (wA w 0 47 ((w.1 0 47) + (1 : Int32))).1 0 2 = (w.1 0 2) by rfl))
            have q163_4 : (u164.1 0 4).toInt = (w.1 0 4).toInt := congrArg Int32.toInt ((fr163.2.1 4 (by decide)).trans (show (wA w 0 47 ((w.1 0 47) + (1 : Int32))).1 0 4 = (w.1 0 4) by rfl))
            have q163_5 : (u164.1 0 5).toInt = (w.1 0 5).toInt := congrArg Int32.toInt ((fr163.2.1 5 (by decide)).trans (show (wA w 0 47 ((w.1 0 47) + (1 : Int32))).1 0 5 = (w.1 0 5) by rfl))
            have q163_22 : (u164.1 0 22).toInt = (w.1 0 22).toInt := congrArg Int32.toInt ((fr163.2.1 22 (by decide)).trans (show (wA w 0 47 ((w.1 0 47) + (1 : Int32))).1 0 22 = (w.1 0 22) by rfl))
            have q163_27 : (u164.1 0 27).toInt = (w.1 0 27).toInt := congrArg Int32.toInt ((fr163.2.1 27 (by decide)).trans (show (wA w 0 47 ((w.1 0 47) + (1 : Int32))).1 0 27 = (w.1 0 27) by rfl))
            have q163_28 : (u164.1 0 28).toInt = (w.1 0 28).toInt := congrArg Int32.toInt ((fr163.2.1 28 (by decide)).trans (show (wA w 0 47 ((w.1 0 47) + (1 : Int32))).1 0 28 = (w.1 0 28) by rfl))
            have q163_30 : (u164.1 0 30).toInt = (w.1 0 30).toInt := congrArg Int32.toInt ((fr163.2.1 30 (by decide)).trans (show (wA w 0 47 ((w.1 0 47) + (1 : Int32))).1 0 30 = (w.1 0 30) by rfl))
            have q163_31 : (u164.1 0 31).toInt = (w.1 0 31).toInt := congrArg Int32.toInt ((fr163.2.1 31 (by decide)).trans (show (wA w 0 47 ((w.1 0 47) + (1 : Int32))).1 0 31 = (w.1 0 31) by rfl))
            have q163_34 : (u164.1 0 34).toInt = (w.1 0 34).toInt := congrArg Int32.toInt ((fr163.2.1 34 (by decide)).trans (show (wA w 0 47 ((w.1 0 47) + (1 : Int32))).1 0 34 = (w.1 0 34) by rfl))
            have q163_52 : (u164.1 0 52).toInt = (w.1 0 52).toInt := congrArg Int32.toInt ((fr163.2.1 52 (by decide)).trans (show (wA w 0 47 ((w.1 0 47) + (1 : Int32))).1 0 52 = (w.1 0 52) by rfl))
            have pt163 : ((w.1 0 47) + (1 : Int32)).toInt + 1 ≤ (u164.1 0 47).toInt ∧ (u164.1 0 47).toInt ≤ 1500 := pt163
            have pb163 : (w.1 0 49).toInt ≠ ((w.1 0 47) + (1 : Int32)).toInt := pb163
            have pw163 : (w.1 0 12).toInt ≤ (u164.1 0 12).toInt ∧ (u164.1 0 12).toInt - 15 * (u164.1 0 47).toInt ≤ (w.1 0 12).toInt - 15 * ((w.1 0 47) + (1 : Int32)).toInt + 5 := pw163
            have po163 : (w.1 0 15).toInt ≤ (u164.1 0 15).toInt ∧ (u164.1 0 15).toInt - 10 * (u164.1 0 47).toInt ≤ (w.1 0 15).toInt - 10 * ((w.1 0 47) + (1 : Int32)).toInt + 2 := po163
            have pf163 : (w.1 0 43).toInt ≤ (u164.1 0 43).toInt ∧ (u164.1 0 43).toInt - 15 * (u164.1 0 47).toInt ≤ (w.1 0 43).toInt - 15 * ((w.1 0 47) + (1 : Int32)).toInt := pf163
            have pk163 : (w.1 0 39).toInt ≤ (u164.1 0 39).toInt ∧ (u164.1 0 39).toInt - 1 * (u164.1 0 47).toInt ≤ (w.1 0 39).toInt - 1 * ((w.1 0 47) + (1 : Int32)).toInt := pk163
            have pp163 : (u164.1 0 32).toInt = (w.1 0 32).toInt ∧ (u164.1 0 48).toInt = (w.1 0 48).toInt := pp163
            have ph163 : (w.1 0 33).toInt ≤ (u164.1 0 33).toInt ∧ (u164.1 0 33).toInt ≤ 500 := ph163
            have kc163 : ∀ j : Nat, (j : Int) < (w.1 0 12).toInt → (u164.1 11) j = (w.1 11) j := kc163
            have ko163 : ∀ j : Nat, (j : Int) < (w.1 0 15).toInt → (u164.1 13) j = (w.1 13) j := ko163
            have kg163 : ∀ j : Nat, (j : Int) < (w.1 0 15).toInt → (u164.1 14) j = (w.1 14) j := kg163
            have n35163 : NI 35 u164 := n35163
            refine W.widen (k := 0) (n := 0) (by omega) (by omega) ?_
            refine lv_goto (tgt := 147) hx hb dX13_joined_60 (by decide) ?_
            refine lv_aload_n hx hb dX13_joined_147 rfl (lv_at hl 2 rfl) ?_
            refine cu_i (rn_V (n := 0) (As := []) (rest := []) hx hb hml hown ht hKK hFx hP hD hS hA (c_m_strength l dC dI cI cB cZ cJ cR tb H.size ad N u164  (show 0 ≤ (u164.1 0 47).toInt ∧ (u164.1 0 47).toInt ≤ 1500 by omega)) tw_128 tw_129 (by decide +kernel) rfl rfl ⟨by show 0 + 1 ≤ 40 * n + 10 + 2 * kk; omega, by show 8 + (1 + 11) + 0 ≤ 28 * (40 * n + 10 + 2 * kk); omega⟩ (List.range (mW ad N cI cZ cJ u164).length) (rg_map _) (mW_nd _ _ _ _ _ _) rfl rfl rfl rfl hl.1 rfl (Nat.le_of_ble_eq_true rfl) dX13_joined_148 ⟨Nat.le_of_ble_eq_true rfl, Nat.le_of_ble_eq_true rfl⟩) hP hD hS hA (fun r168 u167 H locs hw166 hP hD hS => ?_)
            obtain ⟨rfl, a166, b166⟩ := hw166
            have a166 : 0 ≤ r168.toInt := a166
            have b166 : r168.toInt ≤ 10 := b166
            refine W.widen (k := 0) (n := 0) (by omega) (by omega) ?_
            refine lv_istore_n (lv' := [(3, .int r168), (4, .int ((w.2 (w.1 0 47).toNatClampNeg).toInt32)), (0, .ref (ad 0)), (1, .int pa), (2, .int pb)]) hx hb dX13_joined_151 rfl hl (by decide) rfl (fun ls hl => ?_)
            refine lv_goto (tgt := 13) hx hb dX13_joined_152 (by decide) ?_
            exact ih13 (r168, u164) _ _ _ (by show (1500 - (u164.1 0 47).toInt).toNat < (1500 - (w.1 0 47).toInt).toNat; omega) ⟨(show FG [12, 15, 32, 33, 39, 43, 44, 45, 47, 48, 49, 50, 51] [0, 11, 13, 14, 35, 36, 37, 38, 40, 41, 42] v u164 from (FG.tr (FG.f (FG.tr (FG.rf _) (FG.up fw (by decide) (by decide))) ((w.1 0 47) + (1 : Int32)) (by decide)) (FG.up fr163 (by decide) (by decide)))), (show 0 ≤ r168.toInt ∧ r168.toInt ≤ 10 by omega), (show (v.1 0 47).toInt + 0 ≤ (u164.1 0 47).toInt ∧ (u164.1 0 47).toInt ≤ 1500 by omega), (show pb.toInt ≠ 0 ∨ ((v.1 0 47).toInt + 1 ≤ (u164.1 0 47).toInt ∧ (v.1 0 49).toInt ≠ (v.1 0 47).toInt) by omega), (show (v.1 0 12).toInt ≤ (u164.1 0 12).toInt ∧ (u164.1 0 12).toInt - 15 * (u164.1 0 47).toInt ≤ (v.1 0 12).toInt - 15 * (v.1 0 47).toInt by omega), (show (v.1 0 15).toInt ≤ (u164.1 0 15).toInt ∧ (u164.1 0 15).toInt - 10 * (u164.1 0 47).toInt ≤ (v.1 0 15).toInt - 10 * (v.1 0 47).toInt by omega), (show (v.1 0 43).toInt ≤ (u164.1 0 43).toInt ∧ (u164.1 0 43).toInt - 15 * (u164.1 0 47).toInt ≤ (v.1 0 43).toInt - 15 * (v.1 0 47).toInt by omega), (show (v.1 0 39).toInt ≤ (u164.1 0 39).toInt ∧ (u164.1 0 39).toInt - 1 * (u164.1 0 47).toInt ≤ (v.1 0 39).toInt - 1 * (v.1 0 47).toInt by omega), (show (u164.1 0 32).toInt = (v.1 0 32).toInt ∧ (u164.1 0 48).toInt = (v.1 0 48).toInt by omega), (show (v.1 0 33).toInt ≤ (u164.1 0 33).toInt ∧ (u164.1 0 33).toInt ≤ 500 by omega), (show ∀ j : Nat, (j : Int) < (v.1 0 12).toInt → (u164.1 11) j = (v.1 11) j from (fun (j9 : Nat) hj9 => (Eq.trans (kc163 j9 (by omega)) (kc j9 (by omega))))), (show ∀ j : Nat, (j : Int) < (v.1 0 15).toInt → (u164.1 13) j = (v.1 13) j from (fun (j9 : Nat) hj9 => (Eq.trans (ko163 j9 (by omega)) (ko j9 (by omega))))), (show ∀ j : Nat, (j : Int) < (v.1 0 15).toInt → (u164.1 14) j = (v.1 14) j from (fun (j9 : Nat) hj9 => (Eq.trans (kg163 j9 (by omega)) (kg j9 (by omega))))), (show NI 35 u164 from n35163), hP, hD, hS, lv_sub hl [0, 2, 3, 4] rfl⟩
