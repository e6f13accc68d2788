theorem dX13_index_0 : decode cX13_index 0 = .ok (.aload_n 0, 1) := by decide +kernel
theorem dX13_index_1 : decode cX13_index 1 = .ok (.bipush 91, 2) := by decide +kernel
theorem dX13_index_3 : decode cX13_index 3 = .ok (.invokevirtual 281, 3) := by decide +kernel
theorem tw_78 : (.code yX13_open cX13_open 2 none : Cond) ∈ tw_W := tw_in (by decide +kernel) (by decide +kernel)
theorem tw_79 : ∀ w ∈ ([.methodLink RX13 281 yX13_open, .instanceMethod yX13_open, .selects RX13 yX13_open yX13_open, .initialized RX13] : List Cond), w ∈ tw_W := tw_all (by decide +kernel)
theorem dX13_index_6 : decode cX13_index 6 = .ok (.aload_n 0, 1) := by decide +kernel
theorem dX13_index_7 : decode cX13_index 7 = .ok (.invokevirtual 284, 3) := by decide +kernel
theorem tw_80 : (.code yX13_expression cX13_expression 1 none : Cond) ∈ tw_W := tw_in (by decide +kernel) (by decide +kernel)
theorem tw_81 : ∀ w ∈ ([.methodLink RX13 284 yX13_expression, .instanceMethod yX13_expression, .selects RX13 yX13_expression yX13_expression, .initialized RX13] : List Cond), w ∈ tw_W := tw_all (by decide +kernel)
theorem dX13_index_10 : decode cX13_index 10 = .ok (.aload_n 0, 1) := by decide +kernel
theorem dX13_index_11 : decode cX13_index 11 = .ok (.bipush 93, 2) := by decide +kernel
theorem dX13_index_13 : decode cX13_index 13 = .ok (.invokevirtual 287, 3) := by decide +kernel
theorem tw_82 : (.code yX13_close cX13_close 2 none : Cond) ∈ tw_W := tw_in (by decide +kernel) (by decide +kernel)
theorem tw_83 : ∀ w ∈ ([.methodLink RX13 287 yX13_close, .instanceMethod yX13_close, .selects RX13 yX13_close yX13_close, .initialized RX13] : List Cond), w ∈ tw_W := tw_all (by decide +kernel)
theorem dX13_index_16 : decode cX13_index 16 = .ok (.aload_n 0, 1) := by decide +kernel
theorem dX13_index_17 : decode cX13_index 17 = .ok (.getfield 290, 3) := by decide +kernel
theorem tw_84 : (.fieldLink RX13 290 "PocketCompilerModel" "gMany" "[I" : Cond) ∈ tw_W := tw_in (by decide +kernel) (by decide +kernel)
theorem dX13_index_20 : decode cX13_index 20 = .ok (.iload_n 1, 1) := by decide +kernel
theorem dX13_index_21 : decode cX13_index 21 = .ok (.iaload, 1) := by decide +kernel
theorem dX13_index_22 : decode cX13_index 22 = .ok (.istore_n 2, 1) := by decide +kernel
theorem dX13_index_23 : decode cX13_index 23 = .ok (.aload_n 0, 1) := by decide +kernel
theorem dX13_index_24 : decode cX13_index 24 = .ok (.bipush 6, 2) := by decide +kernel
theorem dX13_index_26 : decode cX13_index 26 = .ok (.iload_n 2, 1) := by decide +kernel
theorem dX13_index_27 : decode cX13_index 27 = .ok (.invokestatic 94, 3) := by decide +kernel
theorem dX13_index_30 : decode cX13_index 30 = .ok (.invokestatic 223, 3) := by decide +kernel
theorem dX13_index_33 : decode cX13_index 33 = .ok (.invokevirtual 111, 3) := by decide +kernel
theorem dX13_index_36 : decode cX13_index 36 = .ok (.pop, 1) := by decide +kernel
theorem dX13_index_37 : decode cX13_index 37 = .ok (.aload_n 0, 1) := by decide +kernel
theorem dX13_index_38 : decode cX13_index 38 = .ok (.bipush 6, 2) := by decide +kernel
theorem dX13_index_40 : decode cX13_index 40 = .ok (.bipush 6, 2) := by decide +kernel
theorem dX13_index_42 : decode cX13_index 42 = .ok (.iload_n 2, 1) := by decide +kernel
theorem dX13_index_43 : decode cX13_index 43 = .ok (.invokestatic 226, 3) := by decide +kernel
theorem dX13_index_46 : decode cX13_index 46 = .ok (.invokestatic 219, 3) := by decide +kernel
theorem dX13_index_49 : decode cX13_index 49 = .ok (.invokevirtual 111, 3) := by decide +kernel
theorem dX13_index_52 : decode cX13_index 52 = .ok (.pop, 1) := by decide +kernel
theorem dX13_index_53 : decode cX13_index 53 = .ok (.aload_n 0, 1) := by decide +kernel
theorem dX13_index_54 : decode cX13_index 54 = .ok (.bipush 6, 2) := by decide +kernel
theorem dX13_index_56 : decode cX13_index 56 = .ok (.bipush 10, 2) := by decide +kernel
theorem dX13_index_58 : decode cX13_index 58 = .ok (.bipush 6, 2) := by decide +kernel
theorem dX13_index_60 : decode cX13_index 60 = .ok (.bipush 12, 2) := by decide +kernel
theorem dX13_index_62 : decode cX13_index 62 = .ok (.invokestatic 293, 3) := by decide +kernel
theorem tw_85 : (.code yX13_byB cX13_byB 4 (some .int) : Cond) ∈ tw_W := tw_in (by decide +kernel) (by decide +kernel)
theorem tw_86 : ∀ w ∈ ([.methodLink RX13 293 yX13_byB, .static yX13_byB, .initialized yX13_byB.cls] : List Cond), w ∈ tw_W := tw_all (by decide +kernel)
theorem dX13_index_65 : decode cX13_index 65 = .ok (.invokevirtual 111, 3) := by decide +kernel
theorem dX13_index_68 : decode cX13_index 68 = .ok (.pop, 1) := by decide +kernel
theorem dX13_index_69 : decode cX13_index 69 = .ok (.aload_n 0, 1) := by decide +kernel
theorem dX13_index_70 : decode cX13_index 70 = .ok (.bipush 17, 2) := by decide +kernel
theorem dX13_index_72 : decode cX13_index 72 = .ok (.iconst 0, 1) := by decide +kernel
theorem dX13_index_73 : decode cX13_index 73 = .ok (.iconst 3, 1) := by decide +kernel
theorem dX13_index_74 : decode cX13_index 74 = .ok (.invokestatic 219, 3) := by decide +kernel
theorem dX13_index_77 : decode cX13_index 77 = .ok (.invokevirtual 111, 3) := by decide +kernel
theorem dX13_index_80 : decode cX13_index 80 = .ok (.pop, 1) := by decide +kernel
theorem dX13_index_81 : decode cX13_index 81 = .ok (.aload_n 0, 1) := by decide +kernel
theorem dX13_index_82 : decode cX13_index 82 = .ok (.ldc_w 297, 3) := by decide +kernel
theorem tw_87 : (.constant RX13 297 (1048691) : Cond) ∈ tw_W := tw_in (by decide +kernel) (by decide +kernel)
theorem dX13_index_85 : decode cX13_index 85 = .ok (.invokevirtual 111, 3) := by decide +kernel
theorem dX13_index_88 : decode cX13_index 88 = .ok (.pop, 1) := by decide +kernel
theorem dX13_index_89 : decode cX13_index 89 = .ok (.aload_n 0, 1) := by decide +kernel
theorem dX13_index_90 : decode cX13_index 90 = .ok (.bipush 19, 2) := by decide +kernel
theorem dX13_index_92 : decode cX13_index 92 = .ok (.iconst 1, 1) := by decide +kernel
theorem dX13_index_93 : decode cX13_index 93 = .ok (.bipush 10, 2) := by decide +kernel
theorem dX13_index_95 : decode cX13_index 95 = .ok (.bipush 10, 2) := by decide +kernel
theorem dX13_index_97 : decode cX13_index 97 = .ok (.iconst 2, 1) := by decide +kernel
theorem dX13_index_98 : decode cX13_index 98 = .ok (.invokestatic 97, 3) := by decide +kernel
theorem dX13_index_101 : decode cX13_index 101 = .ok (.invokevirtual 111, 3) := by decide +kernel
theorem dX13_index_104 : decode cX13_index 104 = .ok (.pop, 1) := by decide +kernel
theorem dX13_index_105 : decode cX13_index 105 = .ok (.aload_n 0, 1) := by decide +kernel
theorem dX13_index_106 : decode cX13_index 106 = .ok (.aload_n 0, 1) := by decide +kernel
theorem dX13_index_107 : decode cX13_index 107 = .ok (.bipush 6, 2) := by decide +kernel
theorem dX13_index_109 : decode cX13_index 109 = .ok (.iconst 0, 1) := by decide +kernel
theorem dX13_index_110 : decode cX13_index 110 = .ok (.invokestatic 223, 3) := by decide +kernel
theorem dX13_index_113 : decode cX13_index 113 = .ok (.invokevirtual 111, 3) := by decide +kernel
theorem dX13_index_116 : decode cX13_index 116 = .ok (.iload_n 1, 1) := by decide +kernel
theorem dX13_index_117 : decode cX13_index 117 = .ok (.iconst 0, 1) := by decide +kernel
theorem dX13_index_118 : decode cX13_index 118 = .ok (.invokevirtual 216, 3) := by decide +kernel
theorem dX13_index_121 : decode cX13_index 121 = .ok (.aload_n 0, 1) := by decide +kernel
theorem dX13_index_122 : decode cX13_index 122 = .ok (.iconst 0, 1) := by decide +kernel
theorem dX13_index_123 : decode cX13_index 123 = .ok (.iconst 0, 1) := by decide +kernel
theorem dX13_index_124 : decode cX13_index 124 = .ok (.bipush 10, 2) := by decide +kernel
theorem dX13_index_126 : decode cX13_index 126 = .ok (.bipush 10, 2) := by decide +kernel
theorem dX13_index_128 : decode cX13_index 128 = .ok (.bipush 6, 2) := by decide +kernel
theorem dX13_index_130 : decode cX13_index 130 = .ok (.invokestatic 213, 3) := by decide +kernel
theorem dX13_index_133 : decode cX13_index 133 = .ok (.invokevirtual 111, 3) := by decide +kernel
theorem dX13_index_136 : decode cX13_index 136 = .ok (.pop, 1) := by decide +kernel
theorem dX13_index_137 : decode cX13_index 137 = .ok (.aload_n 0, 1) := by decide +kernel
theorem dX13_index_138 : decode cX13_index 138 = .ok (.iconst 5, 1) := by decide +kernel
theorem dX13_index_139 : decode cX13_index 139 = .ok (.iload_n 1, 1) := by decide +kernel
theorem dX13_index_140 : decode cX13_index 140 = .ok (.invokevirtual 210, 3) := by decide +kernel
theorem dX13_index_143 : decode cX13_index 143 = .ok (.pop, 1) := by decide +kernel
theorem dX13_index_144 : decode cX13_index 144 = .ok (.return_, 1) := by decide +kernel
def Cx_expression (l : Launch) (n : Nat) : Prop := ∀ (dC : Nat → ClassId) (dI : Nat → Nat → Nat) (cI cB cZ cJ cR : ClassId) (tb : Nat → Nat) (sz : Nat) (ad : Nat → Nat) (N : Nat) (v : MS)  (zn : 40 ≤ (v.1 0 48).toInt + (n : Int)) (zt : 0 ≤ (v.1 0 47).toInt ∧ (v.1 0 47).toInt ≤ 1500) (zop : 0 ≤ (v.1 0 48).toInt ∧ (v.1 0 48).toInt ≤ 40) (zkn : 0 ≤ (v.1 0 30).toInt ∧ (v.1 0 30).toInt ≤ 500) (zhi : 0 ≤ (v.1 0 33).toInt ∧ (v.1 0 33).toInt ≤ 500) (zs : 0 ≤ (v.1 0 32).toInt ∧ (v.1 0 30).toInt + (v.1 0 32).toInt ≤ 500) (zws : 0 ≤ (v.1 0 12).toInt ∧ (v.1 0 12).toInt ≤ 15 * (v.1 0 47).toInt + 2) (zos : 0 ≤ (v.1 0 15).toInt ∧ (v.1 0 15).toInt ≤ 10 * (v.1 0 47).toInt + 0) (zfs : 0 ≤ (v.1 0 43).toInt ∧ (v.1 0 43).toInt ≤ 15 * (v.1 0 47).toInt + 0) (zcs : 0 ≤ (v.1 0 39).toInt ∧ (v.1 0 39).toInt ≤ 1 * (v.1 0 47).toInt + 0) (zgl : 0 ≤ (v.1 0 27).toInt ∧ (v.1 0 27).toInt ≤ 60) (hT : TI v) (n29 : NI 29 v) (n23 : NI 23 v) (n35 : NI 35 v), vx_Met l yX13_expression (Cond.code yX13_expression cX13_expression 1 none :: tw_W) ({ frames := 40 * n + 36, cells := 0, slots := 0, locals := 28 * (40 * n + 36) }) (pc_ (dC, dI) (tyS cI cB cZ cJ cR) tb (mW ad N cI cZ cJ v) sz [.ref (ad 0)]) (qv_ (dC, dI) (mW ad N cI cZ cJ v) sz (fun (u : MS) => FG [12, 15, 32, 33, 39, 43, 44, 45, 47, 48, 49, 50, 51] [0, 11, 13, 14, 35, 36, 37, 38, 40, 41, 42] v u ∧ ((v.1 0 47).toInt + 1 ≤ (u.1 0 47).toInt ∧ (u.1 0 47).toInt ≤ 1500) ∧ ((v.1 0 49).toInt ≠ (v.1 0 47).toInt) ∧ ((v.1 0 12).toInt ≤ (u.1 0 12).toInt ∧ (u.1 0 12).toInt - 15 * (u.1 0 47).toInt ≤ (v.1 0 12).toInt - 15 * (v.1 0 47).toInt) ∧ ((v.1 0 15).toInt ≤ (u.1 0 15).toInt ∧ (u.1 0 15).toInt - 10 * (u.1 0 47).toInt ≤ (v.1 0 15).toInt - 10 * (v.1 0 47).toInt) ∧ ((v.1 0 43).toInt ≤ (u.1 0 43).toInt ∧ (u.1 0 43).toInt - 15 * (u.1 0 47).toInt ≤ (v.1 0 43).toInt - 15 * (v.1 0 47).toInt) ∧ ((v.1 0 39).toInt ≤ (u.1 0 39).toInt ∧ (u.1 0 39).toInt - 1 * (u.1 0 47).toInt ≤ (v.1 0 39).toInt - 1 * (v.1 0 47).toInt) ∧ ((u.1 0 32).toInt = (v.1 0 32).toInt ∧ (u.1 0 48).toInt = (v.1 0 48).toInt) ∧ ((v.1 0 33).toInt ≤ (u.1 0 33).toInt ∧ (u.1 0 33).toInt ≤ 500) ∧ (∀ j : Nat, (j : Int) < (v.1 0 12).toInt → (u.1 11) j = (v.1 11) j) ∧ (∀ j : Nat, (j : Int) < (v.1 0 15).toInt → (u.1 13) j = (v.1 13) j) ∧ (∀ j : Nat, (j : Int) < (v.1 0 15).toInt → (u.1 14) j = (v.1 14) j) ∧ (NI 35 u)) (fun (u : MS) => (mW ad N cI cZ cJ u))) (qxm (dC, dI) (mW ad N cI cZ cJ v) sz (fun (u : MS) => (mW ad N cI cZ cJ u)) (fun (u : MS) => Fr v u)) 0 0 (va_A (mW ad N cI cZ cJ v) sz)
set_option maxHeartbeats 16000000 in
set_option maxRecDepth 100000 in
theorem c_m_index (l : Launch) (n : Nat) (ihE : ∀ m, n = m + 1 → Cx_expression l m) (dC : Nat → ClassId) (dI : Nat → Nat → Nat) (cI cB cZ cJ cR : ClassId) (tb : Nat → Nat) (sz : Nat) (ad : Nat → Nat) (N : Nat) (v : MS) (pa : Int32) (zn : 40 ≤ (v.1 0 48).toInt + (n : Int)) (zt : 0 ≤ (v.1 0 47).toInt ∧ (v.1 0 47).toInt ≤ 1500) (zop : 0 ≤ (v.1 0 48).toInt ∧ (v.1 0 48).toInt ≤ 40) (zkn : 0 ≤ (v.1 0 30).toInt ∧ (v.1 0 30).toInt ≤ 500) (zhi : 0 ≤ (v.1 0 33).toInt ∧ (v.1 0 33).toInt ≤ 500) (zs : 0 ≤ (v.1 0 32).toInt ∧ (v.1 0 30).toInt + (v.1 0 32).toInt ≤ 500) (zws : 0 ≤ (v.1 0 12).toInt ∧ (v.1 0 12).toInt ≤ 15 * (v.1 0 47).toInt + 2) (zos : 0 ≤ (v.1 0 15).toInt ∧ (v.1 0 15).toInt ≤ 10 * (v.1 0 47).toInt + 0) (zfs : 0 ≤ (v.1 0 43).toInt ∧ (v.1 0 43).toInt ≤ 15 * (v.1 0 47).toInt + 0) (zcs : 0 ≤ (v.1 0 39).toInt ∧ (v.1 0 39).toInt ≤ 1 * (v.1 0 47).toInt + 0) (zgl : 0 ≤ (v.1 0 27).toInt ∧ (v.1 0 27).toInt ≤ 60) (hT : TI v) (n29 : NI 29 v) (n23 : NI 23 v) (n35 : NI 35 v) (zg : 0 ≤ pa.toInt ∧ pa.toInt < 60) : vx_Met l yX13_index (Cond.code yX13_index cX13_index 3 none :: tw_W) ({ frames := 40 * n + 6, cells := 0, slots := 0, locals := 28 * (40 * n + 6) }) (pc_ (dC, dI) (tyS cI cB cZ cJ cR) tb (mW ad N cI cZ cJ v) sz [.ref (ad 0), .int pa]) (qv_ (dC, dI) (mW ad N cI cZ cJ v) sz (fun (u : MS) => FG [12, 15, 32, 33, 39, 43, 44, 45, 47, 48, 49, 50, 51] [0, 11, 13, 14, 35, 36, 37, 38, 40, 41, 42] v u ∧ ((v.1 0 47).toInt + 1 ≤ (u.1 0 47).toInt ∧ (u.1 0 47).toInt ≤ 1500) ∧ ((v.1 0 49).toInt ≠ (v.1 0 47).toInt) ∧ ((v.1 0 12).toInt ≤ (u.1 0 12).toInt ∧ (u.1 0 12).toInt - 15 * (u.1 0 47).toInt ≤ (v.1 0 12).toInt - 15 * (v.1 0 47).toInt) ∧ ((v.1 0 15).toInt ≤ (u.1 0 15).toInt ∧ (u.1 0 15).toInt - 10 * (u.1 0 47).toInt ≤ (v.1 0 15).toInt - 10 * (v.1 0 47).toInt) ∧ ((v.1 0 43).toInt ≤ (u.1 0 43).toInt ∧ (u.1 0 43).toInt - 15 * (u.1 0 47).toInt ≤ (v.1 0 43).toInt - 15 * (v.1 0 47).toInt) ∧ ((v.1 0 39).toInt ≤ (u.1 0 39).toInt ∧ (u.1 0 39).toInt - 1 * (u.1 0 47).toInt ≤ (v.1 0 39).toInt - 1 * (v.1 0 47).toInt) ∧ ((u.1 0 32).toInt = (v.1 0 32).toInt ∧ (u.1 0 48).toInt = (v.1 0 48).toInt) ∧ ((v.1 0 33).toInt ≤ (u.1 0 33).toInt ∧ (u.1 0 33).toInt ≤ 500) ∧ (∀ j : Nat, (j : Int) < (v.1 0 12).toInt → (u.1 11) j = (v.1 11) j) ∧ (∀ j : Nat, (j : Int) < (v.1 0 15).toInt → (u.1 13) j = (v.1 13) j) ∧ (∀ j : Nat, (j : Int) < (v.1 0 15).toInt → (u.1 14) j = (v.1 14) j) ∧ (NI 35 u)) (fun (u : MS) => (mW ad N cI cZ cJ u))) (qxm (dC, dI) (mW ad N cI cZ cJ v) sz (fun (u : MS) => (mW ad N cI cZ cJ u)) (fun (u : MS) => Fr v u)) 0 0 (va_A (mW ad N cI cZ cJ v) sz) := by
  refine vx_ofW (cc := cX13_index) (maxL := 3) (ret := none) (by decide) rfl ?_
  intro p e s m args below meth c s₁ B hml hnt hv
  obtain ⟨rfl, hsz, hP, hKK, hD0, hFx⟩ := hv
  have hK := hKK.1
  have hx := B.exec
  have hb := B.bytes
  have hr := B.returns
  have ht : ∀ w ∈ tw_W, w.before _ s = true := fun w h => atoms_spec (ws := Cond.code yX13_index cX13_index 3 none :: tw_W) B.pre w (List.mem_cons_of_mem _ h)
  have hown : s.vm.findClass RX13 = some m.cls := findClass_of_methodNamed B.named
  have hlocks := B.notSynchronized
  subst hsz
  unfold qv_ qxm
  have hD := hD0.self (sz := s.heap.size)
  generalize hAe : va_A (mW ad N cI cZ cJ v) s.heap.size = A at hD hFx ⊢
  have hA : ∀ q : Nat, s.heap.size ≤ q → A q := fun q h => by rw [← hAe]; exact Or.inr h
  have hS : va_S A s.heap s.heap [] := va_S.rf
  have hl := lv_entry ([.ref (ad 0), .int pa]) (n := 3) (Nat.le_of_ble_eq_true rfl)
  rw [lg_entry_eq]
  generalize (lg_sl ([.ref (ad 0), .int pa]) ++ List.replicate (3 - (lg_sl ([.ref (ad 0), .int pa])).length) Slot.unset).toArray = ls at hl ⊢
  have hl : lv_has ls 3 [(0, .ref (ad 0)), (1, .int pa)] := hl
  refine lv_aload_n hx hb dX13_index_0 rfl (lv_at hl 0 rfl) ?_
  refine lv_bipush (v := 91) hx hb dX13_index_1 (by decide) ?_
  refine cux_v (rx_V (n := 1) (As := [.int 91]) (rest := []) hx hb hml hown ht hKK hFx hP hD hS hA (c_m_open l dC dI cI cB cZ cJ cR tb s.heap.size ad N v (91 : Int32) (show 0 ≤ (v.1 0 47).toInt ∧ (v.1 0 47).toInt ≤ 1500 by omega) (show 0 ≤ (v.1 0 48).toInt ∧ (v.1 0 48).toInt ≤ 40 by omega)) tw_78 tw_79 (by decide +kernel) rfl rfl ⟨by show 3 + 1 ≤ 40 * n + 6; omega, by show 8 + (2 + 11) + 62 ≤ 28 * (40 * n + 6); omega⟩ (List.range (mW ad N cI cZ cJ v).length) (rg_map _) (mW_nd _ _ _ _ _ _) rfl rfl rfl rfl hl.1 rfl (Nat.le_of_ble_eq_true rfl) dX13_index_3 ⟨Nat.le_of_ble_eq_true rfl, Nat.le_of_ble_eq_true rfl⟩) hP hD hS hA (fun u9 ce9 q9 H locs hx9 hP hD hS hc9 hv9 hf9 => ?_) (fun u2 H locs hw1 hP hD hS => ?_)
  · exact vx_out (fun x h9 => (hnt x h9).elim) hlocks hc9 hv9 hf9 (fun t9 ht9 hv8 => ⟨u9, (FG.tr (FG.rf _) hx9), ⟨rfl, by rw [ht9]; exact hP, hD⟩, hS.F ht9⟩) hS.2.2 (by omega) (by omega)
  obtain ⟨rfl, a1, b1, c1⟩ := hw1
  have z4 : ((v.1 0 47) + (1 : Int32)).toInt = (v.1 0 47).toInt + 1 := add_z rfl (show (1 : Int32).toInt = 1 by decide) (by omega) (by omega)
  have z5 : ((v.1 0 48) + (1 : Int32)).toInt = (v.1 0 48).toInt + 1 := add_z rfl (show (1 : Int32).toInt = 1 by decide) (by omega) (by omega)
  have hP : va_P (dC, dI) vwCl (mW ad N cI cZ cJ (wA (wA v 0 47 ((v.1 0 47) + (1 : Int32))) 0 48 ((v.1 0 48) + (1 : Int32)))) H := hP
  have hD : va_D A (mW ad N cI cZ cJ (wA (wA v 0 47 ((v.1 0 47) + (1 : Int32))) 0 48 ((v.1 0 48) + (1 : Int32)))) := hD
  refine W.widen (k := 0) (n := 0) (by omega) (by omega) ?_
  refine lv_aload_n hx hb dX13_index_6 rfl (lv_at hl 0 rfl) ?_
  obtain ⟨n6, hn7⟩ : ∃ m, n = m + 1 := ⟨n - 1, by omega⟩
  refine cux_v (rx_V (n := 0) (As := []) (rest := []) hx hb hml hown ht hKK hFx hP hD hS hA (ihE n6 hn7 dC dI cI cB cZ cJ cR tb H.size ad N (wA (wA v 0 47 ((v.1 0 47) + (1 : Int32))) 0 48 ((v.1 0 48) + (1 : Int32)))  (show 40 ≤ ((v.1 0 48) + (1 : Int32)).toInt + (n6 : Int) by omega) (show 0 ≤ ((v.1 0 47) + (1 : Int32)).toInt ∧ ((v.1 0 47) + (1 : Int32)).toInt ≤ 1500 by omega) (show 0 ≤ ((v.1 0 48) + (1 : Int32)).toInt ∧ ((v.1 0 48) + (1 : Int32)).toInt ≤ 40 by omega) (show 0 ≤ (v.1 0 30).toInt ∧ (v.1 0 30).toInt ≤ 500 by omega) (show 0 ≤ (v.1 0 33).toInt ∧ (v.1 0 33).toInt ≤ 500 by omega) (show 0 ≤ (v.1 0 32).toInt ∧ (v.1 0 30).toInt + (v.1 0 32).toInt ≤ 500 by omega) (show 0 ≤ (v.1 0 12).toInt ∧ (v.1 0 12).toInt ≤ 15 * ((v.1 0 47) + (1 : Int32)).toInt + 2 by omega) (show 0 ≤ (v.1 0 15).toInt ∧ (v.1 0 15).toInt ≤ 10 * ((v.1 0 47) + (1 : Int32)).toInt + 0 by omega) (show 0 ≤ (v.1 0 43).toInt ∧ (v.1 0 43).toInt ≤ 15 * ((v.1 0 47) + (1 : Int32)).toInt + 0 by omega) (show 0 ≤ (v.1 0 39).toInt ∧ (v.1 0 39).toInt ≤ 1 * ((v.1 0 47) + (1 : Int32)).toInt + 0 by omega) (show 0 ≤ (v.1 0 27).toInt ∧ (v.1 0 27).toInt ≤ 60 by omega) (FG.ti (fl := pfl) (al := pal) (FG.f (FG.f (FG.rf _) ((v.1 0 47) + (1 : Int32)) (by decide)) ((v.1 0 48) + (1 : Int32)) (by decide)) (by decide) (by decide) hT) (n29) (n23) (n35)) tw_80 tw_81 (by decide +kernel) rfl rfl ⟨by show (40 * n6 + 36) + 1 ≤ 40 * n + 6; omega, by show 8 + (1 + 11) + 28 * (40 * n6 + 36) ≤ 28 * (40 * n + 6); omega⟩ (List.range (mW ad N cI cZ cJ (wA (wA v 0 47 ((v.1 0 47) + (1 : Int32))) 0 48 ((v.1 0 48) + (1 : Int32)))).length) (rg_map _) (mW_nd _ _ _ _ _ _) rfl rfl rfl rfl hl.1 rfl (Nat.le_of_ble_eq_true rfl) dX13_index_7 ⟨Nat.le_of_ble_eq_true rfl, Nat.le_of_ble_eq_true rfl⟩) hP hD hS hA (fun u9 ce9 q9 H locs hx9 hP hD hS hc9 hv9 hf9 => ?_) (fun u9 H locs hw8 hP hD hS => ?_)
  · exact vx_out (fun x h9 => (hnt x h9).elim) hlocks hc9 hv9 hf9 (fun t9 ht9 hv8 => ⟨u9, (FG.tr (FG.f (FG.f (FG.rf _) ((v.1 0 47) + (1 : Int32)) (by decide)) ((v.1 0 48) + (1 : Int32)) (by decide)) hx9), ⟨rfl, by rw [ht9]; exact hP, hD⟩, hS.F ht9⟩) hS.2.2 (by omega) (by omega)
  obtain ⟨fr8, pt8, pb8, pw8, po8, pf8, pk8, pp8, ph8, kc8, ko8, kg8, n358⟩ := hw8
  have q8_2 : (u9.1 0 2).toInt = (v.1 0 2).toInt := congrArg Int32.toInt ((fr8.2.1 2 (by decide)).trans (show (wA (wA v 0 47 ((v.1 0 47) + (1 : Int32))) 0 48 ((v.1 0 48) + (1 : Int32))).1 0 2 = (v.1 0 2) by rfl))
  have q8_4 : (u9.1 0 4).toInt = (v.1 0 4).toInt := congrArg Int32.toInt ((fr8.2.1 4 (by decide)).trans (show (wA (wA v 0 47 ((v.1 0 47) + (1 : Int32))) 0 48 ((v.1 0 48) + (1 : Int32))).1 0 4 = (v.1 0 4) by rfl))
  have q8_5 : (u9.1 0 5).toInt = (v.1 0 5).toInt := congrArg Int32.toInt ((fr8.2.1 5 (by decide)).trans (show (wA (wA v 0 47 ((v.1 0 47) + (1 : Int32))) 0 48 ((v.1 0 48) + (1 : Int32))).1 0 5 = (v.1 0 5) by rfl))
  have q8_22 : (u9.1 0 22).toInt = (v.1 0 22).toInt := congrArg Int32.toInt ((fr8.2.1 22 (by decide)).trans (show (wA (wA v 0 47 ((v.1 0 47) + (1 : Int32))) 0 48 ((v.1 0 48) + (1 : Int32))).1 0 22 = (v.1 0 22) by rfl))
  have q8_27 : (u9.1 0 27).toInt = (v.1 0 27).toInt := congrArg Int32.toInt ((fr8.2.1 27 (by decide)).trans (show (wA (wA v 0 47 ((v.1 0 47) + (1 : Int32))) 0 48 ((v.1 0 48) + (1 : Int32))).1 0 27 = (v.1 0 27) by rfl))
  have q8_28 : (u9.1 0 28).toInt = (v.1 0 28).toInt := congrArg Int32.toInt ((fr8.2.1 28 (by decide)).trans (show (wA (wA v 0 47 ((v.1 0 47) + (1 : Int32))) 0 48 ((v.1 0 48) + (1 : Int32))).1 0 28 = (v.1 0 28) by rfl))
  have q8_30 : (u9.1 0 30).toInt = (v.1 0 30).toInt := congrArg Int32.toInt ((fr8.2.1 30 (by decide)).trans (show (wA (wA v 0 47 ((v.1 0 47) + (1 : Int32))) 0 48 ((v.1 0 48) + (1 : Int32))).1 0 30 = (v.1 0 30) by rfl))
  have q8_31 : (u9.1 0 31).toInt = (v.1 0 31).toInt := congrArg Int32.toInt ((fr8.2.1 31 (by decide)).trans (show (wA (wA v 0 47 ((v.1 0 47) + (1 : Int32))) 0 48 ((v.1 0 48) + (1 : Int32))).1 0 31 = (v.1 0 31) by rfl))
  have q8_34 : (u9.1 0 34).toInt = (v.1 0 34).toInt := congrArg Int32.toInt ((fr8.2.1 34 (by decide)).trans (show (wA (wA v 0 47 ((v.1 0 47) + (1 : Int32))) 0 48 ((v.1 0 48) + (1 : Int32))).1 0 34 = (v.1 0 34) by rfl))
  have q8_52 : (u9.1 0 52).toInt = (v.1 0 52).toInt := congrArg Int32.toInt ((fr8.2.1 52 (by decide)).trans (show (wA (wA v 0 47 ((v.1 0 47) + (1 : Int32))) 0 48 ((v.1 0 48) + (1 : Int32))).1 0 52 = (v.1 0 52) by rfl))
  have pt8 : ((v.1 0 47) + (1 : Int32)).toInt + 1 ≤ (u9.1 0 47).toInt ∧ (u9.1 0 47).toInt ≤ 1500 := pt8
  have pb8 : (v.1 0 49).toInt ≠ ((v.1 0 47) + (1 : Int32)).toInt := pb8
  have pw8 : (v.1 0 12).toInt ≤ (u9.1 0 12).toInt ∧ (u9.1 0 12).toInt - 15 * (u9.1 0 47).toInt ≤ (v.1 0 12).toInt - 15 * ((v.1 0 47) + (1 : Int32)).toInt := pw8
  have po8 : (v.1 0 15).toInt ≤ (u9.1 0 15).toInt ∧ (u9.1 0 15).toInt - 10 * (u9.1 0 47).toInt ≤ (v.1 0 15).toInt - 10 * ((v.1 0 47) + (1 : Int32)).toInt := po8
  have pf8 : (v.1 0 43).toInt ≤ (u9.1 0 43).toInt ∧ (u9.1 0 43).toInt - 15 * (u9.1 0 47).toInt ≤ (v.1 0 43).toInt - 15 * ((v.1 0 47) + (1 : Int32)).toInt := pf8
  have pk8 : (v.1 0 39).toInt ≤ (u9.1 0 39).toInt ∧ (u9.1 0 39).toInt - 1 * (u9.1 0 47).toInt ≤ (v.1 0 39).toInt - 1 * ((v.1 0 47) + (1 : Int32)).toInt := pk8
  have pp8 : (u9.1 0 32).toInt = (v.1 0 32).toInt ∧ (u9.1 0 48).toInt = ((v.1 0 48) + (1 : Int32)).toInt := pp8
  have ph8 : (v.1 0 33).toInt ≤ (u9.1 0 33).toInt ∧ (u9.1 0 33).toInt ≤ 500 := ph8
  have kc8 : ∀ j : Nat, (j : Int) < (v.1 0 12).toInt → (u9.1 11) j = (v.1 11) j := kc8
  have ko8 : ∀ j : Nat, (j : Int) < (v.1 0 15).toInt → (u9.1 13) j = (v.1 13) j := ko8
  have kg8 : ∀ j : Nat, (j : Int) < (v.1 0 15).toInt → (u9.1 14) j = (v.1 14) j := kg8
  have n358 : NI 35 u9 := n358
  refine W.widen (k := 0) (n := 0) (by omega) (by omega) ?_
  refine lv_aload_n hx hb dX13_index_10 rfl (lv_at hl 0 rfl) ?_
  refine lv_bipush (v := 93) hx hb dX13_index_11 (by decide) ?_
  refine cux_v (rx_V (n := 1) (As := [.int 93]) (rest := []) hx hb hml hown ht hKK hFx hP hD hS hA (c_m_close l dC dI cI cB cZ cJ cR tb H.size ad N u9 (93 : Int32) (show 0 ≤ (u9.1 0 47).toInt ∧ (u9.1 0 47).toInt ≤ 1500 by omega) (show 0 ≤ (u9.1 0 48).toInt ∧ (u9.1 0 48).toInt ≤ 40 by omega)) tw_82 tw_83 (by decide +kernel) rfl rfl ⟨by show 3 + 1 ≤ 40 * n + 6; omega, by show 8 + (2 + 11) + 64 ≤ 28 * (40 * n + 6); omega⟩ (List.range (mW ad N cI cZ cJ u9).length) (rg_map _) (mW_nd _ _ _ _ _ _) rfl rfl rfl rfl hl.1 rfl (Nat.le_of_ble_eq_true rfl) dX13_index_13 ⟨Nat.le_of_ble_eq_true rfl, Nat.le_of_ble_eq_true rfl⟩) hP hD hS hA (fun u9 ce9 q9 H locs hx9 hP hD hS hc9 hv9 hf9 => ?_) (fun u12 H locs hw11 hP hD hS => ?_)
  · exact vx_out (fun x h9 => (hnt x h9).elim) hlocks hc9 hv9 hf9 (fun t9 ht9 hv8 => ⟨u9, (FG.tr (FG.tr (FG.f (FG.f (FG.rf _) ((v.1 0 47) + (1 : Int32)) (by decide)) ((v.1 0 48) + (1 : Int32)) (by decide)) (FG.up fr8 (by decide) (by decide))) hx9), ⟨rfl, by rw [ht9]; exact hP, hD⟩, hS.F ht9⟩) hS.2.2 (by omega) (by omega)
  obtain ⟨rfl, a11, c11⟩ := hw11
  have z14 : ((u9.1 0 47) + (1 : Int32)).toInt = (u9.1 0 47).toInt + 1 := add_z rfl (show (1 : Int32).toInt = 1 by decide) (by omega) (by omega)
  have z15 : ((u9.1 0 48) - (1 : Int32)).toInt = (u9.1 0 48).toInt - 1 := sub_z rfl (show (1 : Int32).toInt = 1 by decide) (by omega) (by omega)
  have hP : va_P (dC, dI) vwCl (mW ad N cI cZ cJ (wA (wA u9 0 47 ((u9.1 0 47) + (1 : Int32))) 0 48 ((u9.1 0 48) - (1 : Int32)))) H := hP
  have hD : va_D A (mW ad N cI cZ cJ (wA (wA u9 0 47 ((u9.1 0 47) + (1 : Int32))) 0 48 ((u9.1 0 48) - (1 : Int32)))) := hD
  have a11 : (u9.1 0 47).toInt < 1500 := a11
  have c11 : (u9.1 0 49).toInt ≠ (u9.1 0 47).toInt := c11
  refine W.widen (k := 0) (n := 0) (by omega) (by omega) ?_
  refine lv_aload_n hx hb dX13_index_16 rfl (lv_at hl 0 rfl) ?_
  refine va_get (D := (dC, dI)) (ci := 16) (fs := mF ad (wA (wA u9 0 47 ((u9.1 0 47) + (1 : Int32))) 0 48 ((u9.1 0 48) - (1 : Int32)))) (v := .ref (ad 24)) (C := RX13) (T := TX13) (N := 124) hx hb ht itX13 hown hK hP 0 rfl rfl 24 (by decide) (ht _ tw_84) (fun _ h9 => h9) rfl dX13_index_17 ?_
  refine lv_iload_n hx hb dX13_index_20 rfl (lv_at hl 1 rfl) ?_
  refine va_iald (D := (dC, dI)) (f := (u9.1 24)) hx hb hK hP 18 0 rfl rfl (in_z (a := pa.toInt) rfl (by omega) (by omega)) dX13_index_21 ?_
  refine lv_istore_n (lv' := [(2, .int ((u9.1 24) pa.toNatClampNeg)), (0, .ref (ad 0)), (1, .int pa)]) hx hb dX13_index_22 rfl hl (by decide) rfl (fun ls hl => ?_)
  refine lv_aload_n hx hb dX13_index_23 rfl (lv_at hl 1 rfl) ?_
  refine lv_bipush (v := 6) hx hb dX13_index_24 (by decide) ?_
  refine lv_iload_n hx hb dX13_index_26 rfl (lv_at hl 0 rfl) ?_
  refine cu_s (mW_nd _ _ _ _ _ _) (rn_S (n := 1) (As := [.int ((u9.1 24) pa.toNatClampNeg)]) (rest := [.int 6, .ref (ad 0)]) hx hb hml hown ht hKK hFx hP hD hS hA (c_m_hi l dC dI cI cB cZ cJ cR tb H.size ((u9.1 24) pa.toNatClampNeg) ) tw_0 tw_1 (by decide +kernel) rfl rfl ⟨by show 0 + 1 ≤ 40 * n + 6; omega, by show 8 + (1 + 11) + 0 ≤ 28 * (40 * n + 6); omega⟩ [] rfl rfl rfl hl.1 rfl (Nat.le_of_ble_eq_true rfl) dX13_index_27 ⟨Nat.le_of_ble_eq_true rfl, Nat.le_of_ble_eq_true rfl⟩) hP hD hS hA (fun r18 H locs hw16 hP hD hS => ?_)
  refine W.widen (k := 0) (n := 0) (by omega) (by omega) ?_
  refine cu_s (mW_nd _ _ _ _ _ _) (rn_S (n := 2) (As := [.int 6, .int r18]) (rest := [.ref (ad 0)]) hx hb hml hown ht hKK hFx hP hD hS hA (c_m_lui l dC dI cI cB cZ cJ cR tb H.size (6 : Int32) r18 ) tw_61 tw_62 (by decide +kernel) rfl rfl ⟨by show 0 + 1 ≤ 40 * n + 6; omega, by show 8 + (2 + 11) + 0 ≤ 28 * (40 * n + 6); omega⟩ [] rfl rfl rfl hl.1 rfl (Nat.le_of_ble_eq_true rfl) dX13_index_30 ⟨Nat.le_of_ble_eq_true rfl, Nat.le_of_ble_eq_true rfl⟩) hP hD hS hA (fun r21 H locs hw19 hP hD hS => ?_)
  refine W.widen (k := 0) (n := 0) (by omega) (by omega) ?_
  refine cu_i (rn_V (n := 1) (As := [.int r21]) (rest := []) hx hb hml hown ht hKK hFx hP hD hS hA (c_m_emit l dC dI cI cB cZ cJ cR tb H.size ad N (wA (wA u9 0 47 ((u9.1 0 47) + (1 : Int32))) 0 48 ((u9.1 0 48) - (1 : Int32))) r21 (show 0 ≤ (u9.1 0 12).toInt ∧ (u9.1 0 12).toInt < 24000 by omega)) tw_8 tw_9 (by decide +kernel) rfl rfl ⟨by show 0 + 1 ≤ 40 * n + 6; omega, by show 8 + (2 + 11) + 0 ≤ 28 * (40 * n + 6); omega⟩ (List.range (mW ad N cI cZ cJ (wA (wA u9 0 47 ((u9.1 0 47) + (1 : Int32))) 0 48 ((u9.1 0 48) - (1 : Int32)))).length) (rg_map _) (mW_nd _ _ _ _ _ _) rfl rfl rfl rfl hl.1 rfl (Nat.le_of_ble_eq_true rfl) dX13_index_33 ⟨Nat.le_of_ble_eq_true rfl, Nat.le_of_ble_eq_true rfl⟩) hP hD hS hA (fun r24 u23 H locs hw22 hP hD hS => ?_)
  obtain ⟨rfl, rfl⟩ := hw22
  have z25 : ((u9.1 0 12) + (1 : Int32)).toInt = (u9.1 0 12).toInt + 1 := add_z rfl (show (1 : Int32).toInt = 1 by decide) (by omega) (by omega)
  have hP : va_P (dC, dI) vwCl (mW ad N cI cZ cJ (wA (wA (wA (wA u9 0 47 ((u9.1 0 47) + (1 : Int32))) 0 48 ((u9.1 0 48) - (1 : Int32))) 11 ((u9.1 0 12).toNatClampNeg) r21) 0 12 ((u9.1 0 12) + (1 : Int32)))) H := hP
  have hD : va_D A (mW ad N cI cZ cJ (wA (wA (wA (wA u9 0 47 ((u9.1 0 47) + (1 : Int32))) 0 48 ((u9.1 0 48) - (1 : Int32))) 11 ((u9.1 0 12).toNatClampNeg) r21) 0 12 ((u9.1 0 12) + (1 : Int32)))) := hD
  refine tp_i (y := (u9.1 0 12)) (rfl) ?_
  refine W.widen (k := 0) (n := 0) (by omega) (by omega) ?_
  refine lv_pop hx hb dX13_index_36 rfl ?_
  refine lv_aload_n hx hb dX13_index_37 rfl (lv_at hl 1 rfl) ?_
  refine lv_bipush (v := 6) hx hb dX13_index_38 (by decide) ?_
  refine lv_bipush (v := 6) hx hb dX13_index_40 (by decide) ?_
  refine lv_iload_n hx hb dX13_index_42 rfl (lv_at hl 0 rfl) ?_
  refine cu_s (mW_nd _ _ _ _ _ _) (rn_S (n := 1) (As := [.int ((u9.1 24) pa.toNatClampNeg)]) (rest := [.int 6, .int 6, .ref (ad 0)]) hx hb hml hown ht hKK hFx hP hD hS hA (c_m_lo l dC dI cI cB cZ cJ cR tb H.size ((u9.1 24) pa.toNatClampNeg) ) tw_63 tw_64 (by decide +kernel) rfl rfl ⟨by show 1 + 1 ≤ 40 * n + 6; omega, by show 8 + (1 + 11) + 20 ≤ 28 * (40 * n + 6); omega⟩ [] rfl rfl rfl hl.1 rfl (Nat.le_of_ble_eq_true rfl) dX13_index_43 ⟨Nat.le_of_ble_eq_true rfl, Nat.le_of_ble_eq_true rfl⟩) hP hD hS hA (fun r28 H locs hw26 hP hD hS => ?_)
  refine W.widen (k := 0) (n := 0) (by omega) (by omega) ?_
  refine cu_s (mW_nd _ _ _ _ _ _) (rn_S (n := 3) (As := [.int 6, .int 6, .int r28]) (rest := [.ref (ad 0)]) hx hb hml hown ht hKK hFx hP hD hS hA (c_m_addi l dC dI cI cB cZ cJ cR tb H.size (6 : Int32) (6 : Int32) r28 ) tw_65 tw_66 (by decide +kernel) rfl rfl ⟨by show 1 + 1 ≤ 40 * n + 6; omega, by show 8 + (3 + 11) + 24 ≤ 28 * (40 * n + 6); omega⟩ [] rfl rfl rfl hl.1 rfl (Nat.le_of_ble_eq_true rfl) dX13_index_46 ⟨Nat.le_of_ble_eq_true rfl, Nat.le_of_ble_eq_true rfl⟩) hP hD hS hA (fun r31 H locs hw29 hP hD hS => ?_)
  refine W.widen (k := 0) (n := 0) (by omega) (by omega) ?_
  refine cu_i (rn_V (n := 1) (As := [.int r31]) (rest := []) hx hb hml hown ht hKK hFx hP hD hS hA (c_m_emit l dC dI cI cB cZ cJ cR tb H.size ad N (wA (wA (wA (wA u9 0 47 ((u9.1 0 47) + (1 : Int32))) 0 48 ((u9.1 0 48) - (1 : Int32))) 11 ((u9.1 0 12).toNatClampNeg) r21) 0 12 ((u9.1 0 12) + (1 : Int32))) r31 (show 0 ≤ ((u9.1 0 12) + (1 : Int32)).toInt ∧ ((u9.1 0 12) + (1 : Int32)).toInt < 24000 by omega)) tw_8 tw_9 (by decide +kernel) rfl rfl ⟨by show 0 + 1 ≤ 40 * n + 6; omega, by show 8 + (2 + 11) + 0 ≤ 28 * (40 * n + 6); omega⟩ (List.range (mW ad N cI cZ cJ (wA (wA (wA (wA u9 0 47 ((u9.1 0 47) + (1 : Int32))) 0 48 ((u9.1 0 48) - (1 : Int32))) 11 ((u9.1 0 12).toNatClampNeg) r21) 0 12 ((u9.1 0 12) + (1 : Int32)))).length) (rg_map _) (mW_nd _ _ _ _ _ _) rfl rfl rfl rfl hl.1 rfl (Nat.le_of_ble_eq_true rfl) dX13_index_49 ⟨Nat.le_of_ble_eq_true rfl, Nat.le_of_ble_eq_true rfl⟩) hP hD hS hA (fun r34 u33 H locs hw32 hP hD hS => ?_)
  obtain ⟨rfl, rfl⟩ := hw32
  have z35 : (((u9.1 0 12) + (1 : Int32)) + (1 : Int32)).toInt = ((u9.1 0 12).toInt + 1) + 1 := add_z z25 (show (1 : Int32).toInt = 1 by decide) (by omega) (by omega)
  have hP : va_P (dC, dI) vwCl (mW ad N cI cZ cJ (wA (wA (wA (wA (wA (wA u9 0 47 ((u9.1 0 47) + (1 : Int32))) 0 48 ((u9.1 0 48) - (1 : Int32))) 11 ((u9.1 0 12).toNatClampNeg) r21) 0 12 ((u9.1 0 12) + (1 : Int32))) 11 (((u9.1 0 12) + (1 : Int32)).toNatClampNeg) r31) 0 12 (((u9.1 0 12) + (1 : Int32)) + (1 : Int32)))) H := hP
  have hD : va_D A (mW ad N cI cZ cJ (wA (wA (wA (wA (wA (wA u9 0 47 ((u9.1 0 47) + (1 : Int32))) 0 48 ((u9.1 0 48) - (1 : Int32))) 11 ((u9.1 0 12).toNatClampNeg) r21) 0 12 ((u9.1 0 12) + (1 : Int32))) 11 (((u9.1 0 12) + (1 : Int32)).toNatClampNeg) r31) 0 12 (((u9.1 0 12) + (1 : Int32)) + (1 : Int32)))) := hD
  refine tp_i (y := ((u9.1 0 12) + (1 : Int32))) (rfl) ?_
  refine W.widen (k := 0) (n := 0) (by omega) (by omega) ?_
  refine lv_pop hx hb dX13_index_52 rfl ?_
  refine lv_aload_n hx hb dX13_index_53 rfl (lv_at hl 1 rfl) ?_
  refine lv_bipush (v := 6) hx hb dX13_index_54 (by decide) ?_
  refine lv_bipush (v := 10) hx hb dX13_index_56 (by decide) ?_
  refine lv_bipush (v := 6) hx hb dX13_index_58 (by decide) ?_
  refine lv_bipush (v := 12) hx hb dX13_index_60 (by decide) ?_
  refine cu_s (mW_nd _ _ _ _ _ _) (rn_S (n := 4) (As := [.int 6, .int 10, .int 6, .int 12]) (rest := [.ref (ad 0)]) hx hb hml hown ht hKK hFx hP hD hS hA (c_m_byB l dC dI cI cB cZ cJ cR tb H.size (6 : Int32) (10 : Int32) (6 : Int32) (12 : Int32) ) tw_85 tw_86 (by decide +kernel) rfl rfl ⟨by show 0 + 1 ≤ 40 * n + 6; omega, by show 8 + (4 + 11) + 0 ≤ 28 * (40 * n + 6); omega⟩ [] rfl rfl rfl hl.1 rfl (Nat.le_of_ble_eq_true rfl) dX13_index_62 ⟨Nat.le_of_ble_eq_true rfl, Nat.le_of_ble_eq_true rfl⟩) hP hD hS hA (fun r38 H locs hw36 hP hD hS => ?_)
  refine W.widen (k := 0) (n := 0) (by omega) (by omega) ?_
  refine cu_i (rn_V (n := 1) (As := [.int r38]) (rest := []) hx hb hml hown ht hKK hFx hP hD hS hA (c_m_emit l dC dI cI cB cZ cJ cR tb H.size ad N (wA (wA (wA (wA (wA (wA u9 0 47 ((u9.1 0 47) + (1 : Int32))) 0 48 ((u9.1 0 48) - (1 : Int32))) 11 ((u9.1 0 12).toNatClampNeg) r21) 0 12 ((u9.1 0 12) + (1 : Int32))) 11 (((u9.1 0 12) + (1 : Int32)).toNatClampNeg) r31) 0 12 (((u9.1 0 12) + (1 : Int32)) + (1 : Int32))) r38 (show 0 ≤ (((u9.1 0 12) + (1 : Int32)) + (1 : Int32)).toInt ∧ (((u9.1 0 12) + (1 : Int32)) + (1 : Int32)).toInt < 24000 by omega)) tw_8 tw_9 (by decide +kernel) rfl rfl ⟨by show 0 + 1 ≤ 40 * n + 6; omega, by show 8 + (2 + 11) + 0 ≤ 28 * (40 * n + 6); omega⟩ (List.range (mW ad N cI cZ cJ (wA (wA (wA (wA (wA (wA u9 0 47 ((u9.1 0 47) + (1 : Int32))) 0 48 ((u9.1 0 48) - (1 : Int32))) 11 ((u9.1 0 12).toNatClampNeg) r21) 0 12 ((u9.1 0 12) + (1 : Int32))) 11 (((u9.1 0 12) + (1 : Int32)).toNatClampNeg) r31) 0 12 (((u9.1 0 12) + (1 : Int32)) + (1 : Int32)))).length) (rg_map _) (mW_nd _ _ _ _ _ _) rfl rfl rfl rfl hl.1 rfl (Nat.le_of_ble_eq_true rfl) dX13_index_65 ⟨Nat.le_of_ble_eq_true rfl, Nat.le_of_ble_eq_true rfl⟩) hP hD hS hA (fun r41 u40 H locs hw39 hP hD hS => ?_)
  obtain ⟨rfl, rfl⟩ := hw39
  have z42 : ((((u9.1 0 12) + (1 : Int32)) + (1 : Int32)) + (1 : Int32)).toInt = (((u9.1 0 12).toInt + 1) + 1) + 1 := add_z z35 (show (1 : Int32).toInt = 1 by decide) (by omega) (by omega)
  have hP : va_P (dC, dI) vwCl (mW ad N cI cZ cJ (wA (wA (wA (wA (wA (wA (wA (wA u9 0 47 ((u9.1 0 47) + (1 : Int32))) 0 48 ((u9.1 0 48) - (1 : Int32))) 11 ((u9.1 0 12).toNatClampNeg) r21) 0 12 ((u9.1 0 12) + (1 : Int32))) 11 (((u9.1 0 12) + (1 : Int32)).toNatClampNeg) r31) 0 12 (((u9.1 0 12) + (1 : Int32)) + (1 : Int32))) 11 ((((u9.1 0 12) + (1 : Int32)) + (1 : Int32)).toNatClampNeg) r38) 0 12 ((((u9.1 0 12) + (1 : Int32)) + (1 : Int32)) + (1 : Int32)))) H := hP
  have hD : va_D A (mW ad N cI cZ cJ (wA (wA (wA (wA (wA (wA (wA (wA u9 0 47 ((u9.1 0 47) + (1 : Int32))) 0 48 ((u9.1 0 48) - (1 : Int32))) 11 ((u9.1 0 12).toNatClampNeg) r21) 0 12 ((u9.1 0 12) + (1 : Int32))) 11 (((u9.1 0 12) + (1 : Int32)).toNatClampNeg) r31) 0 12 (((u9.1 0 12) + (1 : Int32)) + (1 : Int32))) 11 ((((u9.1 0 12) + (1 : Int32)) + (1 : Int32)).toNatClampNeg) r38) 0 12 ((((u9.1 0 12) + (1 : Int32)) + (1 : Int32)) + (1 : Int32)))) := hD
  refine tp_i (y := (((u9.1 0 12) + (1 : Int32)) + (1 : Int32))) (rfl) ?_
  refine W.widen (k := 0) (n := 0) (by omega) (by omega) ?_
  obtain ⟨u43, hu44⟩ : ∃ z, z = (wA (wA (wA (wA (wA (wA (wA (wA u9 0 47 ((u9.1 0 47) + (1 : Int32))) 0 48 ((u9.1 0 48) - (1 : Int32))) 11 ((u9.1 0 12).toNatClampNeg) r21) 0 12 ((u9.1 0 12) + (1 : Int32))) 11 (((u9.1 0 12) + (1 : Int32)).toNatClampNeg) r31) 0 12 (((u9.1 0 12) + (1 : Int32)) + (1 : Int32))) 11 ((((u9.1 0 12) + (1 : Int32)) + (1 : Int32)).toNatClampNeg) r38) 0 12 ((((u9.1 0 12) + (1 : Int32)) + (1 : Int32)) + (1 : Int32))) := ⟨_, rfl⟩
  have fr44 : FG [12, 47, 48] [0, 11] u9 u43 := by rw [hu44]; exact (FG.f (FG.a (FG.f (FG.a (FG.f (FG.a (FG.f (FG.f (FG.rf _) ((u9.1 0 47) + (1 : Int32)) (by decide)) ((u9.1 0 48) - (1 : Int32)) (by decide)) ((u9.1 0 12).toNatClampNeg) r21 (by decide) (by decide)) ((u9.1 0 12) + (1 : Int32)) (by decide)) (((u9.1 0 12) + (1 : Int32)).toNatClampNeg) r31 (by decide) (by decide)) (((u9.1 0 12) + (1 : Int32)) + (1 : Int32)) (by decide)) ((((u9.1 0 12) + (1 : Int32)) + (1 : Int32)).toNatClampNeg) r38 (by decide) (by decide)) ((((u9.1 0 12) + (1 : Int32)) + (1 : Int32)) + (1 : Int32)) (by decide))
  have q44_2 : (u43.1 0 2).toInt = (u9.1 0 2).toInt := congrArg Int32.toInt (fr44.2.1 2 (by decide))
  have q44_4 : (u43.1 0 4).toInt = (u9.1 0 4).toInt := congrArg Int32.toInt (fr44.2.1 4 (by decide))
  have q44_5 : (u43.1 0 5).toInt = (u9.1 0 5).toInt := congrArg Int32.toInt (fr44.2.1 5 (by decide))
  have q44_12 : (u43.1 0 12).toInt = ((((u9.1 0 12).toInt + 1) + 1) + 1) := by rw [hu44]; exact (show ((((u9.1 0 12) + (1 : Int32)) + (1 : Int32)) + (1 : Int32)).toInt = ((((u9.1 0 12).toInt + 1) + 1) + 1) from z42)
  have q44_15 : (u43.1 0 15).toInt = (u9.1 0 15).toInt := congrArg Int32.toInt (fr44.2.1 15 (by decide))
  have q44_22 : (u43.1 0 22).toInt = (u9.1 0 22).toInt := congrArg Int32.toInt (fr44.2.1 22 (by decide))
  have q44_27 : (u43.1 0 27).toInt = (u9.1 0 27).toInt := congrArg Int32.toInt (fr44.2.1 27 (by decide))
  have q44_28 : (u43.1 0 28).toInt = (u9.1 0 28).toInt := congrArg Int32.toInt (fr44.2.1 28 (by decide))
  have q44_30 : (u43.1 0 30).toInt = (u9.1 0 30).toInt := congrArg Int32.toInt (fr44.2.1 30 (by decide))
  have q44_31 : (u43.1 0 31).toInt = (u9.1 0 31).toInt := congrArg Int32.toInt (fr44.2.1 31 (by decide))
  have q44_32 : (u43.1 0 32).toInt = (u9.1 0 32).toInt := congrArg Int32.toInt (fr44.2.1 32 (by decide))
  have q44_33 : (u43.1 0 33).toInt = (u9.1 0 33).toInt := congrArg Int32.toInt (fr44.2.1 33 (by decide))
  have q44_34 : (u43.1 0 34).toInt = (u9.1 0 34).toInt := congrArg Int32.toInt (fr44.2.1 34 (by decide))
  have q44_39 : (u43.1 0 39).toInt = (u9.1 0 39).toInt := congrArg Int32.toInt (fr44.2.1 39 (by decide))
  have q44_43 : (u43.1 0 43).toInt = (u9.1 0 43).toInt := congrArg Int32.toInt (fr44.2.1 43 (by decide))
  have q44_47 : (u43.1 0 47).toInt = ((u9.1 0 47).toInt + 1) := by rw [hu44]; exact (show ((u9.1 0 47) + (1 : Int32)).toInt = ((u9.1 0 47).toInt + 1) from z14)
  have q44_48 : (u43.1 0 48).toInt = ((u9.1 0 48).toInt - 1) := by rw [hu44]; exact (show ((u9.1 0 48) - (1 : Int32)).toInt = ((u9.1 0 48).toInt - 1) from z15)
  have q44_49 : (u43.1 0 49).toInt = (u9.1 0 49).toInt := congrArg Int32.toInt (fr44.2.1 49 (by decide))
  have q44_52 : (u43.1 0 52).toInt = (u9.1 0 52).toInt := congrArg Int32.toInt (fr44.2.1 52 (by decide))
  have kc44 : ∀ j : Nat, (j : Int) < (u9.1 0 12).toInt → (u43.1 11) j = (u9.1 11) j := by rw [hu44]; exact (fun (j9 : Nat) hj9 => (Eq.trans (pk_un (by have := cl_z (a := (((u9.1 0 12) + (1 : Int32)) + (1 : Int32)).toInt) rfl (by omega); omega)) (Eq.trans (pk_un (by have := cl_z (a := ((u9.1 0 12) + (1 : Int32)).toInt) rfl (by omega); omega)) (pk_un (by have := cl_z (a := (u9.1 0 12).toInt) rfl (by omega); omega)))))
  rw [← hu44] at hP hD
  refine lv_pop hx hb dX13_index_68 rfl ?_
  refine lv_aload_n hx hb dX13_index_69 rfl (lv_at hl 1 rfl) ?_
  refine lv_bipush (v := 17) hx hb dX13_index_70 (by decide) ?_
  refine lv_iconst (v := 0) hx hb dX13_index_72 (by decide) ?_
  refine lv_iconst (v := 3) hx hb dX13_index_73 (by decide) ?_
  refine cu_s (mW_nd _ _ _ _ _ _) (rn_S (n := 3) (As := [.int 17, .int 0, .int 3]) (rest := [.ref (ad 0)]) hx hb hml hown ht hKK hFx hP hD hS hA (c_m_addi l dC dI cI cB cZ cJ cR tb H.size (17 : Int32) (0 : Int32) (3 : Int32) ) tw_65 tw_66 (by decide +kernel) rfl rfl ⟨by show 1 + 1 ≤ 40 * n + 6; omega, by show 8 + (3 + 11) + 24 ≤ 28 * (40 * n + 6); omega⟩ [] rfl rfl rfl hl.1 rfl (Nat.le_of_ble_eq_true rfl) dX13_index_74 ⟨Nat.le_of_ble_eq_true rfl, Nat.le_of_ble_eq_true rfl⟩) hP hD hS hA (fun r47 H locs hw45 hP hD hS => ?_)
  refine W.widen (k := 0) (n := 0) (by omega) (by omega) ?_
  refine cu_i (rn_V (n := 1) (As := [.int r47]) (rest := []) hx hb hml hown ht hKK hFx hP hD hS hA (c_m_emit l dC dI cI cB cZ cJ cR tb H.size ad N u43 r47 (show 0 ≤ (u43.1 0 12).toInt ∧ (u43.1 0 12).toInt < 24000 by omega)) tw_8 tw_9 (by decide +kernel) rfl rfl ⟨by show 0 + 1 ≤ 40 * n + 6; omega, by show 8 + (2 + 11) + 0 ≤ 28 * (40 * n + 6); omega⟩ (List.range (mW ad N cI cZ cJ u43).length) (rg_map _) (mW_nd _ _ _ _ _ _) rfl rfl rfl rfl hl.1 rfl (Nat.le_of_ble_eq_true rfl) dX13_index_77 ⟨Nat.le_of_ble_eq_true rfl, Nat.le_of_ble_eq_true rfl⟩) hP hD hS hA (fun r50 u49 H locs hw48 hP hD hS => ?_)
  obtain ⟨rfl, rfl⟩ := hw48
  have z51 : ((u43.1 0 12) + (1 : Int32)).toInt = (u43.1 0 12).toInt + 1 := add_z rfl (show (1 : Int32).toInt = 1 by decide) (by omega) (by omega)
  have hP : va_P (dC, dI) vwCl (mW ad N cI cZ cJ (wA (wA u43 11 ((u43.1 0 12).toNatClampNeg) r47) 0 12 ((u43.1 0 12) + (1 : Int32)))) H := hP
  have hD : va_D A (mW ad N cI cZ cJ (wA (wA u43 11 ((u43.1 0 12).toNatClampNeg) r47) 0 12 ((u43.1 0 12) + (1 : Int32)))) := hD
  refine tp_i (y := (u43.1 0 12)) (rfl) ?_
  refine W.widen (k := 0) (n := 0) (by omega) (by omega) ?_
  refine lv_pop hx hb dX13_index_80 rfl ?_
  refine lv_aload_n hx hb dX13_index_81 rfl (lv_at hl 1 rfl) ?_
  refine lv_ldcw (v := 1048691) hx hb hown (ht _ tw_87) dX13_index_82 ?_
  refine cu_i (rn_V (n := 1) (As := [.int 1048691]) (rest := []) hx hb hml hown ht hKK hFx hP hD hS hA (c_m_emit l dC dI cI cB cZ cJ cR tb H.size ad N (wA (wA u43 11 ((u43.1 0 12).toNatClampNeg) r47) 0 12 ((u43.1 0 12) + (1 : Int32))) (1048691 : Int32) (show 0 ≤ ((u43.1 0 12) + (1 : Int32)).toInt ∧ ((u43.1 0 12) + (1 : Int32)).toInt < 24000 by omega)) tw_8 tw_9 (by decide +kernel) rfl rfl ⟨by show 0 + 1 ≤ 40 * n + 6; omega, by show 8 + (2 + 11) + 0 ≤ 28 * (40 * n + 6); omega⟩ (List.range (mW ad N cI cZ cJ (wA (wA u43 11 ((u43.1 0 12).toNatClampNeg) r47) 0 12 ((u43.1 0 12) + (1 : Int32)))).length) (rg_map _) (mW_nd _ _ _ _ _ _) rfl rfl rfl rfl hl.1 rfl (Nat.le_of_ble_eq_true rfl) dX13_index_85 ⟨Nat.le_of_ble_eq_true rfl, Nat.le_of_ble_eq_true rfl⟩) hP hD hS hA (fun r54 u53 H locs hw52 hP hD hS => ?_)
  obtain ⟨rfl, rfl⟩ := hw52
  have z55 : (((u43.1 0 12) + (1 : Int32)) + (1 : Int32)).toInt = ((u43.1 0 12).toInt + 1) + 1 := add_z z51 (show (1 : Int32).toInt = 1 by decide) (by omega) (by omega)
  have hP : va_P (dC, dI) vwCl (mW ad N cI cZ cJ (wA (wA (wA (wA u43 11 ((u43.1 0 12).toNatClampNeg) r47) 0 12 ((u43.1 0 12) + (1 : Int32))) 11 (((u43.1 0 12) + (1 : Int32)).toNatClampNeg) (1048691 : Int32)) 0 12 (((u43.1 0 12) + (1 : Int32)) + (1 : Int32)))) H := hP
  have hD : va_D A (mW ad N cI cZ cJ (wA (wA (wA (wA u43 11 ((u43.1 0 12).toNatClampNeg) r47) 0 12 ((u43.1 0 12) + (1 : Int32))) 11 (((u43.1 0 12) + (1 : Int32)).toNatClampNeg) (1048691 : Int32)) 0 12 (((u43.1 0 12) + (1 : Int32)) + (1 : Int32)))) := hD
  refine tp_i (y := ((u43.1 0 12) + (1 : Int32))) (rfl) ?_
  refine W.widen (k := 0) (n := 0) (by omega) (by omega) ?_
  refine lv_pop hx hb dX13_index_88 rfl ?_
  refine lv_aload_n hx hb dX13_index_89 rfl (lv_at hl 1 rfl) ?_
  refine lv_bipush (v := 19) hx hb dX13_index_90 (by decide) ?_
  refine lv_iconst (v := 1) hx hb dX13_index_92 (by decide) ?_
  refine lv_bipush (v := 10) hx hb dX13_index_93 (by decide) ?_
  refine lv_bipush (v := 10) hx hb dX13_index_95 (by decide) ?_
  refine lv_iconst (v := 2) hx hb dX13_index_97 (by decide) ?_
  refine cu_s (mW_nd _ _ _ _ _ _) (rn_S (n := 5) (As := [.int 19, .int 1, .int 10, .int 10, .int 2]) (rest := [.ref (ad 0)]) hx hb hml hown ht hKK hFx hP hD hS hA (c_m_byI l dC dI cI cB cZ cJ cR tb H.size (19 : Int32) (1 : Int32) (10 : Int32) (10 : Int32) (2 : Int32) ) tw_2 tw_3 (by decide +kernel) rfl rfl ⟨by show 0 + 1 ≤ 40 * n + 6; omega, by show 8 + (5 + 11) + 0 ≤ 28 * (40 * n + 6); omega⟩ [] rfl rfl rfl hl.1 rfl (Nat.le_of_ble_eq_true rfl) dX13_index_98 ⟨Nat.le_of_ble_eq_true rfl, Nat.le_of_ble_eq_true rfl⟩) hP hD hS hA (fun r58 H locs hw56 hP hD hS => ?_)
  refine W.widen (k := 0) (n := 0) (by omega) (by omega) ?_
  refine cu_i (rn_V (n := 1) (As := [.int r58]) (rest := []) hx hb hml hown ht hKK hFx hP hD hS hA (c_m_emit l dC dI cI cB cZ cJ cR tb H.size ad N (wA (wA (wA (wA u43 11 ((u43.1 0 12).toNatClampNeg) r47) 0 12 ((u43.1 0 12) + (1 : Int32))) 11 (((u43.1 0 12) + (1 : Int32)).toNatClampNeg) (1048691 : Int32)) 0 12 (((u43.1 0 12) + (1 : Int32)) + (1 : Int32))) r58 (show 0 ≤ (((u43.1 0 12) + (1 : Int32)) + (1 : Int32)).toInt ∧ (((u43.1 0 12) + (1 : Int32)) + (1 : Int32)).toInt < 24000 by omega)) tw_8 tw_9 (by decide +kernel) rfl rfl ⟨by show 0 + 1 ≤ 40 * n + 6; omega, by show 8 + (2 + 11) + 0 ≤ 28 * (40 * n + 6); omega⟩ (List.range (mW ad N cI cZ cJ (wA (wA (wA (wA u43 11 ((u43.1 0 12).toNatClampNeg) r47) 0 12 ((u43.1 0 12) + (1 : Int32))) 11 (((u43.1 0 12) + (1 : Int32)).toNatClampNeg) (1048691 : Int32)) 0 12 (((u43.1 0 12) + (1 : Int32)) + (1 : Int32)))).length) (rg_map _) (mW_nd _ _ _ _ _ _) rfl rfl rfl rfl hl.1 rfl (Nat.le_of_ble_eq_true rfl) dX13_index_101 ⟨Nat.le_of_ble_eq_true rfl, Nat.le_of_ble_eq_true rfl⟩) hP hD hS hA (fun r61 u60 H locs hw59 hP hD hS => ?_)
  obtain ⟨rfl, rfl⟩ := hw59
  have z62 : ((((u43.1 0 12) + (1 : Int32)) + (1 : Int32)) + (1 : Int32)).toInt = (((u43.1 0 12).toInt + 1) + 1) + 1 := add_z z55 (show (1 : Int32).toInt = 1 by decide) (by omega) (by omega)
  have hP : va_P (dC, dI) vwCl (mW ad N cI cZ cJ (wA (wA (wA (wA (wA (wA u43 11 ((u43.1 0 12).toNatClampNeg) r47) 0 12 ((u43.1 0 12) + (1 : Int32))) 11 (((u43.1 0 12) + (1 : Int32)).toNatClampNeg) (1048691 : Int32)) 0 12 (((u43.1 0 12) + (1 : Int32)) + (1 : Int32))) 11 ((((u43.1 0 12) + (1 : Int32)) + (1 : Int32)).toNatClampNeg) r58) 0 12 ((((u43.1 0 12) + (1 : Int32)) + (1 : Int32)) + (1 : Int32)))) H := hP
  have hD : va_D A (mW ad N cI cZ cJ (wA (wA (wA (wA (wA (wA u43 11 ((u43.1 0 12).toNatClampNeg) r47) 0 12 ((u43.1 0 12) + (1 : Int32))) 11 (((u43.1 0 12) + (1 : Int32)).toNatClampNeg) (1048691 : Int32)) 0 12 (((u43.1 0 12) + (1 : Int32)) + (1 : Int32))) 11 ((((u43.1 0 12) + (1 : Int32)) + (1 : Int32)).toNatClampNeg) r58) 0 12 ((((u43.1 0 12) + (1 : Int32)) + (1 : Int32)) + (1 : Int32)))) := hD
  refine tp_i (y := (((u43.1 0 12) + (1 : Int32)) + (1 : Int32))) (rfl) ?_
  refine W.widen (k := 0) (n := 0) (by omega) (by omega) ?_
  refine lv_pop hx hb dX13_index_104 rfl ?_
  refine lv_aload_n hx hb dX13_index_105 rfl (lv_at hl 1 rfl) ?_
  refine lv_aload_n hx hb dX13_index_106 rfl (lv_at hl 1 rfl) ?_
  refine lv_bipush (v := 6) hx hb dX13_index_107 (by decide) ?_
  refine lv_iconst (v := 0) hx hb dX13_index_109 (by decide) ?_
  refine cu_s (mW_nd _ _ _ _ _ _) (rn_S (n := 2) (As := [.int 6, .int 0]) (rest := [.ref (ad 0), .ref (ad 0)]) hx hb hml hown ht hKK hFx hP hD hS hA (c_m_lui l dC dI cI cB cZ cJ cR tb H.size (6 : Int32) (0 : Int32) ) tw_61 tw_62 (by decide +kernel) rfl rfl ⟨by show 0 + 1 ≤ 40 * n + 6; omega, by show 8 + (2 + 11) + 0 ≤ 28 * (40 * n + 6); omega⟩ [] rfl rfl rfl hl.1 rfl (Nat.le_of_ble_eq_true rfl) dX13_index_110 ⟨Nat.le_of_ble_eq_true rfl, Nat.le_of_ble_eq_true rfl⟩) hP hD hS hA (fun r65 H locs hw63 hP hD hS => ?_)
  refine W.widen (k := 0) (n := 0) (by omega) (by omega) ?_
  refine cu_i (rn_V (n := 1) (As := [.int r65]) (rest := [.ref (ad 0)]) hx hb hml hown ht hKK hFx hP hD hS hA (c_m_emit l dC dI cI cB cZ cJ cR tb H.size ad N (wA (wA (wA (wA (wA (wA u43 11 ((u43.1 0 12).toNatClampNeg) r47) 0 12 ((u43.1 0 12) + (1 : Int32))) 11 (((u43.1 0 12) + (1 : Int32)).toNatClampNeg) (1048691 : Int32)) 0 12 (((u43.1 0 12) + (1 : Int32)) + (1 : Int32))) 11 ((((u43.1 0 12) + (1 : Int32)) + (1 : Int32)).toNatClampNeg) r58) 0 12 ((((u43.1 0 12) + (1 : Int32)) + (1 : Int32)) + (1 : Int32))) r65 (show 0 ≤ ((((u43.1 0 12) + (1 : Int32)) + (1 : Int32)) + (1 : Int32)).toInt ∧ ((((u43.1 0 12) + (1 : Int32)) + (1 : Int32)) + (1 : Int32)).toInt < 24000 by omega)) tw_8 tw_9 (by decide +kernel) rfl rfl ⟨by show 0 + 1 ≤ 40 * n + 6; omega, by show 8 + (2 + 11) + 0 ≤ 28 * (40 * n + 6); omega⟩ (List.range (mW ad N cI cZ cJ (wA (wA (wA (wA (wA (wA u43 11 ((u43.1 0 12).toNatClampNeg) r47) 0 12 ((u43.1 0 12) + (1 : Int32))) 11 (((u43.1 0 12) + (1 : Int32)).toNatClampNeg) (1048691 : Int32)) 0 12 (((u43.1 0 12) + (1 : Int32)) + (1 : Int32))) 11 ((((u43.1 0 12) + (1 : Int32)) + (1 : Int32)).toNatClampNeg) r58) 0 12 ((((u43.1 0 12) + (1 : Int32)) + (1 : Int32)) + (1 : Int32)))).length) (rg_map _) (mW_nd _ _ _ _ _ _) rfl rfl rfl rfl hl.1 rfl (Nat.le_of_ble_eq_true rfl) dX13_index_113 ⟨Nat.le_of_ble_eq_true rfl, Nat.le_of_ble_eq_true rfl⟩) hP hD hS hA (fun r68 u67 H locs hw66 hP hD hS => ?_)
  obtain ⟨rfl, rfl⟩ := hw66
  have z69 : (((((u43.1 0 12) + (1 : Int32)) + (1 : Int32)) + (1 : Int32)) + (1 : Int32)).toInt = ((((u43.1 0 12).toInt + 1) + 1) + 1) + 1 := add_z z62 (show (1 : Int32).toInt = 1 by decide) (by omega) (by omega)
  have hP : va_P (dC, dI) vwCl (mW ad N cI cZ cJ (wA (wA (wA (wA (wA (wA (wA (wA u43 11 ((u43.1 0 12).toNatClampNeg) r47) 0 12 ((u43.1 0 12) + (1 : Int32))) 11 (((u43.1 0 12) + (1 : Int32)).toNatClampNeg) (1048691 : Int32)) 0 12 (((u43.1 0 12) + (1 : Int32)) + (1 : Int32))) 11 ((((u43.1 0 12) + (1 : Int32)) + (1 : Int32)).toNatClampNeg) r58) 0 12 ((((u43.1 0 12) + (1 : Int32)) + (1 : Int32)) + (1 : Int32))) 11 (((((u43.1 0 12) + (1 : Int32)) + (1 : Int32)) + (1 : Int32)).toNatClampNeg) r65) 0 12 (((((u43.1 0 12) + (1 : Int32)) + (1 : Int32)) + (1 : Int32)) + (1 : Int32)))) H := hP
  have hD : va_D A (mW ad N cI cZ cJ (wA (wA (wA (wA (wA (wA (wA (wA u43 11 ((u43.1 0 12).toNatClampNeg) r47) 0 12 ((u43.1 0 12) + (1 : Int32))) 11 (((u43.1 0 12) + (1 : Int32)).toNatClampNeg) (1048691 : Int32)) 0 12 (((u43.1 0 12) + (1 : Int32)) + (1 : Int32))) 11 ((((u43.1 0 12) + (1 : Int32)) + (1 : Int32)).toNatClampNeg) r58) 0 12 ((((u43.1 0 12) + (1 : Int32)) + (1 : Int32)) + (1 : Int32))) 11 (((((u43.1 0 12) + (1 : Int32)) + (1 : Int32)) + (1 : Int32)).toNatClampNeg) r65) 0 12 (((((u43.1 0 12) + (1 : Int32)) + (1 : Int32)) + (1 : Int32)) + (1 : Int32)))) := hD
  refine tp_i (y := ((((u43.1 0 12) + (1 : Int32)) + (1 : Int32)) + (1 : Int32))) (rfl) ?_
  refine W.widen (k := 0) (n := 0) (by omega) (by omega) ?_
  obtain ⟨u70, hu71⟩ : ∃ z, z = (wA (wA (wA (wA (wA (wA (wA (wA u43 11 ((u43.1 0 12).toNatClampNeg) r47) 0 12 ((u43.1 0 12) + (1 : Int32))) 11 (((u43.1 0 12) + (1 : Int32)).toNatClampNeg) (1048691 : Int32)) 0 12 (((u43.1 0 12) + (1 : Int32)) + (1 : Int32))) 11 ((((u43.1 0 12) + (1 : Int32)) + (1 : Int32)).toNatClampNeg) r58) 0 12 ((((u43.1 0 12) + (1 : Int32)) + (1 : Int32)) + (1 : Int32))) 11 (((((u43.1 0 12) + (1 : Int32)) + (1 : Int32)) + (1 : Int32)).toNatClampNeg) r65) 0 12 (((((u43.1 0 12) + (1 : Int32)) + (1 : Int32)) + (1 : Int32)) + (1 : Int32))) := ⟨_, rfl⟩
  have fr71 : FG [12] [0, 11] u43 u70 := by rw [hu71]; exact (FG.f (FG.a (FG.f (FG.a (FG.f (FG.a (FG.f (FG.a (FG.rf _) ((u43.1 0 12).toNatClampNeg) r47 (by decide) (by decide)) ((u43.1 0 12) + (1 : Int32)) (by decide)) (((u43.1 0 12) + (1 : Int32)).toNatClampNeg) (1048691 : Int32) (by decide) (by decide)) (((u43.1 0 12) + (1 : Int32)) + (1 : Int32)) (by decide)) ((((u43.1 0 12) + (1 : Int32)) + (1 : Int32)).toNatClampNeg) r58 (by decide) (by decide)) ((((u43.1 0 12) + (1 : Int32)) + (1 : Int32)) + (1 : Int32)) (by decide)) (((((u43.1 0 12) + (1 : Int32)) + (1 : Int32)) + (1 : Int32)).toNatClampNeg) r65 (by decide) (by decide)) (((((u43.1 0 12) + (1 : Int32)) + (1 : Int32)) + (1 : Int32)) + (1 : Int32)) (by decide))
  have q71_2 : (u70.1 0 2).toInt = (u43.1 0 2).toInt := congrArg Int32.toInt (fr71.2.1 2 (by decide))
  have q71_4 : (u70.1 0 4).toInt = (u43.1 0 4).toInt := congrArg Int32.toInt (fr71.2.1 4 (by decide))
  have q71_5 : (u70.1 0 5).toInt = (u43.1 0 5).toInt := congrArg Int32.toInt (fr71.2.1 5 (by decide))
  have q71_12 : (u70.1 0 12).toInt = (((((u43.1 0 12).toInt + 1) + 1) + 1) + 1) := by rw [hu71]; exact (show (((((u43.1 0 12) + (1 : Int32)) + (1 : Int32)) + (1 : Int32)) + (1 : Int32)).toInt = (((((u43.1 0 12).toInt + 1) + 1) + 1) + 1) from z69)
  have q71_15 : (u70.1 0 15).toInt = (u43.1 0 15).toInt := congrArg Int32.toInt (fr71.2.1 15 (by decide))
  have q71_22 : (u70.1 0 22).toInt = (u43.1 0 22).toInt := congrArg Int32.toInt (fr71.2.1 22 (by decide))
  have q71_27 : (u70.1 0 27).toInt = (u43.1 0 27).toInt := congrArg Int32.toInt (fr71.2.1 27 (by decide))
  have q71_28 : (u70.1 0 28).toInt = (u43.1 0 28).toInt := congrArg Int32.toInt (fr71.2.1 28 (by decide))
  have q71_30 : (u70.1 0 30).toInt = (u43.1 0 30).toInt := congrArg Int32.toInt (fr71.2.1 30 (by decide))
  have q71_31 : (u70.1 0 31).toInt = (u43.1 0 31).toInt := congrArg Int32.toInt (fr71.2.1 31 (by decide))
  have q71_32 : (u70.1 0 32).toInt = (u43.1 0 32).toInt := congrArg Int32.toInt (fr71.2.1 32 (by decide))
  have q71_33 : (u70.1 0 33).toInt = (u43.1 0 33).toInt := congrArg Int32.toInt (fr71.2.1 33 (by decide))
  have q71_34 : (u70.1 0 34).toInt = (u43.1 0 34).toInt := congrArg Int32.toInt (fr71.2.1 34 (by decide))
  have q71_39 : (u70.1 0 39).toInt = (u43.1 0 39).toInt := congrArg Int32.toInt (fr71.2.1 39 (by decide))
  have q71_43 : (u70.1 0 43).toInt = (u43.1 0 43).toInt := congrArg Int32.toInt (fr71.2.1 43 (by decide))
  have q71_47 : (u70.1 0 47).toInt = (u43.1 0 47).toInt := congrArg Int32.toInt (fr71.2.1 47 (by decide))
  have q71_48 : (u70.1 0 48).toInt = (u43.1 0 48).toInt := congrArg Int32.toInt (fr71.2.1 48 (by decide))
  have q71_49 : (u70.1 0 49).toInt = (u43.1 0 49).toInt := congrArg Int32.toInt (fr71.2.1 49 (by decide))
  have q71_52 : (u70.1 0 52).toInt = (u43.1 0 52).toInt := congrArg Int32.toInt (fr71.2.1 52 (by decide))
  have kc71 : ∀ j : Nat, (j : Int) < (u43.1 0 12).toInt → (u70.1 11) j = (u43.1 11) j := by rw [hu71]; exact (fun (j9 : Nat) hj9 => (Eq.trans (pk_un (by have := cl_z (a := ((((u43.1 0 12) + (1 : Int32)) + (1 : Int32)) + (1 : Int32)).toInt) rfl (by omega); omega)) (Eq.trans (pk_un (by have := cl_z (a := (((u43.1 0 12) + (1 : Int32)) + (1 : Int32)).toInt) rfl (by omega); omega)) (Eq.trans (pk_un (by have := cl_z (a := ((u43.1 0 12) + (1 : Int32)).toInt) rfl (by omega); omega)) (pk_un (by have := cl_z (a := (u43.1 0 12).toInt) rfl (by omega); omega))))))
  rw [← hu71] at hP hD
  refine lv_iload_n hx hb dX13_index_116 rfl (lv_at hl 2 rfl) ?_
  refine lv_iconst (v := 0) hx hb dX13_index_117 (by decide) ?_
  refine cu_v (rn_V (n := 3) (As := [.int ((((u43.1 0 12) + (1 : Int32)) + (1 : Int32)) + (1 : Int32)), .int pa, .int 0]) (rest := []) hx hb hml hown ht hKK hFx hP hD hS hA (c_m_fix l dC dI cI cB cZ cJ cR tb H.size ad N u70 ((((u43.1 0 12) + (1 : Int32)) + (1 : Int32)) + (1 : Int32)) pa (0 : Int32) (show 0 ≤ (u70.1 0 43).toInt ∧ (u70.1 0 43).toInt < 24000 by omega)) tw_69 tw_70 (by decide +kernel) rfl rfl ⟨by show 0 + 1 ≤ 40 * n + 6; omega, by show 8 + (4 + 11) + 0 ≤ 28 * (40 * n + 6); omega⟩ (List.range (mW ad N cI cZ cJ u70).length) (rg_map _) (mW_nd _ _ _ _ _ _) rfl rfl rfl rfl hl.1 rfl (Nat.le_of_ble_eq_true rfl) dX13_index_118 ⟨Nat.le_of_ble_eq_true rfl, Nat.le_of_ble_eq_true rfl⟩) hP hD hS hA (fun u73 H locs hw72 hP hD hS => ?_)
  obtain rfl := hw72
  have z75 : ((u70.1 0 43) + (1 : Int32)).toInt = (u70.1 0 43).toInt + 1 := add_z rfl (show (1 : Int32).toInt = 1 by decide) (by omega) (by omega)
  have hP : va_P (dC, dI) vwCl (mW ad N cI cZ cJ (wA (wA (wA (wA u70 40 ((u70.1 0 43).toNatClampNeg) ((((u43.1 0 12) + (1 : Int32)) + (1 : Int32)) + (1 : Int32))) 41 ((u70.1 0 43).toNatClampNeg) pa) 42 ((u70.1 0 43).toNatClampNeg) (0 : Int32)) 0 43 ((u70.1 0 43) + (1 : Int32)))) H := hP
  have hD : va_D A (mW ad N cI cZ cJ (wA (wA (wA (wA u70 40 ((u70.1 0 43).toNatClampNeg) ((((u43.1 0 12) + (1 : Int32)) + (1 : Int32)) + (1 : Int32))) 41 ((u70.1 0 43).toNatClampNeg) pa) 42 ((u70.1 0 43).toNatClampNeg) (0 : Int32)) 0 43 ((u70.1 0 43) + (1 : Int32)))) := hD
  refine W.widen (k := 0) (n := 0) (by omega) (by omega) ?_
  refine lv_aload_n hx hb dX13_index_121 rfl (lv_at hl 1 rfl) ?_
  refine lv_iconst (v := 0) hx hb dX13_index_122 (by decide) ?_
  refine lv_iconst (v := 0) hx hb dX13_index_123 (by decide) ?_
  refine lv_bipush (v := 10) hx hb dX13_index_124 (by decide) ?_
  refine lv_bipush (v := 10) hx hb dX13_index_126 (by decide) ?_
  refine lv_bipush (v := 6) hx hb dX13_index_128 (by decide) ?_
  refine cu_s (mW_nd _ _ _ _ _ _) (rn_S (n := 5) (As := [.int 0, .int 0, .int 10, .int 10, .int 6]) (rest := [.ref (ad 0)]) hx hb hml hown ht hKK hFx hP hD hS hA (c_m_byR l dC dI cI cB cZ cJ cR tb H.size (0 : Int32) (0 : Int32) (10 : Int32) (10 : Int32) (6 : Int32) ) tw_67 tw_68 (by decide +kernel) rfl rfl ⟨by show 0 + 1 ≤ 40 * n + 6; omega, by show 8 + (5 + 11) + 0 ≤ 28 * (40 * n + 6); omega⟩ [] rfl rfl rfl hl.1 rfl (Nat.le_of_ble_eq_true rfl) dX13_index_130 ⟨Nat.le_of_ble_eq_true rfl, Nat.le_of_ble_eq_true rfl⟩) hP hD hS hA (fun r78 H locs hw76 hP hD hS => ?_)
  refine W.widen (k := 0) (n := 0) (by omega) (by omega) ?_
  refine cu_i (rn_V (n := 1) (As := [.int r78]) (rest := []) hx hb hml hown ht hKK hFx hP hD hS hA (c_m_emit l dC dI cI cB cZ cJ cR tb H.size ad N (wA (wA (wA (wA u70 40 ((u70.1 0 43).toNatClampNeg) ((((u43.1 0 12) + (1 : Int32)) + (1 : Int32)) + (1 : Int32))) 41 ((u70.1 0 43).toNatClampNeg) pa) 42 ((u70.1 0 43).toNatClampNeg) (0 : Int32)) 0 43 ((u70.1 0 43) + (1 : Int32))) r78 (show 0 ≤ (u70.1 0 12).toInt ∧ (u70.1 0 12).toInt < 24000 by omega)) tw_8 tw_9 (by decide +kernel) rfl rfl ⟨by show 0 + 1 ≤ 40 * n + 6; omega, by show 8 + (2 + 11) + 0 ≤ 28 * (40 * n + 6); omega⟩ (List.range (mW ad N cI cZ cJ (wA (wA (wA (wA u70 40 ((u70.1 0 43).toNatClampNeg) ((((u43.1 0 12) + (1 : Int32)) + (1 : Int32)) + (1 : Int32))) 41 ((u70.1 0 43).toNatClampNeg) pa) 42 ((u70.1 0 43).toNatClampNeg) (0 : Int32)) 0 43 ((u70.1 0 43) + (1 : Int32)))).length) (rg_map _) (mW_nd _ _ _ _ _ _) rfl rfl rfl rfl hl.1 rfl (Nat.le_of_ble_eq_true rfl) dX13_index_133 ⟨Nat.le_of_ble_eq_true rfl, Nat.le_of_ble_eq_true rfl⟩) hP hD hS hA (fun r81 u80 H locs hw79 hP hD hS => ?_)
  obtain ⟨rfl, rfl⟩ := hw79
  have z82 : ((u70.1 0 12) + (1 : Int32)).toInt = (u70.1 0 12).toInt + 1 := add_z rfl (show (1 : Int32).toInt = 1 by decide) (by omega) (by omega)
  have hP : va_P (dC, dI) vwCl (mW ad N cI cZ cJ (wA (wA (wA (wA (wA (wA u70 40 ((u70.1 0 43).toNatClampNeg) ((((u43.1 0 12) + (1 : Int32)) + (1 : Int32)) + (1 : Int32))) 41 ((u70.1 0 43).toNatClampNeg) pa) 42 ((u70.1 0 43).toNatClampNeg) (0 : Int32)) 0 43 ((u70.1 0 43) + (1 : Int32))) 11 ((u70.1 0 12).toNatClampNeg) r78) 0 12 ((u70.1 0 12) + (1 : Int32)))) H := hP
  have hD : va_D A (mW ad N cI cZ cJ (wA (wA (wA (wA (wA (wA u70 40 ((u70.1 0 43).toNatClampNeg) ((((u43.1 0 12) + (1 : Int32)) + (1 : Int32)) + (1 : Int32))) 41 ((u70.1 0 43).toNatClampNeg) pa) 42 ((u70.1 0 43).toNatClampNeg) (0 : Int32)) 0 43 ((u70.1 0 43) + (1 : Int32))) 11 ((u70.1 0 12).toNatClampNeg) r78) 0 12 ((u70.1 0 12) + (1 : Int32)))) := hD
  refine tp_i (y := (u70.1 0 12)) (rfl) ?_
  refine W.widen (k := 0) (n := 0) (by omega) (by omega) ?_
  refine lv_pop hx hb dX13_index_136 rfl ?_
  refine lv_aload_n hx hb dX13_index_137 rfl (lv_at hl 1 rfl) ?_
  refine lv_iconst (v := 5) hx hb dX13_index_138 (by decide) ?_
  refine lv_iload_n hx hb dX13_index_139 rfl (lv_at hl 2 rfl) ?_
  refine cu_i (rn_V (n := 2) (As := [.int 5, .int pa]) (rest := []) hx hb hml hown ht hKK hFx hP hD hS hA (c_m_say l dC dI cI cB cZ cJ cR tb H.size ad N (wA (wA (wA (wA (wA (wA u70 40 ((u70.1 0 43).toNatClampNeg) ((((u43.1 0 12) + (1 : Int32)) + (1 : Int32)) + (1 : Int32))) 41 ((u70.1 0 43).toNatClampNeg) pa) 42 ((u70.1 0 43).toNatClampNeg) (0 : Int32)) 0 43 ((u70.1 0 43) + (1 : Int32))) 11 ((u70.1 0 12).toNatClampNeg) r78) 0 12 ((u70.1 0 12) + (1 : Int32))) (5 : Int32) pa (show 0 ≤ (u70.1 0 15).toInt ∧ (u70.1 0 15).toInt < 16000 by omega)) tw_59 tw_60 (by decide +kernel) rfl rfl ⟨by show 0 + 1 ≤ 40 * n + 6; omega, by show 8 + (3 + 11) + 0 ≤ 28 * (40 * n + 6); omega⟩ (List.range (mW ad N cI cZ cJ (wA (wA (wA (wA (wA (wA u70 40 ((u70.1 0 43).toNatClampNeg) ((((u43.1 0 12) + (1 : Int32)) + (1 : Int32)) + (1 : Int32))) 41 ((u70.1 0 43).toNatClampNeg) pa) 42 ((u70.1 0 43).toNatClampNeg) (0 : Int32)) 0 43 ((u70.1 0 43) + (1 : Int32))) 11 ((u70.1 0 12).toNatClampNeg) r78) 0 12 ((u70.1 0 12) + (1 : Int32)))).length) (rg_map _) (mW_nd _ _ _ _ _ _) rfl rfl rfl rfl hl.1 rfl (Nat.le_of_ble_eq_true rfl) dX13_index_140 ⟨Nat.le_of_ble_eq_true rfl, Nat.le_of_ble_eq_true rfl⟩) hP hD hS hA (fun r85 u84 H locs hw83 hP hD hS => ?_)
  obtain ⟨rfl, rfl⟩ := hw83
  have z86 : ((u70.1 0 15) + (1 : Int32)).toInt = (u70.1 0 15).toInt + 1 := add_z rfl (show (1 : Int32).toInt = 1 by decide) (by omega) (by omega)
  have hP : va_P (dC, dI) vwCl (mW ad N cI cZ cJ (wA (wA (wA (wA (wA (wA (wA (wA (wA u70 40 ((u70.1 0 43).toNatClampNeg) ((((u43.1 0 12) + (1 : Int32)) + (1 : Int32)) + (1 : Int32))) 41 ((u70.1 0 43).toNatClampNeg) pa) 42 ((u70.1 0 43).toNatClampNeg) (0 : Int32)) 0 43 ((u70.1 0 43) + (1 : Int32))) 11 ((u70.1 0 12).toNatClampNeg) r78) 0 12 ((u70.1 0 12) + (1 : Int32))) 13 ((u70.1 0 15).toNatClampNeg) (5 : Int32)) 14 ((u70.1 0 15).toNatClampNeg) pa) 0 15 ((u70.1 0 15) + (1 : Int32)))) H := hP
  have hD : va_D A (mW ad N cI cZ cJ (wA (wA (wA (wA (wA (wA (wA (wA (wA u70 40 ((u70.1 0 43).toNatClampNeg) ((((u43.1 0 12) + (1 : Int32)) + (1 : Int32)) + (1 : Int32))) 41 ((u70.1 0 43).toNatClampNeg) pa) 42 ((u70.1 0 43).toNatClampNeg) (0 : Int32)) 0 43 ((u70.1 0 43) + (1 : Int32))) 11 ((u70.1 0 12).toNatClampNeg) r78) 0 12 ((u70.1 0 12) + (1 : Int32))) 13 ((u70.1 0 15).toNatClampNeg) (5 : Int32)) 14 ((u70.1 0 15).toNatClampNeg) pa) 0 15 ((u70.1 0 15) + (1 : Int32)))) := hD
  refine tp_i (y := (u70.1 0 15)) (rfl) ?_
  refine W.widen (k := 0) (n := 0) (by omega) (by omega) ?_
  obtain ⟨u87, hu88⟩ : ∃ z, z = (wA (wA (wA (wA (wA (wA (wA (wA (wA u70 40 ((u70.1 0 43).toNatClampNeg) ((((u43.1 0 12) + (1 : Int32)) + (1 : Int32)) + (1 : Int32))) 41 ((u70.1 0 43).toNatClampNeg) pa) 42 ((u70.1 0 43).toNatClampNeg) (0 : Int32)) 0 43 ((u70.1 0 43) + (1 : Int32))) 11 ((u70.1 0 12).toNatClampNeg) r78) 0 12 ((u70.1 0 12) + (1 : Int32))) 13 ((u70.1 0 15).toNatClampNeg) (5 : Int32)) 14 ((u70.1 0 15).toNatClampNeg) pa) 0 15 ((u70.1 0 15) + (1 : Int32))) := ⟨_, rfl⟩
  have fr88 : FG [12, 15, 43] [0, 11, 13, 14, 40, 41, 42] u70 u87 := by rw [hu88]; exact (FG.f (FG.a (FG.a (FG.f (FG.a (FG.f (FG.a (FG.a (FG.a (FG.rf _) ((u70.1 0 43).toNatClampNeg) ((((u43.1 0 12) + (1 : Int32)) + (1 : Int32)) + (1 : Int32)) (by decide) (by decide)) ((u70.1 0 43).toNatClampNeg) pa (by decide) (by decide)) ((u70.1 0 43).toNatClampNeg) (0 : Int32) (by decide) (by decide)) ((u70.1 0 43) + (1 : Int32)) (by decide)) ((u70.1 0 12).toNatClampNeg) r78 (by decide) (by decide)) ((u70.1 0 12) + (1 : Int32)) (by decide)) ((u70.1 0 15).toNatClampNeg) (5 : Int32) (by decide) (by decide)) ((u70.1 0 15).toNatClampNeg) pa (by decide) (by decide)) ((u70.1 0 15) + (1 : Int32)) (by decide))
  have q88_2 : (u87.1 0 2).toInt = (u70.1 0 2).toInt := congrArg Int32.toInt (fr88.2.1 2 (by decide))
  have q88_4 : (u87.1 0 4).toInt = (u70.1 0 4).toInt := congrArg Int32.toInt (fr88.2.1 4 (by decide))
  have q88_5 : (u87.1 0 5).toInt = (u70.1 0 5).toInt := congrArg Int32.toInt (fr88.2.1 5 (by decide))
  have q88_12 : (u87.1 0 12).toInt = ((u70.1 0 12).toInt + 1) := by rw [hu88]; exact (show ((u70.1 0 12) + (1 : Int32)).toInt = ((u70.1 0 12).toInt + 1) from z82)
  have q88_15 : (u87.1 0 15).toInt = ((u70.1 0 15).toInt + 1) := by rw [hu88]; exact (show ((u70.1 0 15) + (1 : Int32)).toInt = ((u70.1 0 15).toInt + 1) from z86)
  have q88_22 : (u87.1 0 22).toInt = (u70.1 0 22).toInt := congrArg Int32.toInt (fr88.2.1 22 (by decide))
  have q88_27 : (u87.1 0 27).toInt = (u70.1 0 27).toInt := congrArg Int32.toInt (fr88.2.1 27 (by decide))
  have q88_28 : (u87.1 0 28).toInt = (u70.1 0 28).toInt := congrArg Int32.toInt (fr88.2.1 28 (by decide))
  have q88_30 : (u87.1 0 30).toInt = (u70.1 0 30).toInt := congrArg Int32.toInt (fr88.2.1 30 (by decide))
  have q88_31 : (u87.1 0 31).toInt = (u70.1 0 31).toInt := congrArg Int32.toInt (fr88.2.1 31 (by decide))
  have q88_32 : (u87.1 0 32).toInt = (u70.1 0 32).toInt := congrArg Int32.toInt (fr88.2.1 32 (by decide))
  have q88_33 : (u87.1 0 33).toInt = (u70.1 0 33).toInt := congrArg Int32.toInt (fr88.2.1 33 (by decide))
  have q88_34 : (u87.1 0 34).toInt = (u70.1 0 34).toInt := congrArg Int32.toInt (fr88.2.1 34 (by decide))
  have q88_39 : (u87.1 0 39).toInt = (u70.1 0 39).toInt := congrArg Int32.toInt (fr88.2.1 39 (by decide))
  have q88_43 : (u87.1 0 43).toInt = ((u70.1 0 43).toInt + 1) := by rw [hu88]; exact (show ((u70.1 0 43) + (1 : Int32)).toInt = ((u70.1 0 43).toInt + 1) from z75)
  have q88_47 : (u87.1 0 47).toInt = (u70.1 0 47).toInt := congrArg Int32.toInt (fr88.2.1 47 (by decide))
  have q88_48 : (u87.1 0 48).toInt = (u70.1 0 48).toInt := congrArg Int32.toInt (fr88.2.1 48 (by decide))
  have q88_49 : (u87.1 0 49).toInt = (u70.1 0 49).toInt := congrArg Int32.toInt (fr88.2.1 49 (by decide))
  have q88_52 : (u87.1 0 52).toInt = (u70.1 0 52).toInt := congrArg Int32.toInt (fr88.2.1 52 (by decide))
  have kc88 : ∀ j : Nat, (j : Int) < (u70.1 0 12).toInt → (u87.1 11) j = (u70.1 11) j := by rw [hu88]; exact (fun (j9 : Nat) hj9 => (pk_un (by have := cl_z (a := (u70.1 0 12).toInt) rfl (by omega); omega)))
  have ko88 : ∀ j : Nat, (j : Int) < (u70.1 0 15).toInt → (u87.1 13) j = (u70.1 13) j := by rw [hu88]; exact (fun (j9 : Nat) hj9 => (pk_un (by have := cl_z (a := (u70.1 0 15).toInt) rfl (by omega); omega)))
  have kg88 : ∀ j : Nat, (j : Int) < (u70.1 0 15).toInt → (u87.1 14) j = (u70.1 14) j := by rw [hu88]; exact (fun (j9 : Nat) hj9 => (pk_un (by have := cl_z (a := (u70.1 0 15).toInt) rfl (by omega); omega)))
  rw [← hu88] at hP hD
  refine lv_pop hx hb dX13_index_143 rfl ?_
  refine vx_ret ?_
  exact W.vret hx hb hr (fun t ht9 hW => ⟨⟨u87, rfl, ⟨(FG.tr (FG.tr (FG.tr (FG.tr (FG.f (FG.f (FG.rf _) ((v.1 0 47) + (1 : Int32)) (by decide)) ((v.1 0 48) + (1 : Int32)) (by decide)) (FG.up fr8 (by decide) (by decide))) (FG.up fr44 (by decide) (by decide))) (FG.up fr71 (by decide) (by decide))) (FG.up fr88 (by decide) (by decide))), (show (v.1 0 47).toInt + 1 ≤ (u87.1 0 47).toInt ∧ (u87.1 0 47).toInt ≤ 1500 by omega), (show (v.1 0 49).toInt ≠ (v.1 0 47).toInt by omega), (show (v.1 0 12).toInt ≤ (u87.1 0 12).toInt ∧ (u87.1 0 12).toInt - 15 * (u87.1 0 47).toInt ≤ (v.1 0 12).toInt - 15 * (v.1 0 47).toInt by omega), (show (v.1 0 15).toInt ≤ (u87.1 0 15).toInt ∧ (u87.1 0 15).toInt - 10 * (u87.1 0 47).toInt ≤ (v.1 0 15).toInt - 10 * (v.1 0 47).toInt by omega), (show (v.1 0 43).toInt ≤ (u87.1 0 43).toInt ∧ (u87.1 0 43).toInt - 15 * (u87.1 0 47).toInt ≤ (v.1 0 43).toInt - 15 * (v.1 0 47).toInt by omega), (show (v.1 0 39).toInt ≤ (u87.1 0 39).toInt ∧ (u87.1 0 39).toInt - 1 * (u87.1 0 47).toInt ≤ (v.1 0 39).toInt - 1 * (v.1 0 47).toInt by omega), (show (u87.1 0 32).toInt = (v.1 0 32).toInt ∧ (u87.1 0 48).toInt = (v.1 0 48).toInt by omega), (show (v.1 0 33).toInt ≤ (u87.1 0 33).toInt ∧ (u87.1 0 33).toInt ≤ 500 by omega), (fun (j9 : Nat) hj9 => (Eq.trans (kc88 j9 (by omega)) (Eq.trans (kc71 j9 (by omega)) (Eq.trans (kc44 j9 (by omega)) (kc8 j9 (by omega)))))), (fun (j9 : Nat) hj9 => (Eq.trans (ko88 j9 (by omega)) (Eq.trans (congrFun (fr71.2.2 13 (by decide)) j9) (Eq.trans (congrFun (fr44.2.2 13 (by decide)) j9) (ko8 j9 (by omega)))))), (fun (j9 : Nat) hj9 => (Eq.trans (kg88 j9 (by omega)) (Eq.trans (congrFun (fr71.2.2 14 (by decide)) j9) (Eq.trans (congrFun (fr44.2.2 14 (by decide)) j9) (kg8 j9 (by omega)))))), (show NI 35 u87 from NI.fr (fl := [12, 15, 43]) (al := [0, 11, 13, 14, 40, 41, 42]) fr88 (by decide) (show NI 35 u70 from NI.fr (fl := [12]) (al := [0, 11]) fr71 (by decide) (show NI 35 u43 from NI.fr (fl := [12, 47, 48]) (al := [0, 11]) fr44 (by decide) n358)))⟩, by rw [ht9]; exact hP, hD⟩, hS.F ht9⟩) hS.2.2 dX13_index_144
