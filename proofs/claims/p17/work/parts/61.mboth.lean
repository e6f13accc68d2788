theorem dX13_both_0 : decode cX13_both 0 = .ok (.iload_n 1, 1) := by decide +kernel
theorem dX13_both_1 : decode cX13_both 1 = .ok (.ifCond .eq 32, 3) := by decide +kernel
theorem dX13_both_33 : decode cX13_both 33 = .ok (.aload_n 0, 1) := by decide +kernel
theorem dX13_both_34 : decode cX13_both 34 = .ok (.iconst 1, 1) := by decide +kernel
theorem dX13_both_35 : decode cX13_both 35 = .ok (.bipush 10, 2) := by decide +kernel
theorem dX13_both_37 : decode cX13_both 37 = .ok (.iconst 0, 1) := by decide +kernel
theorem dX13_both_38 : decode cX13_both 38 = .ok (.bipush 8, 2) := by decide +kernel
theorem dX13_both_40 : decode cX13_both 40 = .ok (.invokestatic 293, 3) := by decide +kernel
theorem dX13_both_43 : decode cX13_both 43 = .ok (.invokevirtual 111, 3) := by decide +kernel
theorem dX13_both_46 : decode cX13_both 46 = .ok (.pop, 1) := by decide +kernel
theorem dX13_both_47 : decode cX13_both 47 = .ok (.aload_n 0, 1) := by decide +kernel
theorem dX13_both_48 : decode cX13_both 48 = .ok (.iconst (-1), 1) := by decide +kernel
theorem dX13_both_49 : decode cX13_both 49 = .ok (.invokevirtual 314, 3) := by decide +kernel
theorem tw_122 : (.code yX13_wait cX13_wait 2 (some .int) : Cond) ∈ tw_W := tw_in (by decide +kernel) (by decide +kernel)
theorem tw_123 : ∀ w ∈ ([.methodLink RX13 314 yX13_wait, .instanceMethod yX13_wait, .selects RX13 yX13_wait yX13_wait, .initialized RX13] : List Cond), w ∈ tw_W := tw_all (by decide +kernel)
theorem dX13_both_52 : decode cX13_both 52 = .ok (.istore 4, 2) := by decide +kernel
theorem dX13_both_54 : decode cX13_both 54 = .ok (.aload_n 0, 1) := by decide +kernel
theorem dX13_both_55 : decode cX13_both 55 = .ok (.iload_n 1, 1) := by decide +kernel
theorem dX13_both_56 : decode cX13_both 56 = .ok (.ifCond .eq 8, 3) := by decide +kernel
theorem dX13_both_64 : decode cX13_both 64 = .ok (.bipush 22, 2) := by decide +kernel
theorem dX13_both_66 : decode cX13_both 66 = .ok (.iconst 0, 1) := by decide +kernel
theorem dX13_both_67 : decode cX13_both 67 = .ok (.invokevirtual 210, 3) := by decide +kernel
theorem dX13_both_70 : decode cX13_both 70 = .ok (.istore_n 3, 1) := by decide +kernel
theorem dX13_both_71 : decode cX13_both 71 = .ok (.aload_n 0, 1) := by decide +kernel
theorem dX13_both_72 : decode cX13_both 72 = .ok (.iload_n 2, 1) := by decide +kernel
theorem dX13_both_73 : decode cX13_both 73 = .ok (.iconst 0, 1) := by decide +kernel
theorem dX13_both_74 : decode cX13_both 74 = .ok (.invokevirtual 310, 3) := by decide +kernel
theorem tw_124 : (.code yX13_joined cX13_joined 6 none : Cond) ∈ tw_W := tw_in (by decide +kernel) (by decide +kernel)
theorem tw_125 : ∀ w ∈ ([.methodLink RX13 310 yX13_joined, .instanceMethod yX13_joined, .selects RX13 yX13_joined yX13_joined, .initialized RX13] : List Cond), w ∈ tw_W := tw_all (by decide +kernel)
theorem dX13_both_77 : decode cX13_both 77 = .ok (.aload_n 0, 1) := by decide +kernel
theorem dX13_both_78 : decode cX13_both 78 = .ok (.iconst 0, 1) := by decide +kernel
theorem dX13_both_79 : decode cX13_both 79 = .ok (.iconst 3, 1) := by decide +kernel
theorem dX13_both_80 : decode cX13_both 80 = .ok (.bipush 10, 2) := by decide +kernel
theorem dX13_both_82 : decode cX13_both 82 = .ok (.iconst 0, 1) := by decide +kernel
theorem dX13_both_83 : decode cX13_both 83 = .ok (.bipush 10, 2) := by decide +kernel
theorem dX13_both_85 : decode cX13_both 85 = .ok (.invokestatic 213, 3) := by decide +kernel
theorem dX13_both_88 : decode cX13_both 88 = .ok (.invokevirtual 111, 3) := by decide +kernel
theorem dX13_both_91 : decode cX13_both 91 = .ok (.pop, 1) := by decide +kernel
theorem dX13_both_92 : decode cX13_both 92 = .ok (.aload_n 0, 1) := by decide +kernel
theorem dX13_both_93 : decode cX13_both 93 = .ok (.bipush 24, 2) := by decide +kernel
theorem dX13_both_95 : decode cX13_both 95 = .ok (.iconst 0, 1) := by decide +kernel
theorem dX13_both_96 : decode cX13_both 96 = .ok (.invokevirtual 210, 3) := by decide +kernel
theorem dX13_both_99 : decode cX13_both 99 = .ok (.pop, 1) := by decide +kernel
theorem dX13_both_100 : decode cX13_both 100 = .ok (.aload_n 0, 1) := by decide +kernel
theorem dX13_both_101 : decode cX13_both 101 = .ok (.iload 4, 2) := by decide +kernel
theorem dX13_both_103 : decode cX13_both 103 = .ok (.iconst 0, 1) := by decide +kernel
theorem dX13_both_104 : decode cX13_both 104 = .ok (.aload_n 0, 1) := by decide +kernel
theorem dX13_both_105 : decode cX13_both 105 = .ok (.getfield 104, 3) := by decide +kernel
theorem dX13_both_108 : decode cX13_both 108 = .ok (.invokevirtual 114, 3) := by decide +kernel
theorem tw_126 : (.code yX13_jump cX13_jump 4 none : Cond) ∈ tw_W := tw_in (by decide +kernel) (by decide +kernel)
theorem tw_127 : ∀ w ∈ ([.methodLink RX13 114 yX13_jump, .instanceMethod yX13_jump, .selects RX13 yX13_jump yX13_jump, .initialized RX13] : List Cond), w ∈ tw_W := tw_all (by decide +kernel)
theorem dX13_both_111 : decode cX13_both 111 = .ok (.aload_n 0, 1) := by decide +kernel
theorem dX13_both_112 : decode cX13_both 112 = .ok (.getfield 124, 3) := by decide +kernel
theorem dX13_both_115 : decode cX13_both 115 = .ok (.iload_n 3, 1) := by decide +kernel
theorem dX13_both_116 : decode cX13_both 116 = .ok (.aload_n 0, 1) := by decide +kernel
theorem dX13_both_117 : decode cX13_both 117 = .ok (.getfield 121, 3) := by decide +kernel
theorem dX13_both_120 : decode cX13_both 120 = .ok (.iastore, 1) := by decide +kernel
theorem dX13_both_121 : decode cX13_both 121 = .ok (.return_, 1) := by decide +kernel
theorem dX13_both_4 : decode cX13_both 4 = .ok (.aload_n 0, 1) := by decide +kernel
theorem dX13_both_5 : decode cX13_both 5 = .ok (.iconst 0, 1) := by decide +kernel
theorem dX13_both_6 : decode cX13_both 6 = .ok (.bipush 10, 2) := by decide +kernel
theorem dX13_both_8 : decode cX13_both 8 = .ok (.iconst 0, 1) := by decide +kernel
theorem dX13_both_9 : decode cX13_both 9 = .ok (.bipush 12, 2) := by decide +kernel
theorem dX13_both_11 : decode cX13_both 11 = .ok (.invokestatic 293, 3) := by decide +kernel
theorem dX13_both_14 : decode cX13_both 14 = .ok (.invokevirtual 111, 3) := by decide +kernel
theorem dX13_both_17 : decode cX13_both 17 = .ok (.pop, 1) := by decide +kernel
theorem dX13_both_18 : decode cX13_both 18 = .ok (.aload_n 0, 1) := by decide +kernel
theorem dX13_both_19 : decode cX13_both 19 = .ok (.bipush 10, 2) := by decide +kernel
theorem dX13_both_21 : decode cX13_both 21 = .ok (.iconst 0, 1) := by decide +kernel
theorem dX13_both_22 : decode cX13_both 22 = .ok (.iconst 1, 1) := by decide +kernel
theorem dX13_both_23 : decode cX13_both 23 = .ok (.invokestatic 219, 3) := by decide +kernel
theorem dX13_both_26 : decode cX13_both 26 = .ok (.invokevirtual 111, 3) := by decide +kernel
theorem dX13_both_29 : decode cX13_both 29 = .ok (.pop, 1) := by decide +kernel
theorem dX13_both_30 : decode cX13_both 30 = .ok (.goto 17, 3) := by decide +kernel
theorem dX13_both_59 : decode cX13_both 59 = .ok (.bipush 23, 2) := by decide +kernel
theorem dX13_both_61 : decode cX13_both 61 = .ok (.goto 5, 3) := by decide +kernel
def Cx_joined (l : Launch) (n : Nat) (kk : Nat) : Prop := ∀ (dC : Nat → ClassId) (dI : Nat → Nat → Nat) (cI cB cZ cJ cR : ClassId) (tb : Nat → Nat) (sz : Nat) (ad : Nat → Nat) (N : Nat) (v : MS) (pa : Int32) (pb : Int32) (zn : 40 ≤ (v.1 0 48).toInt + (n : Int)) (zt : 0 ≤ (v.1 0 47).toInt ∧ (v.1 0 47).toInt ≤ 1500) (zop : 0 ≤ (v.1 0 48).toInt ∧ (v.1 0 48).toInt ≤ 40) (zkn : 0 ≤ (v.1 0 30).toInt ∧ (v.1 0 30).toInt ≤ 500) (zhi : 0 ≤ (v.1 0 33).toInt ∧ (v.1 0 33).toInt ≤ 500) (zs : 0 ≤ (v.1 0 32).toInt ∧ (v.1 0 30).toInt + (v.1 0 32).toInt ≤ 500) (zws : 0 ≤ (v.1 0 12).toInt ∧ (v.1 0 12).toInt ≤ 15 * (v.1 0 47).toInt + 2) (zos : 0 ≤ (v.1 0 15).toInt ∧ (v.1 0 15).toInt ≤ 10 * (v.1 0 47).toInt + 0) (zfs : 0 ≤ (v.1 0 43).toInt ∧ (v.1 0 43).toInt ≤ 15 * (v.1 0 47).toInt + 0) (zcs : 0 ≤ (v.1 0 39).toInt ∧ (v.1 0 39).toInt ≤ 1 * (v.1 0 47).toInt + 0) (zgl : 0 ≤ (v.1 0 27).toInt ∧ (v.1 0 27).toInt ≤ 60) (hT : TI v) (n29 : NI 29 v) (n23 : NI 23 v) (n35 : NI 35 v) (zl : 1 ≤ pa.toInt ∧ pa.toInt ≤ 12 ∧ 11 ≤ pa.toInt + (kk : Int)), vx_Met l yX13_joined (Cond.code yX13_joined cX13_joined 6 none :: tw_W) ({ frames := 40 * n + 10 + 2 * kk, cells := 0, slots := 0, locals := 28 * (40 * n + 10 + 2 * kk) }) (pc_ (dC, dI) (tyS cI cB cZ cJ cR) tb (mW ad N cI cZ cJ v) sz [.ref (ad 0), .int pa, .int pb]) (qv_ (dC, dI) (mW ad N cI cZ cJ v) sz (fun (u : MS) => FG [12, 15, 32, 33, 39, 43, 44, 45, 47, 48, 49, 50, 51] [0, 11, 13, 14, 35, 36, 37, 38, 40, 41, 42] v u ∧ ((v.1 0 47).toInt + 0 ≤ (u.1 0 47).toInt ∧ (u.1 0 47).toInt ≤ 1500) ∧ (pb.toInt ≠ 0 ∨ ((v.1 0 47).toInt + 1 ≤ (u.1 0 47).toInt ∧ (v.1 0 49).toInt ≠ (v.1 0 47).toInt)) ∧ ((v.1 0 12).toInt ≤ (u.1 0 12).toInt ∧ (u.1 0 12).toInt - 15 * (u.1 0 47).toInt ≤ (v.1 0 12).toInt - 15 * (v.1 0 47).toInt) ∧ ((v.1 0 15).toInt ≤ (u.1 0 15).toInt ∧ (u.1 0 15).toInt - 10 * (u.1 0 47).toInt ≤ (v.1 0 15).toInt - 10 * (v.1 0 47).toInt) ∧ ((v.1 0 43).toInt ≤ (u.1 0 43).toInt ∧ (u.1 0 43).toInt - 15 * (u.1 0 47).toInt ≤ (v.1 0 43).toInt - 15 * (v.1 0 47).toInt) ∧ ((v.1 0 39).toInt ≤ (u.1 0 39).toInt ∧ (u.1 0 39).toInt - 1 * (u.1 0 47).toInt ≤ (v.1 0 39).toInt - 1 * (v.1 0 47).toInt) ∧ ((u.1 0 32).toInt = (v.1 0 32).toInt ∧ (u.1 0 48).toInt = (v.1 0 48).toInt) ∧ ((v.1 0 33).toInt ≤ (u.1 0 33).toInt ∧ (u.1 0 33).toInt ≤ 500) ∧ (∀ j : Nat, (j : Int) < (v.1 0 12).toInt → (u.1 11) j = (v.1 11) j) ∧ (∀ j : Nat, (j : Int) < (v.1 0 15).toInt → (u.1 13) j = (v.1 13) j) ∧ (∀ j : Nat, (j : Int) < (v.1 0 15).toInt → (u.1 14) j = (v.1 14) j) ∧ (NI 35 u)) (fun (u : MS) => (mW ad N cI cZ cJ u))) (qxm (dC, dI) (mW ad N cI cZ cJ v) sz (fun (u : MS) => (mW ad N cI cZ cJ u)) (fun (u : MS) => Fr v u)) 0 0 (va_A (mW ad N cI cZ cJ v) sz)
set_option maxHeartbeats 16000000 in
set_option maxRecDepth 100000 in
theorem c_m_both (l : Launch) (n : Nat) (kk : Nat) (J : Cx_joined l n kk) (dC : Nat → ClassId) (dI : Nat → Nat → Nat) (cI cB cZ cJ cR : ClassId) (tb : Nat → Nat) (sz : Nat) (ad : Nat → Nat) (N : Nat) (v : MS) (pa : Int32) (pb : Int32) (zn : 40 ≤ (v.1 0 48).toInt + (n : Int)) (zt : 0 ≤ (v.1 0 47).toInt ∧ (v.1 0 47).toInt ≤ 1500) (zop : 0 ≤ (v.1 0 48).toInt ∧ (v.1 0 48).toInt ≤ 40) (zkn : 0 ≤ (v.1 0 30).toInt ∧ (v.1 0 30).toInt ≤ 500) (zhi : 0 ≤ (v.1 0 33).toInt ∧ (v.1 0 33).toInt ≤ 500) (zs : 0 ≤ (v.1 0 32).toInt ∧ (v.1 0 30).toInt + (v.1 0 32).toInt ≤ 500) (zws : 0 ≤ (v.1 0 12).toInt ∧ (v.1 0 12).toInt ≤ 15 * (v.1 0 47).toInt + -8) (zos : 0 ≤ (v.1 0 15).toInt ∧ (v.1 0 15).toInt ≤ 10 * (v.1 0 47).toInt + -5) (zfs : 0 ≤ (v.1 0 43).toInt ∧ (v.1 0 43).toInt ≤ 15 * (v.1 0 47).toInt + 0) (zcs : 0 ≤ (v.1 0 39).toInt ∧ (v.1 0 39).toInt ≤ 1 * (v.1 0 47).toInt + 0) (zgl : 0 ≤ (v.1 0 27).toInt ∧ (v.1 0 27).toInt ≤ 60) (hT : TI v) (n29 : NI 29 v) (n23 : NI 23 v) (n35 : NI 35 v) (zl : 1 ≤ pb.toInt ∧ pb.toInt ≤ 12 ∧ 11 ≤ pb.toInt + (kk : Int)) : vx_Met l yX13_both (Cond.code yX13_both cX13_both 5 none :: tw_W) ({ frames := 40 * n + 11 + 2 * kk, cells := 0, slots := 0, locals := 28 * (40 * n + 11 + 2 * kk) }) (pc_ (dC, dI) (tyS cI cB cZ cJ cR) tb (mW ad N cI cZ cJ v) sz [.ref (ad 0), .int pa, .int pb]) (qv_ (dC, dI) (mW ad N cI cZ cJ v) sz (fun (u : MS) => FG [12, 15, 32, 33, 39, 43, 44, 45, 47, 48, 49, 50, 51] [0, 11, 13, 14, 35, 36, 37, 38, 40, 41, 42] v u ∧ ((v.1 0 47).toInt + 1 ≤ (u.1 0 47).toInt ∧ (u.1 0 47).toInt ≤ 1500) ∧ ((v.1 0 49).toInt ≠ (v.1 0 47).toInt) ∧ ((v.1 0 12).toInt ≤ (u.1 0 12).toInt ∧ (u.1 0 12).toInt - 15 * (u.1 0 47).toInt ≤ (v.1 0 12).toInt - 15 * (v.1 0 47).toInt + 5) ∧ ((v.1 0 15).toInt ≤ (u.1 0 15).toInt ∧ (u.1 0 15).toInt - 10 * (u.1 0 47).toInt ≤ (v.1 0 15).toInt - 10 * (v.1 0 47).toInt + 2) ∧ ((v.1 0 43).toInt ≤ (u.1 0 43).toInt ∧ (u.1 0 43).toInt - 15 * (u.1 0 47).toInt ≤ (v.1 0 43).toInt - 15 * (v.1 0 47).toInt) ∧ ((v.1 0 39).toInt ≤ (u.1 0 39).toInt ∧ (u.1 0 39).toInt - 1 * (u.1 0 47).toInt ≤ (v.1 0 39).toInt - 1 * (v.1 0 47).toInt) ∧ ((u.1 0 32).toInt = (v.1 0 32).toInt ∧ (u.1 0 48).toInt = (v.1 0 48).toInt) ∧ ((v.1 0 33).toInt ≤ (u.1 0 33).toInt ∧ (u.1 0 33).toInt ≤ 500) ∧ (∀ j : Nat, (j : Int) < (v.1 0 12).toInt → (u.1 11) j = (v.1 11) j) ∧ (∀ j : Nat, (j : Int) < (v.1 0 15).toInt → (u.1 13) j = (v.1 13) j) ∧ (∀ j : Nat, (j : Int) < (v.1 0 15).toInt → (u.1 14) j = (v.1 14) j) ∧ (NI 35 u)) (fun (u : MS) => (mW ad N cI cZ cJ u))) (qxm (dC, dI) (mW ad N cI cZ cJ v) sz (fun (u : MS) => (mW ad N cI cZ cJ u)) (fun (u : MS) => Fr v u)) 0 0 (va_A (mW ad N cI cZ cJ v) sz) := by
  refine vx_ofW (cc := cX13_both) (maxL := 5) (ret := none) (by decide) rfl ?_
  intro p e s m args below meth c s₁ B hml hnt hv
  obtain ⟨rfl, hsz, hP, hKK, hD0, hFx⟩ := hv
  have hK := hKK.1
  have hx := B.exec
  have hb := B.bytes
  have hr := B.returns
  have ht : ∀ w ∈ tw_W, w.before _ s = true := fun w h => atoms_spec (ws := Cond.code yX13_both cX13_both 5 none :: tw_W) B.pre w (List.mem_cons_of_mem _ h)
  have hown : s.vm.findClass RX13 = some m.cls := findClass_of_methodNamed B.named
  have hlocks := B.notSynchronized
  subst hsz
  unfold qv_ qxm
  have hD := hD0.self (sz := s.heap.size)
  generalize hAe : va_A (mW ad N cI cZ cJ v) s.heap.size = A at hD hFx ⊢
  have hA : ∀ q : Nat, s.heap.size ≤ q → A q := fun q h => by rw [← hAe]; exact Or.inr h
  have hS : va_S A s.heap s.heap [] := va_S.rf
  have hl := lv_entry ([.ref (ad 0), .int pa, .int pb]) (n := 5) (Nat.le_of_ble_eq_true rfl)
  rw [lg_entry_eq]
  generalize (lg_sl ([.ref (ad 0), .int pa, .int pb]) ++ List.replicate (5 - (lg_sl ([.ref (ad 0), .int pa, .int pb])).length) Slot.unset).toArray = ls at hl ⊢
  have hl : lv_has ls 5 [(0, .ref (ad 0)), (1, .int pa), (2, .int pb)] := hl
  refine lv_iload_n hx hb dX13_both_0 rfl (lv_at hl 1 rfl) ?_
  refine lv_if_eq (tgt := 33) hx hb dX13_both_1 (by decide) (fun h1 => ?_) (fun h1 => ?_)
  · have z2 : pa.toInt = 0 := eq_z rfl (show (0 : Int32).toInt = 0 by decide) h1
    refine lv_aload_n hx hb dX13_both_33 rfl (lv_at hl 0 rfl) ?_
    refine lv_iconst (v := 1) hx hb dX13_both_34 (by decide) ?_
    refine lv_bipush (v := 10) hx hb dX13_both_35 (by decide) ?_
    refine lv_iconst (v := 0) hx hb dX13_both_37 (by decide) ?_
    refine lv_bipush (v := 8) hx hb dX13_both_38 (by decide) ?_
    refine cu_s (mW_nd _ _ _ _ _ _) (rn_S (n := 4) (As := [.int 1, .int 10, .int 0, .int 8]) (rest := [.ref (ad 0)]) hx hb hml hown ht hKK hFx hP hD hS hA (c_m_byB l dC dI cI cB cZ cJ cR tb s.heap.size (1 : Int32) (10 : Int32) (0 : Int32) (8 : Int32) ) tw_85 tw_86 (by decide +kernel) rfl rfl ⟨by show 0 + 1 ≤ 40 * n + 11 + 2 * kk; omega, by show 8 + (4 + 11) + 0 ≤ 28 * (40 * n + 11 + 2 * kk); omega⟩ [] rfl rfl rfl hl.1 rfl (Nat.le_of_ble_eq_true rfl) dX13_both_40 ⟨Nat.le_of_ble_eq_true rfl, Nat.le_of_ble_eq_true rfl⟩) hP hD hS hA (fun r5 H locs hw3 hP hD hS => ?_)
    refine W.widen (k := 0) (n := 0) (by omega) (by omega) ?_
    refine cu_i (rn_V (n := 1) (As := [.int r5]) (rest := []) hx hb hml hown ht hKK hFx hP hD hS hA (c_m_emit l dC dI cI cB cZ cJ cR tb H.size ad N v r5 (show 0 ≤ (v.1 0 12).toInt ∧ (v.1 0 12).toInt < 24000 by omega)) tw_8 tw_9 (by decide +kernel) rfl rfl ⟨by show 0 + 1 ≤ 40 * n + 11 + 2 * kk; omega, by show 8 + (2 + 11) + 0 ≤ 28 * (40 * n + 11 + 2 * kk); omega⟩ (List.range (mW ad N cI cZ cJ v).length) (rg_map _) (mW_nd _ _ _ _ _ _) rfl rfl rfl rfl hl.1 rfl (Nat.le_of_ble_eq_true rfl) dX13_both_43 ⟨Nat.le_of_ble_eq_true rfl, Nat.le_of_ble_eq_true rfl⟩) hP hD hS hA (fun r8 u7 H locs hw6 hP hD hS => ?_)
    obtain ⟨rfl, rfl⟩ := hw6
    have z9 : ((v.1 0 12) + (1 : Int32)).toInt = (v.1 0 12).toInt + 1 := add_z rfl (show (1 : Int32).toInt = 1 by decide) (by omega) (by omega)
    have hP : va_P (dC, dI) vwCl (mW ad N cI cZ cJ (wA (wA v 11 ((v.1 0 12).toNatClampNeg) r5) 0 12 ((v.1 0 12) + (1 : Int32)))) H := hP
    have hD : va_D A (mW ad N cI cZ cJ (wA (wA v 11 ((v.1 0 12).toNatClampNeg) r5) 0 12 ((v.1 0 12) + (1 : Int32)))) := hD
    refine tp_i (y := (v.1 0 12)) (rfl) ?_
    refine W.widen (k := 0) (n := 0) (by omega) (by omega) ?_
    refine lv_pop hx hb dX13_both_46 rfl ?_
    refine lv_aload_n hx hb dX13_both_47 rfl (lv_at hl 0 rfl) ?_
    refine lv_iconst (v := -1) hx hb dX13_both_48 (by decide) ?_
    refine cu_i (rn_V (n := 1) (As := [.int (-1)]) (rest := []) hx hb hml hown ht hKK hFx hP hD hS hA (c_m_wait l dC dI cI cB cZ cJ cR tb H.size ad N (wA (wA v 11 ((v.1 0 12).toNatClampNeg) r5) 0 12 ((v.1 0 12) + (1 : Int32))) (-1 : Int32) (show 0 ≤ ((v.1 0 12) + (1 : Int32)).toInt ∧ ((v.1 0 12) + (1 : Int32)).toInt < 24000 by omega)) tw_122 tw_123 (by decide +kernel) rfl rfl ⟨by show 1 + 1 ≤ 40 * n + 11 + 2 * kk; omega, by show 8 + (2 + 11) + 21 ≤ 28 * (40 * n + 11 + 2 * kk); omega⟩ (List.range (mW ad N cI cZ cJ (wA (wA v 11 ((v.1 0 12).toNatClampNeg) r5) 0 12 ((v.1 0 12) + (1 : Int32)))).length) (rg_map _) (mW_nd _ _ _ _ _ _) rfl rfl rfl rfl hl.1 rfl (Nat.le_of_ble_eq_true rfl) dX13_both_49 ⟨Nat.le_of_ble_eq_true rfl, Nat.le_of_ble_eq_true rfl⟩) hP hD hS hA (fun r12 u11 H locs hw10 hP hD hS => ?_)
    obtain ⟨rfl, rfl⟩ := hw10
    have z13 : (((v.1 0 12) + (1 : Int32)) + (1 : Int32)).toInt = ((v.1 0 12).toInt + 1) + 1 := add_z z9 (show (1 : Int32).toInt = 1 by decide) (by omega) (by omega)
    have hP : va_P (dC, dI) vwCl (mW ad N cI cZ cJ (wA (wA (wA (wA v 11 ((v.1 0 12).toNatClampNeg) r5) 0 12 ((v.1 0 12) + (1 : Int32))) 11 (((v.1 0 12) + (1 : Int32)).toNatClampNeg) (-1 : Int32)) 0 12 (((v.1 0 12) + (1 : Int32)) + (1 : Int32)))) H := hP
    have hD : va_D A (mW ad N cI cZ cJ (wA (wA (wA (wA v 11 ((v.1 0 12).toNatClampNeg) r5) 0 12 ((v.1 0 12) + (1 : Int32))) 11 (((v.1 0 12) + (1 : Int32)).toNatClampNeg) (-1 : Int32)) 0 12 (((v.1 0 12) + (1 : Int32)) + (1 : Int32)))) := hD
    refine tp_i (y := ((v.1 0 12) + (1 : Int32))) (rfl) ?_
    refine W.widen (k := 0) (n := 0) (by omega) (by omega) ?_
    refine lv_istore (lv' := [(4, .int ((v.1 0 12) + (1 : Int32))), (0, .ref (ad 0)), (1, .int pa), (2, .int pb)]) hx hb dX13_both_52 hl (by decide) rfl (fun ls hl => ?_)
    refine lv_aload_n hx hb dX13_both_54 rfl (lv_at hl 1 rfl) ?_
    refine lv_iload_n hx hb dX13_both_55 rfl (lv_at hl 2 rfl) ?_
    refine lv_if_eq (tgt := 64) hx hb dX13_both_56 (by decide) (fun h14 => ?_) (fun h14 => ?_)
    · have z15 : pa.toInt = 0 := eq_z rfl (show (0 : Int32).toInt = 0 by decide) h14
      refine lv_bipush (v := 22) hx hb dX13_both_64 (by decide) ?_
      refine lv_iconst (v := 0) hx hb dX13_both_66 (by decide) ?_
      refine cu_i (rn_V (n := 2) (As := [.int 22, .int 0]) (rest := []) hx hb hml hown ht hKK hFx hP hD hS hA (c_m_say l dC dI cI cB cZ cJ cR tb H.size ad N (wA (wA (wA (wA v 11 ((v.1 0 12).toNatClampNeg) r5) 0 12 ((v.1 0 12) + (1 : Int32))) 11 (((v.1 0 12) + (1 : Int32)).toNatClampNeg) (-1 : Int32)) 0 12 (((v.1 0 12) + (1 : Int32)) + (1 : Int32))) (22 : Int32) (0 : Int32) (show 0 ≤ (v.1 0 15).toInt ∧ (v.1 0 15).toInt < 16000 by omega)) tw_59 tw_60 (by decide +kernel) rfl rfl ⟨by show 0 + 1 ≤ 40 * n + 11 + 2 * kk; omega, by show 8 + (3 + 11) + 0 ≤ 28 * (40 * n + 11 + 2 * kk); omega⟩ (List.range (mW ad N cI cZ cJ (wA (wA (wA (wA v 11 ((v.1 0 12).toNatClampNeg) r5) 0 12 ((v.1 0 12) + (1 : Int32))) 11 (((v.1 0 12) + (1 : Int32)).toNatClampNeg) (-1 : Int32)) 0 12 (((v.1 0 12) + (1 : Int32)) + (1 : Int32)))).length) (rg_map _) (mW_nd _ _ _ _ _ _) rfl rfl rfl rfl hl.1 rfl (Nat.le_of_ble_eq_true rfl) dX13_both_67 ⟨Nat.le_of_ble_eq_true rfl, Nat.le_of_ble_eq_true rfl⟩) hP hD hS hA (fun r18 u17 H locs hw16 hP hD hS => ?_)
      obtain ⟨rfl, rfl⟩ := hw16
      have z19 : ((v.1 0 15) + (1 : Int32)).toInt = (v.1 0 15).toInt + 1 := add_z rfl (show (1 : Int32).toInt = 1 by decide) (by omega) (by omega)
      have hP : va_P (dC, dI) vwCl (mW ad N cI cZ cJ (wA (wA (wA (wA (wA (wA (wA v 11 ((v.1 0 12).toNatClampNeg) r5) 0 12 ((v.1 0 12) + (1 : Int32))) 11 (((v.1 0 12) + (1 : Int32)).toNatClampNeg) (-1 : Int32)) 0 12 (((v.1 0 12) + (1 : Int32)) + (1 : Int32))) 13 ((v.1 0 15).toNatClampNeg) (22 : Int32)) 14 ((v.1 0 15).toNatClampNeg) (0 : Int32)) 0 15 ((v.1 0 15) + (1 : Int32)))) H := hP
      have hD : va_D A (mW ad N cI cZ cJ (wA (wA (wA (wA (wA (wA (wA v 11 ((v.1 0 12).toNatClampNeg) r5) 0 12 ((v.1 0 12) + (1 : Int32))) 11 (((v.1 0 12) + (1 : Int32)).toNatClampNeg) (-1 : Int32)) 0 12 (((v.1 0 12) + (1 : Int32)) + (1 : Int32))) 13 ((v.1 0 15).toNatClampNeg) (22 : Int32)) 14 ((v.1 0 15).toNatClampNeg) (0 : Int32)) 0 15 ((v.1 0 15) + (1 : Int32)))) := hD
      refine tp_i (y := (v.1 0 15)) (rfl) ?_
      refine W.widen (k := 0) (n := 0) (by omega) (by omega) ?_
      obtain ⟨u20, hu21⟩ : ∃ z, z = (wA (wA (wA (wA (wA (wA (wA v 11 ((v.1 0 12).toNatClampNeg) r5) 0 12 ((v.1 0 12) + (1 : Int32))) 11 (((v.1 0 12) + (1 : Int32)).toNatClampNeg) (-1 : Int32)) 0 12 (((v.1 0 12) + (1 : Int32)) + (1 : Int32))) 13 ((v.1 0 15).toNatClampNeg) (22 : Int32)) 14 ((v.1 0 15).toNatClampNeg) (0 : Int32)) 0 15 ((v.1 0 15) + (1 : Int32))) := ⟨_, rfl⟩
      have fr21 : FG [12, 15] [0, 11, 13, 14] v u20 := by rw [hu21]; exact (FG.f (FG.a (FG.a (FG.f (FG.a (FG.f (FG.a (FG.rf _) ((v.1 0 12).toNatClampNeg) r5 (by decide) (by decide)) ((v.1 0 12) + (1 : Int32)) (by decide)) (((v.1 0 12) + (1 : Int32)).toNatClampNeg) (-1 : Int32) (by decide) (by decide)) (((v.1 0 12) + (1 : Int32)) + (1 : Int32)) (by decide)) ((v.1 0 15).toNatClampNeg) (22 : Int32) (by decide) (by decide)) ((v.1 0 15).toNatClampNeg) (0 : Int32) (by decide) (by decide)) ((v.1 0 15) + (1 : Int32)) (by decide))
      have q21_2 : (u20.1 0 2).toInt = (v.1 0 2).toInt := congrArg Int32.toInt (fr21.2.1 2 (by decide))
      have q21_4 : (u20.1 0 4).toInt = (v.1 0 4).toInt := congrArg Int32.toInt (fr21.2.1 4 (by decide))
      have q21_5 : (u20.1 0 5).toInt = (v.1 0 5).toInt := congrArg Int32.toInt (fr21.2.1 5 (by decide))
      have q21_12 : (u20.1 0 12).toInt = (((v.1 0 12).toInt + 1) + 1) := by rw [hu21]; exact (show (((v.1 0 12) + (1 : Int32)) + (1 : Int32)).toInt = (((v.1 0 12).toInt + 1) + 1) from z13)
      have q21_15 : (u20.1 0 15).toInt = ((v.1 0 15).toInt + 1) := by rw [hu21]; exact (show ((v.1 0 15) + (1 : Int32)).toInt = ((v.1 0 15).toInt + 1) from z19)
      have q21_22 : (u20.1 0 22).toInt = (v.1 0 22).toInt := congrArg Int32.toInt (fr21.2.1 22 (by decide))
      have q21_27 : (u20.1 0 27).toInt = (v.1 0 27).toInt := congrArg Int32.toInt (fr21.2.1 27 (by decide))
      have q21_28 : (u20.1 0 28).toInt = (v.1 0 28).toInt := congrArg Int32.toInt (fr21.2.1 28 (by decide))
      have q21_30 : (u20.1 0 30).toInt = (v.1 0 30).toInt := congrArg Int32.toInt (fr21.2.1 30 (by decide))
      have q21_31 : (u20.1 0 31).toInt = (v.1 0 31).toInt := congrArg Int32.toInt (fr21.2.1 31 (by decide))
      have q21_32 : (u20.1 0 32).toInt = (v.1 0 32).toInt := congrArg Int32.toInt (fr21.2.1 32 (by decide))
      have q21_33 : (u20.1 0 33).toInt = (v.1 0 33).toInt := congrArg Int32.toInt (fr21.2.1 33 (by decide))
      have q21_34 : (u20.1 0 34).toInt = (v.1 0 34).toInt := congrArg Int32.toInt (fr21.2.1 34 (by decide))
      have q21_39 : (u20.1 0 39).toInt = (v.1 0 39).toInt := congrArg Int32.toInt (fr21.2.1 39 (by decide))
      have q21_43 : (u20.1 0 43).toInt = (v.1 0 43).toInt := congrArg Int32.toInt (fr21.2.1 43 (by decide))
      have q21_47 : (u20.1 0 47).toInt = (v.1 0 47).toInt := congrArg Int32.toInt (fr21.2.1 47 (by decide))
      have q21_48 : (u20.1 0 48).toInt = (v.1 0 48).toInt := congrArg Int32.toInt (fr21.2.1 48 (by decide))
      have q21_49 : (u20.1 0 49).toInt = (v.1 0 49).toInt := congrArg Int32.toInt (fr21.2.1 49 (by decide))
      have q21_52 : (u20.1 0 52).toInt = (v.1 0 52).toInt := congrArg Int32.toInt (fr21.2.1 52 (by decide))
      have kc21 : ∀ j : Nat, (j : Int) < (v.1 0 12).toInt → (u20.1 11) j = (v.1 11) j := by rw [hu21]; exact (fun (j9 : Nat) hj9 => (Eq.trans (pk_un (by have := cl_z (a := ((v.1 0 12) + (1 : Int32)).toInt) rfl (by omega); omega)) (pk_un (by have := cl_z (a := (v.1 0 12).toInt) rfl (by omega); omega))))
      have ko21 : ∀ j : Nat, (j : Int) < (v.1 0 15).toInt → (u20.1 13) j = (v.1 13) j := by rw [hu21]; exact (fun (j9 : Nat) hj9 => (pk_un (by have := cl_z (a := (v.1 0 15).toInt) rfl (by omega); omega)))
      have kg21 : ∀ j : Nat, (j : Int) < (v.1 0 15).toInt → (u20.1 14) j = (v.1 14) j := by rw [hu21]; exact (fun (j9 : Nat) hj9 => (pk_un (by have := cl_z (a := (v.1 0 15).toInt) rfl (by omega); omega)))
      rw [← hu21] at hP hD
      refine lv_istore_n (lv' := [(3, .int (v.1 0 15)), (4, .int ((v.1 0 12) + (1 : Int32))), (0, .ref (ad 0)), (1, .int pa), (2, .int pb)]) hx hb dX13_both_70 rfl hl (by decide) rfl (fun ls hl => ?_)
      refine lv_aload_n hx hb dX13_both_71 rfl (lv_at hl 2 rfl) ?_
      refine lv_iload_n hx hb dX13_both_72 rfl (lv_at hl 4 rfl) ?_
      refine lv_iconst (v := 0) hx hb dX13_both_73 (by decide) ?_
      refine cux_v (rx_V (n := 2) (As := [.int pb, .int 0]) (rest := []) hx hb hml hown ht hKK hFx hP hD hS hA (J dC dI cI cB cZ cJ cR tb H.size ad N u20 pb (0 : Int32) (show 40 ≤ (u20.1 0 48).toInt + (n : Int) by omega) (show 0 ≤ (u20.1 0 47).toInt ∧ (u20.1 0 47).toInt ≤ 1500 by omega) (show 0 ≤ (u20.1 0 48).toInt ∧ (u20.1 0 48).toInt ≤ 40 by omega) (show 0 ≤ (u20.1 0 30).toInt ∧ (u20.1 0 30).toInt ≤ 500 by omega) (show 0 ≤ (u20.1 0 33).toInt ∧ (u20.1 0 33).toInt ≤ 500 by omega) (show 0 ≤ (u20.1 0 32).toInt ∧ (u20.1 0 30).toInt + (u20.1 0 32).toInt ≤ 500 by omega) (show 0 ≤ (u20.1 0 12).toInt ∧ (u20.1 0 12).toInt ≤ 15 * (u20.1 0 47).toInt + 2 by omega) (show 0 ≤ (u20.1 0 15).toInt ∧ (u20.1 0 15).toInt ≤ 10 * (u20.1 0 47).toInt + 0 by omega) (show 0 ≤ (u20.1 0 43).toInt ∧ (u20.1 0 43).toInt ≤ 15 * (u20.1 0 47).toInt + 0 by omega) (show 0 ≤ (u20.1 0 39).toInt ∧ (u20.1 0 39).toInt ≤ 1 * (u20.1 0 47).toInt + 0 by omega) (show 0 ≤ (u20.1 0 27).toInt ∧ (u20.1 0 27).toInt ≤ 60 by omega) (FG.ti (fl := pfl) (al := pal) (FG.tr (FG.rf _) (FG.up fr21 (by decide) (by decide))) (by decide) (by decide) hT) ((show NI 29 u20 from NI.fr (fl := [12, 15]) (al := [0, 11, 13, 14]) fr21 (by decide) n29)) ((show NI 23 u20 from NI.fr (fl := [12, 15]) (al := [0, 11, 13, 14]) fr21 (by decide) n23)) ((show NI 35 u20 from NI.fr (fl := [12, 15]) (al := [0, 11, 13, 14]) fr21 (by decide) n35)) (show 1 ≤ pb.toInt ∧ pb.toInt ≤ 12 ∧ 11 ≤ pb.toInt + (kk : Int) by omega)) tw_124 tw_125 (by decide +kernel) rfl rfl ⟨by show (40 * n + 10 + 2 * kk) + 1 ≤ 40 * n + 11 + 2 * kk; omega, by show 8 + (6 + 11) + 28 * (40 * n + 10 + 2 * kk) ≤ 28 * (40 * n + 11 + 2 * kk); omega⟩ (List.range (mW ad N cI cZ cJ u20).length) (rg_map _) (mW_nd _ _ _ _ _ _) rfl rfl rfl rfl hl.1 rfl (Nat.le_of_ble_eq_true rfl) dX13_both_74 ⟨Nat.le_of_ble_eq_true rfl, Nat.le_of_ble_eq_true rfl⟩) hP hD hS hA (fun u9 ce9 q9 H locs hx9 hP hD hS hc9 hv9 hf9 => ?_) (fun u23 H locs hw22 hP hD hS => ?_)
      · exact vx_out (fun x h9 => (hnt x h9).elim) hlocks hc9 hv9 hf9 (fun t9 ht9 hv8 => ⟨u9, (FG.tr (FG.tr (FG.rf _) (FG.up fr21 (by decide) (by decide))) hx9), ⟨rfl, by rw [ht9]; exact hP, hD⟩, hS.F ht9⟩) hS.2.2 (by omega) (by omega)
      obtain ⟨fr22, pt22, pb22, pw22, po22, pf22, pk22, pp22, ph22, kc22, ko22, kg22, n3522⟩ := hw22
      have q22_2 : (u23.1 0 2).toInt = (u20.1 0 2).toInt := congrArg Int32.toInt ((fr22.2.1 2 (by decide)).trans (show u20.1 0 2 = (u20.1 0 2) by rfl))
      have q22_4 : (u23.1 0 4).toInt = (u20.1 0 4).toInt := congrArg Int32.toInt ((fr22.2.1 4 (by decide)).trans (show u20.1 0 4 = (u20.1 0 4) by rfl))
      have q22_5 : (u23.1 0 5).toInt = (u20.1 0 5).toInt := congrArg Int32.toInt ((fr22.2.1 5 (by decide)).trans (show u20.1 0 5 = (u20.1 0 5) by rfl))
      have q22_22 : (u23.1 0 22).toInt = (u20.1 0 22).toInt := congrArg Int32.toInt ((fr22.2.1 22 (by decide)).trans (show u20.1 0 22 = (u20.1 0 22) by rfl))
      have q22_27 : (u23.1 0 27).toInt = (u20.1 0 27).toInt := congrArg Int32.toInt ((fr22.2.1 27 (by decide)).trans (show u20.1 0 27 = (u20.1 0 27) by rfl))
      have q22_28 : (u23.1 0 28).toInt = (u20.1 0 28).toInt := congrArg Int32.toInt ((fr22.2.1 28 (by decide)).trans (show u20.1 0 28 = (u20.1 0 28) by rfl))
      have q22_30 : (u23.1 0 30).toInt = (u20.1 0 30).toInt := congrArg Int32.toInt ((fr22.2.1 30 (by decide)).trans (show u20.1 0 30 = (u20.1 0 30) by rfl))
      have q22_31 : (u23.1 0 31).toInt = (u20.1 0 31).toInt := congrArg Int32.toInt ((fr22.2.1 31 (by decide)).trans (show u20.1 0 31 = (u20.1 0 31) by rfl))
      have q22_34 : (u23.1 0 34).toInt = (u20.1 0 34).toInt := congrArg Int32.toInt ((fr22.2.1 34 (by decide)).trans (show u20.1 0 34 = (u20.1 0 34) by rfl))
      have q22_52 : (u23.1 0 52).toInt = (u20.1 0 52).toInt := congrArg Int32.toInt ((fr22.2.1 52 (by decide)).trans (show u20.1 0 52 = (u20.1 0 52) by rfl))
      have pt22 : (u20.1 0 47).toInt + 0 ≤ (u23.1 0 47).toInt ∧ (u23.1 0 47).toInt ≤ 1500 := pt22
      have pb22 : 0 ≠ 0 ∨ ((u20.1 0 47).toInt + 1 ≤ (u23.1 0 47).toInt ∧ (u20.1 0 49).toInt ≠ (u20.1 0 47).toInt) := pb22
      have pw22 : (u20.1 0 12).toInt ≤ (u23.1 0 12).toInt ∧ (u23.1 0 12).toInt - 15 * (u23.1 0 47).toInt ≤ (u20.1 0 12).toInt - 15 * (u20.1 0 47).toInt := pw22
      have po22 : (u20.1 0 15).toInt ≤ (u23.1 0 15).toInt ∧ (u23.1 0 15).toInt - 10 * (u23.1 0 47).toInt ≤ (u20.1 0 15).toInt - 10 * (u20.1 0 47).toInt := po22
      have pf22 : (u20.1 0 43).toInt ≤ (u23.1 0 43).toInt ∧ (u23.1 0 43).toInt - 15 * (u23.1 0 47).toInt ≤ (u20.1 0 43).toInt - 15 * (u20.1 0 47).toInt := pf22
      have pk22 : (u20.1 0 39).toInt ≤ (u23.1 0 39).toInt ∧ (u23.1 0 39).toInt - 1 * (u23.1 0 47).toInt ≤ (u20.1 0 39).toInt - 1 * (u20.1 0 47).toInt := pk22
      have pp22 : (u23.1 0 32).toInt = (u20.1 0 32).toInt ∧ (u23.1 0 48).toInt = (u20.1 0 48).toInt := pp22
      have ph22 : (u20.1 0 33).toInt ≤ (u23.1 0 33).toInt ∧ (u23.1 0 33).toInt ≤ 500 := ph22
      have kc22 : ∀ j : Nat, (j : Int) < (u20.1 0 12).toInt → (u23.1 11) j = (u20.1 11) j := kc22
      have ko22 : ∀ j : Nat, (j : Int) < (u20.1 0 15).toInt → (u23.1 13) j = (u20.1 13) j := ko22
      have kg22 : ∀ j : Nat, (j : Int) < (u20.1 0 15).toInt → (u23.1 14) j = (u20.1 14) j := kg22
      have n3522 : NI 35 u23 := n3522
      refine W.widen (k := 0) (n := 0) (by omega) (by omega) ?_
      refine lv_aload_n hx hb dX13_both_77 rfl (lv_at hl 2 rfl) ?_
      refine lv_iconst (v := 0) hx hb dX13_both_78 (by decide) ?_
      refine lv_iconst (v := 3) hx hb dX13_both_79 (by decide) ?_
      refine lv_bipush (v := 10) hx hb dX13_both_80 (by decide) ?_
      refine lv_iconst (v := 0) hx hb dX13_both_82 (by decide) ?_
      refine lv_bipush (v := 10) hx hb dX13_both_83 (by decide) ?_
      refine cu_s (mW_nd _ _ _ _ _ _) (rn_S (n := 5) (As := [.int 0, .int 3, .int 10, .int 0, .int 10]) (rest := [.ref (ad 0)]) hx hb hml hown ht hKK hFx hP hD hS hA (c_m_byR l dC dI cI cB cZ cJ cR tb H.size (0 : Int32) (3 : Int32) (10 : Int32) (0 : Int32) (10 : Int32) ) tw_67 tw_68 (by decide +kernel) rfl rfl ⟨by show 0 + 1 ≤ 40 * n + 11 + 2 * kk; omega, by show 8 + (5 + 11) + 0 ≤ 28 * (40 * n + 11 + 2 * kk); omega⟩ [] rfl rfl rfl hl.1 rfl (Nat.le_of_ble_eq_true rfl) dX13_both_85 ⟨Nat.le_of_ble_eq_true rfl, Nat.le_of_ble_eq_true rfl⟩) hP hD hS hA (fun r27 H locs hw25 hP hD hS => ?_)
      refine W.widen (k := 0) (n := 0) (by omega) (by omega) ?_
      refine cu_i (rn_V (n := 1) (As := [.int r27]) (rest := []) hx hb hml hown ht hKK hFx hP hD hS hA (c_m_emit l dC dI cI cB cZ cJ cR tb H.size ad N u23 r27 (show 0 ≤ (u23.1 0 12).toInt ∧ (u23.1 0 12).toInt < 24000 by omega)) tw_8 tw_9 (by decide +kernel) rfl rfl ⟨by show 0 + 1 ≤ 40 * n + 11 + 2 * kk; omega, by show 8 + (2 + 11) + 0 ≤ 28 * (40 * n + 11 + 2 * kk); omega⟩ (List.range (mW ad N cI cZ cJ u23).length) (rg_map _) (mW_nd _ _ _ _ _ _) rfl rfl rfl rfl hl.1 rfl (Nat.le_of_ble_eq_true rfl) dX13_both_88 ⟨Nat.le_of_ble_eq_true rfl, Nat.le_of_ble_eq_true rfl⟩) hP hD hS hA (fun r30 u29 H locs hw28 hP hD hS => ?_)
      obtain ⟨rfl, rfl⟩ := hw28
      have z31 : ((u23.1 0 12) + (1 : Int32)).toInt = (u23.1 0 12).toInt + 1 := add_z rfl (show (1 : Int32).toInt = 1 by decide) (by omega) (by omega)
      have hP : va_P (dC, dI) vwCl (mW ad N cI cZ cJ (wA (wA u23 11 ((u23.1 0 12).toNatClampNeg) r27) 0 12 ((u23.1 0 12) + (1 : Int32)))) H := hP
      have hD : va_D A (mW ad N cI cZ cJ (wA (wA u23 11 ((u23.1 0 12).toNatClampNeg) r27) 0 12 ((u23.1 0 12) + (1 : Int32)))) := hD
      refine tp_i (y := (u23.1 0 12)) (rfl) ?_
      refine W.widen (k := 0) (n := 0) (by omega) (by omega) ?_
      refine lv_pop hx hb dX13_both_91 rfl ?_
      refine lv_aload_n hx hb dX13_both_92 rfl (lv_at hl 2 rfl) ?_
      refine lv_bipush (v := 24) hx hb dX13_both_93 (by decide) ?_
      refine lv_iconst (v := 0) hx hb dX13_both_95 (by decide) ?_
      refine cu_i (rn_V (n := 2) (As := [.int 24, .int 0]) (rest := []) hx hb hml hown ht hKK hFx hP hD hS hA (c_m_say l dC dI cI cB cZ cJ cR tb H.size ad N (wA (wA u23 11 ((u23.1 0 12).toNatClampNeg) r27) 0 12 ((u23.1 0 12) + (1 : Int32))) (24 : Int32) (0 : Int32) (show 0 ≤ (u23.1 0 15).toInt ∧ (u23.1 0 15).toInt < 16000 by omega)) tw_59 tw_60 (by decide +kernel) rfl rfl ⟨by show 0 + 1 ≤ 40 * n + 11 + 2 * kk; omega, by show 8 + (3 + 11) + 0 ≤ 28 * (40 * n + 11 + 2 * kk); omega⟩ (List.range (mW ad N cI cZ cJ (wA (wA u23 11 ((u23.1 0 12).toNatClampNeg) r27) 0 12 ((u23.1 0 12) + (1 : Int32)))).length) (rg_map _) (mW_nd _ _ _ _ _ _) rfl rfl rfl rfl hl.1 rfl (Nat.le_of_ble_eq_true rfl) dX13_both_96 ⟨Nat.le_of_ble_eq_true rfl, Nat.le_of_ble_eq_true rfl⟩) hP hD hS hA (fun r34 u33 H locs hw32 hP hD hS => ?_)
      obtain ⟨rfl, rfl⟩ := hw32
      have z35 : ((u23.1 0 15) + (1 : Int32)).toInt = (u23.1 0 15).toInt + 1 := add_z rfl (show (1 : Int32).toInt = 1 by decide) (by omega) (by omega)
      have hP : va_P (dC, dI) vwCl (mW ad N cI cZ cJ (wA (wA (wA (wA (wA u23 11 ((u23.1 0 12).toNatClampNeg) r27) 0 12 ((u23.1 0 12) + (1 : Int32))) 13 ((u23.1 0 15).toNatClampNeg) (24 : Int32)) 14 ((u23.1 0 15).toNatClampNeg) (0 : Int32)) 0 15 ((u23.1 0 15) + (1 : Int32)))) H := hP
      have hD : va_D A (mW ad N cI cZ cJ (wA (wA (wA (wA (wA u23 11 ((u23.1 0 12).toNatClampNeg) r27) 0 12 ((u23.1 0 12) + (1 : Int32))) 13 ((u23.1 0 15).toNatClampNeg) (24 : Int32)) 14 ((u23.1 0 15).toNatClampNeg) (0 : Int32)) 0 15 ((u23.1 0 15) + (1 : Int32)))) := hD
      refine tp_i (y := (u23.1 0 15)) (rfl) ?_
      refine W.widen (k := 0) (n := 0) (by omega) (by omega) ?_
      refine lv_pop hx hb dX13_both_99 rfl ?_
      refine lv_aload_n hx hb dX13_both_100 rfl (lv_at hl 2 rfl) ?_
      refine lv_iload hx hb dX13_both_101 (lv_at hl 1 rfl) ?_
      refine lv_iconst (v := 0) hx hb dX13_both_103 (by decide) ?_
      refine lv_aload_n hx hb dX13_both_104 rfl (lv_at hl 2 rfl) ?_
      refine va_get (D := (dC, dI)) (ci := 16) (fs := mF ad (wA (wA (wA (wA (wA u23 11 ((u23.1 0 12).toNatClampNeg) r27) 0 12 ((u23.1 0 12) + (1 : Int32))) 13 ((u23.1 0 15).toNatClampNeg) (24 : Int32)) 14 ((u23.1 0 15).toNatClampNeg) (0 : Int32)) 0 15 ((u23.1 0 15) + (1 : Int32)))) (v := .int ((u23.1 0 12) + (1 : Int32))) (C := RX13) (T := TX13) (N := 124) hx hb ht itX13 hown hK hP 0 rfl rfl 12 (by decide) (ht _ tw_7) (fun _ h9 => h9) rfl dX13_both_105 ?_
      refine cu_v (rn_V (n := 3) (As := [.int ((v.1 0 12) + (1 : Int32)), .int 0, .int ((u23.1 0 12) + (1 : Int32))]) (rest := []) hx hb hml hown ht hKK hFx hP hD hS hA (c_m_jump l dC dI cI cB cZ cJ cR tb H.size ad N (wA (wA (wA (wA (wA u23 11 ((u23.1 0 12).toNatClampNeg) r27) 0 12 ((u23.1 0 12) + (1 : Int32))) 13 ((u23.1 0 15).toNatClampNeg) (24 : Int32)) 14 ((u23.1 0 15).toNatClampNeg) (0 : Int32)) 0 15 ((u23.1 0 15) + (1 : Int32))) ((v.1 0 12) + (1 : Int32)) (0 : Int32) ((u23.1 0 12) + (1 : Int32)) (show 0 ≤ ((v.1 0 12) + (1 : Int32)).toInt ∧ ((v.1 0 12) + (1 : Int32)).toInt < 24000 by omega)) tw_126 tw_127 (by decide +kernel) rfl rfl ⟨by show 1 + 1 ≤ 40 * n + 11 + 2 * kk; omega, by show 8 + (4 + 11) + 21 ≤ 28 * (40 * n + 11 + 2 * kk); omega⟩ (List.range (mW ad N cI cZ cJ (wA (wA (wA (wA (wA u23 11 ((u23.1 0 12).toNatClampNeg) r27) 0 12 ((u23.1 0 12) + (1 : Int32))) 13 ((u23.1 0 15).toNatClampNeg) (24 : Int32)) 14 ((u23.1 0 15).toNatClampNeg) (0 : Int32)) 0 15 ((u23.1 0 15) + (1 : Int32)))).length) (rg_map _) (mW_nd _ _ _ _ _ _) rfl rfl rfl rfl hl.1 rfl (Nat.le_of_ble_eq_true rfl) dX13_both_108 ⟨Nat.le_of_ble_eq_true rfl, Nat.le_of_ble_eq_true rfl⟩) hP hD hS hA (fun u37 H locs hw36 hP hD hS => ?_)
      obtain ⟨x39, rfl⟩ := hw36
      have hP : va_P (dC, dI) vwCl (mW ad N cI cZ cJ (wA (wA (wA (wA (wA (wA u23 11 ((u23.1 0 12).toNatClampNeg) r27) 0 12 ((u23.1 0 12) + (1 : Int32))) 13 ((u23.1 0 15).toNatClampNeg) (24 : Int32)) 14 ((u23.1 0 15).toNatClampNeg) (0 : Int32)) 0 15 ((u23.1 0 15) + (1 : Int32))) 11 (((v.1 0 12) + (1 : Int32)).toNatClampNeg) x39)) H := hP
      have hD : va_D A (mW ad N cI cZ cJ (wA (wA (wA (wA (wA (wA u23 11 ((u23.1 0 12).toNatClampNeg) r27) 0 12 ((u23.1 0 12) + (1 : Int32))) 13 ((u23.1 0 15).toNatClampNeg) (24 : Int32)) 14 ((u23.1 0 15).toNatClampNeg) (0 : Int32)) 0 15 ((u23.1 0 15) + (1 : Int32))) 11 (((v.1 0 12) + (1 : Int32)).toNatClampNeg) x39)) := hD
      refine W.widen (k := 0) (n := 0) (by omega) (by omega) ?_
      refine lv_aload_n hx hb dX13_both_111 rfl (lv_at hl 2 rfl) ?_
      refine va_get (D := (dC, dI)) (ci := 16) (fs := mF ad (wA (wA (wA (wA (wA (wA u23 11 ((u23.1 0 12).toNatClampNeg) r27) 0 12 ((u23.1 0 12) + (1 : Int32))) 13 ((u23.1 0 15).toNatClampNeg) (24 : Int32)) 14 ((u23.1 0 15).toNatClampNeg) (0 : Int32)) 0 15 ((u23.1 0 15) + (1 : Int32))) 11 (((v.1 0 12) + (1 : Int32)).toNatClampNeg) x39)) (v := .ref (ad 14)) (C := RX13) (T := TX13) (N := 124) hx hb ht itX13 hown hK hP 0 rfl rfl 14 (by decide) (ht _ tw_12) (fun _ h9 => h9) rfl dX13_both_112 ?_
      refine lv_iload_n hx hb dX13_both_115 rfl (lv_at hl 0 rfl) ?_
      refine lv_aload_n hx hb dX13_both_116 rfl (lv_at hl 2 rfl) ?_
      refine va_get (D := (dC, dI)) (ci := 16) (fs := mF ad (wA (wA (wA (wA (wA (wA u23 11 ((u23.1 0 12).toNatClampNeg) r27) 0 12 ((u23.1 0 12) + (1 : Int32))) 13 ((u23.1 0 15).toNatClampNeg) (24 : Int32)) 14 ((u23.1 0 15).toNatClampNeg) (0 : Int32)) 0 15 ((u23.1 0 15) + (1 : Int32))) 11 (((v.1 0 12) + (1 : Int32)).toNatClampNeg) x39)) (v := .int ((u23.1 0 15) + (1 : Int32))) (C := RX13) (T := TX13) (N := 124) hx hb ht itX13 hown hK hP 0 rfl rfl 15 (by decide) (ht _ tw_11) (fun _ h9 => h9) rfl dX13_both_117 ?_
      refine va_iast (D := (dC, dI)) (f := (upd (u23.1 14) ((u23.1 0 15).toNatClampNeg) (0 : Int32))) hx hb hK hP hD hS 10 0 rfl rfl (in_z (a := (v.1 0 15).toInt) rfl (by omega) (by omega)) dX13_both_120 (fun H locs hP hD hS => ?_)
      have hP := cP_ (ma_14 ad N cI cZ cJ (wA (wA (wA (wA (wA (wA u23 11 ((u23.1 0 12).toNatClampNeg) r27) 0 12 ((u23.1 0 12) + (1 : Int32))) 13 ((u23.1 0 15).toNatClampNeg) (24 : Int32)) 14 ((u23.1 0 15).toNatClampNeg) (0 : Int32)) 0 15 ((u23.1 0 15) + (1 : Int32))) 11 (((v.1 0 12) + (1 : Int32)).toNatClampNeg) x39) ((v.1 0 15).toNatClampNeg) ((u23.1 0 15) + (1 : Int32))) hP
      have hD := cD_ (ma_14 ad N cI cZ cJ (wA (wA (wA (wA (wA (wA u23 11 ((u23.1 0 12).toNatClampNeg) r27) 0 12 ((u23.1 0 12) + (1 : Int32))) 13 ((u23.1 0 15).toNatClampNeg) (24 : Int32)) 14 ((u23.1 0 15).toNatClampNeg) (0 : Int32)) 0 15 ((u23.1 0 15) + (1 : Int32))) 11 (((v.1 0 12) + (1 : Int32)).toNatClampNeg) x39) ((v.1 0 15).toNatClampNeg) ((u23.1 0 15) + (1 : Int32))) hD
      obtain ⟨u40, hu41⟩ : ∃ z, z = (wA (wA (wA (wA (wA (wA (wA u23 11 ((u23.1 0 12).toNatClampNeg) r27) 0 12 ((u23.1 0 12) + (1 : Int32))) 13 ((u23.1 0 15).toNatClampNeg) (24 : Int32)) 14 ((u23.1 0 15).toNatClampNeg) (0 : Int32)) 0 15 ((u23.1 0 15) + (1 : Int32))) 11 (((v.1 0 12) + (1 : Int32)).toNatClampNeg) x39) 14 ((v.1 0 15).toNatClampNeg) ((u23.1 0 15) + (1 : Int32))) := ⟨_, rfl⟩
      have fr41 : FG [12, 15] [0, 11, 13, 14] u23 u40 := by rw [hu41]; exact (FG.a (FG.a (FG.f (FG.a (FG.a (FG.f (FG.a (FG.rf _) ((u23.1 0 12).toNatClampNeg) r27 (by decide) (by decide)) ((u23.1 0 12) + (1 : Int32)) (by decide)) ((u23.1 0 15).toNatClampNeg) (24 : Int32) (by decide) (by decide)) ((u23.1 0 15).toNatClampNeg) (0 : Int32) (by decide) (by decide)) ((u23.1 0 15) + (1 : Int32)) (by decide)) (((v.1 0 12) + (1 : Int32)).toNatClampNeg) x39 (by decide) (by decide)) ((v.1 0 15).toNatClampNeg) ((u23.1 0 15) + (1 : Int32)) (by decide) (by decide))
      have q41_2 : (u40.1 0 2).toInt = (u23.1 0 2).toInt := congrArg Int32.toInt (fr41.2.1 2 (by decide))
      have q41_4 : (u40.1 0 4).toInt = (u23.1 0 4).toInt := congrArg Int32.toInt (fr41.2.1 4 (by decide))
      have q41_5 : (u40.1 0 5).toInt = (u23.1 0 5).toInt := congrArg Int32.toInt (fr41.2.1 5 (by decide))
      have q41_12 : (u40.1 0 12).toInt = ((u23.1 0 12).toInt + 1) := by rw [hu41]; exact (show ((u23.1 0 12) + (1 : Int32)).toInt = ((u23.1 0 12).toInt + 1) from z31)
      have q41_15 : (u40.1 0 15).toInt = ((u23.1 0 15).toInt + 1) := by rw [hu41]; exact (show ((u23.1 0 15) + (1 : Int32)).toInt = ((u23.1 0 15).toInt + 1) from z35)
      have q41_22 : (u40.1 0 22).toInt = (u23.1 0 22).toInt := congrArg Int32.toInt (fr41.2.1 22 (by decide))
      have q41_27 : (u40.1 0 27).toInt = (u23.1 0 27).toInt := congrArg Int32.toInt (fr41.2.1 27 (by decide))
      have q41_28 : (u40.1 0 28).toInt = (u23.1 0 28).toInt := congrArg Int32.toInt (fr41.2.1 28 (by decide))
      have q41_30 : (u40.1 0 30).toInt = (u23.1 0 30).toInt := congrArg Int32.toInt (fr41.2.1 30 (by decide))
      have q41_31 : (u40.1 0 31).toInt = (u23.1 0 31).toInt := congrArg Int32.toInt (fr41.2.1 31 (by decide))
      have q41_32 : (u40.1 0 32).toInt = (u23.1 0 32).toInt := congrArg Int32.toInt (fr41.2.1 32 (by decide))
      have q41_33 : (u40.1 0 33).toInt = (u23.1 0 33).toInt := congrArg Int32.toInt (fr41.2.1 33 (by decide))
      have q41_34 : (u40.1 0 34).toInt = (u23.1 0 34).toInt := congrArg Int32.toInt (fr41.2.1 34 (by decide))
      have q41_39 : (u40.1 0 39).toInt = (u23.1 0 39).toInt := congrArg Int32.toInt (fr41.2.1 39 (by decide))
      have q41_43 : (u40.1 0 43).toInt = (u23.1 0 43).toInt := congrArg Int32.toInt (fr41.2.1 43 (by decide))
      have q41_47 : (u40.1 0 47).toInt = (u23.1 0 47).toInt := congrArg Int32.toInt (fr41.2.1 47 (by decide))
      have q41_48 : (u40.1 0 48).toInt = (u23.1 0 48).toInt := congrArg Int32.toInt (fr41.2.1 48 (by decide))
      have q41_49 : (u40.1 0 49).toInt = (u23.1 0 49).toInt := congrArg Int32.toInt (fr41.2.1 49 (by decide))
      have q41_52 : (u40.1 0 52).toInt = (u23.1 0 52).toInt := congrArg Int32.toInt (fr41.2.1 52 (by decide))
      have kc41 : ∀ j : Nat, (j : Int) < (u23.1 0 12).toInt → (u40.1 11) j = (u23.1 11) j := by rw [hu41]; exact (fun (j9 : Nat) hj9 => (Eq.trans (pk_un (by have := cl_z (a := ((v.1 0 12) + (1 : Int32)).toInt) rfl (by omega); omega)) (pk_un (by have := cl_z (a := (u23.1 0 12).toInt) rfl (by omega); omega))))
      have ko41 : ∀ j : Nat, (j : Int) < (u23.1 0 15).toInt → (u40.1 13) j = (u23.1 13) j := by rw [hu41]; exact (fun (j9 : Nat) hj9 => (pk_un (by have := cl_z (a := (u23.1 0 15).toInt) rfl (by omega); omega)))
      have kg41 : ∀ j : Nat, (j : Int) < (u23.1 0 15).toInt → (u40.1 14) j = (u23.1 14) j := by rw [hu41]; exact (fun (j9 : Nat) hj9 => (Eq.trans (pk_un (by have := cl_z (a := (v.1 0 15).toInt) rfl (by omega); omega)) (pk_un (by have := cl_z (a := (u23.1 0 15).toInt) rfl (by omega); omega))))
      rw [← hu41] at hP hD
      refine vx_ret ?_
      exact W.vret hx hb hr (fun t ht9 hW => ⟨⟨u40, rfl, ⟨(FG.tr (FG.tr (FG.tr (FG.rf _) (FG.up fr21 (by decide) (by decide))) (FG.up fr22 (by decide) (by decide))) (FG.up fr41 (by decide) (by decide))), (show (v.1 0 47).toInt + 1 ≤ (u40.1 0 47).toInt ∧ (u40.1 0 47).toInt ≤ 1500 by omega), (show (v.1 0 49).toInt ≠ (v.1 0 47).toInt by omega), (show (v.1 0 12).toInt ≤ (u40.1 0 12).toInt ∧ (u40.1 0 12).toInt - 15 * (u40.1 0 47).toInt ≤ (v.1 0 12).toInt - 15 * (v.1 0 47).toInt + 5 by omega), (show (v.1 0 15).toInt ≤ (u40.1 0 15).toInt ∧ (u40.1 0 15).toInt - 10 * (u40.1 0 47).toInt ≤ (v.1 0 15).toInt - 10 * (v.1 0 47).toInt + 2 by omega), (show (v.1 0 43).toInt ≤ (u40.1 0 43).toInt ∧ (u40.1 0 43).toInt - 15 * (u40.1 0 47).toInt ≤ (v.1 0 43).toInt - 15 * (v.1 0 47).toInt by omega), (show (v.1 0 39).toInt ≤ (u40.1 0 39).toInt ∧ (u40.1 0 39).toInt - 1 * (u40.1 0 47).toInt ≤ (v.1 0 39).toInt - 1 * (v.1 0 47).toInt by omega), (show (u40.1 0 32).toInt = (v.1 0 32).toInt ∧ (u40.1 0 48).toInt = (v.1 0 48).toInt by omega), (show (v.1 0 33).toInt ≤ (u40.1 0 33).toInt ∧ (u40.1 0 33).toInt ≤ 500 by omega), (fun (j9 : Nat) hj9 => (Eq.trans (kc41 j9 (by omega)) (Eq.trans (kc22 j9 (by omega)) (kc21 j9 (by omega))))), (fun (j9 : Nat) hj9 => (Eq.trans (ko41 j9 (by omega)) (Eq.trans (ko22 j9 (by omega)) (ko21 j9 (by omega))))), (fun (j9 : Nat) hj9 => (Eq.trans (kg41 j9 (by omega)) (Eq.trans (kg22 j9 (by omega)) (kg21 j9 (by omega))))), (show NI 35 u40 from NI.fr (fl := [12, 15]) (al := [0, 11, 13, 14]) fr41 (by decide) n3522)⟩, by rw [ht9]; exact hP, hD⟩, hS.F ht9⟩) hS.2.2 dX13_both_121
    · have z42 : pa.toInt ≠ 0 := ne_z rfl (show (0 : Int32).toInt = 0 by decide) h14
      exfalso; omega
  · have z43 : pa.toInt ≠ 0 := ne_z rfl (show (0 : Int32).toInt = 0 by decide) h1
    refine lv_aload_n hx hb dX13_both_4 rfl (lv_at hl 0 rfl) ?_
    refine lv_iconst (v := 0) hx hb dX13_both_5 (by decide) ?_
    refine lv_bipush (v := 10) hx hb dX13_both_6 (by decide) ?_
    refine lv_iconst (v := 0) hx hb dX13_both_8 (by decide) ?_
    refine lv_bipush (v := 12) hx hb dX13_both_9 (by decide) ?_
    refine cu_s (mW_nd _ _ _ _ _ _) (rn_S (n := 4) (As := [.int 0, .int 10, .int 0, .int 12]) (rest := [.ref (ad 0)]) hx hb hml hown ht hKK hFx hP hD hS hA (c_m_byB l dC dI cI cB cZ cJ cR tb s.heap.size (0 : Int32) (10 : Int32) (0 : Int32) (12 : Int32) ) tw_85 tw_86 (by decide +kernel) rfl rfl ⟨by show 0 + 1 ≤ 40 * n + 11 + 2 * kk; omega, by show 8 + (4 + 11) + 0 ≤ 28 * (40 * n + 11 + 2 * kk); omega⟩ [] rfl rfl rfl hl.1 rfl (Nat.le_of_ble_eq_true rfl) dX13_both_11 ⟨Nat.le_of_ble_eq_true rfl, Nat.le_of_ble_eq_true rfl⟩) hP hD hS hA (fun r46 H locs hw44 hP hD hS => ?_)
    refine W.widen (k := 0) (n := 0) (by omega) (by omega) ?_
    refine cu_i (rn_V (n := 1) (As := [.int r46]) (rest := []) hx hb hml hown ht hKK hFx hP hD hS hA (c_m_emit l dC dI cI cB cZ cJ cR tb H.size ad N v r46 (show 0 ≤ (v.1 0 12).toInt ∧ (v.1 0 12).toInt < 24000 by omega)) tw_8 tw_9 (by decide +kernel) rfl rfl ⟨by show 0 + 1 ≤ 40 * n + 11 + 2 * kk; omega, by show 8 + (2 + 11) + 0 ≤ 28 * (40 * n + 11 + 2 * kk); omega⟩ (List.range (mW ad N cI cZ cJ v).length) (rg_map _) (mW_nd _ _ _ _ _ _) rfl rfl rfl rfl hl.1 rfl (Nat.le_of_ble_eq_true rfl) dX13_both_14 ⟨Nat.le_of_ble_eq_true rfl, Nat.le_of_ble_eq_true rfl⟩) hP hD hS hA (fun r49 u48 H locs hw47 hP hD hS => ?_)
    obtain ⟨rfl, rfl⟩ := hw47
    have z50 : ((v.1 0 12) + (1 : Int32)).toInt = (v.1 0 12).toInt + 1 := add_z rfl (show (1 : Int32).toInt = 1 by decide) (by omega) (by omega)
    have hP : va_P (dC, dI) vwCl (mW ad N cI cZ cJ (wA (wA v 11 ((v.1 0 12).toNatClampNeg) r46) 0 12 ((v.1 0 12) + (1 : Int32)))) H := hP
    have hD : va_D A (mW ad N cI cZ cJ (wA (wA v 11 ((v.1 0 12).toNatClampNeg) r46) 0 12 ((v.1 0 12) + (1 : Int32)))) := hD
    refine tp_i (y := (v.1 0 12)) (rfl) ?_
    refine W.widen (k := 0) (n := 0) (by omega) (by omega) ?_
    refine lv_pop hx hb dX13_both_17 rfl ?_
    refine lv_aload_n hx hb dX13_both_18 rfl (lv_at hl 0 rfl) ?_
    refine lv_bipush (v := 10) hx hb dX13_both_19 (by decide) ?_
    refine lv_iconst (v := 0) hx hb dX13_both_21 (by decide) ?_
    refine lv_iconst (v := 1) hx hb dX13_both_22 (by decide) ?_
    refine cu_s (mW_nd _ _ _ _ _ _) (rn_S (n := 3) (As := [.int 10, .int 0, .int 1]) (rest := [.ref (ad 0)]) hx hb hml hown ht hKK hFx hP hD hS hA (c_m_addi l dC dI cI cB cZ cJ cR tb H.size (10 : Int32) (0 : Int32) (1 : Int32) ) tw_65 tw_66 (by decide +kernel) rfl rfl ⟨by show 1 + 1 ≤ 40 * n + 11 + 2 * kk; omega, by show 8 + (3 + 11) + 24 ≤ 28 * (40 * n + 11 + 2 * kk); omega⟩ [] rfl rfl rfl hl.1 rfl (Nat.le_of_ble_eq_true rfl) dX13_both_23 ⟨Nat.le_of_ble_eq_true rfl, Nat.le_of_ble_eq_true rfl⟩) hP hD hS hA (fun r53 H locs hw51 hP hD hS => ?_)
    refine W.widen (k := 0) (n := 0) (by omega) (by omega) ?_
    refine cu_i (rn_V (n := 1) (As := [.int r53]) (rest := []) hx hb hml hown ht hKK hFx hP hD hS hA (c_m_emit l dC dI cI cB cZ cJ cR tb H.size ad N (wA (wA v 11 ((v.1 0 12).toNatClampNeg) r46) 0 12 ((v.1 0 12) + (1 : Int32))) r53 (show 0 ≤ ((v.1 0 12) + (1 : Int32)).toInt ∧ ((v.1 0 12) + (1 : Int32)).toInt < 24000 by omega)) tw_8 tw_9 (by decide +kernel) rfl rfl ⟨by show 0 + 1 ≤ 40 * n + 11 + 2 * kk; omega, by show 8 + (2 + 11) + 0 ≤ 28 * (40 * n + 11 + 2 * kk); omega⟩ (List.range (mW ad N cI cZ cJ (wA (wA v 11 ((v.1 0 12).toNatClampNeg) r46) 0 12 ((v.1 0 12) + (1 : Int32)))).length) (rg_map _) (mW_nd _ _ _ _ _ _) rfl rfl rfl rfl hl.1 rfl (Nat.le_of_ble_eq_true rfl) dX13_both_26 ⟨Nat.le_of_ble_eq_true rfl, Nat.le_of_ble_eq_true rfl⟩) hP hD hS hA (fun r56 u55 H locs hw54 hP hD hS => ?_)
    obtain ⟨rfl, rfl⟩ := hw54
    have z57 : (((v.1 0 12) + (1 : Int32)) + (1 : Int32)).toInt = ((v.1 0 12).toInt + 1) + 1 := add_z z50 (show (1 : Int32).toInt = 1 by decide) (by omega) (by omega)
    have hP : va_P (dC, dI) vwCl (mW ad N cI cZ cJ (wA (wA (wA (wA v 11 ((v.1 0 12).toNatClampNeg) r46) 0 12 ((v.1 0 12) + (1 : Int32))) 11 (((v.1 0 12) + (1 : Int32)).toNatClampNeg) r53) 0 12 (((v.1 0 12) + (1 : Int32)) + (1 : Int32)))) H := hP
    have hD : va_D A (mW ad N cI cZ cJ (wA (wA (wA (wA v 11 ((v.1 0 12).toNatClampNeg) r46) 0 12 ((v.1 0 12) + (1 : Int32))) 11 (((v.1 0 12) + (1 : Int32)).toNatClampNeg) r53) 0 12 (((v.1 0 12) + (1 : Int32)) + (1 : Int32)))) := hD
    refine tp_i (y := ((v.1 0 12) + (1 : Int32))) (rfl) ?_
    refine W.widen (k := 0) (n := 0) (by omega) (by omega) ?_
    refine lv_pop hx hb dX13_both_29 rfl ?_
    refine lv_goto (tgt := 47) hx hb dX13_both_30 (by decide) ?_
    refine lv_aload_n hx hb dX13_both_47 rfl (lv_at hl 0 rfl) ?_
    refine lv_iconst (v := -1) hx hb dX13_both_48 (by decide) ?_
    refine cu_i (rn_V (n := 1) (As := [.int (-1)]) (rest := []) hx hb hml hown ht hKK hFx hP hD hS hA (c_m_wait l dC dI cI cB cZ cJ cR tb H.size ad N (wA (wA (wA (wA v 11 ((v.1 0 12).toNatClampNeg) r46) 0 12 ((v.1 0 12) + (1 : Int32))) 11 (((v.1 0 12) + (1 : Int32)).toNatClampNeg) r53) 0 12 (((v.1 0 12) + (1 : Int32)) + (1 : Int32))) (-1 : Int32) (show 0 ≤ (((v.1 0 12) + (1 : Int32)) + (1 : Int32)).toInt ∧ (((v.1 0 12) + (1 : Int32)) + (1 : Int32)).toInt < 24000 by omega)) tw_122 tw_123 (by decide +kernel) rfl rfl ⟨by show 1 + 1 ≤ 40 * n + 11 + 2 * kk; omega, by show 8 + (2 + 11) + 21 ≤ 28 * (40 * n + 11 + 2 * kk); omega⟩ (List.range (mW ad N cI cZ cJ (wA (wA (wA (wA v 11 ((v.1 0 12).toNatClampNeg) r46) 0 12 ((v.1 0 12) + (1 : Int32))) 11 (((v.1 0 12) + (1 : Int32)).toNatClampNeg) r53) 0 12 (((v.1 0 12) + (1 : Int32)) + (1 : Int32)))).length) (rg_map _) (mW_nd _ _ _ _ _ _) rfl rfl rfl rfl hl.1 rfl (Nat.le_of_ble_eq_true rfl) dX13_both_49 ⟨Nat.le_of_ble_eq_true rfl, Nat.le_of_ble_eq_true rfl⟩) hP hD hS hA (fun r60 u59 H locs hw58 hP hD hS => ?_)
    obtain ⟨rfl, rfl⟩ := hw58
    have z61 : ((((v.1 0 12) + (1 : Int32)) + (1 : Int32)) + (1 : Int32)).toInt = (((v.1 0 12).toInt + 1) + 1) + 1 := add_z z57 (show (1 : Int32).toInt = 1 by decide) (by omega) (by omega)
    have hP : va_P (dC, dI) vwCl (mW ad N cI cZ cJ (wA (wA (wA (wA (wA (wA v 11 ((v.1 0 12).toNatClampNeg) r46) 0 12 ((v.1 0 12) + (1 : Int32))) 11 (((v.1 0 12) + (1 : Int32)).toNatClampNeg) r53) 0 12 (((v.1 0 12) + (1 : Int32)) + (1 : Int32))) 11 ((((v.1 0 12) + (1 : Int32)) + (1 : Int32)).toNatClampNeg) (-1 : Int32)) 0 12 ((((v.1 0 12) + (1 : Int32)) + (1 : Int32)) + (1 : Int32)))) H := hP
    have hD : va_D A (mW ad N cI cZ cJ (wA (wA (wA (wA (wA (wA v 11 ((v.1 0 12).toNatClampNeg) r46) 0 12 ((v.1 0 12) + (1 : Int32))) 11 (((v.1 0 12) + (1 : Int32)).toNatClampNeg) r53) 0 12 (((v.1 0 12) + (1 : Int32)) + (1 : Int32))) 11 ((((v.1 0 12) + (1 : Int32)) + (1 : Int32)).toNatClampNeg) (-1 : Int32)) 0 12 ((((v.1 0 12) + (1 : Int32)) + (1 : Int32)) + (1 : Int32)))) := hD
    refine tp_i (y := (((v.1 0 12) + (1 : Int32)) + (1 : Int32))) (rfl) ?_
    refine W.widen (k := 0) (n := 0) (by omega) (by omega) ?_
    refine lv_istore (lv' := [(4, .int (((v.1 0 12) + (1 : Int32)) + (1 : Int32))), (0, .ref (ad 0)), (1, .int pa), (2, .int pb)]) hx hb dX13_both_52 hl (by decide) rfl (fun ls hl => ?_)
    refine lv_aload_n hx hb dX13_both_54 rfl (lv_at hl 1 rfl) ?_
    refine lv_iload_n hx hb dX13_both_55 rfl (lv_at hl 2 rfl) ?_
    refine lv_if_eq (tgt := 64) hx hb dX13_both_56 (by decide) (fun h62 => ?_) (fun h62 => ?_)
    · have z63 : pa.toInt = 0 := eq_z rfl (show (0 : Int32).toInt = 0 by decide) h62
      exfalso; omega
    · have z64 : pa.toInt ≠ 0 := ne_z rfl (show (0 : Int32).toInt = 0 by decide) h62
      refine lv_bipush (v := 23) hx hb dX13_both_59 (by decide) ?_
      refine lv_goto (tgt := 66) hx hb dX13_both_61 (by decide) ?_
      refine lv_iconst (v := 0) hx hb dX13_both_66 (by decide) ?_
      refine cu_i (rn_V (n := 2) (As := [.int 23, .int 0]) (rest := []) hx hb hml hown ht hKK hFx hP hD hS hA (c_m_say l dC dI cI cB cZ cJ cR tb H.size ad N (wA (wA (wA (wA (wA (wA v 11 ((v.1 0 12).toNatClampNeg) r46) 0 12 ((v.1 0 12) + (1 : Int32))) 11 (((v.1 0 12) + (1 : Int32)).toNatClampNeg) r53) 0 12 (((v.1 0 12) + (1 : Int32)) + (1 : Int32))) 11 ((((v.1 0 12) + (1 : Int32)) + (1 : Int32)).toNatClampNeg) (-1 : Int32)) 0 12 ((((v.1 0 12) + (1 : Int32)) + (1 : Int32)) + (1 : Int32))) (23 : Int32) (0 : Int32) (show 0 ≤ (v.1 0 15).toInt ∧ (v.1 0 15).toInt < 16000 by omega)) tw_59 tw_60 (by decide +kernel) rfl rfl ⟨by show 0 + 1 ≤ 40 * n + 11 + 2 * kk; omega, by show 8 + (3 + 11) + 0 ≤ 28 * (40 * n + 11 + 2 * kk); omega⟩ (List.range (mW ad N cI cZ cJ (wA (wA (wA (wA (wA (wA v 11 ((v.1 0 12).toNatClampNeg) r46) 0 12 ((v.1 0 12) + (1 : Int32))) 11 (((v.1 0 12) + (1 : Int32)).toNatClampNeg) r53) 0 12 (((v.1 0 12) + (1 : Int32)) + (1 : Int32))) 11 ((((v.1 0 12) + (1 : Int32)) + (1 : Int32)).toNatClampNeg) (-1 : Int32)) 0 12 ((((v.1 0 12) + (1 : Int32)) + (1 : Int32)) + (1 : Int32)))).length) (rg_map _) (mW_nd _ _ _ _ _ _) rfl rfl rfl rfl hl.1 rfl (Nat.le_of_ble_eq_true rfl) dX13_both_67 ⟨Nat.le_of_ble_eq_true rfl, Nat.le_of_ble_eq_true rfl⟩) hP hD hS hA (fun r67 u66 H locs hw65 hP hD hS => ?_)
      obtain ⟨rfl, rfl⟩ := hw65
      have z68 : ((v.1 0 15) + (1 : Int32)).toInt = (v.1 0 15).toInt + 1 := add_z rfl (show (1 : Int32).toInt = 1 by decide) (by omega) (by omega)
      have hP : va_P (dC, dI) vwCl (mW ad N cI cZ cJ (wA (wA (wA (wA (wA (wA (wA (wA (wA v 11 ((v.1 0 12).toNatClampNeg) r46) 0 12 ((v.1 0 12) + (1 : Int32))) 11 (((v.1 0 12) + (1 : Int32)).toNatClampNeg) r53) 0 12 (((v.1 0 12) + (1 : Int32)) + (1 : Int32))) 11 ((((v.1 0 12) + (1 : Int32)) + (1 : Int32)).toNatClampNeg) (-1 : Int32)) 0 12 ((((v.1 0 12) + (1 : Int32)) + (1 : Int32)) + (1 : Int32))) 13 ((v.1 0 15).toNatClampNeg) (23 : Int32)) 14 ((v.1 0 15).toNatClampNeg) (0 : Int32)) 0 15 ((v.1 0 15) + (1 : Int32)))) H := hP
      have hD : va_D A (mW ad N cI cZ cJ (wA (wA (wA (wA (wA (wA (wA (wA (wA v 11 ((v.1 0 12).toNatClampNeg) r46) 0 12 ((v.1 0 12) + (1 : Int32))) 11 (((v.1 0 12) + (1 : Int32)).toNatClampNeg) r53) 0 12 (((v.1 0 12) + (1 : Int32)) + (1 : Int32))) 11 ((((v.1 0 12) + (1 : Int32)) + (1 : Int32)).toNatClampNeg) (-1 : Int32)) 0 12 ((((v.1 0 12) + (1 : Int32)) + (1 : Int32)) + (1 : Int32))) 13 ((v.1 0 15).toNatClampNeg) (23 : Int32)) 14 ((v.1 0 15).toNatClampNeg) (0 : Int32)) 0 15 ((v.1 0 15) + (1 : Int32)))) := hD
      refine tp_i (y := (v.1 0 15)) (rfl) ?_
      refine W.widen (k := 0) (n := 0) (by omega) (by omega) ?_
      obtain ⟨u69, hu70⟩ : ∃ z, z = (wA (wA (wA (wA (wA (wA (wA (wA (wA v 11 ((v.1 0 12).toNatClampNeg) r46) 0 12 ((v.1 0 12) + (1 : Int32))) 11 (((v.1 0 12) + (1 : Int32)).toNatClampNeg) r53) 0 12 (((v.1 0 12) + (1 : Int32)) + (1 : Int32))) 11 ((((v.1 0 12) + (1 : Int32)) + (1 : Int32)).toNatClampNeg) (-1 : Int32)) 0 12 ((((v.1 0 12) + (1 : Int32)) + (1 : Int32)) + (1 : Int32))) 13 ((v.1 0 15).toNatClampNeg) (23 : Int32)) 14 ((v.1 0 15).toNatClampNeg) (0 : Int32)) 0 15 ((v.1 0 15) + (1 : Int32))) := ⟨_, rfl⟩
      have fr70 : FG [12, 15] [0, 11, 13, 14] v u69 := by rw [hu70]; exact (FG.f (FG.a (FG.a (FG.f (FG.a (FG.f (FG.a (FG.f (FG.a (FG.rf _) ((v.1 0 12).toNatClampNeg) r46 (by decide) (by decide)) ((v.1 0 12) + (1 : Int32)) (by decide)) (((v.1 0 12) + (1 : Int32)).toNatClampNeg) r53 (by decide) (by decide)) (((v.1 0 12) + (1 : Int32)) + (1 : Int32)) (by decide)) ((((v.1 0 12) + (1 : Int32)) + (1 : Int32)).toNatClampNeg) (-1 : Int32) (by decide) (by decide)) ((((v.1 0 12) + (1 : Int32)) + (1 : Int32)) + (1 : Int32)) (by decide)) ((v.1 0 15).toNatClampNeg) (23 : Int32) (by decide) (by decide)) ((v.1 0 15).toNatClampNeg) (0 : Int32) (by decide) (by decide)) ((v.1 0 15) + (1 : Int32)) (by decide))
      have q70_2 : (u69.1 0 2).toInt = (v.1 0 2).toInt := congrArg Int32.toInt (fr70.2.1 2 (by decide))
      have q70_4 : (u69.1 0 4).toInt = (v.1 0 4).toInt := congrArg Int32.toInt (fr70.2.1 4 (by decide))
      have q70_5 : (u69.1 0 5).toInt = (v.1 0 5).toInt := congrArg Int32.toInt (fr70.2.1 5 (by decide))
      have q70_12 : (u69.1 0 12).toInt = ((((v.1 0 12).toInt + 1) + 1) + 1) := by rw [hu70]; exact (show ((((v.1 0 12) + (1 : Int32)) + (1 : Int32)) + (1 : Int32)).toInt = ((((v.1 0 12).toInt + 1) + 1) + 1) from z61)
      have q70_15 : (u69.1 0 15).toInt = ((v.1 0 15).toInt + 1) := by rw [hu70]; exact (show ((v.1 0 15) + (1 : Int32)).toInt = ((v.1 0 15).toInt + 1) from z68)
      have q70_22 : (u69.1 0 22).toInt = (v.1 0 22).toInt := congrArg Int32.toInt (fr70.2.1 22 (by decide))
      have q70_27 : (u69.1 0 27).toInt = (v.1 0 27).toInt := congrArg Int32.toInt (fr70.2.1 27 (by decide))
      have q70_28 : (u69.1 0 28).toInt = (v.1 0 28).toInt := congrArg Int32.toInt (fr70.2.1 28 (by decide))
      have q70_30 : (u69.1 0 30).toInt = (v.1 0 30).toInt := congrArg Int32.toInt (fr70.2.1 30 (by decide))
      have q70_31 : (u69.1 0 31).toInt = (v.1 0 31).toInt := congrArg Int32.toInt (fr70.2.1 31 (by decide))
      have q70_32 : (u69.1 0 32).toInt = (v.1 0 32).toInt := congrArg Int32.toInt (fr70.2.1 32 (by decide))
      have q70_33 : (u69.1 0 33).toInt = (v.1 0 33).toInt := congrArg Int32.toInt (fr70.2.1 33 (by decide))
      have q70_34 : (u69.1 0 34).toInt = (v.1 0 34).toInt := congrArg Int32.toInt (fr70.2.1 34 (by decide))
      have q70_39 : (u69.1 0 39).toInt = (v.1 0 39).toInt := congrArg Int32.toInt (fr70.2.1 39 (by decide))
      have q70_43 : (u69.1 0 43).toInt = (v.1 0 43).toInt := congrArg Int32.toInt (fr70.2.1 43 (by decide))
      have q70_47 : (u69.1 0 47).toInt = (v.1 0 47).toInt := congrArg Int32.toInt (fr70.2.1 47 (by decide))
      have q70_48 : (u69.1 0 48).toInt = (v.1 0 48).toInt := congrArg Int32.toInt (fr70.2.1 48 (by decide))
      have q70_49 : (u69.1 0 49).toInt = (v.1 0 49).toInt := congrArg Int32.toInt (fr70.2.1 49 (by decide))
      have q70_52 : (u69.1 0 52).toInt = (v.1 0 52).toInt := congrArg Int32.toInt (fr70.2.1 52 (by decide))
      have kc70 : ∀ j : Nat, (j : Int) < (v.1 0 12).toInt → (u69.1 11) j = (v.1 11) j := by rw [hu70]; exact (fun (j9 : Nat) hj9 => (Eq.trans (pk_un (by have := cl_z (a := (((v.1 0 12) + (1 : Int32)) + (1 : Int32)).toInt) rfl (by omega); omega)) (Eq.trans (pk_un (by have := cl_z (a := ((v.1 0 12) + (1 : Int32)).toInt) rfl (by omega); omega)) (pk_un (by have := cl_z (a := (v.1 0 12).toInt) rfl (by omega); omega)))))
      have ko70 : ∀ j : Nat, (j : Int) < (v.1 0 15).toInt → (u69.1 13) j = (v.1 13) j := by rw [hu70]; exact (fun (j9 : Nat) hj9 => (pk_un (by have := cl_z (a := (v.1 0 15).toInt) rfl (by omega); omega)))
      have kg70 : ∀ j : Nat, (j : Int) < (v.1 0 15).toInt → (u69.1 14) j = (v.1 14) j := by rw [hu70]; exact (fun (j9 : Nat) hj9 => (pk_un (by have := cl_z (a := (v.1 0 15).toInt) rfl (by omega); omega)))
      rw [← hu70] at hP hD
      refine lv_istore_n (lv' := [(3, .int (v.1 0 15)), (4, .int (((v.1 0 12) + (1 : Int32)) + (1 : Int32))), (0, .ref (ad 0)), (1, .int pa), (2, .int pb)]) hx hb dX13_both_70 rfl hl (by decide) rfl (fun ls hl => ?_)
      refine lv_aload_n hx hb dX13_both_71 rfl (lv_at hl 2 rfl) ?_
      refine lv_iload_n hx hb dX13_both_72 rfl (lv_at hl 4 rfl) ?_
      refine lv_iconst (v := 0) hx hb dX13_both_73 (by decide) ?_
      refine cux_v (rx_V (n := 2) (As := [.int pb, .int 0]) (rest := []) hx hb hml hown ht hKK hFx hP hD hS hA (J dC dI cI cB cZ cJ cR tb H.size ad N u69 pb (0 : Int32) (show 40 ≤ (u69.1 0 48).toInt + (n : Int) by omega) (show 0 ≤ (u69.1 0 47).toInt ∧ (u69.1 0 47).toInt ≤ 1500 by omega) (show 0 ≤ (u69.1 0 48).toInt ∧ (u69.1 0 48).toInt ≤ 40 by omega) (show 0 ≤ (u69.1 0 30).toInt ∧ (u69.1 0 30).toInt ≤ 500 by omega) (show 0 ≤ (u69.1 0 33).toInt ∧ (u69.1 0 33).toInt ≤ 500 by omega) (show 0 ≤ (u69.1 0 32).toInt ∧ (u69.1 0 30).toInt + (u69.1 0 32).toInt ≤ 500 by omega) (show 0 ≤ (u69.1 0 12).toInt ∧ (u69.1 0 12).toInt ≤ 15 * (u69.1 0 47).toInt + 2 by omega) (show 0 ≤ (u69.1 0 15).toInt ∧ (u69.1 0 15).toInt ≤ 10 * (u69.1 0 47).toInt + 0 by omega) (show 0 ≤ (u69.1 0 43).toInt ∧ (u69.1 0 43).toInt ≤ 15 * (u69.1 0 47).toInt + 0 by omega) (show 0 ≤ (u69.1 0 39).toInt ∧ (u69.1 0 39).toInt ≤ 1 * (u69.1 0 47).toInt + 0 by omega) (show 0 ≤ (u69.1 0 27).toInt ∧ (u69.1 0 27).toInt ≤ 60 by omega) (FG.ti (fl := pfl) (al := pal) (FG.tr (FG.rf _) (FG.up fr70 (by decide) (by decide))) (by decide) (by decide) hT) ((show NI 29 u69 from NI.fr (fl := [12, 15]) (al := [0, 11, 13, 14]) fr70 (by decide) n29)) ((show NI 23 u69 from NI.fr (fl := [12, 15]) (al := [0, 11, 13, 14]) fr70 (by decide) n23)) ((show NI 35 u69 from NI.fr (fl := [12, 15]) (al := [0, 11, 13, 14]) fr70 (by decide) n35)) (show 1 ≤ pb.toInt ∧ pb.toInt ≤ 12 ∧ 11 ≤ pb.toInt + (kk : Int) by omega)) tw_124 tw_125 (by decide +kernel) rfl rfl ⟨by show (40 * n + 10 + 2 * kk) + 1 ≤ 40 * n + 11 + 2 * kk; omega, by show 8 + (6 + 11) + 28 * (40 * n + 10 + 2 * kk) ≤ 28 * (40 * n + 11 + 2 * kk); omega⟩ (List.range (mW ad N cI cZ cJ u69).length) (rg_map _) (mW_nd _ _ _ _ _ _) rfl rfl rfl rfl hl.1 rfl (Nat.le_of_ble_eq_true rfl) dX13_both_74 ⟨Nat.le_of_ble_eq_true rfl, Nat.le_of_ble_eq_true rfl⟩) hP hD hS hA (fun u9 ce9 q9 H locs hx9 hP hD hS hc9 hv9 hf9 => ?_) (fun u72 H locs hw71 hP hD hS => ?_)
      · exact vx_out (fun x h9 => (hnt x h9).elim) hlocks hc9 hv9 hf9 (fun t9 ht9 hv8 => ⟨u9, (FG.tr (FG.tr (FG.rf _) (FG.up fr70 (by decide) (by decide))) hx9), ⟨rfl, by rw [ht9]; exact hP, hD⟩, hS.F ht9⟩) hS.2.2 (by omega) (by omega)
      obtain ⟨fr71, pt71, pb71, pw71, po71, pf71, pk71, pp71, ph71, kc71, ko71, kg71, n3571⟩ := hw71
      have q71_2 : (u72.1 0 2).toInt = (u69.1 0 2).toInt := congrArg Int32.toInt ((fr71.2.1 2 (by decide)).trans (show u69.1 0 2 = (u69.1 0 2) by rfl))
      have q71_4 : (u72.1 0 4).toInt = (u69.1 0 4).toInt := congrArg Int32.toInt ((fr71.2.1 4 (by decide)).trans (show u69.1 0 4 = (u69.1 0 4) by rfl))
      have q71_5 : (u72.1 0 5).toInt = (u69.1 0 5).toInt := congrArg Int32.toInt ((fr71.2.1 5 (by decide)).trans (show u69.1 0 5 = (u69.1 0 5) by rfl))
      have q71_22 : (u72.1 0 22).toInt = (u69.1 0 22).toInt := congrArg Int32.toInt ((fr71.2.1 22 (by decide)).trans (show u69.1 0 22 = (u69.1 0 22) by rfl))
      have q71_27 : (u72.1 0 27).toInt = (u69.1 0 27).toInt := congrArg Int32.toInt ((fr71.2.1 27 (by decide)).trans (show u69.1 0 27 = (u69.1 0 27) by rfl))
      have q71_28 : (u72.1 0 28).toInt = (u69.1 0 28).toInt := congrArg Int32.toInt ((fr71.2.1 28 (by decide)).trans (show u69.1 0 28 = (u69.1 0 28) by rfl))
      have q71_30 : (u72.1 0 30).toInt = (u69.1 0 30).toInt := congrArg Int32.toInt ((fr71.2.1 30 (by decide)).trans (show u69.1 0 30 = (u69.1 0 30) by rfl))
      have q71_31 : (u72.1 0 31).toInt = (u69.1 0 31).toInt := congrArg Int32.toInt ((fr71.2.1 31 (by decide)).trans (show u69.1 0 31 = (u69.1 0 31) by rfl))
      have q71_34 : (u72.1 0 34).toInt = (u69.1 0 34).toInt := congrArg Int32.toInt ((fr71.2.1 34 (by decide)).trans (show u69.1 0 34 = (u69.1 0 34) by rfl))
      have q71_52 : (u72.1 0 52).toInt = (u69.1 0 52).toInt := congrArg Int32.toInt ((fr71.2.1 52 (by decide)).trans (show u69.1 0 52 = (u69.1 0 52) by rfl))
      have pt71 : (u69.1 0 47).toInt + 0 ≤ (u72.1 0 47).toInt ∧ (u72.1 0 47).toInt ≤ 1500 := pt71
      have pb71 : 0 ≠ 0 ∨ ((u69.1 0 47).toInt + 1 ≤ (u72.1 0 47).toInt ∧ (u69.1 0 49).toInt ≠ (u69.1 0 47).toInt) := pb71
      have pw71 : (u69.1 0 12).toInt ≤ (u72.1 0 12).toInt ∧ (u72.1 0 12).toInt - 15 * (u72.1 0 47).toInt ≤ (u69.1 0 12).toInt - 15 * (u69.1 0 47).toInt := pw71
      have po71 : (u69.1 0 15).toInt ≤ (u72.1 0 15).toInt ∧ (u72.1 0 15).toInt - 10 * (u72.1 0 47).toInt ≤ (u69.1 0 15).toInt - 10 * (u69.1 0 47).toInt := po71
      have pf71 : (u69.1 0 43).toInt ≤ (u72.1 0 43).toInt ∧ (u72.1 0 43).toInt - 15 * (u72.1 0 47).toInt ≤ (u69.1 0 43).toInt - 15 * (u69.1 0 47).toInt := pf71
      have pk71 : (u69.1 0 39).toInt ≤ (u72.1 0 39).toInt ∧ (u72.1 0 39).toInt - 1 * (u72.1 0 47).toInt ≤ (u69.1 0 39).toInt - 1 * (u69.1 0 47).toInt := pk71
      have pp71 : (u72.1 0 32).toInt = (u69.1 0 32).toInt ∧ (u72.1 0 48).toInt = (u69.1 0 48).toInt := pp71
      have ph71 : (u69.1 0 33).toInt ≤ (u72.1 0 33).toInt ∧ (u72.1 0 33).toInt ≤ 500 := ph71
      have kc71 : ∀ j : Nat, (j : Int) < (u69.1 0 12).toInt → (u72.1 11) j = (u69.1 11) j := kc71
      have ko71 : ∀ j : Nat, (j : Int) < (u69.1 0 15).toInt → (u72.1 13) j = (u69.1 13) j := ko71
      have kg71 : ∀ j : Nat, (j : Int) < (u69.1 0 15).toInt → (u72.1 14) j = (u69.1 14) j := kg71
      have n3571 : NI 35 u72 := n3571
      refine W.widen (k := 0) (n := 0) (by omega) (by omega) ?_
      refine lv_aload_n hx hb dX13_both_77 rfl (lv_at hl 2 rfl) ?_
      refine lv_iconst (v := 0) hx hb dX13_both_78 (by decide) ?_
      refine lv_iconst (v := 3) hx hb dX13_both_79 (by decide) ?_
      refine lv_bipush (v := 10) hx hb dX13_both_80 (by decide) ?_
      refine lv_iconst (v := 0) hx hb dX13_both_82 (by decide) ?_
      refine lv_bipush (v := 10) hx hb dX13_both_83 (by decide) ?_
      refine cu_s (mW_nd _ _ _ _ _ _) (rn_S (n := 5) (As := [.int 0, .int 3, .int 10, .int 0, .int 10]) (rest := [.ref (ad 0)]) hx hb hml hown ht hKK hFx hP hD hS hA (c_m_byR l dC dI cI cB cZ cJ cR tb H.size (0 : Int32) (3 : Int32) (10 : Int32) (0 : Int32) (10 : Int32) ) tw_67 tw_68 (by decide +kernel) rfl rfl ⟨by show 0 + 1 ≤ 40 * n + 11 + 2 * kk; omega, by show 8 + (5 + 11) + 0 ≤ 28 * (40 * n + 11 + 2 * kk); omega⟩ [] rfl rfl rfl hl.1 rfl (Nat.le_of_ble_eq_true rfl) dX13_both_85 ⟨Nat.le_of_ble_eq_true rfl, Nat.le_of_ble_eq_true rfl⟩) hP hD hS hA (fun r76 H locs hw74 hP hD hS => ?_)
      refine W.widen (k := 0) (n := 0) (by omega) (by omega) ?_
      refine cu_i (rn_V (n := 1) (As := [.int r76]) (rest := []) hx hb hml hown ht hKK hFx hP hD hS hA (c_m_emit l dC dI cI cB cZ cJ cR tb H.size ad N u72 r76 (show 0 ≤ (u72.1 0 12).toInt ∧ (u72.1 0 12).toInt < 24000 by omega)) tw_8 tw_9 (by decide +kernel) rfl rfl ⟨by show 0 + 1 ≤ 40 * n + 11 + 2 * kk; omega, by show 8 + (2 + 11) + 0 ≤ 28 * (40 * n + 11 + 2 * kk); omega⟩ (List.range (mW ad N cI cZ cJ u72).length) (rg_map _) (mW_nd _ _ _ _ _ _) rfl rfl rfl rfl hl.1 rfl (Nat.le_of_ble_eq_true rfl) dX13_both_88 ⟨Nat.le_of_ble_eq_true rfl, Nat.le_of_ble_eq_true rfl⟩) hP hD hS hA (fun r79 u78 H locs hw77 hP hD hS => ?_)
      obtain ⟨rfl, rfl⟩ := hw77
      have z80 : ((u72.1 0 12) + (1 : Int32)).toInt = (u72.1 0 12).toInt + 1 := add_z rfl (show (1 : Int32).toInt = 1 by decide) (by omega) (by omega)
      have hP : va_P (dC, dI) vwCl (mW ad N cI cZ cJ (wA (wA u72 11 ((u72.1 0 12).toNatClampNeg) r76) 0 12 ((u72.1 0 12) + (1 : Int32)))) H := hP
      have hD : va_D A (mW ad N cI cZ cJ (wA (wA u72 11 ((u72.1 0 12).toNatClampNeg) r76) 0 12 ((u72.1 0 12) + (1 : Int32)))) := hD
      refine tp_i (y := (u72.1 0 12)) (rfl) ?_
      refine W.widen (k := 0) (n := 0) (by omega) (by omega) ?_
      refine lv_pop hx hb dX13_both_91 rfl ?_
      refine lv_aload_n hx hb dX13_both_92 rfl (lv_at hl 2 rfl) ?_
      refine lv_bipush (v := 24) hx hb dX13_both_93 (by decide) ?_
      refine lv_iconst (v := 0) hx hb dX13_both_95 (by decide) ?_
      refine cu_i (rn_V (n := 2) (As := [.int 24, .int 0]) (rest := []) hx hb hml hown ht hKK hFx hP hD hS hA (c_m_say l dC dI cI cB cZ cJ cR tb H.size ad N (wA (wA u72 11 ((u72.1 0 12).toNatClampNeg) r76) 0 12 ((u72.1 0 12) + (1 : Int32))) (24 : Int32) (0 : Int32) (show 0 ≤ (u72.1 0 15).toInt ∧ (u72.1 0 15).toInt < 16000 by omega)) tw_59 tw_60 (by decide +kernel) rfl rfl ⟨by show 0 + 1 ≤ 40 * n + 11 + 2 * kk; omega, by show 8 + (3 + 11) + 0 ≤ 28 * (40 * n + 11 + 2 * kk); omega⟩ (List.range (mW ad N cI cZ cJ (wA (wA u72 11 ((u72.1 0 12).toNatClampNeg) r76) 0 12 ((u72.1 0 12) + (1 : Int32)))).length) (rg_map _) (mW_nd _ _ _ _ _ _) rfl rfl rfl rfl hl.1 rfl (Nat.le_of_ble_eq_true rfl) dX13_both_96 ⟨Nat.le_of_ble_eq_true rfl, Nat.le_of_ble_eq_true rfl⟩) hP hD hS hA (fun r83 u82 H locs hw81 hP hD hS => ?_)
      obtain ⟨rfl, rfl⟩ := hw81
      have z84 : ((u72.1 0 15) + (1 : Int32)).toInt = (u72.1 0 15).toInt + 1 := add_z rfl (show (1 : Int32).toInt = 1 by decide) (by omega) (by omega)
      have hP : va_P (dC, dI) vwCl (mW ad N cI cZ cJ (wA (wA (wA (wA (wA u72 11 ((u72.1 0 12).toNatClampNeg) r76) 0 12 ((u72.1 0 12) + (1 : Int32))) 13 ((u72.1 0 15).toNatClampNeg) (24 : Int32)) 14 ((u72.1 0 15).toNatClampNeg) (0 : Int32)) 0 15 ((u72.1 0 15) + (1 : Int32)))) H := hP
      have hD : va_D A (mW ad N cI cZ cJ (wA (wA (wA (wA (wA u72 11 ((u72.1 0 12).toNatClampNeg) r76) 0 12 ((u72.1 0 12) + (1 : Int32))) 13 ((u72.1 0 15).toNatClampNeg) (24 : Int32)) 14 ((u72.1 0 15).toNatClampNeg) (0 : Int32)) 0 15 ((u72.1 0 15) + (1 : Int32)))) := hD
      refine tp_i (y := (u72.1 0 15)) (rfl) ?_
      refine W.widen (k := 0) (n := 0) (by omega) (by omega) ?_
      refine lv_pop hx hb dX13_both_99 rfl ?_
      refine lv_aload_n hx hb dX13_both_100 rfl (lv_at hl 2 rfl) ?_
      refine lv_iload hx hb dX13_both_101 (lv_at hl 1 rfl) ?_
      refine lv_iconst (v := 0) hx hb dX13_both_103 (by decide) ?_
      refine lv_aload_n hx hb dX13_both_104 rfl (lv_at hl 2 rfl) ?_
      refine va_get (D := (dC, dI)) (ci := 16) (fs := mF ad (wA (wA (wA (wA (wA u72 11 ((u72.1 0 12).toNatClampNeg) r76) 0 12 ((u72.1 0 12) + (1 : Int32))) 13 ((u72.1 0 15).toNatClampNeg) (24 : Int32)) 14 ((u72.1 0 15).toNatClampNeg) (0 : Int32)) 0 15 ((u72.1 0 15) + (1 : Int32)))) (v := .int ((u72.1 0 12) + (1 : Int32))) (C := RX13) (T := TX13) (N := 124) hx hb ht itX13 hown hK hP 0 rfl rfl 12 (by decide) (ht _ tw_7) (fun _ h9 => h9) rfl dX13_both_105 ?_
      refine cu_v (rn_V (n := 3) (As := [.int (((v.1 0 12) + (1 : Int32)) + (1 : Int32)), .int 0, .int ((u72.1 0 12) + (1 : Int32))]) (rest := []) hx hb hml hown ht hKK hFx hP hD hS hA (c_m_jump l dC dI cI cB cZ cJ cR tb H.size ad N (wA (wA (wA (wA (wA u72 11 ((u72.1 0 12).toNatClampNeg) r76) 0 12 ((u72.1 0 12) + (1 : Int32))) 13 ((u72.1 0 15).toNatClampNeg) (24 : Int32)) 14 ((u72.1 0 15).toNatClampNeg) (0 : Int32)) 0 15 ((u72.1 0 15) + (1 : Int32))) (((v.1 0 12) + (1 : Int32)) + (1 : Int32)) (0 : Int32) ((u72.1 0 12) + (1 : Int32)) (show 0 ≤ (((v.1 0 12) + (1 : Int32)) + (1 : Int32)).toInt ∧ (((v.1 0 12) + (1 : Int32)) + (1 : Int32)).toInt < 24000 by omega)) tw_126 tw_127 (by decide +kernel) rfl rfl ⟨by show 1 + 1 ≤ 40 * n + 11 + 2 * kk; omega, by show 8 + (4 + 11) + 21 ≤ 28 * (40 * n + 11 + 2 * kk); omega⟩ (List.range (mW ad N cI cZ cJ (wA (wA (wA (wA (wA u72 11 ((u72.1 0 12).toNatClampNeg) r76) 0 12 ((u72.1 0 12) + (1 : Int32))) 13 ((u72.1 0 15).toNatClampNeg) (24 : Int32)) 14 ((u72.1 0 15).toNatClampNeg) (0 : Int32)) 0 15 ((u72.1 0 15) + (1 : Int32)))).length) (rg_map _) (mW_nd _ _ _ _ _ _) rfl rfl rfl rfl hl.1 rfl (Nat.le_of_ble_eq_true rfl) dX13_both_108 ⟨Nat.le_of_ble_eq_true rfl, Nat.le_of_ble_eq_true rfl⟩) hP hD hS hA (fun u86 H locs hw85 hP hD hS => ?_)
      obtain ⟨x88, rfl⟩ := hw85
      have hP : va_P (dC, dI) vwCl (mW ad N cI cZ cJ (wA (wA (wA (wA (wA (wA u72 11 ((u72.1 0 12).toNatClampNeg) r76) 0 12 ((u72.1 0 12) + (1 : Int32))) 13 ((u72.1 0 15).toNatClampNeg) (24 : Int32)) 14 ((u72.1 0 15).toNatClampNeg) (0 : Int32)) 0 15 ((u72.1 0 15) + (1 : Int32))) 11 ((((v.1 0 12) + (1 : Int32)) + (1 : Int32)).toNatClampNeg) x88)) H := hP
      have hD : va_D A (mW ad N cI cZ cJ (wA (wA (wA (wA (wA (wA u72 11 ((u72.1 0 12).toNatClampNeg) r76) 0 12 ((u72.1 0 12) + (1 : Int32))) 13 ((u72.1 0 15).toNatClampNeg) (24 : Int32)) 14 ((u72.1 0 15).toNatClampNeg) (0 : Int32)) 0 15 ((u72.1 0 15) + (1 : Int32))) 11 ((((v.1 0 12) + (1 : Int32)) + (1 : Int32)).toNatClampNeg) x88)) := hD
      refine W.widen (k := 0) (n := 0) (by omega) (by omega) ?_
      refine lv_aload_n hx hb dX13_both_111 rfl (lv_at hl 2 rfl) ?_
      refine va_get (D := (dC, dI)) (ci := 16) (fs := mF ad (wA (wA (wA (wA (wA (wA u72 11 ((u72.1 0 12).toNatClampNeg) r76) 0 12 ((u72.1 0 12) + (1 : Int32))) 13 ((u72.1 0 15).toNatClampNeg) (24 : Int32)) 14 ((u72.1 0 15).toNatClampNeg) (0 : Int32)) 0 15 ((u72.1 0 15) + (1 : Int32))) 11 ((((v.1 0 12) + (1 : Int32)) + (1 : Int32)).toNatClampNeg) x88)) (v := .ref (ad 14)) (C := RX13) (T := TX13) (N := 124) hx hb ht itX13 hown hK hP 0 rfl rfl 14 (by decide) (ht _ tw_12) (fun _ h9 => h9) rfl dX13_both_112 ?_
      refine lv_iload_n hx hb dX13_both_115 rfl (lv_at hl 0 rfl) ?_
      refine lv_aload_n hx hb dX13_both_116 rfl (lv_at hl 2 rfl) ?_
      refine va_get (D := (dC, dI)) (ci := 16) (fs := mF ad (wA (wA (wA (wA (wA (wA u72 11 ((u72.1 0 12).toNatClampNeg) r76) 0 12 ((u72.1 0 12) + (1 : Int32))) 13 ((u72.1 0 15).toNatClampNeg) (24 : Int32)) 14 ((u72.1 0 15).toNatClampNeg) (0 : Int32)) 0 15 ((u72.1 0 15) + (1 : Int32))) 11 ((((v.1 0 12) + (1 : Int32)) + (1 : Int32)).toNatClampNeg) x88)) (v := .int ((u72.1 0 15) + (1 : Int32))) (C := RX13) (T := TX13) (N := 124) hx hb ht itX13 hown hK hP 0 rfl rfl 15 (by decide) (ht _ tw_11) (fun _ h9 => h9) rfl dX13_both_117 ?_
      refine va_iast (D := (dC, dI)) (f := (upd (u72.1 14) ((u72.1 0 15).toNatClampNeg) (0 : Int32))) hx hb hK hP hD hS 10 0 rfl rfl (in_z (a := (v.1 0 15).toInt) rfl (by omega) (by omega)) dX13_both_120 (fun H locs hP hD hS => ?_)
      have hP := cP_ (ma_14 ad N cI cZ cJ (wA (wA (wA (wA (wA (wA u72 11 ((u72.1 0 12).toNatClampNeg) r76) 0 12 ((u72.1 0 12) + (1 : Int32))) 13 ((u72.1 0 15).toNatClampNeg) (24 : Int32)) 14 ((u72.1 0 15).toNatClampNeg) (0 : Int32)) 0 15 ((u72.1 0 15) + (1 : Int32))) 11 ((((v.1 0 12) + (1 : Int32)) + (1 : Int32)).toNatClampNeg) x88) ((v.1 0 15).toNatClampNeg) ((u72.1 0 15) + (1 : Int32))) hP
      have hD := cD_ (ma_14 ad N cI cZ cJ (wA (wA (wA (wA (wA (wA u72 11 ((u72.1 0 12).toNatClampNeg) r76) 0 12 ((u72.1 0 12) + (1 : Int32))) 13 ((u72.1 0 15).toNatClampNeg) (24 : Int32)) 14 ((u72.1 0 15).toNatClampNeg) (0 : Int32)) 0 15 ((u72.1 0 15) + (1 : Int32))) 11 ((((v.1 0 12) + (1 : Int32)) + (1 : Int32)).toNatClampNeg) x88) ((v.1 0 15).toNatClampNeg) ((u72.1 0 15) + (1 : Int32))) hD
      obtain ⟨u89, hu90⟩ : ∃ z, z = (wA (wA (wA (wA (wA (wA (wA u72 11 ((u72.1 0 12).toNatClampNeg) r76) 0 12 ((u72.1 0 12) + (1 : Int32))) 13 ((u72.1 0 15).toNatClampNeg) (24 : Int32)) 14 ((u72.1 0 15).toNatClampNeg) (0 : Int32)) 0 15 ((u72.1 0 15) + (1 : Int32))) 11 ((((v.1 0 12) + (1 : Int32)) + (1 : Int32)).toNatClampNeg) x88) 14 ((v.1 0 15).toNatClampNeg) ((u72.1 0 15) + (1 : Int32))) := ⟨_, rfl⟩
      have fr90 : FG [12, 15] [0, 11, 13, 14] u72 u89 := by rw [hu90]; exact (FG.a (FG.a (FG.f (FG.a (FG.a (FG.f (FG.a (FG.rf _) ((u72.1 0 12).toNatClampNeg) r76 (by decide) (by decide)) ((u72.1 0 12) + (1 : Int32)) (by decide)) ((u72.1 0 15).toNatClampNeg) (24 : Int32) (by decide) (by decide)) ((u72.1 0 15).toNatClampNeg) (0 : Int32) (by decide) (by decide)) ((u72.1 0 15) + (1 : Int32)) (by decide)) ((((v.1 0 12) + (1 : Int32)) + (1 : Int32)).toNatClampNeg) x88 (by decide) (by decide)) ((v.1 0 15).toNatClampNeg) ((u72.1 0 15) + (1 : Int32)) (by decide) (by decide))
      have q90_2 : (u89.1 0 2).toInt = (u72.1 0 2).toInt := congrArg Int32.toInt (fr90.2.1 2 (by decide))
      have q90_4 : (u89.1 0 4).toInt = (u72.1 0 4).toInt := congrArg Int32.toInt (fr90.2.1 4 (by decide))
      have q90_5 : (u89.1 0 5).toInt = (u72.1 0 5).toInt := congrArg Int32.toInt (fr90.2.1 5 (by decide))
      have q90_12 : (u89.1 0 12).toInt = ((u72.1 0 12).toInt + 1) := by rw [hu90]; exact (show ((u72.1 0 12) + (1 : Int32)).toInt = ((u72.1 0 12).toInt + 1) from z80)
      have q90_15 : (u89.1 0 15).toInt = ((u72.1 0 15).toInt + 1) := by rw [hu90]; exact (show ((u72.1 0 15) + (1 : Int32)).toInt = ((u72.1 0 15).toInt + 1) from z84)
      have q90_22 : (u89.1 0 22).toInt = (u72.1 0 22).toInt := congrArg Int32.toInt (fr90.2.1 22 (by decide))
      have q90_27 : (u89.1 0 27).toInt = (u72.1 0 27).toInt := congrArg Int32.toInt (fr90.2.1 27 (by decide))
      have q90_28 : (u89.1 0 28).toInt = (u72.1 0 28).toInt := congrArg Int32.toInt (fr90.2.1 28 (by decide))
      have q90_30 : (u89.1 0 30).toInt = (u72.1 0 30).toInt := congrArg Int32.toInt (fr90.2.1 30 (by decide))
      have q90_31 : (u89.1 0 31).toInt = (u72.1 0 31).toInt := congrArg Int32.toInt (fr90.2.1 31 (by decide))
      have q90_32 : (u89.1 0 32).toInt = (u72.1 0 32).toInt := congrArg Int32.toInt (fr90.2.1 32 (by decide))
      have q90_33 : (u89.1 0 33).toInt = (u72.1 0 33).toInt := congrArg Int32.toInt (fr90.2.1 33 (by decide))
      have q90_34 : (u89.1 0 34).toInt = (u72.1 0 34).toInt := congrArg Int32.toInt (fr90.2.1 34 (by decide))
      have q90_39 : (u89.1 0 39).toInt = (u72.1 0 39).toInt := congrArg Int32.toInt (fr90.2.1 39 (by decide))
      have q90_43 : (u89.1 0 43).toInt = (u72.1 0 43).toInt := congrArg Int32.toInt (fr90.2.1 43 (by decide))
      have q90_47 : (u89.1 0 47).toInt = (u72.1 0 47).toInt := congrArg Int32.toInt (fr90.2.1 47 (by decide))
      have q90_48 : (u89.1 0 48).toInt = (u72.1 0 48).toInt := congrArg Int32.toInt (fr90.2.1 48 (by decide))
      have q90_49 : (u89.1 0 49).toInt = (u72.1 0 49).toInt := congrArg Int32.toInt (fr90.2.1 49 (by decide))
      have q90_52 : (u89.1 0 52).toInt = (u72.1 0 52).toInt := congrArg Int32.toInt (fr90.2.1 52 (by decide))
      have kc90 : ∀ j : Nat, (j : Int) < (u72.1 0 12).toInt → (u89.1 11) j = (u72.1 11) j := by rw [hu90]; exact (fun (j9 : Nat) hj9 => (Eq.trans (pk_un (by have := cl_z (a := (((v.1 0 12) + (1 : Int32)) + (1 : Int32)).toInt) rfl (by omega); omega)) (pk_un (by have := cl_z (a := (u72.1 0 12).toInt) rfl (by omega); omega))))
      have ko90 : ∀ j : Nat, (j : Int) < (u72.1 0 15).toInt → (u89.1 13) j = (u72.1 13) j := by rw [hu90]; exact (fun (j9 : Nat) hj9 => (pk_un (by have := cl_z (a := (u72.1 0 15).toInt) rfl (by omega); omega)))
      have kg90 : ∀ j : Nat, (j : Int) < (u72.1 0 15).toInt → (u89.1 14) j = (u72.1 14) j := by rw [hu90]; exact (fun (j9 : Nat) hj9 => (Eq.trans (pk_un (by have := cl_z (a := (v.1 0 15).toInt) rfl (by omega); omega)) (pk_un (by have := cl_z (a := (u72.1 0 15).toInt) rfl (by omega); omega))))
      rw [← hu90] at hP hD
      refine vx_ret ?_
      exact W.vret hx hb hr (fun t ht9 hW => ⟨⟨u89, rfl, ⟨(FG.tr (FG.tr (FG.tr (FG.rf _) (FG.up fr70 (by decide) (by decide))) (FG.up fr71 (by decide) (by decide))) (FG.up fr90 (by decide) (by decide))), (show (v.1 0 47).toInt + 1 ≤ (u89.1 0 47).toInt ∧ (u89.1 0 47).toInt ≤ 1500 by omega), (show (v.1 0 49).toInt ≠ (v.1 0 47).toInt by omega), (show (v.1 0 12).toInt ≤ (u89.1 0 12).toInt ∧ (u89.1 0 12).toInt - 15 * (u89.1 0 47).toInt ≤ (v.1 0 12).toInt - 15 * (v.1 0 47).toInt + 5 by omega), (show (v.1 0 15).toInt ≤ (u89.1 0 15).toInt ∧ (u89.1 0 15).toInt - 10 * (u89.1 0 47).toInt ≤ (v.1 0 15).toInt - 10 * (v.1 0 47).toInt + 2 by omega), (show (v.1 0 43).toInt ≤ (u89.1 0 43).toInt ∧ (u89.1 0 43).toInt - 15 * (u89.1 0 47).toInt ≤ (v.1 0 43).toInt - 15 * (v.1 0 47).toInt by omega), (show (v.1 0 39).toInt ≤ (u89.1 0 39).toInt ∧ (u89.1 0 39).toInt - 1 * (u89.1 0 47).toInt ≤ (v.1 0 39).toInt - 1 * (v.1 0 47).toInt by omega), (show (u89.1 0 32).toInt = (v.1 0 32).toInt ∧ (u89.1 0 48).toInt = (v.1 0 48).toInt by omega), (show (v.1 0 33).toInt ≤ (u89.1 0 33).toInt ∧ (u89.1 0 33).toInt ≤ 500 by omega), (fun (j9 : Nat) hj9 => (Eq.trans (kc90 j9 (by omega)) (Eq.trans (kc71 j9 (by omega)) (kc70 j9 (by omega))))), (fun (j9 : Nat) hj9 => (Eq.trans (ko90 j9 (by omega)) (Eq.trans (ko71 j9 (by omega)) (ko70 j9 (by omega))))), (fun (j9 : Nat) hj9 => (Eq.trans (kg90 j9 (by omega)) (Eq.trans (kg71 j9 (by omega)) (kg70 j9 (by omega))))), (show NI 35 u89 from NI.fr (fl := [12, 15]) (al := [0, 11, 13, 14]) fr90 (by decide) n3571)⟩, by rw [ht9]; exact hP, hD⟩, hS.F ht9⟩) hS.2.2 dX13_both_121
