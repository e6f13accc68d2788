theorem dX13_named_0 : decode cX13_named 0 = .ok (.aload_n 0, 1) := by decide +kernel
theorem dX13_named_1 : decode cX13_named 1 = .ok (.getfield 137, 3) := by decide +kernel
theorem dX13_named_4 : decode cX13_named 4 = .ok (.istore_n 2, 1) := by decide +kernel
theorem dX13_named_5 : decode cX13_named 5 = .ok (.aload_n 0, 1) := by decide +kernel
theorem dX13_named_6 : decode cX13_named 6 = .ok (.aload_n 0, 1) := by decide +kernel
theorem dX13_named_7 : decode cX13_named 7 = .ok (.getfield 137, 3) := by decide +kernel
theorem dX13_named_10 : decode cX13_named 10 = .ok (.iconst 1, 1) := by decide +kernel
theorem dX13_named_11 : decode cX13_named 11 = .ok (.iadd, 1) := by decide +kernel
theorem dX13_named_12 : decode cX13_named 12 = .ok (.bipush 91, 2) := by decide +kernel
theorem dX13_named_14 : decode cX13_named 14 = .ok (.invokevirtual 144, 3) := by decide +kernel
theorem dX13_named_17 : decode cX13_named 17 = .ok (.istore_n 3, 1) := by decide +kernel
theorem dX13_named_18 : decode cX13_named 18 = .ok (.aload_n 0, 1) := by decide +kernel
theorem dX13_named_19 : decode cX13_named 19 = .ok (.iload_n 2, 1) := by decide +kernel
theorem dX13_named_20 : decode cX13_named 20 = .ok (.invokevirtual 246, 3) := by decide +kernel
theorem tw_98 : (.code yX13_local cX13_local 3 (some .int) : Cond) ∈ tw_W := tw_in (by decide +kernel) (by decide +kernel)
theorem tw_99 : ∀ w ∈ ([.methodLink RX13 246 yX13_local, .instanceMethod yX13_local, .selects RX13 yX13_local yX13_local, .initialized RX13] : List Cond), w ∈ tw_W := tw_all (by decide +kernel)
theorem dX13_named_23 : decode cX13_named 23 = .ok (.istore 4, 2) := by decide +kernel
theorem dX13_named_25 : decode cX13_named 25 = .ok (.iload 4, 2) := by decide +kernel
theorem dX13_named_27 : decode cX13_named 27 = .ok (.ifCond .ge 11, 3) := by decide +kernel
theorem dX13_named_38 : decode cX13_named 38 = .ok (.iconst (-1), 1) := by decide +kernel
theorem dX13_named_39 : decode cX13_named 39 = .ok (.istore 5, 2) := by decide +kernel
theorem dX13_named_41 : decode cX13_named 41 = .ok (.iload 4, 2) := by decide +kernel
theorem dX13_named_43 : decode cX13_named 43 = .ok (.ifCond .ge 8, 3) := by decide +kernel
theorem dX13_named_51 : decode cX13_named 51 = .ok (.iload_n 3, 1) := by decide +kernel
theorem dX13_named_52 : decode cX13_named 52 = .ok (.iload 4, 2) := by decide +kernel
theorem dX13_named_54 : decode cX13_named 54 = .ok (.ifCond .ge 17, 3) := by decide +kernel
theorem dX13_named_71 : decode cX13_named 71 = .ok (.iconst 0, 1) := by decide +kernel
theorem dX13_named_72 : decode cX13_named 72 = .ok (.if_icmp .eq 13, 3) := by decide +kernel
theorem dX13_named_85 : decode cX13_named 85 = .ok (.aload_n 0, 1) := by decide +kernel
theorem dX13_named_86 : decode cX13_named 86 = .ok (.invokevirtual 154, 3) := by decide +kernel
theorem dX13_named_89 : decode cX13_named 89 = .ok (.iload_n 3, 1) := by decide +kernel
theorem dX13_named_90 : decode cX13_named 90 = .ok (.ifCond .eq 9, 3) := by decide +kernel
theorem dX13_named_99 : decode cX13_named 99 = .ok (.iload_n 1, 1) := by decide +kernel
theorem dX13_named_100 : decode cX13_named 100 = .ok (.ifCond .eq 10, 3) := by decide +kernel
theorem dX13_named_110 : decode cX13_named 110 = .ok (.iconst (-1), 1) := by decide +kernel
theorem dX13_named_111 : decode cX13_named 111 = .ok (.istore 6, 2) := by decide +kernel
theorem dX13_named_113 : decode cX13_named 113 = .ok (.iload 6, 2) := by decide +kernel
theorem dX13_named_115 : decode cX13_named 115 = .ok (.iconst (-1), 1) := by decide +kernel
theorem dX13_named_116 : decode cX13_named 116 = .ok (.if_icmp .eq 15, 3) := by decide +kernel
theorem dX13_named_131 : decode cX13_named 131 = .ok (.iload_n 3, 1) := by decide +kernel
theorem dX13_named_132 : decode cX13_named 132 = .ok (.ifCond .eq 33, 3) := by decide +kernel
theorem dX13_named_165 : decode cX13_named 165 = .ok (.aload_n 0, 1) := by decide +kernel
theorem dX13_named_166 : decode cX13_named 166 = .ok (.iload 4, 2) := by decide +kernel
theorem dX13_named_168 : decode cX13_named 168 = .ok (.iload 5, 2) := by decide +kernel
theorem dX13_named_170 : decode cX13_named 170 = .ok (.invokevirtual 268, 3) := by decide +kernel
theorem dX13_named_173 : decode cX13_named 173 = .ok (.iload_n 1, 1) := by decide +kernel
theorem dX13_named_174 : decode cX13_named 174 = .ok (.ifCond .eq 8, 3) := by decide +kernel
theorem dX13_named_182 : decode cX13_named 182 = .ok (.return_, 1) := by decide +kernel
theorem dX13_named_75 : decode cX13_named 75 = .ok (.aload_n 0, 1) := by decide +kernel
theorem dX13_named_76 : decode cX13_named 76 = .ok (.iconst 3, 1) := by decide +kernel
theorem dX13_named_77 : decode cX13_named 77 = .ok (.aload_n 0, 1) := by decide +kernel
theorem dX13_named_78 : decode cX13_named 78 = .ok (.getfield 137, 3) := by decide +kernel
theorem dX13_named_81 : decode cX13_named 81 = .ok (.invokevirtual 140, 3) := by decide +kernel
theorem dX13_named_84 : decode cX13_named 84 = .ok (.athrow, 1) := by decide +kernel
theorem dX13_named_30 : decode cX13_named 30 = .ok (.aload_n 0, 1) := by decide +kernel
theorem dX13_named_31 : decode cX13_named 31 = .ok (.iload_n 2, 1) := by decide +kernel
theorem dX13_named_32 : decode cX13_named 32 = .ok (.invokevirtual 249, 3) := by decide +kernel
theorem tw_100 : (.code yX13_globalOf cX13_globalOf 3 (some .int) : Cond) ∈ tw_W := tw_in (by decide +kernel) (by decide +kernel)
theorem tw_101 : ∀ w ∈ ([.methodLink RX13 249 yX13_globalOf, .instanceMethod yX13_globalOf, .selects RX13 yX13_globalOf yX13_globalOf, .initialized RX13] : List Cond), w ∈ tw_W := tw_all (by decide +kernel)
theorem dX13_named_35 : decode cX13_named 35 = .ok (.goto 4, 3) := by decide +kernel
theorem dX13_named_46 : decode cX13_named 46 = .ok (.iload 5, 2) := by decide +kernel
theorem dX13_named_48 : decode cX13_named 48 = .ok (.ifCond .lt 27, 3) := by decide +kernel
theorem dX13_named_57 : decode cX13_named 57 = .ok (.aload_n 0, 1) := by decide +kernel
theorem dX13_named_58 : decode cX13_named 58 = .ok (.getfield 252, 3) := by decide +kernel
theorem tw_102 : (.fieldLink RX13 252 "PocketCompilerModel" "gRow" "[Z" : Cond) ∈ tw_W := tw_in (by decide +kernel) (by decide +kernel)
theorem dX13_named_61 : decode cX13_named 61 = .ok (.iload 5, 2) := by decide +kernel
theorem dX13_named_63 : decode cX13_named 63 = .ok (.baload, 1) := by decide +kernel
theorem dX13_named_64 : decode cX13_named 64 = .ok (.ifCond .eq 7, 3) := by decide +kernel
theorem dX13_named_67 : decode cX13_named 67 = .ok (.iconst 1, 1) := by decide +kernel
theorem dX13_named_68 : decode cX13_named 68 = .ok (.goto 4, 3) := by decide +kernel
theorem dX13_named_93 : decode cX13_named 93 = .ok (.aload_n 0, 1) := by decide +kernel
theorem dX13_named_94 : decode cX13_named 94 = .ok (.iload 5, 2) := by decide +kernel
theorem dX13_named_96 : decode cX13_named 96 = .ok (.invokevirtual 255, 3) := by decide +kernel
theorem tw_103 : (.code yX13_index cX13_index 3 none : Cond) ∈ tw_W := tw_in (by decide +kernel) (by decide +kernel)
theorem tw_104 : ∀ w ∈ ([.methodLink RX13 255 yX13_index, .instanceMethod yX13_index, .selects RX13 yX13_index yX13_index, .initialized RX13] : List Cond), w ∈ tw_W := tw_all (by decide +kernel)
theorem dX13_named_135 : decode cX13_named 135 = .ok (.aload_n 0, 1) := by decide +kernel
theorem dX13_named_136 : decode cX13_named 136 = .ok (.aload_n 0, 1) := by decide +kernel
theorem dX13_named_137 : decode cX13_named 137 = .ok (.bipush 10, 2) := by decide +kernel
theorem dX13_named_139 : decode cX13_named 139 = .ok (.iconst 0, 1) := by decide +kernel
theorem dX13_named_140 : decode cX13_named 140 = .ok (.bipush 10, 2) := by decide +kernel
theorem dX13_named_142 : decode cX13_named 142 = .ok (.invokestatic 265, 3) := by decide +kernel
theorem dX13_named_145 : decode cX13_named 145 = .ok (.invokevirtual 111, 3) := by decide +kernel
theorem dX13_named_148 : decode cX13_named 148 = .ok (.iload 5, 2) := by decide +kernel
theorem dX13_named_150 : decode cX13_named 150 = .ok (.iconst 1, 1) := by decide +kernel
theorem dX13_named_151 : decode cX13_named 151 = .ok (.invokevirtual 216, 3) := by decide +kernel
theorem dX13_named_154 : decode cX13_named 154 = .ok (.aload_n 0, 1) := by decide +kernel
theorem dX13_named_155 : decode cX13_named 155 = .ok (.bipush 6, 2) := by decide +kernel
theorem dX13_named_157 : decode cX13_named 157 = .ok (.iconst 0, 1) := by decide +kernel
theorem dX13_named_158 : decode cX13_named 158 = .ok (.invokevirtual 210, 3) := by decide +kernel
theorem dX13_named_161 : decode cX13_named 161 = .ok (.pop, 1) := by decide +kernel
theorem dX13_named_162 : decode cX13_named 162 = .ok (.goto 11, 3) := by decide +kernel
theorem om_3eca9b17a5 {x0 x1 : Int} (h0 : 0 ≤ x0 ∧ x0 ≤ 15 * x1 + 2) : -2147483648 ≤ (x1) + (1 : Int) := by omega
theorem om_6662b95370 {x0 x1 x2 : Int} (h0 : 0 ≤ x0 ∧ x0 ≤ 1500) (h1 : 0 ≤ x1 ∧ x1 ≤ 15 * x0 + 0) (h2 : x2 = (x0) + (1 : Int)) : 0 ≤ x2 ∧ x2 < 4002 := by omega
theorem om_bf396309a0 {n0 : Nat} : 0 + 1 ≤ 40 * n0 + 8 := by omega
theorem om_6567089ecb {n0 : Nat} : 8 + (3 + 11) + 0 ≤ 28 * (40 * n0 + 8) := by omega
theorem om_d0702dcce3 {x0 x1 : Int} (h0 : 0 ≤ x0 ∧ x0 ≤ 1500) (h1 : 0 ≤ x1 ∧ x1 ≤ 15 * x0 + 0) : 0 ≤ x0 ∧ x0 < 4002 := by omega
theorem om_6bb9f0972f {n0 : Nat} : 1 + 1 ≤ 40 * n0 + 8 := by omega
theorem om_91e91d0f69 {n0 : Nat} : 8 + (3 + 11) + 25 ≤ 28 * (40 * n0 + 8) := by omega
theorem om_14c5e94f1d {n0 : Nat} : 8 + (1 + 11) + 22 ≤ 28 * (40 * n0 + 8) := by omega
theorem om_c34fc8f08b {n0 : Nat} : 2 + 1 ≤ 40 * n0 + 8 := by omega
theorem om_b712eaf788 {n0 : Nat} : 8 + (3 + 11) + 46 ≤ 28 * (40 * n0 + 8) := by omega
theorem om_211d81bad8 {x0 x1 x2 x3 : Int} (h0 : 0 ≤ x0 ∧ x1 + x0 ≤ x2) (h1 : x3 = x2) : (1 : Int) + ((0 : Int)) ≤ 1 + x3 - x1 - x0 := by omega
theorem om_d5149004fa {x0 x1 x2 x3 : Int} (h0 : x0 = x1) (h1 : x2 = x3) : x0 = x1 ∧ x2 = x3 := by omega
theorem om_bc6fc57d17 {x0 x1 : Int} (h0 : 0 ≤ x0 ∧ x0 ≤ 500) (h1 : x1 = x0) : x0 ≤ x1 ∧ x1 ≤ 500 := by omega
theorem om_b66186cd65 {x0 : Int} (h0 : 0 ≤ x0 ∧ x0 ≤ 1) (h1 : x0 = (0 : Int)) (h2 : x0 ≠ (0 : Int)) : False := by omega
theorem om_5829cebf50 {x0 : Int} (h0 : (0 : Int) ≤ x0) (h1 : x0 < (0 : Int)) : False := by omega
theorem om_228557f1cf {x0 : Int} (h0 : x0 < (0 : Int)) (h1 : (0 : Int) ≤ x0) : False := by omega
theorem om_9d476c3a78 {x0 : Int} (h0 : x0 = (1 : Int)) (h1 : x0 = (0 : Int)) : False := by omega
theorem om_5a17daf06f {x0 x1 : Int} (h0 : x0 < x1) (h1 : (0 : Int) ≤ x0) : 0 ≤ x0 ∧ x0 < x1 := by omega
theorem om_811f6ec76a {n0 : Nat} : (40 * n0 + 6) + 1 ≤ 40 * n0 + 8 := by omega
theorem om_caa4db15ea {n0 : Nat} : 8 + (3 + 11) + 28 * (40 * n0 + 6) ≤ 28 * (40 * n0 + 8) := by omega
theorem om_47f5cdee41 {n0 : Nat} : 8 + (3 + 11) + 24 ≤ 28 * (40 * n0 + 8) := by omega
theorem om_6b2d8a3fe9 {n0 : Nat} : 8 + (2 + 11) + 0 ≤ 28 * (40 * n0 + 8) := by omega
theorem om_070d94274c {n0 : Nat} : 8 + (4 + 11) + 0 ≤ 28 * (40 * n0 + 8) := by omega
set_option maxHeartbeats 16000000 in
set_option maxRecDepth 100000 in
theorem c_m_named0 (l : Launch) (n : Nat) (ihE : ∀ m, n = m + 1 → Cx_expression l m) (dC : Nat → ClassId) (dI : Nat → Nat → Nat) (cI cB cZ cJ cR : ClassId) (tb : Nat → Nat) (sz : Nat) (ad : Nat → Nat) (N : Nat) (v : MS)  (zn : 40 ≤ (v.1 0 48).toInt + (n : Int)) (zt : 0 ≤ (v.1 0 47).toInt ∧ (v.1 0 47).toInt ≤ 1500) (zop : 0 ≤ (v.1 0 48).toInt ∧ (v.1 0 48).toInt ≤ 40) (zkn : 0 ≤ (v.1 0 30).toInt ∧ (v.1 0 30).toInt ≤ 500) (zhi : 0 ≤ (v.1 0 33).toInt ∧ (v.1 0 33).toInt ≤ 500) (zs : 0 ≤ (v.1 0 32).toInt ∧ (v.1 0 30).toInt + (v.1 0 32).toInt ≤ (v.1 0 33).toInt) (zws : 0 ≤ (v.1 0 12).toInt ∧ (v.1 0 12).toInt ≤ 15 * (v.1 0 47).toInt + 2) (zos : 0 ≤ (v.1 0 15).toInt ∧ (v.1 0 15).toInt ≤ 10 * (v.1 0 47).toInt + 0) (zfs : 0 ≤ (v.1 0 43).toInt ∧ (v.1 0 43).toInt ≤ 15 * (v.1 0 47).toInt + 0) (zcs : 0 ≤ (v.1 0 39).toInt ∧ (v.1 0 39).toInt ≤ 1 * (v.1 0 47).toInt + 0) (zgl : 0 ≤ (v.1 0 27).toInt ∧ (v.1 0 27).toInt ≤ 60) (hT : TI v) (a29 : AR 29 0 1500 v) (a23 : AR 23 0 1500 v) (a35 : AR 35 0 1500 v) (a37 : AR 37 0 23999 v) (a38 : AR 38 0 15999 v) (a40 : AR 40 0 23999 v) (fx : FX v) (gf : GF v) : vx_Met l yX13_named (Cond.code yX13_named cX13_named 7 none :: tw_W) ({ frames := 40 * n + 8, cells := 0, slots := 0, locals := 28 * (40 * n + 8) }) (pc_ (dC, dI) (tyS cI cB cZ cJ cR) tb (mW ad N cI cZ cJ v) sz [.ref (ad 0), .int 0]) (qv_ (dC, dI) (mW ad N cI cZ cJ v) sz (fun (u : MS) => FG [12, 15, 32, 33, 39, 43, 44, 45, 47, 48, 49, 50, 51] [0, 11, 13, 14, 35, 36, 37, 38, 40, 41, 42] v u ∧ ((v.1 0 47).toInt + 1 ≤ (u.1 0 47).toInt ∧ (u.1 0 47).toInt ≤ 1500) ∧ ((v.1 0 49).toInt ≠ (v.1 0 47).toInt) ∧ ((v.1 0 12).toInt ≤ (u.1 0 12).toInt ∧ (u.1 0 12).toInt - 15 * (u.1 0 47).toInt ≤ (v.1 0 12).toInt - 15 * (v.1 0 47).toInt) ∧ ((v.1 0 15).toInt ≤ (u.1 0 15).toInt ∧ (u.1 0 15).toInt - 10 * (u.1 0 47).toInt ≤ (v.1 0 15).toInt - 10 * (v.1 0 47).toInt) ∧ ((v.1 0 43).toInt ≤ (u.1 0 43).toInt ∧ (u.1 0 43).toInt - 15 * (u.1 0 47).toInt ≤ (v.1 0 43).toInt - 15 * (v.1 0 47).toInt) ∧ ((v.1 0 39).toInt ≤ (u.1 0 39).toInt ∧ (u.1 0 39).toInt - 1 * (u.1 0 47).toInt ≤ (v.1 0 39).toInt - 1 * (v.1 0 47).toInt) ∧ ((u.1 0 32).toInt = (v.1 0 32).toInt ∧ (u.1 0 48).toInt = (v.1 0 48).toInt) ∧ ((v.1 0 33).toInt ≤ (u.1 0 33).toInt ∧ (u.1 0 33).toInt ≤ 500) ∧ (∀ j : Nat, (j : Int) < (v.1 0 12).toInt → (u.1 11) j = (v.1 11) j) ∧ (∀ j : Nat, (j : Int) < (v.1 0 15).toInt → (u.1 13) j = (v.1 13) j) ∧ (∀ j : Nat, (j : Int) < (v.1 0 15).toInt → (u.1 14) j = (v.1 14) j) ∧ (∀ j : Nat, (j : Int) < (v.1 0 39).toInt → (u.1 36) j = (v.1 36) j) ∧ (∀ j : Nat, (j : Int) < (v.1 0 39).toInt → (u.1 38) j = (v.1 38) j) ∧ (AR 35 0 1500 u) ∧ (AR 37 0 23999 u) ∧ (AR 38 0 15999 u) ∧ (AR 40 0 23999 u) ∧ (FX u) ∧ (IV v → IV u) ∧ (SGE (v.1 0 30).toInt (v.1 0 28).toInt (v.1 0 27).toInt (u.1 13) (u.1 14) (u.1 36) (u.1 38) (v.1 0 15).toNatClampNeg (u.1 0 15).toNatClampNeg (v.1 0 39).toNatClampNeg (u.1 0 39).toNatClampNeg [] [false] (1 + (u.1 0 33).toInt - (v.1 0 30).toInt - (v.1 0 32).toInt) [])) (fun (u : MS) => (mW ad N cI cZ cJ u))) (qxm (dC, dI) (mW ad N cI cZ cJ v) sz (fun (u : MS) => (mW ad N cI cZ cJ u)) (fun (u : MS) => Fr v u ∧ (IV v → IV u))) 0 0 (va_A (mW ad N cI cZ cJ v) sz) := by
  refine vx_ofW (cc := cX13_named) (maxL := 7) (ret := none) (by decide) rfl ?_
  intro p e s m args below meth c s₁ B hml hnt hv
  obtain ⟨rfl, hsz, hP, hKK, hD0, hFx⟩ := hv
  have hK := hKK.1
  have hx := B.exec
  have hb := B.bytes
  have hr := B.returns
  have ht : ∀ w ∈ tw_W, w.before _ s = true := fun w h => atoms_spec (ws := Cond.code yX13_named cX13_named 7 none :: tw_W) B.pre w (List.mem_cons_of_mem _ h)
  have hown : s.vm.findClass RX13 = some m.cls := findClass_of_methodNamed B.named
  have hlocks := B.notSynchronized
  subst hsz
  unfold qv_ qxm
  have hD := hD0.self (sz := s.heap.size)
  generalize hAe : va_A (mW ad N cI cZ cJ v) s.heap.size = A at hD hFx ⊢
  have hA : ∀ q : Nat, s.heap.size ≤ q → A q := fun q h => by rw [← hAe]; exact Or.inr h
  have hS : va_S A s.heap s.heap [] := va_S.rf
  have hl := lv_entry ([.ref (ad 0), .int 0]) (n := 7) (Nat.le_of_ble_eq_true rfl)
  rw [lg_entry_eq]
  generalize (lg_sl ([.ref (ad 0), .int 0]) ++ List.replicate (7 - (lg_sl ([.ref (ad 0), .int 0])).length) Slot.unset).toArray = ls at hl ⊢
  have hl : lv_has ls 7 [(0, .ref (ad 0)), (1, .int 0)] := hl
  have sg1 : SGE (v.1 0 30).toInt (v.1 0 28).toInt (v.1 0 27).toInt (v.1 13) (v.1 14) (v.1 36) (v.1 38) (v.1 0 15).toNatClampNeg (v.1 0 15).toNatClampNeg (v.1 0 39).toNatClampNeg (v.1 0 39).toNatClampNeg [] [] (1 + (v.1 0 33).toInt - (v.1 0 30).toInt - (v.1 0 32).toInt) [] := SGE.nil rfl (lenle (0 : Int) (by decide) (om_89d2241185 zs))
  refine lv_aload_n hx hb dX13_named_0 rfl (lv_at hl 0 rfl) ?_
  refine va_get (D := (dC, dI)) (ci := 16) (fs := mF ad v) (v := .int (v.1 0 47)) (C := RX13) (T := TX13) (N := 124) hx hb ht itX13 hown hK hP 0 rfl rfl 47 (by decide) (ht _ tw_24) (fun _ h9 => h9) rfl dX13_named_1 ?_
  refine lv_istore_n (lv' := [(2, .int (v.1 0 47)), (0, .ref (ad 0)), (1, .int 0)]) hx hb dX13_named_4 rfl hl (by decide) rfl (fun ls hl => ?_)
  refine lv_aload_n hx hb dX13_named_5 rfl (lv_at hl 1 rfl) ?_
  refine lv_aload_n hx hb dX13_named_6 rfl (lv_at hl 1 rfl) ?_
  refine va_get (D := (dC, dI)) (ci := 16) (fs := mF ad v) (v := .int (v.1 0 47)) (C := RX13) (T := TX13) (N := 124) hx hb ht itX13 hown hK hP 0 rfl rfl 47 (by decide) (ht _ tw_24) (fun _ h9 => h9) rfl dX13_named_7 ?_
  refine lv_iconst (v := 1) hx hb dX13_named_10 (by decide) ?_
  refine lv_iadd hx hb dX13_named_11 ?_
  have z2 : ((v.1 0 47) + (1 : Int32)).toInt = ((v.1 0 47).toInt) + (1 : Int) := add_z rfl (show (1 : Int32).toInt = (1 : Int) by decide) (om_3eca9b17a5 zws) (om_27eb55d06c zt)
  refine lv_bipush (v := 91) hx hb dX13_named_12 (by decide) ?_
  refine cu_i (rn_V (n := 2) (As := [.int ((v.1 0 47) + (1 : Int32)), .int 91]) (rest := []) hx hb hml hown ht hKK hFx hP hD hS hA (c_m_isSign l dC dI cI cB cZ cJ cR tb s.heap.size ad N v ((v.1 0 47) + (1 : Int32)) (91 : Int32) (show 0 ≤ ((v.1 0 47) + (1 : Int32)).toInt ∧ ((v.1 0 47) + (1 : Int32)).toInt < 4002 from (om_6662b95370 zt zfs z2))) tw_28 tw_29 (by decide +kernel) rfl rfl ⟨show 0 + 1 ≤ 40 * n + 8 from om_bf396309a0, show 8 + (3 + 11) + 0 ≤ 28 * (40 * n + 8) from om_6567089ecb⟩ (List.range (mW ad N cI cZ cJ v).length) (rg_map _) (mW_nd _ _ _ _ _ _) rfl rfl rfl rfl hl.1 rfl (Nat.le_of_ble_eq_true rfl) dX13_named_14 ⟨Nat.le_of_ble_eq_true rfl, Nat.le_of_ble_eq_true rfl⟩) hP hD hS hA (fun r5 u4 H locs hw3 hP hD hS => ?_)
  obtain ⟨rfl, b3, e3⟩ := hw3
  refine W.widen (k := 0) (n := 0) (Nat.le_refl _) (Nat.le_refl _) ?_
  refine lv_istore_n (lv' := [(3, .int r5), (2, .int (v.1 0 47)), (0, .ref (ad 0)), (1, .int 0)]) hx hb dX13_named_17 rfl hl (by decide) rfl (fun ls hl => ?_)
  refine lv_aload_n hx hb dX13_named_18 rfl (lv_at hl 2 rfl) ?_
  refine lv_iload_n hx hb dX13_named_19 rfl (lv_at hl 1 rfl) ?_
  refine cu_i (rn_V (n := 1) (As := [.int (v.1 0 47)]) (rest := []) hx hb hml hown ht hKK hFx hP hD hS hA (c_m_local l dC dI cI cB cZ cJ cR tb H.size ad N v (v.1 0 47) (show 0 ≤ (v.1 0 47).toInt ∧ (v.1 0 47).toInt < 4002 from (om_d0702dcce3 zt zfs)) (show 0 ≤ ((v.1 0 30)).toInt ∧ ((v.1 0 30)).toInt ≤ 501 from (by omega)) (show TI v from FG.ti (fl := pfl) (al := pal) (FG.rf _) (by decide) (by decide) hT) (show AR 29 0 1500 v from a29)) tw_98 tw_99 (by decide +kernel) rfl rfl ⟨show 1 + 1 ≤ 40 * n + 8 from om_6bb9f0972f, show 8 + (3 + 11) + 25 ≤ 28 * (40 * n + 8) from om_91e91d0f69⟩ (List.range (mW ad N cI cZ cJ v).length) (rg_map _) (mW_nd _ _ _ _ _ _) rfl rfl rfl rfl hl.1 rfl (Nat.le_of_ble_eq_true rfl) dX13_named_20 ⟨Nat.le_of_ble_eq_true rfl, Nat.le_of_ble_eq_true rfl⟩) hP hD hS hA (fun r8 u7 H locs hw6 hP hD hS => ?_)
  obtain ⟨rfl, a6, b6⟩ := hw6
  refine W.widen (k := 0) (n := 0) (Nat.le_refl _) (Nat.le_refl _) ?_
  refine lv_istore (lv' := [(4, .int r8), (3, .int r5), (2, .int (v.1 0 47)), (0, .ref (ad 0)), (1, .int 0)]) hx hb dX13_named_23 hl (by decide) rfl (fun ls hl => ?_)
  refine lv_iload hx hb dX13_named_25 (lv_at hl 0 rfl) ?_
  refine lv_if_ge (tgt := 38) hx hb dX13_named_27 (by decide) (fun h9 => ?_) (fun h9 => ?_)
  · have z10 : (0 : Int) ≤ r8.toInt := le_z (show (0 : Int32).toInt = (0 : Int) by decide) rfl h9
    refine lv_iconst (v := -1) hx hb dX13_named_38 (by decide) ?_
    refine lv_istore (lv' := [(5, .int (-1)), (4, .int r8), (3, .int r5), (2, .int (v.1 0 47)), (0, .ref (ad 0)), (1, .int 0)]) hx hb dX13_named_39 hl (by decide) rfl (fun ls hl => ?_)
    refine lv_iload hx hb dX13_named_41 (lv_at hl 1 rfl) ?_
    refine lv_if_ge (tgt := 51) hx hb dX13_named_43 (by decide) (fun h11 => ?_) (fun h11 => ?_)
    · have z12 : (0 : Int) ≤ r8.toInt := le_z (show (0 : Int32).toInt = (0 : Int) by decide) rfl h11
      refine lv_iload_n hx hb dX13_named_51 rfl (lv_at hl 2 rfl) ?_
      refine lv_iload hx hb dX13_named_52 (lv_at hl 1 rfl) ?_
      refine lv_if_ge (tgt := 71) hx hb dX13_named_54 (by decide) (fun h13 => ?_) (fun h13 => ?_)
      · have z14 : (0 : Int) ≤ r8.toInt := le_z (show (0 : Int32).toInt = (0 : Int) by decide) rfl h13
        refine lv_iconst (v := 0) hx hb dX13_named_71 (by decide) ?_
        refine lv_icmp_eq (tgt := 85) hx hb dX13_named_72 (by decide) (fun h15 => ?_) (fun h15 => ?_)
        · have z16 : r5.toInt = (0 : Int) := eq_z rfl (show (0 : Int32).toInt = (0 : Int) by decide) h15
          refine lv_aload_n hx hb dX13_named_85 rfl (lv_at hl 4 rfl) ?_
          refine cux_v (rx_V (n := 0) (As := []) (rest := []) hx hb hml hown ht hKK hFx hP hD hS hA (c_m_take l dC dI cI cB cZ cJ cR tb H.size ad N v  (show 0 ≤ ((v.1 0 47)).toInt ∧ ((v.1 0 47)).toInt ≤ 1500 from (by omega))) tw_32 tw_33 (by decide +kernel) rfl rfl ⟨show 1 + 1 ≤ 40 * n + 8 from om_6bb9f0972f, show 8 + (1 + 11) + 22 ≤ 28 * (40 * n + 8) from om_14c5e94f1d⟩ (List.range (mW ad N cI cZ cJ v).length) (rg_map _) (mW_nd _ _ _ _ _ _) rfl rfl rfl rfl hl.1 rfl (Nat.le_of_ble_eq_true rfl) dX13_named_86 ⟨Nat.le_of_ble_eq_true rfl, Nat.le_of_ble_eq_true rfl⟩) hP hD hS hA (fun u9 ce9 q9 H locs hx9 hP hD hS hc9 hv9 hf9 => ?_) (fun u18 H locs hw17 hP hD hS => ?_)
          · exact vx_out (fun x h9 => (hnt x h9).elim) hlocks hc9 hv9 hf9 (fun t9 ht9 hv8 => ⟨u9, ⟨FG.tr (FG.rf _) hx9.1, fun hiv => hx9.2 hiv⟩, ⟨rfl, by rw [ht9]; exact hP, hD⟩, hS.F ht9⟩) hS.2.2 (Nat.le_refl _) (Nat.le_refl _)
          obtain ⟨rfl, a17, b17⟩ := hw17
          have hP : va_P (dC, dI) vwCl (mW ad N cI cZ cJ (wA v 0 47 (((v.1 0 47)) + (1 : Int32)))) H := hP
          have hD : va_D A (mW ad N cI cZ cJ (wA v 0 47 (((v.1 0 47)) + (1 : Int32)))) := hD
          refine W.widen (k := 0) (n := 0) (Nat.le_refl _) (Nat.le_refl _) ?_
          refine lv_iload_n hx hb dX13_named_89 rfl (lv_at hl 2 rfl) ?_
          refine lv_if_eq (tgt := 99) hx hb dX13_named_90 (by decide) (fun h20 => ?_) (fun h20 => ?_)
          · have z21 : r5.toInt = (0 : Int) := eq_z rfl (show (0 : Int32).toInt = (0 : Int) by decide) h20
            refine lv_iload_n hx hb dX13_named_99 rfl (lv_at hl 5 rfl) ?_
            refine lv_if_eq (tgt := 110) hx hb dX13_named_100 (by decide) (fun _ => ?_) (fun k22 => absurd k22 (by decide))
            refine lv_iconst (v := -1) hx hb dX13_named_110 (by decide) ?_
            refine lv_istore (lv' := [(6, .int (-1)), (5, .int (-1)), (4, .int r8), (3, .int r5), (2, .int (v.1 0 47)), (0, .ref (ad 0)), (1, .int 0)]) hx hb dX13_named_111 hl (by decide) rfl (fun ls hl => ?_)
            refine lv_iload hx hb dX13_named_113 (lv_at hl 0 rfl) ?_
            refine lv_iconst (v := -1) hx hb dX13_named_115 (by decide) ?_
            refine lv_icmp_eq (tgt := 131) hx hb dX13_named_116 (by decide) (fun _ => ?_) (fun k23 => absurd k23 (by decide))
            refine lv_iload_n hx hb dX13_named_131 rfl (lv_at hl 3 rfl) ?_
            refine lv_if_eq (tgt := 165) hx hb dX13_named_132 (by decide) (fun h24 => ?_) (fun h24 => ?_)
            · have z25 : r5.toInt = (0 : Int) := eq_z rfl (show (0 : Int32).toInt = (0 : Int) by decide) h24
              refine lv_aload_n hx hb dX13_named_165 rfl (lv_at hl 5 rfl) ?_
              refine lv_iload hx hb dX13_named_166 (lv_at hl 2 rfl) ?_
              refine lv_iload hx hb dX13_named_168 (lv_at hl 1 rfl) ?_
              refine cu_v (rn_V (n := 2) (As := [.int r8, .int (-1)]) (rest := []) hx hb hml hown ht hKK hFx hP hD hS hA (c_m_fetch l dC dI cI cB cZ cJ cR tb H.size ad N (wA v 0 47 (((v.1 0 47)) + (1 : Int32))) r8 (-1 : Int32) (show 0 ≤ ((v.1 0 12)).toInt ∧ ((v.1 0 12)).toInt ≤ 23980 from (by omega)) (show 0 ≤ ((v.1 0 15)).toInt ∧ ((v.1 0 15)).toInt ≤ 15980 from (by omega)) (show 0 ≤ ((v.1 0 43)).toInt ∧ ((v.1 0 43)).toInt ≤ 23980 from (by omega)) (show (0 ≤ r8.toInt ∨ (0 ≤ (-1 : Int) ∧ (-1 : Int) < ((v.1 0 27)).toInt)) ∧ r8.toInt < ((v.1 0 30)).toInt ∧ ((v.1 0 27)).toInt ≤ 60 from (by omega)) (show AR 40 0 23999 (wA v 0 47 (((v.1 0 47)) + (1 : Int32))) from (AR.o a40 (by decide))) (show FX (wA v 0 47 (((v.1 0 47)) + (1 : Int32))) from (FX.o fx (by decide) (by decide))) (show GF (wA v 0 47 (((v.1 0 47)) + (1 : Int32))) from (GF.of gf (by decide)))) tw_92 tw_93 (by decide +kernel) rfl rfl ⟨show 2 + 1 ≤ 40 * n + 8 from om_c34fc8f08b, show 8 + (3 + 11) + 46 ≤ 28 * (40 * n + 8) from om_b712eaf788⟩ (List.range (mW ad N cI cZ cJ (wA v 0 47 (((v.1 0 47)) + (1 : Int32)))).length) (rg_map _) (mW_nd _ _ _ _ _ _) rfl rfl rfl rfl hl.1 rfl (Nat.le_of_ble_eq_true rfl) dX13_named_170 ⟨Nat.le_of_ble_eq_true rfl, Nat.le_of_ble_eq_true rfl⟩) hP hD hS hA (fun u27 H locs hw26 hP hD hS => ?_)
              obtain ⟨fr26, pw26, po26, pf26, kc26, ko26, kg26, a4026, fx26, iv26, sg26⟩ := hw26
              have pw26 : ((v.1 0 12)).toInt ≤ (u27.1 0 12).toInt ∧ (u27.1 0 12).toInt ≤ ((v.1 0 12)).toInt + 2 := pw26
              have po26 : (u27.1 0 15).toInt = ((v.1 0 15)).toInt + 1 := po26
              have pf26 : ((v.1 0 43)).toInt ≤ (u27.1 0 43).toInt ∧ (u27.1 0 43).toInt ≤ ((v.1 0 43)).toInt + 2 := pf26
              have kc26 : ∀ j : Nat, (j : Int) < ((v.1 0 12)).toInt → (u27.1 11) j = (v.1 11) j := kc26
              have ko26 : ∀ j : Nat, (j : Int) < ((v.1 0 15)).toInt → (u27.1 13) j = (v.1 13) j := ko26
              have kg26 : ∀ j : Nat, (j : Int) < ((v.1 0 15)).toInt → (u27.1 14) j = (v.1 14) j := kg26
              have a4026 : AR 40 0 23999 u27 := a4026
              have fx26 : FX u27 := fx26
              have iv26 : IV (wA v 0 47 (((v.1 0 47)) + (1 : Int32))) → IV u27 := iv26
              have sg26 : SGE ((v.1 0 30)).toInt ((v.1 0 28)).toInt ((v.1 0 27)).toInt (u27.1 13) (u27.1 14) (u27.1 36) (u27.1 38) ((v.1 0 15)).toNatClampNeg (u27.1 0 15).toNatClampNeg ((v.1 0 39)).toNatClampNeg (u27.1 0 39).toNatClampNeg [] [false] ((1 : Int)) [] := sg26
              have q29 : (u27.1 0 33).toInt = (v.1 0 33).toInt := congrArg Int32.toInt ((fr26.2.1 33 (by decide)).trans (show (wA v 0 47 (((v.1 0 47)) + (1 : Int32))).1 0 33 = (v.1 0 33) by rfl))
              have sg30 : SGE (v.1 0 30).toInt (v.1 0 28).toInt (v.1 0 27).toInt (u27.1 13) (u27.1 14) (u27.1 36) (u27.1 38) (v.1 0 15).toNatClampNeg (u27.1 0 15).toNatClampNeg (v.1 0 39).toNatClampNeg (u27.1 0 39).toNatClampNeg [] [false] (1 + (u27.1 0 33).toInt - (v.1 0 30).toInt - (v.1 0 32).toInt) [] := SGE.cat [] (SGE.to sg1 (kzN ko26) (kzN kg26) (fun j9 _ _ => congrFun (fr26.2.2 36 (by decide)) j9) (fun j9 _ _ => congrFun (fr26.2.2 38 (by decide)) j9) rfl rfl (Int.le_refl _)) (SGE.par sg26 rfl rfl rfl) rfl rfl (show 1 + (v.1 0 33).toInt - (v.1 0 30).toInt - (v.1 0 32).toInt ≤ 1 + (u27.1 0 33).toInt - (v.1 0 30).toInt - (v.1 0 32).toInt from (om_675629bfc5 q29)) (cat_le (by decide) (om_211d81bad8 zs q29))
              refine W.widen (k := 0) (n := 0) (Nat.le_refl _) (Nat.le_refl _) ?_
              refine lv_iload_n hx hb dX13_named_173 rfl (lv_at hl 6 rfl) ?_
              refine lv_if_eq (tgt := 182) hx hb dX13_named_174 (by decide) (fun _ => ?_) (fun k31 => absurd k31 (by decide))
              have q32 : (u27.1 0 32).toInt = (v.1 0 32).toInt := congrArg Int32.toInt ((fr26.2.1 32 (by decide)).trans (show (wA v 0 47 (((v.1 0 47)) + (1 : Int32))).1 0 32 = (v.1 0 32) by rfl))
              have q33 : (u27.1 0 48).toInt = (v.1 0 48).toInt := congrArg Int32.toInt ((fr26.2.1 48 (by decide)).trans (show (wA v 0 47 (((v.1 0 47)) + (1 : Int32))).1 0 48 = (v.1 0 48) by rfl))
              refine vx_ret ?_
              exact W.vret hx hb hr (fun t ht9 hW => ⟨⟨u27, rfl, ⟨(FG.tr (FG.f (FG.rf _) (((v.1 0 47)) + (1 : Int32)) (by decide)) (FG.up fr26 (by decide) (by decide))), (show (v.1 0 47).toInt + 1 ≤ (u27.1 0 47).toInt ∧ (u27.1 0 47).toInt ≤ 1500 from (by omega)), (show (v.1 0 49).toInt ≠ (v.1 0 47).toInt from (by omega)), (show (v.1 0 12).toInt ≤ (u27.1 0 12).toInt ∧ (u27.1 0 12).toInt - 15 * (u27.1 0 47).toInt ≤ (v.1 0 12).toInt - 15 * (v.1 0 47).toInt from (by omega)), (show (v.1 0 15).toInt ≤ (u27.1 0 15).toInt ∧ (u27.1 0 15).toInt - 10 * (u27.1 0 47).toInt ≤ (v.1 0 15).toInt - 10 * (v.1 0 47).toInt from (by omega)), (show (v.1 0 43).toInt ≤ (u27.1 0 43).toInt ∧ (u27.1 0 43).toInt - 15 * (u27.1 0 47).toInt ≤ (v.1 0 43).toInt - 15 * (v.1 0 47).toInt from (by omega)), (show (v.1 0 39).toInt ≤ (u27.1 0 39).toInt ∧ (u27.1 0 39).toInt - 1 * (u27.1 0 47).toInt ≤ (v.1 0 39).toInt - 1 * (v.1 0 47).toInt from (by omega)), (show (u27.1 0 32).toInt = (v.1 0 32).toInt ∧ (u27.1 0 48).toInt = (v.1 0 48).toInt from (om_d5149004fa q32 q33)), (show (v.1 0 33).toInt ≤ (u27.1 0 33).toInt ∧ (u27.1 0 33).toInt ≤ 500 from (om_bc6fc57d17 zhi q29)), (fun (j9 : Nat) hj9 => (kc26 j9 (om_4fe904e9bf hj9))), (fun (j9 : Nat) hj9 => (ko26 j9 (om_4fe904e9bf hj9))), (fun (j9 : Nat) hj9 => (kg26 j9 (om_4fe904e9bf hj9))), (fun (j9 : Nat) hj9 => (congrFun (fr26.2.2 36 (by decide)) j9)), (fun (j9 : Nat) hj9 => (congrFun (fr26.2.2 38 (by decide)) j9)), (show AR 35 0 1500 u27 from AR.fr (fl := [12, 15, 43]) (al := [0, 11, 13, 14, 40, 41, 42]) fr26 (by decide) (AR.o a35 (by decide))), (show AR 37 0 23999 u27 from AR.fr (fl := [12, 15, 43]) (al := [0, 11, 13, 14, 40, 41, 42]) fr26 (by decide) (AR.o a37 (by decide))), (show AR 38 0 15999 u27 from AR.fr (fl := [12, 15, 43]) (al := [0, 11, 13, 14, 40, 41, 42]) fr26 (by decide) (AR.o a38 (by decide))), a4026, fx26, (fun hiv => (iv26 (IV.o hiv (by decide)))), (SGE.mono (SGE.setB sg30 rfl) (show 1 + (u27.1 0 33).toInt - (v.1 0 30).toInt - (v.1 0 32).toInt ≤ 1 + (u27.1 0 33).toInt - (v.1 0 30).toInt - (v.1 0 32).toInt from om_e96b194f74))⟩, by rw [ht9]; exact hP, hD⟩, hS.F ht9⟩) hS.2.2 dX13_named_182
            · have z34 : r5.toInt ≠ (0 : Int) := ne_z rfl (show (0 : Int32).toInt = (0 : Int) by decide) h24
              exact False.elim (om_b66186cd65 e3 z16 z34)
          · have z35 : r5.toInt ≠ (0 : Int) := ne_z rfl (show (0 : Int32).toInt = (0 : Int) by decide) h20
            exact False.elim (om_b66186cd65 e3 z16 z35)
        · have z36 : r5.toInt ≠ (0 : Int) := ne_z rfl (show (0 : Int32).toInt = (0 : Int) by decide) h15
          refine lv_aload_n hx hb dX13_named_75 rfl (lv_at hl 4 rfl) ?_
          refine lv_iconst (v := 3) hx hb dX13_named_76 (by decide) ?_
          refine lv_aload_n hx hb dX13_named_77 rfl (lv_at hl 4 rfl) ?_
          refine va_get (D := (dC, dI)) (ci := 16) (fs := mF ad v) (v := .int (v.1 0 47)) (C := RX13) (T := TX13) (N := 124) hx hb ht itX13 hown hK hP 0 rfl rfl 47 (by decide) (ht _ tw_24) (fun _ h9 => h9) rfl dX13_named_78 ?_
          refine cu_r (rn_V (n := 2) (As := [.int 3, .int (v.1 0 47)]) (rest := []) hx hb hml hown ht hKK hFx hP hD hS hA (c_m_fail l dC dI cI cB cZ cJ cR tb H.size ad N v (3 : Int32) (v.1 0 47) (show 0 ≤ (v.1 0 47).toInt ∧ (v.1 0 47).toInt < 4002 from (om_d0702dcce3 zt zfs))) tw_25 tw_26 (by decide +kernel) rfl rfl ⟨show 0 + 1 ≤ 40 * n + 8 from om_bf396309a0, show 8 + (3 + 11) + 0 ≤ 28 * (40 * n + 8) from om_6567089ecb⟩ (List.range (mW ad N cI cZ cJ v).length) (rg_map _) (mW_nd _ _ _ _ _ _) rfl rfl rfl rfl hl.1 rfl (Nat.le_of_ble_eq_true rfl) dX13_named_81 ⟨Nat.le_of_ble_eq_true rfl, Nat.le_of_ble_eq_true rfl⟩) hP hD hS hA (fun u38 H locs hw37 hP hD hS => ?_)
          obtain rfl := hw37
          have hP : va_P (dC, dI) vwCl (mW ad N cI cZ cJ (wA (wA v 0 50 (3 : Int32)) 0 51 ((v.1 7) (v.1 0 47).toNatClampNeg))) H := hP
          have hD : va_D A (mW ad N cI cZ cJ (wA (wA v 0 50 (3 : Int32)) 0 51 ((v.1 7) (v.1 0 47).toNatClampNeg))) := hD
          refine W.widen (k := 0) (n := 0) (Nat.le_refl _) (Nat.le_refl _) ?_
          obtain ⟨ce9, hc9, hv9, hf9⟩ := halt_at hK hP
          refine um_athrow hx hb dX13_named_84 ?_
          exact vx_out (fun x h9 => (hnt x h9).elim) hlocks hc9 hv9 hf9 (fun t9 ht9 hv8 => ⟨(wA (wA v 0 50 (3 : Int32)) 0 51 ((v.1 7) (v.1 0 47).toNatClampNeg)), ⟨(FG.f (FG.f (FG.rf _) (3 : Int32) (by decide)) ((v.1 7) (v.1 0 47).toNatClampNeg) (by decide)), fun hiv => (IV.o (IV.o hiv (by decide)) (by decide))⟩, ⟨rfl, by rw [ht9]; exact hP, hD⟩, hS.F ht9⟩) hS.2.2 (Nat.le_refl _) (Nat.le_refl _)
      · have z40 : r8.toInt < (0 : Int) := nle_z (show (0 : Int32).toInt = (0 : Int) by decide) rfl h13
        exact False.elim (om_5829cebf50 z10 z40)
    · have z41 : r8.toInt < (0 : Int) := nle_z (show (0 : Int32).toInt = (0 : Int) by decide) rfl h11
      exact False.elim (om_5829cebf50 z10 z41)
  · have z42 : r8.toInt < (0 : Int) := nle_z (show (0 : Int32).toInt = (0 : Int) by decide) rfl h9
    refine lv_aload_n hx hb dX13_named_30 rfl (lv_at hl 3 rfl) ?_
    refine lv_iload_n hx hb dX13_named_31 rfl (lv_at hl 2 rfl) ?_
    refine cu_i (rn_V (n := 1) (As := [.int (v.1 0 47)]) (rest := []) hx hb hml hown ht hKK hFx hP hD hS hA (c_m_globalOf l dC dI cI cB cZ cJ cR tb H.size ad N v (v.1 0 47) (show 0 ≤ (v.1 0 47).toInt ∧ (v.1 0 47).toInt < 4002 from (om_d0702dcce3 zt zfs)) (show 0 ≤ ((v.1 0 27)).toInt ∧ ((v.1 0 27)).toInt ≤ 60 from (by omega)) (show TI v from FG.ti (fl := pfl) (al := pal) (FG.rf _) (by decide) (by decide) hT) (show AR 23 0 1500 v from a23)) tw_100 tw_101 (by decide +kernel) rfl rfl ⟨show 1 + 1 ≤ 40 * n + 8 from om_6bb9f0972f, show 8 + (3 + 11) + 25 ≤ 28 * (40 * n + 8) from om_91e91d0f69⟩ (List.range (mW ad N cI cZ cJ v).length) (rg_map _) (mW_nd _ _ _ _ _ _) rfl rfl rfl rfl hl.1 rfl (Nat.le_of_ble_eq_true rfl) dX13_named_32 ⟨Nat.le_of_ble_eq_true rfl, Nat.le_of_ble_eq_true rfl⟩) hP hD hS hA (fun r45 u44 H locs hw43 hP hD hS => ?_)
    obtain ⟨rfl, a43, b43⟩ := hw43
    refine W.widen (k := 0) (n := 0) (Nat.le_refl _) (Nat.le_refl _) ?_
    refine lv_goto (tgt := 39) hx hb dX13_named_35 (by decide) ?_
    refine lv_istore (lv' := [(5, .int r45), (4, .int r8), (3, .int r5), (2, .int (v.1 0 47)), (0, .ref (ad 0)), (1, .int 0)]) hx hb dX13_named_39 hl (by decide) rfl (fun ls hl => ?_)
    refine lv_iload hx hb dX13_named_41 (lv_at hl 1 rfl) ?_
    refine lv_if_ge (tgt := 51) hx hb dX13_named_43 (by decide) (fun h46 => ?_) (fun h46 => ?_)
    · have z47 : (0 : Int) ≤ r8.toInt := le_z (show (0 : Int32).toInt = (0 : Int) by decide) rfl h46
      exact False.elim (om_228557f1cf z42 z47)
    · have z48 : r8.toInt < (0 : Int) := nle_z (show (0 : Int32).toInt = (0 : Int) by decide) rfl h46
      refine lv_iload hx hb dX13_named_46 (lv_at hl 0 rfl) ?_
      refine lv_if_lt (tgt := 75) hx hb dX13_named_48 (by decide) (fun h49 => ?_) (fun h49 => ?_)
      · have z50 : r45.toInt < (0 : Int) := lt_z rfl (show (0 : Int32).toInt = (0 : Int) by decide) h49
        refine lv_aload_n hx hb dX13_named_75 rfl (lv_at hl 4 rfl) ?_
        refine lv_iconst (v := 3) hx hb dX13_named_76 (by decide) ?_
        refine lv_aload_n hx hb dX13_named_77 rfl (lv_at hl 4 rfl) ?_
        refine va_get (D := (dC, dI)) (ci := 16) (fs := mF ad v) (v := .int (v.1 0 47)) (C := RX13) (T := TX13) (N := 124) hx hb ht itX13 hown hK hP 0 rfl rfl 47 (by decide) (ht _ tw_24) (fun _ h9 => h9) rfl dX13_named_78 ?_
        refine cu_r (rn_V (n := 2) (As := [.int 3, .int (v.1 0 47)]) (rest := []) hx hb hml hown ht hKK hFx hP hD hS hA (c_m_fail l dC dI cI cB cZ cJ cR tb H.size ad N v (3 : Int32) (v.1 0 47) (show 0 ≤ (v.1 0 47).toInt ∧ (v.1 0 47).toInt < 4002 from (om_d0702dcce3 zt zfs))) tw_25 tw_26 (by decide +kernel) rfl rfl ⟨show 0 + 1 ≤ 40 * n + 8 from om_bf396309a0, show 8 + (3 + 11) + 0 ≤ 28 * (40 * n + 8) from om_6567089ecb⟩ (List.range (mW ad N cI cZ cJ v).length) (rg_map _) (mW_nd _ _ _ _ _ _) rfl rfl rfl rfl hl.1 rfl (Nat.le_of_ble_eq_true rfl) dX13_named_81 ⟨Nat.le_of_ble_eq_true rfl, Nat.le_of_ble_eq_true rfl⟩) hP hD hS hA (fun u52 H locs hw51 hP hD hS => ?_)
        obtain rfl := hw51
        have hP : va_P (dC, dI) vwCl (mW ad N cI cZ cJ (wA (wA v 0 50 (3 : Int32)) 0 51 ((v.1 7) (v.1 0 47).toNatClampNeg))) H := hP
        have hD : va_D A (mW ad N cI cZ cJ (wA (wA v 0 50 (3 : Int32)) 0 51 ((v.1 7) (v.1 0 47).toNatClampNeg))) := hD
        refine W.widen (k := 0) (n := 0) (Nat.le_refl _) (Nat.le_refl _) ?_
        obtain ⟨ce9, hc9, hv9, hf9⟩ := halt_at hK hP
        refine um_athrow hx hb dX13_named_84 ?_
        exact vx_out (fun x h9 => (hnt x h9).elim) hlocks hc9 hv9 hf9 (fun t9 ht9 hv8 => ⟨(wA (wA v 0 50 (3 : Int32)) 0 51 ((v.1 7) (v.1 0 47).toNatClampNeg)), ⟨(FG.f (FG.f (FG.rf _) (3 : Int32) (by decide)) ((v.1 7) (v.1 0 47).toNatClampNeg) (by decide)), fun hiv => (IV.o (IV.o hiv (by decide)) (by decide))⟩, ⟨rfl, by rw [ht9]; exact hP, hD⟩, hS.F ht9⟩) hS.2.2 (Nat.le_refl _) (Nat.le_refl _)
      · have z54 : (0 : Int) ≤ r45.toInt := nlt_z rfl (show (0 : Int32).toInt = (0 : Int) by decide) h49
        refine lv_iload_n hx hb dX13_named_51 rfl (lv_at hl 2 rfl) ?_
        refine lv_iload hx hb dX13_named_52 (lv_at hl 1 rfl) ?_
        refine lv_if_ge (tgt := 71) hx hb dX13_named_54 (by decide) (fun h55 => ?_) (fun h55 => ?_)
        · have z56 : (0 : Int) ≤ r8.toInt := le_z (show (0 : Int32).toInt = (0 : Int) by decide) rfl h55
          exact False.elim (om_228557f1cf z42 z56)
        · have z57 : r8.toInt < (0 : Int) := nle_z (show (0 : Int32).toInt = (0 : Int) by decide) rfl h55
          refine lv_aload_n hx hb dX13_named_57 rfl (lv_at hl 4 rfl) ?_
          refine va_get (D := (dC, dI)) (ci := 16) (fs := mF ad v) (v := .ref (ad 26)) (C := RX13) (T := TX13) (N := 124) hx hb ht itX13 hown hK hP 0 rfl rfl 26 (by decide) (ht _ tw_102) (fun _ h9 => h9) rfl dX13_named_58 ?_
          refine lv_iload hx hb dX13_named_61 (lv_at hl 0 rfl) ?_
          refine va_zald (D := (dC, dI)) (f := (v.1 26)) hx hb hK hP 20 2 rfl rfl (in_y (a := r45.toInt) (b := 60) rfl (om_51058f7f87 z54) (by omega) rfl) dX13_named_63 ?_
          refine lv_if_eq (tgt := 71) hx hb dX13_named_64 (by decide) (fun h58 => ?_) (fun h58 => ?_)
          · have z59 : ((v.1 26) r45.toNatClampNeg).toInt = (0 : Int) := eq_z rfl (show (0 : Int32).toInt = (0 : Int) by decide) h58
            refine lv_iconst (v := 0) hx hb dX13_named_71 (by decide) ?_
            refine lv_icmp_eq (tgt := 85) hx hb dX13_named_72 (by decide) (fun h60 => ?_) (fun h60 => ?_)
            · have z61 : r5.toInt = (0 : Int) := eq_z rfl (show (0 : Int32).toInt = (0 : Int) by decide) h60
              refine lv_aload_n hx hb dX13_named_85 rfl (lv_at hl 4 rfl) ?_
              refine cux_v (rx_V (n := 0) (As := []) (rest := []) hx hb hml hown ht hKK hFx hP hD hS hA (c_m_take l dC dI cI cB cZ cJ cR tb H.size ad N v  (show 0 ≤ ((v.1 0 47)).toInt ∧ ((v.1 0 47)).toInt ≤ 1500 from (by omega))) tw_32 tw_33 (by decide +kernel) rfl rfl ⟨show 1 + 1 ≤ 40 * n + 8 from om_6bb9f0972f, show 8 + (1 + 11) + 22 ≤ 28 * (40 * n + 8) from om_14c5e94f1d⟩ (List.range (mW ad N cI cZ cJ v).length) (rg_map _) (mW_nd _ _ _ _ _ _) rfl rfl rfl rfl hl.1 rfl (Nat.le_of_ble_eq_true rfl) dX13_named_86 ⟨Nat.le_of_ble_eq_true rfl, Nat.le_of_ble_eq_true rfl⟩) hP hD hS hA (fun u9 ce9 q9 H locs hx9 hP hD hS hc9 hv9 hf9 => ?_) (fun u63 H locs hw62 hP hD hS => ?_)
              · exact vx_out (fun x h9 => (hnt x h9).elim) hlocks hc9 hv9 hf9 (fun t9 ht9 hv8 => ⟨u9, ⟨FG.tr (FG.rf _) hx9.1, fun hiv => hx9.2 hiv⟩, ⟨rfl, by rw [ht9]; exact hP, hD⟩, hS.F ht9⟩) hS.2.2 (Nat.le_refl _) (Nat.le_refl _)
              obtain ⟨rfl, a62, b62⟩ := hw62
              have hP : va_P (dC, dI) vwCl (mW ad N cI cZ cJ (wA v 0 47 (((v.1 0 47)) + (1 : Int32)))) H := hP
              have hD : va_D A (mW ad N cI cZ cJ (wA v 0 47 (((v.1 0 47)) + (1 : Int32)))) := hD
              refine W.widen (k := 0) (n := 0) (Nat.le_refl _) (Nat.le_refl _) ?_
              refine lv_iload_n hx hb dX13_named_89 rfl (lv_at hl 2 rfl) ?_
              refine lv_if_eq (tgt := 99) hx hb dX13_named_90 (by decide) (fun h65 => ?_) (fun h65 => ?_)
              · have z66 : r5.toInt = (0 : Int) := eq_z rfl (show (0 : Int32).toInt = (0 : Int) by decide) h65
                refine lv_iload_n hx hb dX13_named_99 rfl (lv_at hl 5 rfl) ?_
                refine lv_if_eq (tgt := 110) hx hb dX13_named_100 (by decide) (fun _ => ?_) (fun k67 => absurd k67 (by decide))
                refine lv_iconst (v := -1) hx hb dX13_named_110 (by decide) ?_
                refine lv_istore (lv' := [(6, .int (-1)), (5, .int r45), (4, .int r8), (3, .int r5), (2, .int (v.1 0 47)), (0, .ref (ad 0)), (1, .int 0)]) hx hb dX13_named_111 hl (by decide) rfl (fun ls hl => ?_)
                refine lv_iload hx hb dX13_named_113 (lv_at hl 0 rfl) ?_
                refine lv_iconst (v := -1) hx hb dX13_named_115 (by decide) ?_
                refine lv_icmp_eq (tgt := 131) hx hb dX13_named_116 (by decide) (fun _ => ?_) (fun k68 => absurd k68 (by decide))
                refine lv_iload_n hx hb dX13_named_131 rfl (lv_at hl 3 rfl) ?_
                refine lv_if_eq (tgt := 165) hx hb dX13_named_132 (by decide) (fun h69 => ?_) (fun h69 => ?_)
                · have z70 : r5.toInt = (0 : Int) := eq_z rfl (show (0 : Int32).toInt = (0 : Int) by decide) h69
                  refine lv_aload_n hx hb dX13_named_165 rfl (lv_at hl 5 rfl) ?_
                  refine lv_iload hx hb dX13_named_166 (lv_at hl 2 rfl) ?_
                  refine lv_iload hx hb dX13_named_168 (lv_at hl 1 rfl) ?_
                  refine cu_v (rn_V (n := 2) (As := [.int r8, .int r45]) (rest := []) hx hb hml hown ht hKK hFx hP hD hS hA (c_m_fetch l dC dI cI cB cZ cJ cR tb H.size ad N (wA v 0 47 (((v.1 0 47)) + (1 : Int32))) r8 r45 (show 0 ≤ ((v.1 0 12)).toInt ∧ ((v.1 0 12)).toInt ≤ 23980 from (by omega)) (show 0 ≤ ((v.1 0 15)).toInt ∧ ((v.1 0 15)).toInt ≤ 15980 from (by omega)) (show 0 ≤ ((v.1 0 43)).toInt ∧ ((v.1 0 43)).toInt ≤ 23980 from (by omega)) (show (0 ≤ r8.toInt ∨ (0 ≤ r45.toInt ∧ r45.toInt < ((v.1 0 27)).toInt)) ∧ r8.toInt < ((v.1 0 30)).toInt ∧ ((v.1 0 27)).toInt ≤ 60 from (by omega)) (show AR 40 0 23999 (wA v 0 47 (((v.1 0 47)) + (1 : Int32))) from (AR.o a40 (by decide))) (show FX (wA v 0 47 (((v.1 0 47)) + (1 : Int32))) from (FX.o fx (by decide) (by decide))) (show GF (wA v 0 47 (((v.1 0 47)) + (1 : Int32))) from (GF.of gf (by decide)))) tw_92 tw_93 (by decide +kernel) rfl rfl ⟨show 2 + 1 ≤ 40 * n + 8 from om_c34fc8f08b, show 8 + (3 + 11) + 46 ≤ 28 * (40 * n + 8) from om_b712eaf788⟩ (List.range (mW ad N cI cZ cJ (wA v 0 47 (((v.1 0 47)) + (1 : Int32)))).length) (rg_map _) (mW_nd _ _ _ _ _ _) rfl rfl rfl rfl hl.1 rfl (Nat.le_of_ble_eq_true rfl) dX13_named_170 ⟨Nat.le_of_ble_eq_true rfl, Nat.le_of_ble_eq_true rfl⟩) hP hD hS hA (fun u72 H locs hw71 hP hD hS => ?_)
                  obtain ⟨fr71, pw71, po71, pf71, kc71, ko71, kg71, a4071, fx71, iv71, sg71⟩ := hw71
                  have pw71 : ((v.1 0 12)).toInt ≤ (u72.1 0 12).toInt ∧ (u72.1 0 12).toInt ≤ ((v.1 0 12)).toInt + 2 := pw71
                  have po71 : (u72.1 0 15).toInt = ((v.1 0 15)).toInt + 1 := po71
                  have pf71 : ((v.1 0 43)).toInt ≤ (u72.1 0 43).toInt ∧ (u72.1 0 43).toInt ≤ ((v.1 0 43)).toInt + 2 := pf71
                  have kc71 : ∀ j : Nat, (j : Int) < ((v.1 0 12)).toInt → (u72.1 11) j = (v.1 11) j := kc71
                  have ko71 : ∀ j : Nat, (j : Int) < ((v.1 0 15)).toInt → (u72.1 13) j = (v.1 13) j := ko71
                  have kg71 : ∀ j : Nat, (j : Int) < ((v.1 0 15)).toInt → (u72.1 14) j = (v.1 14) j := kg71
                  have a4071 : AR 40 0 23999 u72 := a4071
                  have fx71 : FX u72 := fx71
                  have iv71 : IV (wA v 0 47 (((v.1 0 47)) + (1 : Int32))) → IV u72 := iv71
                  have sg71 : SGE ((v.1 0 30)).toInt ((v.1 0 28)).toInt ((v.1 0 27)).toInt (u72.1 13) (u72.1 14) (u72.1 36) (u72.1 38) ((v.1 0 15)).toNatClampNeg (u72.1 0 15).toNatClampNeg ((v.1 0 39)).toNatClampNeg (u72.1 0 39).toNatClampNeg [] [false] ((1 : Int)) [] := sg71
                  have q74 : (u72.1 0 33).toInt = (v.1 0 33).toInt := congrArg Int32.toInt ((fr71.2.1 33 (by decide)).trans (show (wA v 0 47 (((v.1 0 47)) + (1 : Int32))).1 0 33 = (v.1 0 33) by rfl))
                  have sg75 : SGE (v.1 0 30).toInt (v.1 0 28).toInt (v.1 0 27).toInt (u72.1 13) (u72.1 14) (u72.1 36) (u72.1 38) (v.1 0 15).toNatClampNeg (u72.1 0 15).toNatClampNeg (v.1 0 39).toNatClampNeg (u72.1 0 39).toNatClampNeg [] [false] (1 + (u72.1 0 33).toInt - (v.1 0 30).toInt - (v.1 0 32).toInt) [] := SGE.cat [] (SGE.to sg1 (kzN ko71) (kzN kg71) (fun j9 _ _ => congrFun (fr71.2.2 36 (by decide)) j9) (fun j9 _ _ => congrFun (fr71.2.2 38 (by decide)) j9) rfl rfl (Int.le_refl _)) (SGE.par sg71 rfl rfl rfl) rfl rfl (show 1 + (v.1 0 33).toInt - (v.1 0 30).toInt - (v.1 0 32).toInt ≤ 1 + (u72.1 0 33).toInt - (v.1 0 30).toInt - (v.1 0 32).toInt from (om_675629bfc5 q74)) (cat_le (by decide) (om_211d81bad8 zs q74))
                  refine W.widen (k := 0) (n := 0) (Nat.le_refl _) (Nat.le_refl _) ?_
                  refine lv_iload_n hx hb dX13_named_173 rfl (lv_at hl 6 rfl) ?_
                  refine lv_if_eq (tgt := 182) hx hb dX13_named_174 (by decide) (fun _ => ?_) (fun k76 => absurd k76 (by decide))
                  have q77 : (u72.1 0 32).toInt = (v.1 0 32).toInt := congrArg Int32.toInt ((fr71.2.1 32 (by decide)).trans (show (wA v 0 47 (((v.1 0 47)) + (1 : Int32))).1 0 32 = (v.1 0 32) by rfl))
                  have q78 : (u72.1 0 48).toInt = (v.1 0 48).toInt := congrArg Int32.toInt ((fr71.2.1 48 (by decide)).trans (show (wA v 0 47 (((v.1 0 47)) + (1 : Int32))).1 0 48 = (v.1 0 48) by rfl))
                  refine vx_ret ?_
                  exact W.vret hx hb hr (fun t ht9 hW => ⟨⟨u72, rfl, ⟨(FG.tr (FG.f (FG.rf _) (((v.1 0 47)) + (1 : Int32)) (by decide)) (FG.up fr71 (by decide) (by decide))), (show (v.1 0 47).toInt + 1 ≤ (u72.1 0 47).toInt ∧ (u72.1 0 47).toInt ≤ 1500 from (by omega)), (show (v.1 0 49).toInt ≠ (v.1 0 47).toInt from (by omega)), (show (v.1 0 12).toInt ≤ (u72.1 0 12).toInt ∧ (u72.1 0 12).toInt - 15 * (u72.1 0 47).toInt ≤ (v.1 0 12).toInt - 15 * (v.1 0 47).toInt from (by omega)), (show (v.1 0 15).toInt ≤ (u72.1 0 15).toInt ∧ (u72.1 0 15).toInt - 10 * (u72.1 0 47).toInt ≤ (v.1 0 15).toInt - 10 * (v.1 0 47).toInt from (by omega)), (show (v.1 0 43).toInt ≤ (u72.1 0 43).toInt ∧ (u72.1 0 43).toInt - 15 * (u72.1 0 47).toInt ≤ (v.1 0 43).toInt - 15 * (v.1 0 47).toInt from (by omega)), (show (v.1 0 39).toInt ≤ (u72.1 0 39).toInt ∧ (u72.1 0 39).toInt - 1 * (u72.1 0 47).toInt ≤ (v.1 0 39).toInt - 1 * (v.1 0 47).toInt from (by omega)), (show (u72.1 0 32).toInt = (v.1 0 32).toInt ∧ (u72.1 0 48).toInt = (v.1 0 48).toInt from (om_d5149004fa q77 q78)), (show (v.1 0 33).toInt ≤ (u72.1 0 33).toInt ∧ (u72.1 0 33).toInt ≤ 500 from (om_bc6fc57d17 zhi q74)), (fun (j9 : Nat) hj9 => (kc71 j9 (om_4fe904e9bf hj9))), (fun (j9 : Nat) hj9 => (ko71 j9 (om_4fe904e9bf hj9))), (fun (j9 : Nat) hj9 => (kg71 j9 (om_4fe904e9bf hj9))), (fun (j9 : Nat) hj9 => (congrFun (fr71.2.2 36 (by decide)) j9)), (fun (j9 : Nat) hj9 => (congrFun (fr71.2.2 38 (by decide)) j9)), (show AR 35 0 1500 u72 from AR.fr (fl := [12, 15, 43]) (al := [0, 11, 13, 14, 40, 41, 42]) fr71 (by decide) (AR.o a35 (by decide))), (show AR 37 0 23999 u72 from AR.fr (fl := [12, 15, 43]) (al := [0, 11, 13, 14, 40, 41, 42]) fr71 (by decide) (AR.o a37 (by decide))), (show AR 38 0 15999 u72 from AR.fr (fl := [12, 15, 43]) (al := [0, 11, 13, 14, 40, 41, 42]) fr71 (by decide) (AR.o a38 (by decide))), a4071, fx71, (fun hiv => (iv71 (IV.o hiv (by decide)))), (SGE.mono (SGE.setB sg75 rfl) (show 1 + (u72.1 0 33).toInt - (v.1 0 30).toInt - (v.1 0 32).toInt ≤ 1 + (u72.1 0 33).toInt - (v.1 0 30).toInt - (v.1 0 32).toInt from om_e96b194f74))⟩, by rw [ht9]; exact hP, hD⟩, hS.F ht9⟩) hS.2.2 dX13_named_182
                · have z79 : r5.toInt ≠ (0 : Int) := ne_z rfl (show (0 : Int32).toInt = (0 : Int) by decide) h69
                  exact False.elim (om_b66186cd65 e3 z61 z79)
              · have z80 : r5.toInt ≠ (0 : Int) := ne_z rfl (show (0 : Int32).toInt = (0 : Int) by decide) h65
                exact False.elim (om_b66186cd65 e3 z61 z80)
            · have z81 : r5.toInt ≠ (0 : Int) := ne_z rfl (show (0 : Int32).toInt = (0 : Int) by decide) h60
              refine lv_aload_n hx hb dX13_named_75 rfl (lv_at hl 4 rfl) ?_
              refine lv_iconst (v := 3) hx hb dX13_named_76 (by decide) ?_
              refine lv_aload_n hx hb dX13_named_77 rfl (lv_at hl 4 rfl) ?_
              refine va_get (D := (dC, dI)) (ci := 16) (fs := mF ad v) (v := .int (v.1 0 47)) (C := RX13) (T := TX13) (N := 124) hx hb ht itX13 hown hK hP 0 rfl rfl 47 (by decide) (ht _ tw_24) (fun _ h9 => h9) rfl dX13_named_78 ?_
              refine cu_r (rn_V (n := 2) (As := [.int 3, .int (v.1 0 47)]) (rest := []) hx hb hml hown ht hKK hFx hP hD hS hA (c_m_fail l dC dI cI cB cZ cJ cR tb H.size ad N v (3 : Int32) (v.1 0 47) (show 0 ≤ (v.1 0 47).toInt ∧ (v.1 0 47).toInt < 4002 from (om_d0702dcce3 zt zfs))) tw_25 tw_26 (by decide +kernel) rfl rfl ⟨show 0 + 1 ≤ 40 * n + 8 from om_bf396309a0, show 8 + (3 + 11) + 0 ≤ 28 * (40 * n + 8) from om_6567089ecb⟩ (List.range (mW ad N cI cZ cJ v).length) (rg_map _) (mW_nd _ _ _ _ _ _) rfl rfl rfl rfl hl.1 rfl (Nat.le_of_ble_eq_true rfl) dX13_named_81 ⟨Nat.le_of_ble_eq_true rfl, Nat.le_of_ble_eq_true rfl⟩) hP hD hS hA (fun u83 H locs hw82 hP hD hS => ?_)
              obtain rfl := hw82
              have hP : va_P (dC, dI) vwCl (mW ad N cI cZ cJ (wA (wA v 0 50 (3 : Int32)) 0 51 ((v.1 7) (v.1 0 47).toNatClampNeg))) H := hP
              have hD : va_D A (mW ad N cI cZ cJ (wA (wA v 0 50 (3 : Int32)) 0 51 ((v.1 7) (v.1 0 47).toNatClampNeg))) := hD
              refine W.widen (k := 0) (n := 0) (Nat.le_refl _) (Nat.le_refl _) ?_
              obtain ⟨ce9, hc9, hv9, hf9⟩ := halt_at hK hP
              refine um_athrow hx hb dX13_named_84 ?_
              exact vx_out (fun x h9 => (hnt x h9).elim) hlocks hc9 hv9 hf9 (fun t9 ht9 hv8 => ⟨(wA (wA v 0 50 (3 : Int32)) 0 51 ((v.1 7) (v.1 0 47).toNatClampNeg)), ⟨(FG.f (FG.f (FG.rf _) (3 : Int32) (by decide)) ((v.1 7) (v.1 0 47).toNatClampNeg) (by decide)), fun hiv => (IV.o (IV.o hiv (by decide)) (by decide))⟩, ⟨rfl, by rw [ht9]; exact hP, hD⟩, hS.F ht9⟩) hS.2.2 (Nat.le_refl _) (Nat.le_refl _)
          · have z85 : ((v.1 26) r45.toNatClampNeg).toInt ≠ (0 : Int) := ne_z rfl (show (0 : Int32).toInt = (0 : Int) by decide) h58
            refine lv_iconst (v := 1) hx hb dX13_named_67 (by decide) ?_
            refine lv_goto (tgt := 72) hx hb dX13_named_68 (by decide) ?_
            refine lv_icmp_eq (tgt := 85) hx hb dX13_named_72 (by decide) (fun h86 => ?_) (fun h86 => ?_)
            · have z87 : r5.toInt = (1 : Int) := eq_z rfl (show (1 : Int32).toInt = (1 : Int) by decide) h86
              refine lv_aload_n hx hb dX13_named_85 rfl (lv_at hl 4 rfl) ?_
              refine cux_v (rx_V (n := 0) (As := []) (rest := []) hx hb hml hown ht hKK hFx hP hD hS hA (c_m_take l dC dI cI cB cZ cJ cR tb H.size ad N v  (show 0 ≤ ((v.1 0 47)).toInt ∧ ((v.1 0 47)).toInt ≤ 1500 from (by omega))) tw_32 tw_33 (by decide +kernel) rfl rfl ⟨show 1 + 1 ≤ 40 * n + 8 from om_6bb9f0972f, show 8 + (1 + 11) + 22 ≤ 28 * (40 * n + 8) from om_14c5e94f1d⟩ (List.range (mW ad N cI cZ cJ v).length) (rg_map _) (mW_nd _ _ _ _ _ _) rfl rfl rfl rfl hl.1 rfl (Nat.le_of_ble_eq_true rfl) dX13_named_86 ⟨Nat.le_of_ble_eq_true rfl, Nat.le_of_ble_eq_true rfl⟩) hP hD hS hA (fun u9 ce9 q9 H locs hx9 hP hD hS hc9 hv9 hf9 => ?_) (fun u89 H locs hw88 hP hD hS => ?_)
              · exact vx_out (fun x h9 => (hnt x h9).elim) hlocks hc9 hv9 hf9 (fun t9 ht9 hv8 => ⟨u9, ⟨FG.tr (FG.rf _) hx9.1, fun hiv => hx9.2 hiv⟩, ⟨rfl, by rw [ht9]; exact hP, hD⟩, hS.F ht9⟩) hS.2.2 (Nat.le_refl _) (Nat.le_refl _)
              obtain ⟨rfl, a88, b88⟩ := hw88
              have hP : va_P (dC, dI) vwCl (mW ad N cI cZ cJ (wA v 0 47 (((v.1 0 47)) + (1 : Int32)))) H := hP
              have hD : va_D A (mW ad N cI cZ cJ (wA v 0 47 (((v.1 0 47)) + (1 : Int32)))) := hD
              refine W.widen (k := 0) (n := 0) (Nat.le_refl _) (Nat.le_refl _) ?_
              refine lv_iload_n hx hb dX13_named_89 rfl (lv_at hl 2 rfl) ?_
              refine lv_if_eq (tgt := 99) hx hb dX13_named_90 (by decide) (fun h91 => ?_) (fun h91 => ?_)
              · have z92 : r5.toInt = (0 : Int) := eq_z rfl (show (0 : Int32).toInt = (0 : Int) by decide) h91
                exact False.elim (om_9d476c3a78 z87 z92)
              · have z93 : r5.toInt ≠ (0 : Int) := ne_z rfl (show (0 : Int32).toInt = (0 : Int) by decide) h91
                refine lv_aload_n hx hb dX13_named_93 rfl (lv_at hl 4 rfl) ?_
                refine lv_iload hx hb dX13_named_94 (lv_at hl 0 rfl) ?_
                refine cux_v (rx_V (n := 1) (As := [.int r45]) (rest := []) hx hb hml hown ht hKK hFx hP hD hS hA (c_m_index l n ihE dC dI cI cB cZ cJ cR tb H.size ad N (wA v 0 47 (((v.1 0 47)) + (1 : Int32))) r45 (show 40 ≤ ((v.1 0 48)).toInt + (n : Int) from (by omega)) (show 0 ≤ ((((((v.1 0 47)) + (1 : Int32)))) + (1 : Int32)).toInt ∧ ((((((v.1 0 47)) + (1 : Int32)))) + (1 : Int32)).toInt ≤ 1500 from (by omega)) (show 0 ≤ ((v.1 0 48)).toInt ∧ ((v.1 0 48)).toInt ≤ 40 from (by omega)) (show 0 ≤ ((v.1 0 30)).toInt ∧ ((v.1 0 30)).toInt ≤ 500 from (by omega)) (show 0 ≤ ((v.1 0 33)).toInt ∧ ((v.1 0 33)).toInt ≤ 500 from (by omega)) (show 0 ≤ ((v.1 0 32)).toInt ∧ ((v.1 0 30)).toInt + ((v.1 0 32)).toInt ≤ ((v.1 0 33)).toInt from (by omega)) (show 0 ≤ ((v.1 0 12)).toInt ∧ ((v.1 0 12)).toInt ≤ 15 * ((((((v.1 0 47)) + (1 : Int32)))) + (1 : Int32)).toInt + 2 from (by omega)) (show 0 ≤ ((v.1 0 15)).toInt ∧ ((v.1 0 15)).toInt ≤ 10 * ((((((v.1 0 47)) + (1 : Int32)))) + (1 : Int32)).toInt + 0 from (by omega)) (show 0 ≤ ((v.1 0 43)).toInt ∧ ((v.1 0 43)).toInt ≤ 15 * ((((((v.1 0 47)) + (1 : Int32)))) + (1 : Int32)).toInt + 0 from (by omega)) (show 0 ≤ ((v.1 0 39)).toInt ∧ ((v.1 0 39)).toInt ≤ 1 * ((((((v.1 0 47)) + (1 : Int32)))) + (1 : Int32)).toInt + 0 from (by omega)) (show 0 ≤ ((v.1 0 27)).toInt ∧ ((v.1 0 27)).toInt ≤ 60 from (by omega)) (show TI (wA v 0 47 (((v.1 0 47)) + (1 : Int32))) from FG.ti (fl := pfl) (al := pal) (FG.f (FG.rf _) (((v.1 0 47)) + (1 : Int32)) (by decide)) (by decide) (by decide) hT) (show AR 29 0 1500 (wA v 0 47 (((v.1 0 47)) + (1 : Int32))) from (AR.o a29 (by decide))) (show AR 23 0 1500 (wA v 0 47 (((v.1 0 47)) + (1 : Int32))) from (AR.o a23 (by decide))) (show AR 35 0 1500 (wA v 0 47 (((v.1 0 47)) + (1 : Int32))) from (AR.o a35 (by decide))) (show AR 37 0 23999 (wA v 0 47 (((v.1 0 47)) + (1 : Int32))) from (AR.o a37 (by decide))) (show AR 38 0 15999 (wA v 0 47 (((v.1 0 47)) + (1 : Int32))) from (AR.o a38 (by decide))) (show AR 40 0 23999 (wA v 0 47 (((v.1 0 47)) + (1 : Int32))) from (AR.o a40 (by decide))) (show FX (wA v 0 47 (((v.1 0 47)) + (1 : Int32))) from (FX.o fx (by decide) (by decide))) (show GF (wA v 0 47 (((v.1 0 47)) + (1 : Int32))) from (GF.of gf (by decide))) (show 0 ≤ r45.toInt ∧ r45.toInt < ((v.1 0 27)).toInt from (om_5a17daf06f b43 z54))) tw_103 tw_104 (by decide +kernel) rfl rfl ⟨show (40 * n + 6) + 1 ≤ 40 * n + 8 from om_811f6ec76a, show 8 + (3 + 11) + 28 * (40 * n + 6) ≤ 28 * (40 * n + 8) from om_caa4db15ea⟩ (List.range (mW ad N cI cZ cJ (wA v 0 47 (((v.1 0 47)) + (1 : Int32)))).length) (rg_map _) (mW_nd _ _ _ _ _ _) rfl rfl rfl rfl hl.1 rfl (Nat.le_of_ble_eq_true rfl) dX13_named_96 ⟨Nat.le_of_ble_eq_true rfl, Nat.le_of_ble_eq_true rfl⟩) hP hD hS hA (fun u9 ce9 q9 H locs hx9 hP hD hS hc9 hv9 hf9 => ?_) (fun u95 H locs hw94 hP hD hS => ?_)
                · exact vx_out (fun x h9 => (hnt x h9).elim) hlocks hc9 hv9 hf9 (fun t9 ht9 hv8 => ⟨u9, ⟨FG.tr (FG.f (FG.rf _) (((v.1 0 47)) + (1 : Int32)) (by decide)) hx9.1, fun hiv => hx9.2 (IV.o hiv (by decide))⟩, ⟨rfl, by rw [ht9]; exact hP, hD⟩, hS.F ht9⟩) hS.2.2 (Nat.le_refl _) (Nat.le_refl _)
                obtain ⟨fr94, pt94, pb94, pw94, po94, pf94, pk94, pp94, ph94, kc94, ko94, kg94, k3694, k3894, a3594, a3794, a3894, a4094, fx94, iv94, sg94⟩ := hw94
                have pt94 : ((((((v.1 0 47)) + (1 : Int32)))) + (1 : Int32)).toInt + 1 ≤ (u95.1 0 47).toInt ∧ (u95.1 0 47).toInt ≤ 1500 := pt94
                have pb94 : ((v.1 0 49)).toInt ≠ ((((((v.1 0 47)) + (1 : Int32)))) + (1 : Int32)).toInt := pb94
                have pw94 : ((v.1 0 12)).toInt ≤ (u95.1 0 12).toInt ∧ (u95.1 0 12).toInt - 15 * (u95.1 0 47).toInt ≤ ((v.1 0 12)).toInt - 15 * ((((((v.1 0 47)) + (1 : Int32)))) + (1 : Int32)).toInt := pw94
                have po94 : ((v.1 0 15)).toInt ≤ (u95.1 0 15).toInt ∧ (u95.1 0 15).toInt - 10 * (u95.1 0 47).toInt ≤ ((v.1 0 15)).toInt - 10 * ((((((v.1 0 47)) + (1 : Int32)))) + (1 : Int32)).toInt := po94
                have pf94 : ((v.1 0 43)).toInt ≤ (u95.1 0 43).toInt ∧ (u95.1 0 43).toInt - 15 * (u95.1 0 47).toInt ≤ ((v.1 0 43)).toInt - 15 * ((((((v.1 0 47)) + (1 : Int32)))) + (1 : Int32)).toInt := pf94
                have pk94 : ((v.1 0 39)).toInt ≤ (u95.1 0 39).toInt ∧ (u95.1 0 39).toInt - 1 * (u95.1 0 47).toInt ≤ ((v.1 0 39)).toInt - 1 * ((((((v.1 0 47)) + (1 : Int32)))) + (1 : Int32)).toInt := pk94
                have pp94 : (u95.1 0 32).toInt = ((v.1 0 32)).toInt ∧ (u95.1 0 48).toInt = ((v.1 0 48)).toInt := pp94
                have ph94 : ((v.1 0 33)).toInt ≤ (u95.1 0 33).toInt ∧ (u95.1 0 33).toInt ≤ 500 := ph94
                have kc94 : ∀ j : Nat, (j : Int) < ((v.1 0 12)).toInt → (u95.1 11) j = (v.1 11) j := kc94
                have ko94 : ∀ j : Nat, (j : Int) < ((v.1 0 15)).toInt → (u95.1 13) j = (v.1 13) j := ko94
                have kg94 : ∀ j : Nat, (j : Int) < ((v.1 0 15)).toInt → (u95.1 14) j = (v.1 14) j := kg94
                have k3694 : ∀ j : Nat, (j : Int) < ((v.1 0 39)).toInt → (u95.1 36) j = (v.1 36) j := k3694
                have k3894 : ∀ j : Nat, (j : Int) < ((v.1 0 39)).toInt → (u95.1 38) j = (v.1 38) j := k3894
                have a3594 : AR 35 0 1500 u95 := a3594
                have a3794 : AR 37 0 23999 u95 := a3794
                have a3894 : AR 38 0 15999 u95 := a3894
                have a4094 : AR 40 0 23999 u95 := a4094
                have fx94 : FX u95 := fx94
                have iv94 : IV (wA v 0 47 (((v.1 0 47)) + (1 : Int32))) → IV u95 := iv94
                have sg94 : SGE ((v.1 0 30)).toInt ((v.1 0 28)).toInt ((v.1 0 27)).toInt (u95.1 13) (u95.1 14) (u95.1 36) (u95.1 38) ((v.1 0 15)).toNatClampNeg (u95.1 0 15).toNatClampNeg ((v.1 0 39)).toNatClampNeg (u95.1 0 39).toNatClampNeg [] [true] (1 + (u95.1 0 33).toInt - ((v.1 0 30)).toInt - ((v.1 0 32)).toInt) [] := sg94
                have sg97 : SGE (v.1 0 30).toInt (v.1 0 28).toInt (v.1 0 27).toInt (u95.1 13) (u95.1 14) (u95.1 36) (u95.1 38) (v.1 0 15).toNatClampNeg (u95.1 0 15).toNatClampNeg (v.1 0 39).toNatClampNeg (u95.1 0 39).toNatClampNeg [] [true] (1 + (u95.1 0 33).toInt - (v.1 0 30).toInt - (v.1 0 32).toInt) [] := SGE.cat [] (SGE.to sg1 (kzN ko94) (kzN kg94) (fun j9 _ h9 => kzN k3694 j9 h9) (fun j9 _ h9 => kzN k3894 j9 h9) rfl rfl (Int.le_refl _)) (SGE.par sg94 rfl rfl rfl) rfl rfl (show 1 + (v.1 0 33).toInt - (v.1 0 30).toInt - (v.1 0 32).toInt ≤ 1 + (u95.1 0 33).toInt - (v.1 0 30).toInt - (v.1 0 32).toInt from (by omega)) (cat_le (by decide) (by omega))
                refine W.widen (k := 0) (n := 0) (Nat.le_refl _) (Nat.le_refl _) ?_
                refine lv_iload_n hx hb dX13_named_99 rfl (lv_at hl 5 rfl) ?_
                refine lv_if_eq (tgt := 110) hx hb dX13_named_100 (by decide) (fun _ => ?_) (fun k98 => absurd k98 (by decide))
                refine lv_iconst (v := -1) hx hb dX13_named_110 (by decide) ?_
                refine lv_istore (lv' := [(6, .int (-1)), (5, .int r45), (4, .int r8), (3, .int r5), (2, .int (v.1 0 47)), (0, .ref (ad 0)), (1, .int 0)]) hx hb dX13_named_111 hl (by decide) rfl (fun ls hl => ?_)
                refine lv_iload hx hb dX13_named_113 (lv_at hl 0 rfl) ?_
                refine lv_iconst (v := -1) hx hb dX13_named_115 (by decide) ?_
                refine lv_icmp_eq (tgt := 131) hx hb dX13_named_116 (by decide) (fun _ => ?_) (fun k99 => absurd k99 (by decide))
                refine lv_iload_n hx hb dX13_named_131 rfl (lv_at hl 3 rfl) ?_
                refine lv_if_eq (tgt := 165) hx hb dX13_named_132 (by decide) (fun h100 => ?_) (fun h100 => ?_)
                · have z101 : r5.toInt = (0 : Int) := eq_z rfl (show (0 : Int32).toInt = (0 : Int) by decide) h100
                  exact False.elim (om_9d476c3a78 z87 z101)
                · have z102 : r5.toInt ≠ (0 : Int) := ne_z rfl (show (0 : Int32).toInt = (0 : Int) by decide) h100
                  refine lv_aload_n hx hb dX13_named_135 rfl (lv_at hl 5 rfl) ?_
                  refine lv_aload_n hx hb dX13_named_136 rfl (lv_at hl 5 rfl) ?_
                  refine lv_bipush (v := 10) hx hb dX13_named_137 (by decide) ?_
                  refine lv_iconst (v := 0) hx hb dX13_named_139 (by decide) ?_
                  refine lv_bipush (v := 10) hx hb dX13_named_140 (by decide) ?_
                  refine cu_s (mW_nd _ _ _ _ _ _) (rn_S (n := 3) (As := [.int 10, .int 0, .int 10]) (rest := [.ref (ad 0), .ref (ad 0)]) hx hb hml hown ht hKK hFx hP hD hS hA (c_m_lw l dC dI cI cB cZ cJ cR tb H.size (10 : Int32) (0 : Int32) (10 : Int32) ) tw_71 tw_72 (by decide +kernel) rfl rfl ⟨show 1 + 1 ≤ 40 * n + 8 from om_6bb9f0972f, show 8 + (3 + 11) + 24 ≤ 28 * (40 * n + 8) from om_47f5cdee41⟩ [] rfl rfl rfl hl.1 rfl (Nat.le_of_ble_eq_true rfl) dX13_named_142 ⟨Nat.le_of_ble_eq_true rfl, Nat.le_of_ble_eq_true rfl⟩) hP hD hS hA (fun r105 H locs hw103 hP hD hS => ?_)
                  refine W.widen (k := 0) (n := 0) (Nat.le_refl _) (Nat.le_refl _) ?_
                  refine cu_i (rn_V (n := 1) (As := [.int r105]) (rest := [.ref (ad 0)]) hx hb hml hown ht hKK hFx hP hD hS hA (c_m_emit l dC dI cI cB cZ cJ cR tb H.size ad N u95 r105 (show 0 ≤ (u95.1 0 12).toInt ∧ (u95.1 0 12).toInt < 24000 from (by omega))) tw_8 tw_9 (by decide +kernel) rfl rfl ⟨show 0 + 1 ≤ 40 * n + 8 from om_bf396309a0, show 8 + (2 + 11) + 0 ≤ 28 * (40 * n + 8) from om_6b2d8a3fe9⟩ (List.range (mW ad N cI cZ cJ u95).length) (rg_map _) (mW_nd _ _ _ _ _ _) rfl rfl rfl rfl hl.1 rfl (Nat.le_of_ble_eq_true rfl) dX13_named_145 ⟨Nat.le_of_ble_eq_true rfl, Nat.le_of_ble_eq_true rfl⟩) hP hD hS hA (fun r108 u107 H locs hw106 hP hD hS => ?_)
                  obtain ⟨rfl, rfl⟩ := hw106
                  have hP : va_P (dC, dI) vwCl (mW ad N cI cZ cJ (wA (wA u95 11 ((u95.1 0 12).toNatClampNeg) r105) 0 12 ((u95.1 0 12) + (1 : Int32)))) H := hP
                  have hD : va_D A (mW ad N cI cZ cJ (wA (wA u95 11 ((u95.1 0 12).toNatClampNeg) r105) 0 12 ((u95.1 0 12) + (1 : Int32)))) := hD
                  refine tp_i (y := (u95.1 0 12)) (rfl) ?_
                  refine W.widen (k := 0) (n := 0) (Nat.le_refl _) (Nat.le_refl _) ?_
                  refine lv_iload hx hb dX13_named_148 (lv_at hl 1 rfl) ?_
                  refine lv_iconst (v := 1) hx hb dX13_named_150 (by decide) ?_
                  refine cu_v (rn_V (n := 3) (As := [.int (u95.1 0 12), .int r45, .int 1]) (rest := []) hx hb hml hown ht hKK hFx hP hD hS hA (c_m_fix l dC dI cI cB cZ cJ cR tb H.size ad N (wA (wA u95 11 ((u95.1 0 12).toNatClampNeg) r105) 0 12 ((u95.1 0 12) + (1 : Int32))) (u95.1 0 12) r45 (1 : Int32) (show 0 ≤ (u95.1 0 43).toInt ∧ (u95.1 0 43).toInt < 24000 from (by omega)) (show 0 ≤ (u95.1 0 12).toInt ∧ (u95.1 0 12).toInt < 24000 from (by omega)) (show (1 : Int) = 5 ∨ (0 ≤ r45.toInt ∧ r45.toInt < 60) from (by omega)) (show AR 40 0 23999 (wA (wA u95 11 ((u95.1 0 12).toNatClampNeg) r105) 0 12 ((u95.1 0 12) + (1 : Int32))) from (AR.o (AR.o a4094 (by decide)) (by decide))) (show FX (wA (wA u95 11 ((u95.1 0 12).toNatClampNeg) r105) 0 12 ((u95.1 0 12) + (1 : Int32))) from (FX.o (FX.o fx94 (by decide) (by decide)) (by decide) (by decide)))) tw_69 tw_70 (by decide +kernel) rfl rfl ⟨show 0 + 1 ≤ 40 * n + 8 from om_bf396309a0, show 8 + (4 + 11) + 0 ≤ 28 * (40 * n + 8) from om_070d94274c⟩ (List.range (mW ad N cI cZ cJ (wA (wA u95 11 ((u95.1 0 12).toNatClampNeg) r105) 0 12 ((u95.1 0 12) + (1 : Int32)))).length) (rg_map _) (mW_nd _ _ _ _ _ _) rfl rfl rfl rfl hl.1 rfl (Nat.le_of_ble_eq_true rfl) dX13_named_151 ⟨Nat.le_of_ble_eq_true rfl, Nat.le_of_ble_eq_true rfl⟩) hP hD hS hA (fun u110 H locs hw109 hP hD hS => ?_)
                  obtain ⟨fr109, pf109, a40109, fx109, iv109⟩ := hw109
                  have pf109 : (u110.1 0 43).toInt = (u95.1 0 43).toInt + 1 := pf109
                  have a40109 : AR 40 0 23999 u110 := a40109
                  have fx109 : FX u110 := fx109
                  have iv109 : IV (wA (wA u95 11 ((u95.1 0 12).toNatClampNeg) r105) 0 12 ((u95.1 0 12) + (1 : Int32))) → IV u110 := iv109
                  have sg112 : SGE (v.1 0 30).toInt (v.1 0 28).toInt (v.1 0 27).toInt (u110.1 13) (u110.1 14) (u110.1 36) (u110.1 38) (v.1 0 15).toNatClampNeg (u110.1 0 15).toNatClampNeg (v.1 0 39).toNatClampNeg (u110.1 0 39).toNatClampNeg [] [true] (1 + (u95.1 0 33).toInt - (v.1 0 30).toInt - (v.1 0 32).toInt) [] := SGE.to sg97 (fun j9 _ => congrFun (fr109.2.2 13 (by decide)) j9) (fun j9 _ => congrFun (fr109.2.2 14 (by decide)) j9) (fun j9 _ _ => congrFun (fr109.2.2 36 (by decide)) j9) (fun j9 _ _ => congrFun (fr109.2.2 38 (by decide)) j9) (congrArg Int32.toNatClampNeg (fr109.2.1 15 (by decide))) (congrArg Int32.toNatClampNeg (fr109.2.1 39 (by decide))) (Int.le_refl _)
                  refine W.widen (k := 0) (n := 0) (Nat.le_refl _) (Nat.le_refl _) ?_
                  refine lv_aload_n hx hb dX13_named_154 rfl (lv_at hl 5 rfl) ?_
                  refine lv_bipush (v := 6) hx hb dX13_named_155 (by decide) ?_
                  refine lv_iconst (v := 0) hx hb dX13_named_157 (by decide) ?_
                  refine cu_i (rn_V (n := 2) (As := [.int 6, .int 0]) (rest := []) hx hb hml hown ht hKK hFx hP hD hS hA (c_m_say l dC dI cI cB cZ cJ cR tb H.size ad N u110 (6 : Int32) (0 : Int32) (show 0 ≤ (u110.1 0 15).toInt ∧ (u110.1 0 15).toInt < 16000 from (by omega))) tw_59 tw_60 (by decide +kernel) rfl rfl ⟨show 0 + 1 ≤ 40 * n + 8 from om_bf396309a0, show 8 + (3 + 11) + 0 ≤ 28 * (40 * n + 8) from om_6567089ecb⟩ (List.range (mW ad N cI cZ cJ u110).length) (rg_map _) (mW_nd _ _ _ _ _ _) rfl rfl rfl rfl hl.1 rfl (Nat.le_of_ble_eq_true rfl) dX13_named_158 ⟨Nat.le_of_ble_eq_true rfl, Nat.le_of_ble_eq_true rfl⟩) hP hD hS hA (fun r115 u114 H locs hw113 hP hD hS => ?_)
                  obtain ⟨rfl, rfl⟩ := hw113
                  have hP : va_P (dC, dI) vwCl (mW ad N cI cZ cJ (wA (wA (wA u110 13 ((u110.1 0 15).toNatClampNeg) (6 : Int32)) 14 ((u110.1 0 15).toNatClampNeg) (0 : Int32)) 0 15 ((u110.1 0 15) + (1 : Int32)))) H := hP
                  have hD : va_D A (mW ad N cI cZ cJ (wA (wA (wA u110 13 ((u110.1 0 15).toNatClampNeg) (6 : Int32)) 14 ((u110.1 0 15).toNatClampNeg) (0 : Int32)) 0 15 ((u110.1 0 15) + (1 : Int32)))) := hD
                  refine tp_i (y := (u110.1 0 15)) (rfl) ?_
                  have q116 : (u110.1 0 33).toInt = (u95.1 0 33).toInt := congrArg Int32.toInt ((fr109.2.1 33 (by decide)).trans (show (wA (wA u95 11 ((u95.1 0 12).toNatClampNeg) r105) 0 12 ((u95.1 0 12) + (1 : Int32))).1 0 33 = (u95.1 0 33) by rfl))
                  have sg117 : SGE (v.1 0 30).toInt (v.1 0 28).toInt (v.1 0 27).toInt (upd (u110.1 13) ((u110.1 0 15).toNatClampNeg) (6 : Int32)) (upd (u110.1 14) ((u110.1 0 15).toNatClampNeg) (0 : Int32)) (u110.1 36) (u110.1 38) (v.1 0 15).toNatClampNeg ((u110.1 0 15) + (1 : Int32)).toNatClampNeg (v.1 0 39).toNatClampNeg (u110.1 0 39).toNatClampNeg [] [false] (1 + (u110.1 0 33).toInt - (v.1 0 30).toInt - (v.1 0 32).toInt) [] := SGE.say1 (x := (u110.1 0 15)) (y := ((u110.1 0 15) + (1 : Int32))) sg112 (show 0 ≤ (u110.1 0 15).toInt from (by omega)) (show ((u110.1 0 15) + (1 : Int32)).toInt = (u110.1 0 15).toInt + 1 from (by omega)) (show 1 + (u95.1 0 33).toInt - (v.1 0 30).toInt - (v.1 0 32).toInt ≤ 1 + (u110.1 0 33).toInt - (v.1 0 30).toInt - (v.1 0 32).toInt from (om_675629bfc5 q116)) (lenle (1 : Int) (by decide) (by omega)) (ft_at (by decide)) (by decide) (by decide)
                  refine W.widen (k := 0) (n := 0) (Nat.le_refl _) (Nat.le_refl _) ?_
                  refine lv_pop hx hb dX13_named_161 rfl ?_
                  refine lv_goto (tgt := 173) hx hb dX13_named_162 (by decide) ?_
                  refine lv_iload_n hx hb dX13_named_173 rfl (lv_at hl 6 rfl) ?_
                  refine lv_if_eq (tgt := 182) hx hb dX13_named_174 (by decide) (fun _ => ?_) (fun k118 => absurd k118 (by decide))
                  refine vx_ret ?_
                  exact W.vret hx hb hr (fun t ht9 hW => ⟨⟨(wA (wA (wA u110 13 ((u110.1 0 15).toNatClampNeg) (6 : Int32)) 14 ((u110.1 0 15).toNatClampNeg) (0 : Int32)) 0 15 ((u110.1 0 15) + (1 : Int32))), rfl, ⟨(FG.f (FG.a (FG.a (FG.tr (FG.f (FG.a (FG.tr (FG.f (FG.rf _) (((v.1 0 47)) + (1 : Int32)) (by decide)) (FG.up fr94 (by decide) (by decide))) ((u95.1 0 12).toNatClampNeg) r105 (by decide) (by decide)) ((u95.1 0 12) + (1 : Int32)) (by decide)) (FG.up fr109 (by decide) (by decide))) ((u110.1 0 15).toNatClampNeg) (6 : Int32) (by decide) (by decide)) ((u110.1 0 15).toNatClampNeg) (0 : Int32) (by decide) (by decide)) ((u110.1 0 15) + (1 : Int32)) (by decide)), (show (v.1 0 47).toInt + 1 ≤ (u110.1 0 47).toInt ∧ (u110.1 0 47).toInt ≤ 1500 from (by omega)), (show (v.1 0 49).toInt ≠ (v.1 0 47).toInt from (by omega)), (show (v.1 0 12).toInt ≤ (u110.1 0 12).toInt ∧ (u110.1 0 12).toInt - 15 * (u110.1 0 47).toInt ≤ (v.1 0 12).toInt - 15 * (v.1 0 47).toInt from (by omega)), (show (v.1 0 15).toInt ≤ ((u110.1 0 15) + (1 : Int32)).toInt ∧ ((u110.1 0 15) + (1 : Int32)).toInt - 10 * (u110.1 0 47).toInt ≤ (v.1 0 15).toInt - 10 * (v.1 0 47).toInt from (by omega)), (show (v.1 0 43).toInt ≤ (u110.1 0 43).toInt ∧ (u110.1 0 43).toInt - 15 * (u110.1 0 47).toInt ≤ (v.1 0 43).toInt - 15 * (v.1 0 47).toInt from (by omega)), (show (v.1 0 39).toInt ≤ (u110.1 0 39).toInt ∧ (u110.1 0 39).toInt - 1 * (u110.1 0 47).toInt ≤ (v.1 0 39).toInt - 1 * (v.1 0 47).toInt from (by omega)), (show (u110.1 0 32).toInt = (v.1 0 32).toInt ∧ (u110.1 0 48).toInt = (v.1 0 48).toInt from (by omega)), (show (v.1 0 33).toInt ≤ (u110.1 0 33).toInt ∧ (u110.1 0 33).toInt ≤ 500 from (by omega)), (fun (j9 : Nat) hj9 => (Eq.trans (congrFun (fr109.2.2 11 (by decide)) j9) (Eq.trans (pk_un3 (a := (u95.1 0 12).toInt) rfl (by omega) (by omega)) (kc94 j9 (om_4fe904e9bf hj9))))), (fun (j9 : Nat) hj9 => (Eq.trans (pk_un3 (a := (u110.1 0 15).toInt) rfl (by omega) (by omega)) (Eq.trans (congrFun (fr109.2.2 13 (by decide)) j9) (ko94 j9 (om_4fe904e9bf hj9))))), (fun (j9 : Nat) hj9 => (Eq.trans (pk_un3 (a := (u110.1 0 15).toInt) rfl (by omega) (by omega)) (Eq.trans (congrFun (fr109.2.2 14 (by decide)) j9) (kg94 j9 (om_4fe904e9bf hj9))))), (fun (j9 : Nat) hj9 => (Eq.trans (congrFun (fr109.2.2 36 (by decide)) j9) (k3694 j9 (om_4fe904e9bf hj9)))), (fun (j9 : Nat) hj9 => (Eq.trans (congrFun (fr109.2.2 38 (by decide)) j9) (k3894 j9 (om_4fe904e9bf hj9)))), (AR.o (AR.o (AR.o (show AR 35 0 1500 u110 from AR.fr (fl := [43]) (al := [0, 40, 41, 42]) fr109 (by decide) (AR.o (AR.o a3594 (by decide)) (by decide))) (by decide)) (by decide)) (by decide)), (AR.o (AR.o (AR.o (show AR 37 0 23999 u110 from AR.fr (fl := [43]) (al := [0, 40, 41, 42]) fr109 (by decide) (AR.o (AR.o a3794 (by decide)) (by decide))) (by decide)) (by decide)) (by decide)), (AR.o (AR.o (AR.o (show AR 38 0 15999 u110 from AR.fr (fl := [43]) (al := [0, 40, 41, 42]) fr109 (by decide) (AR.o (AR.o a3894 (by decide)) (by decide))) (by decide)) (by decide)) (by decide)), (AR.o (AR.o (AR.o a40109 (by decide)) (by decide)) (by decide)), (FX.o (FX.o (FX.o fx109 (by decide) (by decide)) (by decide) (by decide)) (by decide) (by decide)), (fun hiv => (IV.o (IV.o (IV.o (iv109 (IV.o (IV.o (iv94 (IV.o hiv (by decide))) (by decide)) (by decide))) (by decide)) (by decide)) (by decide))), (SGE.mono (SGE.setB sg117 rfl) (show 1 + (u110.1 0 33).toInt - (v.1 0 30).toInt - (v.1 0 32).toInt ≤ 1 + (u110.1 0 33).toInt - (v.1 0 30).toInt - (v.1 0 32).toInt from om_e96b194f74))⟩, by rw [ht9]; exact hP, hD⟩, hS.F ht9⟩) hS.2.2 dX13_named_182
            · have z119 : r5.toInt ≠ (1 : Int) := ne_z rfl (show (1 : Int32).toInt = (1 : Int) by decide) h86
              refine lv_aload_n hx hb dX13_named_75 rfl (lv_at hl 4 rfl) ?_
              refine lv_iconst (v := 3) hx hb dX13_named_76 (by decide) ?_
              refine lv_aload_n hx hb dX13_named_77 rfl (lv_at hl 4 rfl) ?_
              refine va_get (D := (dC, dI)) (ci := 16) (fs := mF ad v) (v := .int (v.1 0 47)) (C := RX13) (T := TX13) (N := 124) hx hb ht itX13 hown hK hP 0 rfl rfl 47 (by decide) (ht _ tw_24) (fun _ h9 => h9) rfl dX13_named_78 ?_
              refine cu_r (rn_V (n := 2) (As := [.int 3, .int (v.1 0 47)]) (rest := []) hx hb hml hown ht hKK hFx hP hD hS hA (c_m_fail l dC dI cI cB cZ cJ cR tb H.size ad N v (3 : Int32) (v.1 0 47) (show 0 ≤ (v.1 0 47).toInt ∧ (v.1 0 47).toInt < 4002 from (om_d0702dcce3 zt zfs))) tw_25 tw_26 (by decide +kernel) rfl rfl ⟨show 0 + 1 ≤ 40 * n + 8 from om_bf396309a0, show 8 + (3 + 11) + 0 ≤ 28 * (40 * n + 8) from om_6567089ecb⟩ (List.range (mW ad N cI cZ cJ v).length) (rg_map _) (mW_nd _ _ _ _ _ _) rfl rfl rfl rfl hl.1 rfl (Nat.le_of_ble_eq_true rfl) dX13_named_81 ⟨Nat.le_of_ble_eq_true rfl, Nat.le_of_ble_eq_true rfl⟩) hP hD hS hA (fun u121 H locs hw120 hP hD hS => ?_)
              obtain rfl := hw120
              have hP : va_P (dC, dI) vwCl (mW ad N cI cZ cJ (wA (wA v 0 50 (3 : Int32)) 0 51 ((v.1 7) (v.1 0 47).toNatClampNeg))) H := hP
              have hD : va_D A (mW ad N cI cZ cJ (wA (wA v 0 50 (3 : Int32)) 0 51 ((v.1 7) (v.1 0 47).toNatClampNeg))) := hD
              refine W.widen (k := 0) (n := 0) (Nat.le_refl _) (Nat.le_refl _) ?_
              obtain ⟨ce9, hc9, hv9, hf9⟩ := halt_at hK hP
              refine um_athrow hx hb dX13_named_84 ?_
              exact vx_out (fun x h9 => (hnt x h9).elim) hlocks hc9 hv9 hf9 (fun t9 ht9 hv8 => ⟨(wA (wA v 0 50 (3 : Int32)) 0 51 ((v.1 7) (v.1 0 47).toNatClampNeg)), ⟨(FG.f (FG.f (FG.rf _) (3 : Int32) (by decide)) ((v.1 7) (v.1 0 47).toNatClampNeg) (by decide)), fun hiv => (IV.o (IV.o hiv (by decide)) (by decide))⟩, ⟨rfl, by rw [ht9]; exact hP, hD⟩, hS.F ht9⟩) hS.2.2 (Nat.le_refl _) (Nat.le_refl _)
