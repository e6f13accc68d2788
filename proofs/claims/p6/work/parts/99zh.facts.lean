theorem itJ0 : ∀ w ∈ wsJ00, w ∈ tw_W := tw_all (by decide +kernel)
theorem tw_1216 : (.instantiable RJ0 4 : Cond) ∈ tw_W := tw_in (t8_7 (List.mem_of_getElem? (i := 57) rfl)) rfl
theorem itJx00060 : ∀ w ∈ wsJx000600, w ∈ tw_W := tw_all (by decide +kernel)
theorem tw_1217 : (.instantiable RJx00060 6 : Cond) ∈ tw_W := tw_in (t8_7 (List.mem_of_getElem? (i := 154) rfl)) rfl
theorem itJx7c733 : ∀ w ∈ wsJx7c7330, w ∈ tw_W := tw_all (by decide +kernel)
theorem tw_1218 : (.instantiable RJx7c733 6 : Cond) ∈ tw_W := tw_in (t8_6 (List.mem_of_getElem? (i := 165) rfl)) rfl
theorem tw_1219 : (.instantiable RX11 12 : Cond) ∈ tw_W := tw_in (t8_1 (List.mem_of_getElem? (i := 36) rfl)) rfl
theorem tw_1220 : (.instantiable RX13 124 : Cond) ∈ tw_W := tw_in (t8_9 (List.mem_of_getElem? (i := 35) rfl)) rfl
theorem tw_1221 : (.initialized "java/lang/String" : Cond) ∈ tw_W := tw_in (t8_1 (List.mem_of_getElem? (i := 6) rfl)) rfl
theorem tw_1222 : (.initialized "jdk/internal/util/Preconditions" : Cond) ∈ tw_W := tw_in (t8_1 (List.mem_of_getElem? (i := 17) rfl)) rfl
theorem tw_1223 : (.initialized "java/lang/Throwable" : Cond) ∈ tw_W := tw_in (t8_1 (List.mem_of_getElem? (i := 18) rfl)) rfl
theorem OF_inj {a n d : String} {v v' : Value} {t : Nat} {A : Nat → Prop} {U : State} {H : Heap} (h : va_OF a n d v t A U H) (h' : va_OF a n d v' t A U H) : v = v' := by
  obtain ⟨cf, k, i, f, cell, h1, h2, h3, h4, h5, h6⟩ := h
  obtain ⟨cf', k', i', f', cell', g1, g2, g3, g4, g5, g6⟩ := h'
  have e := Option.some.inj (h1.symm.trans g1)
  cases e
  have e2 := Option.some.inj (h3.symm.trans g3)
  subst e2
  exact Option.some.inj (h5.symm.trans g5)
theorem T_inj {ty : FieldType} {t n n' : Nat} {f f' : Nat → Value} {A : Nat → Prop} {U : State} {H : Heap} (hn : n < 2 ^ 31) (hn' : n' < 2 ^ 31) (h : va_T ty t n f A U H) (h' : va_T ty t n' f' A U H) : n = n' ∧ ∀ j, j < n → f j = f' j := by
  obtain ⟨cell, h1, h2, h3, h4, h5, h6, h7⟩ := h
  obtain ⟨cell', g1, g2, g3, g4, g5, g6, g7⟩ := h'
  have e := Option.some.inj (h1.symm.trans g1)
  subst e
  have en : n = n' := (nI_eq hn hn').mp (h5.symm.trans g5)
  subst en
  exact ⟨rfl, fun j hj => Option.some.inj ((h6 j hj).symm.trans (g6 j hj))⟩
theorem getD_at {l : List Int32} {k : Nat} (h : k < l.length) : l.getD k 0 = l[k] := by
  rw [List.getD_eq_getElem?_getD, List.getElem?_eq_getElem h]
  rfl
theorem by_len : ∀ i, i < 66 → (bytS.getD i []).length = lenS.getD i 0 ∧ lenS.getD i 0 < 2 ^ 31 := by decide +kernel
theorem by_ne : ∀ i, i < 66 → ∀ j, j < 66 → i ≠ j → bytS.getD i [] ≠ bytS.getD j [] := by decide +kernel
theorem nwF_in : ∀ q ∈ nwF, Cond.fieldLinkNest q.1 q.2.1 q.2.2.1 q.2.2.2.1 q.2.2.2.2 "PocketCompiler" ∈ lw_tbl := by decide +kernel
theorem nwM_in : ∀ q ∈ nwM, Cond.methodLinkNest q.1 q.2.1 q.2.2 "PocketCompiler" ∈ lw_tbl := by decide +kernel
theorem castL_in : ∀ q ∈ castL, Cond.castable q.1 q.2 ∈ lw_tbl := by decide +kernel
theorem ncL_in : ∀ q ∈ ncL, Cond.not (.castable q.1 q.2) ∈ flatC flT := by decide +kernel
theorem strR_in0 : ∀ q ∈ (strR.drop 0).take 8, Cond.stringRef q.1 q.2.1 q.2.2.1 ∈ lw_tbl := by decide +kernel
theorem strR_in8 : ∀ q ∈ (strR.drop 8).take 8, Cond.stringRef q.1 q.2.1 q.2.2.1 ∈ lw_tbl := by decide +kernel
theorem strR_in16 : ∀ q ∈ (strR.drop 16).take 8, Cond.stringRef q.1 q.2.1 q.2.2.1 ∈ lw_tbl := by decide +kernel
theorem strR_in24 : ∀ q ∈ (strR.drop 24).take 8, Cond.stringRef q.1 q.2.1 q.2.2.1 ∈ lw_tbl := by decide +kernel
theorem strR_in32 : ∀ q ∈ (strR.drop 32).take 8, Cond.stringRef q.1 q.2.1 q.2.2.1 ∈ lw_tbl := by decide +kernel
theorem strR_in40 : ∀ q ∈ (strR.drop 40).take 8, Cond.stringRef q.1 q.2.1 q.2.2.1 ∈ lw_tbl := by decide +kernel
theorem strR_in48 : ∀ q ∈ (strR.drop 48).take 8, Cond.stringRef q.1 q.2.1 q.2.2.1 ∈ lw_tbl := by decide +kernel
theorem strR_in56 : ∀ q ∈ (strR.drop 56).take 8, Cond.stringRef q.1 q.2.1 q.2.2.1 ∈ lw_tbl := by decide +kernel
theorem strR_in64 : ∀ q ∈ (strR.drop 64).take 8, Cond.stringRef q.1 q.2.1 q.2.2.1 ∈ lw_tbl := by decide +kernel
theorem strR_in : ∀ q ∈ strR, Cond.stringRef q.1 q.2.1 q.2.2.1 ∈ lw_tbl := by
  intro q hq
  obtain ⟨k, hk, he⟩ := List.getElem_of_mem hq
  have hk2 : k < 67 := hk
  by_cases h0 : k < 8
  · refine strR_in0 q (List.mem_of_getElem? (i := k - 0) ?_)
    rw [List.getElem?_take_of_lt (by omega), List.getElem?_drop, show 0 + (k - 0) = k by omega, List.getElem?_eq_getElem hk, he]
  by_cases h8 : k < 16
  · refine strR_in8 q (List.mem_of_getElem? (i := k - 8) ?_)
    rw [List.getElem?_take_of_lt (by omega), List.getElem?_drop, show 8 + (k - 8) = k by omega, List.getElem?_eq_getElem hk, he]
  by_cases h16 : k < 24
  · refine strR_in16 q (List.mem_of_getElem? (i := k - 16) ?_)
    rw [List.getElem?_take_of_lt (by omega), List.getElem?_drop, show 16 + (k - 16) = k by omega, List.getElem?_eq_getElem hk, he]
  by_cases h24 : k < 32
  · refine strR_in24 q (List.mem_of_getElem? (i := k - 24) ?_)
    rw [List.getElem?_take_of_lt (by omega), List.getElem?_drop, show 24 + (k - 24) = k by omega, List.getElem?_eq_getElem hk, he]
  by_cases h32 : k < 40
  · refine strR_in32 q (List.mem_of_getElem? (i := k - 32) ?_)
    rw [List.getElem?_take_of_lt (by omega), List.getElem?_drop, show 32 + (k - 32) = k by omega, List.getElem?_eq_getElem hk, he]
  by_cases h40 : k < 48
  · refine strR_in40 q (List.mem_of_getElem? (i := k - 40) ?_)
    rw [List.getElem?_take_of_lt (by omega), List.getElem?_drop, show 40 + (k - 40) = k by omega, List.getElem?_eq_getElem hk, he]
  by_cases h48 : k < 56
  · refine strR_in48 q (List.mem_of_getElem? (i := k - 48) ?_)
    rw [List.getElem?_take_of_lt (by omega), List.getElem?_drop, show 48 + (k - 48) = k by omega, List.getElem?_eq_getElem hk, he]
  by_cases h56 : k < 64
  · refine strR_in56 q (List.mem_of_getElem? (i := k - 56) ?_)
    rw [List.getElem?_take_of_lt (by omega), List.getElem?_drop, show 56 + (k - 56) = k by omega, List.getElem?_eq_getElem hk, he]
  by_cases h64 : k < 67
  · refine strR_in64 q (List.mem_of_getElem? (i := k - 64) ?_)
    rw [List.getElem?_take_of_lt (by omega), List.getElem?_drop, show 64 + (k - 64) = k by omega, List.getElem?_eq_getElem hk, he]
  omega
theorem strR_tm : ∀ q ∈ strR, q.2.2.2 < 66 ∧ (Term.string q.1 q.2.1 = strTm q.2.2.2 ∨ (q.1 = "PocketCompilerModel" ∧ q.2.1 = 802 ∧ q.2.2.2 = 11)) := by decide +kernel
set_option maxHeartbeats 4000000 in
set_option maxRecDepth 100000 in
theorem law_strs {s : State} {b : Nat} {A : Nat → Prop} (hg : ∀ c ∈ flatC flT, c.before #[Value.ref b] s = true) (hA : ∀ a : Nat, a < s.heap.size → ¬ A a) : ∀ i : Nat, ∃ q : Nat × Nat, i < 66 → ((strTm i).eval #[Value.ref b] s none [] s = some (.ref q.1) ∧ va_O "java/lang/String" q.1 A s s.heap ∧ va_OF "java/lang/String" "coder" "B" (.int 0) q.1 A s s.heap ∧ va_OF "java/lang/String" "value" "[B" (.ref q.2) q.1 A s s.heap ∧ va_T .byte q.2 (lenS.getD i 0) (fun j => .int ((bytS.getD i []).getD j 0)) A s s.heap)
  | 0 => (st_0 hg hA).elim (fun q h => ⟨q, fun _ => h⟩)
  | 1 => (st_1 hg hA).elim (fun q h => ⟨q, fun _ => h⟩)
  | 2 => (st_2 hg hA).elim (fun q h => ⟨q, fun _ => h⟩)
  | 3 => (st_3 hg hA).elim (fun q h => ⟨q, fun _ => h⟩)
  | 4 => (st_4 hg hA).elim (fun q h => ⟨q, fun _ => h⟩)
  | 5 => (st_5 hg hA).elim (fun q h => ⟨q, fun _ => h⟩)
  | 6 => (st_6 hg hA).elim (fun q h => ⟨q, fun _ => h⟩)
  | 7 => (st_7 hg hA).elim (fun q h => ⟨q, fun _ => h⟩)
  | 8 => (st_8 hg hA).elim (fun q h => ⟨q, fun _ => h⟩)
  | 9 => (st_9 hg hA).elim (fun q h => ⟨q, fun _ => h⟩)
  | 10 => (st_10 hg hA).elim (fun q h => ⟨q, fun _ => h⟩)
  | 11 => (st_11 hg hA).elim (fun q h => ⟨q, fun _ => h⟩)
  | 12 => (st_12 hg hA).elim (fun q h => ⟨q, fun _ => h⟩)
  | 13 => (st_13 hg hA).elim (fun q h => ⟨q, fun _ => h⟩)
  | 14 => (st_14 hg hA).elim (fun q h => ⟨q, fun _ => h⟩)
  | 15 => (st_15 hg hA).elim (fun q h => ⟨q, fun _ => h⟩)
  | 16 => (st_16 hg hA).elim (fun q h => ⟨q, fun _ => h⟩)
  | 17 => (st_17 hg hA).elim (fun q h => ⟨q, fun _ => h⟩)
  | 18 => (st_18 hg hA).elim (fun q h => ⟨q, fun _ => h⟩)
  | 19 => (st_19 hg hA).elim (fun q h => ⟨q, fun _ => h⟩)
  | 20 => (st_20 hg hA).elim (fun q h => ⟨q, fun _ => h⟩)
  | 21 => (st_21 hg hA).elim (fun q h => ⟨q, fun _ => h⟩)
  | 22 => (st_22 hg hA).elim (fun q h => ⟨q, fun _ => h⟩)
  | 23 => (st_23 hg hA).elim (fun q h => ⟨q, fun _ => h⟩)
  | 24 => (st_24 hg hA).elim (fun q h => ⟨q, fun _ => h⟩)
  | 25 => (st_25 hg hA).elim (fun q h => ⟨q, fun _ => h⟩)
  | 26 => (st_26 hg hA).elim (fun q h => ⟨q, fun _ => h⟩)
  | 27 => (st_27 hg hA).elim (fun q h => ⟨q, fun _ => h⟩)
  | 28 => (st_28 hg hA).elim (fun q h => ⟨q, fun _ => h⟩)
  | 29 => (st_29 hg hA).elim (fun q h => ⟨q, fun _ => h⟩)
  | 30 => (st_30 hg hA).elim (fun q h => ⟨q, fun _ => h⟩)
  | 31 => (st_31 hg hA).elim (fun q h => ⟨q, fun _ => h⟩)
  | 32 => (st_32 hg hA).elim (fun q h => ⟨q, fun _ => h⟩)
  | 33 => (st_33 hg hA).elim (fun q h => ⟨q, fun _ => h⟩)
  | 34 => (st_34 hg hA).elim (fun q h => ⟨q, fun _ => h⟩)
  | 35 => (st_35 hg hA).elim (fun q h => ⟨q, fun _ => h⟩)
  | 36 => (st_36 hg hA).elim (fun q h => ⟨q, fun _ => h⟩)
  | 37 => (st_37 hg hA).elim (fun q h => ⟨q, fun _ => h⟩)
  | 38 => (st_38 hg hA).elim (fun q h => ⟨q, fun _ => h⟩)
  | 39 => (st_39 hg hA).elim (fun q h => ⟨q, fun _ => h⟩)
  | 40 => (st_40 hg hA).elim (fun q h => ⟨q, fun _ => h⟩)
  | 41 => (st_41 hg hA).elim (fun q h => ⟨q, fun _ => h⟩)
  | 42 => (st_42 hg hA).elim (fun q h => ⟨q, fun _ => h⟩)
  | 43 => (st_43 hg hA).elim (fun q h => ⟨q, fun _ => h⟩)
  | 44 => (st_44 hg hA).elim (fun q h => ⟨q, fun _ => h⟩)
  | 45 => (st_45 hg hA).elim (fun q h => ⟨q, fun _ => h⟩)
  | 46 => (st_46 hg hA).elim (fun q h => ⟨q, fun _ => h⟩)
  | 47 => (st_47 hg hA).elim (fun q h => ⟨q, fun _ => h⟩)
  | 48 => (st_48 hg hA).elim (fun q h => ⟨q, fun _ => h⟩)
  | 49 => (st_49 hg hA).elim (fun q h => ⟨q, fun _ => h⟩)
  | 50 => (st_50 hg hA).elim (fun q h => ⟨q, fun _ => h⟩)
  | 51 => (st_51 hg hA).elim (fun q h => ⟨q, fun _ => h⟩)
  | 52 => (st_52 hg hA).elim (fun q h => ⟨q, fun _ => h⟩)
  | 53 => (st_53 hg hA).elim (fun q h => ⟨q, fun _ => h⟩)
  | 54 => (st_54 hg hA).elim (fun q h => ⟨q, fun _ => h⟩)
  | 55 => (st_55 hg hA).elim (fun q h => ⟨q, fun _ => h⟩)
  | 56 => (st_56 hg hA).elim (fun q h => ⟨q, fun _ => h⟩)
  | 57 => (st_57 hg hA).elim (fun q h => ⟨q, fun _ => h⟩)
  | 58 => (st_58 hg hA).elim (fun q h => ⟨q, fun _ => h⟩)
  | 59 => (st_59 hg hA).elim (fun q h => ⟨q, fun _ => h⟩)
  | 60 => (st_60 hg hA).elim (fun q h => ⟨q, fun _ => h⟩)
  | 61 => (st_61 hg hA).elim (fun q h => ⟨q, fun _ => h⟩)
  | 62 => (st_62 hg hA).elim (fun q h => ⟨q, fun _ => h⟩)
  | 63 => (st_63 hg hA).elim (fun q h => ⟨q, fun _ => h⟩)
  | 64 => (st_64 hg hA).elim (fun q h => ⟨q, fun _ => h⟩)
  | 65 => (st_65 hg hA).elim (fun q h => ⟨q, fun _ => h⟩)
  | k + 66 => ⟨(0, 0), fun h => absurd h (by omega)⟩
set_option maxHeartbeats 4000000 in
set_option maxRecDepth 100000 in
/-- what the tables and the heap say when the law begins -/
theorem law_facts {s : State} {b : Nat} {A : Nat → Prop} (hts : ∀ w ∈ lw_tbl, w.before #[Value.ref b] s = true) (hgv : flT.before #[Value.ref b] s = true) (hA : ∀ a : Nat, a < s.heap.size → ¬ A a) : ∃ (dC : Nat → ClassId) (dI : Nat → Nat → Nat) (cI cB cZ cJ cR : ClassId) (tb : Nat → Nat), kk_ (dC, dI) (tyS cI cB cZ cJ cR) tb s ∧ fx_ tb A s s.heap := by
  have ht : ∀ w ∈ tw_W, w.before #[Value.ref b] s = true := tw_ht hts
  have hg := flat_of_before _ hgv
  obtain ⟨c0, i0, k0⟩ := u_known (C := RJ0) (T := TJ0) (N := 4) (n := 4) ht itJ0 (ht _ tw_1216)
  obtain ⟨c1, i1, k1⟩ := u_known (C := RJ4) (T := TJ4) (N := 4) (n := 4) ht itJ4 (ht _ tw_982)
  obtain ⟨c2, i2, k2⟩ := u_known (C := RJx00060) (T := TJx00060) (N := 6) (n := 6) ht itJx00060 (ht _ tw_1217)
  obtain ⟨c3, i3, k3⟩ := u_known (C := RJx7c733) (T := TJx7c733) (N := 6) (n := 6) ht itJx7c733 (ht _ tw_1218)
  obtain ⟨c4, i4, k4⟩ := u_known (C := RX0) (T := TX0) (N := 9) (n := 9) ht itX0 (ht _ tw_1060)
  obtain ⟨c5, i5, k5⟩ := u_known (C := RX1) (T := TX1) (N := 12) (n := 12) ht itX1 (ht _ tw_1010)
  obtain ⟨c6, i6, k6⟩ := u_known (C := RX2) (T := TX2) (N := 5) (n := 5) ht itX2 (ht _ tw_1017)
  obtain ⟨c7, i7, k7⟩ := u_known (C := RX3) (T := TX3) (N := 3) (n := 3) ht itX3 (ht _ tw_1033)
  obtain ⟨c8, i8, k8⟩ := u_known (C := RX5) (T := TX5) (N := 7) (n := 7) ht itX5 (ht _ tw_1053)
  obtain ⟨c9, i9, k9⟩ := u_known (C := RX6) (T := TX6) (N := 9) (n := 9) ht itX6 (ht _ tw_1067)
  obtain ⟨c10, i10, k10⟩ := u_known (C := RX7) (T := TX7) (N := 13) (n := 13) ht itX7 (ht _ tw_1046)
  obtain ⟨c11, i11, k11⟩ := u_known (C := RX8) (T := TX8) (N := 1) (n := 1) ht itX8 (ht _ tw_1039)
  obtain ⟨c12, i12, k12⟩ := u_known (C := RX9) (T := TX9) (N := 10) (n := 10) ht itX9 (ht _ tw_1003)
  obtain ⟨c13, i13, k13⟩ := u_known (C := RX10) (T := TX10) (N := 17) (n := 17) ht itX10 (ht _ tw_1074)
  obtain ⟨c14, i14, k14⟩ := u_known (C := RX11) (T := TX11) (N := 12) (n := 12) ht itX11 (ht _ tw_1219)
  obtain ⟨c15, i15, k15⟩ := u_known (C := RX12) (T := TX12) (N := 6) (n := 6) ht itX12 (ht _ tw_365)
  obtain ⟨c16, i16, k16⟩ := u_known (C := RX13) (T := TX13) (N := 124) (n := 124) ht itX13 (ht _ tw_1220)
  obtain ⟨cI, kcI, mI, fI, gI, hI⟩ := Cond.arrayClass_spec (hts (.arrayClass .int) (by decide +kernel))
  obtain ⟨cB, kcB, mB, fB, gB, hB⟩ := Cond.arrayClass_spec (hts (.arrayClass .byte) (by decide +kernel))
  obtain ⟨cZ, kcZ, mZ, fZ, gZ, hZ⟩ := Cond.arrayClass_spec (hts (.arrayClass .boolean) (by decide +kernel))
  obtain ⟨cJ, kcJ, mJ, fJ, gJ, hJ⟩ := Cond.arrayClass_spec (hts (.arrayClass .long) (by decide +kernel))
  have hAO : va_AOA .int s := va_AOA.of (hts (.arrayOver (.array .int)) (by decide +kernel))
  obtain ⟨mR, cR, kcR, fR0, iR, gR, hR, fR⟩ := arrayOver_specB hAO
  obtain ⟨t0, z0, T0⟩ := tf_tbI_0 hts ht hg hA
  obtain ⟨t1, z1, T1⟩ := tf_tbI_1 hts ht hg hA
  obtain ⟨t2, z2, T2⟩ := tf_tbI_2 hts ht hg hA
  obtain ⟨t3, z3, T3⟩ := tf_tbI_3 hts ht hg hA
  obtain ⟨t4, z4, T4⟩ := tf_tbI_4 hts ht hg hA
  obtain ⟨t5, z5, T5⟩ := tf_tbI_5 hts ht hg hA
  obtain ⟨t10, z10, T10⟩ := tf_tbD_0 hts ht hg hA
  obtain ⟨t11, z11, T11⟩ := tf_tbD_1 hts ht hg hA
  obtain ⟨sq, hsq⟩ := Classical.axiomOfChoice (law_strs hg hA)
  obtain ⟨tb, htb⟩ : ∃ tb : Nat → Nat, tb = fun k => if k < 100 then [t0, t1, t2, t3, t4, t5, 0, 0, 0, 0, t10, t11].getD k 0 else if k < 200 then (sq (k - 100)).1 else (sq (k - 200)).2 := ⟨_, rfl⟩
  have e1 : ∀ i, i < 66 → tb (100 + i) = (sq i).1 := fun i hi => by rw [htb]; show (if 100 + i < 100 then _ else if 100 + i < 200 then (sq (100 + i - 100)).1 else _) = _; rw [if_neg (by omega), if_pos (by omega), Nat.add_sub_cancel_left]
  have e2 : ∀ i, i < 66 → tb (200 + i) = (sq i).2 := fun i hi => by rw [htb]; show (if 200 + i < 100 then _ else if 200 + i < 200 then _ else (sq (200 + i - 200)).2) = _; rw [if_neg (by omega), if_neg (by omega), Nat.add_sub_cancel_left]
  refine ⟨fun k => [c0, c1, c2, c3, c4, c5, c6, c7, c8, c9, c10, c11, c12, c13, c14, c15, c16].getD k c0, fun k => [i0, i1, i2, i3, i4, i5, i6, i7, i8, i9, i10, i11, i12, i13, i14, i15, i16].getD k i0, cI, cB, cZ, cJ, cR, tb, ⟨⟨?_, ?_⟩, ⟨hAO, va_AO.of (hts (.arrayOver (.object "java/lang/String")) (by decide +kernel))⟩, fun q hq => va_Nw.of rfl (hts _ (nwF_in q hq)), fun q hq => va_Nw.of rfl (hts _ (nwM_in q hq)), ?_, fun q hq => va_Nw.of rfl (hts _ (castL_in q hq)), fun q hq => va_Nc.of (hg _ (ncL_in q hq))⟩, va_Zof (hts (.laysStatic "java/lang/String" "COMPACT_STRINGS" "Z") (by decide +kernel)) (ht _ tw_1221) (va_eqi (hg _ (fl_at 4 (by decide +kernel)))) hA, ?_, ?_, va_Zqof (hts (.laysStatic "jdk/internal/util/Preconditions" "SIOOBE_FORMATTER" "Ljava/util/function/BiFunction;") (by decide +kernel)) (ht _ tw_1222) (hg _ (fl_at 5 (by decide +kernel))) hA, vx_Zqof (hts (.laysStatic Bundle.tN "UNASSIGNED_STACK" Bundle.steD) (by decide +kernel)) (ht _ tw_1223) (hg _ (fl_at 9 (by decide +kernel))) hA, vx_Zqof (hts (.laysStatic Bundle.tN "SUPPRESSED_SENTINEL" Bundle.listD) (by decide +kernel)) (ht _ tw_1223) (hg _ (fl_at 10 (by decide +kernel))) hA, ?_, ?_⟩
  · intro k q hq
    match k, hq with
    | 0, hq => cases hq; exact k0
    | 1, hq => cases hq; exact k1
    | 2, hq => cases hq; exact k2
    | 3, hq => cases hq; exact k3
    | 4, hq => cases hq; exact k4
    | 5, hq => cases hq; exact k5
    | 6, hq => cases hq; exact k6
    | 7, hq => cases hq; exact k7
    | 8, hq => cases hq; exact k8
    | 9, hq => cases hq; exact k9
    | 10, hq => cases hq; exact k10
    | 11, hq => cases hq; exact k11
    | 12, hq => cases hq; exact k12
    | 13, hq => cases hq; exact k13
    | 14, hq => cases hq; exact k14
    | 15, hq => cases hq; exact k15
    | 16, hq => cases hq; exact k16
    | k + 17, hq => simp [vwCl] at hq
  · intro k q hq
    match k, hq with
    | 0, hq => cases hq; exact ⟨fun n z => ⟨(fun k h => by cases h), kcI, gI, mI, hI⟩, fI⟩
    | 1, hq => cases hq; exact ⟨fun n z => ⟨(fun k h => by cases h), kcB, gB, mB, hB⟩, fB⟩
    | 2, hq => cases hq; exact ⟨fun n z => ⟨(fun k h => by cases h), kcZ, gZ, mZ, hZ⟩, fZ⟩
    | 3, hq => cases hq; exact ⟨fun n z => ⟨(fun k h => by cases h), kcJ, gJ, mJ, hJ⟩, fJ⟩
    | 4, hq => cases hq; exact ⟨fun n z => ⟨(fun k h => by cases h), kcR, gR, mR, hR⟩, fR⟩
    | k + 5, hq => simp [tyS] at hq
  · intro q hq
    obtain ⟨h1, h2⟩ := strR_tm q hq
    have h3 := (hsq q.2.2.2 h1).1
    rw [e1 _ h1]
    refine vk_R.of (hts _ (strR_in q hq)) ?_
    rcases h2 with h2 | ⟨g1, g2, g3⟩
    · rw [h2]; exact h3
    · rw [g1, g2, g3]
      rw [g3] at h3
      exact va_eqR (hg _ (fl_at 1797 (by decide +kernel))) h3
  · intro k q hq
    match k, hq with
    | 0, hq => cases hq; rw [htb]; exact ⟨z0, T0⟩
    | 1, hq => cases hq; rw [htb]; exact ⟨z1, T1⟩
    | 2, hq => cases hq; rw [htb]; exact ⟨z2, T2⟩
    | 3, hq => cases hq; rw [htb]; exact ⟨z3, T3⟩
    | 4, hq => cases hq; rw [htb]; exact ⟨z4, T4⟩
    | 5, hq => cases hq; rw [htb]; exact ⟨z5, T5⟩
    | k + 6, hq => simp [tbI] at hq
  · intro k q hq
    match k, hq with
    | 0, hq => cases hq; rw [htb]; exact ⟨z10, T10⟩
    | 1, hq => cases hq; rw [htb]; exact ⟨z11, T11⟩
    | k + 2, hq => simp [tbD] at hq
  · intro i hi
    show va_O _ (tb (100 + i)) _ _ _ ∧ va_OF _ _ _ _ (tb (100 + i)) _ _ _ ∧ va_OF _ _ _ (.ref (tb (200 + i))) (tb (100 + i)) _ _ _ ∧ va_T _ (tb (200 + i)) _ _ _ _ _
    rw [e1 i hi, e2 i hi]
    exact (hsq i hi).2
  · intro i j hi hj h
    have h : (sq i).1 = (sq j).1 := by
      have h' : tb (100 + i) = tb (100 + j) := h
      rwa [e1 i hi, e1 j hj] at h'
    refine Classical.byContradiction (fun hne => ?_)
    obtain ⟨-, -, -, a4, a5⟩ := hsq i hi
    obtain ⟨-, -, -, b4, b5⟩ := hsq j hj
    rw [← h] at b4
    have ev := OF_inj a4 b4
    have ev2 : (sq i).2 = (sq j).2 := by injection ev
    rw [← ev2] at b5
    obtain ⟨l1, l2⟩ := by_len i hi
    obtain ⟨l3, l4⟩ := by_len j hj
    obtain ⟨n1, n2⟩ := T_inj l2 l4 a5 b5
    refine by_ne i hi j hj hne (List.ext_getElem (by rw [l1, l3, n1]) (fun k h1 h2 => ?_))
    have h9 := n2 k (by rw [← l1]; exact h1)
    have h8 : (bytS.getD i []).getD k 0 = (bytS.getD j []).getD k 0 := by injection h9
    exact (getD_at h1).symm.trans (h8.trans (getD_at h2))
