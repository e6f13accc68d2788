theorem dL_law_33 : decode cL_law 33 = .ok (.iload 4, 2) := by decide +kernel
theorem dL_law_35 : decode cL_law 35 = .ok (.aload_n 0, 1) := by decide +kernel
theorem dL_law_36 : decode cL_law 36 = .ok (.arraylength, 1) := by decide +kernel
theorem dL_law_37 : decode cL_law 37 = .ok (.bipush 6, 2) := by decide +kernel
theorem dL_law_39 : decode cL_law 39 = .ok (.isub, 1) := by decide +kernel
theorem dL_law_40 : decode cL_law 40 = .ok (.if_icmp .gt 959, 3) := by decide +kernel
theorem dL_law_43 : decode cL_law 43 = .ok (.aload_n 0, 1) := by decide +kernel
theorem dL_law_44 : decode cL_law 44 = .ok (.iload 4, 2) := by decide +kernel
theorem dL_law_46 : decode cL_law 46 = .ok (.iaload, 1) := by decide +kernel
theorem dL_law_47 : decode cL_law 47 = .ok (.bipush 31, 2) := by decide +kernel
theorem dL_law_49 : decode cL_law 49 = .ok (.iand, 1) := by decide +kernel
theorem dL_law_50 : decode cL_law 50 = .ok (.tableswitch 943 0 25 #[118, 191, 216, 229, 254, 310, 347, 384, 412, 437, 450, 499, 512, 540, 553, 581, 618, 646, 683, 711, 736, 761, 825, 850, 878, 918], 118) := by decide +kernel
theorem dL_law_993 : decode cL_law 993 = .ok (.iinc 4 6, 3) := by decide +kernel
theorem dL_law_996 : decode cL_law 996 = .ok (.goto (-963), 3) := by decide +kernel
theorem dL_law_999 : decode cL_law 999 = .ok (.iconst 1, 1) := by decide +kernel
theorem dL_law_1000 : decode cL_law 1000 = .ok (.ireturn, 1) := by decide +kernel
theorem lw_more {L iN : Nat} (hL : L ≤ 3073) (hi : iN ≤ 100000) (h : ¬ (Int32.ofNat L - 6) < nI iN) : iN + 6 ≤ L := by
  have e1 : (Int32.ofNat L).toInt = (L : Int) := nI_Z (n := L) (by omega)
  have e2 : (Int32.ofNat L - 6).toInt = (L : Int) - 6 := sub_z e1 (show (6 : Int32).toInt = 6 by decide) (by omega) (by omega)
  have e3 : (nI iN).toInt = (iN : Int) := nI_Z (by omega)
  have := nlt_z e2 e3 h
  omega
set_option maxHeartbeats 16000000 in
set_option maxRecDepth 100000 in
theorem law_loop {p : Program} {e : Env} {s : State} {m : MethodId} {below : List Frame} {meth : Method} {c : Code} (l : Launch) (hst : l.stackTraces = false) {b L : Nat} {xs : Nat → Int32} (hx : p.tables.exec = Jvm.exec) (hb : c.code = cL_law) (hr : meth.sig.returnType = ret) (hlocks : meth.locks = false) (hml : c.maxLocals = 7) (hown : s.vm.findClass RL = some m.cls) (ht : ∀ w ∈ tw_W, w.before #[Value.ref b] s = true) (hX : va_X b L xs s s.heap) (hbl : b < s.heap.size) {dC : Nat → ClassId} {dI : Nat → Nat → Nat} {cI cB cZ cJ cR : ClassId} {tb : Nat → Nat} {A : Nat → Prop} (hbA : ¬ A b) (hAs : ∀ q, A q → s.heap.size ≤ q) (hKK : kk_ (dC, dI) (tyS cI cB cZ cJ cR) tb s) (hFx : fx_ tb A s s.heap) (hA : ∀ q, s.heap.size ≤ q → A q) {N : Nat} (hN1 : 256 ≤ N) (hN2 : N ≤ 4096) (hL : L ≤ 3073) {x0 m0 o0 : Nat} : ∀ (rem : Nat) (B tz gz : Int) (xz : ZG) (U V : va_W) (g : Nat → Int64) (H : Heap) (locs : List Loc) (ls : Array Slot) (cells slots iN : Nat), 0 ≤ B → B + 50000 * (rem : Int) ≤ 200000000 → KI N B x0 cI cB cR tz gz xz U → MIW N B m0 cI cZ cJ tz gz xz V → GJz N xz.dt xz.cs xz.ms → cells + 13 * rem ≤ 601024 → slots + 338 * rem ≤ 7293000 → L ≤ iN + 5 + 6 * rem → iN ≤ 100000 → va_P (dC, dI) vwCl ((o0, .inl (cJ, 1, .inr (.inl g))) :: (U ++ V)) H → va_D A ((o0, .inl (cJ, 1, .inr (.inl g))) :: (U ++ V)) → va_S A s.heap H locs → lv_has ls 7 [(0, .ref b), (1, .ref x0), (2, .ref m0), (3, .ref o0), (4, .int (nI iN))] → W p l e room_1 s m #[Value.ref b] below meth c H locs cells slots (lw_Z below #[Value.ref b] s) (F0 m 33 ls []) := by
  have hK := hKK.1
  intro rem
  induction rem with
  | zero =>
    intro B tz gz xz U V g H locs ls cells slots iN hB0 hB hU hV hJ hce hsl hiL hi5 hP hD hS hl
    refine lv_iload hx hb dL_law_33 (lv_at hl 4 rfl) ?_
    refine lv_aload_n hx hb dL_law_35 rfl (lv_at hl 0 rfl) ?_
    refine va_slen hx hb hX hbl hbA hS dL_law_36 ?_
    refine lv_bipush (v := 6) hx hb dL_law_37 (by decide) ?_
    refine lv_isub hx hb dL_law_39 ?_
    refine lv_icmp_gt (tgt := 999) hx hb dL_law_40 (by decide) (fun k9 => ?_) (fun k9 => ?_)
    · refine lv_iconst (v := 1) hx hb dL_law_999 (by decide) ?_
      refine va_forget (fun q hq => hAs _ (hS.2.2 q hq)) ?_
      refine W.widen (k := 601024) (n := 7293000) (by omega) (by omega) ?_
      exact lw_ret hx hb hr hlocks dL_law_1000
    · have h8 := lw_more hL hi5 k9
      omega
  | succ rem ih =>
    intro B tz gz xz U V g H locs ls cells slots iN hB0 hB hU hV hJ hce hsl hiL hi5 hP hD hS hl
    refine lv_iload hx hb dL_law_33 (lv_at hl 4 rfl) ?_
    refine lv_aload_n hx hb dL_law_35 rfl (lv_at hl 0 rfl) ?_
    refine va_slen hx hb hX hbl hbA hS dL_law_36 ?_
    refine lv_bipush (v := 6) hx hb dL_law_37 (by decide) ?_
    refine lv_isub hx hb dL_law_39 ?_
    refine lv_icmp_gt (tgt := 999) hx hb dL_law_40 (by decide) (fun k9 => ?_) (fun k9 => ?_)
    · refine lv_iconst (v := 1) hx hb dL_law_999 (by decide) ?_
      refine va_forget (fun q hq => hAs _ (hS.2.2 q hq)) ?_
      refine W.widen (k := 601024) (n := 7293000) (by omega) (by omega) ?_
      exact lw_ret hx hb hr hlocks dL_law_1000
    · have h8 := lw_more hL hi5 k9
      refine lv_aload_n hx hb dL_law_43 rfl (lv_at hl 0 rfl) ?_
      refine lv_iload hx hb dL_law_44 (lv_at hl 4 rfl) ?_
      refine va_sld hx hb hX hbl hbA hS (i := nI iN) (vp_in_nI (by omega) (by omega)) dL_law_46 ?_
      refine lv_bipush (v := 31) hx hb dL_law_47 (by decide) ?_
      refine lv_iand hx hb dL_law_49 ?_
      have key : ∀ (t9 z9 : Int) (x9 : ZG) (g9 : Nat → Int64) (U9 V9 : va_W) (H : Heap) (locs : List Loc) (ls : Array Slot), KI N (B + 50000) x0 cI cB cR t9 z9 x9 U9 → MIW N (B + 50000) m0 cI cZ cJ t9 z9 x9 V9 → GJz N x9.dt x9.cs x9.ms → va_P (dC, dI) vwCl ((o0, .inl (cJ, 1, .inr (.inl g9))) :: (U9 ++ V9)) H → va_D A ((o0, .inl (cJ, 1, .inr (.inl g9))) :: (U9 ++ V9)) → va_S A s.heap H locs → lv_has ls 7 [(0, .ref b), (1, .ref x0), (2, .ref m0), (3, .ref o0), (4, .int (nI iN))] → W p l e room_1 s m #[Value.ref b] below meth c H locs (cells + 13) (slots + 338) (lw_Z below #[Value.ref b] s) (F0 m 993 ls []) := fun t9 z9 x9 g9 U9 V9 H locs ls hU9 hV9 hJ9 hP hD hS hl => by
        refine lv_iinc (v := nI (iN + 6)) (lv' := [(4, .int (nI (iN + 6))), (0, .ref b), (1, .ref x0), (2, .ref m0), (3, .ref o0)]) hx hb dL_law_993 hl (k := 4) rfl (nI_add iN 6) (by decide) rfl (fun ls hl => ?_)
        refine lv_goto (tgt := 33) hx hb dL_law_996 (by decide) ?_
        exact ih (B + 50000) t9 z9 x9 U9 V9 g9 H locs ls (cells + 13) (slots + 338) (iN + 6) (by omega) (by omega) hU9 hV9 hJ9 (by omega) (by omega) (by omega) (by omega) hP hD hS (lv_sub hl [1, 2, 3, 4, 0] rfl)
      obtain ⟨z, hz⟩ : ∃ z : Int32, z = (xs (nI iN).toNatClampNeg &&& 31) := ⟨_, rfl⟩
      refine tp_i (y := z) hz.symm ?_
      by_cases h900 : z = 0
      · refine lv_tableIn (off := 118) (tgt := 168) hx hb dL_law_50 (by rw [h900]; decide) (by rw [h900]; decide) (by rw [h900]; decide) (by decide) ?_
        exact lawc_0 l hst hx hb hml hown ht hX hbl hbA hKK hFx hA hN1 hN2 hB0 (by omega) hU hV hJ (by omega) (by omega) (by omega) hL hP hD hS hl key
      by_cases h901 : z = 1
      · refine lv_tableIn (off := 191) (tgt := 241) hx hb dL_law_50 (by rw [h901]; decide) (by rw [h901]; decide) (by rw [h901]; decide) (by decide) ?_
        exact lawc_1 l hst hx hb hml hown ht hX hbl hbA hKK hFx hA hN1 hN2 hB0 (by omega) hU hV hJ (by omega) (by omega) (by omega) hL hP hD hS hl key
      by_cases h902 : z = 2
      · refine lv_tableIn (off := 216) (tgt := 266) hx hb dL_law_50 (by rw [h902]; decide) (by rw [h902]; decide) (by rw [h902]; decide) (by decide) ?_
        exact lawc_2 l hst hx hb hml hown ht hX hbl hbA hKK hFx hA hN1 hN2 hB0 (by omega) hU hV hJ (by omega) (by omega) (by omega) hL hP hD hS hl key
      by_cases h903 : z = 3
      · refine lv_tableIn (off := 229) (tgt := 279) hx hb dL_law_50 (by rw [h903]; decide) (by rw [h903]; decide) (by rw [h903]; decide) (by decide) ?_
        exact lawc_3 l hst hx hb hml hown ht hX hbl hbA hKK hFx hA hN1 hN2 hB0 (by omega) hU hV hJ (by omega) (by omega) (by omega) hL hP hD hS hl key
      by_cases h904 : z = 4
      · refine lv_tableIn (off := 254) (tgt := 304) hx hb dL_law_50 (by rw [h904]; decide) (by rw [h904]; decide) (by rw [h904]; decide) (by decide) ?_
        exact lawc_4 l hst hx hb hml hown ht hX hbl hbA hKK hFx hA hN1 hN2 hB0 (by omega) hU hV hJ (by omega) (by omega) (by omega) hL hP hD hS hl key
      by_cases h905 : z = 5
      · refine lv_tableIn (off := 310) (tgt := 360) hx hb dL_law_50 (by rw [h905]; decide) (by rw [h905]; decide) (by rw [h905]; decide) (by decide) ?_
        exact lawc_5 l hst hx hb hml hown ht hX hbl hbA hKK hFx hA hN1 hN2 hB0 (by omega) hU hV hJ (by omega) (by omega) (by omega) hL hP hD hS hl key
      by_cases h906 : z = 6
      · refine lv_tableIn (off := 347) (tgt := 397) hx hb dL_law_50 (by rw [h906]; decide) (by rw [h906]; decide) (by rw [h906]; decide) (by decide) ?_
        exact lawc_6 l hst hx hb hml hown ht hX hbl hbA hKK hFx hA hN1 hN2 hB0 (by omega) hU hV hJ (by omega) (by omega) (by omega) hL hP hD hS hl key
      by_cases h907 : z = 7
      · refine lv_tableIn (off := 384) (tgt := 434) hx hb dL_law_50 (by rw [h907]; decide) (by rw [h907]; decide) (by rw [h907]; decide) (by decide) ?_
        exact lawc_7 l hst hx hb hml hown ht hX hbl hbA hKK hFx hA hN1 hN2 hB0 (by omega) hU hV hJ (by omega) (by omega) (by omega) hL hP hD hS hl key
      by_cases h908 : z = 8
      · refine lv_tableIn (off := 412) (tgt := 462) hx hb dL_law_50 (by rw [h908]; decide) (by rw [h908]; decide) (by rw [h908]; decide) (by decide) ?_
        exact lawc_8 l hst hx hb hml hown ht hX hbl hbA hKK hFx hA hN1 hN2 hB0 (by omega) hU hV hJ (by omega) (by omega) (by omega) hL hP hD hS hl key
      by_cases h909 : z = 9
      · refine lv_tableIn (off := 437) (tgt := 487) hx hb dL_law_50 (by rw [h909]; decide) (by rw [h909]; decide) (by rw [h909]; decide) (by decide) ?_
        exact lawc_9 l hst hx hb hml hown ht hX hbl hbA hKK hFx hA hN1 hN2 hB0 (by omega) hU hV hJ (by omega) (by omega) (by omega) hL hP hD hS hl key
      by_cases h910 : z = 10
      · refine lv_tableIn (off := 450) (tgt := 500) hx hb dL_law_50 (by rw [h910]; decide) (by rw [h910]; decide) (by rw [h910]; decide) (by decide) ?_
        exact lawc_10 l hst hx hb hml hown ht hX hbl hbA hKK hFx hA hN1 hN2 hB0 (by omega) hU hV hJ (by omega) (by omega) (by omega) hL hP hD hS hl key
      by_cases h911 : z = 11
      · refine lv_tableIn (off := 499) (tgt := 549) hx hb dL_law_50 (by rw [h911]; decide) (by rw [h911]; decide) (by rw [h911]; decide) (by decide) ?_
        exact lawc_11 l hst hx hb hml hown ht hX hbl hbA hKK hFx hA hN1 hN2 hB0 (by omega) hU hV hJ (by omega) (by omega) (by omega) hL hP hD hS hl key
      by_cases h912 : z = 12
      · refine lv_tableIn (off := 512) (tgt := 562) hx hb dL_law_50 (by rw [h912]; decide) (by rw [h912]; decide) (by rw [h912]; decide) (by decide) ?_
        exact lawc_12 l hst hx hb hml hown ht hX hbl hbA hKK hFx hA hN1 hN2 hB0 (by omega) hU hV hJ (by omega) (by omega) (by omega) hL hP hD hS hl key
      by_cases h913 : z = 13
      · refine lv_tableIn (off := 540) (tgt := 590) hx hb dL_law_50 (by rw [h913]; decide) (by rw [h913]; decide) (by rw [h913]; decide) (by decide) ?_
        exact lawc_13 l hst hx hb hml hown ht hX hbl hbA hKK hFx hA hN1 hN2 hB0 (by omega) hU hV hJ (by omega) (by omega) (by omega) hL hP hD hS hl key
      by_cases h914 : z = 14
      · refine lv_tableIn (off := 553) (tgt := 603) hx hb dL_law_50 (by rw [h914]; decide) (by rw [h914]; decide) (by rw [h914]; decide) (by decide) ?_
        exact lawc_14 l hst hx hb hml hown ht hX hbl hbA hKK hFx hA hN1 hN2 hB0 (by omega) hU hV hJ (by omega) (by omega) (by omega) hL hP hD hS hl key
      by_cases h915 : z = 15
      · refine lv_tableIn (off := 581) (tgt := 631) hx hb dL_law_50 (by rw [h915]; decide) (by rw [h915]; decide) (by rw [h915]; decide) (by decide) ?_
        exact lawc_15 l hst hx hb hml hown ht hX hbl hbA hKK hFx hA hN1 hN2 hB0 (by omega) hU hV hJ (by omega) (by omega) (by omega) hL hP hD hS hl key
      by_cases h916 : z = 16
      · refine lv_tableIn (off := 618) (tgt := 668) hx hb dL_law_50 (by rw [h916]; decide) (by rw [h916]; decide) (by rw [h916]; decide) (by decide) ?_
        exact lawc_16 l hst hx hb hml hown ht hX hbl hbA hKK hFx hA hN1 hN2 hB0 (by omega) hU hV hJ (by omega) (by omega) (by omega) hL hP hD hS hl key
      by_cases h917 : z = 17
      · refine lv_tableIn (off := 646) (tgt := 696) hx hb dL_law_50 (by rw [h917]; decide) (by rw [h917]; decide) (by rw [h917]; decide) (by decide) ?_
        exact lawc_17 l hst hx hb hml hown ht hX hbl hbA hKK hFx hA hN1 hN2 hB0 (by omega) hU hV hJ (by omega) (by omega) (by omega) hL hP hD hS hl key
      by_cases h918 : z = 18
      · refine lv_tableIn (off := 683) (tgt := 733) hx hb dL_law_50 (by rw [h918]; decide) (by rw [h918]; decide) (by rw [h918]; decide) (by decide) ?_
        exact lawc_18 l hst hx hb hml hown ht hX hbl hbA hKK hFx hA hN1 hN2 hB0 (by omega) hU hV hJ (by omega) (by omega) (by omega) hL hP hD hS hl key
      by_cases h919 : z = 19
      · refine lv_tableIn (off := 711) (tgt := 761) hx hb dL_law_50 (by rw [h919]; decide) (by rw [h919]; decide) (by rw [h919]; decide) (by decide) ?_
        exact lawc_19 l hst hx hb hml hown ht hX hbl hbA hKK hFx hA hN1 hN2 hB0 (by omega) hU hV hJ (by omega) (by omega) (by omega) hL hP hD hS hl key
      by_cases h920 : z = 20
      · refine lv_tableIn (off := 736) (tgt := 786) hx hb dL_law_50 (by rw [h920]; decide) (by rw [h920]; decide) (by rw [h920]; decide) (by decide) ?_
        exact lawc_20 l hst hx hb hml hown ht hX hbl hbA hKK hFx hA hN1 hN2 hB0 (by omega) hU hV hJ (by omega) (by omega) (by omega) hL hP hD hS hl key
      by_cases h921 : z = 21
      · refine lv_tableIn (off := 761) (tgt := 811) hx hb dL_law_50 (by rw [h921]; decide) (by rw [h921]; decide) (by rw [h921]; decide) (by decide) ?_
        exact lawc_21 l hst hx hb hml hown ht hX hbl hbA hKK hFx hA hN1 hN2 hB0 (by omega) hU hV hJ (by omega) (by omega) (by omega) hL hP hD hS hl key
      by_cases h922 : z = 22
      · refine lv_tableIn (off := 825) (tgt := 875) hx hb dL_law_50 (by rw [h922]; decide) (by rw [h922]; decide) (by rw [h922]; decide) (by decide) ?_
        exact lawc_22 l hst hx hb hml hown ht hX hbl hbA hKK hFx hA hN1 hN2 hB0 (by omega) hU hV hJ (by omega) (by omega) (by omega) hL hP hD hS hl key
      by_cases h923 : z = 23
      · refine lv_tableIn (off := 850) (tgt := 900) hx hb dL_law_50 (by rw [h923]; decide) (by rw [h923]; decide) (by rw [h923]; decide) (by decide) ?_
        exact lawc_23 l hst hx hb hml hown ht hX hbl hbA hKK hFx hA hN1 hN2 hB0 (by omega) hU hV hJ (by omega) (by omega) (by omega) hL hP hD hS hl key
      by_cases h924 : z = 24
      · refine lv_tableIn (off := 878) (tgt := 928) hx hb dL_law_50 (by rw [h924]; decide) (by rw [h924]; decide) (by rw [h924]; decide) (by decide) ?_
        exact lawc_24 l hst hx hb hml hown ht hX hbl hbA hKK hFx hA hN1 hN2 hB0 (by omega) hU hV hJ (by omega) (by omega) (by omega) hL hP hD hS hl key
      by_cases h925 : z = 25
      · refine lv_tableIn (off := 918) (tgt := 968) hx hb dL_law_50 (by rw [h925]; decide) (by rw [h925]; decide) (by rw [h925]; decide) (by decide) ?_
        exact lawc_25 l hst hx hb hml hown ht hX hbl hbA hKK hFx hA hN1 hN2 hB0 (by omega) hU hV hJ (by omega) (by omega) (by omega) hL hP hD hS hl key
      refine lv_tableOut (tgt := 993) hx hb dL_law_50 (by have := lv_neT h900 (a := 0) (by decide); have := lv_neT h901 (a := 1) (by decide); have := lv_neT h902 (a := 2) (by decide); have := lv_neT h903 (a := 3) (by decide); have := lv_neT h904 (a := 4) (by decide); have := lv_neT h905 (a := 5) (by decide); have := lv_neT h906 (a := 6) (by decide); have := lv_neT h907 (a := 7) (by decide); have := lv_neT h908 (a := 8) (by decide); have := lv_neT h909 (a := 9) (by decide); have := lv_neT h910 (a := 10) (by decide); have := lv_neT h911 (a := 11) (by decide); have := lv_neT h912 (a := 12) (by decide); have := lv_neT h913 (a := 13) (by decide); have := lv_neT h914 (a := 14) (by decide); have := lv_neT h915 (a := 15) (by decide); have := lv_neT h916 (a := 16) (by decide); have := lv_neT h917 (a := 17) (by decide); have := lv_neT h918 (a := 18) (by decide); have := lv_neT h919 (a := 19) (by decide); have := lv_neT h920 (a := 20) (by decide); have := lv_neT h921 (a := 21) (by decide); have := lv_neT h922 (a := 22) (by decide); have := lv_neT h923 (a := 23) (by decide); have := lv_neT h924 (a := 24) (by decide); have := lv_neT h925 (a := 25) (by decide); omega) (by decide) ?_
      refine W.widen (k := cells + 13) (n := slots + 338) (by omega) (by omega) ?_
      exact key tz gz xz g U V H locs ls (KI.mono hU (by omega)) (MIW.mono hV (by omega)) hJ hP hD hS hl
