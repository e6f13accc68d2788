/-! the class: a place is set, all four ways -/
theorem i32_11 (x : Int32) : x + 1 + 1 = x + 2 := by rw [Int32.add_assoc]; rfl
theorem i32_m11 (x : Int32) : x - 1 - 1 = x - 2 := by rw [Int32.sub_eq_add_neg, Int32.sub_eq_add_neg, Int32.sub_eq_add_neg, Int32.add_assoc]; rfl
theorem i32_s0 (x : Int32) : x - 0 = x := by simp
theorem i32_a0 (x : Int32) : x + 0 = x := by simp
theorem i32_0a (x : Int32) : 0 + x = x := by simp
theorem sPb_id (s : PS) : sPb s (pPb s) = s := rfl
theorem sPb_sPb (s : PS) (x y : Int32) : sPb (sPb s x) y = sPb s y := rfl
theorem pPb_sPb (s : PS) (x : Int32) : pPb (sPb s x) = x := rfl
def tChg (E : FE) (n z y : Int32) (P : PS → PS) (e : PE) (s : PS) : PX PS := bd (tWant n e s) fun s => bd (tOpen e (P s)) fun s => bd (E true e (sPb (em z s) (pPb s + n))) fun s => .ok (tClose (em y (sPb s (pPb s - n))))
theorem tChange_p {E : FE} {row sl : Bool} {e : PE} {s : PS} (h : (kd e s).toInt = 42) : tChange E row sl e s = tChg E ((if row = true then 1 else 0) + 0) (tPre row sl true) (tPost row sl true (kd e s + 10)) (fun s => s) e s := by
  unfold tChange
  simp only [decide_eq_true h, if_true]
  rfl
theorem tChange_o {E : FE} {row sl : Bool} {e : PE} {s : PS} (h : (kd e s).toInt ≠ 42) : tChange E row sl e s = tChg E ((if row = true then 1 else 0) + 1) (tPre row sl false) (tPost row sl false (kd e s + 10)) (tRem (kd e s + 10)) e s := by
  unfold tChange
  simp only [decide_eq_false h, if_false, Bool.false_eq_true]
  rfl
section CC2
variable {G G2 G3 : GH} {L1 L2 : List Nat} {e : PE} {v u x : MS} {t : Bool} {r pa pb pc1 pd : Int32} {c : RE1} {o : RO1} {E : FE} {O : FO} {f g : PS → PX PS}
theorem tp_want (k : K_x_X1_wantSlots v pa r u) (h : TPO v) : TPO u := tpo_fr k.1 (by decide) h
theorem cChange (hE : HE L2 c E) (h : Q_x_X2_change L1 L2 c v pa pb pc1 t u) (J : JC L2 e v) (og : OG G v) (tp : TPO v) {row sl : Bool} (hrow : row = decide (pc1.toInt ≠ 0)) (hsl : sl = decide (pa.toInt ≠ -1)) (h52 : 42 ≤ (kd e (aC G v)).toInt ∧ (kd e (aC G v)).toInt ≤ 52) : OKC G L2 e (tChange E row sl e) v t u := by
  obtain ⟨-, -, -, -, -, -, -, -, -, -, -, r3, h0, h⟩ := h
  have hk := cKind (G := G) h0 J
  rcases h with ⟨hp, h⟩ | ⟨hp, h⟩
  · refine OKC.cg (f' := tChg E ((if row = true then 1 else 0) + 1) (tPre row sl false) (tPost row sl false (r3 + 10)) (tRem (r3 + 10)) e) (by rw [hk]; exact tChange_o (by rw [← hk]; exact hp)) ?_
    have h53 : 53 ≤ (r3 + 10).toInt ∧ (r3 + 10).toInt ≤ 68 := by
      rw [← hk] at h52
      have : (r3 + 10).toInt = r3.toInt + 10 := add_z rfl (by decide) (by omega) (by omega)
      omega
    generalize hK : r3 + 10 = K at h h53 ⊢
    rcases h with ⟨hw, r11, u10, h1, k1, h⟩ | ⟨hw, r11, u10, h1, k1, h⟩
    · have rf : row = false := by rw [hrow]; exact decide_eq_false (fun w => w hw)
      subst rf
      rcases h with ⟨b, h⟩ | ⟨b, r89, h2, u9, h3, rfl, rfl⟩
      · have a1 := cWantO (G := G) h1 k1 J b
        refine OKC.bo (f := tWant 1 e) a1 ?_
        have og1 := og.kp a1.kk
        have tp1 := tp_want k1 tp
        refine OKX.st (G2 := gM G K) (q := tRem K) (f := fun s => bd (tOpen e s) fun s => bd (E true e (sPb (em (tPre false sl false) s) (pPb s + 1))) fun s => .ok (tClose (em (tPost false sl false K) (sPb s (pPb s - 1))))) (aC_gM K u10) KP.rf ?_
        rcases h with ⟨u9, h2, rfl, rfl⟩ | ⟨u19, h2, k2, r25, -, -, h⟩
        · exact OKX.bx (G3 := gM G K) (cOpen h2 nom a1.jj)
        have a2 := cOpen (G := gM G K) h2 (fun _ => k2) a1.jj
        refine OKX.bo (G2 := gM G K) a2 ?_
        have og2 : OG G u19 := og1.kp a2.kk
        refine OKX.cg (f' := fun s => bd (tBy E (vsz sl + 1) K e s) fun s => .ok (tClose (em (vsz sl) s))) ?_ ?_
        · unfold tBy
          rw [bd_as]
          have e1 : tPre false sl false = vsz sl + 1 := i32_0a _
          have e2 : tPost false sl false K = 1 + opz K + vsz sl := rfl
          simp only [bd_ok, em_em, e1, e2]
        · rcases h with ⟨u9, h3, rfl, rfl⟩ | ⟨u42, h3, k3, -, h⟩
          · exact OKX.bx (G3 := G) (cBy hE h3 a2.jj og2 (tp_open k2 tp1) (by rw [if_pos hw, hsl]) h53)
          have a3 := cBy (G := G) hE h3 a2.jj og2 (tp_open k2 tp1) (z := vsz sl + 1) (by rw [if_pos hw, hsl]) h53
          refine OKX.bo (G2 := G) a3 ?_
          have j3 : JC L2 e u42 := by
            rcases a3 with a3 | ⟨w, _⟩
            · exact a3.2.2.1
            · cases w
          rcases h with ⟨q, u49, h4, k4, u53, h5, k5, rfl, rfl⟩ | ⟨q, u49, h4, k4, u53, h5, k5, rfl, rfl⟩
          · have a4 := cAddk (G := G) (k := vsz sl) h4 k4 (by decide) (by rw [hsl, decide_eq_false (fun w => w q)]; rfl) j3
            have a5 := cClose (G := G) h5 k5 a4.2.1
            exact OKX.rt (q := fun s => tClose (em (vsz sl) s)) (by rw [a5.1, a4.1]) (a4.2.2.tr a5.2.2) a5.2.1
          · have a4 := cAddk (G := G) (k := vsz sl) h4 k4 (by decide) (by rw [hsl, decide_eq_true q]; rfl) j3
            have a5 := cClose (G := G) h5 k5 a4.2.1
            exact OKX.rt (q := fun s => tClose (em (vsz sl) s)) (by rw [a5.1, a4.1]) (a4.2.2.tr a5.2.2) a5.2.1
      · exact OKC.bx (f := tWant 1 e) (cWantX h1 k1 J b h2 h3)
    · have rf : row = true := by rw [hrow]; exact decide_eq_true hw
      subst rf
      rcases h with ⟨b, h⟩ | ⟨b, r89, h2, u9, h3, rfl, rfl⟩
      · have a1 := cWantO (G := G) h1 k1 J b
        refine OKC.bo (f := tWant 2 e) a1 ?_
        have og1 := og.kp a1.kk
        have tp1 := tp_want k1 tp
        refine OKX.st (G2 := gM G K) (q := tRem K) (f := fun s => bd (tOpen e s) fun s => bd (E true e (sPb (em 4 s) (pPb s + 2))) fun s => .ok (tClose (em (1 + opz K + 2) (sPb s (pPb s - 2))))) (aC_gM K u10) KP.rf ?_
        rcases h with ⟨u9, h2, rfl, rfl⟩ | ⟨u19, h2, k2, r25, -, -, u118, h6, k6, h⟩
        · exact OKX.bx (G3 := gM G K) (cOpen h2 nom a1.jj)
        have a2 := cOpen (G := gM G K) h2 (fun _ => k2) a1.jj
        refine OKX.bo (G2 := gM G K) a2 ?_
        have a6 := cAddk (G := gM G K) (k := 2) h6 k6 (by decide) rfl a2.jj
        have og2 : OG G (wA u118 0 314 (u118.1 0 314 + 1)) := (og1.kp a2.kk).kp a6.2.2
        have tp6 : TPE (wA u118 0 314 (u118.1 0 314 + 1)) := (tpe_fr k6.1 (by decide) (tp_open k2 tp1) : TPE u118)
        refine OKX.cg (f' := fun s => (fun s => bd (tBy E 2 K e s) fun s => .ok (tClose (em 2 (sPb s (pPb s - 1))))) (sPb (em 2 s) (pPb s + 1))) ?_ ?_
        · unfold tBy
          simp only [bd_as, bd_ok, em_em, em_pb, pPb_em, sPb_sPb, pPb_sPb, i32_11, i32_m11]
          rfl
        · refine OKX.st (G2 := gM G K) (u := wA u118 0 314 (u118.1 0 314 + 1)) (q := fun s => sPb (em 2 s) (pPb s + 1)) (f := fun s => bd (tBy E 2 K e s) fun s => .ok (tClose (em 2 (sPb s (pPb s - 1))))) ?_ (a6.2.2.tr kPb) ?_
          · have q : u118.1 0 314 = pPb (aC (gM G K) u19) := by
              have q2 : pPb (aC (gM G K) u118) = pPb (aC (gM G K) u19) := by rw [a6.1, pPb_em]
              exact q2
            rw [aPb, a6.1, q]
          rcases h with ⟨u9, h3, rfl, rfl⟩ | ⟨u140, h3, k3, -, u146, h4, k4, u150, h5, k5, rfl, rfl⟩
          · exact OKX.bx (G3 := G) (cBy hE h3 (jPb a6.2.1) og2 tp6 (by rw [if_neg hw]; rfl) h53)
          have a3 := cBy (G := G) hE h3 (jPb a6.2.1) og2 tp6 (z := 2) (by rw [if_neg hw]; rfl) h53
          refine OKX.bo (G2 := G) a3 ?_
          have j3 : JC L2 e u140 := by
            rcases a3 with a3 | ⟨w, _⟩
            · exact a3.2.2.1
            · cases w
          have a4 := cAddk (G := G) (k := 2) h4 k4 (by decide) rfl (jPb j3)
          have a5 := cClose (G := G) h5 k5 a4.2.1
          exact OKX.rt (q := fun s => tClose (em 2 (sPb s (pPb s - 1)))) (by rw [a5.1, a4.1]; rfl) ((kPb.tr a4.2.2).tr a5.2.2) a5.2.1
      · exact OKC.bx (f := tWant 2 e) (cWantX h1 k1 J b h2 h3)
  · refine OKC.cg (f' := tChg E ((if row = true then 1 else 0) + 0) (tPre row sl true) (tPost row sl true (r3 + 10)) (fun s => s) e) (by rw [hk]; exact tChange_p (by rw [← hk]; exact hp)) ?_
    generalize hK : r3 + 10 = K
    rcases h with ⟨hw, r11, u10, h1, k1, h⟩ | ⟨hw, r11, u10, h1, k1, h⟩
    · have rf : row = false := by rw [hrow]; exact decide_eq_false (fun w => w hw)
      subst rf
      rcases h with ⟨b, h⟩ | ⟨b, r89, h2, u9, h3, rfl, rfl⟩
      · have a1 := cWantO (G := G) h1 k1 J b
        refine OKC.bo (f := tWant 0 e) a1 ?_
        have og1 := og.kp a1.kk
        have tp1 := tp_want k1 tp
        rcases h with ⟨u9, h2, rfl, rfl⟩ | ⟨u19, h2, k2, r25, -, -, h⟩
        · exact OKC.bx (cOpen h2 nom a1.jj)
        have a2 := cOpen (G := G) h2 (fun _ => k2) a1.jj
        refine OKC.bo a2 ?_
        have og2 : OG G u19 := og1.kp a2.kk
        refine OKC.cg (f' := fun s => bd (E true e s) fun s => .ok (tClose (em (vsz sl) s))) ?_ ?_
        · have e1 : tPre false sl true = 0 := rfl
          have e2 : tPost false sl true K = vsz sl := i32_0a _
          simp only [e1, e2, em_z, i32_a0, i32_s0, sPb_id, Bool.false_eq_true, if_false]
        · rcases h with ⟨u9, h3, rfl, rfl⟩ | ⟨u42, h3, k3, -, h⟩
          · exact OKC.bx (hE G e u19 1 true true _ (by decide) h3 nom a2.jj og2 (tp_open k2 tp1))
          have a3 := hE G e u19 1 true false _ (by decide) h3 (fun _ => k3) a2.jj og2 (tp_open k2 tp1)
          refine OKC.bo a3 ?_
          rcases h with ⟨q, u49, h4, k4, u53, h5, k5, rfl, rfl⟩ | ⟨q, u49, h4, k4, u53, h5, k5, rfl, rfl⟩
          · have a4 := cAddk (G := G) (k := vsz sl) h4 k4 (by decide) (by rw [hsl, decide_eq_false (fun w => w q)]; rfl) a3.jj
            have a5 := cClose (G := G) h5 k5 a4.2.1
            exact OKC.rt (q := fun s => tClose (em (vsz sl) s)) (by rw [a5.1, a4.1]) (a4.2.2.tr a5.2.2) a5.2.1
          · have a4 := cAddk (G := G) (k := vsz sl) h4 k4 (by decide) (by rw [hsl, decide_eq_true q]; rfl) a3.jj
            have a5 := cClose (G := G) h5 k5 a4.2.1
            exact OKC.rt (q := fun s => tClose (em (vsz sl) s)) (by rw [a5.1, a4.1]) (a4.2.2.tr a5.2.2) a5.2.1
      · exact OKC.bx (f := tWant 0 e) (cWantX h1 k1 J b h2 h3)
    · have rf : row = true := by rw [hrow]; exact decide_eq_true hw
      subst rf
      rcases h with ⟨b, h⟩ | ⟨b, r89, h2, u9, h3, rfl, rfl⟩
      · have a1 := cWantO (G := G) h1 k1 J b
        refine OKC.bo (f := tWant 1 e) a1 ?_
        have og1 := og.kp a1.kk
        have tp1 := tp_want k1 tp
        rcases h with ⟨u9, h2, rfl, rfl⟩ | ⟨u19, h2, k2, r25, -, -, u118, h6, k6, h⟩
        · exact OKC.bx (cOpen h2 nom a1.jj)
        have a2 := cOpen (G := G) h2 (fun _ => k2) a1.jj
        refine OKC.bo a2 ?_
        have a6 := cAddk (G := G) (k := 2) h6 k6 (by decide) rfl a2.jj
        have og2 : OG G (wA u118 0 314 (u118.1 0 314 + 1)) := (og1.kp a2.kk).kp a6.2.2
        have tp6 : TPE (wA u118 0 314 (u118.1 0 314 + 1)) := (tpe_fr k6.1 (by decide) (tp_open k2 tp1) : TPE u118)
        show OKC G L2 e (fun s => (fun s => bd (E true e s) fun s => .ok (tClose (em 2 (sPb s (pPb s - 1))))) (sPb (em 2 s) (pPb s + 1))) u19 t u
        refine OKC.st (u := wA u118 0 314 (u118.1 0 314 + 1)) (q := fun s => sPb (em 2 s) (pPb s + 1)) (f := fun s => bd (E true e s) fun s => .ok (tClose (em 2 (sPb s (pPb s - 1))))) ?_ (a6.2.2.tr kPb) ?_
        · have q : u118.1 0 314 = pPb (aC G u19) := by
            have q2 : pPb (aC G u118) = pPb (aC G u19) := by rw [a6.1, pPb_em]
            exact q2
          rw [aPb, a6.1, q]
        rcases h with ⟨u9, h3, rfl, rfl⟩ | ⟨u140, h3, k3, -, u146, h4, k4, u150, h5, k5, rfl, rfl⟩
        · exact OKC.bx (hE G e _ 1 true true _ (by decide) h3 nom (jPb a6.2.1) og2 tp6)
        have a3 := hE G e _ 1 true false _ (by decide) h3 (fun _ => k3) (jPb a6.2.1) og2 tp6
        refine OKC.bo a3 ?_
        have a4 := cAddk (G := G) (k := 2) h4 k4 (by decide) rfl (jPb a3.jj)
        have a5 := cClose (G := G) h5 k5 a4.2.1
        exact OKC.rt (q := fun s => tClose (em 2 (sPb s (pPb s - 1)))) (by rw [a5.1, a4.1]; rfl) ((kPb.tr a4.2.2).tr a5.2.2) a5.2.1
      · exact OKC.bx (f := tWant 1 e) (cWantX h1 k1 J b h2 h3)
end CC2
