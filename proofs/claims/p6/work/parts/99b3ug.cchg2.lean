/-! the class's deeds: a setting, all four ways -/
section UGC
variable {L1 L2 : List Nat} {P : Int32 × Int32 × Int32} {v u w : MS} {a b : List EV} {e : PE} {pa pb pc1 pd r : Int32} {t : Bool} {E : EvE} {R : MS → Int32 → Bool → MS → Prop}
theorem ES.cm (h : ES L2 e P v u a) : (v.1 0 321).toInt ≤ (u.1 0 321).toInt := h.2.1.cm
theorem ES.w14 {x : Int32} (h : ES L2 e P v u a) (B : LBe v) : JC L2 e (wA u 0 314 x) ∧ EA P v (wA u 0 314 x) a ∧ LBe (wA u 0 314 x) := by
  have T := h.2.1.tr (EA.wr (P := P) (v := u) 314 x) B.2.2.2
  rw [List.append_nil] at T
  exact ⟨h.1.w14, T, h.2.2.1⟩
set_option maxHeartbeats 1600000 in
theorem eChange {sl : Int} {row : Bool} (hE : XE L2 R E) (h : Q_x_X2_change L1 L2 R v pa pb pc1 false u) (J : JC L2 e v) (B : LBe v) (tp : TPO v) (c : (u.1 0 321).toInt ≤ 500) (hs : (pa.toInt = -1 → sl < 0) ∧ (pa.toInt ≠ -1 → 0 ≤ sl ∧ pa = Int32.ofInt sl)) (hr : decide (pc1.toInt ≠ 0) = row) :
    ∃ a, gChange E row sl pb e (knC v) (v.1 0 314) (v.1 0 305) = some (a, u.1 0 305) ∧ ES L2 e P v u a := by
  have gs := gslC (v := v) B.2.2.1
  have p20 : plE 20 := by unfold plE; decide
  obtain ⟨-, -, -, -, -, -, -, -, -, -, -, r3, hk, h⟩ := h
  have ek := kdC hk J
  unfold gChange
  dsimp only
  rw [← ek, gs]
  rcases h with ⟨k42, ⟨c0, r11, u10, h10, k10, ⟨-, ⟨u9, -, q, -⟩ | ⟨u19, h19, k19, r25, h25, -, ⟨u9, -, q, -⟩ | ⟨u42, h42, k42', -, hx⟩⟩⟩ | ⟨-, r89, -, u9, -, q, -⟩⟩ | ⟨c0, r11, u10, h10, k10, ⟨-, ⟨u9, -, q, -⟩ | ⟨u19, h19, k19, r25, h25, -, u118, h118, k118, ⟨u9, -, q, -⟩ | ⟨u42, h42, k42', -, x, hx, kx, y, hy, ky, -, e9⟩⟩⟩ | ⟨-, r89, -, u9, -, q, -⟩⟩⟩ | ⟨k42, ⟨c0, r11, u10, h10, k10, ⟨-, ⟨u9, -, q, -⟩ | ⟨u19, h19, k19, r25, h25, -, ⟨u9, -, q, -⟩ | ⟨u42, h42, k42', -, hx⟩⟩⟩ | ⟨-, r89, -, u9, -, q, -⟩⟩ | ⟨c0, r11, u10, h10, k10, ⟨-, ⟨u9, -, q, -⟩ | ⟨u19, h19, k19, r25, h25, -, u118, h118, k118, ⟨u9, -, q, -⟩ | ⟨u42, h42, k42', -, x, hx, kx, y, hy, ky, -, e9⟩⟩⟩ | ⟨-, r89, -, u9, -, q, -⟩⟩⟩
  · cases q
  · cases q
  · -- by a sign, no row
    have er : row = false := by rw [← hr, c0]; decide
    rw [er, if_neg k42]
    simp only [Bool.false_eq_true, if_false, Int32.add_zero]
    have W := ES.want (P := P) h10 k10 J B
    have O := ES.opn (P := P) h19 k19 W.1.1 W.1.2.2.1
    have WO := W.1.tr O.1 B
    have cx : (u42.1 0 321).toInt ≤ 500 := by
      rcases hx with ⟨-, x, hx, kx, y, hy, ky, -, e9⟩ | ⟨-, x, hx, kx, y, hy, ky, -, e9⟩ <;> (rw [e9, ky.1.2.1 321 (by decide), kx.1.2.1 321 (by decide)] at c; exact c)
    obtain ⟨a, x1, x2, x3, x4, x5, x6, x7⟩ := eChgBy (P := P) hE h42 O.1.1 O.1.2.2.1 (tp_open k19 (tpo_fr k10.1 (by decide) tp)) cx hs p20
    have S := WO.tr (b := _) ⟨x2, x3, x5, x6, x4, x7⟩ B
    have F := ePut (P := P) hx x2 x5 hs
    have T := S.tr F.1 B
    have e0 : prE (decide (pc1.toInt ≠ 0)) sl pb = gRead sl pb := if_neg (by rw [c0]; decide)
    rw [e0, WO.2.2.2.2.1, WO.2.2.2.2.2, ek] at T
    have y1 : u19.1 0 305 = v.1 0 305 + 1 := by rw [O.2, W.2]
    rw [WO.2.2.2.1, WO.2.2.2.2.1, y1] at x1
    rw [x1, Option.bind_some, F.2]
    refine ⟨_, rfl, ?_⟩
    simp only [List.nil_append, List.append_nil, List.append_assoc, List.cons_append, List.singleton_append] at T ⊢
    rw [ek]
    exact T
  · cases q
  · cases q
  · cases q
  · -- by a sign, a row
    have er : row = true := by rw [← hr]; exact decide_eq_true c0
    rw [er, if_neg k42]
    simp only [if_true]
    have W := ES.want (P := P) h10 k10 J B
    have O := ES.opn (P := P) h19 k19 W.1.1 W.1.2.2.1
    have WO := W.1.tr O.1 B
    have e25 : r25 = v.1 0 312 + v.1 0 314 := by rw [← WO.2.2.2.2.1, ← WO.2.2.2.2.2]; exact h25.2
    have H := ES.add (P := P) (y := r25) h118 k118 O.1.1 O.1.2.2.1 (by unfold plE; decide) rfl
    have WH := WO.tr H.1 B
    have Y := WH.w14 (x := u118.1 0 314 + 1) B
    have cx : (u42.1 0 321).toInt ≤ 500 := by
      rw [e9, ky.1.2.1 321 (by decide), kx.1.2.1 321 (by decide)] at c
      exact c
    obtain ⟨a, x1, x2, x3, x4, x5, x6, x7⟩ := eChgBy (P := P) (sl := sl) hE h42 Y.1 Y.2.2 (show TPE (wA u118 0 314 _) from (tpe_fr k118.1 (by decide) (tp_open k19 (tpo_fr k10.1 (by decide) tp)) : TPE u118)) cx hs p20
    have S := Y.2.1.tr x3 B.2.2.2
    have Z := S.tr (EA.wr (P := P) (v := u42) 314 (u42.1 0 314 - 1)) B.2.2.2
    have A := ES.add (P := P) (y := 0) hx kx x2.w14 (show LBe (wA u42 0 314 _) from x5) (by unfold plE; decide) rfl
    have C := ES.close (P := P) hy ky A.1.1 A.1.2.2.1
    have T := (Z.tr A.1.2.1 B.2.2.2).tr C.1.2.1 B.2.2.2
    have e0 : prE (decide (pc1.toInt ≠ 0)) sl pb = evx 10 0 0 := if_pos (decide_eq_true c0)
    have y1 : u118.1 0 305 = v.1 0 305 + 1 := by rw [H.2, O.2, W.2]
    have y2 : u118.1 0 314 = v.1 0 314 := WH.2.2.2.2.1
    have y3 : u118.1 0 312 = v.1 0 312 := WH.2.2.2.2.2
    have x1 : E true e (knC u118) (u118.1 0 314 + 1 + 1) (u118.1 0 305) = some (a, u42.1 0 305) := x1
    rw [WH.2.2.2.1, y1, y2] at x1
    rw [x1, Option.bind_some]
    have T : EA P v y (((([] ++ [] ++ [evx 9 pb r25] ++ ([prE (decide (pc1.toInt ≠ 0)) sl pb] ++ [evx 4 (u118.1 0 312 + (u118.1 0 314 + 1)) 0] ++ a ++ [evx 20 (r3 + 10) (u118.1 0 312 + (u118.1 0 314 + 1))])) ++ []) ++ [evx 11 r25 0]) ++ []) := T
    rw [e0, y2, y3, e25, ← Int32.add_assoc] at T
    have z14 : u42.1 0 314 - 1 = v.1 0 314 := by
      rw [x4]
      show u118.1 0 314 + 1 - 1 = _
      rw [y2]
      exact a1s1 _
    have y5 : y.1 0 305 = u42.1 0 305 := by rw [C.2, A.2]; rfl
    rw [e9, y5]
    refine ⟨_, rfl, C.1.1, ?_, C.1.2.2.1, ?_, ?_, ?_⟩
    · simp only [List.nil_append, List.append_nil, List.append_assoc, List.cons_append, List.singleton_append] at T ⊢
      exact T
    · rw [C.1.2.2.2.1, A.1.2.2.2.1]
      exact x6.trans WH.2.2.2.1
    · rw [C.1.2.2.2.2.1, A.1.2.2.2.2.1]
      exact z14
    · rw [C.1.2.2.2.2.2, A.1.2.2.2.2.2]
      exact x7.trans y3
  · cases q
  · cases q
  · cases q
  · -- plain, no row
    have er : row = false := by rw [← hr, c0]; decide
    rw [er, if_pos k42]
    simp only [Bool.false_eq_true, if_false, Int32.add_zero]
    have W := ES.want (P := P) h10 k10 J B
    have O := ES.opn (P := P) h19 k19 W.1.1 W.1.2.2.1
    have WO := W.1.tr O.1 B
    have cx : (u42.1 0 321).toInt ≤ 500 := by
      rcases hx with ⟨-, x, hx, kx, y, hy, ky, -, e9⟩ | ⟨-, x, hx, kx, y, hy, ky, -, e9⟩ <;> (rw [e9, ky.1.2.1 321 (by decide), kx.1.2.1 321 (by decide)] at c; exact c)
    obtain ⟨a, x1, x2⟩ := hE.es (P := P) (bz := true) h42 k42' O.1.1 O.1.2.2.1 (tp_open k19 (tpo_fr k10.1 (by decide) tp)) cx (by decide)
    have F := ePut (P := P) hx x2.1 x2.2.2.1 hs
    have T := (WO.tr x2 B).tr F.1 B
    have y1 : u19.1 0 305 = v.1 0 305 + 1 := by rw [O.2, W.2]
    rw [WO.2.2.2.1, WO.2.2.2.2.1, y1] at x1
    rw [x1, Option.bind_some, F.2]
    refine ⟨_, rfl, ?_⟩
    simp only [List.nil_append, List.append_nil, List.append_assoc, List.cons_append, List.singleton_append] at T ⊢
    exact T
  · cases q
  · cases q
  · cases q
  · -- plain, a row
    have er : row = true := by rw [← hr]; exact decide_eq_true c0
    rw [er, if_pos k42]
    simp only [if_true]
    have W := ES.want (P := P) h10 k10 J B
    have O := ES.opn (P := P) h19 k19 W.1.1 W.1.2.2.1
    have WO := W.1.tr O.1 B
    have e25 : r25 = v.1 0 312 + v.1 0 314 := by rw [← WO.2.2.2.2.1, ← WO.2.2.2.2.2]; exact h25.2
    have H := ES.add (P := P) (y := r25) h118 k118 O.1.1 O.1.2.2.1 (by unfold plE; decide) rfl
    have WH := WO.tr H.1 B
    have cx : (u42.1 0 321).toInt ≤ 500 := by
      rw [e9, ky.1.2.1 321 (by decide), kx.1.2.1 321 (by decide)] at c
      exact c
    obtain ⟨a, x1, x2, x3, x4, x5, x6, x7⟩ := eHold (P := P) hE h42 k42' H.1.1 H.1.2.2.1 (tpe_fr k118.1 (by decide) (tp_open k19 (tpo_fr k10.1 (by decide) tp))) cx
    have S := WH.2.1.tr x3 B.2.2.2
    have Z := S.tr (EA.wr (P := P) (v := u42) 314 (u42.1 0 314 - 1)) B.2.2.2
    have A := ES.add (P := P) (y := 0) hx kx x2.w14 (show LBe (wA u42 0 314 _) from x5) (by unfold plE; decide) rfl
    have C := ES.close (P := P) hy ky A.1.1 A.1.2.2.1
    have T := (Z.tr A.1.2.1 B.2.2.2).tr C.1.2.1 B.2.2.2
    have y1 : u118.1 0 305 = v.1 0 305 + 1 := by rw [H.2, O.2, W.2]
    have y2 : u118.1 0 314 = v.1 0 314 := WH.2.2.2.2.1
    have y3 : u118.1 0 312 = v.1 0 312 := WH.2.2.2.2.2
    rw [WH.2.2.2.1, y1, y2] at x1
    rw [x1, Option.bind_some]
    rw [e25] at T
    have y5 : y.1 0 305 = u42.1 0 305 := by rw [C.2, A.2]; rfl
    rw [e9, y5]
    refine ⟨_, rfl, C.1.1, ?_, C.1.2.2.1, ?_, ?_, ?_⟩
    · simp only [List.nil_append, List.append_nil, List.append_assoc, List.cons_append, List.singleton_append] at T ⊢
      exact T
    · rw [C.1.2.2.2.1, A.1.2.2.2.1]
      exact x6.trans WH.2.2.2.1
    · rw [C.1.2.2.2.2.1, A.1.2.2.2.2.1]
      exact x4.trans y2
    · rw [C.1.2.2.2.2.2, A.1.2.2.2.2.2]
      exact x7.trans y3
  · cases q
end UGC
