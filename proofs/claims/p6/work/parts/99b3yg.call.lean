/-! both meanings side by side: functions are entered -/
def FUN (g : GC) (L1 : List Nat) (v0 w0 : MS) : Prop := (v0.1 0 375 = w0.1 0 74 ∧ (w0.1 0 74).toInt ≤ 40) ∧ ∀ c : Nat, (c : Int) < (w0.1 0 74).toInt → zOk g c 0 ∧ (rF L1 v0 c 0 = w0.1 78 c ∧ rF L1 v0 c 2 = w0.1 79 c) ∧ ((w0.1 79 c).toInt = 8 + 4 * (zMm g c : Int) ∧ zMm g c ≤ 500) ∧ ((w0.1 82 c).toInt = zLo g c ∧ zLo g c ≤ zMm g c ∧ 0 ≤ (w0.1 78 c).toInt ∧ (w0.1 78 c).toInt ≤ zLo g c) ∧ ((rF L1 v0 c 5).toInt + 1 = zPd g c 0 ∧ v0.1 378 (rF L1 v0 c 5).toNatClampNeg = 0 ∧ 0 ≤ (rF L1 v0 c 5).toInt ∧ (rF L1 v0 c 5).toInt < (v0.1 0 381).toInt ∧ (w0.1 81 c).toInt = zPo g c 0) ∧ le3 ((w0.1 78 c).toNatClampNeg, 0, 0) (zTy g c 0)
section YGE
variable {g : GC} {N : Nat} {ng lim : Int} {L1 L2 : List Nat} {K : TK} {fn : Nat → Int32} {v0 w0 : MS} {v w u : MS} {pa pb r : Int32} {c T : Nat}
theorem ffR {pb9 : Int32} (A : AG v0 v) (G : FUN g L1 v0 w0) (h0 : pa.toInt = c) (h1 : (c : Int) < (w0.1 0 74).toInt) (hb : 0 ≤ pb9.toInt ∧ pb9.toInt < 6) (h : Q_x_X7_functionFact L1 L2 v pa pb9 r) : r = rF L1 v0 c pb9.toNatClampNeg := by
  have n : pa.toNatClampNeg = c := natC h0
  have g1 := G.1
  have e : (v.1 0 375).toInt = (w0.1 0 74).toInt := by rw [A.1 375 (by decide), g1.1]
  have e2 : v.1 (5000 + rowA L1 c) = v0.1 (5000 + rowA L1 c) := A.2 _ (by
    simp only [List.mem_cons, List.not_mem_nil, or_false, not_or]
    omega)
  rcases h with ⟨q, -⟩ | ⟨-, ⟨q, -⟩ | ⟨-, ⟨-, ⟨q, -⟩ | ⟨-, ⟨q, -⟩ | ⟨-, h⟩⟩⟩ | ⟨q, -⟩⟩⟩
  · omega
  · omega
  · omega
  · omega
  · rw [h, n, e2]
    rfl
  · omega
/-- how the class enters a function: the pile of frames is full; no turn is left; it goes on -/
theorem cEnter (A : AG v0 v) (G : FUN g L1 v0 w0) (hN : N ≤ 4096) (h57 : (v0.1 0 357).toInt = 4 * (N : Int)) (h84 : (v0.1 0 384).toInt = lim) (hl : 0 ≤ lim ∧ lim ≤ 16384) (h0 : pa.toInt = c) (h1 : (c : Int) < (w0.1 0 74).toInt) (hT : (v.1 0 366).toInt = T) (hT2 : T ≤ 8192) (g62 : v.1 0 362 = -1) (h : Q_x_X10_enter L1 L2 N v pa pb u) :
    (4 * (N : Int) - lim < 4 * ((T : Int) + 2 + zMm g c) + 8 ∧ u = wA v 0 362 1) ∨ (4 * ((T : Int) + 2 + zMm g c) + 8 ≤ 4 * (N : Int) - lim ∧ (((v.1 0 367).toInt ≤ (v.1 0 368).toInt ∧ u = wA v 0 362 4) ∨
      ((v.1 0 368).toInt < (v.1 0 367).toInt ∧ ∃ z t : Int32, z.toInt = (T : Int) + 2 + zMm g c ∧ t = (if (v.1 0 369).toInt < 4 * ((T : Int) + 2 + zMm g c) then 4 * z else v.1 0 369) ∧ u = wA (wA (wA (wA (wA (wA (wA v 0 368 (v.1 0 368 + 1)) 358 T pb) 358 (T + 1) (v.1 0 365)) 0 365 (v.1 0 366)) 0 366 z) 0 369 t) 0 364 (rF L1 v0 c 5)))) := by
  obtain ⟨-, ⟨-, g2⟩, ⟨g3, g4⟩, -, -, -⟩ := G.2 c h1
  obtain ⟨r3, f3, -, h⟩ := h
  have f3 := ffR A G h0 h1 (by decide) f3
  have f3 : r3 = w0.1 79 c := f3.trans g2
  have sh := shr2_f (x := r3) (by rw [f3]; omega)
  rw [f3, g3] at sh
  obtain ⟨W, hW⟩ : ∃ W, W = (w0.1 79 c >>> ((2 : Int32) &&& 31)) := ⟨_, rfl⟩
  rw [f3] at h
  rw [← hW] at sh h
  have w1 : W.toInt = 2 + (zMm g c : Int) := by omega
  have a1 : (v.1 0 366 + W).toInt = (T : Int) + 2 + zMm g c := (add_z hT w1 (by omega) (by omega) : (v.1 0 366 + W).toInt = (T : Int) + (2 + (zMm g c : Int))).trans (by omega)
  have a2 : ((4 : Int32) * (v.1 0 366 + W)).toInt = 4 * ((T : Int) + 2 + zMm g c) := mul_z (by decide) a1 (by omega) (by omega)
  have a3 : ((4 : Int32) * (v.1 0 366 + W) + 8).toInt = 4 * ((T : Int) + 2 + zMm g c) + 8 := add_z a2 (by decide) (by omega) (by omega)
  have a4 : (v.1 0 357 - v.1 0 384).toInt = 4 * (N : Int) - lim := by rw [A.1 357 (by decide), A.1 384 (by decide)]; exact sub_z h57 h84 (by omega) (by omega)
  rcases h with ⟨q, u7, t7, -, h⟩ | ⟨q, h⟩
  · rw [a3, a4] at q
    right
    refine ⟨q, ?_⟩
    rcases t7 with ⟨t1, t7⟩ | ⟨t1, t7⟩
    · right
      refine ⟨t1, ?_⟩
      rcases h with ⟨-, u12, f12, -, u15, f15, -, g17, hg, r22, f22, -, h⟩ | ⟨q2, -⟩
      · rw [t7] at f12
        have f12 := fwW (n := T) hN (show ((wA v 0 368 (v.1 0 368 + 1)).1 0 366).toInt = T from hT) (by omega) f12
        rw [f12] at f15
        have i1 : (v.1 0 366 + 1).toInt = ((T + 1 : Nat) : Int) := (add_z hT (by decide) (by omega) (by omega) : (v.1 0 366 + 1).toInt = (T : Int) + 1).trans (by omega)
        have f15 := fwW (n := T + 1) hN i1 (by omega) f15
        rw [f15] at h hg f22
        have A5 : AG v0 (wA (wA (wA (wA (wA (wA v 0 368 (v.1 0 368 + 1)) 358 T pb) 358 (T + 1) (v.1 0 365)) 0 365 (v.1 0 366)) 0 366 (v.1 0 366 + W)) 0 369 g17) := by
          refine ⟨fun k9 hk => ?_, fun a9 ha => ?_⟩
          · simp only [List.mem_cons, List.not_mem_nil, or_false, not_or] at hk
            have := A.1 k9 (by simp only [List.mem_cons, List.not_mem_nil, or_false, not_or]; exact hk)
            rw [← this]
            show upd (upd (upd (upd (v.1 0) 368 _) 365 _) 366 _) 369 _ k9 = _
            rw [updN_ (by omega), updN_ (by omega), updN_ (by omega), updN_ (by omega)]
          · have := A.2 a9 ha
            simp only [List.mem_cons, List.not_mem_nil, or_false, not_or] at ha
            rw [← this]
            show (if a9 = 0 then _ else if a9 = 0 then _ else if a9 = 0 then _ else if a9 = 358 then _ else if a9 = 358 then _ else if a9 = 0 then _ else v.1 a9) = _
            rw [if_neg ha.1, if_neg ha.1, if_neg ha.1, if_neg ha.2.1, if_neg ha.2.1, if_neg ha.1]
        have f22 := ffR A5 G h0 h1 (by decide) f22
        refine ⟨v.1 0 366 + W, g17, a1, ?_, ?_⟩
        · rw [hg]
          show (if v.1 0 369 < (4 : Int32) * (v.1 0 366 + W) then (4 : Int32) * (v.1 0 366 + W) else v.1 0 369) = _
          by_cases z : (v.1 0 369).toInt < 4 * ((T : Int) + 2 + zMm g c)
          · rw [if_pos z, if_pos (Int32.lt_iff_toInt_lt.mpr (by rw [a2]; exact z))]
          · rw [if_neg z, if_neg (fun y => z (by rw [← a2]; exact Int32.lt_iff_toInt_lt.mp y))]
        · rw [h, f22]
          rfl
      · rw [t7] at q2
        exact absurd (show ((wA v 0 368 (v.1 0 368 + 1)).1 0 362).toInt = -1 from by show (v.1 0 362).toInt = -1; rw [g62]; decide) q2
    · left
      refine ⟨t1, ?_⟩
      rcases h with ⟨q2, -⟩ | ⟨-, h⟩
      · rw [t7] at q2
        exact absurd q2 (by show ¬ (4 : Int32).toInt = -1; decide)
      · rw [h, t7]
  · left
    rw [a3, a4] at q
    exact ⟨q, h⟩
end YGE
