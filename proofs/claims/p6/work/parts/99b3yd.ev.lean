/-! both meanings side by side: events that push, change the top, pop (written by gyd.py) -/
def AG (v0 v : MS) : Prop := (∀ k, k ∉ [362, 363, 364, 365, 366, 368, 369, 370, 371] → v.1 0 k = v0.1 0 k) ∧ (∀ a, a ∉ [0, 358, 359, 360] → v.1 a = v0.1 a)
def AGM (w0 w : MS) : Prop := (∀ k, k ∉ [106, 110, 111, 112, 113, 115, 116, 119, 120, 121] → w.1 0 k = w0.1 0 k) ∧ (∀ a, a ∉ [0, 105, 107, 108, 109, 117, 118] → w.1 a = w0.1 a)
def CTX (g : GC) (N : Nat) (ng lim : Int) (L1 : List Nat) (K : TK) (fn : Nat → Int32) (v0 w0 : MS) (ka : Int) (v w : MS) (f k B b : Nat) (p : Int) (P PO : Nat) (q : EV) (s : ST3) : Prop :=
  AG v0 v ∧ AGM w0 w ∧ STA g N ng lim ka v w f k B b p s ∧ (v.1 0 364).toInt = P ∧ (w.1 0 112).toInt = PO ∧ DTq L1 v0 q P ∧ (loE q = 0 ∨ (w0.1 71 PO = oEv q ∧ mxA K fn w0 q PO)) ∧ preT q s ∧ ((v0.1 0 381).toInt ≤ 3008 ∧ N ≤ 4096 ∧ 0 ≤ lim ∧ ka < 1000000000) ∧ (∃ T E h, MI T E h w (w.1 0 112))
/-- behind an event -/
def FAL (g : GC) (N : Nat) (ng lim ka : Int) (f k B b : Nat) (p : Int) (P PO : Nat) (q : EV) (s : ST3) (w u y : MS) : Prop :=
  STA g N ng lim (ka + 1) u y f k B b p (postT q s) ∧ (u.1 0 364).toInt = (P : Int) + ldE q ∧ (y.1 0 112).toInt = (PO : Int) + loE q ∧ y.1 0 113 = w.1 0 113
/-- where a leap leads -/
def LEA (g : GC) (N : Nat) (ng lim ka : Int) (f k B b : Nat) (p : Int) (P PO : Nat) (q : EV) (s : ST3) (w u y : MS) : Prop :=
  STA g N ng lim (ka + 1) u y f k B b p (leapT q s) ∧ (u.1 0 364).toInt = (P : Int) + q.2.2.2.1 ∧ (y.1 0 112).toInt = (PO : Int) + q.2.2.2.2.1 ∧ y.1 0 113 = w.1 0 113
/-- both have ended alike -/
def FIN (ng ka : Int) (v w : MS) : Prop := (v.1 0 362 = w.1 0 121 ∧ v.1 0 362 ≠ -1) ∧ CNT ng ka v w ∧ (w.1 0 121 = 0 → v.1 0 363 = w.1 105 (w.1 0 106 - 1).toNatClampNeg)
section YDE
variable {g : GC} {N : Nat} {ng lim : Int} {L1 L2 : List Nat} {K : TK} {fn : Nat → Int32} {v0 w0 : MS} {ka : Int} {v w u u2 : MS} {f k B b : Nat} {p : Int} {P PO : Nat} {q : EV} {kc pb hh : Nat} {r : Int32} {s : ST3}
theorem clP (A : AG v0 v) (hp : (v.1 0 364).toInt = (P : Int)) (d : DTq L1 v0 q P) (h25 : q.1 ≠ 25) (h9 : (v0.1 0 381).toInt ≤ 3008) : (0 ≤ (v.1 0 364).toInt ∧ (v.1 0 364).toInt < (v.1 0 381).toInt) ∧ (v.1 0 364 + 1).toInt = (P : Int) + 1 ∧ v.1 378 (v.1 0 364).toNatClampNeg = v0.1 378 P ∧ v.1 379 (v.1 0 364).toNatClampNeg = v0.1 379 P ∧ v.1 380 (v.1 0 364).toNatClampNeg = v0.1 380 P := by
  have d1 := d.1
  have l : ldE q = 1 := if_neg h25
  have n : (v.1 0 364).toNatClampNeg = P := natC hp
  rw [n, A.1 381 (by decide), A.2 378 (by decide), A.2 379 (by decide), A.2 380 (by decide)]
  refine ⟨⟨by omega, by omega⟩, ?_, rfl, rfl, rfl⟩
  have : (v.1 0 364 + 1).toInt = (v.1 0 364).toInt + 1 := add_z rfl (by decide) (by omega) (by omega)
  omega
theorem dPl (d : DTq L1 v0 q P) (h : ¬ (q.1 = 25 ∨ q.1 = 16 ∨ q.1 = 17 ∨ q.1 = 18 ∨ q.1 = 19 ∨ q.1 = 33 ∨ q.1 = 21)) : v0.1 378 P = q.1 ∧ v0.1 379 P = q.2.1 ∧ v0.1 380 P = (if q.1 = 4 then 0 else q.2.2.1) := by
  have d2 := d.2
  rw [if_neg (fun w => h (Or.inl w)), if_neg (fun w => h (by rcases w with w | w | w | w <;> simp [w])), if_neg (fun w => h (by simp [w])), if_neg (fun w => h (by simp [w]))] at d2
  exact d2.2
theorem dLp (d : DTq L1 v0 q P) (h : q.1 = 16 ∨ q.1 = 17 ∨ q.1 = 18 ∨ q.1 = 19) : v0.1 378 P = q.1 ∧ (v0.1 379 P).toInt = P + q.2.2.2.1 := by
  have d2 := d.2
  rw [if_neg (fun w => by rcases h with h | h | h | h <;> (rw [h] at w; exact absurd w (by decide))), if_pos h] at d2
  exact d2
theorem moP {T : Nat → Nat → TT} {E : Nat → Nat} {h : Nat → Int} (Am : AGM w0 w) (hp : (w.1 0 112).toInt = (PO : Int)) (m : loE q = 0 ∨ (w0.1 71 PO = oEv q ∧ mxA K fn w0 q PO)) (h1 : loE q = 1) (mi : MI T E h w (w.1 0 112)) : w.1 71 (w.1 0 112).toNatClampNeg = oEv q ∧ w.1 72 (w.1 0 112).toNatClampNeg = w0.1 72 PO ∧ mxA K fn w0 q PO ∧ (w.1 0 112 + 1).toInt = (PO : Int) + 1 := by
  have n : (w.1 0 112).toNatClampNeg = PO := natC hp
  have l := mi.lin
  rw [n, Am.2 71 (by decide), Am.2 72 (by decide)]
  rcases m with m | ⟨m1, m2⟩
  · omega
  refine ⟨m1, rfl, m2, ?_⟩
  have : (w.1 0 112 + 1).toInt = (w.1 0 112).toInt + 1 := add_z rfl (by decide) (by omega) (by omega)
  omega
theorem loE_1 (h : ¬ (q.1 = 0 ∨ q.1 = 4 ∨ q.1 = 9)) : loE q = 1 := by
  unfold loE
  rw [if_neg (fun w => h (by rcases w with w | w | w; exact Or.inl w; exact Or.inr (Or.inl w.1); exact Or.inr (Or.inr w)))]
theorem oE_1 (h : q.1 = 1) : oEv q = 15 := by
  unfold oEv
  rw [h]
  rfl
theorem oE_2 (h : q.1 = 2) : oEv q = 0 := by
  unfold oEv
  rw [h]
  rfl
theorem oE_3 (h : q.1 = 3) : oEv q = 1 := by
  unfold oEv
  rw [h]
  rfl
theorem oE_4 (h : q.1 = 4) : oEv q = 2 := by
  unfold oEv
  rw [h]
  rfl
theorem oE_5 (h : q.1 = 5) : oEv q = 3 := by
  unfold oEv
  rw [h]
  rfl
theorem oE_6 (h : q.1 = 6) : oEv q = 4 := by
  unfold oEv
  rw [h]
  rfl
theorem oE_7 (h : q.1 = 7) : oEv q = 5 := by
  unfold oEv
  rw [h]
  rfl
theorem oE_8 (h : q.1 = 8) : oEv q = 6 := by
  unfold oEv
  rw [h]
  rfl
theorem oE_10 (h : q.1 = 10) : oEv q = 7 := by
  unfold oEv
  rw [h]
  rfl
theorem oE_11 (h : q.1 = 11) : oEv q = 8 := by
  unfold oEv
  rw [h]
  rfl
theorem oE_12 (h : q.1 = 12) : oEv q = 18 := by
  unfold oEv
  rw [h]
  rfl
theorem oE_13 (h : q.1 = 13) : oEv q = 19 := by
  unfold oEv
  rw [h]
  rfl
theorem oE_14 (h : q.1 = 14) : oEv q = 20 := by
  unfold oEv
  rw [h]
  rfl
theorem oE_15 (h : q.1 = 15) : oEv q = 24 := by
  unfold oEv
  rw [h]
  rfl
theorem oE_17 (h : q.1 = 17) : oEv q = 11 := by
  unfold oEv
  rw [h]
  rfl
theorem oE_18 (h : q.1 = 18) : oEv q = 23 := by
  unfold oEv
  rw [h]
  rfl
theorem oE_19 (h : q.1 = 19) : oEv q = 12 := by
  unfold oEv
  rw [h]
  rfl
theorem oE_20 (h : q.1 = 20) : oEv q = 21 := by
  unfold oEv
  rw [h]
  rfl
theorem oE_21 (h : q.1 = 21) : oEv q = 14 := by
  unfold oEv
  rw [h]
  rfl
theorem oE_22 (h : q.1 = 22) : oEv q = 16 := by
  unfold oEv
  rw [h]
  rfl
theorem oE_23 (h : q.1 = 23) : oEv q = 17 := by
  unfold oEv
  rw [h]
  rfl
theorem oE_24 (h : q.1 = 24) : oEv q = 13 := by
  unfold oEv
  rw [h]
  rfl
theorem oE_25 (h : q.1 = 25) : oEv q = 9 := by
  unfold oEv
  rw [h]
  rfl
theorem oE_33 (h : q.1 = 33) : oEv q = 15 := by
  unfold oEv
  rw [h]
  rfl
theorem oE_16 (h : q.1 = 16) : oEv q = if q.2.2.1 = 1 then 22 else 10 := by
  unfold oEv
  rw [h]
  rfl
theorem ev_2 (ht : q.1 = 2) (C : CTX g N ng lim L1 K fn v0 w0 ka v w f k B b p P PO q (kc, pb, hh)) (Q1 : Q_x_X10_doDeed L1 L2 N v u) (Q2 : Q_m_obey w N r u2) : FAL g N ng lim ka f k B b p P PO q (kc, pb, hh) w u (wA u2 0 121 r) := by
  obtain ⟨A, Am, S, hp, ho, d, m, pr, ⟨h9, hN, hl, hka⟩, T, E, h, mi⟩ := C
  obtain ⟨⟨a1, a2⟩, a3, a4, a5, a6⟩ := clP A hp d (by rw [ht]; decide) h9
  obtain ⟨o1, o2, o3, o4⟩ := moP Am ho m (loE_1 (by rw [ht]; decide)) mi
  rw [oE_2 ht] at o1
  have l1 : ldE q = 1 := if_neg (by rw [ht]; decide)
  have l2 : loE q = 1 := loE_1 (by rw [ht]; decide)
  have b8 := mi.lin
  obtain ⟨d1, d2, d3⟩ := dPl d (by rw [ht]; decide)
  have D : v.1 378 (v.1 0 364).toNatClampNeg = 2 := by rw [a4, d1, ht]
  have pr : hh ≠ 1 := by
    have z := pr
    unfold preT at z
    rw [ht] at z
    exact z
  have po : postT q (kc, pb, hh) = (kc, pb, 1) := by
    unfold postT
    rw [ht]
    rfl
  have mx9 : w0.1 72 PO = q.2.1 := by
    have z := o3
    unfold mxA at z
    rw [ht] at z
    exact z
  have e1 := dD_2 Q1 a1 a2 D
  obtain ⟨e2, e3⟩ := dO_0 Q2 o1
  rw [a5, d2] at e1
  rw [o2, mx9] at e3
  rw [e1, e2, e3]
  have hm1 : (-1 : Int32) = w.1 0 121 := S.1.2.symm
  refine ⟨?_, ?_, ?_, rfl⟩
  · rw [po]
    exact S.push pr (by omega) ⟨rfl, rfl, rfl⟩ ⟨hm1, rfl, rfl, rfl, rfl, rfl, rfl⟩ rfl rfl rfl rfl (S.cnt.sm (by omega) ⟨rfl, rfl, rfl, rfl, rfl, rfl⟩ ⟨rfl, rfl, rfl, rfl, rfl, rfl⟩)
  · show (v.1 0 364 + 1).toInt = _
    rw [a3, l1]; rfl
  · show (w.1 0 112 + 1).toInt = _
    rw [o4, l2]; rfl
theorem ev_3 (ht : q.1 = 3) (C : CTX g N ng lim L1 K fn v0 w0 ka v w f k B b p P PO q (kc, pb, hh)) (Q1 : Q_x_X10_doDeed L1 L2 N v u) (Q2 : Q_m_obey w N r u2) : FAL g N ng lim ka f k B b p P PO q (kc, pb, hh) w u (wA u2 0 121 r) := by
  obtain ⟨A, Am, S, hp, ho, d, m, pr, ⟨h9, hN, hl, hka⟩, T, E, h, mi⟩ := C
  obtain ⟨⟨a1, a2⟩, a3, a4, a5, a6⟩ := clP A hp d (by rw [ht]; decide) h9
  obtain ⟨o1, o2, o3, o4⟩ := moP Am ho m (loE_1 (by rw [ht]; decide)) mi
  rw [oE_3 ht] at o1
  have l1 : ldE q = 1 := if_neg (by rw [ht]; decide)
  have l2 : loE q = 1 := loE_1 (by rw [ht]; decide)
  have b8 := mi.lin
  obtain ⟨d1, d2, d3⟩ := dPl d (by rw [ht]; decide)
  have D : v.1 378 (v.1 0 364).toNatClampNeg = 3 := by rw [a4, d1, ht]
  have pr : hh ≠ 1 ∧ 0 ≤ q.2.1.toInt ∧ q.2.1.toNatClampNeg < kc := by
    have z := pr
    unfold preT at z
    rw [ht] at z
    exact z
  have po : postT q (kc, pb, hh) = (kc, pb, 1) := by
    unfold postT
    rw [ht]
    rfl
  have mx9 : w0.1 72 PO = q.2.1 := by
    have z := o3
    unfold mxA at z
    rw [ht] at z
    exact z
  obtain ⟨r24, e0, e1⟩ := dD_3 Q1 a1 a2 D
  obtain ⟨e2, e3⟩ := dO_1 Q2 o1
  have nq := natI pr.2.1
  have cc := S.cor
  have cM := cc.2.2.1
  have cM1 : kc + pb ≤ zMm g f := cM.1
  have sl := S.slot hl (sl := q.2.1.toNatClampNeg) (by omega)
  have e0 := slR (v := wA v 0 364 (v.1 0 364 + 1)) S.2.1.1 (by rw [a5, d2]; exact nq.symm) hN sl e0
  have nb : (w.1 0 111 + q.2.1).toNatClampNeg = b + q.2.1.toNatClampNeg := by
    have s3 := S.2.2.1.1
    have : (w.1 0 111 + q.2.1).toInt = (b : Int) + q.2.1.toInt := add_z s3 rfl (by omega) (by omega)
    exact natC (by omega)
  rw [o2, mx9, nb] at e3
  have ex : r24 = w.1 105 (b + q.2.1.toNatClampNeg) := e0.trans (cc.1 q.2.1.toNatClampNeg pr.2.2)
  rw [ex] at e1
  rw [e1, e2, e3]
  have hm1 : (-1 : Int32) = w.1 0 121 := S.1.2.symm
  refine ⟨?_, ?_, ?_, rfl⟩
  · rw [po]
    exact S.push pr.1 (by omega) ⟨rfl, rfl, rfl⟩ ⟨hm1, rfl, rfl, rfl, rfl, rfl, rfl⟩ rfl rfl rfl rfl (S.cnt.sm (by omega) ⟨rfl, rfl, rfl, rfl, rfl, rfl⟩ ⟨rfl, rfl, rfl, rfl, rfl, rfl⟩)
  · show (v.1 0 364 + 1).toInt = _
    rw [a3, l1]; rfl
  · show (w.1 0 112 + 1).toInt = _
    rw [o4, l2]; rfl
/-- the globals of both -/
def GLB (L2 : List Nat) (v0 w0 : MS) (ng : Int) (N : Nat) : Prop := (v0.1 0 377 = w0.1 0 75 ∧ (w0.1 0 75).toInt ≤ 60 ∧ ng ≤ N ∧ ng = (w0.1 0 76).toInt) ∧ ∀ j : Nat, (j : Int) < (w0.1 0 75).toInt → rF L2 v0 j 0 = w0.1 85 j ∧ (rF L2 v0 j 1 >>> ((2 : Int32) &&& 31)) - v0.1 0 383 = w0.1 86 j ∧ 0 ≤ (w0.1 86 j).toInt ∧ 1 ≤ (w0.1 85 j).toInt ∧ (w0.1 86 j).toInt + (w0.1 85 j).toInt ≤ ng
theorem gfR {pa pb9 : Int32} (A : AG v0 v) (G : GLB L2 v0 w0 ng N) (h0 : 0 ≤ pa.toInt) (h1 : (pa.toNatClampNeg : Int) < (w0.1 0 75).toInt) (hb : 0 ≤ pb9.toInt ∧ pb9.toInt < 5) (h : Q_x_X7_globalFact L1 L2 v pa pb9 r) : r = rF L2 v0 pa.toNatClampNeg pb9.toNatClampNeg := by
  have n := natI h0
  have g1 := G.1
  have e : (v.1 0 377).toInt = (w0.1 0 75).toInt := by rw [A.1 377 (by decide), g1.1]
  have e2 : v.1 (5000 + rowA L2 pa.toNatClampNeg) = v0.1 (5000 + rowA L2 pa.toNatClampNeg) := A.2 _ (by
    simp only [List.mem_cons, List.not_mem_nil, or_false, not_or]
    omega)
  rcases h with ⟨c, -⟩ | ⟨-, ⟨c, -⟩ | ⟨-, ⟨-, ⟨c, -⟩ | ⟨-, ⟨c, -⟩ | ⟨-, h⟩⟩⟩ | ⟨c, -⟩⟩⟩
  · omega
  · omega
  · omega
  · omega
  · rw [h, e2]
    rfl
  · omega
theorem fcR {pa : Int32} (A : AG v0 v) (G : GLB L2 v0 w0 ng N) (h0 : 0 ≤ pa.toInt) (h1 : (pa.toNatClampNeg : Int) < (w0.1 0 75).toInt) (h : Q_x_X7_firstCell L1 L2 v pa r) : r = w0.1 86 pa.toNatClampNeg := by
  obtain ⟨r3, h3, -, h⟩ := h
  have e := gfR A G h0 h1 (by decide) h3
  rw [h, e, A.1 383 (by decide)]
  exact (G.2 _ h1).2.1
theorem AG.at (A : AG v0 v) {x : Int32} : AG v0 (wA v 0 364 x) := by
  refine ⟨fun k9 hk => ?_, fun a9 ha => ?_⟩
  · have : k9 ≠ 364 := fun z => hk (by rw [z]; decide)
    show upd (v.1 0) 364 x k9 = _
    rw [updN_ this]
    exact A.1 k9 hk
  · have : a9 ≠ 0 := fun z => ha (by rw [z]; decide)
    show (if a9 = 0 then _ else v.1 a9) = _
    rw [if_neg this]
    exact A.2 a9 ha
/-- a cell is changed in both -/
theorem CNT.ce {ka9 : Int} {y : MS} {n : Nat} {x : Int32} (h : CNT ng ka v w) (l : ka ≤ ka9) (c : u.1 0 368 = v.1 0 368 ∧ u.1 0 369 = v.1 0 369 ∧ u.1 0 370 = v.1 0 370 ∧ u.1 0 371 = v.1 0 371 ∧ u.1 359 = upd (v.1 359) n x ∧ u.1 360 = v.1 360) (m : y.1 0 113 = w.1 0 113 ∧ y.1 0 116 = w.1 0 116 ∧ y.1 0 119 = w.1 0 119 ∧ y.1 0 120 = w.1 0 120 ∧ y.1 117 = upd (w.1 117) n x ∧ y.1 118 = w.1 118) : CNT ng ka9 u y := by
  obtain ⟨c1, c2, c3, c4, c5, c6⟩ := c
  obtain ⟨m1, m2, m3, m4, m5, m6⟩ := m
  have h := h.up l
  unfold CNT
  rw [c1, c2, c3, c4, c5, c6, m1, m2, m3, m4, m5, m6]
  refine ⟨h.1, h.2.1, fun j hj => ?_, h.2.2.2⟩
  by_cases e : j = n
  · rw [e, updS, updS]
  · rw [updN_ e, updN_ e]
    exact h.2.2.1 j hj
theorem less0 (h : Q_m_less 0 r) : r = 0 := by
  rcases h with ⟨-, h⟩ | ⟨c, -⟩
  · exact h
  · exact absurd (by decide) c
theorem less1 (h : Q_m_less 1 r) : r = 1 := by
  rcases h with ⟨c, -⟩ | ⟨-, h⟩
  · exact absurd c (by decide)
  · exact h
/-- a place that lies on the pile -/
theorem MI.p6 {T : Nat → Nat → TT} {E : Nat → Nat} {h : Nat → Int} {j x : Int32} (m : MI T E h w j) (e : (w.1 71 j.toNatClampNeg).toInt = 6 ∨ (w.1 71 j.toNatClampNeg).toInt = 7) (hx : x.toInt = (w.1 0 106).toInt - 1) : 0 ≤ (w.1 105 x.toNatClampNeg).toInt ∧ (w.1 105 x.toNatClampNeg).toInt < (w.1 0 76).toInt := by
  have hA : ∃ R, (T (tfn w).toNatClampNeg j.toNatClampNeg).1 = true :: R := by
    rcases e with e | e
    · obtain ⟨R, q, _⟩ := m.ft.i6 e; exact ⟨R, q⟩
    · obtain ⟨R, q, _⟩ := m.ft.i7 e; exact ⟨R, q⟩
  obtain ⟨R, hR⟩ := hA
  obtain ⟨l, p⟩ := m.len hR
  have nm := m.num
  rw [List.length_cons] at l
  have q := p.2 rfl
  have ex := nat_z (x := x) (by omega)
  rw [show ((w.1 0 111).toInt + (w.1 82 (tfn w).toNatClampNeg).toInt).toNat + R.length = x.toNatClampNeg by omega] at q
  exact q
theorem MI.p8 {T : Nat → Nat → TT} {E : Nat → Nat} {h : Nat → Int} {j x : Int32} (m : MI T E h w j) (e : (w.1 71 j.toNatClampNeg).toInt = 8) (hx : x.toInt = (w.1 0 106).toInt - 2) : 0 ≤ (w.1 105 x.toNatClampNeg).toInt ∧ (w.1 105 x.toNatClampNeg).toInt < (w.1 0 76).toInt := by
  obtain ⟨R, hR, _⟩ := m.ft.i8 e
  obtain ⟨l, p⟩ := m.len hR
  have nm := m.num
  rw [List.length_cons, List.length_cons] at l
  have q := p.1.2 rfl
  have ex := nat_z (x := x) (by omega)
  rw [show ((w.1 0 111).toInt + (w.1 82 (tfn w).toNatClampNeg).toInt).toNat + R.length = x.toNatClampNeg by omega] at q
  exact q
theorem ev_5 (ht : q.1 = 5) (C : CTX g N ng lim L1 K fn v0 w0 ka v w f k B b p P PO q (kc, pb, hh)) (Q1 : Q_x_X10_doDeed L1 L2 N v u) (Q2 : Q_m_obey w N r u2) (G : GLB L2 v0 w0 ng N) (h5 : 0 ≤ q.2.1.toInt) : FAL g N ng lim ka f k B b p P PO q (kc, pb, hh) w u (wA u2 0 121 r) := by
  obtain ⟨A, Am, S, hp, ho, d, m, pr, ⟨h9, hN, hl, hka⟩, T, E, h, mi⟩ := C
  obtain ⟨⟨a1, a2⟩, a3, a4, a5, a6⟩ := clP A hp d (by rw [ht]; decide) h9
  obtain ⟨o1, o2, o3, o4⟩ := moP Am ho m (loE_1 (by rw [ht]; decide)) mi
  rw [oE_5 ht] at o1
  have l1 : ldE q = 1 := if_neg (by rw [ht]; decide)
  have l2 : loE q = 1 := loE_1 (by rw [ht]; decide)
  have b8 := mi.lin
  obtain ⟨d1, d2, d3⟩ := dPl d (by rw [ht]; decide)
  have D : v.1 378 (v.1 0 364).toNatClampNeg = 5 := by rw [a4, d1, ht]
  have pr : hh ≠ 1 := by
    have z := pr
    unfold preT at z
    rw [ht] at z
    exact z
  have po : postT q (kc, pb, hh) = (kc, pb, 1) := by
    unfold postT
    rw [ht]
    rfl
  have mx9 : (q.2.1.toNatClampNeg : Int) < (w0.1 0 75).toInt ∧ w0.1 72 PO = w0.1 86 q.2.1.toNatClampNeg := by
    have z := o3
    unfold mxA at z
    rw [ht] at z
    exact z
  obtain ⟨-, u38, e0, -, e1⟩ := dD_5 Q1 a1 a2 D
  obtain ⟨r4, f4, r7, f7, e4⟩ := dP_5 e0 D
  rw [a5, d2] at f4
  have f4 := fcR A.at G h5 mx9.1 f4
  obtain ⟨-, -, g3, g4, g5⟩ := G.2 _ mx9.1
  have gN := G.1.2.2.1
  have ng4 := natI g3
  rw [f4] at f7
  have f7 := ceR (n := (w0.1 86 q.2.1.toNatClampNeg).toNatClampNeg) hN (by omega) (by omega) f7
  obtain ⟨e2, e3⟩ := dO_3 Q2 o1
  rw [o2, mx9.2] at e3
  have cx := S.cnt.2.2.1 (w0.1 86 q.2.1.toNatClampNeg).toNatClampNeg (by omega)
  have ex : r7 = w.1 117 (w0.1 86 q.2.1.toNatClampNeg).toNatClampNeg := f7.trans cx
  rw [e4, ex] at e1
  rw [e1, e2, e3]
  have hm1 : (-1 : Int32) = w.1 0 121 := S.1.2.symm
  refine ⟨?_, ?_, ?_, rfl⟩
  · rw [po]
    exact S.push pr (by omega) ⟨rfl, rfl, rfl⟩ ⟨hm1, rfl, rfl, rfl, rfl, rfl, rfl⟩ rfl rfl rfl rfl (S.cnt.sm (by omega) ⟨rfl, rfl, rfl, rfl, rfl, rfl⟩ ⟨rfl, rfl, rfl, rfl, rfl, rfl⟩)
  · show (v.1 0 364 + 1).toInt = _
    rw [a3, l1]; rfl
  · show (w.1 0 112 + 1).toInt = _
    rw [o4, l2]; rfl
theorem ev_6 (ht : q.1 = 6) (C : CTX g N ng lim L1 K fn v0 w0 ka v w f k B b p P PO q (kc, pb, hh)) (Q1 : Q_x_X10_doDeed L1 L2 N v u) (Q2 : Q_m_obey w N r u2) (G : GLB L2 v0 w0 ng N) (h5 : 0 ≤ q.2.1.toInt) : FAL g N ng lim ka f k B b p P PO q (kc, pb, hh) w u (wA u2 0 121 r) := by
  obtain ⟨A, Am, S, hp, ho, d, m, pr, ⟨h9, hN, hl, hka⟩, T, E, h, mi⟩ := C
  obtain ⟨⟨a1, a2⟩, a3, a4, a5, a6⟩ := clP A hp d (by rw [ht]; decide) h9
  obtain ⟨o1, o2, o3, o4⟩ := moP Am ho m (loE_1 (by rw [ht]; decide)) mi
  rw [oE_6 ht] at o1
  have l1 : ldE q = 1 := if_neg (by rw [ht]; decide)
  have l2 : loE q = 1 := loE_1 (by rw [ht]; decide)
  have b8 := mi.lin
  obtain ⟨d1, d2, d3⟩ := dPl d (by rw [ht]; decide)
  have D : v.1 378 (v.1 0 364).toNatClampNeg = 6 := by rw [a4, d1, ht]
  have pr : hh = 1 := by
    have z := pr
    unfold preT at z
    rw [ht] at z
    exact z
  subst pr
  obtain ⟨p1, p2, p3, p4⟩ := S.pi1
  have po : postT q (kc, pb, 1) = (kc, pb, 1) := by
    unfold postT
    rw [ht]
    rfl
  have mx9 : (q.2.1.toNatClampNeg : Int) < (w0.1 0 75).toInt ∧ w0.1 72 PO = w0.1 86 q.2.1.toNatClampNeg := by
    have z := o3
    unfold mxA at z
    rw [ht] at z
    exact z
  obtain ⟨-, u38, e0, -, e1⟩ := dD_6 Q1 a1 a2 D
  obtain ⟨r4, f4, u13, f7, -, e4⟩ := dP_6 e0 D
  rw [a5, d2] at f4
  have f4 := fcR A.at G h5 mx9.1 f4
  obtain ⟨-, -, g3, g4, g5⟩ := G.2 _ mx9.1
  have gN := G.1.2.2.1
  have ng4 := natI g3
  rw [f4] at f7
  have f7 := ceW (n := (w0.1 86 q.2.1.toNatClampNeg).toNatClampNeg) hN (by omega) (by omega) f7
  obtain ⟨e2, e3⟩ := dO_4 Q2 o1
  rw [o2, mx9.2, p3, ← p4] at e3
  rw [e4, f7] at e1
  rw [e1, e2, e3]
  have hm1 : (-1 : Int32) = w.1 0 121 := S.1.2.symm
  refine ⟨?_, ?_, ?_, rfl⟩
  · rw [po]
    exact S.same ⟨rfl, rfl, rfl⟩ ⟨hm1, rfl, rfl, rfl, rfl, rfl, rfl⟩ rfl rfl rfl rfl (S.cnt.ce (n := (w0.1 86 q.2.1.toNatClampNeg).toNatClampNeg) (x := v.1 0 363) (by omega) ⟨rfl, rfl, rfl, rfl, rfl, rfl⟩ ⟨rfl, rfl, rfl, rfl, rfl, rfl⟩)
  · show (v.1 0 364 + 1).toInt = _
    rw [a3, l1]; rfl
  · show (w.1 0 112 + 1).toInt = _
    rw [o4, l2]; rfl
theorem ev_7 (ht : q.1 = 7) (C : CTX g N ng lim L1 K fn v0 w0 ka v w f k B b p P PO q (kc, pb, hh)) (Q1 : Q_x_X10_doDeed L1 L2 N v u) (Q2 : Q_m_obey w N r u2) (G : GLB L2 v0 w0 ng N) : FAL g N ng lim ka f k B b p P PO q (kc, pb, hh) w u (wA u2 0 121 r) ∨ FIN ng (ka + 1) u (wA u2 0 121 r) := by
  obtain ⟨A, Am, S, hp, ho, d, m, pr, ⟨h9, hN, hl, hka⟩, T, E, h, mi⟩ := C
  obtain ⟨⟨a1, a2⟩, a3, a4, a5, a6⟩ := clP A hp d (by rw [ht]; decide) h9
  obtain ⟨o1, o2, o3, o4⟩ := moP Am ho m (loE_1 (by rw [ht]; decide)) mi
  rw [oE_7 ht] at o1
  have l1 : ldE q = 1 := if_neg (by rw [ht]; decide)
  have l2 : loE q = 1 := loE_1 (by rw [ht]; decide)
  have b8 := mi.lin
  obtain ⟨d1, d2, d3⟩ := dPl d (by rw [ht]; decide)
  have D : v.1 378 (v.1 0 364).toNatClampNeg = 7 := by rw [a4, d1, ht]
  have pr : hh = 1 := by
    have z := pr
    unfold preT at z
    rw [ht] at z
    exact z
  subst pr
  obtain ⟨p1, p2, p3, p4⟩ := S.pi1
  have po : postT q (kc, pb, 1) = (kc, pb, 1) := by
    unfold postT
    rw [ht]
    rfl
  have mx9 : w0.1 72 PO = q.2.1 := by
    have z := o3
    unfold mxA at z
    rw [ht] at z
    exact z
  obtain ⟨-, u38, e0, -, e1⟩ := dD_7 Q1 a1 a2 D
  obtain ⟨u17, f1, -, e4⟩ := dP_7 e0 D
  rw [a5, d2] at f1
  have c5 := mi.c5 (by rw [o1]; decide)
  rw [o2, mx9, Am.1 75 (by decide)] at c5
  have nq := natI c5.1
  have lq : (q.2.1.toNatClampNeg : Int) < (w0.1 0 75).toInt := by omega
  obtain ⟨g1, g2, g3, g4, g5⟩ := G.2 _ lq
  have e6 : w.1 85 = w0.1 85 := Am.2 85 (by decide)
  have e7 : w.1 86 = w0.1 86 := Am.2 86 (by decide)
  have R := dO_5 Q2 o1
  have pq : w.1 105 (w.1 0 106 - 1).toNatClampNeg = v.1 0 363 := by rw [p3, p4]
  rw [o2, mx9, e6, e7, pq] at R
  rw [e4] at e1
  have zz : (3 : Int32) ≠ -1 := by decide
  rcases f1 with ⟨c1, f1⟩ | ⟨c1, r6, f6, -, ⟨c2, r11, f11, f1⟩ | ⟨c2, f1⟩⟩
  · have c1 : (v.1 0 363).toInt < 0 := c1
    rcases R with ⟨-, e2, e3⟩ | ⟨c3, -⟩
    · right
      rw [f1] at e1
      rw [e1, e2, e3]
      exact ⟨⟨rfl, zz⟩, S.cnt.sm (by omega) ⟨rfl, rfl, rfl, rfl, rfl, rfl⟩ ⟨rfl, rfl, rfl, rfl, rfl, rfl⟩, fun z => absurd z (show ¬ (3 : Int32) = 0 by decide)⟩
    · omega
  · have c1 : 0 ≤ (v.1 0 363).toInt := c1
    have c2 : (v.1 0 363).toInt < r6.toInt := c2
    have f6 : r6 = w0.1 85 q.2.1.toNatClampNeg := (gfR A.at G c5.1 lq (by decide) f6).trans g1
    have f11 := fcR A.at G c5.1 lq f11
    rw [f6] at c2
    rcases R with ⟨c3, -⟩ | ⟨-, ⟨-, e2, e3⟩ | ⟨c3, -⟩⟩
    · omega
    · left
      have ex : u = wA (wA v 0 364 (v.1 0 364 + 1)) 0 363 (w0.1 86 q.2.1.toNatClampNeg + v.1 0 363) := by
          rw [e1, f1, f11]
          show wA _ 0 363 (v.1 0 363 + _) = _
          rw [Int32.add_comm (v.1 0 363)]
      rw [ex, e2, e3]
      have hm1 : (-1 : Int32) = w.1 0 121 := S.1.2.symm
      refine ⟨?_, ?_, ?_, rfl⟩
      · rw [po]
        exact S.top ⟨rfl, rfl, rfl⟩ ⟨hm1, rfl, rfl, rfl, rfl, rfl, rfl⟩ rfl rfl rfl rfl (S.cnt.sm (by omega) ⟨rfl, rfl, rfl, rfl, rfl, rfl⟩ ⟨rfl, rfl, rfl, rfl, rfl, rfl⟩)
      · show (v.1 0 364 + 1).toInt = _
        rw [a3, l1]; rfl
      · show (w.1 0 112 + 1).toInt = _
        rw [o4, l2]; rfl
    · omega
  · have c1 : 0 ≤ (v.1 0 363).toInt := c1
    have c2 : r6.toInt ≤ (v.1 0 363).toInt := c2
    have f6 : r6 = w0.1 85 q.2.1.toNatClampNeg := (gfR A.at G c5.1 lq (by decide) f6).trans g1
    rw [f6] at c2
    rcases R with ⟨c3, -⟩ | ⟨-, ⟨c3, -⟩ | ⟨-, e2, e3⟩⟩
    · omega
    · omega
    · right
      rw [f1] at e1
      rw [e1, e2, e3]
      exact ⟨⟨rfl, zz⟩, S.cnt.sm (by omega) ⟨rfl, rfl, rfl, rfl, rfl, rfl⟩ ⟨rfl, rfl, rfl, rfl, rfl, rfl⟩, fun z => absurd z (show ¬ (3 : Int32) = 0 by decide)⟩
theorem ev_8 (ht : q.1 = 8) (C : CTX g N ng lim L1 K fn v0 w0 ka v w f k B b p P PO q (kc, pb, hh)) (Q1 : Q_x_X10_doDeed L1 L2 N v u) (Q2 : Q_m_obey w N r u2) (G : GLB L2 v0 w0 ng N) : FAL g N ng lim ka f k B b p P PO q (kc, pb, hh) w u (wA u2 0 121 r) := by
  obtain ⟨A, Am, S, hp, ho, d, m, pr, ⟨h9, hN, hl, hka⟩, T, E, h, mi⟩ := C
  obtain ⟨⟨a1, a2⟩, a3, a4, a5, a6⟩ := clP A hp d (by rw [ht]; decide) h9
  obtain ⟨o1, o2, o3, o4⟩ := moP Am ho m (loE_1 (by rw [ht]; decide)) mi
  rw [oE_8 ht] at o1
  have l1 : ldE q = 1 := if_neg (by rw [ht]; decide)
  have l2 : loE q = 1 := loE_1 (by rw [ht]; decide)
  have b8 := mi.lin
  obtain ⟨d1, d2, d3⟩ := dPl d (by rw [ht]; decide)
  have D : v.1 378 (v.1 0 364).toNatClampNeg = 8 := by rw [a4, d1, ht]
  have pr : hh = 1 := by
    have z := pr
    unfold preT at z
    rw [ht] at z
    exact z
  subst pr
  obtain ⟨p1, p2, p3, p4⟩ := S.pi1
  have po : postT q (kc, pb, 1) = (kc, pb, 1) := by
    unfold postT
    rw [ht]
    rfl
  obtain ⟨-, u38, e0, -, e1⟩ := dD_8 Q1 a1 a2 D
  obtain ⟨r7, f7, e4⟩ := dP_8 e0 D
  have pl := mi.p6 (Or.inl (by rw [o1]; decide)) p2
  rw [p3, ← p4, Am.1 76 (by decide), ← G.1.2.2.2] at pl
  have gN := G.1.2.2.1
  have n7 := natI pl.1
  have f7 := ceR (n := (v.1 0 363).toNatClampNeg) hN n7.symm (by omega) f7
  obtain ⟨e2, e3⟩ := dO_6 Q2 o1
  have cx := S.cnt.2.2.1 (v.1 0 363).toNatClampNeg (by omega)
  have ex : r7 = w.1 117 (v.1 0 363).toNatClampNeg := f7.trans cx
  have pq : w.1 105 (w.1 0 106 - 1).toNatClampNeg = v.1 0 363 := by rw [p3, p4]
  rw [pq] at e3
  rw [e4, ex] at e1
  rw [e1, e2, e3]
  have hm1 : (-1 : Int32) = w.1 0 121 := S.1.2.symm
  refine ⟨?_, ?_, ?_, rfl⟩
  · rw [po]
    exact S.top ⟨rfl, rfl, rfl⟩ ⟨hm1, rfl, rfl, rfl, rfl, rfl, rfl⟩ rfl rfl rfl rfl (S.cnt.sm (by omega) ⟨rfl, rfl, rfl, rfl, rfl, rfl⟩ ⟨rfl, rfl, rfl, rfl, rfl, rfl⟩)
  · show (v.1 0 364 + 1).toInt = _
    rw [a3, l1]; rfl
  · show (w.1 0 112 + 1).toInt = _
    rw [o4, l2]; rfl
theorem ev_10 (ht : q.1 = 10) (C : CTX g N ng lim L1 K fn v0 w0 ka v w f k B b p P PO q (kc, pb, hh)) (Q1 : Q_x_X10_doDeed L1 L2 N v u) (Q2 : Q_m_obey w N r u2) (G : GLB L2 v0 w0 ng N) : FAL g N ng lim ka f k B b p P PO q (kc, pb, hh) w u (wA u2 0 121 r) := by
  obtain ⟨A, Am, S, hp, ho, d, m, pr, ⟨h9, hN, hl, hka⟩, T, E, h, mi⟩ := C
  obtain ⟨⟨a1, a2⟩, a3, a4, a5, a6⟩ := clP A hp d (by rw [ht]; decide) h9
  obtain ⟨o1, o2, o3, o4⟩ := moP Am ho m (loE_1 (by rw [ht]; decide)) mi
  rw [oE_10 ht] at o1
  have l1 : ldE q = 1 := if_neg (by rw [ht]; decide)
  have l2 : loE q = 1 := loE_1 (by rw [ht]; decide)
  have b8 := mi.lin
  obtain ⟨d1, d2, d3⟩ := dPl d (by rw [ht]; decide)
  have D : v.1 378 (v.1 0 364).toNatClampNeg = 10 := by rw [a4, d1, ht]
  have pr : hh = 2 ∧ 1 ≤ pb := by
    have z := pr
    unfold preT at z
    rw [ht] at z
    exact z
  obtain ⟨rfl, pz⟩ := pr
  have po : postT q (kc, pb, 2) = (kc, pb, 1) := by
    unfold postT
    rw [ht]
    rfl
  obtain ⟨p1, p2⟩ := S.pi0 (show (2 : Nat) ≠ 1 by decide)
  have p4 : v.1 0 363 = w.1 105 (b + (zLo g f + (pb - 1))) := (S.cor.2.2.2.2.2 rfl).2
  have p5 : (w.1 0 106 - 1).toInt = (w.1 0 106).toInt - 1 := sub_z rfl (by decide) (by omega) (by omega)
  have p3 : (w.1 0 106 - 1).toNatClampNeg = b + (zLo g f + (pb - 1)) := natC (by omega)
  obtain ⟨-, u38, e0, -, e1⟩ := dD_10 Q1 a1 a2 D
  obtain ⟨r7, f7, e4⟩ := dP_10 e0 D
  have pl := mi.p6 (Or.inr (by rw [o1]; decide)) p5
  rw [p3, ← p4, Am.1 76 (by decide), ← G.1.2.2.2] at pl
  have gN := G.1.2.2.1
  have n7 := natI pl.1
  have f7 := ceR (n := (v.1 0 363).toNatClampNeg) hN n7.symm (by omega) f7
  obtain ⟨e2, e3⟩ := dO_7 Q2 o1
  have cx := S.cnt.2.2.1 (v.1 0 363).toNatClampNeg (by omega)
  have ex : r7 = w.1 117 (v.1 0 363).toNatClampNeg := f7.trans cx
  have pq : w.1 105 (w.1 0 106 - 1).toNatClampNeg = v.1 0 363 := by rw [p3, p4]
  rw [pq] at e3
  rw [e4, ex] at e1
  rw [e1, e2, e3]
  have hm1 : (-1 : Int32) = w.1 0 121 := S.1.2.symm
  refine ⟨?_, ?_, ?_, rfl⟩
  · rw [po]
    exact S.push (show (2 : Nat) ≠ 1 by decide) (by omega) ⟨rfl, rfl, rfl⟩ ⟨hm1, rfl, rfl, rfl, rfl, rfl, rfl⟩ rfl rfl rfl rfl (S.cnt.sm (by omega) ⟨rfl, rfl, rfl, rfl, rfl, rfl⟩ ⟨rfl, rfl, rfl, rfl, rfl, rfl⟩)
  · show (v.1 0 364 + 1).toInt = _
    rw [a3, l1]; rfl
  · show (w.1 0 112 + 1).toInt = _
    rw [o4, l2]; rfl
theorem ev_11 (ht : q.1 = 11) (C : CTX g N ng lim L1 K fn v0 w0 ka v w f k B b p P PO q (kc, pb, hh)) (Q1 : Q_x_X10_doDeed L1 L2 N v u) (Q2 : Q_m_obey w N r u2) (G : GLB L2 v0 w0 ng N) : FAL g N ng lim ka f k B b p P PO q (kc, pb, hh) w u (wA u2 0 121 r) := by
  obtain ⟨A, Am, S, hp, ho, d, m, pr, ⟨h9, hN, hl, hka⟩, T, E, h, mi⟩ := C
  obtain ⟨⟨a1, a2⟩, a3, a4, a5, a6⟩ := clP A hp d (by rw [ht]; decide) h9
  obtain ⟨o1, o2, o3, o4⟩ := moP Am ho m (loE_1 (by rw [ht]; decide)) mi
  rw [oE_11 ht] at o1
  have l1 : ldE q = 1 := if_neg (by rw [ht]; decide)
  have l2 : loE q = 1 := loE_1 (by rw [ht]; decide)
  have b8 := mi.lin
  obtain ⟨d1, d2, d3⟩ := dPl d (by rw [ht]; decide)
  have D : v.1 378 (v.1 0 364).toNatClampNeg = 11 := by rw [a4, d1, ht]
  have pr : hh = 1 ∧ 1 ≤ pb ∧ 0 ≤ q.2.1.toInt ∧ q.2.1.toNatClampNeg + 1 = kc + pb := by
    have z := pr
    unfold preT at z
    rw [ht] at z
    exact z
  obtain ⟨rfl, pz⟩ := pr
  obtain ⟨p1, p2, p3, p4⟩ := S.pi1
  have po : postT q (kc, pb, 1) = (kc, pb - 1, 1) := by
    unfold postT
    rw [ht]
    rfl
  obtain ⟨s1, s2⟩ := S.snd pz.1
  have nq := natI pz.2.1
  have cM : kc + pb ≤ zMm g f := S.cor.2.2.1.1
  obtain ⟨-, u38, e0, -, e1⟩ := dD_11 Q1 a1 a2 D
  obtain ⟨r34, f4, u36, f7, -, e4⟩ := dP_11 e0 D
  have f4 := slR (v := wA v 0 364 (v.1 0 364 + 1)) (sl := kc + (pb - 1)) S.2.1.1 (by rw [a5, d2]; omega) hN (S.slot hl (by omega)) f4
  have f4 : r34 = w.1 105 (w.1 0 106 - 1 - 1).toNatClampNeg := f4.trans s1.symm
  have pl := mi.p8 (by rw [o1]; decide) s2
  rw [← f4, Am.1 76 (by decide), ← G.1.2.2.2] at pl
  have gN := G.1.2.2.1
  have n7 := natI pl.1
  have f7 := ceW (n := r34.toNatClampNeg) hN n7.symm (by omega) f7
  obtain ⟨e2, e3⟩ := dO_8 Q2 o1
  have pq : w.1 105 (w.1 0 106 - 1).toNatClampNeg = v.1 0 363 := by rw [p3, p4]
  rw [pq, ← f4] at e3
  rw [e4, f7] at e1
  rw [e1, e2, e3]
  have hm1 : (-1 : Int32) = w.1 0 121 := S.1.2.symm
  refine ⟨?_, ?_, ?_, rfl⟩
  · rw [po]
    exact S.two (x := v.1 0 363) pz.1 ⟨rfl, rfl, rfl⟩ ⟨hm1, rfl, rfl, rfl, rfl, rfl, rfl⟩ rfl rfl rfl rfl (S.cnt.ce (n := r34.toNatClampNeg) (x := v.1 0 363) (by omega) ⟨rfl, rfl, rfl, rfl, rfl, rfl⟩ ⟨rfl, rfl, rfl, rfl, rfl, rfl⟩)
  · show (v.1 0 364 + 1).toInt = _
    rw [a3, l1]; rfl
  · show (w.1 0 112 + 1).toInt = _
    rw [o4, l2]; rfl
theorem ev_12 (ht : q.1 = 12) (C : CTX g N ng lim L1 K fn v0 w0 ka v w f k B b p P PO q (kc, pb, hh)) (Q1 : Q_x_X10_doDeed L1 L2 N v u) (Q2 : Q_m_obey w N r u2) : FAL g N ng lim ka f k B b p P PO q (kc, pb, hh) w u (wA u2 0 121 r) := by
  obtain ⟨A, Am, S, hp, ho, d, m, pr, ⟨h9, hN, hl, hka⟩, T, E, h, mi⟩ := C
  obtain ⟨⟨a1, a2⟩, a3, a4, a5, a6⟩ := clP A hp d (by rw [ht]; decide) h9
  obtain ⟨o1, o2, o3, o4⟩ := moP Am ho m (loE_1 (by rw [ht]; decide)) mi
  rw [oE_12 ht] at o1
  have l1 : ldE q = 1 := if_neg (by rw [ht]; decide)
  have l2 : loE q = 1 := loE_1 (by rw [ht]; decide)
  have b8 := mi.lin
  obtain ⟨d1, d2, d3⟩ := dPl d (by rw [ht]; decide)
  have D : v.1 378 (v.1 0 364).toNatClampNeg = 12 := by rw [a4, d1, ht]
  have pr : hh = 1 := by
    have z := pr
    unfold preT at z
    rw [ht] at z
    exact z
  subst pr
  obtain ⟨p1, p2, p3, p4⟩ := S.pi1
  have po : postT q (kc, pb, 1) = (kc, pb, 1) := by
    unfold postT
    rw [ht]
    rfl
  have e1 := dD_12 Q1 a1 a2 D
  obtain ⟨u9, e0, -, e2, e3⟩ := dO_18 Q2 o1
  have e4 := dT_18 e0 o1
  have pq : w.1 105 (w.1 0 106 - 1).toNatClampNeg = v.1 0 363 := by rw [p3, p4]
  have e4 : u9 = wA (wA (wA (wA w 0 112 (w.1 0 112 + 1)) 0 106 (w.1 0 106 - 1)) 105 (w.1 0 106 - 1).toNatClampNeg (-(v.1 0 363))) 0 106 (w.1 0 106 - 1 + 1) := by
    rw [← pq]
    exact e4
  rw [e4] at e3
  rw [e1, e2, e3]
  have hm1 : (-1 : Int32) = w.1 0 121 := S.1.2.symm
  refine ⟨?_, ?_, ?_, rfl⟩
  · rw [po]
    exact S.top (x := -(v.1 0 363)) ⟨rfl, rfl, rfl⟩ ⟨hm1, rfl, rfl, rfl, rfl, rfl, rfl⟩ rfl rfl rfl rfl (S.cnt.sm (by omega) ⟨rfl, rfl, rfl, rfl, rfl, rfl⟩ ⟨rfl, rfl, rfl, rfl, rfl, rfl⟩)
  · show (v.1 0 364 + 1).toInt = _
    rw [a3, l1]; rfl
  · show (w.1 0 112 + 1).toInt = _
    rw [o4, l2]; rfl
theorem ev_14 (ht : q.1 = 14) (C : CTX g N ng lim L1 K fn v0 w0 ka v w f k B b p P PO q (kc, pb, hh)) (Q1 : Q_x_X10_doDeed L1 L2 N v u) (Q2 : Q_m_obey w N r u2) : FAL g N ng lim ka f k B b p P PO q (kc, pb, hh) w u (wA u2 0 121 r) := by
  obtain ⟨A, Am, S, hp, ho, d, m, pr, ⟨h9, hN, hl, hka⟩, T, E, h, mi⟩ := C
  obtain ⟨⟨a1, a2⟩, a3, a4, a5, a6⟩ := clP A hp d (by rw [ht]; decide) h9
  obtain ⟨o1, o2, o3, o4⟩ := moP Am ho m (loE_1 (by rw [ht]; decide)) mi
  rw [oE_14 ht] at o1
  have l1 : ldE q = 1 := if_neg (by rw [ht]; decide)
  have l2 : loE q = 1 := loE_1 (by rw [ht]; decide)
  have b8 := mi.lin
  obtain ⟨d1, d2, d3⟩ := dPl d (by rw [ht]; decide)
  have D : v.1 378 (v.1 0 364).toNatClampNeg = 14 := by rw [a4, d1, ht]
  have pr : hh = 1 := by
    have z := pr
    unfold preT at z
    rw [ht] at z
    exact z
  subst pr
  obtain ⟨p1, p2, p3, p4⟩ := S.pi1
  have po : postT q (kc, pb, 1) = (kc, pb, 1) := by
    unfold postT
    rw [ht]
    rfl
  have e1 := dD_14 Q1 a1 a2 D
  obtain ⟨u9, e0, -, e2, e3⟩ := dO_20 Q2 o1
  have e4 := dT_20 e0 o1
  have pq : w.1 105 (w.1 0 106 - 1).toNatClampNeg = v.1 0 363 := by rw [p3, p4]
  have e4 : u9 = wA (wA (wA (wA w 0 112 (w.1 0 112 + 1)) 0 106 (w.1 0 106 - 1)) 105 (w.1 0 106 - 1).toNatClampNeg (v.1 0 363 ^^^ (-1))) 0 106 (w.1 0 106 - 1 + 1) := by
    rw [← pq]
    exact e4
  rw [e4] at e3
  rw [e1, e2, e3]
  have hm1 : (-1 : Int32) = w.1 0 121 := S.1.2.symm
  refine ⟨?_, ?_, ?_, rfl⟩
  · rw [po]
    exact S.top (x := v.1 0 363 ^^^ (-1)) ⟨rfl, rfl, rfl⟩ ⟨hm1, rfl, rfl, rfl, rfl, rfl, rfl⟩ rfl rfl rfl rfl (S.cnt.sm (by omega) ⟨rfl, rfl, rfl, rfl, rfl, rfl⟩ ⟨rfl, rfl, rfl, rfl, rfl, rfl⟩)
  · show (v.1 0 364 + 1).toInt = _
    rw [a3, l1]; rfl
  · show (w.1 0 112 + 1).toInt = _
    rw [o4, l2]; rfl
theorem ev_13 (ht : q.1 = 13) (C : CTX g N ng lim L1 K fn v0 w0 ka v w f k B b p P PO q (kc, pb, hh)) (Q1 : Q_x_X10_doDeed L1 L2 N v u) (Q2 : Q_m_obey w N r u2) : FAL g N ng lim ka f k B b p P PO q (kc, pb, hh) w u (wA u2 0 121 r) := by
  obtain ⟨A, Am, S, hp, ho, d, m, pr, ⟨h9, hN, hl, hka⟩, T, E, h, mi⟩ := C
  obtain ⟨⟨a1, a2⟩, a3, a4, a5, a6⟩ := clP A hp d (by rw [ht]; decide) h9
  obtain ⟨o1, o2, o3, o4⟩ := moP Am ho m (loE_1 (by rw [ht]; decide)) mi
  rw [oE_13 ht] at o1
  have l1 : ldE q = 1 := if_neg (by rw [ht]; decide)
  have l2 : loE q = 1 := loE_1 (by rw [ht]; decide)
  have b8 := mi.lin
  obtain ⟨d1, d2, d3⟩ := dPl d (by rw [ht]; decide)
  have D : v.1 378 (v.1 0 364).toNatClampNeg = 13 := by rw [a4, d1, ht]
  have pr : hh = 1 := by
    have z := pr
    unfold preT at z
    rw [ht] at z
    exact z
  subst pr
  obtain ⟨p1, p2, p3, p4⟩ := S.pi1
  have po : postT q (kc, pb, 1) = (kc, pb, 1) := by
    unfold postT
    rw [ht]
    rfl
  have e1 := dD_13 Q1 a1 a2 D
  obtain ⟨u9, e0, -, e2, e3⟩ := dO_19 Q2 o1
  have R := dT_19 e0 o1
  have pq : w.1 105 (w.1 0 106 - 1).toNatClampNeg = v.1 0 363 := by rw [p3, p4]
  rcases e1 with ⟨c, e1⟩ | ⟨c, e1⟩
  · rcases R with ⟨c2, r9, g9, f⟩ | ⟨c2, -⟩
    · have e4 : u9 = wA (wA (wA (wA w 0 112 (w.1 0 112 + 1)) 0 106 (w.1 0 106 - 1)) 105 (w.1 0 106 - 1).toNatClampNeg (0 : Int32)) 0 106 (w.1 0 106 - 1 + 1) := by rw [f, less0 g9]; rfl
      rw [e4] at e3
      rw [e1, e2, e3]
      have hm1 : (-1 : Int32) = w.1 0 121 := S.1.2.symm
      refine ⟨?_, ?_, ?_, rfl⟩
      · rw [po]
        exact S.top (x := (0 : Int32)) ⟨rfl, rfl, rfl⟩ ⟨hm1, rfl, rfl, rfl, rfl, rfl, rfl⟩ rfl rfl rfl rfl (S.cnt.sm (by omega) ⟨rfl, rfl, rfl, rfl, rfl, rfl⟩ ⟨rfl, rfl, rfl, rfl, rfl, rfl⟩)
      · show (v.1 0 364 + 1).toInt = _
        rw [a3, l1]; rfl
      · show (w.1 0 112 + 1).toInt = _
        rw [o4, l2]; rfl
    · have c2 : (w.1 105 (w.1 0 106 - 1).toNatClampNeg).toInt = 0 := c2
      rw [pq] at c2
      omega
  · rcases R with ⟨c2, -⟩ | ⟨c2, r9, g9, f⟩
    · have c2 : (w.1 105 (w.1 0 106 - 1).toNatClampNeg).toInt ≠ 0 := c2
      rw [pq] at c2
      omega
    · have e4 : u9 = wA (wA (wA (wA w 0 112 (w.1 0 112 + 1)) 0 106 (w.1 0 106 - 1)) 105 (w.1 0 106 - 1).toNatClampNeg (1 : Int32)) 0 106 (w.1 0 106 - 1 + 1) := by rw [f, less1 g9]; rfl
      rw [e4] at e3
      rw [e1, e2, e3]
      have hm1 : (-1 : Int32) = w.1 0 121 := S.1.2.symm
      refine ⟨?_, ?_, ?_, rfl⟩
      · rw [po]
        exact S.top (x := (1 : Int32)) ⟨rfl, rfl, rfl⟩ ⟨hm1, rfl, rfl, rfl, rfl, rfl, rfl⟩ rfl rfl rfl rfl (S.cnt.sm (by omega) ⟨rfl, rfl, rfl, rfl, rfl, rfl⟩ ⟨rfl, rfl, rfl, rfl, rfl, rfl⟩)
      · show (v.1 0 364 + 1).toInt = _
        rw [a3, l1]; rfl
      · show (w.1 0 112 + 1).toInt = _
        rw [o4, l2]; rfl
theorem ev_15 (ht : q.1 = 15) (C : CTX g N ng lim L1 K fn v0 w0 ka v w f k B b p P PO q (kc, pb, hh)) (Q1 : Q_x_X10_doDeed L1 L2 N v u) (Q2 : Q_m_obey w N r u2) : FAL g N ng lim ka f k B b p P PO q (kc, pb, hh) w u (wA u2 0 121 r) := by
  obtain ⟨A, Am, S, hp, ho, d, m, pr, ⟨h9, hN, hl, hka⟩, T, E, h, mi⟩ := C
  obtain ⟨⟨a1, a2⟩, a3, a4, a5, a6⟩ := clP A hp d (by rw [ht]; decide) h9
  obtain ⟨o1, o2, o3, o4⟩ := moP Am ho m (loE_1 (by rw [ht]; decide)) mi
  rw [oE_15 ht] at o1
  have l1 : ldE q = 1 := if_neg (by rw [ht]; decide)
  have l2 : loE q = 1 := loE_1 (by rw [ht]; decide)
  have b8 := mi.lin
  obtain ⟨d1, d2, d3⟩ := dPl d (by rw [ht]; decide)
  have D : v.1 378 (v.1 0 364).toNatClampNeg = 15 := by rw [a4, d1, ht]
  have pr : hh = 1 := by
    have z := pr
    unfold preT at z
    rw [ht] at z
    exact z
  subst pr
  obtain ⟨p1, p2, p3, p4⟩ := S.pi1
  have po : postT q (kc, pb, 1) = (kc, pb, 1) := by
    unfold postT
    rw [ht]
    rfl
  have e1 := dD_15 Q1 a1 a2 D
  obtain ⟨u9, e0, -, e2, e3⟩ := dO_24 Q2 o1
  have R := dT_24 e0 o1
  have pq : w.1 105 (w.1 0 106 - 1).toNatClampNeg = v.1 0 363 := by rw [p3, p4]
  rcases e1 with ⟨c, e1⟩ | ⟨c, e1⟩
  · rcases R with ⟨c2, r9, g9, f⟩ | ⟨c2, -⟩
    · have e4 : u9 = wA (wA (wA (wA w 0 112 (w.1 0 112 + 1)) 0 106 (w.1 0 106 - 1)) 105 (w.1 0 106 - 1).toNatClampNeg (0 : Int32)) 0 106 (w.1 0 106 - 1 + 1) := by rw [f, less0 g9]; rfl
      rw [e4] at e3
      rw [e1, e2, e3]
      have hm1 : (-1 : Int32) = w.1 0 121 := S.1.2.symm
      refine ⟨?_, ?_, ?_, rfl⟩
      · rw [po]
        exact S.top (x := (0 : Int32)) ⟨rfl, rfl, rfl⟩ ⟨hm1, rfl, rfl, rfl, rfl, rfl, rfl⟩ rfl rfl rfl rfl (S.cnt.sm (by omega) ⟨rfl, rfl, rfl, rfl, rfl, rfl⟩ ⟨rfl, rfl, rfl, rfl, rfl, rfl⟩)
      · show (v.1 0 364 + 1).toInt = _
        rw [a3, l1]; rfl
      · show (w.1 0 112 + 1).toInt = _
        rw [o4, l2]; rfl
    · have c2 : (w.1 105 (w.1 0 106 - 1).toNatClampNeg).toInt ≠ 0 := c2
      rw [pq] at c2
      omega
  · rcases R with ⟨c2, -⟩ | ⟨c2, r9, g9, f⟩
    · have c2 : (w.1 105 (w.1 0 106 - 1).toNatClampNeg).toInt = 0 := c2
      rw [pq] at c2
      omega
    · have e4 : u9 = wA (wA (wA (wA w 0 112 (w.1 0 112 + 1)) 0 106 (w.1 0 106 - 1)) 105 (w.1 0 106 - 1).toNatClampNeg (1 : Int32)) 0 106 (w.1 0 106 - 1 + 1) := by rw [f, less1 g9]; rfl
      rw [e4] at e3
      rw [e1, e2, e3]
      have hm1 : (-1 : Int32) = w.1 0 121 := S.1.2.symm
      refine ⟨?_, ?_, ?_, rfl⟩
      · rw [po]
        exact S.top (x := (1 : Int32)) ⟨rfl, rfl, rfl⟩ ⟨hm1, rfl, rfl, rfl, rfl, rfl, rfl⟩ rfl rfl rfl rfl (S.cnt.sm (by omega) ⟨rfl, rfl, rfl, rfl, rfl, rfl⟩ ⟨rfl, rfl, rfl, rfl, rfl, rfl⟩)
      · show (v.1 0 364 + 1).toInt = _
        rw [a3, l1]; rfl
      · show (w.1 0 112 + 1).toInt = _
        rw [o4, l2]; rfl
end YDE
