/-! the class's deeds: a block, PUT, an expression as a statement; calls never become fewer -/
section VBB
variable {L1 L2 : List Nat} {P : Int32 × Int32 × Int32} {v u w x : MS} {a b : List EV} {e : PE} {pa pb pc1 pd r : Int32} {t : Bool} {E : EvE} {S : EvS} {R : MS → Bool → MS → Prop} {n : Nat}
theorem mCondM (hM : XM (QE L1 L2 (n - 1))) (h : Q_x_X5_condition L1 L2 n v false u) : (v.1 0 321).toInt ≤ (u.1 0 321).toInt := by
  obtain ⟨-, -, -, -, -, -, -, -, -, -, h⟩ := h
  rcases h with ⟨u9, -, f, -⟩ | ⟨u2, h2, k2, ⟨u9, -, f, -⟩ | ⟨u10, h10, k10, ⟨u9, -, f, -⟩ | ⟨u27, h27, k27, ⟨u9, -, f, -⟩ | ⟨u32, h32, k32, u36, h36, k36, -, eu⟩⟩⟩⟩
  · cases f
  · cases f
  · cases f
  · cases f
  have := fc21 k2.1
  have := fc21 k10.1
  have := hM _ _ _ h27
  have := fc21 k32.1
  have := fc21 k36.1
  rw [eu]
  omega
theorem mRetM (hM : XM (QE L1 L2 n)) (h : Q_x_X5_returnStat L1 L2 n v false u) : (v.1 0 321).toInt ≤ (u.1 0 321).toInt := by
  obtain ⟨-, -, -, -, -, -, -, -, -, -, h⟩ := h
  rcases h with ⟨u9, -, f, -⟩ | ⟨u2, h2, k2, r7, hk7, h⟩
  · cases f
  have := fc21 k2.1
  rcases h with ⟨c, ⟨u9, -, f, -⟩ | ⟨u18, h18, k18, u21, h21, k21, ⟨u9, -, f, -⟩ | ⟨u29, h29, k29, -, eu⟩⟩⟩ | ⟨c, u43, h43, k43, u46, h46, k46, ⟨u9, -, f, -⟩ | ⟨u56, h56, k56, -, eu⟩⟩
  · cases f
  · cases f
  · have := hM _ _ _ h18
    have := fc21 k21.1
    have := fc21 k29.1
    rw [eu]
    omega
  · cases f
  · have := fc21 k43.1
    have := fc21 k46.1
    have := fc21 k56.1
    rw [eu]
    omega
theorem mJumpM (h : Q_x_X5_jumpStat L1 L2 v pa false u) : (v.1 0 321).toInt ≤ (u.1 0 321).toInt := by
  obtain ⟨-, -, -, -, -, -, r3, -, h⟩ := h
  rcases h with ⟨u9, -, f, -⟩ | ⟨u5, h5, k5, ⟨-, u12, h12, k12, ⟨u9, -, f, -⟩ | ⟨u20, h20, k20, -, eu⟩⟩ | ⟨-, u9, -, f, -⟩⟩
  · cases f
  · cases f
  · have := fc21 k5.1
    have := fc21 k12.1
    have := fc21 k20.1
    rw [eu]
    omega
  · cases f
theorem mLocalM (hM : XM (QE L1 L2 n)) (h : Q_x_X5_local L1 L2 n v false u) : (v.1 0 321).toInt ≤ (u.1 0 321).toInt := by
  obtain ⟨-, -, -, -, -, -, -, -, -, -, h⟩ := h
  rcases h with ⟨u9, -, f, -⟩ | ⟨u2, h2, k2, ⟨u9, -, f, -⟩ | ⟨r11, u10, h10, k10, ⟨u9, -, f, -⟩ | ⟨u19, h19, k19, r24, h24, ⟨u9, -, f, -⟩ | ⟨u29, h29, k29, r34, hk, h⟩⟩⟩⟩
  · cases f
  · cases f
  · cases f
  · cases f
  have := fc21 k2.1
  have := fc21 k10.1
  have := fc21 k19.1
  have := fc21 k29.1
  rcases h with ⟨c, u40, h40, k40, u43, h43, k43, ⟨u9, -, f, -⟩ | ⟨u53, h53, k53, u60, h60, k60, -, eu⟩⟩ | ⟨c, ⟨u9, -, f, -⟩ | ⟨u98, h98, k98, ⟨u9, -, f, -⟩ | ⟨u126, h126, k126, u129, h129, k129, ⟨u9, -, f, -⟩ | ⟨u137, h137, k137, u143, h143, k143, -, eu⟩⟩⟩⟩
  · cases f
  · have := fc21 k40.1
    have := fc21 k43.1
    have := fc21 k53.1
    have := fc21 k60.1
    rw [eu]
    omega
  · cases f
  · cases f
  · cases f
  · have := fc21 k98.1
    have := hM _ _ _ h126
    have := fc21 k129.1
    have := fc21 k137.1
    have := fc21 k143.1
    rw [eu]
    omega
theorem mInnerM (hR : XMs R) (h : Q_x_X5_innerStat L1 L2 n R v false u) : (v.1 0 321).toInt ≤ (u.1 0 321).toInt := by
  obtain ⟨-, -, -, -, -, -, -, -, -, -, h⟩ := h
  rcases h with ⟨u9, -, f, -⟩ | ⟨u2, h2, k2, -, eu⟩
  · cases f
  have a0 := hR _ _ h2
  have : (v.1 0 321).toInt ≤ (u2.1 0 321).toInt := a0
  rw [eu]
  exact this
theorem mStatsM (hR : XMs R) (h : Q_x_X5_stats L1 L2 n R v false u) : (v.1 0 321).toInt ≤ (u.1 0 321).toInt := by
  obtain ⟨-, -, -, -, -, -, -, -, -, -, ka, w2, hr, -, i5, i6, -, -, i26, -, hka, -, -, -, -, h6, h⟩ := h
  have inv : (v.1 0 321).toInt ≤ (w2.1 0 321).toInt := by
    refine RT.ind (fun (q : Int32 × MS) => (v.1 0 321).toInt ≤ (q.2.1 0 321).toInt) hr (Int.le_refl _) ?_
    rintro ⟨k9, w1⟩ y - I1 hy
    obtain ⟨-, j5, j6, -, -, -, -, hk9, -, -, -, -, h61, lt, r7, hk, c33, u13, h13, k13, rfl⟩ := hy
    exact Int.le_trans I1 (hR _ _ h13)
  rcases h with ⟨q, -, eu⟩ | ⟨-, r7, hk, ⟨c33, -, eu⟩ | ⟨-, u9, -, f, -⟩⟩
  · rw [eu]; exact inv
  · rw [eu]; exact inv
  · cases f
theorem mBlockM (hR : XMs R) (h : Q_x_X5_block L1 L2 n R v false u) : (v.1 0 321).toInt ≤ (u.1 0 321).toInt := by
  obtain ⟨-, -, -, -, -, -, -, -, -, -, h⟩ := h
  rcases h with ⟨u9, -, f, -⟩ | ⟨u2, h2, k2, ⟨u9, -, f, -⟩ | ⟨u15, h15, k15, ⟨u9, -, f, -⟩ | ⟨u20, h20, k20, u24, h24, k24, -, eu⟩⟩⟩
  · cases f
  · cases f
  · cases f
  have a0 := fc21 k2.1
  have a1 : (u2.1 0 321).toInt = (v.1 0 321).toInt := a0
  have a2 := mStatsM hR h15
  have a3 := fc21 k20.1
  have a4 := fc21 k24.1
  rw [eu]
  show (v.1 0 321).toInt ≤ (u24.1 0 321).toInt
  omega
theorem eBlock (hS : XS L2 R S) (hR : XMs R) (h : Q_x_X5_block L1 L2 n R v false u) (J : JC L2 e v) (B : LBe v) (t6 : T6 v) (p0 : v.1 0 314 = 0) (cu : (u.1 0 321).toInt ≤ 500) (hP : LPq P v) : ∃ a, gBlock S e (knC v) (v.1 0 314) (v.1 0 305) = some (a, knC u, u.1 0 305) ∧ SS L2 e P v u a := by
  have z5 : 0 ≤ (v.1 0 305).toInt := h.2.1.1
  obtain ⟨-, -, -, -, -, -, -, -, -, -, h⟩ := h
  rcases h with ⟨u9, -, f, -⟩ | ⟨u2, h2, k2, ⟨u9, -, f, -⟩ | ⟨u15, h15, k15, ⟨u9, -, f, -⟩ | ⟨u20, h20, k20, u24, h24, k24, -, eu⟩⟩⟩
  · cases f
  · cases f
  · cases f
  have J0 : JC L2 e (wA v 0 313 (v.1 0 312)) := J.fr (FC.f (fl := [313]) (al := [0]) (FC.rf v) _ (by decide)) (RS.w0 RS.rf (by decide)) (by decide) (by decide) J.2.1
  have B0 : LBe (wA v 0 313 (v.1 0 312)) := B
  have O1 := ES.opn (P := P) h2 k2 J0 B0
  have S1 : SS L2 e P (wA v 0 313 (v.1 0 312)) u2 [] := O1.1.ss (KT.fc k2.1) k2.1
  have c15 : (u15.1 0 321).toInt ≤ 500 := by
    rw [eu] at cu
    have cu : (u24.1 0 321).toInt ≤ 500 := cu
    have := fc21 k20.1
    have := fc21 k24.1
    omega
  have P0 : LPq P (wA v 0 313 (v.1 0 312)) := hP
  have q5 : (u2.1 0 305).toInt = (v.1 0 305).toInt + 1 := k2.2.2.2.2.1
  obtain ⟨a, x1, x2⟩ := eStats hS hR h15 S1.1.1 S1.1.2.2 ⟨by rw [k2.1.2.1 326 (by decide)]; exact t6.1, k2.2.2.1.1⟩ (S1.2.1.trans p0) c15 (P0.ss S1) (by omega)
  have X := ES.exp (P := P) (m := 33) (by decide) h20 k20 x2.1.1 x2.1.2.2
  have C := ES.close (P := P) h24 k24 X.1.1 X.1.2.2.1
  have T := ((S1.tr x2 B0).tr (X.1.ss (KT.fc k20.1) k20.1) B0).tr (C.1.ss (KT.fc k24.1) k24.1) B0
  simp only [List.nil_append, List.append_nil] at T
  have Z := SS.back (pb := v.1 0 313) T B
  rw [eu]
  refine ⟨a, ?_, Z.1⟩
  unfold gBlock
  have e1 : knC u2 = knC v := O1.1.2.2.2.1
  have e2 : u2.1 0 314 = v.1 0 314 := S1.2.1
  have e3 : u2.1 0 305 = v.1 0 305 + 1 := O1.2
  rw [e1, e2, e3] at x1
  rw [x1, Option.bind_some, X.2, Option.bind_some, Z.2.1, Z.2.2.2, C.2]
/-- PUT -/
theorem ePutSt (hE : XE L2 (QE L1 L2 (n - 1)) E) (hK : XK (QE L1 L2 (n - 1))) {u65 u76 u79 : MS} (h65 : Q_x_X9_take L1 L2 v false u65) (k65 : K_x_X9_take v u65) (h76 : Q_x_X5_condition L1 L2 n u65 false u76) (k76 : K_x_X5_condition u65 u76) (h79 : Q_x_X1_add L1 L2 u76 22 0 0 u79) (k79 : K_x_X1_add u76 22 0 0 u79) (h87 : Q_x_X9_expect L1 L2 u79 36 false u) (k87 : K_x_X9_expect u79 36 u) (J : JC L2 e v) (B : LBe v) (t6 : T6 v) (cu : (u.1 0 321).toInt ≤ 500) : ∃ a, gPutS E e (knC v) (v.1 0 314) (v.1 0 305) = some (a, knC u, u.1 0 305) ∧ SS L2 e P v u a := by
  have T := ES.take (P := P) h65 k65 J B
  have c76 : (u76.1 0 321).toInt ≤ 500 := by
    have := fc21 k79.1
    have := fc21 k87.1
    omega
  obtain ⟨a, x1, x2, x3⟩ := eCond (P := P) hE hK h76 T.1.1 T.1.2.2.1 (t6.fr k65.1) c76
  have A := ES.add (P := P) (y := 0) h79 k79 x2.1 x2.2.2.1 (by unfold plE; decide) rfl
  have X := ES.exp (P := P) (m := 36) (by decide) h87 k87 A.1.1 A.1.2.2.1
  have Z := (((T.1.ss (KT.fc k65.1) k65.1).tr (x2.ss x3 k76.1) B).tr (A.1.ss (KT.fc k79.1) k79.1) B).tr (X.1.ss (KT.fc k87.1) k87.1) B
  simp only [List.nil_append, List.append_nil] at Z
  refine ⟨_, ?_, Z⟩
  unfold gPutS
  rw [T.1.2.2.2.1, T.1.2.2.2.2.1, T.2] at x1
  have g := X.2
  rw [A.2] at g
  rw [x1, Option.bind_some, g, Option.bind_some, X.1.2.2.2.1, A.1.2.2.2.1, x2.2.2.2.1, T.1.2.2.2.1]
/-- an expression as a statement -/
theorem eXst (hE : XE L2 (QE L1 L2 n) E) (hK : XK (QE L1 L2 n)) {u14 : MS} (h14 : QE L1 L2 n v 1 false u14) (k14 : K_x_X2_expression v 1 u14) (h19 : Q_x_X9_expect L1 L2 u14 36 false u) (k19 : K_x_X9_expect u14 36 u) (J : JC L2 e v) (B : LBe v) (t6 : T6 v) (cu : (u.1 0 321).toInt ≤ 500) : ∃ a, ((E true e (knC v) (v.1 0 314) (v.1 0 305)).bind fun q => (gTok e 36 q.2).bind fun j => some (q.1 ++ [evx 25 0 0], knC v, j)) = some (a, knC u, u.1 0 305) ∧ SS L2 e P v u a := by
  obtain ⟨a, x1, x2⟩ := hE.es (P := P) (bz := true) h14 k14 J B t6.tp (by have := fc21 k19.1; omega) (by decide)
  have D := ES.drp (P := P) x2.1 x2.2.2.1
  have X := ES.exp (P := P) (m := 36) (by decide) h19 k19 x2.1 x2.2.2.1
  have Z := ((x2.ss (hK _ _ _ h14) k14.1).tr (D.ss (fl := []) (al := []) KT.rf (FC.rf _)) B).tr (X.1.ss (KT.fc k19.1) k19.1) B
  simp only [List.append_nil] at Z
  refine ⟨_, ?_, Z⟩
  rw [x1, Option.bind_some, X.2, Option.bind_some, X.1.2.2.2.1, x2.2.2.2.1]
end VBB
