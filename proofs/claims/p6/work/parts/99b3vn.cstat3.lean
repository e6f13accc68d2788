/-! the class's deeds: every statement, at every level -/
section VNS
variable {L1 L2 : List Nat} {P : Int32 × Int32 × Int32} {v u w x y : MS} {a b c : List EV} {e : PE} {pa pb pc1 r r3 r7 : Int32} {E : EvE} {S : EvS} {R : MS → Bool → MS → Prop} {n N : Nat}
theorem mIfM (hR : XMs R) (h : Q_x_X5_ifStat L1 L2 n R v false u) : (v.1 0 321).toInt ≤ (u.1 0 321).toInt := by
  obtain ⟨-, -, -, -, -, -, -, -, -, -, r3, u2, h2, k2, h⟩ := h
  rcases h with ⟨u9, -, f, -⟩ | ⟨u10, h10, k10, ⟨u9, -, f, -⟩ | ⟨u26, h26, k26, u29, h29, k29, ⟨u9, -, f, -⟩ | ⟨u45, h45, k45, r50, hk, h⟩⟩⟩
  · cases f
  · cases f
  · cases f
  have := fc21 k2.1
  have := fc21 k10.1
  have := mCondM (mkLev _).1.2 h26
  have := fc21 k29.1
  have := mInnerM hR h45
  rcases h with ⟨c, u54, h54, k54, u58, h58, k58, -, eu⟩ | ⟨c, r75, u74, h74, k74, ⟨u9, -, f, -⟩ | ⟨u81, h81, k81, u86, h86, k86, u89, h89, k89, ⟨u9, -, f, -⟩ | ⟨u122, h122, k122, u125, h125, k125, u129, h129, k129, -, eu⟩⟩⟩
  · have := fc21 k54.1
    have := fc21 k58.1
    rw [eu]
    omega
  · cases f
  · cases f
  · have := fc21 k74.1
    have := fc21 k81.1
    have := fc21 k86.1
    have := fc21 k89.1
    have := mInnerM hR h122
    have := fc21 k125.1
    have := fc21 k129.1
    rw [eu]
    omega
theorem eIf (hE : ∀ m, m ≤ n → XE L2 (QE L1 L2 m) E) (hS : XS L2 R S) (hR : XMs R) (h : Q_x_X5_ifStat L1 L2 n R v false u) (J : JC L2 e v) (B : LBe v) (t6 : T6 v) (p0 : v.1 0 314 = 0) (cu : (u.1 0 321).toInt ≤ 500) (hP : LPq P v) : ∃ a, gIf E S e (knC v) (v.1 0 314) (v.1 0 305) = some (a, knC u, u.1 0 305) ∧ SS L2 e P v u a := by
  obtain ⟨-, -, -, -, -, -, -, -, -, -, r3, u2, h2, k2, h⟩ := h
  rcases h with ⟨u9, -, f, -⟩ | ⟨u10, h10, k10, ⟨u9, -, f, -⟩ | ⟨u26, h26, k26, u29, h29, k29, ⟨u9, -, f, -⟩ | ⟨u45, h45, k45, r50, hk, h⟩⟩⟩
  · cases f
  · cases f
  · cases f
  rcases h with ⟨c, u54, h54, k54, u58, h58, k58, -, eu⟩ | ⟨c, r75, u74, h74, k74, ⟨u9, -, f, -⟩ | ⟨u81, h81, k81, u86, h86, k86, u89, h89, k89, ⟨u9, -, f, -⟩ | ⟨u122, h122, k122, u125, h125, k125, u129, h129, k129, -, eu⟩⟩⟩
  · rw [← eu] at h58 k58
    exact eIf0 (hE _ (by omega)) (mkLev _).2.2 hS h2 k2 h10 k10 h26 k26 h29 k29 h45 k45 h54 k54 h58 k58 J B t6 p0 (by have := fc21 k54.1; have := fc21 k58.1; omega) (mInnerM hR h45) hP hk c
  · cases f
  · cases f
  · rw [← eu] at h129 k129
    have c122 : (u122.1 0 321).toInt ≤ 500 := by have := fc21 k125.1; have := fc21 k129.1; omega
    have c45 : (u45.1 0 321).toInt ≤ 500 := by
      have := fc21 k74.1
      have := fc21 k81.1
      have := fc21 k86.1
      have := fc21 k89.1
      have := mInnerM hR h122
      omega
    exact eIf1 (hE _ (by omega)) (mkLev _).2.2 hS h2 k2 h10 k10 h26 k26 h29 k29 h45 k45 h74 k74 h81 k81 h86 k86 h89 k89 h122 k122 h125 k125 h129 k129 J B t6 p0 c45 c122 (mInnerM hR h45) hP hk c
theorem mWhileM (hR : XMs R) (h : Q_x_X5_whileRest L1 L2 n R v false u) : (v.1 0 321).toInt ≤ (u.1 0 321).toInt := by
  obtain ⟨-, -, -, -, -, -, -, -, -, -, u2, h2, k2, u6, h6, k6, h⟩ := h
  rcases h with ⟨u9, -, f, -⟩ | ⟨u26, h26, k26, u29, h29, k29, ⟨u9, -, f, -⟩ | ⟨u43, h43, k43, u46, h46, k46, -, eu⟩⟩
  · cases f
  · cases f
  have := fc21 k2.1
  have := fc21 k6.1
  have := mCondM (mkLev _).1.2 h26
  have := fc21 k29.1
  have := mInnerM hR h43
  have := fc21 k46.1
  rw [eu]
  omega
theorem mDoM (hR : XMs R) (h : Q_x_X5_doRest L1 L2 n R v false u) : (v.1 0 321).toInt ≤ (u.1 0 321).toInt := by
  obtain ⟨-, -, -, -, -, -, -, -, -, -, r3, u2, h2, k2, u6, h6, k6, u10, h10, k10, h⟩ := h
  rcases h with ⟨u9, -, f, -⟩ | ⟨u36, h36, k36, u39, h39, k39, ⟨u9, -, f, -⟩ | ⟨u47, h47, k47, ⟨u9, -, f, -⟩ | ⟨u64, h64, k64, u67, h67, k67, ⟨u9, -, f, -⟩ | ⟨u75, h75, k75, -, eu⟩⟩⟩⟩
  · cases f
  · cases f
  · cases f
  · cases f
  have := fc21 k2.1
  have := fc21 k6.1
  have := fc21 k10.1
  have := mInnerM hR h36
  have := fc21 k39.1
  have := fc21 k47.1
  have := mCondM (mkLev _).1.2 h64
  have := fc21 k67.1
  have := fc21 k75.1
  rw [eu]
  omega
theorem mForM (hR : XMs R) (h : Q_x_X5_forRest L1 L2 n R v false u) : (v.1 0 321).toInt ≤ (u.1 0 321).toInt := by
  obtain ⟨-, -, -, -, -, -, -, -, -, -, r3, u2, h2, k2, r7, u6, h6, k6, h⟩ := h
  rcases h with ⟨u9, -, f, -⟩ | ⟨u15, h15, k15, ⟨u9, -, f, -⟩ | ⟨u24, h24, k24, ⟨u9, -, f, -⟩ | ⟨r50, u49, h49, k49, ⟨u9, -, f, -⟩ | ⟨u54, h54, k54, u58, h58, k58, u62, h62, k62, ⟨u9, -, f, -⟩ | ⟨r92, u91, h91, k91, h⟩⟩⟩⟩⟩
  · cases f
  · cases f
  · cases f
  · cases f
  · cases f
  have := fc21 k2.1
  have := fc21 k6.1
  have := fc21 k15.1
  have := fc21 k24.1
  have := mOptM (mkLev _).1.2 h49
  have := fc21 k54.1
  have := fc21 k58.1
  have := fc21 k62.1
  have := mOptM (mkLev _).1.2 h91
  rcases h with ⟨c, ⟨u9, -, f, -⟩ | ⟨u98, h98, k98, u102, h102, k102, u105, h105, k105, ⟨u9, -, f, -⟩ | ⟨r136, u135, h135, k135, ⟨u9, -, f, -⟩ | ⟨u140, h140, k140, u144, h144, k144, u149, h149, k149, u152, h152, k152, ⟨u9, -, f, -⟩ | ⟨u186, h186, k186, u189, h189, k189, -, eu⟩⟩⟩⟩⟩ | ⟨c, u199, h199, k199, ⟨u9, -, f, -⟩ | ⟨u98, h98, k98, u102, h102, k102, u105, h105, k105, ⟨u9, -, f, -⟩ | ⟨r136, u135, h135, k135, ⟨u9, -, f, -⟩ | ⟨u140, h140, k140, u144, h144, k144, u149, h149, k149, u152, h152, k152, ⟨u9, -, f, -⟩ | ⟨u186, h186, k186, u189, h189, k189, -, eu⟩⟩⟩⟩⟩
  · cases f
  · cases f
  · cases f
  · cases f
  · rw [eu]
    have := fc21 k98.1
    have := fc21 k102.1
    have := fc21 k105.1
    have := mOptM (mkLev _).1.2 h135
    have := fc21 k140.1
    have := fc21 k144.1
    have := fc21 k149.1
    have := fc21 k152.1
    have := mInnerM hR h186
    have := fc21 k189.1
    omega
  · cases f
  · cases f
  · cases f
  · cases f
  · rw [eu]
    have := fc21 k199.1
    have := fc21 k98.1
    have := fc21 k102.1
    have := fc21 k105.1
    have := mOptM (mkLev _).1.2 h135
    have := fc21 k140.1
    have := fc21 k144.1
    have := fc21 k149.1
    have := fc21 k152.1
    have := mInnerM hR h186
    have := fc21 k189.1
    omega
theorem mLoopM (hR : XMs R) (h : Q_x_X5_loopStat L1 L2 n R v pa false u) : (v.1 0 321).toInt ≤ (u.1 0 321).toInt := by
  obtain ⟨-, -, -, -, -, -, -, -, -, -, r3, u2, h2, k2, r7, u6, h6, k6, h⟩ := h
  rcases h with ⟨u9, -, f, -⟩ | ⟨u17, h17, k17, h⟩
  · cases f
  have m1 := fc21 k2.1
  have m2 := fc21 k6.1
  have m2 : (u6.1 0 321).toInt = (u2.1 0 321).toInt := m2
  have m3 := fc21 k17.1
  have m3 : (u17.1 0 321).toInt = (u6.1 0 321).toInt := m3
  have fin : ∀ {x y z : MS} {q : Int32}, (u17.1 0 321).toInt ≤ (x.1 0 321).toInt → K_x_X1_setLabel x q y → K_x_X9_close y z → u = wA (wA z 0 331 (v.1 0 331)) 0 332 (v.1 0 332) → (v.1 0 321).toInt ≤ (u.1 0 321).toInt := by
    intro x y z q g1 g2 g3 g4
    have := fc21 g2.1
    have := fc21 g3.1
    rw [g4]
    show (v.1 0 321).toInt ≤ (z.1 0 321).toInt
    omega
  rcases h with ⟨c3, ⟨c4, ⟨u9, -, f, -⟩ | ⟨u41, h4, -, u44, h5, k5, u48, h6, k6, -, eu⟩⟩ | ⟨c4, ⟨u9, -, f, -⟩ | ⟨u41, h4, -, u44, h5, k5, u48, h6, k6, -, eu⟩⟩⟩ | ⟨c3, ⟨u9, -, f, -⟩ | ⟨u41, h4, -, u44, h5, k5, u48, h6, k6, -, eu⟩⟩
  · cases f
  · exact fin (mForM hR h4) k5 k6 eu
  · cases f
  · exact fin (mDoM hR h4) k5 k6 eu
  · cases f
  · exact fin (mWhileM hR h4) k5 k6 eu
theorem nm1 : N ∉ [N + 1] := fun q => by
  have := List.mem_singleton.mp q
  omega
theorem nm2 : N ∉ [N + 2, N + 1] := fun q => by
  rcases List.mem_cons.mp q with q | q
  · omega
  · exact nm1 q
theorem nm3 : N ∉ [N + 2, N + 1, N + 3] := fun q => by
  rcases List.mem_cons.mp q with q | q
  · omega
  · rcases List.mem_cons.mp q with q | q
    · omega
    · have := List.mem_singleton.mp q
      omega
theorem eLoop (hE : ∀ m, m ≤ n → XE L2 (QE L1 L2 m) E) (hS : XS L2 R S) (hR : XMs R) (h : Q_x_X5_loopStat L1 L2 n R v pa false u) (J : JC L2 e v) (B : LBe v) (t6 : T6 v) (p0 : v.1 0 314 = 0) (cu : (u.1 0 321).toInt ≤ 500) (hP : LPq P v) : ∃ a, (if pa.toInt = 13 then gWhile E S e (knC v) (v.1 0 314) (v.1 0 305 + 1) else if pa.toInt = 14 then gDo E S e (knC v) (v.1 0 314) (v.1 0 305 + 1) else gFor E S e (knC v) (v.1 0 314) (v.1 0 305 + 1)) = some (a, knC u, u.1 0 305) ∧ SS L2 e P v u a := by
  obtain ⟨-, -, -, -, -, -, -, -, -, -, r3, u2, h2, k2, r7, u6, h6, k6, h⟩ := h
  rcases h with ⟨u9, -, f, -⟩ | ⟨u17, h17, k17, h⟩
  · cases f
  obtain ⟨N, Y⟩ := eLoopB h2 k2 h6 k6 h17 k17 J B t6
  have cw : ∀ {x y z : MS} {q : Int32}, K_x_X1_setLabel x q y → K_x_X9_close y z → u = wA (wA z 0 331 (v.1 0 331)) 0 332 (v.1 0 332) → (x.1 0 321).toInt ≤ 500 := by
    intro x y z q g2 g3 g4
    have := fc21 g2.1
    have := fc21 g3.1
    rw [g4] at cu
    have cu : (z.1 0 321).toInt ≤ 500 := cu
    omega
  have hN := Y.2.2.1.1
  have p1 : (lpP u17).1.toInt = N := Y.2.2.2.1.1
  have p2 : (lpP u17).2.1.toInt = (N : Int) + 1 := Y.2.2.2.1.2.1
  have p3 : (lpP u17).2.2 = P.2.2 := by
    rw [hP.2.2]
    exact Y.2.2.2.1.2.2
  have h0 := B.2.2.2.1
  rcases h with ⟨c3, ⟨c4, ⟨u9, -, f, -⟩ | ⟨u41, h4, -, u44, h5, k5, u48, h6, k6, -, eu⟩⟩ | ⟨c4, ⟨u9, -, f, -⟩ | ⟨u41, h4, -, u44, h5, k5, u48, h6, k6, -, eu⟩⟩⟩ | ⟨c3, ⟨u9, -, f, -⟩ | ⟨u41, h4, -, u44, h5, k5, u48, h6, k6, -, eu⟩⟩
  · cases f
  · obtain ⟨i, c, s, b, x1, x2⟩ := eFor (P := P) (hE _ (by omega)) (mkLev _).2.2 (mkLev _).1.2 hS hR h4 Y B p0 (cw k5 k6 eu)
    have Z := eLoopE (P := P) Y x2 B (by omega) (by cases c with | none => exact nm3 | some c => exact nm3) h5 k5 h6 k6 eu
    refine ⟨gForL i c s b, ?_, Z.2.1 _ ?_⟩
    · rw [if_neg c3, if_neg c4, x1, Z.2.2.1, Z.2.2.2]
    · cases c with
      | none => exact EA.fr0 Z.1.1 hN h0 p1 p2 p3 Z.1.2
      | some c => exact EA.fr1 Z.1.1 hN h0 p1 p2 p3 Z.1.2
  · cases f
  · obtain ⟨b, c, j, j2, x1, ⟨j1, x2, x3⟩, x4, x5⟩ := eDo (P := P) (hE _ (by omega)) (mkLev _).2.2 (mkLev _).1.2 hS hR h4 Y B p0 (cw k5 k6 eu)
    have Z := eLoopE (P := P) Y x5 B (by omega) nm2 h5 k5 h6 k6 eu
    refine ⟨gDoL b c, ?_, Z.2.1 _ (EA.dol Z.1.1 hN h0 p1 p2 p3 Z.1.2)⟩
    rw [if_neg c3, if_pos (by rw [c4])]
    unfold gDo
    rw [x1, Option.bind_some, x2, Option.bind_some, x3, Option.bind_some, x4, Option.bind_some, Z.2.2.1, Z.2.2.2]
  · cases f
  · obtain ⟨c, b, j, x1, x2, x3⟩ := eWhile (P := P) (hE _ (by omega)) (mkLev _).2.2 hS hR h4 Y B p0 (cw k5 k6 eu)
    have Z := eLoopE (P := P) Y x3 B (by omega) nm1 h5 k5 h6 k6 eu
    refine ⟨gWhileL c b, ?_, Z.2.1 _ (EA.whl Z.1.1 hN h0 p1 p2 p3 Z.1.2)⟩
    rw [if_pos (by rw [c3])]
    unfold gWhile
    rw [x1, Option.bind_some, x2, Option.bind_some, Z.2.2.1, Z.2.2.2]
end VNS
