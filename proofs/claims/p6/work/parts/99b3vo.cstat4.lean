/-! the class's deeds: a statement by its first word; the levels -/
section VOS
variable {L1 L2 : List Nat} {P : Int32 × Int32 × Int32} {v u w x y : MS} {a b c : List EV} {e : PE} {pa pb pc1 r r3 r7 : Int32} {E : EvE} {S : EvS} {R : MS → Bool → MS → Prop} {n N : Nat}
theorem mPlainM (h : (∃ u9, QE L1 L2 n v 1 true u9 ∧ false = true ∧ u = u9) ∨ (∃ u14, QE L1 L2 n v 1 false u14 ∧ K_x_X2_expression v 1 u14 ∧ ((∃ u9, Q_x_X9_expect L1 L2 u14 36 true u9 ∧ false = true ∧ u = u9) ∨ (∃ u19, Q_x_X9_expect L1 L2 u14 36 false u19 ∧ K_x_X9_expect u14 36 u19 ∧ false = false ∧ u = u19)))) : (v.1 0 321).toInt ≤ (u.1 0 321).toInt := by
  rcases h with ⟨u9, -, f, -⟩ | ⟨u14, h14, k14, ⟨u9, -, f, -⟩ | ⟨u19, h19, k19, -, eu⟩⟩
  · cases f
  · cases f
  · have := (mkLev n).1.2 _ _ _ h14
    have := fc21 k19.1
    rw [eu]
    omega
theorem ePlain (hE : XE L2 (QE L1 L2 n) E) (h : (∃ u9, QE L1 L2 n v 1 true u9 ∧ false = true ∧ u = u9) ∨ (∃ u14, QE L1 L2 n v 1 false u14 ∧ K_x_X2_expression v 1 u14 ∧ ((∃ u9, Q_x_X9_expect L1 L2 u14 36 true u9 ∧ false = true ∧ u = u9) ∨ (∃ u19, Q_x_X9_expect L1 L2 u14 36 false u19 ∧ K_x_X9_expect u14 36 u19 ∧ false = false ∧ u = u19)))) (J : JC L2 e v) (B : LBe v) (t6 : T6 v) (cu : (u.1 0 321).toInt ≤ 500) : ∃ a, ((E true e (knC v) (v.1 0 314) (v.1 0 305)).bind fun q => (gTok e 36 q.2).bind fun j => some (q.1 ++ [evx 25 0 0], knC v, j)) = some (a, knC u, u.1 0 305) ∧ SS L2 e P v u a := by
  rcases h with ⟨u9, -, f, -⟩ | ⟨u14, h14, k14, ⟨u9, -, f, -⟩ | ⟨u19, h19, k19, -, eu⟩⟩
  · cases f
  · cases f
  · rw [← eu] at h19 k19
    exact eXst hE (mkLev n).2.2 h14 k14 h19 k19 J B t6 cu
set_option maxHeartbeats 1000000 in
theorem mStatM (hR : XMs R) (h : Q_x_X5_stat L1 L2 n R v false u) : (v.1 0 321).toInt ≤ (u.1 0 321).toInt := by
  obtain ⟨-, -, -, -, -, -, -, -, -, -, r3, h1, h⟩ := h
  rcases h with ⟨-, h⟩ | ⟨-, h⟩
  · rcases h with ⟨u9, -, f, -⟩ | ⟨u6, h2, k2, -, eu⟩
    · cases f
    rw [eu]
    exact mLocalM (mkLev _).1.2 h2
  rcases h with ⟨-, h⟩ | ⟨-, h⟩
  · rcases h with ⟨u9, -, f, -⟩ | ⟨u6, h2, k2, -, eu⟩
    · cases f
    rw [eu]
    exact mIfM hR h2
  rcases h with ⟨-, h⟩ | ⟨-, h⟩
  · exact mPlainM h
  rcases h with ⟨-, h⟩ | ⟨-, h⟩
  · rcases h with ⟨u9, -, f, -⟩ | ⟨u6, h2, k2, -, eu⟩
    · cases f
    rw [eu]
    exact mLoopM hR h2
  rcases h with ⟨-, h⟩ | ⟨-, h⟩
  · rcases h with ⟨u9, -, f, -⟩ | ⟨u6, h2, k2, -, eu⟩
    · cases f
    rw [eu]
    exact mLoopM hR h2
  rcases h with ⟨-, h⟩ | ⟨-, h⟩
  · rcases h with ⟨u9, -, f, -⟩ | ⟨u6, h2, k2, -, eu⟩
    · cases f
    rw [eu]
    exact mLoopM hR h2
  rcases h with ⟨-, h⟩ | ⟨-, h⟩
  · rcases h with ⟨u9, -, f, -⟩ | ⟨u6, h2, k2, -, eu⟩
    · cases f
    rw [eu]
    exact mJumpM h2
  rcases h with ⟨-, h⟩ | ⟨-, h⟩
  · rcases h with ⟨u9, -, f, -⟩ | ⟨u6, h2, k2, -, eu⟩
    · cases f
    rw [eu]
    exact mJumpM h2
  rcases h with ⟨-, h⟩ | ⟨-, h⟩
  · rcases h with ⟨u9, -, f, -⟩ | ⟨u6, h2, k2, -, eu⟩
    · cases f
    rw [eu]
    exact mRetM (mkLev _).1.2 h2
  rcases h with ⟨-, h⟩ | ⟨-, h⟩
  · rcases h with ⟨u9, -, f, -⟩ | ⟨u65, h65, k65, ⟨u9, -, f, -⟩ | ⟨u76, h76, k76, u79, h79, k79, ⟨u9, -, f, -⟩ | ⟨u87, h87, k87, -, eu⟩⟩⟩
    · cases f
    · cases f
    · cases f
    have := fc21 k65.1
    have := mCondM (mkLev _).1.2 h76
    have := fc21 k79.1
    have := fc21 k87.1
    rw [eu]
    omega
  rcases h with ⟨-, h⟩ | ⟨-, h⟩
  · exact mPlainM h
  rcases h with ⟨-, h⟩ | ⟨-, h⟩
  · exact mPlainM h
  rcases h with ⟨-, h⟩ | ⟨-, h⟩
  · exact mPlainM h
  rcases h with ⟨-, h⟩ | ⟨-, h⟩
  · exact mPlainM h
  rcases h with ⟨-, h⟩ | ⟨-, h⟩
  · exact mPlainM h
  rcases h with ⟨-, h⟩ | ⟨-, h⟩
  · exact mPlainM h
  rcases h with ⟨-, h⟩ | ⟨-, h⟩
  · exact mPlainM h
  rcases h with ⟨-, h⟩ | ⟨-, h⟩
  · exact mPlainM h
  rcases h with ⟨-, h⟩ | ⟨-, h⟩
  · exact mPlainM h
  rcases h with ⟨-, h⟩ | ⟨-, h⟩
  · exact mPlainM h
  rcases h with ⟨-, h⟩ | ⟨-, h⟩
  · exact mPlainM h
  rcases h with ⟨-, h⟩ | ⟨-, h⟩
  · exact mPlainM h
  rcases h with ⟨-, h⟩ | ⟨-, h⟩
  · rcases h with ⟨u9, -, f, -⟩ | ⟨u6, h2, k2, -, eu⟩
    · cases f
    rw [eu]
    exact mBlockM hR h2
  rcases h with ⟨-, h⟩ | ⟨-, h⟩
  · exact mPlainM h
  rcases h with ⟨-, h⟩ | ⟨-, h⟩
  · exact mPlainM h
  rcases h with ⟨-, h⟩ | ⟨-, h⟩
  · exact mPlainM h
  rcases h with ⟨-, h⟩ | ⟨-, h⟩
  · rcases h with ⟨u9, -, f, -⟩ | ⟨u6, h2, k2, -, eu⟩
    · cases f
    rw [eu]
    exact Int.le_of_eq (fc21 k2.1).symm
  exact mPlainM h
set_option maxHeartbeats 1000000 in
theorem eStat (hE : ∀ m, m ≤ n → XE L2 (QE L1 L2 m) E) (hS : XS L2 R S) (hR : XMs R) (h : Q_x_X5_stat L1 L2 n R v false u) (J : JC L2 e v) (B : LBe v) (t6 : T6 v) (p0 : v.1 0 314 = 0) (cu : (u.1 0 321).toInt ≤ 500) (hP : LPq P v) : ∃ a, gStat E S e (knC v) (v.1 0 314) (v.1 0 305) = some (a, knC u, u.1 0 305) ∧ SS L2 e P v u a := by
  obtain ⟨-, -, -, -, -, -, -, -, -, -, r3, h1, h⟩ := h
  have f3 := kdC h1 J
  rcases h with ⟨a, h⟩ | ⟨n10, h⟩
  · rcases h with ⟨u9, -, f, -⟩ | ⟨u6, h2, k2, -, eu⟩
    · cases f
    rw [eu] at cu ⊢
    have g : gStat E S e (knC v) (v.1 0 314) (v.1 0 305) = gLocal E e (knC v) (v.1 0 314) (v.1 0 305) := by unfold gStat; rw [← f3, a]; rfl
    rw [g]
    exact eLocal (hE _ (Nat.le_refl _)) (mkLev _).2.2 h2 J B t6 cu p0
  rcases h with ⟨a, h⟩ | ⟨n11, h⟩
  · rcases h with ⟨u9, -, f, -⟩ | ⟨u6, h2, k2, -, eu⟩
    · cases f
    rw [eu] at cu ⊢
    have g : gStat E S e (knC v) (v.1 0 314) (v.1 0 305) = gIf E S e (knC v) (v.1 0 314) (v.1 0 305) := by unfold gStat; rw [← f3, a]; rfl
    rw [g]
    exact eIf hE hS hR h2 J B t6 p0 cu hP
  rcases h with ⟨a, h⟩ | ⟨n12, h⟩
  · have g : gStat E S e (knC v) (v.1 0 314) (v.1 0 305) = ((E true e (knC v) (v.1 0 314) (v.1 0 305)).bind fun q => (gTok e 36 q.2).bind fun j => some (q.1 ++ [evx 25 0 0], knC v, j)) := by unfold gStat; rw [← f3, a]; rfl
    rw [g]
    exact ePlain (hE _ (Nat.le_refl _)) h J B t6 cu
  rcases h with ⟨a, h⟩ | ⟨n13, h⟩
  · rcases h with ⟨u9, -, f, -⟩ | ⟨u6, h2, k2, -, eu⟩
    · cases f
    rw [eu] at cu ⊢
    have g : gStat E S e (knC v) (v.1 0 314) (v.1 0 305) = gWhile E S e (knC v) (v.1 0 314) (v.1 0 305 + 1) := by unfold gStat; rw [← f3, a]; rfl
    rw [g]
    have z := eLoop hE hS hR h2 J B t6 p0 cu hP
    exact z
  rcases h with ⟨a, h⟩ | ⟨n14, h⟩
  · rcases h with ⟨u9, -, f, -⟩ | ⟨u6, h2, k2, -, eu⟩
    · cases f
    rw [eu] at cu ⊢
    have g : gStat E S e (knC v) (v.1 0 314) (v.1 0 305) = gDo E S e (knC v) (v.1 0 314) (v.1 0 305 + 1) := by unfold gStat; rw [← f3, a]; rfl
    rw [g]
    have z := eLoop hE hS hR h2 J B t6 p0 cu hP
    exact z
  rcases h with ⟨a, h⟩ | ⟨n15, h⟩
  · rcases h with ⟨u9, -, f, -⟩ | ⟨u6, h2, k2, -, eu⟩
    · cases f
    rw [eu] at cu ⊢
    have g : gStat E S e (knC v) (v.1 0 314) (v.1 0 305) = gFor E S e (knC v) (v.1 0 314) (v.1 0 305 + 1) := by unfold gStat; rw [← f3, a]; rfl
    rw [g]
    have z := eLoop hE hS hR h2 J B t6 p0 cu hP
    exact z
  rcases h with ⟨a, h⟩ | ⟨n16, h⟩
  · rcases h with ⟨u9, -, f, -⟩ | ⟨u6, h2, k2, -, eu⟩
    · cases f
    rw [eu] at cu ⊢
    have g : gStat E S e (knC v) (v.1 0 314) (v.1 0 305) = gLeave e (knC v) (v.1 0 305) := by unfold gStat; rw [← f3, a]; rfl
    rw [g]
    obtain ⟨b, x1, x2, x3⟩ := eJump (P := P) h2 J B (Or.inl ⟨by rw [← f3, a]; rfl, hP.1.symm⟩)
    exact ⟨b, x1, x2.ss x3 k2.1⟩
  rcases h with ⟨a, h⟩ | ⟨n17, h⟩
  · rcases h with ⟨u9, -, f, -⟩ | ⟨u6, h2, k2, -, eu⟩
    · cases f
    rw [eu] at cu ⊢
    have g : gStat E S e (knC v) (v.1 0 314) (v.1 0 305) = gLeave e (knC v) (v.1 0 305) := by unfold gStat; rw [← f3, a]; rfl
    rw [g]
    obtain ⟨b, x1, x2, x3⟩ := eJump (P := P) h2 J B (Or.inr ⟨by rw [← f3, a]; rfl, hP.2.1.symm⟩)
    exact ⟨b, x1, x2.ss x3 k2.1⟩
  rcases h with ⟨a, h⟩ | ⟨n18, h⟩
  · rcases h with ⟨u9, -, f, -⟩ | ⟨u6, h2, k2, -, eu⟩
    · cases f
    rw [eu] at cu ⊢
    have g : gStat E S e (knC v) (v.1 0 314) (v.1 0 305) = gRet E e (knC v) (v.1 0 314) (v.1 0 305) := by unfold gStat; rw [← f3, a]; rfl
    rw [g]
    obtain ⟨b, x1, x2, x3⟩ := eRet (P := P) (hE _ (Nat.le_refl _)) (mkLev _).2.2 h2 J B t6 cu hP.2.2
    exact ⟨b, x1, x2.ss x3 k2.1⟩
  rcases h with ⟨a, h⟩ | ⟨n19, h⟩
  · rcases h with ⟨u9, -, f, -⟩ | ⟨u65, h65, k65, ⟨u9, -, f, -⟩ | ⟨u76, h76, k76, u79, h79, k79, ⟨u9, -, f, -⟩ | ⟨u87, h87, k87, -, eu⟩⟩⟩
    · cases f
    · cases f
    · cases f
    rw [← eu] at h87 k87
    have g : gStat E S e (knC v) (v.1 0 314) (v.1 0 305) = gPutS E e (knC v) (v.1 0 314) (v.1 0 305) := by unfold gStat; rw [← f3, a]; rfl
    rw [g]
    exact ePutSt (hE _ (by omega)) (mkLev _).2.2 h65 k65 h76 k76 h79 k79 h87 k87 J B t6 cu
  rcases h with ⟨a, h⟩ | ⟨n20, h⟩
  · have g : gStat E S e (knC v) (v.1 0 314) (v.1 0 305) = ((E true e (knC v) (v.1 0 314) (v.1 0 305)).bind fun q => (gTok e 36 q.2).bind fun j => some (q.1 ++ [evx 25 0 0], knC v, j)) := by unfold gStat; rw [← f3, a]; rfl
    rw [g]
    exact ePlain (hE _ (Nat.le_refl _)) h J B t6 cu
  rcases h with ⟨a, h⟩ | ⟨n21, h⟩
  · have g : gStat E S e (knC v) (v.1 0 314) (v.1 0 305) = ((E true e (knC v) (v.1 0 314) (v.1 0 305)).bind fun q => (gTok e 36 q.2).bind fun j => some (q.1 ++ [evx 25 0 0], knC v, j)) := by unfold gStat; rw [← f3, a]; rfl
    rw [g]
    exact ePlain (hE _ (Nat.le_refl _)) h J B t6 cu
  rcases h with ⟨a, h⟩ | ⟨n22, h⟩
  · have g : gStat E S e (knC v) (v.1 0 314) (v.1 0 305) = ((E true e (knC v) (v.1 0 314) (v.1 0 305)).bind fun q => (gTok e 36 q.2).bind fun j => some (q.1 ++ [evx 25 0 0], knC v, j)) := by unfold gStat; rw [← f3, a]; rfl
    rw [g]
    exact ePlain (hE _ (Nat.le_refl _)) h J B t6 cu
  rcases h with ⟨a, h⟩ | ⟨n23, h⟩
  · have g : gStat E S e (knC v) (v.1 0 314) (v.1 0 305) = ((E true e (knC v) (v.1 0 314) (v.1 0 305)).bind fun q => (gTok e 36 q.2).bind fun j => some (q.1 ++ [evx 25 0 0], knC v, j)) := by unfold gStat; rw [← f3, a]; rfl
    rw [g]
    exact ePlain (hE _ (Nat.le_refl _)) h J B t6 cu
  rcases h with ⟨a, h⟩ | ⟨n24, h⟩
  · have g : gStat E S e (knC v) (v.1 0 314) (v.1 0 305) = ((E true e (knC v) (v.1 0 314) (v.1 0 305)).bind fun q => (gTok e 36 q.2).bind fun j => some (q.1 ++ [evx 25 0 0], knC v, j)) := by unfold gStat; rw [← f3, a]; rfl
    rw [g]
    exact ePlain (hE _ (Nat.le_refl _)) h J B t6 cu
  rcases h with ⟨a, h⟩ | ⟨n25, h⟩
  · have g : gStat E S e (knC v) (v.1 0 314) (v.1 0 305) = ((E true e (knC v) (v.1 0 314) (v.1 0 305)).bind fun q => (gTok e 36 q.2).bind fun j => some (q.1 ++ [evx 25 0 0], knC v, j)) := by unfold gStat; rw [← f3, a]; rfl
    rw [g]
    exact ePlain (hE _ (Nat.le_refl _)) h J B t6 cu
  rcases h with ⟨a, h⟩ | ⟨n26, h⟩
  · have g : gStat E S e (knC v) (v.1 0 314) (v.1 0 305) = ((E true e (knC v) (v.1 0 314) (v.1 0 305)).bind fun q => (gTok e 36 q.2).bind fun j => some (q.1 ++ [evx 25 0 0], knC v, j)) := by unfold gStat; rw [← f3, a]; rfl
    rw [g]
    exact ePlain (hE _ (Nat.le_refl _)) h J B t6 cu
  rcases h with ⟨a, h⟩ | ⟨n27, h⟩
  · have g : gStat E S e (knC v) (v.1 0 314) (v.1 0 305) = ((E true e (knC v) (v.1 0 314) (v.1 0 305)).bind fun q => (gTok e 36 q.2).bind fun j => some (q.1 ++ [evx 25 0 0], knC v, j)) := by unfold gStat; rw [← f3, a]; rfl
    rw [g]
    exact ePlain (hE _ (Nat.le_refl _)) h J B t6 cu
  rcases h with ⟨a, h⟩ | ⟨n28, h⟩
  · have g : gStat E S e (knC v) (v.1 0 314) (v.1 0 305) = ((E true e (knC v) (v.1 0 314) (v.1 0 305)).bind fun q => (gTok e 36 q.2).bind fun j => some (q.1 ++ [evx 25 0 0], knC v, j)) := by unfold gStat; rw [← f3, a]; rfl
    rw [g]
    exact ePlain (hE _ (Nat.le_refl _)) h J B t6 cu
  rcases h with ⟨a, h⟩ | ⟨n29, h⟩
  · have g : gStat E S e (knC v) (v.1 0 314) (v.1 0 305) = ((E true e (knC v) (v.1 0 314) (v.1 0 305)).bind fun q => (gTok e 36 q.2).bind fun j => some (q.1 ++ [evx 25 0 0], knC v, j)) := by unfold gStat; rw [← f3, a]; rfl
    rw [g]
    exact ePlain (hE _ (Nat.le_refl _)) h J B t6 cu
  rcases h with ⟨a, h⟩ | ⟨n30, h⟩
  · have g : gStat E S e (knC v) (v.1 0 314) (v.1 0 305) = ((E true e (knC v) (v.1 0 314) (v.1 0 305)).bind fun q => (gTok e 36 q.2).bind fun j => some (q.1 ++ [evx 25 0 0], knC v, j)) := by unfold gStat; rw [← f3, a]; rfl
    rw [g]
    exact ePlain (hE _ (Nat.le_refl _)) h J B t6 cu
  rcases h with ⟨a, h⟩ | ⟨n31, h⟩
  · have g : gStat E S e (knC v) (v.1 0 314) (v.1 0 305) = ((E true e (knC v) (v.1 0 314) (v.1 0 305)).bind fun q => (gTok e 36 q.2).bind fun j => some (q.1 ++ [evx 25 0 0], knC v, j)) := by unfold gStat; rw [← f3, a]; rfl
    rw [g]
    exact ePlain (hE _ (Nat.le_refl _)) h J B t6 cu
  rcases h with ⟨a, h⟩ | ⟨n32, h⟩
  · rcases h with ⟨u9, -, f, -⟩ | ⟨u6, h2, k2, -, eu⟩
    · cases f
    rw [eu] at cu ⊢
    have g : gStat E S e (knC v) (v.1 0 314) (v.1 0 305) = gBlock S e (knC v) (v.1 0 314) (v.1 0 305) := by unfold gStat; rw [← f3, a]; rfl
    rw [g]
    exact eBlock hS hR h2 J B t6 p0 cu hP
  rcases h with ⟨a, h⟩ | ⟨n33, h⟩
  · have g : gStat E S e (knC v) (v.1 0 314) (v.1 0 305) = ((E true e (knC v) (v.1 0 314) (v.1 0 305)).bind fun q => (gTok e 36 q.2).bind fun j => some (q.1 ++ [evx 25 0 0], knC v, j)) := by unfold gStat; rw [← f3, a]; rfl
    rw [g]
    exact ePlain (hE _ (Nat.le_refl _)) h J B t6 cu
  rcases h with ⟨a, h⟩ | ⟨n34, h⟩
  · have g : gStat E S e (knC v) (v.1 0 314) (v.1 0 305) = ((E true e (knC v) (v.1 0 314) (v.1 0 305)).bind fun q => (gTok e 36 q.2).bind fun j => some (q.1 ++ [evx 25 0 0], knC v, j)) := by unfold gStat; rw [← f3, a]; rfl
    rw [g]
    exact ePlain (hE _ (Nat.le_refl _)) h J B t6 cu
  rcases h with ⟨a, h⟩ | ⟨n35, h⟩
  · have g : gStat E S e (knC v) (v.1 0 314) (v.1 0 305) = ((E true e (knC v) (v.1 0 314) (v.1 0 305)).bind fun q => (gTok e 36 q.2).bind fun j => some (q.1 ++ [evx 25 0 0], knC v, j)) := by unfold gStat; rw [← f3, a]; rfl
    rw [g]
    exact ePlain (hE _ (Nat.le_refl _)) h J B t6 cu
  rcases h with ⟨a, h⟩ | ⟨n36, h⟩
  · rcases h with ⟨u9, -, f, -⟩ | ⟨u6, h2, k2, -, eu⟩
    · cases f
    rw [eu] at cu ⊢
    have g : gStat E S e (knC v) (v.1 0 314) (v.1 0 305) = some ([], knC v, v.1 0 305 + 1) := by unfold gStat; rw [← f3, a]; rfl
    rw [g]
    have T := ES.take (P := P) h2 k2 J B
    exact ⟨[], by rw [T.1.2.2.2.1, T.2], T.1.ss (KT.fc k2.1) k2.1⟩
  have g : gStat E S e (knC v) (v.1 0 314) (v.1 0 305) = ((E true e (knC v) (v.1 0 314) (v.1 0 305)).bind fun q => (gTok e 36 q.2).bind fun j => some (q.1 ++ [evx 25 0 0], knC v, j)) := by
    unfold gStat
    rw [← f3, if_neg (ne_i n10 (by decide)), if_neg (ne_i n11 (by decide)), if_neg (ne_i n13 (by decide)), if_neg (ne_i n14 (by decide)), if_neg (ne_i n15 (by decide)), if_neg (fun q => q.elim (ne_i n16 (by decide)) (ne_i n17 (by decide))), if_neg (ne_i n18 (by decide)), if_neg (ne_i n19 (by decide)), if_neg (ne_i n32 (by decide)), if_neg (ne_i n36 (by decide))]
  rw [g]
  exact ePlain (hE _ (Nat.le_refl _)) h J B t6 cu
theorem mSLev : ∀ n : Nat, XMs (QS L1 L2 n) := by
  intro n
  induction n with
  | zero =>
    intro v u h
    rw [QS_eq] at h
    exact mStatM (fun _ _ q => q.elim) h
  | succ n ih =>
    intro v u h
    rw [QS_eq] at h
    exact mStatM ih h
def hgS (E : EvE) : Nat → EvS
  | 0 => fun _ _ _ _ => none
  | n + 1 => geS E n
theorem geS_eq (E : EvE) (n : Nat) : geS E n = gStat E (hgS E n) := by cases n <;> rfl
/-- the class's deeds of a statement are the events, at every level -/
theorem eSLev (hE : ∀ m, m ≤ 50 → XE L2 (QE L1 L2 m) E) : ∀ n N : Nat, n ≤ N → n ≤ 50 → XS L2 (QS L1 L2 n) (geS E N) := by
  intro n
  induction n with
  | zero =>
    intro N _ _ v u e P h _ J B t6 p0 cu hP
    rw [QS_eq] at h
    rw [geS_eq]
    exact eStat (R := pS L1 L2 0) (fun m hm => hE m (by omega)) (fun _ _ _ _ q => q.elim) (fun _ _ q => q.elim) h J B t6 p0 cu hP
  | succ n ih =>
    intro N h1 h2
    cases N with
    | zero => omega
    | succ N =>
      intro v u e P h _ J B t6 p0 cu hP
      rw [QS_eq] at h
      rw [geS_eq]
      exact eStat (R := pS L1 L2 (n + 1)) (fun m hm => hE m (by omega)) (ih N (by omega) (by omega)) (mSLev n) h J B t6 p0 cu hP
end VOS
