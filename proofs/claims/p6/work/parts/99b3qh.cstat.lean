/-! the class: statements -/
abbrev RS1 : Type := MS → Bool → MS → Prop
def HS (L2 : List Nat) (c : RS1) (S : FS) : Prop := ∀ (G : GH) (e : PE) (v : MS) (t : Bool) (u : MS), c v t u → (t = false → K_x_X5_stat v u) → SIq G L2 e v → LO G v → OKS G L2 e (S e) v t u
def LB (v : MS) : Prop := (v.1 0 331).toInt ≠ -1 ∧ (v.1 0 332).toInt ≠ -1
theorem LB.ks {v u : MS} (h : LB v) (k : KS v u) : LB u := by unfold LB; rw [k.2.1, k.2.2.1]; exact h
def gL (G : GH) (b : Bool) : GH := (G.1, G.2.1, b, G.2.2.2.1, G.2.2.2.2)
section CST
variable {G : GH} {L1 L2 : List Nat} {e : PE} {v u : MS} {t : Bool} {r pa : Int32} {n : Nat} {E : FE} {S : FS} {c : RS1}
theorem JC.w {i : Nat} {x : Int32} (J : JC L2 e v) (h : i ∉ [304, 305, 307, 373, 377]) (h381 : i ≠ 381 := by decide) : JC L2 e (wA v 0 i x) := by
  have n : ∀ j ∈ [304, 305, 307, 373, 377], (wA v 0 i x).1 0 j = v.1 0 j := fun j hj => updN_ (fun q => h (q ▸ hj))
  refine ⟨(eC_of (v := v) (u := wA v 0 i x) rfl rfl rfl (n 304 (by decide)) (n 373 (by decide)) (n 377 (by decide)) (RS.w0 RS.rf h381)).trans J.1, ?_, ?_⟩
  · rw [n 307 (by decide), n 305 (by decide)]
    exact J.2.1
  · rw [n 377 (by decide)]
    exact J.2.2
theorem sW313 {x : Int32} (I : SIq G L2 e v) : SIq G L2 e (wA v 0 313 x) ∧ KS v (wA v 0 313 x) := ⟨⟨I.1.w (by decide), I.2⟩, KP.of rfl rfl rfl rfl rfl, rfl, rfl, Int.le_refl _⟩
theorem lst_take {f : Nat → Int32} {a b : Int32} (h : a.toInt ≤ b.toInt) : (lst f b).take a.toNatClampNeg = lst f a := by
  unfold lst
  rw [← List.map_take, List.take_range, Nat.min_eq_left (by unfold Int32.toNatClampNeg; omega)]
theorem sBk (k : (v.1 0 312).toInt ≤ (u.1 0 312).toInt) : tBack (aC G v) (aC G u) = aC G (wA (wA u 0 312 (v.1 0 312)) 0 313 (v.1 0 313)) := by
  have h : (pKn (aC G u)).take (pKc (aC G v)).toNatClampNeg = lst (u.1 311) (v.1 0 312) := lst_take k
  unfold tBack
  rw [h]
  rfl
theorem sBki (I : SIq G L2 e u) (k : KS v u) : SIq G L2 e (wA (wA u 0 312 (v.1 0 312)) 0 313 (v.1 0 313)) ∧ KS v (wA (wA u 0 312 (v.1 0 312)) 0 313 (v.1 0 313)) := ⟨⟨(I.1.w (by decide)).w (by decide), I.2⟩, k.1.tr (KP.of rfl rfl rfl rfl rfl), k.2.1, k.2.2.1, Int.le_refl _⟩
def OKT (G : GH) (L2 : List Nat) (e : PE) (f : PS → PX (Bool × PS)) (v : MS) (t : Bool) (r : Int32) (u : MS) : Prop := (t = false ∧ f (aC G v) = .ok (decide (r.toInt ≠ 0), aC G u) ∧ SIq G L2 e u ∧ KS v u) ∨ (t = true ∧ f (aC G v) = .error (u.1 0 308, u.1 0 309))
variable {ff : PS → PX (Bool × PS)}
theorem OKT.eo (h : OKT G L2 e ff v false r u) : ff (aC G v) = .ok (decide (r.toInt ≠ 0), aC G u) := by
  rcases h with h | ⟨h, _⟩
  · exact h.2.1
  · cases h
theorem OKT.er (h : OKT G L2 e ff v true r u) : ff (aC G v) = .error (u.1 0 308, u.1 0 309) := by
  rcases h with ⟨h, _⟩ | h
  · cases h
  · exact h.2
theorem OKT.si (h : OKT G L2 e ff v false r u) : SIq G L2 e u := by
  rcases h with h | ⟨h, _⟩
  · exact h.2.2.1
  · cases h
theorem OKT.ks (h : OKT G L2 e ff v false r u) : KS v u := by
  rcases h with h | ⟨h, _⟩
  · exact h.2.2.2
  · cases h
theorem sOpt {m : Int} (hm : pa.toInt = m) (hE : ∀ m, m ≤ n → HE L2 (QE L1 L2 m) E) (h : Q_x_X5_optional L1 L2 n v pa t r u) (k : t = false → K_x_X5_optional v pa r u) (I : SIq G L2 e v) : OKT G L2 e (tOpt E m e) v t r u := by
  obtain ⟨-, -, -, -, -, -, -, -, -, -, r3, h1, h⟩ := h
  have f3 := sKind (G := G) h1 I
  unfold OKT tOpt
  rw [← f3]
  rcases h with ⟨c, h⟩ | ⟨c, rfl, rfl, rfl⟩
  · rw [if_neg (fun q => c (q.trans hm.symm))]
    rcases h with ⟨u9, h2, rfl, rfl, rfl⟩ | ⟨u7, h2, k2, rfl, rfl, rfl⟩
    · exact Or.inr ⟨rfl, by simp only [(sE (G := G) hE (by omega) h2 nom I).er, bd_er]⟩
    · have a := sE (G := G) hE (by omega) h2 (fun _ => k2) I
      rw [a.eo, bd_ok]
      exact Or.inl ⟨rfl, rfl, a.si, a.ks⟩
  · rw [if_pos (c.trans hm)]
    exact Or.inl ⟨rfl, rfl, I, KS.rf⟩
theorem sJump (h : Q_x_X5_jumpStat L1 L2 v pa t u) (I : SIq G L2 e v) (lo : G.2.2.1 = true ↔ pa.toInt ≠ -1) : OKS G L2 e (tJump e) v t u := by
  obtain ⟨-, -, -, -, -, -, r3, h1, h⟩ := h
  have f3 := sPlace (G := G) h1 I
  unfold OKS tJump
  rcases h with ⟨u9, h2, rfl, rfl⟩ | ⟨u5, h2, k2, h⟩
  · exact Or.inr ⟨rfl, by simp only [(sTake (G := G) h2 nom I).er, bd_er]⟩
  have a2 := sTake (G := G) h2 (fun _ => k2) I
  rw [a2.eo, bd_ok]
  rcases h with ⟨c, u12, h3, k3, h⟩ | ⟨c, u9, h3, rfl, rfl⟩
  · rw [if_pos (show pLo (aC G v) = true from lo.mpr c)]
    have a3 := sAdd (G := G) (k := 1) h3 k3 (by decide) (by rfl) a2.si
    rw [← a3.1]
    rcases h with ⟨u9, h4, rfl, rfl⟩ | ⟨u20, h4, k4, rfl, rfl⟩
    · exact Or.inr ⟨rfl, (sExp (G := G) (m := 36) (by decide) h4 nom a3.2.1).er⟩
    · have a4 := sExp (G := G) (m := 36) (by decide) h4 (fun _ => k4) a3.2.1
      exact Or.inl ⟨rfl, a4.eo, a4.si, (a2.ks.tr a3.2.2).tr a4.ks⟩
  · rw [if_neg (show ¬ pLo (aC G v) = true from fun q => lo.mp q c), sRef h3, f3]
    exact Or.inr ⟨rfl, rfl⟩
set_option maxHeartbeats 400000 in
theorem sCond (hE : ∀ m, m ≤ n → HE L2 (QE L1 L2 m) E) (h : Q_x_X5_condition L1 L2 n v t u) (I : SIq G L2 e v) : OKS G L2 e (tCond E e) v t u := by
  obtain ⟨-, -, -, -, -, -, -, -, -, -, h⟩ := h
  unfold OKS tCond
  rcases h with ⟨u9, h1, rfl, rfl⟩ | ⟨u2, h1, k1, h⟩
  · exact Or.inr ⟨rfl, by simp only [(sNeed (G := G) (m := 30) (by decide) h1 nom I).er, bd_er]⟩
  have a1 := sNeed (G := G) (m := 30) (by decide) h1 (fun _ => k1) I
  rw [a1.eo]
  try rw [bd_ok]
  have I1 := a1.si
  have K1 := KS.rf.tr a1.ks
  rcases h with ⟨u9, h2, rfl, rfl⟩ | ⟨u10, h2, k2, h⟩
  · exact Or.inr ⟨rfl, by simp only [(sOpen (G := G) h2 nom I1).er, bd_er]⟩
  have a2 := sOpen (G := G) h2 (fun _ => k2) I1
  rw [a2.eo]
  try rw [bd_ok]
  have I2 := a2.si
  have K2 := K1.tr a2.ks
  rcases h with ⟨u9, h3, rfl, rfl⟩ | ⟨u27, h3, k3, h⟩
  · exact Or.inr ⟨rfl, by simp only [(sE (G := G) hE (by omega) h3 nom I2).er, bd_er]⟩
  have a3 := sE (G := G) hE (by omega) h3 (fun _ => k3) I2
  rw [a3.eo]
  try rw [bd_ok]
  have I3 := a3.si
  have K3 := K2.tr a3.ks
  rcases h with ⟨u9, h4, rfl, rfl⟩ | ⟨u32, h4, k4, h⟩
  · exact Or.inr ⟨rfl, by simp only [(sExp (G := G) (m := 31) (by decide) h4 nom I3).er, bd_er]⟩
  have a4 := sExp (G := G) (m := 31) (by decide) h4 (fun _ => k4) I3
  rw [a4.eo]
  try rw [bd_ok]
  have I4 := a4.si
  have K4 := K3.tr a4.ks
  obtain ⟨u36, h5, k5, h⟩ := h
  have a5 := sClose (G := G) h5 k5 I4
  rw [← a5.1]
  try rw [bd_ok]
  have I5 := a5.2.1
  have K5 := K4.tr a5.2.2
  obtain ⟨rfl, rfl⟩ := h
  exact Or.inl ⟨rfl, rfl, I5, K5⟩
set_option maxHeartbeats 400000 in
theorem sLocal (hE : ∀ m, m ≤ n → HE L2 (QE L1 L2 m) E) (h : Q_x_X5_local L1 L2 n v t u) (I : SIq G L2 e v) : OKS G L2 e (tLocal E e) v t u := by
  obtain ⟨-, -, -, -, -, -, -, -, -, -, h⟩ := h
  unfold OKS tLocal
  rcases h with ⟨u9, h1, rfl, rfl⟩ | ⟨u2, h1, k1, h⟩
  · exact Or.inr ⟨rfl, by simp only [(sTake (G := G) h1 nom I).er, bd_er]⟩
  have a1 := sTake (G := G) h1 (fun _ => k1) I
  rw [a1.eo]
  try rw [bd_ok]
  have I1 := a1.si
  have K1 := KS.rf.tr a1.ks
  rcases h with ⟨u9, h2, rfl, rfl⟩ | ⟨r11, u10, h2, k2, h⟩
  · exact Or.inr ⟨rfl, by simp only [((sNewName (G := G) h2 nom I1).1).er, bd_er]⟩
  have a2 := (sNewName (G := G) h2 (fun _ => k2) I1).1
  rw [a2.eo]
  try rw [bd_ok]
  have I2 := a2.si
  have K2 := K1.tr a2.ks
  have fr11 := (sNewName (G := G) h2 (fun _ => k2) I1).2 rfl
  rcases h with ⟨u9, h3, rfl, rfl⟩ | ⟨u19, h3, k3, h⟩
  · exact Or.inr ⟨rfl, by simp only [(sWantS (G := G) h3 I2).er, bd_er]⟩
  have a3 := sWantS (G := G) h3 I2
  rw [a3.eo]
  try rw [bd_ok]
  have I3 := a3.si
  have K3 := K2.tr a3.ks
  obtain ⟨r24, h4, h⟩ := h
  rcases h with ⟨u9, h5, rfl, rfl⟩ | ⟨u29, h5, k5, h⟩
  · exact Or.inr ⟨rfl, by simp only [(sTake (G := G) h5 nom I3).er, bd_er]⟩
  have a5 := sTake (G := G) h5 (fun _ => k5) I3
  rw [a5.eo]
  try rw [bd_ok]
  have I5 := a5.si
  have K5 := K3.tr a5.ks
  obtain ⟨r34, h6, h⟩ := h
  have fr34 := sKind (G := G) h6 I5
  rcases h with ⟨c7, h⟩ | ⟨c7, h⟩
  · rw [if_neg (by rw [← fr34]; exact c7)]
    try rw [bd_ok]
    obtain ⟨u40, h8, k8, h⟩ := h
    have a8 := sAdd (G := G) (k := 1) h8 k8 (by decide) (by rfl) I5
    rw [← a8.1]
    try rw [bd_ok]
    have I8 := a8.2.1
    have K8 := K5.tr a8.2.2
    obtain ⟨u43, h9, k9, h⟩ := h
    have a9 := sAdd (G := G) (k := 1) h9 k9 (by decide) (by rfl) I8
    rw [← a9.1]
    try rw [bd_ok]
    have I9 := a9.2.1
    have K9 := K8.tr a9.2.2
    rcases h with ⟨u9, h10, rfl, rfl⟩ | ⟨u53, h10, k10, h⟩
    · exact Or.inr ⟨rfl, by simp only [(sExp (G := G) (m := 36) (by decide) h10 nom I9).er, bd_er]⟩
    have a10 := sExp (G := G) (m := 36) (by decide) h10 (fun _ => k10) I9
    rw [a10.eo]
    try rw [bd_ok]
    have I10 := a10.si
    have K10 := K9.tr a10.ks
    obtain ⟨u60, h11, k11, h⟩ := h
    have a11 := sLearn (G := G) h11 k11 I10
    rw [fr11] at a11
    rw [← a11.1]
    try rw [bd_ok]
    have I11 := a11.2.1
    have K11 := K10.tr a11.2.2
    obtain ⟨rfl, rfl⟩ := h
    exact Or.inl ⟨rfl, rfl, I11, K11⟩
  · rw [if_pos (by rw [← fr34]; exact c7)]
    try rw [bd_ok]
    rcases h with ⟨u9, h12, rfl, rfl⟩ | ⟨u98, h12, k12, h⟩
    · exact Or.inr ⟨rfl, by simp only [(sTake (G := G) h12 nom I5).er, bd_er]⟩
    have a12 := sTake (G := G) h12 (fun _ => k12) I5
    rw [a12.eo]
    try rw [bd_ok]
    have I12 := a12.si
    have K12 := K5.tr a12.ks
    rcases h with ⟨u9, h13, rfl, rfl⟩ | ⟨u126, h13, k13, h⟩
    · exact Or.inr ⟨rfl, by simp only [(sE (G := G) hE (by omega) h13 nom I12).er, bd_er]⟩
    have a13 := sE (G := G) hE (by omega) h13 (fun _ => k13) I12
    rw [a13.eo]
    try rw [bd_ok]
    have I13 := a13.si
    have K13 := K12.tr a13.ks
    obtain ⟨u129, h14, k14, h⟩ := h
    have a14 := sAdd (G := G) (k := 1) h14 k14 (by decide) (by rfl) I13
    rw [← a14.1]
    try rw [bd_ok]
    have I14 := a14.2.1
    have K14 := K13.tr a14.2.2
    rcases h with ⟨u9, h15, rfl, rfl⟩ | ⟨u137, h15, k15, h⟩
    · exact Or.inr ⟨rfl, by simp only [(sExp (G := G) (m := 36) (by decide) h15 nom I14).er, bd_er]⟩
    have a15 := sExp (G := G) (m := 36) (by decide) h15 (fun _ => k15) I14
    rw [a15.eo]
    try rw [bd_ok]
    have I15 := a15.si
    have K15 := K14.tr a15.ks
    obtain ⟨u143, h16, k16, h⟩ := h
    have a16 := sLearn (G := G) h16 k16 I15
    rw [fr11] at a16
    rw [← a16.1]
    try rw [bd_ok]
    have I16 := a16.2.1
    have K16 := K15.tr a16.2.2
    obtain ⟨rfl, rfl⟩ := h
    exact Or.inl ⟨rfl, rfl, I16, K16⟩
set_option maxHeartbeats 400000 in
theorem sRet (hE : ∀ m, m ≤ n → HE L2 (QE L1 L2 m) E) (h : Q_x_X5_returnStat L1 L2 n v t u) (I : SIq G L2 e v) : OKS G L2 e (tRet E e) v t u := by
  obtain ⟨-, -, -, -, -, -, -, -, -, -, h⟩ := h
  unfold OKS tRet
  rcases h with ⟨u9, h1, rfl, rfl⟩ | ⟨u2, h1, k1, h⟩
  · exact Or.inr ⟨rfl, by simp only [(sTake (G := G) h1 nom I).er, bd_er]⟩
  have a1 := sTake (G := G) h1 (fun _ => k1) I
  rw [a1.eo]
  try rw [bd_ok]
  have I1 := a1.si
  have K1 := KS.rf.tr a1.ks
  obtain ⟨r7, h2, h⟩ := h
  have fr7 := sKind (G := G) h2 I1
  rcases h with ⟨c3, h⟩ | ⟨c3, h⟩
  · rw [if_neg (by rw [← fr7]; exact c3)]
    try rw [bd_ok]
    rcases h with ⟨u9, h4, rfl, rfl⟩ | ⟨u18, h4, k4, h⟩
    · exact Or.inr ⟨rfl, by simp only [(sE (G := G) hE (by omega) h4 nom I1).er, bd_er]⟩
    have a4 := sE (G := G) hE (by omega) h4 (fun _ => k4) I1
    rw [a4.eo]
    try rw [bd_ok]
    have I4 := a4.si
    have K4 := K1.tr a4.ks
    obtain ⟨u21, h5, k5, h⟩ := h
    have a5 := sAdd (G := G) (k := 1) h5 k5 (by decide) (by rfl) I4
    rw [← a5.1]
    try rw [bd_ok]
    have I5 := a5.2.1
    have K5 := K4.tr a5.2.2
    rcases h with ⟨u9, h6, rfl, rfl⟩ | ⟨u29, h6, k6, h⟩
    · exact Or.inr ⟨rfl, by simp only [(sExp (G := G) (m := 36) (by decide) h6 nom I5).er, bd_er]⟩
    have a6 := sExp (G := G) (m := 36) (by decide) h6 (fun _ => k6) I5
    rw [a6.eo]
    try rw [bd_ok]
    have I6 := a6.si
    have K6 := K5.tr a6.ks
    obtain ⟨rfl, rfl⟩ := h
    exact Or.inl ⟨rfl, rfl, I6, K6⟩
  · rw [if_pos (by rw [← fr7]; exact c3)]
    try rw [bd_ok]
    obtain ⟨u43, h7, k7, h⟩ := h
    have a7 := sAdd (G := G) (k := 1) h7 k7 (by decide) (by rfl) I1
    rw [← a7.1]
    try rw [bd_ok]
    have I7 := a7.2.1
    have K7 := K1.tr a7.2.2
    obtain ⟨u46, h8, k8, h⟩ := h
    have a8 := sAdd (G := G) (k := 1) h8 k8 (by decide) (by rfl) I7
    rw [← a8.1]
    try rw [bd_ok]
    have I8 := a8.2.1
    have K8 := K7.tr a8.2.2
    rcases h with ⟨u9, h9, rfl, rfl⟩ | ⟨u56, h9, k9, h⟩
    · exact Or.inr ⟨rfl, by simp only [(sExp (G := G) (m := 36) (by decide) h9 nom I8).er, bd_er]⟩
    have a9 := sExp (G := G) (m := 36) (by decide) h9 (fun _ => k9) I8
    rw [a9.eo]
    try rw [bd_ok]
    have I9 := a9.si
    have K9 := K8.tr a9.ks
    obtain ⟨rfl, rfl⟩ := h
    exact Or.inl ⟨rfl, rfl, I9, K9⟩
set_option maxHeartbeats 400000 in
theorem sInner (hS : HS L2 c S) (h : Q_x_X5_innerStat L1 L2 n c v t u) (I : SIq G L2 e v) (lo : LO G v) : OKS G L2 e (tInner S e) v t u := by
  obtain ⟨-, -, -, -, -, -, -, -, -, -, h⟩ := h
  unfold OKS tInner
  have ab := sW313 (x := v.1 0 312) I
  rw [show sBl (aC G v) (pKc (aC G v)) = aC G (wA v 0 313 (v.1 0 312)) from rfl]
  have Ib := ab.1
  have Kb := KS.rf.tr ab.2
  rcases h with ⟨u9, h1, rfl, rfl⟩ | ⟨u2, h1, k1, h⟩
  · exact Or.inr ⟨rfl, by simp only [(hS G e _ _ _ h1 nom Ib (lo.ks Kb)).er, bd_er]⟩
  have a1 := hS G e _ _ _ h1 (fun _ => k1) Ib (lo.ks Kb)
  rw [a1.eo]
  try rw [bd_ok]
  have I1 := a1.si
  have K1 := Kb.tr a1.ks
  obtain ⟨rfl, rfl⟩ := h
  rw [sBk K1.2.2.2]
  exact Or.inl ⟨rfl, rfl, sBki I1 K1⟩
set_option maxHeartbeats 400000 in
theorem sLp (hS : HS L2 c S) (h : Q_x_X5_innerStat L1 L2 n c v t u) (I : SIq G L2 e v) (lb : LB v) : OKS G L2 e (tLp S e) v t u := by
  have a := sInner (G := gL G true) (e := e) (L1 := L1) (n := n) hS h ⟨⟨I.1.1, I.1.2.1, I.1.2.2⟩, I.2.1, I.2.2⟩ ⟨⟨fun _ => lb.1, fun _ => rfl⟩, ⟨fun _ => lb.2, fun _ => rfl⟩⟩
  unfold OKS tLp
  have e1 : ∀ w : MS, sLo (aC G w) true = aC (gL G true) w := fun w => rfl
  rw [e1]
  cases t with
  | true => exact Or.inr ⟨rfl, by rw [a.er, bd_er]⟩
  | false => exact Or.inl ⟨rfl, by rw [a.eo, bd_ok]; rfl, ⟨a.si.1, a.si.2.1, I.2.2⟩, a.ks⟩
set_option maxHeartbeats 400000 in
theorem sStats (hS : HS L2 c S) (h : Q_x_X5_stats L1 L2 n c v t u) (I : SIq G L2 e v) (lo : LO G v) (h1 : 1 ≤ (v.1 0 305).toInt) : OKS G L2 e (tStats S 1502 e) v t u := by
  obtain ⟨-, z5, -, -, -, -, -, -, -, -, ka, w2, hr, -, g5, -, -, -, -, -, gk, -, g9, -, -, -, h⟩ := h
  have inv : SIq G L2 e w2 ∧ KS v w2 ∧ (∃ f : Nat, tStats S 1502 e (aC G v) = tStats S f e (aC G w2) ∧ (1501 : Int) ≤ f + (w2.1 0 305).toInt) ∧ ka.toInt + (v.1 0 305).toInt ≤ (w2.1 0 305).toInt := by
    refine RT.ind (fun (y : Int32 × MS) => SIq G L2 e y.2 ∧ KS v y.2 ∧ (∃ f : Nat, tStats S 1502 e (aC G v) = tStats S f e (aC G y.2) ∧ (1501 : Int) ≤ f + (y.2.1 0 305).toInt) ∧ y.1.toInt + (v.1 0 305).toInt ≤ (y.2.1 0 305).toInt) hr ⟨I, KS.rf, ⟨1502, rfl, by show (1501 : Int) ≤ 1502 + (v.1 0 305).toInt; omega⟩, by show (0 : Int32).toInt + (v.1 0 305).toInt ≤ (v.1 0 305).toInt; have : (0 : Int32).toInt = 0 := (by decide); omega⟩ ?_
    intro x y _ hx hy
    obtain ⟨Ix, Kx, ⟨f, hf, hm⟩, hk⟩ := hx
    obtain ⟨-, y5, -, -, -, -, -, yk, -, -, -, -, -, c1, r7, h7, c7, u13, h13, k13, rfl⟩ := hy
    have f7 := sKind (G := G) h7 Ix
    have a := hS G e _ _ _ h13 (fun _ => k13) Ix (lo.ks Kx)
    have k5 := k13.2.2.2.2.2.2.2.2.1
    have p5 := k13.2.1
    obtain ⟨f0, rfl⟩ : ∃ f0, f = f0 + 1 := ⟨f - 1, by omega⟩
    refine ⟨a.si, Kx.tr a.ks, ⟨f0, ?_, ?_⟩, ?_⟩
    · rw [hf]
      show (if (kd e (aC G x.2)).toInt = 33 then _ else _) = _
      rw [if_neg (by rw [← f7]; exact c7), a.eo, bd_ok]
    · show (1501 : Int) ≤ f0 + (u13.1 0 305).toInt
      omega
    · have e1 : (x.1 + (1 : Int32)).toInt = x.1.toInt + 1 := add_z rfl (by decide) (by omega) (by omega)
      show (x.1 + (1 : Int32)).toInt + (v.1 0 305).toInt ≤ (u13.1 0 305).toInt
      omega
  obtain ⟨Ix, Kx, ⟨f, hf, hm⟩, hk⟩ := inv
  obtain ⟨f0, rfl⟩ : ∃ f0, f = f0 + 1 := ⟨f - 1, by omega⟩
  unfold OKS
  rw [hf]
  rcases h with ⟨c1, -⟩ | ⟨c1, r7, h7, h⟩
  · omega
  have f7 := sKind (G := G) h7 Ix
  show (_ ∧ (if (kd e (aC G w2)).toInt = 33 then _ else _) = _ ∧ _) ∨ (_ ∧ (if (kd e (aC G w2)).toInt = 33 then _ else _) = _)
  rcases h with ⟨c7, rfl, rfl⟩ | ⟨c7, u9, h13, rfl, rfl⟩
  · rw [if_pos (by rw [← f7]; exact c7)]
    exact Or.inl ⟨rfl, rfl, Ix, Kx⟩
  · have a := hS G e _ _ _ h13 nom Ix (lo.ks Kx)
    rw [if_neg (by rw [← f7]; exact c7), a.er, bd_er]
    exact Or.inr ⟨rfl, rfl⟩
set_option maxHeartbeats 400000 in
theorem sBlock (hS : HS L2 c S) (h : Q_x_X5_block L1 L2 n c v t u) (I : SIq G L2 e v) (lo : LO G v) : OKS G L2 e (tBlock S e) v t u := by
  obtain ⟨-, -, -, -, -, -, -, -, -, -, h⟩ := h
  unfold OKS tBlock
  have ab := sW313 (x := v.1 0 312) I
  rw [show sBl (aC G v) (pKc (aC G v)) = aC G (wA v 0 313 (v.1 0 312)) from rfl]
  have Ib := ab.1
  have Kb := KS.rf.tr ab.2
  rcases h with ⟨u9, h1, rfl, rfl⟩ | ⟨u2, h1, k1, h⟩
  · exact Or.inr ⟨rfl, by simp only [(sOpen (G := G) h1 nom Ib).er, bd_er]⟩
  have a1 := sOpen (G := G) h1 (fun _ => k1) Ib
  rw [a1.eo]
  try rw [bd_ok]
  have I1 := a1.si
  have K1 := Kb.tr a1.ks
  rcases h with ⟨u9, h2, rfl, rfl⟩ | ⟨u15, h2, k2, h⟩
  · exact Or.inr ⟨rfl, by simp only [(sStats (G := G) hS h2 I1 (lo.ks K1) (by have := k1.2.2.2.2.1; have := h1.2.1.1; omega)).er, bd_er]⟩
  have a2 := sStats (G := G) hS h2 I1 (lo.ks K1) (by have := k1.2.2.2.2.1; have := h1.2.1.1; omega)
  rw [a2.eo]
  try rw [bd_ok]
  have I2 := a2.si
  have K2 := K1.tr a2.ks
  rcases h with ⟨u9, h3, rfl, rfl⟩ | ⟨u20, h3, k3, h⟩
  · exact Or.inr ⟨rfl, by simp only [(sExp (G := G) (m := 33) (by decide) h3 nom I2).er, bd_er]⟩
  have a3 := sExp (G := G) (m := 33) (by decide) h3 (fun _ => k3) I2
  rw [a3.eo]
  try rw [bd_ok]
  have I3 := a3.si
  have K3 := K2.tr a3.ks
  obtain ⟨u24, h4, k4, h⟩ := h
  have a4 := sClose (G := G) h4 k4 I3
  rw [← a4.1]
  try rw [bd_ok]
  have I4 := a4.2.1
  have K4 := K3.tr a4.2.2
  obtain ⟨rfl, rfl⟩ := h
  rw [sBk K4.2.2.2]
  exact Or.inl ⟨rfl, rfl, sBki I4 K4⟩
set_option maxHeartbeats 400000 in
theorem sIf (hE : ∀ m, m ≤ n → HE L2 (QE L1 L2 m) E) (hS : HS L2 c S) (h : Q_x_X5_ifStat L1 L2 n c v t u) (I : SIq G L2 e v) (lo : LO G v) : OKS G L2 e (tIf E S e) v t u := by
  obtain ⟨-, -, -, -, -, -, -, -, -, -, h⟩ := h
  unfold OKS tIf
  obtain ⟨r3, u2, h1, k1, h⟩ := h
  have a1 := sLab (G := G) h1 k1 I
  rw [← a1.1]
  try rw [bd_ok]
  have I1 := a1.2.1
  have K1 := KS.rf.tr a1.2.2
  rcases h with ⟨u9, h2, rfl, rfl⟩ | ⟨u10, h2, k2, h⟩
  · exact Or.inr ⟨rfl, by simp only [(sOpen (G := G) h2 nom I1).er, bd_er]⟩
  have a2 := sOpen (G := G) h2 (fun _ => k2) I1
  rw [a2.eo]
  try rw [bd_ok]
  have I2 := a2.si
  have K2 := K1.tr a2.ks
  rcases h with ⟨u9, h3, rfl, rfl⟩ | ⟨u26, h3, k3, h⟩
  · exact Or.inr ⟨rfl, by simp only [(sCond (G := G) (fun m hm => hE m (by omega)) h3 I2).er, bd_er]⟩
  have a3 := sCond (G := G) (fun m hm => hE m (by omega)) h3 I2
  rw [a3.eo]
  try rw [bd_ok]
  have I3 := a3.si
  have K3 := K2.tr a3.ks
  obtain ⟨u29, h4, k4, h⟩ := h
  have a4 := sAdd (G := G) (k := 2) h4 k4 (by decide) (by rfl) I3
  rw [← a4.1]
  try rw [bd_ok]
  have I4 := a4.2.1
  have K4 := K3.tr a4.2.2
  rcases h with ⟨u9, h5, rfl, rfl⟩ | ⟨u45, h5, k5, h⟩
  · exact Or.inr ⟨rfl, by simp only [(sInner (G := G) hS h5 I4 (lo.ks K4)).er, bd_er]⟩
  have a5 := sInner (G := G) hS h5 I4 (lo.ks K4)
  rw [a5.eo]
  try rw [bd_ok]
  have I5 := a5.si
  have K5 := K4.tr a5.ks
  obtain ⟨r50, h6, h⟩ := h
  have fr50 := sKind (G := G) h6 I5
  rcases h with ⟨c7, h⟩ | ⟨c7, h⟩
  · rw [if_neg (by rw [← fr50]; exact c7)]
    try rw [bd_ok]
    obtain ⟨u54, h8, k8, h⟩ := h
    have a8 := sSet (G := G) h8 k8 I5
    rw [← a8.1]
    try rw [bd_ok]
    have I8 := a8.2.1
    have K8 := K5.tr a8.2.2
    obtain ⟨u58, h9, k9, h⟩ := h
    have a9 := sClose (G := G) h9 k9 I8
    rw [← a9.1]
    try rw [bd_ok]
    have I9 := a9.2.1
    have K9 := K8.tr a9.2.2
    obtain ⟨rfl, rfl⟩ := h
    exact Or.inl ⟨rfl, rfl, I9, K9⟩
  · rw [if_pos (by rw [← fr50]; exact c7)]
    try rw [bd_ok]
    obtain ⟨r75, u74, h10, k10, h⟩ := h
    have a10 := sLab (G := G) h10 k10 I5
    rw [← a10.1]
    try rw [bd_ok]
    have I10 := a10.2.1
    have K10 := K5.tr a10.2.2
    rcases h with ⟨u9, h11, rfl, rfl⟩ | ⟨u81, h11, k11, h⟩
    · exact Or.inr ⟨rfl, by simp only [(sTake (G := G) h11 nom I10).er, bd_er]⟩
    have a11 := sTake (G := G) h11 (fun _ => k11) I10
    rw [a11.eo]
    try rw [bd_ok]
    have I11 := a11.si
    have K11 := K10.tr a11.ks
    obtain ⟨u86, h12, k12, h⟩ := h
    have a12 := sAdd (G := G) (k := 1) h12 k12 (by decide) (by rfl) I11
    rw [← a12.1]
    try rw [bd_ok]
    have I12 := a12.2.1
    have K12 := K11.tr a12.2.2
    obtain ⟨u89, h13, k13, h⟩ := h
    have a13 := sSet (G := G) h13 k13 I12
    rw [← a13.1]
    try rw [bd_ok]
    have I13 := a13.2.1
    have K13 := K12.tr a13.2.2
    rcases h with ⟨u9, h14, rfl, rfl⟩ | ⟨u122, h14, k14, h⟩
    · exact Or.inr ⟨rfl, by simp only [(sInner (G := G) hS h14 I13 (lo.ks K13)).er, bd_er]⟩
    have a14 := sInner (G := G) hS h14 I13 (lo.ks K13)
    rw [a14.eo]
    try rw [bd_ok]
    have I14 := a14.si
    have K14 := K13.tr a14.ks
    obtain ⟨u125, h15, k15, h⟩ := h
    have a15 := sSet (G := G) h15 k15 I14
    rw [← a15.1]
    try rw [bd_ok]
    have I15 := a15.2.1
    have K15 := K14.tr a15.2.2
    obtain ⟨u129, h16, k16, h⟩ := h
    have a16 := sClose (G := G) h16 k16 I15
    rw [← a16.1]
    try rw [bd_ok]
    have I16 := a16.2.1
    have K16 := K15.tr a16.2.2
    obtain ⟨rfl, rfl⟩ := h
    exact Or.inl ⟨rfl, rfl, I16, K16⟩
set_option maxHeartbeats 400000 in
theorem sWhileRest (hE : ∀ m, m ≤ n → HE L2 (QE L1 L2 m) E) (hS : HS L2 c S) (h : Q_x_X5_whileRest L1 L2 n c v t u) (I : SIq G L2 e v) (lb : LB v) : OKS G L2 e (tWhile E S e) v t u := by
  obtain ⟨-, -, -, -, -, -, -, -, -, -, h⟩ := h
  unfold OKS tWhile
  obtain ⟨u2, h1, k1, h⟩ := h
  have a1 := sSet (G := G) h1 k1 I
  rw [← a1.1]
  try rw [bd_ok]
  have I1 := a1.2.1
  have K1 := KS.rf.tr a1.2.2
  obtain ⟨u6, h2, k2, h⟩ := h
  have a2 := sAdd0 (G := G) h2 k2 (by decide) (by rfl) I1
  rw [← a2.1]
  try rw [bd_ok]
  have I2 := a2.2.1
  have K2 := K1.tr a2.2.2
  rcases h with ⟨u9, h3, rfl, rfl⟩ | ⟨u26, h3, k3, h⟩
  · exact Or.inr ⟨rfl, by simp only [(sCond (G := G) (fun m hm => hE m (by omega)) h3 I2).er, bd_er]⟩
  have a3 := sCond (G := G) (fun m hm => hE m (by omega)) h3 I2
  rw [a3.eo]
  try rw [bd_ok]
  have I3 := a3.si
  have K3 := K2.tr a3.ks
  obtain ⟨u29, h4, k4, h⟩ := h
  have a4 := sAdd (G := G) (k := 2) h4 k4 (by decide) (by rfl) I3
  rw [← a4.1]
  try rw [bd_ok]
  have I4 := a4.2.1
  have K4 := K3.tr a4.2.2
  rcases h with ⟨u9, h5, rfl, rfl⟩ | ⟨u43, h5, k5, h⟩
  · exact Or.inr ⟨rfl, by simp only [(sLp (G := G) hS h5 I4 (lb.ks K4)).er, bd_er]⟩
  have a5 := sLp (G := G) hS h5 I4 (lb.ks K4)
  rw [a5.eo]
  try rw [bd_ok]
  have I5 := a5.si
  have K5 := K4.tr a5.ks
  obtain ⟨u46, h6, k6, h⟩ := h
  have a6 := sAdd (G := G) (k := 1) h6 k6 (by decide) (by rfl) I5
  rw [← a6.1]
  try rw [bd_ok]
  have I6 := a6.2.1
  have K6 := K5.tr a6.2.2
  obtain ⟨rfl, rfl⟩ := h
  exact Or.inl ⟨rfl, rfl, I6, K6⟩
set_option maxHeartbeats 400000 in
theorem sDoRest (hE : ∀ m, m ≤ n → HE L2 (QE L1 L2 m) E) (hS : HS L2 c S) (h : Q_x_X5_doRest L1 L2 n c v t u) (I : SIq G L2 e v) (lb : LB v) : OKS G L2 e (tDo E S e) v t u := by
  obtain ⟨-, -, -, -, -, -, -, -, -, -, h⟩ := h
  unfold OKS tDo
  obtain ⟨r3, u2, h1, k1, h⟩ := h
  have a1 := sLab (G := G) h1 k1 I
  rw [← a1.1]
  try rw [bd_ok]
  have I1 := a1.2.1
  have K1 := KS.rf.tr a1.2.2
  obtain ⟨u6, h2, k2, h⟩ := h
  have a2 := sSet (G := G) h2 k2 I1
  rw [← a2.1]
  try rw [bd_ok]
  have I2 := a2.2.1
  have K2 := K1.tr a2.2.2
  obtain ⟨u10, h3, k3, h⟩ := h
  have a3 := sAdd0 (G := G) h3 k3 (by decide) (by rfl) I2
  rw [← a3.1]
  try rw [bd_ok]
  have I3 := a3.2.1
  have K3 := K2.tr a3.2.2
  rcases h with ⟨u9, h4, rfl, rfl⟩ | ⟨u36, h4, k4, h⟩
  · exact Or.inr ⟨rfl, by simp only [(sLp (G := G) hS h4 I3 (lb.ks K3)).er, bd_er]⟩
  have a4 := sLp (G := G) hS h4 I3 (lb.ks K3)
  rw [a4.eo]
  try rw [bd_ok]
  have I4 := a4.si
  have K4 := K3.tr a4.ks
  obtain ⟨u39, h5, k5, h⟩ := h
  have a5 := sSet (G := G) h5 k5 I4
  rw [← a5.1]
  try rw [bd_ok]
  have I5 := a5.2.1
  have K5 := K4.tr a5.2.2
  rcases h with ⟨u9, h6, rfl, rfl⟩ | ⟨u47, h6, k6, h⟩
  · exact Or.inr ⟨rfl, by simp only [(sExp (G := G) (m := 13) (by decide) h6 nom I5).er, bd_er]⟩
  have a6 := sExp (G := G) (m := 13) (by decide) h6 (fun _ => k6) I5
  rw [a6.eo]
  try rw [bd_ok]
  have I6 := a6.si
  have K6 := K5.tr a6.ks
  rcases h with ⟨u9, h7, rfl, rfl⟩ | ⟨u64, h7, k7, h⟩
  · exact Or.inr ⟨rfl, by simp only [(sCond (G := G) (fun m hm => hE m (by omega)) h7 I6).er, bd_er]⟩
  have a7 := sCond (G := G) (fun m hm => hE m (by omega)) h7 I6
  rw [a7.eo]
  try rw [bd_ok]
  have I7 := a7.si
  have K7 := K6.tr a7.ks
  obtain ⟨u67, h8, k8, h⟩ := h
  have a8 := sAdd (G := G) (k := 2) h8 k8 (by decide) (by rfl) I7
  rw [← a8.1]
  try rw [bd_ok]
  have I8 := a8.2.1
  have K8 := K7.tr a8.2.2
  rcases h with ⟨u9, h9, rfl, rfl⟩ | ⟨u75, h9, k9, h⟩
  · exact Or.inr ⟨rfl, by simp only [(sExp (G := G) (m := 36) (by decide) h9 nom I8).er, bd_er]⟩
  have a9 := sExp (G := G) (m := 36) (by decide) h9 (fun _ => k9) I8
  rw [a9.eo]
  try rw [bd_ok]
  have I9 := a9.si
  have K9 := K8.tr a9.ks
  obtain ⟨rfl, rfl⟩ := h
  exact Or.inl ⟨rfl, rfl, I9, K9⟩
set_option maxHeartbeats 400000 in
theorem sForRest (hE : ∀ m, m ≤ n → HE L2 (QE L1 L2 m) E) (hS : HS L2 c S) (h : Q_x_X5_forRest L1 L2 n c v t u) (I : SIq G L2 e v) (lb : LB v) : OKS G L2 e (tFor E S e) v t u := by
  obtain ⟨-, -, -, -, -, -, -, -, -, -, h⟩ := h
  unfold OKS tFor
  obtain ⟨r3, u2, h1, k1, h⟩ := h
  have a1 := sLab (G := G) h1 k1 I
  rw [← a1.1]
  try rw [bd_ok]
  have I1 := a1.2.1
  have K1 := KS.rf.tr a1.2.2
  obtain ⟨r7, u6, h2, k2, h⟩ := h
  have a2 := sLab (G := G) h2 k2 I1
  rw [← a2.1]
  try rw [bd_ok]
  have I2 := a2.2.1
  have K2 := K1.tr a2.2.2
  rcases h with ⟨u9, h3, rfl, rfl⟩ | ⟨u15, h3, k3, h⟩
  · exact Or.inr ⟨rfl, by simp only [(sNeed (G := G) (m := 30) (by decide) h3 nom I2).er, bd_er]⟩
  have a3 := sNeed (G := G) (m := 30) (by decide) h3 (fun _ => k3) I2
  rw [a3.eo]
  try rw [bd_ok]
  have I3 := a3.si
  have K3 := K2.tr a3.ks
  rcases h with ⟨u9, h4, rfl, rfl⟩ | ⟨u24, h4, k4, h⟩
  · exact Or.inr ⟨rfl, by simp only [(sOpen (G := G) h4 nom I3).er, bd_er]⟩
  have a4 := sOpen (G := G) h4 (fun _ => k4) I3
  rw [a4.eo]
  try rw [bd_ok]
  have I4 := a4.si
  have K4 := K3.tr a4.ks
  rcases h with ⟨u9, h5, rfl, rfl⟩ | ⟨r50, u49, h5, k5, h⟩
  · exact Or.inr ⟨rfl, by simp only [(sOpt (G := G) (m := 36) (by decide) (fun m hm => hE m (by omega)) h5 nom I4).er, bd_er]⟩
  have a5 := sOpt (G := G) (m := 36) (by decide) (fun m hm => hE m (by omega)) h5 (fun _ => k5) I4
  rw [a5.eo]
  try rw [bd_ok]
  have I5 := a5.si
  have K5 := K4.tr a5.ks
  rcases h with ⟨u9, h6, rfl, rfl⟩ | ⟨u54, h6, k6, h⟩
  · exact Or.inr ⟨rfl, by simp only [(sExp (G := G) (m := 36) (by decide) h6 nom I5).er, bd_er]⟩
  have a6 := sExp (G := G) (m := 36) (by decide) h6 (fun _ => k6) I5
  rw [a6.eo]
  try rw [bd_ok]
  have I6 := a6.si
  have K6 := K5.tr a6.ks
  obtain ⟨u58, h7, k7, h⟩ := h
  have a7 := sSet (G := G) h7 k7 I6
  rw [← a7.1]
  try rw [bd_ok]
  have I7 := a7.2.1
  have K7 := K6.tr a7.2.2
  obtain ⟨u62, h8, k8, h⟩ := h
  have a8 := sAdd0 (G := G) h8 k8 (by decide) (by rfl) I7
  rw [← a8.1]
  try rw [bd_ok]
  have I8 := a8.2.1
  have K8 := K7.tr a8.2.2
  rcases h with ⟨u9, h9, rfl, rfl⟩ | ⟨r92, u91, h9, k9, h⟩
  · exact Or.inr ⟨rfl, by simp only [(sOpt (G := G) (m := 36) (by decide) (fun m hm => hE m (by omega)) h9 nom I8).er, bd_er]⟩
  have a9 := sOpt (G := G) (m := 36) (by decide) (fun m hm => hE m (by omega)) h9 (fun _ => k9) I8
  rw [a9.eo]
  try rw [bd_ok]
  have I9 := a9.si
  have K9 := K8.tr a9.ks
  rcases h with ⟨c10, h⟩ | ⟨c10, h⟩
  · rw [if_neg (show ¬ decide (r92.toInt ≠ 0) = true from fun w => (of_decide_eq_true w) c10)]
    rcases h with ⟨u9, h11, rfl, rfl⟩ | ⟨u98, h11, k11, h⟩
    · exact Or.inr ⟨rfl, by simp only [(sExp (G := G) (m := 36) (by decide) h11 nom I9).er, bd_er]⟩
    have a11 := sExp (G := G) (m := 36) (by decide) h11 (fun _ => k11) I9
    rw [a11.eo]
    try rw [bd_ok]
    have I11 := a11.si
    have K11 := K9.tr a11.ks
    obtain ⟨u102, h12, k12, h⟩ := h
    have a12 := sAdd (G := G) (k := 1) h12 k12 (by decide) (by rfl) I11
    rw [← a12.1]
    try rw [bd_ok]
    have I12 := a12.2.1
    have K12 := K11.tr a12.2.2
    obtain ⟨u105, h13, k13, h⟩ := h
    have a13 := sSet (G := G) h13 k13 I12
    rw [← a13.1]
    try rw [bd_ok]
    have I13 := a13.2.1
    have K13 := K12.tr a13.2.2
    rcases h with ⟨u9, h14, rfl, rfl⟩ | ⟨r136, u135, h14, k14, h⟩
    · exact Or.inr ⟨rfl, by simp only [(sOpt (G := G) (m := 31) (by decide) (fun m hm => hE m (by omega)) h14 nom I13).er, bd_er]⟩
    have a14 := sOpt (G := G) (m := 31) (by decide) (fun m hm => hE m (by omega)) h14 (fun _ => k14) I13
    rw [a14.eo]
    try rw [bd_ok]
    have I14 := a14.si
    have K14 := K13.tr a14.ks
    rcases h with ⟨u9, h15, rfl, rfl⟩ | ⟨u140, h15, k15, h⟩
    · exact Or.inr ⟨rfl, by simp only [(sExp (G := G) (m := 31) (by decide) h15 nom I14).er, bd_er]⟩
    have a15 := sExp (G := G) (m := 31) (by decide) h15 (fun _ => k15) I14
    rw [a15.eo]
    try rw [bd_ok]
    have I15 := a15.si
    have K15 := K14.tr a15.ks
    obtain ⟨u144, h16, k16, h⟩ := h
    have a16 := sClose (G := G) h16 k16 I15
    rw [← a16.1]
    try rw [bd_ok]
    have I16 := a16.2.1
    have K16 := K15.tr a16.2.2
    obtain ⟨u149, h17, k17, h⟩ := h
    have a17 := sAdd (G := G) (k := 1) h17 k17 (by decide) (by rfl) I16
    rw [← a17.1]
    try rw [bd_ok]
    have I17 := a17.2.1
    have K17 := K16.tr a17.2.2
    obtain ⟨u152, h18, k18, h⟩ := h
    have a18 := sSet (G := G) h18 k18 I17
    rw [← a18.1]
    try rw [bd_ok]
    have I18 := a18.2.1
    have K18 := K17.tr a18.2.2
    rcases h with ⟨u9, h19, rfl, rfl⟩ | ⟨u186, h19, k19, h⟩
    · exact Or.inr ⟨rfl, by simp only [(sLp (G := G) hS h19 I18 (lb.ks K18)).er, bd_er]⟩
    have a19 := sLp (G := G) hS h19 I18 (lb.ks K18)
    rw [a19.eo]
    try rw [bd_ok]
    have I19 := a19.si
    have K19 := K18.tr a19.ks
    obtain ⟨u189, h20, k20, h⟩ := h
    have a20 := sAdd (G := G) (k := 1) h20 k20 (by decide) (by rfl) I19
    rw [← a20.1]
    try rw [bd_ok]
    have I20 := a20.2.1
    have K20 := K19.tr a20.2.2
    obtain ⟨rfl, rfl⟩ := h
    exact Or.inl ⟨rfl, rfl, I20, K20⟩
  · rw [if_pos (show decide (r92.toInt ≠ 0) = true from decide_eq_true c10)]
    obtain ⟨u199, h21, k21, h⟩ := h
    have a21 := sAdd (G := G) (k := 2) h21 k21 (by decide) (by rfl) I9
    rw [← a21.1]
    try rw [bd_ok]
    have I21 := a21.2.1
    have K21 := K9.tr a21.2.2
    rcases h with ⟨u9, h22, rfl, rfl⟩ | ⟨u207, h22, k22, h⟩
    · exact Or.inr ⟨rfl, by simp only [(sExp (G := G) (m := 36) (by decide) h22 nom I21).er, bd_er]⟩
    have a22 := sExp (G := G) (m := 36) (by decide) h22 (fun _ => k22) I21
    rw [a22.eo]
    try rw [bd_ok]
    have I22 := a22.si
    have K22 := K21.tr a22.ks
    obtain ⟨u211, h23, k23, h⟩ := h
    have a23 := sAdd (G := G) (k := 1) h23 k23 (by decide) (by rfl) I22
    rw [← a23.1]
    try rw [bd_ok]
    have I23 := a23.2.1
    have K23 := K22.tr a23.2.2
    obtain ⟨u214, h24, k24, h⟩ := h
    have a24 := sSet (G := G) h24 k24 I23
    rw [← a24.1]
    try rw [bd_ok]
    have I24 := a24.2.1
    have K24 := K23.tr a24.2.2
    rcases h with ⟨u9, h25, rfl, rfl⟩ | ⟨r250, u249, h25, k25, h⟩
    · exact Or.inr ⟨rfl, by simp only [(sOpt (G := G) (m := 31) (by decide) (fun m hm => hE m (by omega)) h25 nom I24).er, bd_er]⟩
    have a25 := sOpt (G := G) (m := 31) (by decide) (fun m hm => hE m (by omega)) h25 (fun _ => k25) I24
    rw [a25.eo]
    try rw [bd_ok]
    have I25 := a25.si
    have K25 := K24.tr a25.ks
    rcases h with ⟨u9, h26, rfl, rfl⟩ | ⟨u254, h26, k26, h⟩
    · exact Or.inr ⟨rfl, by simp only [(sExp (G := G) (m := 31) (by decide) h26 nom I25).er, bd_er]⟩
    have a26 := sExp (G := G) (m := 31) (by decide) h26 (fun _ => k26) I25
    rw [a26.eo]
    try rw [bd_ok]
    have I26 := a26.si
    have K26 := K25.tr a26.ks
    obtain ⟨u258, h27, k27, h⟩ := h
    have a27 := sClose (G := G) h27 k27 I26
    rw [← a27.1]
    try rw [bd_ok]
    have I27 := a27.2.1
    have K27 := K26.tr a27.2.2
    obtain ⟨u263, h28, k28, h⟩ := h
    have a28 := sAdd (G := G) (k := 1) h28 k28 (by decide) (by rfl) I27
    rw [← a28.1]
    try rw [bd_ok]
    have I28 := a28.2.1
    have K28 := K27.tr a28.2.2
    obtain ⟨u266, h29, k29, h⟩ := h
    have a29 := sSet (G := G) h29 k29 I28
    rw [← a29.1]
    try rw [bd_ok]
    have I29 := a29.2.1
    have K29 := K28.tr a29.2.2
    rcases h with ⟨u9, h30, rfl, rfl⟩ | ⟨u300, h30, k30, h⟩
    · exact Or.inr ⟨rfl, by simp only [(sLp (G := G) hS h30 I29 (lb.ks K29)).er, bd_er]⟩
    have a30 := sLp (G := G) hS h30 I29 (lb.ks K29)
    rw [a30.eo]
    try rw [bd_ok]
    have I30 := a30.si
    have K30 := K29.tr a30.ks
    obtain ⟨u303, h31, k31, h⟩ := h
    have a31 := sAdd (G := G) (k := 1) h31 k31 (by decide) (by rfl) I30
    rw [← a31.1]
    try rw [bd_ok]
    have I31 := a31.2.1
    have K31 := K30.tr a31.2.2
    obtain ⟨rfl, rfl⟩ := h
    exact Or.inl ⟨rfl, rfl, I31, K31⟩
theorem sLabn (h : Q_x_X1_newLabel L1 L2 v r u) : r.toInt ≠ -1 := by
  obtain ⟨-, z, rfl, -⟩ := h
  omega
set_option maxHeartbeats 400000 in
theorem sLoop (hE : ∀ m, m ≤ n → HE L2 (QE L1 L2 m) E) (hS : HS L2 c S) (h : Q_x_X5_loopStat L1 L2 n c v pa t u) (I : SIq G L2 e v) {m : Int} (hm : pa.toInt = m) : OKS G L2 e (tLoop m E S e) v t u := by
  obtain ⟨-, -, -, -, -, -, -, -, -, -, r3, u2, h1, k1, r7, u6, h2, k2, h⟩ := h
  subst hm
  have a1 := sLab (G := G) h1 k1 I
  have n1 := sLabn h1
  have n2 := sLabn h2
  have Ia : SIq G L2 e (wA u2 0 331 r3) := ⟨a1.2.1.1.w (by decide), a1.2.1.2⟩
  have a2 := sLab (G := G) h2 k2 Ia
  have Ib : SIq G L2 e (wA u6 0 332 r7) := ⟨a2.2.1.1.w (by decide), a2.2.1.2⟩
  have ea : aC G (wA u6 0 332 r7) = aC G v := (show aC G (wA u6 0 332 r7) = aC G u6 from rfl).trans (a2.1.trans ((show aC G (wA u2 0 331 r3) = aC G u2 from rfl).trans a1.1))
  have u331 : u6.1 0 331 = r3 := a2.2.2.2.1
  have kb : KP v (wA u6 0 332 r7) := a1.2.2.1.tr ((KP.of rfl rfl rfl rfl rfl : KP u2 (wA u2 0 331 r3)).tr (a2.2.2.1.tr (KP.of rfl rfl rfl rfl rfl)))
  have k12 : (v.1 0 312).toInt ≤ (u6.1 0 312).toInt := Int.le_trans a1.2.2.2.2.2 a2.2.2.2.2.2
  unfold OKS tLoop
  rw [← ea]
  rcases h with ⟨u9, h3, rfl, rfl⟩ | ⟨u17, h3, k3, h⟩
  · exact Or.inr ⟨rfl, by simp only [(sOpen (G := G) h3 nom Ib).er, bd_er]⟩
  have a3 := sOpen (G := G) h3 (fun _ => k3) Ib
  rw [a3.eo, bd_ok]
  have lb : LB u17 := by
    unfold LB
    rw [a3.ks.2.1, a3.ks.2.2.1]
    exact ⟨by show (u6.1 0 331).toInt ≠ -1; rw [u331]; exact n1, n2⟩
  have fin : ∀ {x y z : MS} {f : PS → PX PS} {q : Int32}, OKS G L2 e f u17 false x → Q_x_X1_setLabel L1 L2 x q y → K_x_X1_setLabel x q y → Q_x_X9_close L1 L2 y z → K_x_X9_close y z → (false = false ∧ (bd (f (aC G u17)) fun s => (.ok (tClose s) : PX PS)) = .ok (aC G (wA (wA z 0 331 (v.1 0 331)) 0 332 (v.1 0 332))) ∧ SIq G L2 e (wA (wA z 0 331 (v.1 0 331)) 0 332 (v.1 0 332)) ∧ KS v (wA (wA z 0 331 (v.1 0 331)) 0 332 (v.1 0 332))) := by
    intro x y z f q b1 s1 ks1 s2 ks2
    have b2 := sSet (G := G) s1 ks1 b1.si
    have b3 := sClose (G := G) s2 ks2 b2.2.1
    refine ⟨rfl, ?_, ⟨(b3.2.1.1.w (by decide)).w (by decide), b3.2.1.2⟩, ?_, rfl, rfl, ?_⟩
    · rw [b1.eo, bd_ok, ← b2.1, ← b3.1]
      rfl
    · exact (kb.tr (a3.ks.1.tr (b1.ks.1.tr (b2.2.2.1.tr b3.2.2.1)))).tr (KP.of rfl rfl rfl rfl rfl)
    · exact Int.le_trans k12 (Int.le_trans a3.ks.2.2.2 (Int.le_trans b1.ks.2.2.2 (Int.le_trans b2.2.2.2.2.2 b3.2.2.2.2.2)))
  rcases h with ⟨c3, h⟩ | ⟨c3, h⟩
  · rw [if_neg c3]
    rcases h with ⟨c4, h⟩ | ⟨c4, h⟩
    · rw [if_neg c4]
      rcases h with ⟨u9, h4, rfl, rfl⟩ | ⟨u41, h4, -, u44, h5, k5, u48, h6, k6, rfl, rfl⟩
      · exact Or.inr ⟨rfl, by simp only [(sForRest (G := G) (fun m hm => hE m (by omega)) hS h4 a3.si lb).er, bd_er]⟩
      · exact Or.inl (fin (sForRest (G := G) (fun m hm => hE m (by omega)) hS h4 a3.si lb) h5 k5 h6 k6)
    · rw [if_pos c4]
      rcases h with ⟨u9, h4, rfl, rfl⟩ | ⟨u41, h4, -, u44, h5, k5, u48, h6, k6, rfl, rfl⟩
      · exact Or.inr ⟨rfl, by simp only [(sDoRest (G := G) (fun m hm => hE m (by omega)) hS h4 a3.si lb).er, bd_er]⟩
      · exact Or.inl (fin (sDoRest (G := G) (fun m hm => hE m (by omega)) hS h4 a3.si lb) h5 k5 h6 k6)
  · rw [if_pos c3]
    rcases h with ⟨u9, h4, rfl, rfl⟩ | ⟨u41, h4, -, u44, h5, k5, u48, h6, k6, rfl, rfl⟩
    · exact Or.inr ⟨rfl, by simp only [(sWhileRest (G := G) (fun m hm => hE m (by omega)) hS h4 a3.si lb).er, bd_er]⟩
    · exact Or.inl (fin (sWhileRest (G := G) (fun m hm => hE m (by omega)) hS h4 a3.si lb) h5 k5 h6 k6)
theorem OKS.cg {f f' : PS → PX PS} (h : f (aC G v) = f' (aC G v)) (k : OKS G L2 e f' v t u) : OKS G L2 e f v t u := by
  unfold OKS at k ⊢
  rw [h]
  exact k
set_option maxHeartbeats 400000 in
theorem sPlain (hE : ∀ m, m ≤ n → HE L2 (QE L1 L2 m) E) (I : SIq G L2 e v) (h : (∃ u9, QE L1 L2 n v 1 true u9 ∧ t = true ∧ u = u9) ∨ (∃ u14, QE L1 L2 n v 1 false u14 ∧ K_x_X2_expression v 1 u14 ∧ ((∃ u9, Q_x_X9_expect L1 L2 u14 36 true u9 ∧ t = true ∧ u = u9) ∨ (∃ u19, Q_x_X9_expect L1 L2 u14 36 false u19 ∧ K_x_X9_expect u14 36 u19 ∧ t = false ∧ u = u19)))) : OKS G L2 e (fun s => bd (E true e s) (tExp 36 e)) v t u := by
  unfold OKS
  show (t = false ∧ bd (E true e (aC G v)) (tExp 36 e) = _ ∧ _) ∨ (t = true ∧ bd (E true e (aC G v)) (tExp 36 e) = _)
  rcases h with ⟨u9, h1, rfl, rfl⟩ | ⟨u14, h1, k1, h⟩
  · exact Or.inr ⟨rfl, by simp only [(sE (G := G) hE (by omega) h1 nom I).er, bd_er]⟩
  have a1 := sE (G := G) hE (by omega) h1 (fun _ => k1) I
  rw [a1.eo, bd_ok]
  rcases h with ⟨u9, h2, rfl, rfl⟩ | ⟨u19, h2, k2, rfl, rfl⟩
  · exact Or.inr ⟨rfl, (sExp (G := G) (m := 36) (by decide) h2 nom a1.si).er⟩
  have a2 := sExp (G := G) (m := 36) (by decide) h2 (fun _ => k2) a1.si
  exact Or.inl ⟨rfl, a2.eo, a2.si, a1.ks.tr a2.ks⟩
set_option maxHeartbeats 400000 in
theorem sPut (hE : ∀ m, m ≤ n → HE L2 (QE L1 L2 m) E) (I : SIq G L2 e v) (h : (∃ u9, Q_x_X9_take L1 L2 v true u9 ∧ t = true ∧ u = u9) ∨ (∃ u65, Q_x_X9_take L1 L2 v false u65 ∧ K_x_X9_take v u65 ∧ ((∃ u9, Q_x_X5_condition L1 L2 n u65 true u9 ∧ t = true ∧ u = u9) ∨ (∃ u76, Q_x_X5_condition L1 L2 n u65 false u76 ∧ K_x_X5_condition u65 u76 ∧ ∃ u79, Q_x_X1_add L1 L2 u76 22 0 0 u79 ∧ K_x_X1_add u76 22 0 0 u79 ∧ ((∃ u9, Q_x_X9_expect L1 L2 u79 36 true u9 ∧ t = true ∧ u = u9) ∨ (∃ u19, Q_x_X9_expect L1 L2 u79 36 false u19 ∧ K_x_X9_expect u79 36 u19 ∧ t = false ∧ u = u19)))))) : OKS G L2 e (tPut E e) v t u := by
  unfold OKS tPut
  rcases h with ⟨u9, h1, rfl, rfl⟩ | ⟨u65, h1, k1, h⟩
  · exact Or.inr ⟨rfl, by simp only [(sTake (G := G) h1 nom I).er, bd_er]⟩
  have a1 := sTake (G := G) h1 (fun _ => k1) I
  rw [a1.eo, bd_ok]
  rcases h with ⟨u9, h2, rfl, rfl⟩ | ⟨u76, h2, -, u79, h3, k3, h⟩
  · exact Or.inr ⟨rfl, by simp only [(sCond (G := G) hE h2 a1.si).er, bd_er]⟩
  have a2 := sCond (G := G) hE h2 a1.si
  rw [a2.eo, bd_ok]
  have a3 := sAdd (G := G) (k := 2) h3 k3 (by decide) (by rfl) a2.si
  rw [← a3.1]
  rcases h with ⟨u9, h2, rfl, rfl⟩ | ⟨u19, h4, k4, rfl, rfl⟩
  · exact Or.inr ⟨rfl, (sExp (G := G) (m := 36) (by decide) h2 nom a3.2.1).er⟩
  have a4 := sExp (G := G) (m := 36) (by decide) h4 (fun _ => k4) a3.2.1
  exact Or.inl ⟨rfl, a4.eo, a4.si, ((a1.ks.tr a2.ks).tr a3.2.2).tr a4.ks⟩
set_option maxHeartbeats 1000000 in
theorem sStat (hE : ∀ m, m ≤ n → HE L2 (QE L1 L2 m) E) (hS : HS L2 c S) (h : Q_x_X5_stat L1 L2 n c v t u) (I : SIq G L2 e v) (lo : LO G v) : OKS G L2 e (tStat E S e) v t u := by
  obtain ⟨-, -, -, -, -, -, -, -, -, -, r3, h1, h⟩ := h
  have f3 := sKind (G := G) h1 I
  rcases h with ⟨a, h⟩ | ⟨n10, h⟩
  · refine OKS.cg (f' := tLocal E e) (by unfold tStat; rw [← f3, a]; rfl) ?_
    rcases h with ⟨u9, h2, rfl, rfl⟩ | ⟨u6, h2, -, rfl, rfl⟩ <;> exact sLocal hE h2 I
  rcases h with ⟨a, h⟩ | ⟨n11, h⟩
  · refine OKS.cg (f' := tIf E S e) (by unfold tStat; rw [← f3, a]; rfl) ?_
    rcases h with ⟨u9, h2, rfl, rfl⟩ | ⟨u6, h2, -, rfl, rfl⟩ <;> exact sIf hE hS h2 I lo
  rcases h with ⟨a, h⟩ | ⟨n12, h⟩
  · exact OKS.cg (f' := fun s => bd (E true e s) (tExp 36 e)) (by unfold tStat; rw [← f3, a]; rfl) (sPlain hE I h)
  rcases h with ⟨a, h⟩ | ⟨n13, h⟩
  · refine OKS.cg (f' := tLoop 13 E S e) (by unfold tStat; rw [← f3, a]; rfl) ?_
    rcases h with ⟨u9, h2, rfl, rfl⟩ | ⟨u6, h2, -, rfl, rfl⟩ <;> exact sLoop hE hS h2 I (by decide)
  rcases h with ⟨a, h⟩ | ⟨n14, h⟩
  · refine OKS.cg (f' := tLoop 14 E S e) (by unfold tStat; rw [← f3, a]; rfl) ?_
    rcases h with ⟨u9, h2, rfl, rfl⟩ | ⟨u6, h2, -, rfl, rfl⟩ <;> exact sLoop hE hS h2 I (by decide)
  rcases h with ⟨a, h⟩ | ⟨n15, h⟩
  · refine OKS.cg (f' := tLoop 15 E S e) (by unfold tStat; rw [← f3, a]; rfl) ?_
    rcases h with ⟨u9, h2, rfl, rfl⟩ | ⟨u6, h2, -, rfl, rfl⟩ <;> exact sLoop hE hS h2 I (by decide)
  rcases h with ⟨a, h⟩ | ⟨n16, h⟩
  · refine OKS.cg (f' := tJump e) (by unfold tStat; rw [← f3, a]; rfl) ?_
    rcases h with ⟨u9, h2, rfl, rfl⟩ | ⟨u6, h2, -, rfl, rfl⟩ <;> exact sJump h2 I lo.1
  rcases h with ⟨a, h⟩ | ⟨n17, h⟩
  · refine OKS.cg (f' := tJump e) (by unfold tStat; rw [← f3, a]; rfl) ?_
    rcases h with ⟨u9, h2, rfl, rfl⟩ | ⟨u6, h2, -, rfl, rfl⟩ <;> exact sJump h2 I lo.2
  rcases h with ⟨a, h⟩ | ⟨n18, h⟩
  · refine OKS.cg (f' := tRet E e) (by unfold tStat; rw [← f3, a]; rfl) ?_
    rcases h with ⟨u9, h2, rfl, rfl⟩ | ⟨u6, h2, -, rfl, rfl⟩ <;> exact sRet hE h2 I
  rcases h with ⟨a, h⟩ | ⟨n19, h⟩
  · exact OKS.cg (f' := tPut E e) (by unfold tStat; rw [← f3, a]; rfl) (sPut hE I h)
  rcases h with ⟨a, h⟩ | ⟨n20, h⟩
  · exact OKS.cg (f' := fun s => bd (E true e s) (tExp 36 e)) (by unfold tStat; rw [← f3, a]; rfl) (sPlain hE I h)
  rcases h with ⟨a, h⟩ | ⟨n21, h⟩
  · exact OKS.cg (f' := fun s => bd (E true e s) (tExp 36 e)) (by unfold tStat; rw [← f3, a]; rfl) (sPlain hE I h)
  rcases h with ⟨a, h⟩ | ⟨n22, h⟩
  · exact OKS.cg (f' := fun s => bd (E true e s) (tExp 36 e)) (by unfold tStat; rw [← f3, a]; rfl) (sPlain hE I h)
  rcases h with ⟨a, h⟩ | ⟨n23, h⟩
  · exact OKS.cg (f' := fun s => bd (E true e s) (tExp 36 e)) (by unfold tStat; rw [← f3, a]; rfl) (sPlain hE I h)
  rcases h with ⟨a, h⟩ | ⟨n24, h⟩
  · exact OKS.cg (f' := fun s => bd (E true e s) (tExp 36 e)) (by unfold tStat; rw [← f3, a]; rfl) (sPlain hE I h)
  rcases h with ⟨a, h⟩ | ⟨n25, h⟩
  · exact OKS.cg (f' := fun s => bd (E true e s) (tExp 36 e)) (by unfold tStat; rw [← f3, a]; rfl) (sPlain hE I h)
  rcases h with ⟨a, h⟩ | ⟨n26, h⟩
  · exact OKS.cg (f' := fun s => bd (E true e s) (tExp 36 e)) (by unfold tStat; rw [← f3, a]; rfl) (sPlain hE I h)
  rcases h with ⟨a, h⟩ | ⟨n27, h⟩
  · exact OKS.cg (f' := fun s => bd (E true e s) (tExp 36 e)) (by unfold tStat; rw [← f3, a]; rfl) (sPlain hE I h)
  rcases h with ⟨a, h⟩ | ⟨n28, h⟩
  · exact OKS.cg (f' := fun s => bd (E true e s) (tExp 36 e)) (by unfold tStat; rw [← f3, a]; rfl) (sPlain hE I h)
  rcases h with ⟨a, h⟩ | ⟨n29, h⟩
  · exact OKS.cg (f' := fun s => bd (E true e s) (tExp 36 e)) (by unfold tStat; rw [← f3, a]; rfl) (sPlain hE I h)
  rcases h with ⟨a, h⟩ | ⟨n30, h⟩
  · exact OKS.cg (f' := fun s => bd (E true e s) (tExp 36 e)) (by unfold tStat; rw [← f3, a]; rfl) (sPlain hE I h)
  rcases h with ⟨a, h⟩ | ⟨n31, h⟩
  · exact OKS.cg (f' := fun s => bd (E true e s) (tExp 36 e)) (by unfold tStat; rw [← f3, a]; rfl) (sPlain hE I h)
  rcases h with ⟨a, h⟩ | ⟨n32, h⟩
  · refine OKS.cg (f' := tBlock S e) (by unfold tStat; rw [← f3, a]; rfl) ?_
    rcases h with ⟨u9, h2, rfl, rfl⟩ | ⟨u6, h2, -, rfl, rfl⟩ <;> exact sBlock hS h2 I lo
  rcases h with ⟨a, h⟩ | ⟨n33, h⟩
  · exact OKS.cg (f' := fun s => bd (E true e s) (tExp 36 e)) (by unfold tStat; rw [← f3, a]; rfl) (sPlain hE I h)
  rcases h with ⟨a, h⟩ | ⟨n34, h⟩
  · exact OKS.cg (f' := fun s => bd (E true e s) (tExp 36 e)) (by unfold tStat; rw [← f3, a]; rfl) (sPlain hE I h)
  rcases h with ⟨a, h⟩ | ⟨n35, h⟩
  · exact OKS.cg (f' := fun s => bd (E true e s) (tExp 36 e)) (by unfold tStat; rw [← f3, a]; rfl) (sPlain hE I h)
  rcases h with ⟨a, h⟩ | ⟨n36, h⟩
  · refine OKS.cg (f' := tTake e) (by unfold tStat; rw [← f3, a]; rfl) ?_
    rcases h with ⟨u9, h2, rfl, rfl⟩ | ⟨u6, h2, k2, rfl, rfl⟩
    · exact sTake h2 nom I
    · exact sTake h2 (fun _ => k2) I
  refine OKS.cg (f' := fun s => bd (E true e s) (tExp 36 e)) ?_ (sPlain hE I h)
  unfold tStat
  rw [← f3, if_neg (ne_i n10 (by decide)), if_neg (ne_i n11 (by decide)), if_neg (fun q => q.elim (ne_i n13 (by decide)) (fun q => q.elim (ne_i n14 (by decide)) (ne_i n15 (by decide)))), if_neg (fun q => q.elim (ne_i n16 (by decide)) (ne_i n17 (by decide))), if_neg (ne_i n18 (by decide)), if_neg (ne_i n19 (by decide)), if_neg (ne_i n32 (by decide)), if_neg (ne_i n36 (by decide))]
set_option maxHeartbeats 400000 in
theorem sLev (hE : ∀ m, m ≤ 50 → HE L2 (QE L1 L2 m) E) : ∀ n N : Nat, n ≤ N → n ≤ 50 → HS L2 (QS L1 L2 n) (tS E N) := by
  intro n
  induction n with
  | zero =>
    intro N _ _
    have p : HS L2 (pS L1 L2 0) (qS E N) := fun _ _ _ _ _ h => h.elim
    intro G e v t u h _ I lo
    rw [QS_eq] at h
    rw [tS_eq]
    exact sStat (fun m hm => hE m (by omega)) p h I lo
  | succ n ih =>
    intro N h1 h2
    cases N with
    | zero => omega
    | succ N =>
      have p : HS L2 (pS L1 L2 (n + 1)) (qS E (N + 1)) := ih N (by omega) (by omega)
      intro G e v t u h _ I lo
      rw [QS_eq] at h
      rw [tS_eq]
      exact sStat (fun m hm => hE m (by omega)) p h I lo
end CST
