/-! what a load leaves that other calls show -/
/-- functions, globals, the text: how many functions, their facts (0 to 3; 4: where the name ends), the same of globals, bytes, the bytes -/
abbrev DT : Type := Int × (Nat → Nat → Int32) × Int × (Nat → Nat → Int32) × Nat × (Nat → Int32)
def dnf (d : DT) : Int := d.1
def dft (d : DT) : Nat → Nat → Int32 := d.2.1
def dng (d : DT) : Int := d.2.2.1
def dgl (d : DT) : Nat → Nat → Int32 := d.2.2.2.1
def dtl (d : DT) : Nat := d.2.2.2.2.1
def dtx (d : DT) : Nat → Int32 := d.2.2.2.2.2
def d0 : DT := (0, fun _ _ => 0, 0, fun _ _ => 0, 0, fun _ => 0)
/-- a name's place and end -/
def NMD (d : DT) (h : Nat → Int32) : Prop := 0 ≤ (h 3).toInt ∧ (h 3).toNatClampNeg < dtl d ∧ (h 4).toInt = ((NLE (dtx d) (dtl d) (h 3).toNatClampNeg : Nat) : Int)
def DG (d : DT) : Prop := (0 ≤ dnf d ∧ dnf d ≤ 40) ∧ (0 ≤ dng d ∧ dng d ≤ 60) ∧ (∀ f : Nat, (f : Int) < dnf d → NMD d (dft d f)) ∧ (∀ g : Nat, (g : Int) < dng d → NMD d (dgl d g) ∧ (dgl d g 2 = 0 ∨ dgl d g 2 = 1)) ∧ dtl d ≤ 4000 ∧ ∀ p, p < dtl d → 0 ≤ (dtx d p).toInt
theorem DG0 : DG d0 := ⟨by show (0 : Int) ≤ 0 ∧ (0 : Int) ≤ 40; omega, by show (0 : Int) ≤ 0 ∧ (0 : Int) ≤ 60; omega, fun f hf => absurd (show (f : Int) < 0 from hf) (by omega), fun g hg => absurd (show (g : Int) < 0 from hg) (by omega), Nat.zero_le _, fun p hp => absurd (show p < 0 from hp) (Nat.not_lt_zero p)⟩
/-- the class's -/
def dC (L1 L2 : List Nat) (T : Nat → Int32) (L : Nat) (u : MS) : DT :=
  ((u.1 0 375).toInt, fun f j => if (f : Int) < (u.1 0 375).toInt then (if j < 4 then rF L1 u f j else if j = 4 then nI (NLE T L (rF L1 u f 3).toNatClampNeg) else 0) else 0,
   (u.1 0 377).toInt, fun g j => if (g : Int) < (u.1 0 377).toInt then (if j < 4 then rF L2 u g j else if j = 4 then nI (NLE T L (rF L2 u g 3).toNatClampNeg) else 0) else 0, L, T)
/-- the reference's -/
def dM (T : Nat → Int32) (L : Nat) (u : MS) : DT :=
  ((u.1 0 74).toInt, fun f j => if (f : Int) < (u.1 0 74).toInt then (if j = 0 then u.1 78 f else if j = 1 then u.1 80 f else if j = 2 then u.1 79 f else if j = 3 then u.1 83 f else if j = 4 then u.1 84 f else 0) else 0,
   (u.1 0 75).toInt, fun g j => if (g : Int) < (u.1 0 75).toInt then (if j = 0 then u.1 85 g else if j = 1 then 4 * u.1 0 73 + 4 * u.1 86 g else if j = 2 then u.1 89 g else if j = 3 then u.1 87 g else if j = 4 then u.1 88 g else 0) else 0, L, T)
def KD (L1 L2 : List Nat) (fa fp : Int32) (d : DT) (v : MS) : Prop := (v.1 0 396 = fa ∧ v.1 0 397 = fp) ∧ ((v.1 0 375).toInt = dnf d ∧ (v.1 0 377).toInt = dng d) ∧ (∀ f j : Nat, (f : Int) < dnf d → j < 4 → rF L1 v f j = dft d f j) ∧ (∀ g j : Nat, (g : Int) < dng d → j < 4 → rF L2 v g j = dgl d g j) ∧ (v.1 0 373).toInt = dtl d ∧ (∀ p, p < dtl d → v.1 372 p = dtx d p) ∧ DG d
def MD (fa fp : Int32) (d : DT) (w : MS) : Prop := (w.1 0 91 = fa ∧ w.1 0 92 = fp) ∧ ((w.1 0 74).toInt = dnf d ∧ (w.1 0 75).toInt = dng d) ∧ (∀ f : Nat, (f : Int) < dnf d → w.1 78 f = dft d f 0 ∧ w.1 80 f = dft d f 1 ∧ w.1 79 f = dft d f 2 ∧ w.1 83 f = dft d f 3 ∧ w.1 84 f = dft d f 4) ∧ (∀ g : Nat, (g : Int) < dng d → w.1 85 g = dgl d g 0 ∧ 4 * w.1 0 73 + 4 * w.1 86 g = dgl d g 1 ∧ w.1 89 g = dgl d g 2 ∧ w.1 87 g = dgl d g 3 ∧ w.1 88 g = dgl d g 4) ∧ (∀ p, p < dtl d → w.1 90 p = dtx d p) ∧ DG d
section DTA
variable {L1 L2 : List Nat} {T : Nat → Int32} {L N : Nat} {v u w x : MS} {fa fp pa pb pc1 r : Int32} {d : DT}
theorem KD.fr (h : KD L1 L2 fa fp d v) (e : ∀ k ∈ [396, 397, 375, 377, 373], u.1 0 k = v.1 0 k) (e2 : u.1 372 = v.1 372) (rs : RS0 v u) : KD L1 L2 fa fp d u := by
  obtain ⟨⟨h1, h2⟩, ⟨h3, h4⟩, h5, h6, h7, h8, h9⟩ := h
  refine ⟨⟨(e 396 (by decide)).trans h1, (e 397 (by decide)).trans h2⟩, ⟨?_, ?_⟩, fun f j hf hj => ?_, fun g j hg hj => ?_, ?_, fun p hp => ?_, h9⟩
  · rw [e 375 (by decide)]; exact h3
  · rw [e 377 (by decide)]; exact h4
  · exact (congrFun (rs _ (Nat.le_add_right _ _)) j).trans (h5 f j hf hj)
  · exact (congrFun (rs _ (Nat.le_add_right _ _)) j).trans (h6 g j hg hj)
  · rw [e 373 (by decide)]; exact h7
  · exact (congrFun e2 p).trans (h8 p hp)
theorem MD.fr (h : MD fa fp d w) (e : ∀ k ∈ [91, 92, 73, 74, 75], u.1 0 k = w.1 0 k) (e2 : ∀ a ∈ [78, 79, 80, 83, 84, 85, 86, 87, 88, 89, 90], u.1 a = w.1 a) : MD fa fp d u := by
  unfold MD
  rw [e 91 (by decide), e 92 (by decide), e 73 (by decide), e 74 (by decide), e 75 (by decide), e2 78 (by decide), e2 79 (by decide), e2 80 (by decide), e2 83 (by decide), e2 84 (by decide), e2 85 (by decide), e2 86 (by decide), e2 87 (by decide), e2 88 (by decide), e2 89 (by decide), e2 90 (by decide)]
  exact h
theorem KD.ld (h1 : u.1 0 396 = fa) (h2 : u.1 0 397 = fp) (h3 : (u.1 0 373).toInt = L) (h4 : ∀ p, p < L → u.1 372 p = T p) (g : DG (dC L1 L2 T L u)) : KD L1 L2 fa fp (dC L1 L2 T L u) u :=
  ⟨⟨h1, h2⟩, ⟨rfl, rfl⟩, fun f j hf hj => by
    show _ = if (f : Int) < (u.1 0 375).toInt then (if j < 4 then rF L1 u f j else _) else 0
    rw [if_pos (show (f : Int) < (u.1 0 375).toInt from hf), if_pos hj], fun f j hf hj => by
    show _ = if (f : Int) < (u.1 0 377).toInt then (if j < 4 then rF L2 u f j else _) else 0
    rw [if_pos (show (f : Int) < (u.1 0 377).toInt from hf), if_pos hj], h3, h4, g⟩
theorem MD.ld (h1 : u.1 0 91 = fa) (h2 : u.1 0 92 = fp) (h4 : ∀ p, p < L → u.1 90 p = T p) (g : DG (dM T L u)) : MD fa fp (dM T L u) u :=
  ⟨⟨h1, h2⟩, ⟨rfl, rfl⟩, fun f hf => ⟨(if_pos hf).symm, (if_pos hf).symm, (if_pos hf).symm, (if_pos hf).symm, (if_pos hf).symm⟩, fun f hf => ⟨(if_pos hf).symm, (if_pos hf).symm, (if_pos hf).symm, (if_pos hf).symm, (if_pos hf).symm⟩, h4, g⟩
/-! answers -/
def faA (fa fp pa : Int32) : Int32 := if pa = 0 then fa else if pa = 1 then fp else -1
def fcA (n : Int) (t : Nat → Nat → Int32) (pa pb : Int32) : Int32 := if 0 ≤ pa.toInt ∧ pa.toInt < n ∧ 0 ≤ pb.toInt ∧ pb.toInt ≤ 3 then t pa.toNatClampNeg pb.toNatClampNeg else -1
def stA (d : DT) (pa : Int32) : Int32 := if 0 ≤ pa.toInt ∧ pa.toInt < dnf d ∧ (dft d pa.toNatClampNeg 0).toInt ≠ -1 ∧ (dft d pa.toNatClampNeg 0).toInt ≤ 2 then 1 else 0
theorem kdFault (h : KD L1 L2 fa fp d v) (q : Q_x_X11_fault L1 L2 v pa r) : r = faA fa fp pa := by
  obtain ⟨⟨h1, h2⟩, -⟩ := h
  unfold faA
  rcases q with ⟨c, e⟩ | ⟨c, ⟨c2, e⟩ | ⟨c2, e⟩⟩
  · rw [if_pos c, e, h1]
  · rw [if_neg c, if_pos c2, e, h2]
  · rw [if_neg c, if_neg c2, e]
theorem mdFault (h : MD fa fp d w) (q : Q_m_fault w pa r u) : r = faA fa fp pa := by
  obtain ⟨⟨h1, h2⟩, -⟩ := h
  have i0 : ∀ {a b : Int32}, a.toInt = b.toInt → a = b := fun q => Int32.toInt_inj.mp q
  unfold faA
  rcases q with ⟨c, ⟨c2, e, -⟩ | ⟨c2, e, -⟩⟩ | ⟨c, e, -⟩
  · rw [if_neg (fun q => c (by rw [q]; decide)), if_neg (fun q => c2 (by rw [q]; decide)), e]
  · rw [if_neg (fun q => c (by rw [q]; decide)), if_pos (i0 (c2.trans (by decide))), e, h2]
  · rw [if_pos (i0 (c.trans (by decide))), e, h1]
theorem fc_no {n : Int} {t : Nat → Nat → Int32} (h : pa.toInt < 0 ∨ n ≤ pa.toInt ∨ pb.toInt < 0 ∨ 3 < pb.toInt) : fcA n t pa pb = -1 := if_neg (by omega)
theorem fc_ok {n : Int} {t : Nat → Nat → Int32} (h1 : 0 ≤ pa.toInt) (h2 : pa.toInt < n) (h3 : 0 ≤ pb.toInt) (h4 : pb.toInt ≤ 3) : fcA n t pa pb = t pa.toNatClampNeg pb.toNatClampNeg := if_pos ⟨h1, h2, h3, h4⟩
theorem kdFact (h : KD L1 L2 fa fp d v) (h3 : 0 ≤ pb.toInt ∧ pb.toInt ≤ 3) (q : Q_x_X7_functionFact L1 L2 v pa pb r) : r = fcA (dnf d) (dft d) pa pb := by
  obtain ⟨-, ⟨e1, -⟩, h5, -, -, -, g⟩ := h
  rcases q with ⟨c, e⟩ | ⟨c, ⟨c1, e⟩ | ⟨c1, ⟨c2, ⟨c3, e⟩ | ⟨c3, ⟨c4, e⟩ | ⟨c4, e⟩⟩⟩ | ⟨c2, e⟩⟩⟩
  · rw [e, fc_no (Or.inl c)]
  · rw [e, fc_no (Or.inr (Or.inl (by omega)))]
  · omega
  · omega
  · have np := natI c
    have nb := natI c3
    rw [e, fc_ok c (by omega) h3.1 h3.2]
    exact h5 _ _ (by omega) (by omega)
  · have := g.1
    omega
theorem kdFun (h : KD L1 L2 fa fp d v) (q : Q_x_X11_function L1 L2 v pa pb r) : r = fcA (dnf d) (dft d) pa pb := by
  rcases q with ⟨c, e⟩ | ⟨c, ⟨c1, e⟩ | ⟨c1, r9, q, -, e⟩⟩
  · rw [e, fc_no (by omega)]
  · rw [e, fc_no (by omega)]
  · rw [e]
    exact kdFact h ⟨c, c1⟩ q
theorem kdGFact (h : KD L1 L2 fa fp d v) (h3 : 0 ≤ pb.toInt ∧ pb.toInt ≤ 3) (q : Q_x_X7_globalFact L1 L2 v pa pb r) : r = fcA (dng d) (dgl d) pa pb := by
  obtain ⟨-, ⟨-, e1⟩, -, h5, -, -, g⟩ := h
  rcases q with ⟨c, e⟩ | ⟨c, ⟨c1, e⟩ | ⟨c1, ⟨c2, ⟨c3, e⟩ | ⟨c3, ⟨c4, e⟩ | ⟨c4, e⟩⟩⟩ | ⟨c2, e⟩⟩⟩
  · rw [e, fc_no (Or.inl c)]
  · rw [e, fc_no (Or.inr (Or.inl (by omega)))]
  · omega
  · omega
  · have np := natI c
    have nb := natI c3
    rw [e, fc_ok c (by omega) h3.1 h3.2]
    exact h5 _ _ (by omega) (by omega)
  · have := g.2.1
    omega
theorem kdGlob (h : KD L1 L2 fa fp d v) (q : Q_x_X11_global L1 L2 v pa pb r) : r = fcA (dng d) (dgl d) pa pb := by
  rcases q with ⟨c, e⟩ | ⟨c, ⟨c1, e⟩ | ⟨c1, r9, q, -, e⟩⟩
  · rw [e, fc_no (by omega)]
  · rw [e, fc_no (by omega)]
  · rw [e]
    exact kdGFact h ⟨c, c1⟩ q
theorem natC {k : Int32} {n : Nat} (h : k.toInt = n) : k.toNatClampNeg = n := by
  have := natI (a := k) (by omega)
  omega
theorem mdFun (h : MD fa fp d w) (q : Q_m_function w pa pb r u) : r = fcA (dnf d) (dft d) pa pb := by
  obtain ⟨-, ⟨e1, -⟩, h5, -, -, g⟩ := h
  obtain ⟨-, q⟩ := q
  rcases q with ⟨c, e, -⟩ | ⟨c, ⟨c1, q⟩ | ⟨c1, e, -⟩⟩
  · rw [e, fc_no (Or.inl c)]
  · have np := natI c
    have A := h5 pa.toNatClampNeg (by omega)
    rcases q with ⟨b0, ⟨b1, ⟨b2, ⟨b3, e, -⟩ | ⟨b3, e, -⟩⟩ | ⟨b2, e, -⟩⟩ | ⟨b1, e, -⟩⟩ | ⟨b0, e, -⟩
    · rw [e, fc_no (by omega)]
    · rw [e, fc_ok c (by omega) (by omega) (by omega), natC (n := 3) b3]
      exact A.2.2.2.1
    · rw [e, fc_ok c (by omega) (by omega) (by omega), natC (n := 2) b2]
      exact A.2.2.1
    · rw [e, fc_ok c (by omega) (by omega) (by omega), natC (n := 1) b1]
      exact A.2.1
    · rw [e, fc_ok c (by omega) (by omega) (by omega), natC (n := 0) b0]
      exact A.1
  · rw [e, fc_no (by omega)]
theorem mdGlob (h : MD fa fp d w) (q : Q_m_global w pa pb r u) : r = fcA (dng d) (dgl d) pa pb := by
  obtain ⟨-, ⟨-, e1⟩, -, h5, -, g⟩ := h
  obtain ⟨-, q⟩ := q
  rcases q with ⟨c, e, -⟩ | ⟨c, ⟨c1, q⟩ | ⟨c1, e, -⟩⟩
  · rw [e, fc_no (Or.inl c)]
  · have np := natI c
    have A := h5 pa.toNatClampNeg (by omega)
    have G := (g.2.2.2.1 pa.toNatClampNeg (by omega)).2
    rcases q with ⟨b0, ⟨b1, ⟨b2, ⟨b3, e, -⟩ | ⟨b3, e, -⟩⟩ | ⟨b2, q⟩⟩ | ⟨b1, e, -⟩⟩ | ⟨b0, e, -⟩
    · rw [e, fc_no (by omega)]
    · rw [e, fc_ok c (by omega) (by omega) (by omega), natC (n := 3) b3]
      exact A.2.2.2.1
    · rw [fc_ok c (by omega) (by omega) (by omega), natC (n := 2) b2]
      rw [A.2.2.1] at q
      rcases q with ⟨c9, e, -⟩ | ⟨c9, e, -⟩
      · rw [e]
        exact Int32.toInt_inj.mp (by rw [c9]; decide)
      · rw [e]
        rcases G with G | G
        · rw [G] at c9
          exact absurd (by decide) c9
        · exact G.symm
    · rw [e, fc_ok c (by omega) (by omega) (by omega), natC (n := 1) b1]
      exact A.2.1
    · rw [e, fc_ok c (by omega) (by omega) (by omega), natC (n := 0) b0]
      exact A.1
  · rw [e, fc_no (by omega)]
theorem kdStart (h : KD L1 L2 fa fp d v) (q : Q_x_X11_start L1 L2 v pa pb pc1 r u) : r = stA d pa := by
  obtain ⟨-, r3, q3, -, q⟩ := q
  have e3 := kdFact h (by decide) q3
  have z0 : (0 : Int32).toNatClampNeg = 0 := by decide
  have m1 : (-1 : Int32).toInt = -1 := by decide
  unfold stA
  by_cases c : 0 ≤ pa.toInt ∧ pa.toInt < dnf d
  · rw [fc_ok c.1 c.2 (by decide) (by decide), z0] at e3
    rw [← e3]
    rcases q with ⟨a, e, -⟩ | ⟨a, ⟨b, -, -, -, -, -, e, -⟩ | ⟨b, e, -⟩⟩
    · rw [e, if_neg (by omega)]
    · rw [e, if_pos (by omega)]
    · rw [e, if_neg (by omega)]
  · rw [fc_no (by omega)] at e3
    rw [if_neg (by omega)]
    rcases q with ⟨a, e, -⟩ | ⟨a, -⟩
    · exact e
    · rw [e3] at a
      exact absurd m1 a
theorem mdStart (h : MD fa fp d w) (a78 : AR 78 0 8 w) (q : Q_m_start w pa pb pc1 N r u) : r = stA d pa := by
  obtain ⟨-, ⟨e1, -⟩, h5, -⟩ := h
  obtain ⟨-, -, q⟩ := q
  unfold stA
  rcases q with ⟨c, e, -⟩ | ⟨c, ⟨c1, e, -⟩ | ⟨c1, q⟩⟩
  · rw [e, if_neg (by omega)]
  · rw [e, if_neg (by omega)]
  · have np := natI c
    have A := (h5 pa.toNatClampNeg (by omega)).1
    have B := a78 pa.toNatClampNeg
    rw [← A]
    rcases q with ⟨b, q⟩ | ⟨b, e, -⟩
    · obtain ⟨-, -, -, -, -, -, -, -, -, -, e, -⟩ := q
      rw [e, if_pos (by omega)]
    · rw [e, if_neg (by omega)]
end DTA
