/-! work, from its beginning to its end, in both (written by gym.py) -/
section YMW
variable {g : GC} {N : Nat} {ng lim : Int} {L1 L2 : List Nat} {K : TK} {fn : Nat → Int32} {v0 w0 : MS} {v w u um : MS} {c n : Nat} {pa pb pc1 pd r rm : Int32}
theorem AG.rf : AG v v := ⟨fun _ _ => rfl, fun _ _ => rfl⟩
theorem AGM.rf : AGM w w := ⟨fun _ _ => rfl, fun _ _ => rfl⟩
theorem AGM.fg {fl al : List Nat} (A : AGM w0 w) (h : FG fl al w u) (hf : ∀ k, k ∈ fl → k ∈ [106, 110, 111, 112, 113, 115, 116, 119, 120, 121]) (ha : ∀ a, a ∈ al → a ∈ [0, 105, 107, 108, 109, 117, 118]) : AGM w0 u := ⟨fun k hk => (h.2.1 k (fun z => hk (hf k z))).trans (A.1 k hk), fun a hk => (h.2.2 a (fun z => hk (ha a z))).trans (A.2 a hk)⟩
theorem AGM.sf (A : AGM w0 w) {k : Nat} {x : Int32} (hk : k ∈ [106, 110, 111, 112, 113, 115, 116, 119, 120, 121]) : AGM w0 (wA w 0 k x) := by
  refine ⟨fun k9 h9 => ?_, fun a9 ha => ?_⟩
  · have : k9 ≠ k := fun z => h9 (by rw [z]; exact hk)
    show upd (w.1 0) k x k9 = _
    rw [updN_ this]
    exact A.1 k9 h9
  · have : a9 ≠ 0 := fun z => ha (by rw [z]; decide)
    show (if a9 = 0 then _ else w.1 a9) = _
    rw [if_neg this]
    exact A.2 a9 ha
theorem AGM.sa (A : AGM w0 w) {a j : Nat} {x : Int32} (h0 : a ≠ 0) (hk : a ∈ [0, 105, 107, 108, 109, 117, 118]) : AGM w0 (wA w a j x) := by
  refine ⟨fun k9 h9 => ?_, fun a9 ha => ?_⟩
  · show (if 0 = a then _ else w.1 0) k9 = _
    rw [if_neg (fun z => h0 z.symm)]
    exact A.1 k9 h9
  · have : a9 ≠ a := fun z => ha (by rw [z]; exact hk)
    show (if a9 = a then _ else w.1 a9) = _
    rw [if_neg this]
    exact A.2 a9 ha
/-- what begin leaves in the class -/
def BGc (N : Nat) (v0 : MS) : Prop := (v0.1 0 362 = -1 ∧ v0.1 0 365 = 0 ∧ v0.1 0 366 = 0) ∧ (v0.1 0 368 = 0 ∧ v0.1 0 369 = 0 ∧ v0.1 0 370 = 0 ∧ v0.1 0 371 = 0) ∧ ∀ j : Nat, j < N → v0.1 359 j = 0
/-- what stands in the reference before a function is entered -/
def BGm (w0 : MS) : Prop := (w0.1 0 110 = 0 ∧ w0.1 0 111 = 0 ∧ w0.1 0 112 = 0 ∧ w0.1 0 115 = 0) ∧ (w0.1 0 113 = 0 ∧ w0.1 0 116 = 0 ∧ w0.1 0 119 = 0 ∧ w0.1 0 120 = 0) ∧ (0 ≤ (w0.1 0 114).toInt ∧ (w0.1 0 114).toInt ≤ 20000) ∧ ∀ j : Nat, (j : Int) < (w0.1 0 76).toInt → w0.1 117 j = 0
/-- the arguments lie on the pile -/
def ARm (w0 W : MS) (n : Nat) (pb pc1 : Int32) : Prop := AGM w0 W ∧ (∀ k, k ≠ 106 → W.1 0 k = w0.1 0 k) ∧ (∀ a, a ≠ 0 → a ≠ 105 → W.1 a = w0.1 a) ∧ (W.1 0 106).toInt = n ∧ n ≤ 2 ∧ (1 ≤ n → W.1 105 0 = pb) ∧ (2 ≤ n → W.1 105 1 = pc1)
/-- the arguments lie in their slots -/
def ARc (u5 u1 : MS) (n : Nat) (pb pc1 : Int32) : Prop := (∀ k, u1.1 0 k = u5.1 0 k) ∧ (∀ a, a ≠ 0 → a ≠ 358 → u1.1 a = u5.1 a) ∧ (∀ j, j < 2 → u1.1 358 j = u5.1 358 j) ∧ ((u5.1 0 362).toInt = -1 → (1 ≤ n → u1.1 358 2 = pb) ∧ (2 ≤ n → u1.1 358 3 = pc1))
theorem cPerf (G : FUN g L1 v0 w0) (hN : N ≤ 4096) (hN4 : 4 ≤ N) (h0 : pa.toInt = c) (h1 : (c : Int) < (w0.1 0 74).toInt) (hn : (w0.1 78 c).toInt = n) (h65 : ∀ u5, Q_x_X10_enter L1 L2 N v0 pa (-1) u5 → (u5.1 0 362).toInt = -1 → (u5.1 0 365).toInt = (0 : Nat)) (h : Q_x_X10_perform L1 L2 N v0 pa pb pc1 r u) : ∃ u5 u1 k9, Q_x_X10_enter L1 L2 N v0 pa (-1) u5 ∧ ARc u5 u1 n pb pc1 ∧ ((u5.1 0 362).toInt ≠ -1 → u1 = u5) ∧ RT (RCp L1 L2 N v0) (0, u1) (k9, u) ∧ (1000000000 ≤ k9.toInt ∨ (u.1 0 362).toInt ≠ -1) ∧ r = u.1 0 362 := by
  obtain ⟨-, -, -, r3, f3, -, u5, e5, -, h⟩ := h
  have f3 := ffR AG.rf G h0 h1 (by decide) f3
  have f3 : r3 = w0.1 78 c := f3.trans (G.2 c h1).2.1.1
  have n3 : r3.toInt = n := by rw [f3]; exact hn
  have E := h65 u5 e5
  have fin : ∀ {R : Int32 × MS → Int32 × MS → Prop} {u1 : MS}, ARc u5 u1 n pb pc1 → ((u5.1 0 362).toInt ≠ -1 → u1 = u5) → (∀ x y, R x y → RCp L1 L2 N v0 x y) → (∃ ka w59, RT R (0, u1) (ka, w59) ∧ ((1000000000 ≤ ka.toInt ∧ r = w59.1 0 362 ∧ u = w59) ∨ (ka.toInt < 1000000000 ∧ (w59.1 0 362).toInt ≠ -1 ∧ r = w59.1 0 362 ∧ u = w59))) → ∃ u5 u1 k9, Q_x_X10_enter L1 L2 N v0 pa (-1) u5 ∧ ARc u5 u1 n pb pc1 ∧ ((u5.1 0 362).toInt ≠ -1 → u1 = u5) ∧ RT (RCp L1 L2 N v0) (0, u1) (k9, u) ∧ (1000000000 ≤ k9.toInt ∨ (u.1 0 362).toInt ≠ -1) ∧ r = u.1 0 362 := by
    intro R u1 a1 a2 a3 ⟨k9, w59, hr, h⟩
    rcases h with ⟨z1, z2, z3⟩ | ⟨z1, z2, z3, z4⟩
    · rw [z3]
      exact ⟨u5, u1, k9, e5, a1, a2, hr.mn a3, Or.inl z1, z2⟩
    · rw [z4]
      exact ⟨u5, u1, k9, e5, a1, a2, hr.mn a3, Or.inr z2, z3⟩
  have same : n = 0 ∨ (u5.1 0 362).toInt ≠ -1 → ARc u5 u5 n pb pc1 := fun hz => ⟨fun _ => rfl, fun _ _ _ => rfl, fun _ _ => rfl, fun z => ⟨fun q => by omega, fun q => by omega⟩⟩
  have LL0 : ∀ x y, Q_x_X10_perform_L0 L1 L2 N v0 x y → RCp L1 L2 N v0 x y := fun x y hq => by
    obtain ⟨q1, q2, -, q3, q4, q5, u9, q6, -, q7⟩ := hq
    exact ⟨AG.rf.fc q1 q3 (by decide) (by decide), ⟨q4, q2⟩, q5, u9, q6, q7⟩
  have LL1 : ∀ x y, Q_x_X10_perform_L1 L1 L2 N v0 x y → RCp L1 L2 N v0 x y := fun x y hq => by
    obtain ⟨q1, q2, -, q3, q4, q5, u9, q6, -, q7⟩ := hq
    exact ⟨AG.rf.fc q1 q3 (by decide) (by decide), ⟨q4, q2⟩, q5, u9, q6, q7⟩
  have LL2 : ∀ x y, Q_x_X10_perform_L2 L1 L2 N v0 x y → RCp L1 L2 N v0 x y := fun x y hq => by
    obtain ⟨q1, q2, -, q3, q4, q5, u9, q6, -, q7⟩ := hq
    exact ⟨AG.rf.fc q1 q3 (by decide) (by decide), ⟨q4, q2⟩, q5, u9, q6, q7⟩
  have LL3 : ∀ x y, Q_x_X10_perform_L3 L1 L2 N v0 x y → RCp L1 L2 N v0 x y := fun x y hq => by
    obtain ⟨q1, q2, -, q3, q4, q5, u9, q6, -, q7⟩ := hq
    exact ⟨AG.rf.fc q1 q3 (by decide) (by decide), ⟨q4, q2⟩, q5, u9, q6, q7⟩
  have LL4 : ∀ x y, Q_x_X10_perform_L4 L1 L2 N v0 x y → RCp L1 L2 N v0 x y := fun x y hq => by
    obtain ⟨q1, q2, -, q3, q4, q5, u9, q6, -, q7⟩ := hq
    exact ⟨AG.rf.fc q1 q3 (by decide) (by decide), ⟨q4, q2⟩, q5, u9, q6, q7⟩
  rcases h with ⟨c1, -, ka, w59, hr, -, -, -, -, h⟩ | ⟨c1, ⟨c2, -, -, ka, w59, hr, -, -, -, -, h⟩ | ⟨c2, u49, e49, -, h⟩⟩
  · exact fin (same (Or.inr c1)) (fun _ => rfl) LL0 ⟨ka, w59, hr, h⟩
  · exact fin (same (Or.inl (by omega))) (fun _ => rfl) LL1 ⟨ka, w59, hr, h⟩
  · have B0 := E c1
    have e49 := slW (sl := 0) B0 (by decide) hN (by omega) e49
    have e49 : u49 = wA u5 358 2 pb := e49
    have g62 : u49.1 0 362 = u5.1 0 362 := by rw [e49]; rfl
    rcases h with ⟨c3, -⟩ | ⟨-, ⟨c4, ka, w59, hr, -, -, -, -, h⟩ | ⟨c4, u86, e86, -, ka, w59, hr, -, -, -, -, h⟩⟩
    · rw [g62] at c3
      exact absurd c1 c3
    · refine fin (u1 := u49) ?_ (fun z => absurd c1 z) LL3 ⟨ka, w59, hr, h⟩
      rw [e49]
      refine ⟨fun _ => rfl, fun a h0 h5 => ?_, fun j hj => ?_, fun _ => ⟨fun _ => ?_, fun z => by omega⟩⟩
      · show (if a = 358 then _ else u5.1 a) = _
        rw [if_neg h5]
      · show upd (u5.1 358) 2 pb j = _
        rw [updN_ (by omega)]
      · show upd (u5.1 358) 2 pb 2 = _
        rw [updS]
    · have e86 := slW (B := 0) (sl := 1) (show (u49.1 0 365).toInt = (0 : Nat) by rw [e49]; exact B0) (by decide) hN (by omega) e86
      have e86 : u86 = wA u49 358 3 pc1 := e86
      refine fin (u1 := u86) ?_ (fun z => absurd c1 z) LL4 ⟨ka, w59, hr, h⟩
      rw [e86, e49]
      refine ⟨fun _ => rfl, fun a h0 h5 => ?_, fun j hj => ?_, fun _ => ⟨fun _ => ?_, fun _ => ?_⟩⟩
      · show (if a = 358 then _ else if a = 358 then _ else u5.1 a) = _
        rw [if_neg h5, if_neg h5]
      · show upd (upd (u5.1 358) 2 pb) 3 pc1 j = _
        rw [updN_ (by omega), updN_ (by omega)]
      · show upd (upd (u5.1 358) 2 pb) 3 pc1 2 = _
        rw [updN_ (by decide), updS]
      · show upd (upd (u5.1 358) 2 pb) 3 pc1 3 = _
        rw [updS]
/-- what is told of it afterwards -/
def WEm (w9 um : MS) : Prop := um.1 0 121 = w9.1 0 121 ∧ um.1 0 122 = (if w9.1 0 121 = 0 then w9.1 105 (w9.1 0 106 - 1).toNatClampNeg else 0) ∧ um.1 0 123 = 1 ∧ (∀ k, k ≠ 106 → k ≠ 122 → k ≠ 123 → um.1 0 k = w9.1 0 k) ∧ ∀ a, a ≠ 0 → um.1 a = w9.1 a
theorem mWork (h0 : pa.toInt = c) (h1 : (c : Int) < (w.1 0 74).toInt) (hn : (w.1 78 c).toInt = n) (hn2 : n ≤ 2) (hd : 0 ≤ pd.toInt ∧ pd.toInt ≤ 20000) (h : Q_m_work w pa pb pc1 pd N rm um) : ∃ w0 W r0 u0 w9, (BGm w0 ∧ w0.1 0 114 = pd ∧ (∀ k, k ∉ [0, 106, 110, 111, 112, 113, 114, 115, 116, 119, 120] → w0.1 0 k = w.1 0 k) ∧ ∀ a, a ≠ 0 → a ≠ 117 → w0.1 a = w.1 a) ∧ ARm w0 W n pb pc1 ∧ Q_m_enter W pa N r0 u0 ∧ AGM w0 u0 ∧ RT (RMp N w0) (wA u0 0 121 r0) w9 ∧ (w9.1 0 121).toInt ≠ -1 ∧ AGM w0 w9 ∧ rm = w9.1 0 121 ∧ WEm w9 um := by
  have nc : pa.toNatClampNeg = c := natC h0
  have e0 : (0 : Int32).toInt = 0 := by decide
  obtain ⟨-, -, -, -, -, h⟩ := h
  rw [nc] at h
  rcases h with ⟨q, -⟩ | ⟨-, ⟨-, ⟨q, -⟩ | ⟨-, ⟨q, -⟩ | ⟨-, ⟨-, ka, w0, hr, fg, hb, hk, h⟩ | ⟨q, -⟩⟩⟩⟩ | ⟨q, -⟩⟩
  · omega
  · omega
  · omega
  · obtain ⟨W0, hW⟩ : ∃ W0, W0 = (wA (wA (wA (wA (wA (wA (wA (wA (wA (wA (wA w 0 0 0) 0 106 0) 0 110 0) 0 111 0) 0 112 0) 0 113 0) 0 114 pd) 0 115 0) 0 116 0) 0 119 0) 0 120 0) := ⟨_, rfl⟩
    rw [← hW] at hr fg
    have z : ∀ j : Nat, (j : Int) < ka.toInt → w0.1 117 j = 0 := by
      have iv : 0 ≤ ka.toInt ∧ ∀ j : Nat, (j : Int) < ka.toInt → w0.1 117 j = 0 := by
        refine RT.ind (fun (y : Int32 × MS) => 0 ≤ y.1.toInt ∧ ∀ j : Nat, (j : Int) < y.1.toInt → y.2.1 117 j = 0) hr ⟨by show 0 ≤ (0 : Int32).toInt; omega, fun j hj => absurd (show (j : Int) < (0 : Int32).toInt from hj) (by omega)⟩ ?_
        rintro ⟨a1, a2⟩ b9 _ ⟨g0, g1⟩ hb9
        obtain ⟨-, ⟨b1, b2⟩, b3, rfl⟩ := hb9
        have g0 : 0 ≤ a1.toInt := g0
        have b3 : a1.toInt < (a2.1 0 76).toInt := b3
        have l := Int32.toInt_lt (a2.1 0 76)
        have ea : (a1 + 1).toInt = a1.toInt + 1 := add_z rfl (by decide) (by omega) (by omega)
        have na := natI g0
        refine ⟨by show 0 ≤ (a1 + 1).toInt; omega, fun j hj => ?_⟩
        have hj : (j : Int) < (a1 + 1).toInt := hj
        show upd (a2.1 117) a1.toNatClampNeg 0 j = 0
        by_cases e : j = a1.toNatClampNeg
        · rw [e, updS]
        · rw [updN_ e]
          exact g1 j (by show (j : Int) < a1.toInt; omega)
      exact iv.2
    have f : ∀ k, w0.1 0 k = W0.1 0 k := fun k => fg.2.1 k (fun q => nomatch q)
    have ar : ∀ a, a ≠ 0 → a ≠ 117 → w0.1 a = w.1 a := fun a h0 h7 => by
      rw [fg.2.2 a (by simp only [List.mem_cons, List.not_mem_nil, or_false]; exact h7), hW]
      show (if a = 0 then _ else if a = 0 then _ else if a = 0 then _ else if a = 0 then _ else if a = 0 then _ else if a = 0 then _ else if a = 0 then _ else if a = 0 then _ else if a = 0 then _ else if a = 0 then _ else if a = 0 then _ else w.1 a) = w.1 a
      simp only [if_neg h0]
    have fl : ∀ k, k ∉ [0, 106, 110, 111, 112, 113, 114, 115, 116, 119, 120] → w0.1 0 k = w.1 0 k := fun k hk => by
      simp only [List.mem_cons, List.not_mem_nil, or_false, not_or] at hk
      rw [f, hW]
      show upd (upd (upd (upd (upd (upd (upd (upd (upd (upd (upd (w.1 0) 0 0) 106 0) 110 0) 111 0) 112 0) 113 0) 114 pd) 115 0) 116 0) 119 0) 120 0 k = _
      rw [updN_ (by omega), updN_ (by omega), updN_ (by omega), updN_ (by omega), updN_ (by omega), updN_ (by omega), updN_ (by omega), updN_ (by omega), updN_ (by omega), updN_ (by omega), updN_ (by omega)]
    have B : BGm w0 ∧ w0.1 0 114 = pd ∧ (∀ k, k ∉ [0, 106, 110, 111, 112, 113, 114, 115, 116, 119, 120] → w0.1 0 k = w.1 0 k) ∧ ∀ a, a ≠ 0 → a ≠ 117 → w0.1 a = w.1 a := by
      have d4 : w0.1 0 114 = pd := by rw [f, hW]; rfl
      refine ⟨⟨⟨by rw [f, hW]; rfl, by rw [f, hW]; rfl, by rw [f, hW]; rfl, by rw [f, hW]; rfl⟩, ⟨by rw [f, hW]; rfl, by rw [f, hW]; rfl, by rw [f, hW]; rfl, by rw [f, hW]; rfl⟩, by rw [d4]; exact hd, fun j hj => z j (by omega)⟩, d4, fl, ar⟩
    have p6 : w0.1 0 106 = 0 := by rw [f, hW]; rfl
    have n6 : (w0.1 0 106).toNatClampNeg = 0 := by rw [p6]; rfl
    have i1 : w0.1 0 106 + 1 = 1 := by rw [p6]; rfl
    have e78 : w0.1 78 = w.1 78 := ar 78 (by decide) (by decide)
    rw [e78, hn, i1, n6] at h
    have fin : ∀ {R : MS → MS → Prop} {W u0 : MS} {r0 : Int32}, ARm w0 W n pb pc1 → Q_m_enter W pa N r0 u0 → K_m_enter W pa r0 u0 → (∀ x y, R x y → FG [106, 110, 111, 112, 113, 115, 116, 119, 120, 121] [0, 105, 107, 108, 109, 117, 118] (wA u0 0 121 r0) x ∧ (∃ (T9 : Nat → Nat → TT) (E9 : Nat → Nat) (h9 : Nat → Int), OBW T9 E9 h9 x) ∧ (x.1 0 121).toInt = -1 ∧ ∃ r u, Q_m_obey x N r u ∧ y = wA u 0 121 r) → (∃ w172 : MS, RT R (wA u0 0 121 r0) w172 ∧ FG [106, 110, 111, 112, 113, 115, 116, 119, 120, 121] [0, 105, 107, 108, 109, 117, 118] (wA u0 0 121 r0) w172 ∧ (w172.1 0 121).toInt ≠ -1 ∧ (((w172.1 0 121).toInt ≠ 0 ∧ rm = w172.1 0 121 ∧ um = wA (wA w172 0 122 0) 0 123 1) ∨ ((w172.1 0 121).toInt = 0 ∧ rm = w172.1 0 121 ∧ um = wA (wA (wA w172 0 106 (w172.1 0 106 - 1)) 0 122 (w172.1 105 (w172.1 0 106 - 1).toNatClampNeg)) 0 123 1))) → ∃ w0 W r0 u0 w9, (BGm w0 ∧ w0.1 0 114 = pd ∧ (∀ k, k ∉ [0, 106, 110, 111, 112, 113, 114, 115, 116, 119, 120] → w0.1 0 k = w.1 0 k) ∧ ∀ a, a ≠ 0 → a ≠ 117 → w0.1 a = w.1 a) ∧ ARm w0 W n pb pc1 ∧ Q_m_enter W pa N r0 u0 ∧ AGM w0 u0 ∧ RT (RMp N w0) (wA u0 0 121 r0) w9 ∧ (w9.1 0 121).toInt ≠ -1 ∧ AGM w0 w9 ∧ rm = w9.1 0 121 ∧ WEm w9 um := by
      intro R W u0 r0 a1 a2 a3 a4 ⟨w9, hr9, fg9, hne, h9⟩
      have A0 : AGM w0 u0 := a1.1.fg a3 (by decide) (by decide)
      have A1 : AGM w0 (wA u0 0 121 r0) := A0.sf (k := 121) (by decide)
      refine ⟨w0, W, r0, u0, w9, B, a1, a2, A0, hr9.mn (fun x y hq => ?_), hne, A1.fg fg9 (by decide) (by decide), ?_, ?_⟩
      · obtain ⟨q1, ⟨T, E, hh, q2⟩, q3, q4⟩ := a4 x y hq
        exact ⟨A1.fg q1 (by decide) (by decide), ⟨T, E, hh, OBW.mi q2 q3⟩, q3, q4⟩
      · rcases h9 with ⟨-, z, -⟩ | ⟨-, z, -⟩ <;> exact z
      · rcases h9 with ⟨z0, -, z⟩ | ⟨z0, -, z⟩
        · rw [z]
          refine ⟨rfl, ?_, rfl, fun k k1 k2 k3 => ?_, fun a ha => ?_⟩
          · rw [if_neg (fun q => z0 (by rw [q]; decide))]
            rfl
          · show upd (upd (w9.1 0) 122 0) 123 1 k = _
            rw [updN_ k3, updN_ k2]
          · show (if a = 0 then _ else if a = 0 then _ else w9.1 a) = _
            rw [if_neg ha, if_neg ha]
        · rw [z]
          have q : w9.1 0 121 = 0 := Int32.toInt_inj.mp (z0.trans (by decide))
          refine ⟨rfl, ?_, rfl, fun k k1 k2 k3 => ?_, fun a ha => ?_⟩
          · rw [if_pos q]
            rfl
          · show upd (upd (upd (w9.1 0) 106 _) 122 _) 123 1 k = _
            rw [updN_ k3, updN_ k2, updN_ k1]
          · show (if a = 0 then _ else if a = 0 then _ else if a = 0 then _ else w9.1 a) = _
            rw [if_neg ha, if_neg ha, if_neg ha]
    rcases h with ⟨c1, -, r0, u0, e0', k0, w9, hr9, fg9, -, hne, h9⟩ | ⟨c1, ⟨c2, r0, u0, e0', k0, w9, hr9, fg9, -, hne, h9⟩ | ⟨c2, r0, u0, e0', k0, w9, hr9, fg9, -, hne, h9⟩⟩
    · refine fin (R := Q_m_work_L1 N r0 u0) ⟨AGM.rf, fun _ _ => rfl, fun _ _ _ => rfl, by rw [p6]; omega, hn2, fun q => by omega, fun q => by omega⟩ e0' k0 (fun x y hq => by obtain ⟨q1, q2, q3, r9, u9, q4, -, q5⟩ := hq; exact ⟨q1, q2, q3, r9, u9, q4, q5⟩) ⟨w9, hr9, fg9, hne, h9⟩
    · refine fin (R := Q_m_work_L2 N r0 u0) ⟨AGM.sf (k := 106) (AGM.sa (a := 105) AGM.rf (by decide) (by decide)) (by decide), fun k hk => ?_, fun a h0 h5 => ?_, ?_, hn2, fun _ => ?_, fun q => by omega⟩ e0' k0 (fun x y hq => by obtain ⟨q1, q2, q3, r9, u9, q4, -, q5⟩ := hq; exact ⟨q1, q2, q3, r9, u9, q4, q5⟩) ⟨w9, hr9, fg9, hne, h9⟩
      · show upd (w0.1 0) 106 1 k = _
        rw [updN_ hk]
      · show (if a = 0 then _ else if a = 105 then _ else w0.1 a) = _
        rw [if_neg h0, if_neg h5]
      · show (1 : Int32).toInt = _
        have : (1 : Int32).toInt = 1 := by decide
        omega
      · show upd (w0.1 105) 0 pb 0 = pb
        rw [updS]
    · refine fin (R := Q_m_work_L3 N r0 u0) ⟨AGM.sf (k := 106) (AGM.sa (a := 105) (AGM.sf (k := 106) (AGM.sa (a := 105) AGM.rf (by decide) (by decide)) (by decide)) (by decide) (by decide)) (by decide), fun k hk => ?_, fun a h0 h5 => ?_, ?_, hn2, fun _ => ?_, fun _ => ?_⟩ e0' k0 (fun x y hq => by obtain ⟨q1, q2, q3, r9, u9, q4, -, q5⟩ := hq; exact ⟨q1, q2, q3, r9, u9, q4, q5⟩) ⟨w9, hr9, fg9, hne, h9⟩
      · show upd (upd (w0.1 0) 106 1) 106 (1 + 1) k = _
        rw [updN_ hk, updN_ hk]
      · show (if a = 0 then _ else if a = 105 then _ else if a = 0 then _ else if a = 105 then _ else w0.1 a) = _
        rw [if_neg h0, if_neg h5, if_neg h0, if_neg h5]
      · show (1 + 1 : Int32).toInt = _
        have : (1 + 1 : Int32).toInt = 2 := by decide
        omega
      · show upd (upd (w0.1 105) 0 pb) (1 : Int32).toNatClampNeg pc1 0 = pb
        rw [updN_ (by decide), updS]
      · show upd (upd (w0.1 105) 0 pb) (1 : Int32).toNatClampNeg pc1 1 = pc1
        exact updS
  · omega
  · omega
end YMW
