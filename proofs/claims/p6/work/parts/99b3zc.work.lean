/-! work, told, worked, left in both, by the snapshots -/
section ZCW
variable {N : Nat} {gz x x' : Int} {z : ZG} {L1 L2 : List Nat} {v u w um : MS} {c9 : MS × List Nat × List Nat} {m9 : MS} {pa pb pc1 pd ps r r' rm q : Int32} {y : Int64}
/-- the class's work, ended well -/
def NCw (N : Nat) (gz : Int) (z : ZG) (pa pb pc1 pd q : Int32) (c9 : MS × List Nat × List Nat) : Prop := ∃ (L1 L2 : List Nat) (v u : MS) (ps : Int32), KEz N gz z L1 L2 v ∧ (v.1 0 344).toInt = gz ∧ KD L1 L2 z.fa z.fp z.dt v ∧ KPz v u ∧ Q_x_X11_work L1 L2 N v pa pb pc1 pd ps q u ∧ c9 = (u, L1, L2)
def HCw (N : Nat) (gz : Int) (z : ZG) (pa pb pc1 pd : Int32) (x : Int) (y : Int64) (c9 : MS × List Nat × List Nat) : Prop := (x = 0 ∧ ∃ q : Int32, y = q.toInt64 ∧ NCw N gz z pa pb pc1 pd q c9) ∨ (x = 1 ∧ (fcA (dnf z.dt) (dft z.dt) pa 0).toInt = -1 ∧ c9 = z.cs) ∨ (x = 2 ∧ ((fcA (dnf z.dt) (dft z.dt) pa 0).toInt ≠ -1 ∧ (2 < (fcA (dnf z.dt) (dft z.dt) pa 0).toInt ∨ pd.toInt < 0 ∨ 20000 < pd.toInt)) ∧ c9 = z.cs)
/-- the reference's -/
def HMw (N : Nat) (gz : Int) (z : ZG) (pa pb pc1 pd : Int32) (x : Int) (r : Int32) (m9 : MS) : Prop := ∃ w u : MS, MEz gz z w ∧ MD z.fa z.fp z.dt w ∧ (w.1 0 94).toInt = gz ∧ MPz w u ∧ Q_m_work w pa pb pc1 pd N r u ∧ x = (u.1 0 0).toInt ∧ m9 = (if x = 0 then u else z.ms)
/-- a work that is done notes no throw -/
theorem mw0 (h : Q_m_work w pa pb pc1 pd N rm um) : (um = wA w 0 0 1 ∧ (pa.toInt < 0 ∨ (w.1 0 74).toInt ≤ pa.toInt)) ∨ (um = wA w 0 0 2 ∧ (0 ≤ pa.toInt ∧ pa.toInt < (w.1 0 74).toInt) ∧ (2 < ((w.1 78) pa.toNatClampNeg).toInt ∨ pd.toInt < 0 ∨ 20000 < pd.toInt)) ∨ (um.1 0 0 = 0 ∧ (0 ≤ pa.toInt ∧ pa.toInt < (w.1 0 74).toInt) ∧ ((w.1 78) pa.toNatClampNeg).toInt ≤ 2 ∧ 0 ≤ pd.toInt ∧ pd.toInt ≤ 20000) := by
  obtain ⟨-, -, -, -, -, h⟩ := h
  rcases h with ⟨q, -, e⟩ | ⟨q0, ⟨q1, ⟨q2, -, e⟩ | ⟨q2, ⟨q3, -, e⟩ | ⟨q3, ⟨q4, ka, w0, hr, fg, hb, hk, h⟩ | ⟨q4, -, e⟩⟩⟩⟩ | ⟨q1, -, e⟩⟩
  · exact Or.inl ⟨e, Or.inl q⟩
  · exact Or.inr (Or.inl ⟨e, ⟨q0, q1⟩, Or.inl q2⟩)
  · exact Or.inr (Or.inl ⟨e, ⟨q0, q1⟩, Or.inr (Or.inl q3)⟩)
  · refine Or.inr (Or.inr ⟨?_, ⟨q0, q1⟩, q2, q3, q4⟩)
    have w00 : w0.1 0 0 = 0 := (fg.2.1 0 (fun q => nomatch q)).trans rfl
    have fin : ∀ {W u0 w9 : MS} {r0 : Int32}, W.1 0 0 = w0.1 0 0 → K_m_enter W pa r0 u0 → FG [106, 110, 111, 112, 113, 115, 116, 119, 120, 121] [0, 105, 107, 108, 109, 117, 118] (wA u0 0 121 r0) w9 → (((w9.1 0 121).toInt ≠ 0 ∧ rm = w9.1 0 121 ∧ um = wA (wA w9 0 122 0) 0 123 1) ∨ ((w9.1 0 121).toInt = 0 ∧ rm = w9.1 0 121 ∧ um = wA (wA (wA w9 0 106 (w9.1 0 106 - 1)) 0 122 (w9.1 105 (w9.1 0 106 - 1).toNatClampNeg)) 0 123 1)) → um.1 0 0 = 0 := by
      intro W u0 w9 r0 a1 a2 a3 a4
      have e9 : w9.1 0 0 = u0.1 0 0 := (a3.2.1 0 (by decide)).trans rfl
      have e0 : u0.1 0 0 = W.1 0 0 := a2.2.1 0 (by decide)
      have e : w9.1 0 0 = 0 := by rw [e9, e0, a1, w00]
      rcases a4 with ⟨-, -, b⟩ | ⟨-, -, b⟩
      · rw [b]
        exact e
      · rw [b]
        exact e
    rcases h with ⟨c1, -, r0, u0, e0', k0, w9, hr9, fg9, -, hne, h9⟩ | ⟨c1, ⟨c2, r0, u0, e0', k0, w9, hr9, fg9, -, hne, h9⟩ | ⟨c2, r0, u0, e0', k0, w9, hr9, fg9, -, hne, h9⟩⟩
    · exact fin (W := w0) rfl k0 fg9 h9
    · exact fin (W := wA (wA w0 105 (w0.1 0 106).toNatClampNeg pb) 0 106 (w0.1 0 106 + 1)) rfl k0 fg9 h9
    · exact fin (W := wA (wA (wA (wA w0 105 (w0.1 0 106).toNatClampNeg pb) 0 106 (w0.1 0 106 + 1)) 105 (w0.1 0 106 + 1).toNatClampNeg pc1) 0 106 (w0.1 0 106 + 1 + 1)) rfl k0 fg9 h9
  · exact Or.inr (Or.inl ⟨e, ⟨q0, q1⟩, Or.inr (Or.inr q4)⟩)
  · exact Or.inl ⟨e, Or.inr q1⟩
theorem w00x {k : Nat} (hk : k ≠ 0) {x : Int32} : (wA w 0 0 x).1 0 k = w.1 0 k := by
  show upd (w.1 0) 0 x k = _
  rw [updN_ hk]
theorem w00a {a : Nat} (ha : a ≠ 0) {x : Int32} : (wA w 0 0 x).1 a = w.1 a := by
  show (if a = 0 then _ else w.1 a) = _
  rw [if_neg ha]
theorem MEz.th (h : MEz gz z w) {x : Int32} : MEz gz z (wA w 0 0 x) := h.fr (Int.le_refl _) (fun k hk => w00x (by revert k; decide)) (fun a ha => w00a (by revert a; decide))
/-- the snapshot behind the reference's work -/
theorem MEz.wk (h : MEz gz z w) (hq : Q_m_work w pa pb pc1 pd N rm um) (e : um.1 93 = w.1 93) : MEz gz (z.cw c9 (if (um.1 0 0).toInt = 0 then um else z.ms)) um := by
  by_cases q : (um.1 0 0).toInt = 0
  · rw [if_pos q]
    exact h.cw MAz.rf e
  · rw [if_neg q]
    rcases mw0 hq with ⟨a, -⟩ | ⟨a, -⟩ | ⟨a, -⟩
    · rw [a]
      exact h.th
    · rw [a]
      exact h.th
    · rw [a] at q
      exact absurd (by decide) q
theorem zz0 : (0 : Int32).toInt = 0 := by decide
/-- what begin leaves -/
theorem cBeg (hN : N ≤ 4096) (h : Q_x_X10_begin L1 L2 N v pd ps u) : BGc N u ∧ KPz v u ∧ u.1 0 357 = v.1 0 357 ∧ u.1 0 344 = v.1 0 344 ∧ u.1 343 = v.1 343 ∧ u.1 0 367 = pd ∧ u.1 0 361 = 1 := by
  obtain ⟨u2, h, k, rfl⟩ := h
  obtain ⟨V, hV⟩ : ∃ V, V = (wA (wA (wA (wA (wA (wA (wA (wA (wA (wA (wA v 0 355 ps) 0 361 1) 0 362 (-1)) 0 363 0) 0 365 0) 0 366 0) 0 367 pd) 0 368 0) 0 369 0) 0 370 0) 0 371 0) := ⟨_, rfl⟩
  rw [← hV] at h k
  obtain ⟨ka, w9, hr, fc, -, rs, hk, e9⟩ := h
  rw [e9]
  have iv : 0 ≤ ka.toInt ∧ ∀ j : Nat, (j : Int) < ka.toInt → w9.1 359 j = 0 := by
    refine RT.ind (fun (y : Int32 × MS) => 0 ≤ y.1.toInt ∧ ∀ j : Nat, (j : Int) < y.1.toInt → y.2.1 359 j = 0) hr ⟨by show 0 ≤ (0 : Int32).toInt; decide, fun j hj => absurd (show (j : Int) < (0 : Int32).toInt from hj) (by rw [zz0]; omega)⟩ ?_
    rintro ⟨a1, a2⟩ b9 _ ⟨g0, g1⟩ hb9
    obtain ⟨-, b1, -, b3, rfl⟩ := hb9
    have g0 : 0 ≤ a1.toInt := g0
    have b3 : a1.toInt < (nI N).toInt := b3
    rw [nI_Z (by omega)] at b3
    have ea : (a1 + 1).toInt = a1.toInt + 1 := add_z rfl (by decide) (by omega) (by omega)
    have na := natI g0
    refine ⟨by show 0 ≤ (a1 + 1).toInt; omega, fun j hj => ?_⟩
    have hj : (j : Int) < (a1 + 1).toInt := hj
    show upd (a2.1 359) a1.toNatClampNeg 0 j = 0
    by_cases e : j = a1.toNatClampNeg
    · rw [e, updS]
    · rw [updN_ e]
      exact g1 j (by show (j : Int) < a1.toInt; omega)
  rw [nI_Z (by omega)] at hk
  have f : ∀ k, w9.1 0 k = V.1 0 k := fun k => fc.2.1 k (fun q => nomatch q)
  have ar : ∀ a, a ≠ 0 → a ≠ 359 → a < 5000 → w9.1 a = v.1 a := fun a h0 h7 h5 => by
    rw [fc.2.2 a ⟨h5, by simp only [List.mem_cons, List.not_mem_nil, or_false]; exact h7⟩, hV]
    show (if a = 0 then _ else if a = 0 then _ else if a = 0 then _ else if a = 0 then _ else if a = 0 then _ else if a = 0 then _ else if a = 0 then _ else if a = 0 then _ else if a = 0 then _ else if a = 0 then _ else if a = 0 then _ else v.1 a) = v.1 a
    simp only [if_neg h0]
  have fl : ∀ k, k ∉ [355, 361, 362, 363, 365, 366, 367, 368, 369, 370, 371] → w9.1 0 k = v.1 0 k := fun k hk => by
    simp only [List.mem_cons, List.not_mem_nil, or_false, not_or] at hk
    rw [f, hV]
    show upd (upd (upd (upd (upd (upd (upd (upd (upd (upd (upd (v.1 0) 355 _) 361 _) 362 _) 363 _) 365 _) 366 _) 367 _) 368 _) 369 _) 370 _) 371 _ k = _
    rw [updN_ (by omega), updN_ (by omega), updN_ (by omega), updN_ (by omega), updN_ (by omega), updN_ (by omega), updN_ (by omega), updN_ (by omega), updN_ (by omega), updN_ (by omega), updN_ (by omega)]
  refine ⟨⟨⟨by rw [f, hV]; rfl, by rw [f, hV]; rfl, by rw [f, hV]; rfl⟩, ⟨by rw [f, hV]; rfl, by rw [f, hV]; rfl, by rw [f, hV]; rfl, by rw [f, hV]; rfl⟩, fun j hj => iv.2 j (by omega)⟩, ⟨fun k hk => fl k (by revert k; decide), fun a ha => ar a (by revert a; decide) (by revert a; decide) (by revert a; decide), fun a ha => ?_⟩, fl 357 (by decide), fl 344 (by decide), ar 343 (by decide) (by decide) (by decide), by rw [f, hV]; rfl, by rw [f, hV]; rfl⟩
  rw [rs a ha, hV]
  have h0 : a ≠ 0 := by omega
  show (if a = 0 then _ else if a = 0 then _ else if a = 0 then _ else if a = 0 then _ else if a = 0 then _ else if a = 0 then _ else if a = 0 then _ else if a = 0 then _ else if a = 0 then _ else if a = 0 then _ else if a = 0 then _ else v.1 a) = v.1 a
  simp only [if_neg h0]
/-- work in both -/
theorem workZ (hN : N ≤ 4096) (hN1 : 256 ≤ N) (hJ : GJz N z.dt z.cs z.ms) (hc : HCw N gz z pa pb pc1 pd x y c9) (hm : HMw N gz z pa pb pc1 pd x' q m9) : x = x' ∧ (x = 0 → y = q.toInt64) ∧ GJz N z.dt c9 m9 := by
  obtain ⟨w, um, ⟨MA9, gm⟩, md, w94, mp, hq, ex, em⟩ := hm
  have md' := md
  obtain ⟨-, ⟨e74, e75⟩, h5, -, -, dg⟩ := md'
  have m1 : (-1 : Int32).toInt = -1 := by decide
  have o1 : (1 : Int32).toInt = 1 := by decide
  have o2 : (2 : Int32).toInt = 2 := by decide
  have z0n : (0 : Int32).toNatClampNeg = 0 := by decide
  -- a function that is none
  have out : pa.toInt < 0 ∨ dnf z.dt ≤ pa.toInt → (fcA (dnf z.dt) (dft z.dt) pa 0).toInt = -1 := fun h => by rw [fc_no (by omega)]; exact m1
  have inn : 0 ≤ pa.toInt → pa.toInt < dnf z.dt → fcA (dnf z.dt) (dft z.dt) pa 0 = w.1 78 pa.toNatClampNeg ∧ 0 ≤ (w.1 78 pa.toNatClampNeg).toInt := fun h1 h2 => by
    have np := natI h1
    rw [fc_ok h1 h2 (by decide) (by decide), z0n]
    refine ⟨(h5 _ (by omega)).1.symm, ?_⟩
    rcases hJ.1 with ⟨a, -⟩ | ⟨⟨g, K, fn, P⟩, -⟩
    · omega
    · rw [MA9.1.2 78 (by decide)]
      exact (P.2.1.2 pa.toNatClampNeg (by rw [← MA9.1.1 74 (by decide)]; omega)).2.2.2.1.2.2.1
  rcases hc with ⟨x0, qc, hy, L1, L2, v, u, ps, ⟨KA9, h57, gc⟩, v44, kd, kp, W, ec⟩ | ⟨x1, t1, ec⟩ | ⟨x2, ⟨t1, t2⟩, ec⟩
  · obtain ⟨z44, z81, r3, f3, -, n3, n3', d0, d1, u15, hb, -, r21, u20, hp, kf, eq9, eu⟩ := W
    have e3 := kdFact kd (by decide) f3
    have rg : 0 ≤ pa.toInt ∧ pa.toInt < dnf z.dt := by
      apply Classical.byContradiction
      intro h
      rw [e3] at n3
      exact n3 (out (by omega))
    obtain ⟨i1, i2⟩ := inn rg.1 rg.2
    rw [e3, i1] at n3'
    rcases mw0 hq with ⟨-, a⟩ | ⟨-, -, a⟩ | ⟨a0, -, -⟩
    · omega
    · omega
    have x0' : x' = 0 := by rw [ex, a0]; decide
    rw [if_pos x0'] at em
    rcases hJ.1 with ⟨a, -⟩ | ⟨⟨g, K, fn, P⟩, -⟩
    · omega
    obtain ⟨B1, B2, B3, B4, B5, B6, B7⟩ := cBeg hN hb
    have np := natI rg.1
    have el1 := KA9.1.1
    have el2 := KA9.1.2
    rw [el1, el2] at P
    have WJ := workJ (ng := (w.1 0 76).toInt) (lim := (z.ms.1 0 77).toInt) (g := g) (K := K) (fn := fn) (v0 := u15) (L2 := L2) (c := pa.toNatClampNeg) (n := (w.1 78 pa.toNatClampNeg).toNatClampNeg) (by omega) rfl (fun w0 a b d => by
      have n1 : MPz w w0 := ⟨fun k hk => b k (by revert k; decide), fun a ha => d a (by revert a; decide) (by revert a; decide)⟩
      have P2 : PG0 g N (w.1 0 76).toInt (z.ms.1 0 77).toInt L1 L2 K fn u15 w0 := by
        rw [MA9.1.1 76 (by decide)]
        exact P.kp (KA9.2.1.tr B2) (MA9.1.tr n1)
      refine P2.pgf hN ⟨?_, fun j hj => ?_⟩ (by rw [B3]; exact h57) (by rw [B6, a])
      · rw [B4, b 94 (by decide)]
        exact Int32.toInt_inj.mp (by rw [v44, w94])
      · rw [b 94 (by decide), w94] at hj
        rw [B5, d 93 (by decide) (by decide), gc j hj, gm j hj]) B1 (by omega) (by omega) (by have := natI i2; omega) (by have := natI i2; omega) ⟨d0, d1⟩ hp hq
    obtain ⟨er, WR⟩ := WJ
    refine ⟨by omega, fun _ => by rw [hy, eq9, er], Or.inr ⟨⟨g, K, fn, ?_⟩, Or.inr ⟨?_, ?_⟩⟩, ?_⟩
    · rw [ec, em]
      show PG0 g N (um.1 0 76).toInt (um.1 0 77).toInt L1 L2 K fn u um
      rw [mp.1 76 (by decide), mp.1 77 (by decide), MA9.1.1 76 (by decide), MA9.1.1 77 (by decide)]
      exact P.kp (KA9.2.1.tr kp) (MA9.1.tr mp)
    · rw [ec]
      show u.1 0 361 = 1
      rw [eu, kf.1.2.1 361 (by decide)]
      exact B7
    · rw [ec, em]
      show WRES (um.1 0 76).toInt u um
      rw [mp.1 76 (by decide), eu]
      exact WR
    · rw [ec, em]
      exact hJ.2.kp (c9 := (u, L1, L2)) (KA9.2.1.tr kp) (MA9.1.tr mp)
  · have no : ¬ (0 ≤ pa.toInt ∧ pa.toInt < dnf z.dt) := fun h => by
      obtain ⟨i1, i2⟩ := inn h.1 h.2
      rw [i1] at t1
      omega
    rcases mw0 hq with ⟨a, -⟩ | ⟨-, a, -⟩ | ⟨-, a, -⟩
    · have e1 : x' = 1 := by rw [ex, a]; exact o1
      rw [if_neg (by omega)] at em
      exact ⟨by omega, fun h => by omega, by rw [ec, em]; exact hJ⟩
    · omega
    · omega
  · have rg : 0 ≤ pa.toInt ∧ pa.toInt < dnf z.dt := by
      apply Classical.byContradiction
      intro h
      exact t1 (out (by omega))
    obtain ⟨i1, i2⟩ := inn rg.1 rg.2
    rw [i1] at t2
    rcases mw0 hq with ⟨-, a⟩ | ⟨a, -, -⟩ | ⟨-, -, a⟩
    · omega
    · have e1 : x' = 2 := by rw [ex, a]; exact o2
      rw [if_neg (by omega)] at em
      exact ⟨by omega, fun h => by omega, by rw [ec, em]; exact hJ⟩
    · omega
/-! told, worked, left -/
def NCt (z : ZG) (pa r : Int32) : Prop := ∃ (N : Nat) (gz : Int) (L1 L2 : List Nat) (v : MS), KEz N gz z L1 L2 v ∧ Q_x_X11_told L1 L2 v pa r
def HMt (z : ZG) (pa r : Int32) : Prop := ∃ (gz : Int) (w u : MS), MEz gz z w ∧ Q_m_told w pa r u
theorem i01 : ¬ (1 : Int32).toInt = 0 := by decide
theorem toldZ (hJ : GJz N z.dt z.cs z.ms) (hc : NCt z pa r) (hm : HMt z pa r') : r.toInt = r'.toInt := by
  obtain ⟨N9, gz9, L1, L2, v, ⟨KA9, -, -⟩, r3, hq, e⟩ := hc
  obtain ⟨gz8, w, u, ⟨MA9, -⟩, hm⟩ := hm
  rw [e]
  unfold Q_x_X10_fact at hq
  unfold Q_m_told at hm
  rw [KA9.2.2.1 361 (by decide), KA9.2.2.1 362 (by decide), KA9.2.2.1 363 (by decide), KA9.2.2.1 368 (by decide), KA9.2.2.1 369 (by decide), KA9.2.2.1 370 (by decide), KA9.2.2.1 371 (by decide)] at hq
  rw [MA9.2.1 123 (by decide), MA9.2.1 121 (by decide), MA9.2.1 122 (by decide), MA9.2.1 113 (by decide), MA9.2.1 116 (by decide), MA9.2.1 119 (by decide), MA9.2.1 120 (by decide)] at hm
  have nw : z.cs.1.1 0 361 = 0 → z.ms.1 0 123 = 0 → r3.toInt = r'.toInt := fun a b => by
    rw [a] at hq
    rw [b] at hm
    have q1 : r3 = -1 := by
      rcases hq with ⟨n, -⟩ | ⟨-, e⟩
      · exact absurd zz0 n
      · exact e
    have q2 : r' = -1 := by
      rcases hm with ⟨n, -⟩ | ⟨-, e, -⟩
      · exact absurd zz0 n
      · exact e
    rw [q1, q2]
  rcases hJ.1 with ⟨-, a, b⟩ | ⟨-, ⟨a, b⟩ | ⟨a, W1, W2, ⟨W3, W4, W5, W6⟩, -, -, -, W7⟩⟩
  · exact nw a b
  · exact nw a b
  · rw [a] at hq
    rw [W7] at hm
    rcases hq with ⟨-, hq⟩ | ⟨n, -⟩
    rotate_left
    · exact absurd n i01
    rcases hm with ⟨-, hm⟩ | ⟨n, -⟩
    rotate_left
    · exact absurd n i01
    rcases hq with ⟨c0, q⟩ | ⟨c0, hq⟩
    · rcases hm with ⟨-, q', -⟩ | ⟨n, -⟩
      · rw [q, q', W1]
      · exact absurd c0 n
    rcases hm with ⟨n, -⟩ | ⟨-, hm⟩
    · exact absurd n c0
    rcases hq with ⟨c1, q⟩ | ⟨c1, hq⟩
    · rcases hm with ⟨-, q', -⟩ | ⟨n, -⟩
      · rw [q', ← W2]
        rcases q with ⟨b, q⟩ | ⟨b, q⟩
        · rw [q, if_neg (fun h => b (by rw [h]; exact zz0))]
        · rw [q, if_pos (Int32.toInt_inj.mp (b.trans zz0.symm))]
      · exact absurd c1 n
    rcases hm with ⟨n, -⟩ | ⟨-, hm⟩
    · exact absurd n c1
    rcases hq with ⟨c1, q⟩ | ⟨c1, hq⟩
    · rcases hm with ⟨-, q', -⟩ | ⟨n, -⟩
      · rw [q, q', W3]
      · exact absurd c1 n
    rcases hm with ⟨n, -⟩ | ⟨-, hm⟩
    · exact absurd n c1
    rcases hq with ⟨c1, q⟩ | ⟨c1, hq⟩
    · rcases hm with ⟨-, q', -⟩ | ⟨n, -⟩
      · rw [q, q', W4]
      · exact absurd c1 n
    rcases hm with ⟨n, -⟩ | ⟨-, hm⟩
    · exact absurd n c1
    rcases hq with ⟨c1, q⟩ | ⟨c1, hq⟩
    · rcases hm with ⟨-, q', -⟩ | ⟨n, -⟩
      · rw [q, q', W5]
      · exact absurd c1 n
    rcases hm with ⟨n, -⟩ | ⟨-, hm⟩
    · exact absurd n c1
    rcases hq with ⟨c1, q⟩ | ⟨c1, q⟩
    · rcases hm with ⟨-, q', -⟩ | ⟨n, -⟩
      · rw [q, q', W6]
      · exact absurd c1 n
    rcases hm with ⟨n, -⟩ | ⟨-, q', -⟩
    · exact absurd n c1
    · rw [q, q']
def NCd (z : ZG) (pa r : Int32) : Prop := ∃ (N : Nat) (gz : Int) (L1 L2 : List Nat) (v : MS), KEz N gz z L1 L2 v ∧ Q_x_X11_worked L1 L2 v pa r
def NTd (z : ZG) (pa : Int32) : Prop := (z.cs.1.1 0 361).toInt = 0 ∨ pa.toInt < 0 ∨ (z.cs.1.1 0 370).toInt ≤ pa.toInt ∨ 200 ≤ pa.toInt
def HCd (z : ZG) (pa : Int32) (x : Int) (y : Int64) : Prop := (x = 0 ∧ ∃ q : Int32, y = q.toInt64 ∧ NCd z pa q) ∨ (x = 1 ∧ NTd z pa)
def HMd (z : ZG) (pa : Int32) (x : Int) (r : Int32) : Prop := ∃ (gz : Int) (w u : MS), MEz gz z w ∧ Q_m_worked_p w pa r u ∧ x = (u.1 0 0).toInt
theorem workedZ (hJ : GJz N z.dt z.cs z.ms) (hc : HCd z pa x y) (hm : HMd z pa x' q) : x = x' ∧ (x = 0 → y = q.toInt64) := by
  obtain ⟨gz8, w, u, ⟨MA9, -⟩, hm, ex⟩ := hm
  unfold Q_m_worked_p at hm
  rw [MA9.2.1 123 (by decide), MA9.2.1 119 (by decide), MA9.2.2 118 (by decide)] at hm
  have t1 : ∀ {x : Int32}, ((wA w 0 0 x).1 0 0).toInt = x.toInt := rfl
  have o1 : (1 : Int32).toInt = 1 := by decide
  rcases hc with ⟨x0, qc, hy, N9, gz9, L1, L2, v, ⟨KA9, -, -⟩, n1, c0, c1, c2, e⟩ | ⟨x1, t⟩
  · rw [KA9.2.2.1 361 (by decide)] at n1
    rw [KA9.2.2.1 370 (by decide)] at c1
    rw [KA9.2.2.2 360 (by decide)] at e
    rcases hJ.1 with ⟨-, a, b⟩ | ⟨-, ⟨a, b⟩ | ⟨a, W1, W2, ⟨W3, W4, W5, W6⟩, W8, -, W9, W7⟩⟩
    · exact absurd (by rw [a]; exact zz0) n1
    · exact absurd (by rw [a]; exact zz0) n1
    rw [W5] at c1
    rw [W7] at hm
    have np := natI c0
    rcases hm with ⟨n, -⟩ | ⟨-, ⟨n, -⟩ | ⟨-, ⟨n, -⟩ | ⟨-, ⟨-, er, eu⟩ | ⟨n, -⟩⟩⟩⟩
    · exact absurd n i01
    · omega
    · omega
    · refine ⟨?_, fun _ => ?_⟩
      · rw [ex, eu, t1, zz0]
        exact x0
      · rw [hy, e, er, W9 _ (by omega) (by omega)]
    · omega
  · have fin : u = wA w 0 0 1 → x = x' ∧ (x = 0 → y = q.toInt64) := fun eu => by
      have : x' = 1 := by rw [ex, eu, t1, o1]
      exact ⟨by omega, fun h => by omega⟩
    unfold NTd at t
    rcases hm with ⟨-, -, eu⟩ | ⟨n0, ⟨-, -, eu⟩ | ⟨n1, ⟨-, -, eu⟩ | ⟨n2, ⟨n3, -⟩ | ⟨-, -, eu⟩⟩⟩⟩
    · exact fin eu
    · exact fin eu
    · exact fin eu
    · rcases hJ.1 with ⟨-, a, b⟩ | ⟨-, ⟨a, b⟩ | ⟨a, W1, W2, ⟨W3, W4, W5, W6⟩, W8, -, W9, W7⟩⟩
      · exact absurd (by rw [b]; exact zz0) n0
      · exact absurd (by rw [b]; exact zz0) n0
      · rw [a, W5] at t
        omega
    · exact fin eu
def NCl (N : Nat) (z : ZG) (pa pb r : Int32) : Prop := ∃ (gz : Int) (L1 L2 : List Nat) (v : MS), KEz N gz z L1 L2 v ∧ KD L1 L2 z.fa z.fp z.dt v ∧ Q_x_X11_left L1 L2 N v pa pb r
def NTl (z : ZG) (pa pb : Int32) : Prop := (z.cs.1.1 0 361).toInt = 0 ∨ pb.toInt < 0 ∨ (fcA (dng z.dt) (dgl z.dt) pa 0).toInt ≤ pb.toInt
def HCl (N : Nat) (z : ZG) (pa pb : Int32) (x : Int) (y : Int64) : Prop := (x = 0 ∧ ∃ q : Int32, y = q.toInt64 ∧ NCl N z pa pb q) ∨ (x = 1 ∧ NTl z pa pb)
def HMl (z : ZG) (pa pb : Int32) (x : Int) (r : Int32) : Prop := ∃ (gz : Int) (w u : MS), MEz gz z w ∧ MD z.fa z.fp z.dt w ∧ Q_m_left w pa pb r u ∧ x = (u.1 0 0).toInt
theorem leftZ (hN : N ≤ 4096) (hJ : GJz N z.dt z.cs z.ms) (hc : HCl N z pa pb x y) (hm : HMl z pa pb x' q) : x = x' ∧ (x = 0 → y = q.toInt64) := by
  obtain ⟨gz8, w, u, ⟨MA9, -⟩, md, hm, ex⟩ := hm
  obtain ⟨-, ⟨-, e75⟩, -, h6, -, dg⟩ := md
  obtain ⟨z76, -, hm⟩ := hm
  have m123 := MA9.2.1 123 (by decide)
  have t1 : ∀ {x : Int32}, ((wA w 0 0 x).1 0 0).toInt = x.toInt := rfl
  have o1 : (1 : Int32).toInt = 1 := by decide
  have m1 : (-1 : Int32).toInt = -1 := by decide
  have z0n : (0 : Int32).toNatClampNeg = 0 := by decide
  have out : pa.toInt < 0 ∨ dng z.dt ≤ pa.toInt → (fcA (dng z.dt) (dgl z.dt) pa 0).toInt = -1 := fun h => by rw [fc_no (by omega)]; exact m1
  have inn : 0 ≤ pa.toInt → pa.toInt < dng z.dt → fcA (dng z.dt) (dgl z.dt) pa 0 = w.1 85 pa.toNatClampNeg := fun h1 h2 => by
    have np := natI h1
    rw [fc_ok h1 h2 (by decide) (by decide), z0n]
    exact (h6 _ (by omega)).1.symm
  rcases hc with ⟨x0, qc, hy, gz9, L1, L2, v, ⟨KA9, -, -⟩, kd, n1, c0, r9, f9, -, c1, r14, f14, r17, f17, e⟩ | ⟨x1, t⟩
  · rw [KA9.2.2.1 361 (by decide)] at n1
    have e9 := kdGFact kd (by decide) f9
    have rg : 0 ≤ pa.toInt ∧ pa.toInt < dng z.dt := by
      apply Classical.byContradiction
      intro h
      rw [e9, out (by omega)] at c1
      omega
    rw [e9, inn rg.1 rg.2] at c1
    have np := natI rg.1
    rcases hJ.1 with ⟨-, a, b⟩ | ⟨⟨g, K, fn, P⟩, ⟨a, b⟩ | ⟨a, W1, W2, ⟨W3, W4, W5, W6⟩, W8, W10, W9, W7⟩⟩
    · exact absurd (by rw [a]; exact zz0) n1
    · exact absurd (by rw [a]; exact zz0) n1
    rw [KA9.1.1, KA9.1.2] at P
    have P := P.kp KA9.2.1 MA9.1
    obtain ⟨⟨G1, G2, G3, G4⟩, GG⟩ := P.2.2.2.1
    have GG := GG pa.toNatClampNeg (by omega)
    obtain ⟨g1, g2, g3, g4, g5⟩ := GG
    obtain ⟨s1, q14, -, e14⟩ := f14
    have rs1 : s1 = rF L2 v pa.toNatClampNeg 1 := by
      rcases q14 with ⟨n, -⟩ | ⟨-, ⟨n, -⟩ | ⟨-, ⟨-, ⟨n, -⟩ | ⟨-, ⟨n, -⟩ | ⟨-, q⟩⟩⟩ | ⟨n, -⟩⟩⟩
      · omega
      · rw [G1] at n
        omega
      · exact absurd n (by decide)
      · exact absurd n (by decide)
      · exact q
      · rw [← e75] at rg
        omega
    rw [rs1] at e14
    have e86 : r14 = w.1 86 pa.toNatClampNeg := e14.trans g2
    have sm : (w.1 86 pa.toNatClampNeg + pb).toInt = (w.1 86 pa.toNatClampNeg).toInt + pb.toInt := add_z rfl rfl (by omega) (by omega)
    have ns := natI (a := w.1 86 pa.toNatClampNeg + pb) (by omega)
    have r17' : r17 = v.1 359 (w.1 86 pa.toNatClampNeg + pb).toNatClampNeg := by
      rw [e86] at f17
      rcases f17 with ⟨n, -⟩ | ⟨-, ⟨n, -⟩ | ⟨-, q⟩⟩
      · omega
      · rw [nI_Z (by omega)] at n
        omega
      · exact q
    rw [m123, W7] at hm
    rcases hm with ⟨n, -⟩ | ⟨-, ⟨n, -⟩ | ⟨-, ⟨n, -⟩ | ⟨-, ⟨n, -⟩ | ⟨-, ⟨-, er, eu⟩ | ⟨n, -⟩⟩⟩⟩⟩
    · exact absurd n i01
    · omega
    · omega
    · omega
    · refine ⟨?_, fun _ => ?_⟩
      · rw [ex, eu, t1, zz0]
        exact x0
      · rw [hy, e, er, r17', KA9.2.2.2 359 (by decide), MA9.2.2 117 (by decide), W10 _ (by omega)]
    · omega
  · have fin : u = wA w 0 0 1 → x = x' ∧ (x = 0 → y = q.toInt64) := fun eu => by
      have : x' = 1 := by rw [ex, eu, t1, o1]
      exact ⟨by omega, fun h => by omega⟩
    unfold NTl at t
    rcases hm with ⟨-, -, eu⟩ | ⟨n0, ⟨-, -, eu⟩ | ⟨n1, ⟨-, -, eu⟩ | ⟨n2, ⟨-, -, eu⟩ | ⟨n3, ⟨n4, -⟩ | ⟨-, -, eu⟩⟩⟩⟩⟩
    · exact fin eu
    · exact fin eu
    · exact fin eu
    · exact fin eu
    · rw [inn n1 (by omega)] at t
      rw [m123] at n0
      rcases hJ.1 with ⟨-, a, b⟩ | ⟨-, ⟨a, b⟩ | ⟨a, -⟩⟩
      · exact absurd (by rw [b]; exact zz0) n0
      · exact absurd (by rw [b]; exact zz0) n0
      · rw [a] at t
        omega
    · exact fin eu
/-! code -/
def NCc (N : Nat) (z : ZG) (pa r : Int32) : Prop := ∃ (gz : Int) (L1 L2 : List Nat) (v : MS), KEz N gz z L1 L2 v ∧ Q_x_X11_code L1 L2 N v pa r
def HCc (N : Nat) (z : ZG) (pa : Int32) (x : Int) (y : Int64) : Prop := (x = 0 ∧ ∃ q : Int32, y = q.toInt64 ∧ NCc N z pa q) ∨ (x = 1 ∧ pa.toInt < 0)
def HMc (z : ZG) (pa : Int32) (x : Int) (r : Int32) : Prop := ∃ (gz : Int) (w u : MS), MEz gz z w ∧ Q_m_code w pa r u ∧ x = (u.1 0 0).toInt
theorem codeZ (hN : N ≤ 4096) (hJ : GJz N z.dt z.cs z.ms) (hc : HCc N z pa x y) (hm : HMc z pa x' q) : x = x' ∧ (x = 0 → y = q.toInt64) := by
  obtain ⟨gz8, w, u, ⟨MA9, -⟩, hm, ex⟩ := hm
  obtain ⟨b73, hm⟩ := hm
  have t0 : ∀ {x : Int32}, ((wA w 0 0 x).1 0 0).toInt = x.toInt := rfl
  have o1 : (1 : Int32).toInt = 1 := by decide
  have o0 : (0 : Int32).toInt = 0 := by decide
  obtain ⟨W1, W2, W3⟩ := hJ.2
  rw [← MA9.1.1 73 (by decide)] at W1 W2 W3
  rw [← MA9.1.2 70 (by decide)] at W3
  rcases hc with ⟨x0, qc, hy, gz9, L1, L2, v, ⟨KA9, -, -⟩, n1, r5, hw, e⟩ | ⟨x1, t⟩
  · rw [← KA9.2.1.1 383 (by decide)] at W1
    rw [← KA9.2.1.2.1 382 (by decide)] at W3
    have n0 := natI n1
    have eN : (nI N).toInt = N := nI_Z (by omega)
    rcases hm with ⟨-, -, ⟨m1, eq, eu⟩ | ⟨m1, eq, eu⟩⟩ | ⟨m1, -⟩
    · refine ⟨by rw [ex, eu, t0, o0]; exact x0, fun _ => ?_⟩
      rcases hw with ⟨h1, -⟩ | ⟨-, ⟨h1, -⟩ | ⟨-, ⟨h1, -⟩ | ⟨-, h1⟩⟩⟩
      · omega
      · rw [W1] at h1
        omega
      · omega
      · rw [hy, e, h1, eq, W3 pa.toNatClampNeg (by omega)]
    · refine ⟨by rw [ex, eu, t0, o0]; exact x0, fun _ => ?_⟩
      rcases hw with ⟨h1, -⟩ | ⟨-, ⟨-, h1⟩ | ⟨h1, -⟩⟩
      · omega
      · rw [hy, e, h1, eq]
      · rw [W1] at h1
        omega
    · omega
  · rcases hm with ⟨m1, -⟩ | ⟨-, -, -, eu⟩
    · omega
    · exact ⟨by rw [ex, eu, t0, o1]; exact x1, fun h => by omega⟩
end ZCW
