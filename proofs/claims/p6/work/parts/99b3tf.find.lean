/-! find, in both -/
/-- a name is what stands on the tape -/
def NMT (d : DT) (tb : Nat → Int32) (tz : Int) (h : Nat → Int32) : Prop := (h 4).toInt - (h 3).toInt = tz ∧ ∀ p : Nat, (p : Int) < tz → dtx d ((h 3).toNatClampNeg + p) = tb p
/-- the first one -/
def FIR (n : Int) (P : Nat → Prop) (r : Int32) : Prop := (r = -1 ∧ ∀ k : Nat, (k : Int) < n → ¬ P k) ∨ (∃ k : Nat, (k : Int) < n ∧ r.toInt = k ∧ P k ∧ ∀ j : Nat, j < k → ¬ P j)
theorem FIR.eq {n : Int} {P : Nat → Prop} {r r' : Int32} (h : FIR n P r) (h' : FIR n P r') : r = r' := by
  rcases h with ⟨a, b⟩ | ⟨k, a, b, c, d⟩
  · rcases h' with ⟨a', b'⟩ | ⟨k', a', b', c', d'⟩
    · rw [a, a']
    · exact absurd c' (b k' a')
  · rcases h' with ⟨a', b'⟩ | ⟨k', a', b', c', d'⟩
    · exact absurd c (b' k a)
    · have : k = k' := by
        rcases Nat.lt_trichotomy k k' with q | q | q
        · exact absurd c (d' k q)
        · exact q
        · exact absurd c' (d k' q)
      exact Int32.toInt_inj.mp (by rw [b, b', this])
def fiR (d : DT) (tb : Nat → Int32) (tz : Int) (pa r : Int32) : Prop := (pa.toInt = 0 ∧ FIR (dnf d) (fun k => NMT d tb tz (dft d k)) r) ∨ (pa.toInt = 1 ∧ FIR (dng d) (fun k => NMT d tb tz (dgl d k)) r)
theorem fiR.eq {d : DT} {tb : Nat → Int32} {tz : Int} {pa r r' : Int32} (h : fiR d tb tz pa r) (h' : fiR d tb tz pa r') : r = r' := by
  rcases h with ⟨a, b⟩ | ⟨a, b⟩
  · rcases h' with ⟨a', b'⟩ | ⟨a', b'⟩
    · exact b.eq b'
    · omega
  · rcases h' with ⟨a', b'⟩ | ⟨a', b'⟩
    · omega
    · exact b.eq b'
theorem fiR.pa {d : DT} {tb : Nat → Int32} {tz : Int} {pa r : Int32} (h : fiR d tb tz pa r) : pa.toInt = 0 ∨ pa.toInt = 1 := h.elim (fun z => Or.inl z.1) (fun z => Or.inr z.1)
section FND
variable {L1 L2 : List Nat} {v u w : MS} {fa fp pa pb r : Int32} {d : DT} {tb : Nat → Int32} {tz : Int} {h : Nat → Int32}
theorem KD.X (k : KD L1 L2 fa fp d v) : TXC (dtx d) (dtl d) v := ⟨k.2.2.2.2.1, k.2.2.2.2.2.2.2.2.2.2.1, k.2.2.2.2.2.1, k.2.2.2.2.2.2.2.2.2.2.2⟩
theorem xIsName (k : KD L1 L2 fa fp d v) (N : NMD d h) (ht : v.1 299 = tb) (hz : (v.1 0 391).toInt = tz) (hz0 : 0 ≤ tz ∧ tz ≤ 4000) (q : Q_x_X7_isNameAt L1 L2 v (h 3) (v.1 0 391) r) : r.toInt ≠ 0 ↔ NMT d tb tz h := by
  have X := k.X
  have g4 : dtl d ≤ 4000 := X.2.1
  obtain ⟨n1, n2, n3⟩ := N
  have np := natI n1
  obtain ⟨-, -, r3, q3, q⟩ := q
  have e3 := xNameLen X (p := (h 3).toNatClampNeg) (by omega) (by omega) q3
  have le := NLE_le (T := dtx d) (L := dtl d) (p := (h 3).toNatClampNeg) (by omega)
  have z0 : (0 : Int32).toInt = 0 := by decide
  rcases q with ⟨c, e⟩ | ⟨c, -, ka, hr, k0, q⟩
  · rw [e, z0]
    refine ⟨fun z => absurd rfl z, fun z => ?_⟩
    have := z.1
    omega
  · have inv : 0 ≤ ka.toInt ∧ ∀ p : Nat, (p : Int) < ka.toInt → (p : Int) < tz ∧ dtx d ((h 3).toNatClampNeg + p) = tb p := by
      refine RT.ind (fun (y : Int32) => 0 ≤ y.toInt ∧ ∀ p : Nat, (p : Int) < y.toInt → (p : Int) < tz ∧ dtx d ((h 3).toNatClampNeg + p) = tb p) hr ⟨by omega, fun p hp => by omega⟩ ?_
      intro a b _ ⟨g0, g1⟩ hb
      obtain ⟨b0, b1, r14, q14, e14, rfl⟩ := hb
      have ea : (a + (1 : Int32)).toInt = a.toInt + 1 := incq b1
      have na := natI g0
      have es : (h 3 + a).toInt = (h 3).toInt + a.toInt := add_z rfl rfl (by omega) (by omega)
      have eb := xByteE q14 X (p := (h 3).toNatClampNeg + a.toNatClampNeg) (by omega) (by omega)
      refine ⟨by omega, fun p hp => ?_⟩
      by_cases y : p = a.toNatClampNeg
      · refine ⟨by omega, ?_⟩
        rw [y, ← eb, ← ht]
        exact Int32.toInt_inj.mp e14
      · exact g1 p (by omega)
    rcases q with ⟨c1, e⟩ | ⟨c1, r14, q14, e14, e⟩
    · rw [e]
      refine ⟨fun _ => ⟨by omega, fun p hp => (inv.2 p (by omega)).2⟩, fun _ => by decide⟩
    · rw [e, z0]
      refine ⟨fun z => absurd rfl z, fun z => ?_⟩
      have na := natI k0
      have es : (h 3 + ka).toInt = (h 3).toInt + ka.toInt := add_z rfl rfl (by omega) (by omega)
      have eb := xByteE q14 X (p := (h 3).toNatClampNeg + ka.toNatClampNeg) (by omega) (by omega)
      have := z.2 ka.toNatClampNeg (by omega)
      rw [eb, this, ht] at e14
      exact absurd rfl e14
theorem mIsName (k : MD fa fp d w) (N : NMD d h) (ht : ∀ p : Nat, (p : Int) < tz → w.1 1 p = tb p) (hz : (w.1 0 2).toInt = tz) (q : Q_m_isTape w (h 3) (h 4) r) : r.toInt ≠ 0 ↔ NMT d tb tz h := by
  obtain ⟨n1, n2, n3⟩ := N
  have np := natI n1
  have tx := k.2.2.2.2.1
  obtain ⟨t0, b0, q⟩ := q
  have le := NLE_le (T := dtx d) (L := dtl d) (p := (h 3).toNatClampNeg) (by omega)
  have z0 : (0 : Int32).toInt = 0 := by decide
  have z1 : (1 : Int32).toInt = 1 := by decide
  rcases q with ⟨c, ka, ba, hr, k0, k1, q⟩ | ⟨c, ka, ba, hr, k0, -, q⟩
  · have e : r.toInt = 0 := by
      rcases q with ⟨-, e⟩ | ⟨-, -, e⟩ <;> rw [e] <;> omega
    refine ⟨fun z => absurd e z, fun z => ?_⟩
    have := z.1
    omega
  · have inv : 0 ≤ ka.toInt ∧ ((ba.toInt = 1 ∧ ∀ p : Nat, (p : Int) < ka.toInt → dtx d ((h 3).toNatClampNeg + p) = tb p) ∨ (ba.toInt = 0 ∧ ∃ p : Nat, (p : Int) < tz ∧ dtx d ((h 3).toNatClampNeg + p) ≠ tb p)) := by
      refine RT.ind (fun (y : Int32 × Int32) => 0 ≤ y.1.toInt ∧ ((y.2.toInt = 1 ∧ ∀ p : Nat, (p : Int) < y.1.toInt → dtx d ((h 3).toNatClampNeg + p) = tb p) ∨ (y.2.toInt = 0 ∧ ∃ p : Nat, (p : Int) < tz ∧ dtx d ((h 3).toNatClampNeg + p) ≠ tb p))) hr ⟨by show 0 ≤ (0 : Int32).toInt; omega, Or.inl ⟨z1, fun p hp => by have hp : (p : Int) < (0 : Int32).toInt := hp; omega⟩⟩ ?_
      intro a b _ ⟨g0, g1⟩ hb
      obtain ⟨b1, -, b2, b3, hb⟩ := hb
      have ea : (a.1 + (1 : Int32)).toInt = a.1.toInt + 1 := incq b2
      have na := natI g0
      have es : (h 3 + a.1).toInt = (h 3).toInt + a.1.toInt := add_z rfl rfl (by omega) (by omega)
      have nz : (h 3 + a.1).toNatClampNeg = (h 3).toNatClampNeg + a.1.toNatClampNeg := by
        have := natI (a := h 3 + a.1) (by omega)
        omega
      have t1 := tx ((h 3).toNatClampNeg + a.1.toNatClampNeg) (by omega)
      have t2 := ht a.1.toNatClampNeg (by omega)
      rw [nz, t1, t2] at hb
      have g1 : ∀ p : Nat, (p : Int) < a.1.toInt → dtx d ((h 3).toNatClampNeg + p) = tb p := by
        rcases g1 with ⟨-, x⟩ | ⟨x, -⟩
        · exact x
        · exact absurd x b3
      rcases hb with ⟨y, rfl⟩ | ⟨y, rfl⟩
      · refine ⟨by show 0 ≤ (a.1 + (1 : Int32)).toInt; omega, Or.inr ⟨z0, a.1.toNatClampNeg, by omega, fun q => y (by rw [q])⟩⟩
      · refine ⟨by show 0 ≤ (a.1 + (1 : Int32)).toInt; omega, Or.inl ⟨z1, fun p hp => ?_⟩⟩
        have hp : (p : Int) < (a.1 + (1 : Int32)).toInt := hp
        by_cases z : p = a.1.toNatClampNeg
        · rw [z]
          exact (Int32.toInt_inj.mp y).symm
        · exact g1 p (by omega)
    obtain ⟨-, inv⟩ := inv
    rcases inv with ⟨i1, i2⟩ | ⟨i1, p, i2, i3⟩
    · have e : r = ba ∧ tz ≤ ka.toInt := by
        rcases q with ⟨y, e⟩ | ⟨-, y, e⟩
        · exact ⟨e, by omega⟩
        · omega
      rw [e.1]
      exact ⟨fun _ => ⟨by omega, fun p hp => i2 p (by omega)⟩, fun _ => by omega⟩
    · have e : r = ba := by
        rcases q with ⟨y, e⟩ | ⟨-, y, e⟩ <;> exact e
      rw [e]
      exact ⟨fun z => absurd i1 z, fun z => absurd (z.2 p i2) i3⟩
theorem rt_no {α : Type} {a b : α} (h : RT (fun (_ _ : α) => False) a b) : b = a := by
  obtain ⟨n, hn⟩ := h
  cases n with
  | zero => exact hn.symm
  | succ n => exact absurd hn (fun ⟨_, _, z⟩ => z)
theorem kdFind (k : KD L1 L2 fa fp d v) (ht : v.1 299 = tb) (hz : (v.1 0 391).toInt = tz) (hz0 : 0 ≤ tz ∧ tz ≤ 4000) (q : Q_x_X11_find L1 L2 v pa r) : fiR d tb tz pa r := by
  have G := k.2.2.2.2.2.2
  have e75 := k.2.1.1
  have e77 := k.2.1.2
  have z0 : (0 : Int32).toInt = 0 := by decide
  have z3 : (3 : Int32).toNatClampNeg = 3 := by decide
  have fF : ∀ {a r14 : Int32}, 0 ≤ a.toInt → a.toInt < (v.1 0 375).toInt → Q_x_X7_functionFact L1 L2 v a 3 r14 → r14 = dft d a.toNatClampNeg 3 ∧ NMD d (dft d a.toNatClampNeg) := fun {a r14} h1 h2 q => by
    have := kdFact k (by decide) q
    rw [fc_ok h1 (by omega) (by decide) (by decide), z3] at this
    have na := natI h1
    exact ⟨this, G.2.2.1 _ (by omega)⟩
  have fG : ∀ {a r14 : Int32}, 0 ≤ a.toInt → a.toInt < (v.1 0 377).toInt → Q_x_X7_globalFact L1 L2 v a 3 r14 → r14 = dgl d a.toNatClampNeg 3 ∧ NMD d (dgl d a.toNatClampNeg) := fun {a r14} h1 h2 q => by
    have := kdGFact k (by decide) q
    rw [fc_ok h1 (by omega) (by decide) (by decide), z3] at this
    have na := natI h1
    exact ⟨this, (G.2.2.2.1 _ (by omega)).1⟩
  obtain ⟨-, -, q⟩ := q
  rcases q with ⟨c, -, mo, ka, hr, k0, q⟩ | ⟨-, c, -, mo, ka, hr, k0, q⟩
  · refine Or.inl ⟨c, ?_⟩
    have inv : mo = v.1 0 375 ∧ 0 ≤ ka.toInt ∧ ∀ p : Nat, (p : Int) < ka.toInt → ¬ NMT d tb tz (dft d p) := by
      refine RT.ind (fun (y : Int32 × Int32) => y.1 = v.1 0 375 ∧ 0 ≤ y.2.toInt ∧ ∀ p : Nat, (p : Int) < y.2.toInt → ¬ NMT d tb tz (dft d p)) hr ⟨rfl, by show 0 ≤ (0 : Int32).toInt; omega, fun p hp => by have hp : (p : Int) < (0 : Int32).toInt := hp; omega⟩ ?_
      intro a b _ ⟨g0, g1, g2⟩ hb
      obtain ⟨-, b1, -, r14, q14, -, r17, q17, -, e17, rfl⟩ := hb
      rw [g0] at b1
      have F := fF g1 b1 q14
      rw [F.1] at q17
      have I := xIsName k F.2 ht hz hz0 q17
      have ea : (a.2 + (1 : Int32)).toInt = a.2.toInt + 1 := incq b1
      have na := natI g1
      refine ⟨g0, by show 0 ≤ (a.2 + (1 : Int32)).toInt; omega, fun p hp => ?_⟩
      have hp : (p : Int) < (a.2 + (1 : Int32)).toInt := hp
      by_cases y : p = a.2.toNatClampNeg
      · rw [y]
        exact fun z => (I.mpr z) e17
      · exact g2 p (by omega)
    obtain ⟨i0, i1, i2⟩ := inv
    have na := natI i1
    rw [i0] at q
    rcases q with ⟨c1, e⟩ | ⟨c1, -, r14, q14, -, r17, q17, -, e17, e⟩
    · exact Or.inl ⟨e, fun p hp => i2 p (by omega)⟩
    · have F := fF i1 c1 q14
      rw [F.1] at q17
      have I := xIsName k F.2 ht hz hz0 q17
      exact Or.inr ⟨ka.toNatClampNeg, by omega, by rw [e]; omega, I.mp e17, fun j hj => i2 j (by omega)⟩
  · refine Or.inr ⟨c, ?_⟩
    have inv : mo = v.1 0 377 ∧ 0 ≤ ka.toInt ∧ ∀ p : Nat, (p : Int) < ka.toInt → ¬ NMT d tb tz (dgl d p) := by
      refine RT.ind (fun (y : Int32 × Int32) => y.1 = v.1 0 377 ∧ 0 ≤ y.2.toInt ∧ ∀ p : Nat, (p : Int) < y.2.toInt → ¬ NMT d tb tz (dgl d p)) hr ⟨rfl, by show 0 ≤ (0 : Int32).toInt; omega, fun p hp => by have hp : (p : Int) < (0 : Int32).toInt := hp; omega⟩ ?_
      intro a b _ ⟨g0, g1, g2⟩ hb
      obtain ⟨-, b1, -, r14, q14, -, r17, q17, -, e17, rfl⟩ := hb
      rw [g0] at b1
      have F := fG g1 b1 q14
      rw [F.1] at q17
      have I := xIsName k F.2 ht hz hz0 q17
      have ea : (a.2 + (1 : Int32)).toInt = a.2.toInt + 1 := incq b1
      have na := natI g1
      refine ⟨g0, by show 0 ≤ (a.2 + (1 : Int32)).toInt; omega, fun p hp => ?_⟩
      have hp : (p : Int) < (a.2 + (1 : Int32)).toInt := hp
      by_cases y : p = a.2.toNatClampNeg
      · rw [y]
        exact fun z => (I.mpr z) e17
      · exact g2 p (by omega)
    obtain ⟨i0, i1, i2⟩ := inv
    have na := natI i1
    rw [i0] at q
    rcases q with ⟨c1, e⟩ | ⟨c1, -, r14, q14, -, r17, q17, -, e17, e⟩
    · exact Or.inl ⟨e, fun p hp => i2 p (by omega)⟩
    · have F := fG i1 c1 q14
      rw [F.1] at q17
      have I := xIsName k F.2 ht hz hz0 q17
      exact Or.inr ⟨ka.toNatClampNeg, by omega, by rw [e]; omega, I.mp e17, fun j hj => i2 j (by omega)⟩
/-- what the reference's find answers, and throws -/
theorem mdFind (k : MD fa fp d w) (ht : ∀ p : Nat, (p : Int) < tz → w.1 1 p = tb p) (hz : (w.1 0 2).toInt = tz) (q : Q_m_find w pa r u) : ((u.1 0 0).toInt = 0 ∧ fiR d tb tz pa r) ∨ ((u.1 0 0).toInt = 1 ∧ pa.toInt ≠ 0 ∧ pa.toInt ≠ 1) := by
  have G := k.2.2.2.2.2
  have e75 := k.2.1.1
  have e77 := k.2.1.2
  have T := k.2.2.1
  have TG := k.2.2.2.1
  have z0 : (0 : Int32).toInt = 0 := by decide
  have k' : MD fa fp d (wA w 0 0 0) := k.fr (fun k hk => pk_un (by revert k; decide)) (fun a ha => if_neg (by revert a; decide))
  have sF : ∀ {a r20 : Int32}, 0 ≤ a.toInt → a.toInt < (w.1 0 74).toInt → Q_m_isTape (wA w 0 0 0) ((w.1 83) a.toNatClampNeg) ((w.1 84) a.toNatClampNeg) r20 → (r20.toInt ≠ 0 ↔ NMT d tb tz (dft d a.toNatClampNeg)) := fun {a r20} h1 h2 q => by
    have na := natI h1
    have t := T a.toNatClampNeg (by omega)
    rw [t.2.2.2.1, t.2.2.2.2] at q
    exact mIsName k' (G.2.2.1 _ (by omega)) ht hz q
  have sG : ∀ {a r20 : Int32}, 0 ≤ a.toInt → a.toInt < (w.1 0 75).toInt → Q_m_isTape (wA w 0 0 0) ((w.1 87) a.toNatClampNeg) ((w.1 88) a.toNatClampNeg) r20 → (r20.toInt ≠ 0 ↔ NMT d tb tz (dgl d a.toNatClampNeg)) := fun {a r20} h1 h2 q => by
    have na := natI h1
    have t := TG a.toNatClampNeg (by omega)
    rw [t.2.2.2.1, t.2.2.2.2] at q
    exact mIsName k' (G.2.2.2.1 _ (by omega)).1 ht hz q
  have lG : ∀ {kb : Int32}, RT (fun (xq yq : Int32) => (0 ≤ xq.toInt ∧ xq.toInt ≤ (w.1 0 75).toInt) ∧ (xq.toInt < (w.1 0 75).toInt) ∧ (pa.toInt = (1 : Int)) ∧ ∃ (r61 : Int32), (Q_m_isTape (wA w 0 0 0) ((w.1 87) xq.toNatClampNeg) ((w.1 88) xq.toNatClampNeg) r61) ∧ (K_m_isTape (wA w 0 0 0) ((w.1 87) xq.toNatClampNeg) ((w.1 88) xq.toNatClampNeg) r61) ∧ (r61.toInt = (0 : Int)) ∧ yq = (xq + (1 : Int32))) 0 kb → 0 ≤ kb.toInt ∧ ∀ p : Nat, (p : Int) < kb.toInt → ¬ NMT d tb tz (dgl d p) := fun {kb} hr => by
    refine RT.ind (fun (y : Int32) => 0 ≤ y.toInt ∧ ∀ p : Nat, (p : Int) < y.toInt → ¬ NMT d tb tz (dgl d p)) hr ⟨by omega, fun p hp => by omega⟩ ?_
    intro a b _ ⟨g1, g2⟩ hb
    obtain ⟨-, b1, -, r20, q20, -, e20, rfl⟩ := hb
    have I := sG g1 b1 q20
    have ea : (a + (1 : Int32)).toInt = a.toInt + 1 := incq b1
    have na := natI g1
    refine ⟨by omega, fun p hp => ?_⟩
    by_cases y : p = a.toNatClampNeg
    · rw [y]
      exact fun z => (I.mpr z) e20
    · exact g2 p (by omega)
  have gG : ∀ {kb : Int32}, pa.toInt = 1 → (0 ≤ kb.toInt ∧ ∀ p : Nat, (p : Int) < kb.toInt → ¬ NMT d tb tz (dgl d p)) → ((((w.1 0 75).toInt ≤ kb.toInt) ∧ r = (-1) ∧ u = (wA w 0 0 0)) ∨ ((kb.toInt < (w.1 0 75).toInt) ∧ (pa.toInt = (1 : Int)) ∧ ∃ (r43 : Int32), (Q_m_isTape (wA w 0 0 0) ((w.1 87) kb.toNatClampNeg) ((w.1 88) kb.toNatClampNeg) r43) ∧ (K_m_isTape (wA w 0 0 0) ((w.1 87) kb.toNatClampNeg) ((w.1 88) kb.toNatClampNeg) r43) ∧ (r43.toInt ≠ (0 : Int)) ∧ r = kb ∧ u = (wA w 0 0 0))) → ((u.1 0 0).toInt = 0 ∧ fiR d tb tz pa r) ∨ ((u.1 0 0).toInt = 1 ∧ pa.toInt ≠ 0 ∧ pa.toInt ≠ 1) := fun {kb} c ⟨i1, i2⟩ q => by
    have na := natI i1
    rcases q with ⟨c1, e, eu⟩ | ⟨c1, -, r43, q43, -, e43, e, eu⟩
    · exact Or.inl ⟨by rw [eu]; exact z0, Or.inr ⟨c, Or.inl ⟨e, fun p hp => i2 p (by omega)⟩⟩⟩
    · exact Or.inl ⟨by rw [eu]; exact z0, Or.inr ⟨c, Or.inr ⟨kb.toNatClampNeg, by omega, by rw [e]; omega, (sG i1 c1 q43).mp e43, fun j hj => i2 j (by omega)⟩⟩⟩
  obtain ⟨-, -, -, q⟩ := q
  rcases q with ⟨c, ka, hr, -, q⟩ | ⟨c, ⟨c1, e, eu⟩ | ⟨c1, ka, hr, -, q⟩⟩
  · have inv : 0 ≤ ka.toInt ∧ ∀ p : Nat, (p : Int) < ka.toInt → ¬ NMT d tb tz (dft d p) := by
      refine RT.ind (fun (y : Int32) => 0 ≤ y.toInt ∧ ∀ p : Nat, (p : Int) < y.toInt → ¬ NMT d tb tz (dft d p)) hr ⟨by omega, fun p hp => by omega⟩ ?_
      intro a b _ ⟨g1, g2⟩ hb
      obtain ⟨-, b1, -, r20, q20, -, e20, rfl⟩ := hb
      have I := sF g1 b1 q20
      have ea : (a + (1 : Int32)).toInt = a.toInt + 1 := incq b1
      have na := natI g1
      refine ⟨by omega, fun p hp => ?_⟩
      by_cases y : p = a.toNatClampNeg
      · rw [y]
        exact fun z => (I.mpr z) e20
      · exact g2 p (by omega)
    obtain ⟨i1, i2⟩ := inv
    have na := natI i1
    have no : (w.1 0 74).toInt ≤ ka.toInt → r = -1 → u = wA w 0 0 0 → ((u.1 0 0).toInt = 0 ∧ fiR d tb tz pa r) ∨ ((u.1 0 0).toInt = 1 ∧ pa.toInt ≠ 0 ∧ pa.toInt ≠ 1) := fun c1 e eu => Or.inl ⟨by rw [eu]; exact z0, Or.inl ⟨c, Or.inl ⟨e, fun p hp => i2 p (by omega)⟩⟩⟩
    rcases q with ⟨c1, kb, -, -, ⟨-, e, eu⟩ | ⟨-, -, e, eu⟩⟩ | ⟨c1, -, r20, q20, -, e20, e, eu⟩
    · exact no c1 e eu
    · exact no c1 e eu
    · exact Or.inl ⟨by rw [eu]; exact z0, Or.inl ⟨c, Or.inr ⟨ka.toNatClampNeg, by omega, by rw [e]; omega, (sF i1 c1 q20).mp e20, fun j hj => i2 j (by omega)⟩⟩⟩
  · exact Or.inr ⟨by rw [eu]; show (1 : Int32).toInt = 1; decide, c, c1⟩
  · rcases q with ⟨-, kb, hr2, -, q⟩ | ⟨-, -, kb, hr2, -, q⟩
    · exact gG c1 (lG hr2) q
    · exact gG c1 (lG hr2) q
end FND
