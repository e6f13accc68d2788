/-! what a program that is taken over leaves; both: one datum -/
section ACC
variable {L1 L2 : List Nat} {T : Nat → Int32} {L N : Nat} {v u w x u' : MS} {ps r r' : Int32}
theorem incq {x y : Int32} (h : x.toInt < y.toInt) : (x + (1 : Int32)).toInt = x.toInt + 1 := add_z rfl (by decide) (by have := x.le_toInt; omega) (by have := y.toInt_lt; omega)
theorem cpy1 {F G : Nat → Int32} {k : Int32} (h0 : 0 ≤ k.toInt) (h : ∀ f : Nat, (f : Int) < k.toInt → F f = G f) {f : Nat} (hf : (f : Int) < k.toInt + 1) : upd F k.toNatClampNeg (G k.toNatClampNeg) f = G f := by
  have e := natI h0
  by_cases q : f = k.toNatClampNeg
  · rw [← q, updS]
  · rw [updN_ q]
    exact h f (by omega)
def accF (x u : MS) (n : Int) : Prop := (∀ f : Nat, (f : Int) < n → u.1 78 f = x.1 17 f) ∧ (∀ f : Nat, (f : Int) < n → u.1 79 f = x.1 18 f) ∧ (∀ f : Nat, (f : Int) < n → u.1 80 f = (fun f => 4 * x.1 19 f) f) ∧ (∀ f : Nat, (f : Int) < n → u.1 83 f = (fun f => x.1 7 (x.1 16 f).toNatClampNeg) f) ∧ (∀ f : Nat, (f : Int) < n → u.1 84 f = (fun f => x.1 8 (x.1 16 f).toNatClampNeg) f)
def accG (x u : MS) (n : Int) : Prop := (∀ f : Nat, (f : Int) < n → u.1 85 f = x.1 24 f) ∧ (∀ f : Nat, (f : Int) < n → u.1 86 f = x.1 25 f) ∧ (∀ f : Nat, (f : Int) < n → u.1 89 f = (fun f => vp_nar .boolean (x.1 26 f)) f) ∧ (∀ f : Nat, (f : Int) < n → u.1 87 f = (fun f => x.1 7 (x.1 23 f).toNatClampNeg) f) ∧ (∀ f : Nat, (f : Int) < n → u.1 88 f = (fun f => x.1 8 (x.1 23 f).toNatClampNeg) f)
set_option maxRecDepth 100000 in
theorem accJ (h : Q_m_accept x u) : u.1 0 73 = x.1 0 12 ∧ u.1 0 74 = x.1 0 22 ∧ u.1 0 75 = x.1 0 27 ∧ accF x u (x.1 0 22).toInt ∧ accG x u (x.1 0 27).toInt ∧ ∀ p : Nat, (p : Int) < (x.1 0 4).toInt → u.1 90 p = x.1 3 p := by
  obtain ⟨-, -, -, -, -, ka, w42, hr0, f0, b0, c0, kb, w70, hr1, f1, b1, c1, kc, w110, hr2, f2, b2, c2, kd, w222, hr3, f3, b3, c3, ke, w308, hr4, f4, b4, c4, rfl⟩ := h
  have z0 : (0 : Int32).toInt = 0 := by decide
  have E70 : ∀ a ∈ [3, 7, 8, 16, 17, 18, 19, 23, 24, 25, 26], w70.1 a = x.1 a := fun a ha => (f1.2.2 a (by revert a; decide)).trans ((f0.2.2 a (by revert a; decide)).trans (by
    show (if a = 0 then _ else if a = 0 then _ else if a = 0 then _ else if a = 0 then _ else if a = 0 then _ else x.1 a) = x.1 a
    have : a ≠ 0 := by revert a; decide
    simp only [if_neg this]))
  have E110 : ∀ a ∈ [3, 7, 8, 16, 17, 18, 19, 23, 24, 25, 26], w110.1 a = x.1 a := fun a ha => (f2.2.2 a (by revert a; decide)).trans (E70 a ha)
  have E222 : ∀ a ∈ [3, 7, 8, 16, 17, 18, 19, 23, 24, 25, 26], w222.1 a = x.1 a := fun a ha => (f3.2.2 a (by revert a; decide)).trans (E110 a ha)
  have F42 : ∀ k ∈ [4, 22, 27, 73, 74, 75], w42.1 0 k = (wA (wA (wA (wA (wA x 0 73 (x.1 0 12)) 0 74 (x.1 0 22)) 0 75 (x.1 0 27)) 0 76 (x.1 0 28)) 0 77 (x.1 0 69)).1 0 k := fun k _ => f0.2.1 k (fun q => nomatch q)
  have F70 : ∀ k ∈ [4, 22, 27, 73, 74, 75], w70.1 0 k = w42.1 0 k := fun k _ => f1.2.1 k (fun q => nomatch q)
  have F110 : ∀ k ∈ [4, 22, 27, 73, 74, 75], w110.1 0 k = w70.1 0 k := fun k _ => f2.2.1 k (fun q => nomatch q)
  have F222 : ∀ k ∈ [4, 22, 27, 73, 74, 75], w222.1 0 k = w110.1 0 k := fun k _ => f3.2.1 k (fun q => nomatch q)
  have F308 : ∀ k ∈ [4, 22, 27, 73, 74, 75], w308.1 0 k = w222.1 0 k := fun k _ => f4.2.1 k (fun q => nomatch q)
  have T308 : ∀ k ∈ [4, 22, 27, 73, 74, 75], w308.1 0 k = (wA (wA (wA (wA (wA x 0 73 (x.1 0 12)) 0 74 (x.1 0 22)) 0 75 (x.1 0 27)) 0 76 (x.1 0 28)) 0 77 (x.1 0 69)).1 0 k := fun k hk => (F308 k hk).trans ((F222 k hk).trans ((F110 k hk).trans ((F70 k hk).trans (F42 k hk))))
  have nc : (x.1 0 22).toInt = (w110.1 0 22).toInt := congrArg Int32.toInt ((((F110 22 (by decide)).trans ((F70 22 (by decide)).trans (F42 22 (by decide))))).symm)
  have nd : (x.1 0 27).toInt = (w222.1 0 27).toInt := congrArg Int32.toInt ((((F222 27 (by decide)).trans ((F110 27 (by decide)).trans ((F70 27 (by decide)).trans (F42 27 (by decide)))))).symm)
  have ne : (x.1 0 4).toInt = (w308.1 0 4).toInt := congrArg Int32.toInt ((T308 4 (by decide)).symm)
  have iF : 0 ≤ kc.toInt ∧ accF x w110 kc.toInt := by
    refine RT.ind (fun (y : Int32 × MS) => 0 ≤ y.1.toInt ∧ accF x y.2 y.1.toInt) hr2 ⟨by show 0 ≤ (0 : Int32).toInt; omega, ⟨fun f hf => absurd (show (f : Int) < (0 : Int32).toInt from hf) (by omega), fun f hf => absurd (show (f : Int) < (0 : Int32).toInt from hf) (by omega), fun f hf => absurd (show (f : Int) < (0 : Int32).toInt from hf) (by omega), fun f hf => absurd (show (f : Int) < (0 : Int32).toInt from hf) (by omega), fun f hf => absurd (show (f : Int) < (0 : Int32).toInt from hf) (by omega)⟩⟩ ?_
    intro a b _ ⟨g0, g1, g2, g3, g4, g5⟩ hb
    obtain ⟨fa, ba, ca, rfl⟩ := hb
    have ea : (a.1 + (1 : Int32)).toInt = a.1.toInt + 1 := incq ca
    have A : ∀ i ∈ [3, 7, 8, 16, 17, 18, 19, 23, 24, 25, 26], a.2.1 i = x.1 i := fun i hi => (fa.2.2 i (by revert i; decide)).trans (E70 i hi)
    refine ⟨by show 0 ≤ (a.1 + (1 : Int32)).toInt; omega, fun f hf => ?_, fun f hf => ?_, fun f hf => ?_, fun f hf => ?_, fun f hf => ?_⟩ <;> have hf : (f : Int) < (a.1 + (1 : Int32)).toInt := hf <;> rw [ea] at hf
    · show upd (a.2.1 78) a.1.toNatClampNeg ((a.2.1 17) a.1.toNatClampNeg) f = _
      rw [A 17 (by decide)]
      exact cpy1 g0 g1 hf
    · show upd (a.2.1 79) a.1.toNatClampNeg ((a.2.1 18) a.1.toNatClampNeg) f = _
      rw [A 18 (by decide)]
      exact cpy1 g0 g2 hf
    · show upd (a.2.1 80) a.1.toNatClampNeg (4 * (a.2.1 19) a.1.toNatClampNeg) f = _
      rw [A 19 (by decide)]
      exact cpy1 (G := fun f => 4 * x.1 19 f) g0 g3 hf
    · show upd (a.2.1 83) a.1.toNatClampNeg ((a.2.1 7) ((a.2.1 16) a.1.toNatClampNeg).toNatClampNeg) f = _
      rw [A 7 (by decide), A 16 (by decide)]
      exact cpy1 (G := fun f => x.1 7 (x.1 16 f).toNatClampNeg) g0 g4 hf
    · show upd (a.2.1 84) a.1.toNatClampNeg ((a.2.1 8) ((a.2.1 16) a.1.toNatClampNeg).toNatClampNeg) f = _
      rw [A 8 (by decide), A 16 (by decide)]
      exact cpy1 (G := fun f => x.1 8 (x.1 16 f).toNatClampNeg) g0 g5 hf
  have iG : 0 ≤ kd.toInt ∧ accG x w222 kd.toInt := by
    refine RT.ind (fun (y : Int32 × MS) => 0 ≤ y.1.toInt ∧ accG x y.2 y.1.toInt) hr3 ⟨by show 0 ≤ (0 : Int32).toInt; omega, ⟨fun f hf => absurd (show (f : Int) < (0 : Int32).toInt from hf) (by omega), fun f hf => absurd (show (f : Int) < (0 : Int32).toInt from hf) (by omega), fun f hf => absurd (show (f : Int) < (0 : Int32).toInt from hf) (by omega), fun f hf => absurd (show (f : Int) < (0 : Int32).toInt from hf) (by omega), fun f hf => absurd (show (f : Int) < (0 : Int32).toInt from hf) (by omega)⟩⟩ ?_
    intro a b _ ⟨g0, g1, g2, g3, g4, g5⟩ hb
    obtain ⟨fa, ba, ca, rfl⟩ := hb
    have ea : (a.1 + (1 : Int32)).toInt = a.1.toInt + 1 := incq ca
    have A : ∀ i ∈ [3, 7, 8, 16, 17, 18, 19, 23, 24, 25, 26], a.2.1 i = x.1 i := fun i hi => (fa.2.2 i (by revert i; decide)).trans (E110 i hi)
    refine ⟨by show 0 ≤ (a.1 + (1 : Int32)).toInt; omega, fun f hf => ?_, fun f hf => ?_, fun f hf => ?_, fun f hf => ?_, fun f hf => ?_⟩ <;> have hf : (f : Int) < (a.1 + (1 : Int32)).toInt := hf <;> rw [ea] at hf
    · show upd (a.2.1 85) a.1.toNatClampNeg ((a.2.1 24) a.1.toNatClampNeg) f = _
      rw [A 24 (by decide)]
      exact cpy1 g0 g1 hf
    · show upd (a.2.1 86) a.1.toNatClampNeg ((a.2.1 25) a.1.toNatClampNeg) f = _
      rw [A 25 (by decide)]
      exact cpy1 g0 g2 hf
    · show upd (a.2.1 89) a.1.toNatClampNeg (vp_nar .boolean ((a.2.1 26) a.1.toNatClampNeg)) f = _
      rw [A 26 (by decide)]
      exact cpy1 (G := fun f => vp_nar .boolean (x.1 26 f)) g0 g3 hf
    · show upd (a.2.1 87) a.1.toNatClampNeg ((a.2.1 7) ((a.2.1 23) a.1.toNatClampNeg).toNatClampNeg) f = _
      rw [A 7 (by decide), A 23 (by decide)]
      exact cpy1 (G := fun f => x.1 7 (x.1 23 f).toNatClampNeg) g0 g4 hf
    · show upd (a.2.1 88) a.1.toNatClampNeg ((a.2.1 8) ((a.2.1 23) a.1.toNatClampNeg).toNatClampNeg) f = _
      rw [A 8 (by decide), A 23 (by decide)]
      exact cpy1 (G := fun f => x.1 8 (x.1 23 f).toNatClampNeg) g0 g5 hf
  have iT : 0 ≤ ke.toInt ∧ ∀ p : Nat, (p : Int) < ke.toInt → w308.1 90 p = x.1 3 p := by
    refine RT.ind (fun (y : Int32 × MS) => 0 ≤ y.1.toInt ∧ ∀ p : Nat, (p : Int) < y.1.toInt → y.2.1 90 p = x.1 3 p) hr4 ⟨by show 0 ≤ (0 : Int32).toInt; omega, fun f hf => absurd (show (f : Int) < (0 : Int32).toInt from hf) (by omega)⟩ ?_
    intro a b _ ⟨g0, g1⟩ hb
    obtain ⟨fa, ba, ca, rfl⟩ := hb
    have ea : (a.1 + (1 : Int32)).toInt = a.1.toInt + 1 := incq ca
    refine ⟨by show 0 ≤ (a.1 + (1 : Int32)).toInt; omega, fun f hf => ?_⟩
    have hf : (f : Int) < (a.1 + (1 : Int32)).toInt := hf
    rw [ea] at hf
    show upd (a.2.1 90) a.1.toNatClampNeg ((a.2.1 3) a.1.toNatClampNeg) f = _
    rw [(fa.2.2 3 (by decide)).trans (E222 3 (by decide))]
    exact cpy1 g0 g1 hf
  have K3 : ∀ a ∈ [78, 79, 80, 83, 84], w308.1 a = w110.1 a := fun a ha => (f4.2.2 a (by revert a; decide)).trans (f3.2.2 a (by revert a; decide))
  have K4 : ∀ a ∈ [85, 86, 87, 88, 89], w308.1 a = w222.1 a := fun a ha => f4.2.2 a (by revert a; decide)
  refine ⟨?_, ?_, ?_, ?_, ?_, fun p hp => iT.2 p (by omega)⟩
  · exact T308 73 (by decide)
  · exact T308 74 (by decide)
  · exact T308 75 (by decide)
  · obtain ⟨g1, g2, g3, g4, g5⟩ := iF.2
    refine ⟨fun f hf => (congrFun (K3 78 (by decide)) f).trans (g1 f (by omega)), fun f hf => (congrFun (K3 79 (by decide)) f).trans (g2 f (by omega)), fun f hf => (congrFun (K3 80 (by decide)) f).trans (g3 f (by omega)), fun f hf => (congrFun (K3 83 (by decide)) f).trans (g4 f (by omega)), fun f hf => (congrFun (K3 84 (by decide)) f).trans (g5 f (by omega))⟩
  · obtain ⟨g1, g2, g3, g4, g5⟩ := iG.2
    refine ⟨fun f hf => (congrFun (K4 85 (by decide)) f).trans (g1 f (by omega)), fun f hf => (congrFun (K4 86 (by decide)) f).trans (g2 f (by omega)), fun f hf => (congrFun (K4 89 (by decide)) f).trans (g3 f (by omega)), fun f hf => (congrFun (K4 87 (by decide)) f).trans (g4 f (by omega)), fun f hf => (congrFun (K4 88 (by decide)) f).trans (g5 f (by omega))⟩
theorem narb {b : Int32} (h : b = 0 ∨ b = 1) : vp_nar .boolean b = b := by
  rcases h with rfl | rfl <;> decide
/-- both: one datum -/
theorem dEq (S : SAL L1 L2 T L u u') (hL : L ≤ 4000) (hT : ∀ p, p < L → 0 ≤ (T p).toInt) : dC L1 L2 T L u = dM T L u' ∧ DG (dM T L u') ∧ ∀ p, p < L → u'.1 90 p = T p := by
  obtain ⟨u20, x, e, ⟨s1, s2, s3, s4, s5, s6⟩, ha, ⟨n1, n2, n3, n4, n5, n6⟩⟩ := S
  obtain ⟨a1, a2, a3, ⟨a4, a5, a6, a7, a8⟩, ⟨a9, aa, ab, ac, ad⟩, ae⟩ := accJ ha
  have u75 : u.1 0 375 = u20.1 0 375 := by rw [e]; rfl
  have u77 : u.1 0 377 = u20.1 0 377 := by rw [e]; rfl
  have ur : ∀ {l : List Nat} {f j : Nat}, rF l u f j = rF l u20 f j := fun {l f j} => by
    rw [e]
    show (if 5000 + rowA l f = 0 then _ else if 5000 + rowA l f = 0 then _ else if 5000 + rowA l f = 0 then _ else u20.1 (5000 + rowA l f)) j = _
    have : 5000 + rowA l f ≠ 0 := by omega
    simp only [if_neg this]
    rfl
  have q1 : (u.1 0 375).toInt = (u'.1 0 74).toInt := by rw [u75, a2]; exact s1
  have q2 : (u.1 0 377).toInt = (u'.1 0 75).toInt := by rw [u77, a3]; exact s2
  have m1 : (u'.1 0 74).toInt = (x.1 0 22).toInt := by rw [a2]
  have m2 : (u'.1 0 75).toInt = (x.1 0 27).toInt := by rw [a3]
  have nend : ∀ {p : Int32}, p.toNatClampNeg < L → ((NLE T L p.toNatClampNeg : Nat) : Int) ≤ 4000 := fun {p} h => by
    have := (NLE_le (T := T) (L := L) (p := p.toNatClampNeg) (by omega)).2
    omega
  have fF : ∀ f j : Nat, dft (dC L1 L2 T L u) f j = dft (dM T L u') f j := fun f j => by
    show (if (f : Int) < (u.1 0 375).toInt then (if j < 4 then rF L1 u f j else if j = 4 then nI (NLE T L (rF L1 u f 3).toNatClampNeg) else 0) else 0) = (if (f : Int) < (u'.1 0 74).toInt then (if j = 0 then u'.1 78 f else if j = 1 then u'.1 80 f else if j = 2 then u'.1 79 f else if j = 3 then u'.1 83 f else if j = 4 then u'.1 84 f else 0) else 0)
    rw [q1]
    by_cases hf : (f : Int) < (u'.1 0 74).toInt
    · rw [if_pos hf, if_pos hf]
      have hx : (f : Int) < (x.1 0 22).toInt := by omega
      obtain ⟨r1, r2, r3, r4⟩ := s5 f hx
      rw [← ur] at r1 r2 r3 r4
      have N5 := n5 f hx
      rcases (show j = 0 ∨ j = 1 ∨ j = 2 ∨ j = 3 ∨ j = 4 ∨ 5 ≤ j by omega) with rfl | rfl | rfl | rfl | rfl | h5
      · rw [if_pos (by decide), if_pos rfl, a4 f hx]; exact r1
      · rw [if_pos (by decide), if_neg (by decide), if_pos rfl, a6 f hx]; exact r4
      · rw [if_pos (by decide), if_neg (by decide), if_neg (by decide), if_pos rfl, a5 f hx]; exact r2
      · rw [if_pos (by decide), if_neg (by decide), if_neg (by decide), if_neg (by decide), if_pos rfl, a7 f hx]; exact r3
      · rw [if_neg (by decide), if_pos rfl, if_neg (by decide), if_neg (by decide), if_neg (by decide), if_neg (by decide), if_pos rfl, a8 f hx, r3]
        refine Int32.toInt_inj.mp ?_
        have := nend N5.2.1
        rw [nI_Z (by omega)]
        exact N5.2.2.symm
      · rw [if_neg (by omega), if_neg (by omega), if_neg (by omega), if_neg (by omega), if_neg (by omega), if_neg (by omega), if_neg (by omega)]
    · rw [if_neg hf, if_neg hf]
  have fG : ∀ f j : Nat, dgl (dC L1 L2 T L u) f j = dgl (dM T L u') f j := fun f j => by
    show (if (f : Int) < (u.1 0 377).toInt then (if j < 4 then rF L2 u f j else if j = 4 then nI (NLE T L (rF L2 u f 3).toNatClampNeg) else 0) else 0) = (if (f : Int) < (u'.1 0 75).toInt then (if j = 0 then u'.1 85 f else if j = 1 then 4 * u'.1 0 73 + 4 * u'.1 86 f else if j = 2 then u'.1 89 f else if j = 3 then u'.1 87 f else if j = 4 then u'.1 88 f else 0) else 0)
    rw [q2]
    by_cases hf : (f : Int) < (u'.1 0 75).toInt
    · rw [if_pos hf, if_pos hf]
      have hx : (f : Int) < (x.1 0 27).toInt := by omega
      obtain ⟨r1, r2, r3, r4⟩ := s6 f hx
      rw [← ur] at r1 r2 r3 r4
      have N5 := n6 f hx
      rcases (show j = 0 ∨ j = 1 ∨ j = 2 ∨ j = 3 ∨ j = 4 ∨ 5 ≤ j by omega) with rfl | rfl | rfl | rfl | rfl | h5
      · rw [if_pos (by decide), if_pos rfl, a9 f hx]; exact r1
      · rw [if_pos (by decide), if_neg (by decide), if_pos rfl, aa f hx, a1]; exact r2
      · rw [if_pos (by decide), if_neg (by decide), if_neg (by decide), if_pos rfl, ab f hx]; exact r3.trans (narb N5.2).symm
      · rw [if_pos (by decide), if_neg (by decide), if_neg (by decide), if_neg (by decide), if_pos rfl, ac f hx]; exact r4
      · rw [if_neg (by decide), if_pos rfl, if_neg (by decide), if_neg (by decide), if_neg (by decide), if_neg (by decide), if_pos rfl, ad f hx, r4]
        refine Int32.toInt_inj.mp ?_
        have := nend N5.1.2.1
        rw [nI_Z (by omega)]
        exact N5.1.2.2.symm
      · rw [if_neg (by omega), if_neg (by omega), if_neg (by omega), if_neg (by omega), if_neg (by omega), if_neg (by omega), if_neg (by omega)]
    · rw [if_neg hf, if_neg hf]
  have eq : dC L1 L2 T L u = dM T L u' := by
    have e2 : dft (dC L1 L2 T L u) = dft (dM T L u') := funext (fun f => funext (fF f))
    have e4 : dgl (dC L1 L2 T L u) = dgl (dM T L u') := funext (fun f => funext (fG f))
    exact Prod.ext q1 (Prod.ext e2 (Prod.ext q2 (Prod.ext e4 rfl)))
  have dF : ∀ f : Nat, (f : Int) < (x.1 0 22).toInt → dft (dM T L u') f 3 = x.1 7 (x.1 16 f).toNatClampNeg ∧ dft (dM T L u') f 4 = x.1 8 (x.1 16 f).toNatClampNeg := fun f hx => ⟨(if_pos (show (f : Int) < (u'.1 0 74).toInt by omega)).trans (a7 f hx), (if_pos (show (f : Int) < (u'.1 0 74).toInt by omega)).trans (a8 f hx)⟩
  have dGm : ∀ f : Nat, (f : Int) < (x.1 0 27).toInt → dgl (dM T L u') f 3 = x.1 7 (x.1 23 f).toNatClampNeg ∧ dgl (dM T L u') f 4 = x.1 8 (x.1 23 f).toNatClampNeg ∧ dgl (dM T L u') f 2 = x.1 26 f := fun f hx => ⟨(if_pos (show (f : Int) < (u'.1 0 75).toInt by omega)).trans (ac f hx), (if_pos (show (f : Int) < (u'.1 0 75).toInt by omega)).trans (ad f hx), (if_pos (show (f : Int) < (u'.1 0 75).toInt by omega)).trans ((ab f hx).trans (narb (n6 f hx).2))⟩
  refine ⟨eq, ⟨?_, ?_, fun f hf => ?_, fun g hg => ?_, hL, hT⟩, fun p hp => (ae p (by omega)).trans (n2 p hp)⟩
  · show 0 ≤ (u'.1 0 74).toInt ∧ (u'.1 0 74).toInt ≤ 40
    omega
  · show 0 ≤ (u'.1 0 75).toInt ∧ (u'.1 0 75).toInt ≤ 60
    omega
  · have hx : (f : Int) < (x.1 0 22).toInt := by rw [← m1]; exact hf
    have N5 := n5 f hx
    unfold NMD
    rw [(dF f hx).1, (dF f hx).2]
    exact N5
  · have hx : (g : Int) < (x.1 0 27).toInt := by rw [← m2]; exact hg
    have N5 := n6 g hx
    unfold NMD
    rw [(dGm g hx).1, (dGm g hx).2.1, (dGm g hx).2.2]
    exact N5
/-- the class's text, loaded -/
theorem loadT (hr : r.toInt = 0) (h4 : L ≤ 4000) (hv : (v.1 0 391).toInt = L) (hT : ∀ p, p < L → v.1 299 p = T p) (hc : Q_x_X11_load L1 L2 N v ps r u) : (u.1 0 373).toInt = L ∧ ∀ p, p < L → u.1 372 p = T p := by
  obtain ⟨u2, h2, k2, hc⟩ := hc
  have e2 : u2 = (fun b9 => if b9 = 372 then (va_cpy (v.1 299) (v.1 372) (0 : Int32).toNatClampNeg (0 : Int32).toNatClampNeg (v.1 0 391).toNatClampNeg) else (wA v 0 373 (v.1 0 391)).1 b9, (wA v 0 373 (v.1 0 391)).2) := by
    rcases h2 with ⟨a, -⟩ | ⟨-, ⟨a, -⟩ | ⟨-, -, u17, e, e'⟩⟩
    · omega
    · omega
    · rw [e', e]
  have n391 := natI (a := v.1 0 391) (by omega)
  have c1 : (u2.1 0 373).toInt = L := by rw [e2]; exact hv
  have c2 : ∀ p, p < L → u2.1 372 p = T p := fun p hp => by
    rw [e2]
    show va_cpy (v.1 299) (v.1 372) _ _ (v.1 0 391).toNatClampNeg p = T p
    rw [cpyq_lt (by omega)]
    exact hT p hp
  have fin : ∀ {z : MS}, z.1 0 373 = u2.1 0 373 → z.1 372 = u2.1 372 → (z.1 0 373).toInt = L ∧ ∀ p, p < L → z.1 372 p = T p := fun a b => ⟨by rw [a]; exact c1, fun p hp => by rw [b]; exact c2 p hp⟩
  rcases hc with ⟨u9, h9, c9, -, e1, e5⟩ | ⟨u5, h5, k5, -, r21, u20, h20, k20, hc⟩
  · rw [e1] at hr
    exact absurd hr c9
  · have g73 : u20.1 0 373 = u2.1 0 373 := (k20.2.1 373 (by decide)).trans ((k5.1.2.1 373 (by decide)).trans rfl)
    have g72 : u20.1 372 = u2.1 372 := (k20.2.2 372 (by decide)).trans ((k5.1.2.2 372 (by decide)).trans rfl)
    rcases hc with ⟨-, -, u30, f30, -, -, e5⟩ | ⟨-, -, e5⟩
    · have f30 : u30 = wA (wA (wA u20 0 392 (u20.1 0 393)) 0 393 (u20.1 0 392)) 0 361 0 := f30
      rw [e5, f30]
      exact fin g73 g72
    · rw [e5]
      exact fin g73 g72
/-- the reference's tables, if the load is refused -/
theorem mNo (hr : r.toInt ≠ 0) (hm : Q_m_load w N r u) : (∀ a ∈ [78, 79, 80, 83, 84, 85, 86, 87, 88, 89, 90], u.1 a = w.1 a) ∧ ∀ k ∈ [73, 74, 75], u.1 0 k = w.1 0 k := by
  obtain ⟨-, ka, w20, hr0, fr, hk, cx, u11, hc, kc, h⟩ := hm
  have TB : ∀ a ∈ [78, 79, 80, 83, 84, 85, 86, 87, 88, 89, 90], u11.1 a = w.1 a := fun a ha => (kc.2.2 a (by revert a; decide)).trans ((show (wA (wA w20 0 91 0) 0 92 (-1)).1 a = w20.1 a by
    have : a ≠ 0 := by revert a; decide
    show (if a = 0 then _ else if a = 0 then _ else w20.1 a) = w20.1 a
    rw [if_neg this, if_neg this]).trans ((fr.2.2 a (by revert a; decide)).trans (by
    have : a ≠ 0 := by revert a; decide
    show (if a = 0 then _ else if a = 0 then _ else if a = 0 then _ else w.1 a) = w.1 a
    rw [if_neg this, if_neg this, if_neg this])))
  have TF : ∀ k ∈ [73, 74, 75], u11.1 0 k = w.1 0 k := fun k hk => (kc.2.1 k (by revert k; decide)).trans ((show (wA (wA w20 0 91 0) 0 92 (-1)).1 0 k = w20.1 0 k from (pk_un (by revert k; decide)).trans (pk_un (by revert k; decide))).trans ((fr.2.1 k (fun q => nomatch q)).trans ((pk_un (by revert k; decide)).trans ((pk_un (by revert k; decide)).trans (pk_un (by revert k; decide))))))
  have f91 : u11.1 0 91 = 0 := (kc.2.1 91 (by decide)).trans rfl
  rcases h with ⟨x, hw, kx, e1, e2⟩ | ⟨x, hw, kw, u37, ha, kA, e1, e2⟩
  · refine ⟨fun a ha => ?_, fun k hk => ?_⟩
    · rw [e2]
      refine Eq.trans ?_ ((kx.2.2 a (by revert a; decide)).trans (TB a ha))
      have : a ≠ 0 := by revert a; decide
      show (if a = 0 then _ else if a = 0 then _ else x.1 a) = x.1 a
      rw [if_neg this, if_neg this]
    · rw [e2]
      exact ((pk_un (by revert k; decide)).trans (pk_un (by revert k; decide))).trans ((kx.2.1 k (by revert k; decide)).trans (TF k hk))
  · have x91 : x.1 0 91 = 0 := (kw.2.1 91 (by decide)).trans f91
    have u91 : u37.1 0 91 = 0 := (kA.1.2.1 91 (by decide)).trans x91
    rw [e1, u91] at hr
    exact absurd (by decide) hr
end ACC
