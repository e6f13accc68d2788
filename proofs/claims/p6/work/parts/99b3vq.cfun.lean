/-! the class's deeds: a function -/
theorem ldL_rsr : ∀ (a : List EV) (R : D3), ldL (rsr R a) = ldL a
  | [], _ => rfl
  | q :: l, R => by
    show ldL ((if q.1 = 32 then (33, 0, 0, R.1, R.2.1, R.2.2) else q) :: rsr (d3s R q) l) = _
    rw [ldL_cons, ldL_cons, ldL_rsr l]
    congr 1
    by_cases c : q.1 = 32
    · rw [if_pos c]
      unfold ldE
      rw [if_neg (show ¬ q.1 = 25 by rw [c]; decide)]
      rfl
    · rw [if_neg c]
/-- a function's deeds -/
def fnE (k : Int32) (b : List EV) : List EV := [evx 0 k 0] ++ (rsr (d3p (b ++ [evx 2 0 0])) b ++ [evx 2 0 0] ++ [evx 1 0 0])
section VQF
variable {L1 L2 : List Nat} {P P' : Int32 × Int32 × Int32} {v u w x y s : MS} {a b c : List EV} {e : PE} {pa pb pc1 r r3 r7 k i z : Int32} {n N p : Nat} {lo lo' cl : Int} {S : EvS}
theorem MTq.rsr2 (h1 : P'.1.toInt = -1) (h2 : P'.2.1.toInt = -1) (h3 : P'.2.2.toInt = N) (hl : lo' ≤ N ∧ (N : Int) < (u.1 0 317).toInt) (hlo : lo' ≤ lo) : ∀ (a : List EV) (R : D3) (p : Nat), ((N : Int) < 1500 → (u.1 316 N).toInt = p + R.1) → MTq P' u lo cl p a → MTq P u lo' cl p (rsr R a)
  | [], _, _, _, _ => MTq.nil
  | q :: l, R, p, hR, h => by
    have H := h.hd
    have T := MTq.rsr2 h1 h2 h3 hl hlo l (d3s R q) (p + ldE q) (fun g => by rw [hR g]; show _ = ((p + ldE q : Nat) : Int) + (R.1 - ldE q); omega) H.2
    show MTq P u lo' cl p ((if q.1 = 32 then (33, 0, 0, R.1, R.2.1, R.2.2) else q) :: rsr (d3s R q) l)
    obtain ⟨m1, m2⟩ := H.1
    by_cases c : q.1 = 32
    · rw [if_pos c]
      have d : ldE q = 1 := if_neg (by rw [c]; decide)
      rw [d] at T m1
      rw [c] at m2
      have m2 : u.1 378 p = 19 ∧ u.1 380 p = 0 ∧ u.1 379 p = P'.2.2 := m2
      refine MTq.cons ⟨m1, ?_⟩ T
      show u.1 378 p = 19 ∧ u.1 380 p = 0 ∧ (lo' ≤ (u.1 379 p).toInt ∧ 0 ≤ (u.1 379 p).toInt ∧ (u.1 379 p).toInt < (u.1 0 317).toInt) ∧ ((u.1 379 p).toInt < 1500 → (u.1 316 (u.1 379 p).toNatClampNeg).toInt = p + R.1)
      rw [m2.2.2, natC h3, h3]
      exact ⟨m2.1, m2.2.1, ⟨by omega, by omega, by omega⟩, hR⟩
    · rw [if_neg c]
      refine MTq.cons ?_ T
      have H1 : mtE P' u lo' cl q p := H.1.ky (KY.rf (l1 := (u.1 0 317).toInt)) (Int.le_refl _) hlo (Int.le_refl _)
      refine ⟨H1.1, ?_⟩
      have m3 := H1.2
      by_cases c0 : q.1 = 25
      · rw [if_pos c0]; trivial
      rw [if_neg c0] at m3 ⊢
      by_cases c1 : q.1 = 16 ∨ q.1 = 17 ∨ q.1 = 18 ∨ q.1 = 19
      · rw [if_pos c1] at m3 ⊢; exact m3
      rw [if_neg c1] at m3 ⊢
      by_cases c2 : q.1 = 30
      · rw [if_pos c2] at m3
        exact absurd h1 m3.2.2.2
      rw [if_neg c2] at m3 ⊢
      by_cases c3 : q.1 = 31
      · rw [if_pos c3] at m3
        exact absurd h2 m3.2.2.2
      rw [if_neg c3] at m3 ⊢
      rw [if_neg c] at m3 ⊢
      exact m3
theorem EA.fun (h : EAs ((N : Int) + 1) s u [.inl (P', b), .inl (P, [evx 2 0 0]), .inr (.inr N), .inl (P, [evx 1 0 0])]) (hN : (s.1 0 317).toInt = N) (h0 : 0 ≤ (s.1 0 381).toInt) (p1 : P'.1.toInt = -1) (p2 : P'.2.1.toInt = -1) (p3 : P'.2.2.toInt = N) (hd : (u.1 0 317).toInt - (u.1 0 305).toInt ≤ (s.1 0 317).toInt - (s.1 0 305).toInt) : EA P s u (rsr (d3p (b ++ [evx 2 0 0])) b ++ [evx 2 0 0] ++ [evx 1 0 0]) := by
  obtain ⟨a1, a2, a3, a4, -⟩ := h
  have n0 := natI h0
  generalize hp : (s.1 0 381).toNatClampNeg = p at a4 n0
  obtain ⟨m1, m2, m3, m4, -⟩ := a4
  have k2 : ldL [evx 2 0 0] = 1 := rfl
  have k1 : ldL [evx 1 0 0] = 1 := rfl
  have m1 : MTq P' u (N + 1) (s.1 0 321).toInt p b := m1
  have m2 : MTq P u (N + 1) (s.1 0 321).toInt (p + ldL b) [evx 2 0 0] := m2
  have m3 : (N : Int) < 1500 → (u.1 316 N).toInt = ((p + ldL b + 1 : Nat) : Int) := m3
  have m4 : MTq P u (N + 1) (s.1 0 321).toInt (p + ldL b + 1) [evx 1 0 0] := m4
  have e1 : (u.1 0 381).toInt = (s.1 0 381).toInt + (ldL b + 1 + 1 : Nat) := by
    rw [a1]
    show _ + ((ldL b + (1 + (0 + (1 + 0))) : Nat) : Int) = _
    omega
  have R : MTq P u (s.1 0 317).toInt (s.1 0 321).toInt p (rsr (d3p (b ++ [evx 2 0 0])) b) := by
    refine MTq.rsr2 (P' := P') (N := N) p1 p2 p3 ⟨by omega, by omega⟩ (by omega) b _ p (fun g => ?_) m1
    rw [m3 g]
    show _ = (p : Int) + (ldL (b ++ [evx 2 0 0]) : Int)
    rw [ldL_app, k2]
    omega
  refine ⟨?_, a2, hd, ?_⟩
  · rw [e1, ldL_app, ldL_app, ldL_rsr, k2, k1]
  · rw [hp]
    refine MTq.app (MTq.app R ?_) ?_
    · rw [ldL_rsr]
      exact m2.lw (by omega)
    · rw [ldL_app, ldL_rsr, k2, ← Nat.add_assoc]
      exact m4.lw (by omega)
/-- a function's facts are changed -/
theorem JC.cf (rd : RD L1 L2) (J : JC L2 e w) (hq : Q_x_X7_changeFunction L1 L2 w k i z y) (hk : 0 ≤ k.toInt ∧ k.toInt < 40) (hi : 0 ≤ i.toInt ∧ i.toInt < 6) : JC L2 e y ∧ y.1 0 = w.1 0 ∧ EA P w y [] ∧ knC y = knC w ∧ (∀ b, b < 5000 → y.1 b = w.1 b) := by
  have hy := cCF hq hk hi
  have n7 := natI J.2.2.1
  have nk := natI hk.1
  have lo : ∀ b, b < 5000 → y.1 b = w.1 b := fun b hb => by rw [hy]; exact wA_lo hb
  have e0 : y.1 0 = w.1 0 := lo 0 (by decide)
  have JJ : JC L2 e y := by
    refine ⟨?_, by rw [e0]; exact J.2.1, by rw [e0]; exact J.2.2⟩
    rw [hy]
    refine (eC_row (fun g hg => ?_)).trans J.1
    have hg : g < (w.1 0 377).toNatClampNeg := hg
    exact fun q => rd.1 k.toNatClampNeg g (by omega) (by have := J.2.2.2; omega) q.symm
  have G : ∀ j, y.1 0 j = w.1 0 j := fun j => congrFun e0 j
  refine ⟨JJ, e0, ⟨by rw [G 381, ldL_nil]; omega, ⟨by rw [G 381]; exact Int.le_refl _, fun j _ => ⟨by rw [lo 378 (by decide)], by rw [lo 379 (by decide)], by rw [lo 380 (by decide)]⟩, by rw [G 317]; exact Int.le_refl _, fun l _ => by rw [lo 316 (by decide)], by rw [G 321]; exact Int.le_refl _, fun c _ _ => ⟨by rw [lo 318 (by decide)], by rw [lo 320 (by decide)]⟩⟩, by rw [G 317, G 305]; exact Int.le_refl _, MTq.nil⟩, ?_, lo⟩
  unfold knC
  rw [G 312, lo 311 (by decide)]
end VQF
