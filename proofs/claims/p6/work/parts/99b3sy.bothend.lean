/-! both: what a text that is read leaves -/
section BTE
variable {L1 L2 : List Nat} {T : Nat → Int32} {L n N : Nat} {v u w x u3 v2 u10 u11 : MS} {ps r : Int32} {t s : Bool} {K : TK}
/-- functions, globals, words, the limit: alike -/
def SAM (L1 L2 : List Nat) (u3 x : MS) : Prop := (u3.1 0 375).toInt = (x.1 0 22).toInt ∧ (u3.1 0 377).toInt = (x.1 0 27).toInt ∧ u3.1 0 383 = x.1 0 12 ∧ u3.1 0 384 = x.1 0 69 ∧ (∀ f : Nat, (f : Int) < (x.1 0 22).toInt → rF L1 u3 f 0 = x.1 17 f ∧ rF L1 u3 f 2 = x.1 18 f ∧ rF L1 u3 f 3 = x.1 7 (x.1 16 f).toNatClampNeg ∧ rF L1 u3 f 1 = 4 * x.1 19 f) ∧ (∀ g : Nat, (g : Int) < (x.1 0 27).toInt → rF L2 u3 g 0 = x.1 24 g ∧ rF L2 u3 g 1 = 4 * x.1 0 12 + 4 * x.1 25 g ∧ rF L2 u3 g 2 = x.1 26 g ∧ rF L2 u3 g 3 = x.1 7 (x.1 23 g).toNatClampNeg)
set_option maxHeartbeats 1600000 in
theorem endJ (rd : RD L1 L2) (hN : N ≤ 4096) {u2 : MS} {y : IS} {W : Nat → Int32} {Wm : Nat → Int32} {wm : MS} (H : LEX T L n u2 u11) (c1 : tText SP (kC u2) X0 = .ok y) (C : CIq L1 L2 (kC u2) W w y) (ov : ovC w = false) (z21 : 0 ≤ (w.1 0 321).toInt ∧ (w.1 0 321).toInt ≤ 501) (hl : Q_x_X1_link L1 L2 w u) (R : RIq n (kC u2) Wm wm y) (om : ovM wm = false) (R7 : RT7 wm x y N s (kC u2)) (A : AB w u v2) (h35 : (v2.1 0 335).toInt = 4 * N) (ha : Q_x_X0_assemble L1 L2 N v2 ps r u3) :
    (r = 1 ∧ s = false ∧ SAM L1 L2 u3 x) ∨ (r = 0 ∧ s = true ∧ x.1 0 50 = 7 ∧ (x.1 0 51).toInt = L) := by
  have ti := tText_inv c1
  have E := cEnd rd C ov z21 hl ti.2 (k_items PN0 ti.1) A ha
  obtain ⟨S, e83, e84, eg, room⟩ := E
  obtain ⟨rJ, rx, rf, rg, rb, rD, rW, rnd, rV, r28, r25⟩ := R
  obtain ⟨t1, tf, tb, t69, t7⟩ := R7
  have f27 : x.1 0 27 = wm.1 0 27 := tf.2.1 27 (by decide)
  have f22 : x.1 0 22 = wm.1 0 22 := tf.2.1 22 (by decide)
  have f28 : x.1 0 28 = wm.1 0 28 := tf.2.1 28 (by decide)
  have fa : ∀ a ∈ [7, 16, 17, 18, 19, 23, 24, 25, 26], x.1 a = wm.1 a := fun a ha => tf.2.2 a (by revert a; decide)
  have wd : pWd y.1 = wm.1 0 12 := by
    rw [rx]
    show (if ovM wm = true then 0 else wm.1 0 12) = _
    rw [om, if_neg Bool.false_ne_true]
  have wt : wtot y = x.1 0 12 := by
    refine Int32.toInt_inj.mp ?_
    rw [← t1]
    unfold wtot
    rw [wd]
    by_cases a : pMu y.1 = true
    · rw [if_pos a, if_pos a]
      have m1 : (wm.1 0 12 + 10).toInt = (wm.1 0 12).toInt + 10 := add_z rfl (by decide) (by omega) (by omega)
      by_cases b : pDi y.1 = true
      · rw [if_pos b, if_pos b]
        have m2 : (wm.1 0 12 + 10 + 26).toInt = (wm.1 0 12 + 10).toInt + 26 := add_z rfl (by decide) (by omega) (by omega)
        omega
      · rw [if_neg b, if_neg b, Int32.add_zero]
        omega
    · rw [if_neg a, if_neg a, Int32.add_zero]
      by_cases b : pDi y.1 = true
      · rw [if_pos b, if_pos b]
        have m2 : (wm.1 0 12 + 26).toInt = (wm.1 0 12).toInt + 26 := add_z rfl (by decide) (by omega) (by omega)
        omega
      · rw [if_neg b, if_neg b, Int32.add_zero]
        omega
  have gt : gto y.2.2 = x.1 0 28 := by rw [f28]; exact r28.symm
  have i2 : (if pMu y.1 = true then (10 : Int) else 0) ≤ 10 ∧ 0 ≤ (if pMu y.1 = true then (10 : Int) else 0) := by split <;> omega
  have i3 : (if pDi y.1 = true then (26 : Int) else 0) ≤ 26 ∧ 0 ≤ (if pDi y.1 = true then (26 : Int) else 0) := by split <;> omega
  have b12 : 0 ≤ (x.1 0 12).toInt ∧ (x.1 0 12).toInt ≤ 30036 := by omega
  have b28 : 0 ≤ (x.1 0 28).toInt ∧ (x.1 0 28).toInt ≤ 60000 := by rw [f28]; exact tb.2
  have lim : (4 * (wtot y + gto y.2.2) + 64).toInt = 4 * ((x.1 0 12).toInt + (x.1 0 28).toInt) + 64 := by
    rw [wt, gt]
    have m1 : (x.1 0 12 + x.1 0 28).toInt = (x.1 0 12).toInt + (x.1 0 28).toInt := add_z rfl rfl (by omega) (by omega)
    have m2 : (4 * (x.1 0 12 + x.1 0 28)).toInt = 4 * (x.1 0 12 + x.1 0 28).toInt := mul_z (by decide) rfl (by omega) (by omega)
    have m3 : (4 * (x.1 0 12 + x.1 0 28) + 64).toInt = (4 * (x.1 0 12 + x.1 0 28)).toInt + 64 := add_z rfl (by decide) (by omega) (by omega)
    omega
  rw [lim, h35] at room
  have eN := nI_N hN
  rw [eN] at t7
  rcases room with ⟨e1, c⟩ | ⟨e1, c⟩
  · rcases t7 with ⟨e2, d⟩ | ⟨-, d, -⟩
    rotate_left
    · omega
    refine Or.inl ⟨e1, e2, ?_⟩
    have Cf := C.2.2.2.1
    have Cg := C.2.2.2.2.1
    rw [rf] at Cf
    rw [rg] at Cg
    have Ef := rng_eq Cf
    have Eg := rng_eq Cg
    have nf : (w.1 0 375).toInt = (wm.1 0 22).toInt := by
      have a := natI C.2.2.1.1
      have b := natI rb.1.1
      have : nFm wm = nF w := Ef.1
      unfold nFm nF at this
      omega
    have g60 : 0 ≤ (w.1 0 377).toInt ∧ (w.1 0 377).toInt ≤ 60 := (C.1 (pv L1 w)).1.2.2
    have ng : (w.1 0 377).toInt = (wm.1 0 27).toInt := by
      have a := natI g60.1
      have b := natI rb.2.1
      have : nGm wm = nG w := Eg.1
      unfold nGm nG at this
      omega
    have u75 : u3.1 0 375 = w.1 0 375 := S.1.2.2.1 375 (by decide)
    have u77 : u3.1 0 377 = w.1 0 377 := S.1.2.2.1 377 (by decide)
    have row : ∀ {l : List Nat} {f j : Nat}, j ≠ 1 → rF l u3 f j = rF l w f j := fun hj => S.1.2.2.2 _ (by omega) _ hj
    have pl9 : ∀ {i : Int32}, NT n (kC u2) i → (kC u2).2.2 i = x.1 7 i.toNatClampNeg := fun {i} hi => by
      rw [fa 7 (by decide)]
      exact (rJ.1.1 i hi.1 hi.2.1).2.1
    refine ⟨by rw [u75, nf, f22], by rw [u77, ng, f27], by rw [e83, wt], by rw [e84, wt, gt, t69], fun f hf => ?_, fun g hg => ?_⟩
    · rw [f22] at hf
      have b := natI rb.1.1
      have fl : f < nFm wm := by unfold nFm; omega
      have E := Ef.2 f fl
      have q1 := congrArg (fun z : FN => z.2.2.1) E
      have q2 := congrArg (fun z : FN => z.2.2.2.1) E
      have q3 := congrArg (fun z : FN => z.2.1) E
      have q1 : wm.1 17 f = rF L1 w f 0 := q1
      have q2 : wm.1 18 f = rF L1 w f 2 := q2
      have q3 : (kC u2).2.2 (wm.1 16 f) = rF L1 w f 3 := q3
      have q5 := congrArg (fun z : FN => z.2.2.2.2) E
      have q5 : Wm f = W f := q5
      have fw : f < nF w := by have : nFm wm = nF w := Ef.1; omega
      have we := C.2.2.2.2.2.2.1
      have uq := C.2.2.2.2.2.2.2
      obtain ⟨w1, w2, w3, w4, w5⟩ := we f fw
      obtain ⟨m, mc, w6⟩ := w5 ov
      have pf : PF L1 (p9 L1 w) w := fun f hf2 => p9_f (by have := natI C.2.2.1.1; unfold nF at hf2; omega) z21.2
      have w7 := w6 _ pf
      have cs : csum (p9 L1 w) [] (w.1 320) m = 0 := csum_p9 (by have := natI z21.1; unfold nC at mc; omega)
      rw [cs, Int32.add_zero] at w7
      have nk := natI w1
      have nd := natI (a := w.1 0 381) (by omega)
      have ad : rF L1 u3 f 1 = 4 * wm.1 19 f := by
        have f40 : f < 40 := by omega
        have z := S.2.2.2.2.2 f f40 (rF L1 w f 5).toNatClampNeg (by unfold nD; omega) ⟨w3, w4⟩ (fun k' h1 h2 h3 => by
          obtain ⟨f', g1, g2⟩ := uq ov k' (by unfold nD at h2; omega) h3.1
          obtain ⟨-, -, -, g4, -⟩ := we f' g1
          rw [← g2, h3.2] at g4
          have : f = f' := by omega
          rw [← this] at g2
          omega)
        rw [z, ← w7, ← q5, rW om f fl]
      rw [ad, row (by decide), row (by decide), row (by decide), fa 17 (by decide), fa 18 (by decide), fa 16 (by decide), fa 19 (by decide), ← pl9 (rD.1 f fl)]
      exact ⟨q1.symm, q2.symm, q3.symm, rfl⟩
    · rw [f27] at hg
      have b := natI rb.2.1
      have gl : g < nGm wm := by unfold nGm; omega
      have E := Eg.2 g gl
      have q1 := congrArg (fun z : GN => z.2.2.1) E
      have q2 := congrArg (fun z : GN => z.2.2.2) E
      have q3 := congrArg (fun z : GN => z.2.1) E
      have q1 : wm.1 24 g = rF L2 w g 0 := q1
      have q2 : wm.1 26 g = rF L2 w g 2 := q2
      have q3 : (kC u2).2.2 (wm.1 23 g) = rF L2 w g 3 := q3
      have ad : rF L2 u3 g 1 = 4 * x.1 0 12 + 4 * wm.1 25 g := by
        have z := eg g (by have : nGm wm = nG w := Eg.1; omega)
        rw [z, wt, r25 g gl, Int32.mul_add]
      rw [ad, row (by decide), row (by decide), row (by decide), fa 24 (by decide), fa 25 (by decide), fa 26 (by decide), fa 23 (by decide), ← pl9 (rJ.2.2.2.2.2.1 g (by omega)).1]
      exact ⟨q1.symm, rfl, q2.symm, q3.symm⟩
  · rcases t7 with ⟨-, d⟩ | ⟨e2, d, e5⟩
    · omega
    refine Or.inr ⟨e1, e2, congrArg Prod.fst e5, ?_⟩
    have e51 : x.1 0 51 = pl (mkE (kC u2) y.2.2) y.1 := congrArg Prod.snd e5
    rw [e51]
    have ok := ti.1
    refine endPl H ok ?_ ?_
    · rw [rx]
      show (wm.1 0 47).toInt < n ∧ 0 ≤ (wm.1 0 47).toInt
      exact ⟨rJ.2.2.2.1.2.2.1, rJ.2.2.2.1.2.1⟩
    · exact tItems_end ok
end BTE
