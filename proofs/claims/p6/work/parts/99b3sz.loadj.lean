/-! both: load answers alike -/
section LDJ
variable {L1 L2 : List Nat} {T : Nat → Int32} {L N : Nat} {v u w u' : MS} {ps r r' : Int32}
theorem cpyq_lt {f g : Nat → Int32} {n p : Nat} (h : p < n) : va_cpy f g (0 : Int32).toNatClampNeg (0 : Int32).toNatClampNeg n p = f p := by
  have z : (0 : Int32).toNatClampNeg = 0 := by decide
  rw [z]
  unfold va_cpy
  rw [if_pos ⟨Nat.zero_le _, by omega⟩]
  congr 1
  omega
/-- names, the text, as the reference has them -/
def NMA (T : Nat → Int32) (L : Nat) (x : MS) (i : Int32) : Prop := 0 ≤ (x.1 7 i.toNatClampNeg).toInt ∧ (x.1 7 i.toNatClampNeg).toNatClampNeg < L ∧ (x.1 8 i.toNatClampNeg).toInt = ((NLE T L (x.1 7 i.toNatClampNeg).toNatClampNeg : Nat) : Int)
def SN (T : Nat → Int32) (L : Nat) (x : MS) : Prop := (x.1 0 4).toInt = L ∧ (∀ p, p < L → x.1 3 p = T p) ∧ (0 ≤ (x.1 0 22).toInt ∧ (x.1 0 22).toInt ≤ 40) ∧ (0 ≤ (x.1 0 27).toInt ∧ (x.1 0 27).toInt ≤ 60) ∧ (∀ f : Nat, (f : Int) < (x.1 0 22).toInt → NMA T L x (x.1 16 f)) ∧ (∀ g : Nat, (g : Int) < (x.1 0 27).toInt → NMA T L x (x.1 23 g) ∧ (x.1 26 g = 0 ∨ x.1 26 g = 1))
theorem snJ {n : Nat} {u2 u11 x wm : MS} {y : IS} {Wm : Nat → Int32} {s : Bool} (H : LEX T L n u2 u11) (R : RIq n (kC u2) Wm wm y) (R7 : RT7 wm x y N s (kC u2)) (kw : K_m_walk u11 x) : SN T L x := by
  obtain ⟨H1, H2, H3, H4, H5, H6⟩ := H
  obtain ⟨rJ, rx, rf, rg, rb, rD, rW, rnd, rV, r28, r25⟩ := R
  obtain ⟨t1, tf, tb, t69, t7⟩ := R7
  have f27 : x.1 0 27 = wm.1 0 27 := tf.2.1 27 (by decide)
  have f22 : x.1 0 22 = wm.1 0 22 := tf.2.1 22 (by decide)
  have fa : ∀ a ∈ [7, 8, 16, 23, 26], x.1 a = wm.1 a := fun a ha => tf.2.2 a (by revert a; decide)
  have e4 : x.1 0 4 = u11.1 0 4 := kw.2.1 4 (by decide)
  have e3 : x.1 3 = u11.1 3 := kw.2.2 3 (by decide)
  have e7 : x.1 7 = u11.1 7 := kw.2.2 7 (by decide)
  have e8 : x.1 8 = u11.1 8 := kw.2.2 8 (by decide)
  have nm : ∀ {i : Int32}, NT n (kC u2) i → NMA T L x i := fun {i} hi => by
    obtain ⟨i0, i1, i2⟩ := hi
    have ni := natI i0
    have hj : i.toNatClampNeg < n := by omega
    have A := H3 _ hj
    have k1 : (kC u2).1 i = u2.1 301 i.toNatClampNeg := if_pos (by rw [H5]; exact i1)
    have a5 := A.2.2.2.2.2.1 (by rw [← k1]; exact i2)
    have ep : x.1 7 i.toNatClampNeg = u2.1 302 i.toNatClampNeg := by rw [e7]; exact A.2.1.symm
    unfold NMA
    rw [ep, e8]
    exact ⟨a5.1, a5.2.1, a5.2.2.2⟩
  refine ⟨by rw [e4]; exact H2.1, fun p hp => by rw [e3]; exact H2.2.2.1 p hp, by rw [f22]; exact rb.1, by rw [f27]; exact rb.2, fun f hf => ?_, fun g hg => ?_⟩
  · rw [fa 16 (by decide)]
    rw [f22] at hf
    have b := natI rb.1.1
    exact nm (rD.1 f (by unfold nFm; omega))
  · rw [fa 23 (by decide), fa 26 (by decide)]
    rw [f27] at hg
    have q := rJ.2.2.2.2.2.1 g hg
    exact ⟨nm q.1, q.2⟩
/-- what a load that ends well leaves, in both -/
def SAL (L1 L2 : List Nat) (T : Nat → Int32) (L : Nat) (u u' : MS) : Prop := ∃ u20 x, u = wA (wA (wA u20 0 392 (u20.1 0 393)) 0 393 (u20.1 0 392)) 0 361 0 ∧ SAM L1 L2 u20 x ∧ Q_m_accept x u' ∧ SN T L x
theorem loadJ (rd : RD L1 L2) (hN : N ≤ 4096) (h4 : L ≤ 4000) (hv : (v.1 0 391).toInt = L) (hw : (w.1 0 2).toInt = L) (hT : ∀ p, p < L → v.1 299 p = T p ∧ w.1 1 p = T p ∧ 0 ≤ (T p).toInt) (h35 : (v.1 0 335).toInt = 4 * N) (hc : Q_x_X11_load L1 L2 N v ps r u) (hm : Q_m_load w N r' u') :
    r = r' ∧ u.1 0 396 = u'.1 0 91 ∧ u.1 0 397 = u'.1 0 92 ∧ r = u.1 0 396 ∧ (r.toInt = 0 → SAL L1 L2 T L u u') := by
  obtain ⟨u2, h2, k2, hc⟩ := hc
  obtain ⟨u10, u11, Y, hcut, hm⟩ := mCopy hw h4 (fun p hp => (hT p hp).2) hm
  have e2 : u2 = (fun b9 => if b9 = 372 then (va_cpy (v.1 299) (v.1 372) (0 : Int32).toNatClampNeg (0 : Int32).toNatClampNeg (v.1 0 391).toNatClampNeg) else (wA v 0 373 (v.1 0 391)).1 b9, (wA v 0 373 (v.1 0 391)).2) := by
    rcases h2 with ⟨a, -⟩ | ⟨-, ⟨a, -⟩ | ⟨-, -, u17, e, e'⟩⟩
    · omega
    · omega
    · rw [e', e]
  have n391 := natI (a := v.1 0 391) (by omega)
  have X : TXC T L (wA (wA (wA u2 0 391 0) 0 396 0) 0 397 (-1)) := by
    refine ⟨?_, h4, fun p hp => ?_, fun p hp => (hT p hp).2.2⟩
    · show (u2.1 0 373).toInt = L
      rw [e2]
      exact hv
    · show u2.1 372 p = T p
      rw [e2]
      show va_cpy (v.1 299) (v.1 372) _ _ (v.1 0 391).toNatClampNeg p = T p
      rw [cpyq_lt (by omega)]
      exact (hT p hp).1
  rcases hc with ⟨u9, h9, c1, -, e1, e5⟩ | ⟨u5, h5, k5, c1, r21, u20, h20, k20, hc⟩
  · rcases hm with ⟨x, hx, m1, m2⟩ | ⟨x, hx, -⟩
    · rcases readJ rd X h9 Y hcut hx with ⟨-, -, q1, q2⟩ | ⟨q, -⟩
      · rw [e1, e5, m1, m2]
        exact ⟨q1, q1, q2, rfl, fun z => absurd z c1⟩
      · cases q
    · rcases readJ rd X h9 Y hcut hx with ⟨-, q, -⟩ | ⟨q, -⟩
      · cases q
      · cases q
  · have f35 : u5.1 0 335 = v.1 0 335 := (k5.1.2.1 335 (by decide)).trans ((show u2.1 0 335 = v.1 0 335 by rw [e2]; rfl))
    have f96 : u5.1 0 396 = 0 := (k5.1.2.1 396 (by decide)).trans rfl
    have f97 : u5.1 0 397 = -1 := (k5.1.2.1 397 (by decide)).trans rfl
    have f73 : u5.1 0 373 = v.1 0 391 := (k5.1.2.1 373 (by decide)).trans ((show u2.1 0 373 = v.1 0 391 by rw [e2]; rfl))
    have g96 : u20.1 0 396 = 0 := (k20.2.1 396 (by decide)).trans f96
    have g97 : u20.1 0 397 = -1 := (k20.2.1 397 (by decide)).trans f97
    have g73 : u20.1 0 373 = v.1 0 391 := (k20.2.1 373 (by decide)).trans f73
    have main : ∀ {s : Bool} {x : MS}, Q_m_walk u11 N s x → (r21 = 1 ∧ s = false ∧ SAM L1 L2 u20 x ∧ (K_m_walk u11 x → SN T L x)) ∨ (r21 = 0 ∧ s = true ∧ x.1 0 50 = 7 ∧ (x.1 0 51).toInt = L) := by
      intro s x hx
      rcases readJ rd X h5 Y hcut hx with ⟨q, -⟩ | ⟨-, u2', n, y, W, ww, Wm, wm, H, q1, q2, q3, q4, q5, q6, q7, q8, q9⟩
      · cases q
      · have Lk := zLink (W := W) q5 q2.2.2.1
        have A : AB ww u5 u5 := ⟨Lk.1.2.2 378 (by decide), rfl, fun i _ => Lk.1.2.1 i (fun q => nomatch q), fun a ha j _ => congrFun (Lk.2.1 a ha) j⟩
        rcases endJ rd hN H q1 q2 q3 q4 q5 q7 q8 q9 A (by rw [f35]; exact h35) h20 with ⟨a1, a2, a3⟩ | a1
        · exact Or.inl ⟨a1, a2, a3, fun kw => snJ H q7 q9 kw⟩
        · exact Or.inr a1
    rcases hm with ⟨x, hx, m1, m2⟩ | ⟨x, hx, m1, m2, m3, m4, m5, m6⟩
    · rcases main hx with ⟨-, q, -⟩ | ⟨q1, -, q2, q3⟩
      · cases q
      · rcases hc with ⟨z, -⟩ | ⟨-, e1, e5⟩
        · rw [q1] at z
          exact absurd rfl z
        · rw [e1, e5, m1, m2]
          refine ⟨q2.symm, q2.symm, ?_, rfl, fun z => absurd z (by decide)⟩
          show u20.1 0 373 = x.1 0 51
          rw [g73]
          exact Int32.toInt_inj.mp (by rw [hv, q3])
    · rcases main hx with ⟨q1, -, q2, q3⟩ | ⟨-, q, -⟩
      · rcases hc with ⟨-, z, u30, f30, k30, e1, e5⟩ | ⟨z, -⟩
        · have h96 : u30.1 0 396 = 0 := (k30.1.2.1 396 (by decide)).trans g96
          have h97 : u30.1 0 397 = -1 := (k30.1.2.1 397 (by decide)).trans g97
          rw [e1, e5, m3, m4, m5, h96]
          exact ⟨rfl, rfl, h97, rfl, fun _ => ⟨u20, x, f30, q2, m1, q3 m6⟩⟩
        · rw [q1] at z
          exact absurd z (by decide)
      · cases q
end LDJ
