/-! load in both: one program -/
section YRL
variable {L1 L2 : List Nat} {T : Nat → Int32} {L N : Nat} {v u w u' : MS} {ps r r' : Int32}
theorem gl_sh {a b c : Int32} (ha : 0 ≤ a.toInt ∧ a.toInt ≤ 100000) (hb : 0 ≤ b.toInt ∧ b.toInt ≤ 100000) (e : c = 4 * a + 4 * b) : (c >>> ((2 : Int32) &&& 31)) - a = b := by
  have e1 : ((4 : Int32) * a).toInt = 4 * a.toInt := mul_z (by decide) rfl (by omega) (by omega)
  have e2 : ((4 : Int32) * b).toInt = 4 * b.toInt := mul_z (by decide) rfl (by omega) (by omega)
  have e3 : c.toInt = 4 * a.toInt + 4 * b.toInt := by rw [e]; exact add_z e1 e2 (by omega) (by omega)
  have s := shr2_f (x := c) (by omega)
  apply Int32.toInt_inj.mp
  have : ((c >>> ((2 : Int32) &&& 31)) - a).toInt = (c >>> ((2 : Int32) &&& 31)).toInt - a.toInt := sub_z rfl rfl (by omega) (by omega)
  omega
set_option maxHeartbeats 1000000 in
theorem loadP (rd : RD L1 L2) (hN : N ≤ 4096) (h4 : L ≤ 4000) (hv : (v.1 0 391).toInt = L) (hw : (w.1 0 2).toInt = L) (hT : ∀ p, p < L → v.1 299 p = T p ∧ w.1 1 p = T p ∧ 0 ≤ (T p).toInt) (h35 : (v.1 0 335).toInt = 4 * N) (hc : Q_x_X11_load L1 L2 N v ps r u) (hm : Q_m_load w N r' u') (hr : r.toInt = 0) (bg : BG u') (bf : BF u') : ∃ g K fn, PG0 g N (u'.1 0 76).toInt (u'.1 0 77).toInt L1 L2 K fn u u' := by
  obtain ⟨u2, h2, k2, hc⟩ := hc
  obtain ⟨u10, u11, Y, hcut, hm⟩ := mCopy hw h4 (fun p hp => (hT p hp).2) hm
  have e2 : u2 = (fun b9 => if b9 = 372 then (va_cpy (v.1 299) (v.1 372) (0 : Int32).toNatClampNeg (0 : Int32).toNatClampNeg (v.1 0 391).toNatClampNeg) else (wA v 0 373 (v.1 0 391)).1 b9, (wA v 0 373 (v.1 0 391)).2) := by
    rcases h2 with ⟨a, -⟩ | ⟨-, ⟨a, -⟩ | ⟨-, -, u17, e, e'⟩⟩
    · omega
    · omega
    · rw [e', e]
  have n391 := natI (a := v.1 0 391) (by omega)
  have X : TXC T L (wA (wA (wA u2 0 391 0) 0 396 0) 0 397 (-1)) := by
    refine ⟨?_, h4, fun p hp => ?_, fun p hp => (hT p hp).2.2⟩
    · show (u2.1 0 373).toInt = L
      rw [e2]
      exact hv
    · show u2.1 372 p = T p
      rw [e2]
      show va_cpy (v.1 299) (v.1 372) _ _ (v.1 0 391).toNatClampNeg p = T p
      rw [cpyq_lt (by omega)]
      exact (hT p hp).1
  rcases hc with ⟨u9, h9, c1, -, e1, e5⟩ | ⟨u5, h5, k5, c1, r21, u20, h20, k20, hc⟩
  · rw [e1] at hr
    exact absurd hr c1
  have f35 : u5.1 0 335 = v.1 0 335 := (k5.1.2.1 335 (by decide)).trans ((show u2.1 0 335 = v.1 0 335 by rw [e2]; rfl))
  rcases hc with ⟨z, -, u30, f30, k30, e1, e5⟩ | ⟨-, e1, -⟩
  rotate_left
  · rw [e1] at hr
    exact absurd hr (by decide)
  obtain ⟨t2, y, W, evs, hs, c1, hG, D, hD, fs, gs, nF9, ent, b81, ww, C, ov, z21, hl, kl⟩ := cReadE rd h5
  have X' : TXC T L (wA (wA (wA (wA u2 0 391 0) 0 396 0) 0 397 (-1)) 0 327 ps) := ⟨X.1, X.2.1, X.2.2.1, X.2.2.2⟩
  obtain ⟨n, H⟩ := lexJ X' Y hs hcut
  have nb : 0 < (n : Int) ∧ (n : Int) ≤ 4002 := ⟨by have := H.2.2.2.2.2.1; omega, by have := H.2.2.2.2.2.2.1; omega⟩
  have Lk := zLink (W := W) hl C.2.2.1
  have A : AB ww u5 u5 := ⟨Lk.1.2.2 378 (by decide), rfl, fun i _ => Lk.1.2.1 i (fun q => nomatch q), fun a ha j _ => congrFun (Lk.2.1 a ha) j⟩
  have ti := tText_inv c1
  have En := cEnd rd C ov z21 hl ti.2 (k_items PN0 ti.1) A h20
  have AB9 := En.1.1
  rcases hm with ⟨x, hx, m1, m2⟩ | ⟨x, hx, m1, m2, m3, m4, m5, m6⟩
  · exfalso
    have M := rText (n := n) SP_m nb H.TR H.VB (fun y hy => nov_P hy) hx
    rcases M with ⟨y', Wm, wm, q1, q2, q3, q4⟩ | ⟨-, q1⟩
    · rw [c1] at q1
      have ey : y = y' := Except.ok.inj q1
      rw [← ey] at q2 q4
      rcases endJ rd hN H c1 C ov z21 hl q2 q3 q4 A (by rw [f35]; exact h35) h20 with ⟨-, a2, -⟩ | ⟨a1, -⟩
      · cases a2
      · rw [a1] at z
        exact absurd rfl z
    · rw [c1] at q1
      cases q1
  have M := rText (n := n) SP_m nb H.TR H.VB (fun y hy => nov_P hy) hx
  rcases M with ⟨y', Wm, wm, q1, q2, q3, q4⟩ | ⟨q, -⟩
  rotate_left
  · cases q
  rw [c1] at q1
  have ey : y = y' := Except.ok.inj q1
  rw [← ey] at q2 q4
  rcases endJ rd hN H c1 C ov z21 hl q2 q3 q4 A (by rw [f35]; exact h35) h20 with ⟨a1, -, SM⟩ | ⟨-, a2, -⟩
  rotate_left
  · cases a2
  obtain ⟨evs', y2, W2, ⟨hG', hI'⟩, ⟨l15, l22, l40⟩, l20, MF, ⟨yf, yg, y25⟩⟩ := oWalkM nb H.TR H.VB hx
  rw [hG] at hG'
  have ee : evs = evs' := Option.some.inj hG'
  subst ee
  have ey2 : y = y2 := by
    have z1 := ti.1
    rw [hI'] at z1
    exact (Except.ok.inj z1).symm
  rw [← ey2] at yf yg y25
  obtain ⟨s1, s2, s3, s4, s5, s6⟩ := SM
  obtain ⟨j73, j74, j75, jF, jG, -⟩ := accJ m1
  obtain ⟨-, oF, o76, o77⟩ := accO m1
  have MX := MXq.of (K := kC t2) m1 MF (by rw [l15])
  obtain ⟨rJ, rx, rf, rg, rb, rD, rW, rnd, rV, r28, r25⟩ := q2
  obtain ⟨t1, tf, tb, t69, t7⟩ := q4
  have x22 : (x.1 0 22).toInt = evs.length := by rw [l22]; exact nI_Z (by omega)
  have f16 : x.1 16 = wm.1 16 := tf.2.2 16 (by decide)
  have f22 : x.1 0 22 = wm.1 0 22 := tf.2.1 22 (by decide)
  have nwm : nFm wm = evs.length := by unfold nFm; rw [← f22, l22]; exact natC (nI_Z (by omega))
  have nx : nFm x = evs.length := by unfold nFm; rw [l22]; exact natC (nI_Z (by omega))
  -- the class's end state
  have e30 : u30 = wA (wA (wA u20 0 392 (u20.1 0 393)) 0 393 (u20.1 0 392)) 0 361 0 := f30
  have uA : ∀ a, a ≠ 0 → u.1 a = u20.1 a := fun a ha => by
    rw [e5, e30]
    show (if a = 0 then _ else if a = 0 then _ else if a = 0 then _ else u20.1 a) = _
    rw [if_neg ha, if_neg ha, if_neg ha]
  have uF : ∀ k, k ≠ 392 → k ≠ 393 → k ≠ 361 → u.1 0 k = u20.1 0 k := fun k a b c => by
    rw [e5, e30]
    show upd (upd (upd (u20.1 0) 392 _) 393 _) 361 0 k = _
    rw [updN_ c, updN_ b, updN_ a]
  have kA : ∀ a, a < 5000 → a ∉ [0, 336, 382] → u20.1 a = u5.1 a := fun a h1 h2 => k20.2.2 a ⟨h1, h2⟩
  have kF : ∀ k, k ∉ [334, 337, 338, 339, 340, 341, 342, 383, 384] → u20.1 0 k = u5.1 0 k := fun k hk => k20.2.1 k hk
  have rw9 : ∀ LL f j, j ≠ 1 → rF LL u f j = rF LL u5 f j := fun LL f j hj => by
    unfold rF
    rw [uA _ (by omega), AB9.2.2.2 _ (by omega) j hj, ← congrFun (kl.2 _ (by omega)) j]
  have r1 : ∀ LL f, rF LL u f 1 = rF LL u20 f 1 := fun LL f => by unfold rF; rw [uA _ (by omega)]
  have r0 : ∀ LL f j, rF LL u f j = rF LL u20 f j := fun LL f j => by unfold rF; rw [uA _ (by omega)]
  have D' : ∀ x q z, txE 0 evs = x ++ q :: z → DTq (L1) u q (ldL x) := fun x9 q z9 hz => (D x9 q z9 hz).cg (by rw [uF 381 (by decide) (by decide) (by decide), kF 381 (by decide)]) (by rw [uF 375 (by decide) (by decide) (by decide), kF 375 (by decide)]) (by rw [uA 378 (by decide), kA 378 (by decide) (by decide)]) (by rw [uA 379 (by decide), kA 379 (by decide) (by decide)]) (by rw [uA 380 (by decide), kA 380 (by decide) (by decide)]) (fun f j hj => rw9 L1 f j hj)
  have u75 : u.1 0 375 = u20.1 0 375 := uF 375 (by decide) (by decide) (by decide)
  have u77 : u.1 0 377 = u20.1 0 377 := uF 377 (by decide) (by decide) (by decide)
  have x27 := rb.2
  have f27 : x.1 0 27 = wm.1 0 27 := tf.2.1 27 (by decide)
  have b12 : 0 ≤ (x.1 0 12).toInt ∧ (x.1 0 12).toInt ≤ 30036 := by
    have i2 : (if pMu y.1 = true then (10 : Int) else 0) ≤ 10 ∧ 0 ≤ (if pMu y.1 = true then (10 : Int) else 0) := by split <;> omega
    have i3 : (if pDi y.1 = true then (26 : Int) else 0) ≤ 26 ∧ 0 ≤ (if pDi y.1 = true then (26 : Int) else 0) := by split <;> omega
    omega
  have f28 : x.1 0 28 = wm.1 0 28 := tf.2.1 28 (by decide)
  have b28 : 0 ≤ (x.1 0 28).toInt ∧ (x.1 0 28).toInt ≤ 60000 := by rw [f28]; exact tb.2
  have rm : 4 * ((x.1 0 12).toInt + (x.1 0 28).toInt) + 64 ≤ 4 * (N : Int) := by
    rcases t7 with ⟨-, d⟩ | ⟨q, -⟩
    · rw [nIN hN] at d; exact d
    · cases q
  have v69 : (x.1 0 69).toInt = 4 * ((x.1 0 12).toInt + (x.1 0 28).toInt) := by
    rw [t69]
    have m1 : (x.1 0 12 + x.1 0 28).toInt = (x.1 0 12).toInt + (x.1 0 28).toInt := add_z rfl rfl (by omega) (by omega)
    have m2 : ((4 : Int32) * (x.1 0 12 + x.1 0 28)).toInt = 4 * (x.1 0 12 + x.1 0 28).toInt := mul_z (by decide) rfl (by omega) (by omega)
    omega
  have H1 : ∀ f, f < evs.length → (rF L1 u f 0 = u'.1 78 f ∧ rF L1 u f 2 = u'.1 79 f) ∧ ((rF L1 u f 5).toInt = ldL (txE 0 (evs.take f)) ∧ (u'.1 81 f).toInt = loL (txE 0 (evs.take f))) ∧ (∃ p : FN, y.2.1[f]? = some p ∧ p.2.2.1 = u'.1 78 f ∧ p.2.2.2.1 = u'.1 79 f) ∧ rF L1 u f 4 = (kC t2).2.1 (x.1 16 f) := by
    intro f hf
    have fx : (f : Int) < (x.1 0 22).toInt := by omega
    have F := s5 f fx
    have nf : f < nF u5 := by rw [nF9]; exact hf
    have z1 : y.2.1[f]? = some (rF L1 u5 f 4, rF L1 u5 f 3, rF L1 u5 f 0, rF L1 u5 f 2, W f) := by
      rw [fs]
      unfold fsC
      exact fs_at nf
    have z2 : y.2.1[f]? = some ((kC t2).2.1 (x.1 16 f), (kC t2).2.2 (x.1 16 f), x.1 17 f, x.1 18 f, W2 f) := by
      rw [yf]
      unfold fsM
      exact fs_at (by rw [nx]; exact hf)
    refine ⟨⟨by rw [r0, F.1]; exact (jF.1 f fx).symm, by rw [r0, F.2.1]; exact (jF.2.1 f fx).symm⟩, ⟨by rw [rw9 L1 f 5 (by decide)]; exact ent f nf, by rw [(oF f fx).1]; exact l20 f hf⟩, ⟨_, z2, (jF.1 f fx).symm, (jF.2.1 f fx).symm⟩, ?_⟩
    rw [rw9 L1 f 4 (by decide)]
    rw [z1] at z2
    exact congrArg Prod.fst (Option.some.inj z2)
  have H2 : ∀ i j : Nat, i < j → j < evs.length → (kC t2).2.1 (x.1 16 i) ≠ (kC t2).2.1 (x.1 16 j) := fun i j hij hj => by
    rw [f16]
    exact rD.2 i j hij (by rw [nwm]; exact hj)
  have H3 : GLB L2 u u' (u'.1 0 76).toInt N := by
    refine ⟨⟨by rw [u77, j75]; exact Int32.toInt_inj.mp s2, by rw [j75, f27]; exact x27.2, by rw [o76]; omega, rfl⟩, fun j hj => ?_⟩
    have jx : (j : Int) < (x.1 0 27).toInt := by rw [← j75]; exact hj
    have F := s6 j jx
    have B9 := bf j hj
    have e86 : u'.1 86 j = x.1 25 j := jG.2.1 j jx
    have e85 : u'.1 85 j = x.1 24 j := jG.1 j jx
    refine ⟨by rw [r0, F.1, e85], ?_, B9.1, B9.2.1, B9.2.2⟩
    rw [r0, F.2.1, uF 383 (by decide) (by decide) (by decide), s3, e86]
    have := B9
    rw [o76] at this
    exact gl_sh (by omega) (by rw [← e86]; omega) rfl
  have H4 : u.1 0 384 = u'.1 0 77 ∧ 0 ≤ (u'.1 0 77).toInt ∧ (u'.1 0 77).toInt ≤ 16384 := by
    rw [uF 384 (by decide) (by decide) (by decide), s4, o77, v69]
    exact ⟨rfl, by omega, by omega⟩
  have H5 : (u.1 0 381).toInt ≤ 3008 ∧ (u.1 0 381).toInt = ldL (txE 0 evs) := by
    rw [uF 381 (by decide) (by decide) (by decide), kF 381 (by decide)]
    exact ⟨b81, hD⟩
  have H6 : (u.1 0 375).toInt = evs.length ∧ (u'.1 0 74).toInt = evs.length ∧ u.1 0 375 = u'.1 0 74 ∧ evs.length ≤ 40 := by
    rw [u75, j74]
    exact ⟨by omega, x22, Int32.toInt_inj.mp s1, l40⟩
  obtain ⟨g, G⟩ := pg0_of (L2 := L2) (u20 := u20) (nf := 0) (x := x) hN D' H5 MX hG c1 H6 H1 H2 H3 H4 bg
  exact ⟨g, kC t2, x.1 16, G⟩
end YRL
