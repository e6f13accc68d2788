/-! load in both: the same words, II -/
section ZZZK
variable {L1 L2 : List Nat} {T : Nat → Int32} {L N : Nat} {v u w u' : MS} {ps r r' : Int32}
set_option maxHeartbeats 1600000 in
theorem loadW (rd : RD L1 L2) (hN : N ≤ 4096) (h4 : L ≤ 4000) (hv : (v.1 0 391).toInt = L) (hw : (w.1 0 2).toInt = L) (hT : ∀ p, p < L → v.1 299 p = T p ∧ w.1 1 p = T p ∧ 0 ≤ (T p).toInt) (h35 : (v.1 0 335).toInt = 4 * N) (hc : Q_x_X11_load L1 L2 N v ps r u) (hm : Q_m_load w N r' u') (hr : r.toInt = 0) : u.1 0 383 = u'.1 0 73 ∧ (u'.1 0 73).toInt ≤ (N : Int) ∧ ∀ p : Nat, (p : Int) < (u'.1 0 73).toInt → u.1 382 p = u'.1 70 p := by
  obtain ⟨u2, h2, k2, hc⟩ := hc
  obtain ⟨u10, u11, Y, hcut, hm⟩ := mCopy hw h4 (fun p hp => (hT p hp).2) hm
  have e2 : u2 = (fun b9 => if b9 = 372 then (va_cpy (v.1 299) (v.1 372) (0 : Int32).toNatClampNeg (0 : Int32).toNatClampNeg (v.1 0 391).toNatClampNeg) else (wA v 0 373 (v.1 0 391)).1 b9, (wA v 0 373 (v.1 0 391)).2) := by
    rcases h2 with ⟨a, -⟩ | ⟨-, ⟨a, -⟩ | ⟨-, -, u17, e, e'⟩⟩
    · omega
    · omega
    · rw [e', e]
  have n391 := natI (a := v.1 0 391) (by omega)
  have X : TXC T L (wA (wA (wA u2 0 391 0) 0 396 0) 0 397 (-1)) := by
    refine ⟨?_, h4, fun p hp => ?_, fun p hp => (hT p hp).2.2⟩
    · show (u2.1 0 373).toInt = L
      rw [e2]
      exact hv
    · show u2.1 372 p = T p
      rw [e2]
      show va_cpy (v.1 299) (v.1 372) _ _ (v.1 0 391).toNatClampNeg p = T p
      rw [cpyq_lt (by omega)]
      exact (hT p hp).1
  rcases hc with ⟨u9, h9, c1, -, e1, e5⟩ | ⟨u5, h5, k5, c1, r21, u20, h20, k20, hc⟩
  · rw [e1] at hr
    exact absurd hr c1
  have f35 : u5.1 0 335 = v.1 0 335 := (k5.1.2.1 335 (by decide)).trans ((show u2.1 0 335 = v.1 0 335 by rw [e2]; rfl))
  rcases hc with ⟨z, -, u30, f30, k30, e1, e5⟩ | ⟨-, e1, -⟩
  rotate_left
  · rw [e1] at hr
    exact absurd hr (by decide)
  obtain ⟨t2, y, W, evs, hs, c1, hG, D, hD, fs, gs, nF9, ent, b81, ww, C, ov, z21, hl, kl⟩ := cReadE rd h5
  have X' : TXC T L (wA (wA (wA (wA u2 0 391 0) 0 396 0) 0 397 (-1)) 0 327 ps) := ⟨X.1, X.2.1, X.2.2.1, X.2.2.2⟩
  obtain ⟨n, H⟩ := lexJ X' Y hs hcut
  have nb : 0 < (n : Int) ∧ (n : Int) ≤ 4002 := ⟨by have := H.2.2.2.2.2.1; omega, by have := H.2.2.2.2.2.2.1; omega⟩
  have Lk := zLink (W := W) hl C.2.2.1
  have A : AB ww u5 u5 := ⟨Lk.1.2.2 378 (by decide), rfl, fun i _ => Lk.1.2.1 i (fun q => nomatch q), fun a ha j _ => congrFun (Lk.2.1 a ha) j⟩
  have ti := tText_inv c1
  have En := cEnd rd C ov z21 hl ti.2 (k_items PN0 ti.1) A h20
  have AB9 := En.1.1
  rcases hm with ⟨x, hx, m1, m2⟩ | ⟨x, hx, m1, m2, m3, m4, m5, m6⟩
  · exfalso
    have M := rText (n := n) SP_m nb H.TR H.VB (fun y hy => nov_P hy) hx
    rcases M with ⟨y', Wm, wm, q1, q2, q3, q4⟩ | ⟨-, q1⟩
    · rw [c1] at q1
      have ey : y = y' := Except.ok.inj q1
      rw [← ey] at q2 q4
      rcases endJ rd hN H c1 C ov z21 hl q2 q3 q4 A (by rw [f35]; exact h35) h20 with ⟨-, a2, -⟩ | ⟨a1, -⟩
      · cases a2
      · rw [a1] at z
        exact absurd rfl z
    · rw [c1] at q1
      cases q1
  have M := rText (n := n) SP_m nb H.TR H.VB (fun y hy => nov_P hy) hx
  rcases M with ⟨y', Wm, wm, q1, q2, q3, q4⟩ | ⟨q, -⟩
  rotate_left
  · cases q
  rw [c1] at q1
  have ey : y = y' := Except.ok.inj q1
  rw [← ey] at q2 q4
  rcases endJ rd hN H c1 C ov z21 hl q2 q3 q4 A (by rw [f35]; exact h35) h20 with ⟨a1, -, SM⟩ | ⟨-, a2, -⟩
  rotate_left
  · cases a2
  obtain ⟨evs', y2, W2, ⟨hG', hI'⟩, ⟨l15, l22, l40⟩, l20, MF, ⟨yf, yg, y25⟩⟩ := oWalkM nb H.TR H.VB hx
  rw [hG] at hG'
  have ee : evs = evs' := Option.some.inj hG'
  subst ee
  have ey2 : y = y2 := by
    have z1 := ti.1
    rw [hI'] at z1
    exact (Except.ok.inj z1).symm
  rw [← ey2] at yf yg y25
  obtain ⟨evs9, hG9, ⟨-, -, k8⟩, FT, -⟩ := oWalkW nb H.TR H.VB hx
  rw [hG] at hG9
  have ee9 : evs = evs9 := Option.some.inj hG9
  subst ee9
  obtain ⟨s1, s2, s3, s4, s5, s6⟩ := SM
  obtain ⟨a73, a70⟩ := accW m1
  obtain ⟨rJ, rx, rf, rg, rb, rD, rW, rnd, rV, r28, r25⟩ := q2
  obtain ⟨t1, tf, tb, t69, t7⟩ := q4
  have x22 : (x.1 0 22).toInt = evs.length := by rw [l22]; exact nI_Z (by omega)
  have f16 : x.1 16 = wm.1 16 := tf.2.2 16 (by decide)
  have f22 : x.1 0 22 = wm.1 0 22 := tf.2.1 22 (by decide)
  have nwm : nFm wm = evs.length := by unfold nFm; rw [← f22, l22]; exact natC (nI_Z (by omega))
  have nx : nFm x = evs.length := by unfold nFm; rw [l22]; exact natC (nI_Z (by omega))
  have e30 : u30 = wA (wA (wA u20 0 392 (u20.1 0 393)) 0 393 (u20.1 0 392)) 0 361 0 := f30
  have u382 : u.1 382 = u20.1 382 := by
    rw [e5, e30]
    rfl
  have u383 : u.1 0 383 = u20.1 0 383 := by
    rw [e5, e30]
    rfl
  have kA : ∀ a, a < 5000 → a ∉ [0, 336, 382] → u20.1 a = u5.1 a := fun a h1 h2 => k20.2.2 a ⟨h1, h2⟩
  have kF : ∀ k, k ∉ [334, 337, 338, 339, 340, 341, 342, 383, 384] → u20.1 0 k = u5.1 0 k := fun k hk => k20.2.1 k hk
  have rw9 : ∀ LL f j, j ≠ 1 → rF LL u20 f j = rF LL u5 f j := fun LL f j hj => by
    unfold rF
    rw [AB9.2.2.2 _ (by omega) j hj, ← congrFun (kl.2 _ (by omega)) j]
  have D' : ∀ x q z, txE 0 evs = x ++ q :: z → DTq (L1) u20 q (ldL x) := fun x9 q z9 hz => (D x9 q z9 hz).cg (kF 381 (by decide)) (kF 375 (by decide)) (kA 378 (by decide) (by decide)) (kA 379 (by decide) (by decide)) (kA 380 (by decide) (by decide)) (fun f j hj => rw9 L1 f j hj)
  have f27 : x.1 0 27 = wm.1 0 27 := tf.2.1 27 (by decide)
  have b12 : 0 ≤ (x.1 0 12).toInt := by
    have i2 : (if pMu y.1 = true then (10 : Int) else 0) ≤ 10 ∧ 0 ≤ (if pMu y.1 = true then (10 : Int) else 0) := by split <;> omega
    have i3 : (if pDi y.1 = true then (26 : Int) else 0) ≤ 26 ∧ 0 ≤ (if pDi y.1 = true then (26 : Int) else 0) := by split <;> omega
    omega
  have f28 : x.1 0 28 = wm.1 0 28 := tf.2.1 28 (by decide)
  have b28 : 0 ≤ (x.1 0 28).toInt ∧ (x.1 0 28).toInt ≤ 60000 := by rw [f28]; exact tb.2
  have rm : 4 * ((x.1 0 12).toInt + (x.1 0 28).toInt) + 64 ≤ 4 * (N : Int) := by
    rcases t7 with ⟨-, d⟩ | ⟨q, -⟩
    · rw [nIN hN] at d; exact d
    · cases q
  have CM : CMx L1 L2 (kC t2) u20 x evs := by
    refine ⟨⟨by omega, l40, x22⟩, ⟨s2, by rw [f27]; exact rb.2.2⟩, ⟨s3, s4⟩, fun f hf => ?_, fun i j hij hj => ?_, fun g hg => ?_⟩
    · have fx : (f : Int) < (x.1 0 22).toInt := by omega
      have F := s5 f fx
      have nf : f < nF u5 := by rw [nF9]; exact hf
      have z1 : y.2.1[f]? = some (rF L1 u5 f 4, rF L1 u5 f 3, rF L1 u5 f 0, rF L1 u5 f 2, W f) := by
        rw [fs]
        unfold fsC
        exact fs_at nf
      have z2 : y.2.1[f]? = some ((kC t2).2.1 (x.1 16 f), (kC t2).2.2 (x.1 16 f), x.1 17 f, x.1 18 f, W2 f) := by
        rw [yf]
        unfold fsM
        exact fs_at (by rw [nx]; exact hf)
      refine ⟨F.1, F.2.1, ?_⟩
      rw [rw9 L1 f 4 (by decide)]
      rw [z1] at z2
      exact congrArg Prod.fst (Option.some.inj z2)
    · rw [f16]
      exact rD.2 i j hij (by rw [nwm]; exact hj)
    · have G := s6 g hg
      exact ⟨G.1, G.2.1⟩
  have HH := cHW C ov z21 hl ti.2 (k_items PN0 ti.1)
  have g60 : 0 ≤ (ww.1 0 377).toInt ∧ (ww.1 0 377).toInt ≤ 60 := (C.1 (pv L1 ww)).1.2.2
  have UQ9 : ∀ i : Nat, (i : Int) ≤ (u5.1 0 381).toInt → UE u5 i := by
    intro i hi a b ha hb a0 b0 e9
    have w381 : u5.1 0 381 = ww.1 0 381 := Lk.1.2.1 381 (fun q => nomatch q)
    have w378 : u5.1 378 = ww.1 378 := Lk.1.2.2 378 (by decide)
    rw [w381] at hi
    rw [w378] at a0 b0
    have kp : ∀ c : Nat, (c : Int) < (ww.1 0 381).toInt → ww.1 378 c = 0 → u5.1 379 c = ww.1 379 c := fun c h1 h2 => (Lk.2.2 c h1).2 (by rw [h2]; decide) (by rw [h2]; decide)
    rw [kp a (by omega) a0, kp b (by omega) b0] at e9
    obtain ⟨f1, f2, f3⟩ := C.2.2.2.2.2.2.2 ov a (by omega) a0
    obtain ⟨g1, g2, g3⟩ := C.2.2.2.2.2.2.2 ov b (by omega) b0
    have A1 := (C.2.2.2.2.2.2.1 f1 f2).2.2.2.1
    have B1 := (C.2.2.2.2.2.2.1 g1 g2).2.2.2.1
    rw [← f3, e9] at A1
    rw [← g3] at B1
    have : f1 = g1 := by omega
    rw [f3, g3, this]
  obtain ⟨TT, OO, cc, CW⟩ := asmW rd hN HH A g60 hD UQ9 h20 z (by rw [s3]; omega)
  have b81' : ldL (txE 0 evs) ≤ 3008 := by omega
  have ne0 := ne0Items 1502 X0 evs hG
  have lb := lnLe evs 0 ne0 k8
  have h5' : ∀ X q Y, txE 0 evs = X ++ q :: Y → q.1 = 5 ∨ q.1 = 6 → (q.2.1.toNatClampNeg : Int) < (x.1 0 27).toInt := fun X q Y e c => by
    rcases MF X q Y e with g | ⟨-, g⟩
    · exfalso
      have n0 : q.1 ≠ 0 := by rcases c with c | c <;> (rw [c]; decide)
      have n4 : q.1 ≠ 4 := by rcases c with c | c <;> (rw [c]; decide)
      have n9 : q.1 ≠ 9 := by rcases c with c | c <;> (rw [c]; decide)
      have : loE q = 1 := if_neg (fun g => g.elim n0 (fun g => g.elim (fun g => n4 g.1) n9))
      omega
    · unfold mfA at g
      rw [if_neg (by rcases c with c | c <;> (rw [c]; decide)), if_pos c] at g
      exact g.1
  have ALL := cmpAll CM (FT (by omega)).1 ne0 CW D' rfl b81' (jkText evs 0 (jkItems 1502 X0 evs hG)) (by omega) h5'
  refine ⟨by rw [u383, s3, a73], by rw [a73]; omega, fun p hp => ?_⟩
  rw [a73] at hp
  rw [u382, ALL p hp, a70 p hp]
end ZZZK
