/-! the class: all is laid, twice -/
def AS (L1 L2 : List Nat) (w U u : MS) : Prop := AB w U u ∧ u.1 0 337 = wsz L1 w ∧ u.1 0 383 = wsz L1 w ∧ u.1 0 384 = 4 * (wsz L1 w + gsm (fun g => rF L2 w g 0) (nG w)) ∧ (∀ g : Nat, g < nG w → rF L2 u g 1 = 4 * (wsz L1 w + gsm (fun g => rF L2 w g 0) g)) ∧ ∀ f : Nat, f < 40 → ∀ k, k < nD w → ENt w k f → (∀ k', k < k' → k' < nD w → ¬ ENt w k' f) → rF L1 u f 1 = 4 * (2 + dsum (p9 L1 w) (w.1 378) (w.1 379) k)
section CAS
variable {L1 L2 : List Nat} {N : Nat} {W : Nat → Int32} {v u w x z U : MS} {pa pb pc1 pd r k l d y : Int32} {p : Int → Int32}
theorem AB.sz {m : Int} (h : AB w U v) (k : FC [337] [0, 382] v u ∧ ((u.1 0 337).toInt = (v.1 0 337).toInt + m) ∧ RS v u) : AB w U u := h.fc k.1 (by decide) (by decide) (fun a ha j _ => congrFun (k.2.2.1 a ha) j)
theorem ite_z {b : Bool} {x : Int32} (h : x = if b = true then 1 else 0) : x.toInt = 0 ↔ b = false := by
  cases b with
  | true => rw [h, if_pos rfl]; exact ⟨fun q => absurd q (by decide), fun q => Bool.noConfusion q⟩
  | false => rw [h, if_neg Bool.false_ne_true]; exact ⟨fun _ => rfl, fun _ => by decide⟩
set_option maxHeartbeats 1600000 in
theorem zAll (rd : RD L1 L2) (H : HW L1 W w U) (A : AB w U v) (g60 : 0 ≤ (w.1 0 377).toInt ∧ (w.1 0 377).toInt ≤ 60) (h : Q_x_X0_layAll L1 L2 N v u) : AS L1 L2 w U u := by
  obtain ⟨z81, u2, -, k2, u5, -, k5, ka, w33, hr, fc, hka, hsz, hx, h⟩ := h
  have A2 : AB w U u2 := AB.sz (AB.wr (AB.wr (AB.wr A (by decide)) (by decide)) (by decide)) k2
  have A5 : AB w U u5 := A2.sz k5
  have s2 := SZ9.of (k := 1) k2 (by decide)
  have s5 := SZ9.of (k := 1) k5 (by decide)
  have h5 : u5.1 0 337 = 2 ∧ u5.1 0 339 = 0 ∧ u5.1 0 340 = 0 := by
    refine ⟨?_, ?_, ?_⟩
    · rw [s5.1, s2.1]
      show (0 : Int32) + 1 + 1 = 2
      decide
    · rw [s5.2.1, s2.2.1]
      rfl
    · rw [s5.2.2.1, s2.2.2.1]
      rfl
  have e81 : v.1 0 381 = w.1 0 381 := A.2.2.1 381 (by decide)
  rw [e81] at z81
  obtain ⟨B, L⟩ := zLoop rd H A A5 h5 z81.1 hr hx
  have fin : ∀ {c x : MS}, AB w U c → c.1 0 337 = wsz L1 w → (∀ f : Nat, f < 40 → rF L1 c f 1 = rF L1 w33 f 1) → Q_x_X0_placeGlobals L1 L2 (wA c 0 383 (c.1 0 337)) x → AS L1 L2 w U x := by
    intro c x Ac c337 cf hg
    have G := zGlob rd (AB.wr Ac (by decide)) g60 hg
    have e337 : (wA c 0 383 (c.1 0 337)).1 0 337 = wsz L1 w := c337
    rw [e337] at G
    refine ⟨G.1.1, (G.2.2.1 337 (by decide)).trans e337, (G.2.2.1 383 (by decide)).trans c337, G.2.1, fun g hg => ?_, fun f hf k hk he hl => ?_⟩
    · have q := G.1.2.1 g hg
      rw [e337] at q
      exact q
    · rw [G.1.2.2 f hf]
      have q : rF L1 (wA c 0 383 (c.1 0 337)) f 1 = rF L1 c f 1 := congrFun (if_neg (by omega)) 1
      rw [q, cf f hf]
      exact L.2.2.2 f hf k hk he hl
  have rF_w : ∀ {c : MS} {i : Nat} {y : Int32} (f : Nat), rF L1 (wA c 0 i y) f 1 = rF L1 c f 1 := fun f => congrFun (if_neg (by omega)) 1
  have zT := ite_z L.2.1
  have zD := ite_z L.2.2.1
  have sz0 : w33.1 0 337 = 2 + dsum (p9 L1 w) (w.1 378) (w.1 379) (nD w) := L.1
  unfold wsz at fin
  rcases h with ⟨c9, h⟩ | ⟨c9, u27, -, k27, h⟩
  · have t0 := zT.mp c9
    rcases h with ⟨c40, u16, hg, -, rfl⟩ | ⟨c40, u20, -, k20, u23, hg, -, rfl⟩
    · have d0 := zD.mp c40
      refine fin (c := wA (wA w33 0 341 (4 * w33.1 0 337)) 0 342 (4 * w33.1 0 337)) (AB.wr (AB.wr B (by decide)) (by decide)) ?_ (fun f _ => (rF_w f).trans (rF_w f)) hg
      show w33.1 0 337 = _
      rw [sz0, t0, d0, if_neg Bool.false_ne_true, if_neg Bool.false_ne_true, Int32.add_zero, Int32.add_zero]
    · have d1 : dhas isD (w.1 378) (w.1 379) (nD w) = true := by
        cases hq : dhas isD (w.1 378) (w.1 379) (nD w) with
        | true => rfl
        | false => exact absurd (zD.mpr hq) c40
      have s20 := SZ9.of (k := 26) k20 (by decide)
      refine fin (c := u20) (AB.sz (AB.wr (AB.wr B (by decide)) (by decide)) k20) ?_ (fun f _ => ?_) hg
      · rw [s20.1]
        show w33.1 0 337 + 26 = _
        rw [sz0, t0, d1, if_neg Bool.false_ne_true, if_pos rfl, Int32.add_zero]
      · unfold rF
        rw [s20.2.2.2 _ (by omega)]
        exact (rF_w f).trans (rF_w f)
  · have t1 : dhas isT (w.1 378) (w.1 379) (nD w) = true := by
      cases hq : dhas isT (w.1 378) (w.1 379) (nD w) with
      | true => rfl
      | false => exact absurd (zT.mpr hq) c9
    have s27 := SZ9.of (k := 10) k27 (by decide)
    have e40 : u27.1 0 340 = w33.1 0 340 := s27.2.2.1
    rw [e40] at h
    have B27 : AB w U u27 := AB.sz (AB.wr B (by decide)) k27
    have r27 : ∀ f : Nat, rF L1 u27 f 1 = rF L1 w33 f 1 := fun f => by
      unfold rF
      rw [s27.2.2.2 _ (by omega)]
      exact rF_w f
    have z27 : u27.1 0 337 = 2 + dsum (p9 L1 w) (w.1 378) (w.1 379) (nD w) + 10 := by
      rw [s27.1]
      show w33.1 0 337 + 10 = _
      rw [sz0]
    rcases h with ⟨c40, u16, hg, -, rfl⟩ | ⟨c40, u20, -, k20, u23, hg, -, rfl⟩
    · have d0 := zD.mp c40
      refine fin (c := wA u27 0 342 (4 * u27.1 0 337)) (AB.wr B27 (by decide)) ?_ (fun f _ => (rF_w f).trans (r27 f)) hg
      show u27.1 0 337 = _
      rw [z27, t1, d0, if_pos rfl, if_neg Bool.false_ne_true, Int32.add_zero]
    · have d1 : dhas isD (w.1 378) (w.1 379) (nD w) = true := by
        cases hq : dhas isD (w.1 378) (w.1 379) (nD w) with
        | true => rfl
        | false => exact absurd (zD.mpr hq) c40
      have s20 := SZ9.of (k := 26) k20 (by decide)
      refine fin (c := u20) (AB.sz (AB.wr B27 (by decide)) k20) ?_ (fun f _ => ?_) hg
      · rw [s20.1]
        show u27.1 0 337 + 26 = _
        rw [z27, t1, d1, if_pos rfl, if_pos rfl]
      · unfold rF
        rw [s20.2.2.2 _ (by omega)]
        exact (rF_w f).trans (r27 f)
theorem zAsm (rd : RD L1 L2) (H : HW L1 W w U) (A : AB w U v) (g60 : 0 ≤ (w.1 0 377).toInt ∧ (w.1 0 377).toInt ≤ 60) {ps : Int32} (h : Q_x_X0_assemble L1 L2 N v ps r u) : AS L1 L2 w U u ∧ ((r = 1 ∧ (u.1 0 384 + 64).toInt ≤ (v.1 0 335).toInt) ∨ (r = 0 ∧ (v.1 0 335).toInt < (u.1 0 384 + 64).toInt)) := by
  obtain ⟨-, u2, h2, k2, h⟩ := h
  have S2 := zAll rd H (AB.wr (AB.wr A (by decide)) (by decide)) g60 h2
  have e5 : u2.1 0 335 = v.1 0 335 := (k2.2.1 335 (by decide)).trans rfl
  rw [e5] at h
  rcases h with ⟨c, u8, h8, -, rfl, rfl⟩ | ⟨c, rfl, rfl⟩
  · have S8 := zAll rd H (AB.wr S2.1 (by decide)) g60 h8
    refine ⟨S8, Or.inl ⟨rfl, ?_⟩⟩
    rw [S8.2.2.2.1, ← S2.2.2.2.1]
    exact c
  · exact ⟨S2, Or.inr ⟨rfl, c⟩⟩
end CAS
