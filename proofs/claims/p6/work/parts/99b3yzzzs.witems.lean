/-! the reference's words: items one after the other -/
def TXX (K : TK) (w0 w : MS) (d : List (List Int32 × List EV)) : Prop := (w.1 0 12).toInt = (w0.1 0 12).toInt + lnX d ∧ WFt w0 w ∧ CWq w0 w ∧ TXw K w (w0.1 0 39).toInt (w0.1 0 12).toNatClampNeg 0 d ∧ FQq w0 w (fxX (w0.1 0 12).toNatClampNeg d)
theorem EvSP_w {n : Int} {K : TK} : XWs n K (QMS 40) EvSP := oSLevW (Es := EP) (fun m hm => (oLevW m 50 hm).2.2) (fun m hm => (mLev m 50 hm).2.2) EP_b 40 50 (by decide) (by decide)
section ZZS
variable {n : Int} {K : TK} {e : PE} {v u w x' y w0 w80 a b : MS} {kn : List Int32} {e1 : List EV} {fr : Int32} {d : List (List Int32 × List EV)} {k p N : Nat} {x : IS} {W : Nat → Int32} {cl cl' : Int} {np : Nat}
theorem FNw.cd (h : FNw K u cl p fr np e1) (hc : cl' ≤ cl) : FNw K u cl' p fr np e1 := ⟨h.1, h.2.1, h.2.2.up WFq.rf hc⟩
theorem TXX.rf : TXX K w w [] := ⟨by rw [lnX_nil]; omega, WFt.rf, CWq.rf, trivial, FQq.rf⟩
theorem TXX.gl (h : TXX K w0 a d) (g : WGl a b) (h0 : 0 ≤ (w0.1 0 43).toInt) : TXX K w0 b d := by
  obtain ⟨h1, h2, h3, h4, h5⟩ := h
  obtain ⟨g1, ⟨g2, g3, g4⟩, g5, g6, g7⟩ := g
  refine ⟨by rw [g2]; exact h1, h2.tr g1, h3.tt ⟨fun c c1 c2 => by rw [g3] at c2; omega, fun c d c1 c2 => by rw [g3] at c2; omega⟩ h2 g1, TXw.ut g1 (Int.le_refl _) d _ _ (fun i _ => by rw [g5, g6, g7]; exact ⟨rfl, rfl, rfl⟩) h4, ?_⟩
  have T := h5.tt (r := []) ⟨by rw [g4]; show _ = _ + ((0 : Nat) : Int); omega, fun k e h => by simp at h⟩ g1 h0
  rw [List.append_nil] at T
  exact T
theorem TXX.fn {Z : Nat} (h : TXX K w0 a d) (f : FUq K a b fr kn.length e1) (h12 : 0 ≤ (w0.1 0 12).toInt) (h0 : 0 ≤ (w0.1 0 43).toInt) (d22 : a.1 0 22 = nI d.length) (dl : d.length ≤ 40) (c : b.1 19 = upd (a.1 19) (a.1 0 22).toNatClampNeg (a.1 0 12) ∧ b.1 18 = upd (a.1 18) (a.1 0 22).toNatClampNeg fr ∧ b.1 17 = upd (a.1 17) (a.1 0 22).toNatClampNeg (nI kn.length)) (l8 : kn.length ≤ 8) (h27 : b.1 0 27 = a.1 0 27) (h7 : P7 Z (fnT e1)) (hZ : (Z : Int) ≤ (a.1 0 27).toInt) : TXX K w0 b (d ++ [(kn, e1)]) := by
  obtain ⟨h1, h2, h3, h4, h5⟩ := h
  obtain ⟨f1, f2, f3, f4, f5⟩ := f
  have ln : lnX (d ++ [(kn, e1)]) = lnX d + lnF (kn, e1) := by rw [lnX_app, lnX_cons, lnX_nil, Nat.add_zero]
  have lf : lnF (kn, e1) = 9 + 2 * kn.length + lwL (fnT e1) := rfl
  have g1 : WFt a b := WFt.of f2 h27
  have nd : (nI d.length).toNatClampNeg = d.length := natC (nI_Z (by omega))
  rw [d22, nd] at c
  have n0 := natI h12
  have na := natI (a := a.1 0 12) (by omega)
  have ea : (a.1 0 12).toNatClampNeg = (w0.1 0 12).toNatClampNeg + lnX d := by omega
  refine ⟨by rw [ln, lf, f1]; omega, h2.tr g1, h3.tt f3 h2 g1, TXw.app d _ _ _ (TXw.ut g1 (Int.le_refl _) d _ _ (fun i hi => ?_) h4) ⟨⟨?_, ?_, ⟨Z, by rw [h27]; exact hZ, h7⟩, ?_, ?_, l8⟩, trivial⟩, ?_⟩
  · have ne : i ≠ d.length := by omega
    rw [c.1, c.2.1, c.2.2, updN_ ne, updN_ ne, updN_ ne]
    exact ⟨rfl, rfl, rfl⟩
  · rw [Nat.zero_add, c.2.1, updS, ← ea]
    exact f4.cd h2.2.2.1.1
  · rw [← ea, lf, f1]
    omega
  · rw [Nat.zero_add, c.1, updS, ← ea]
    exact (nI_nat (by omega)).symm
  · rw [Nat.zero_add, c.2.2, updS]
  · rw [fxX_app, ← ea]
    have T := h5.tt f5 g1 h0
    have e : fxX (a.1 0 12).toNatClampNeg [(kn, e1)] = fxL ((a.1 0 12).toNatClampNeg + 9 + 2 * kn.length) (fnT e1) := List.append_nil _
    rw [e]
    exact T
/-- what a part of the text has left -/
def TWq (n : Int) (K : TK) (w0 w : MS) : Prop := ∃ y W' d f, RIq n K W' w y ∧ (tItems SP K 1502 X0 = tItems SP K f y ∧ gItems EvSP SP K 1502 X0 = (gItems EvSP SP K f y).bind (fun r => some (d ++ r))) ∧ (1501 : Int) ≤ ((f : Nat) : Int) + (w.1 0 47).toInt ∧ (w.1 0 22 = nI d.length ∧ d.length ≤ 40 ∧ ∀ q ∈ d, q.1.length ≤ 8) ∧ (BDw w0 (lnX d) → TXX K w0 w d)
set_option maxHeartbeats 800000 in
theorem oItemsW (I0 : RIq n K W w0 X0) (h22 : w0.1 0 22 = 0) (h47 : (w0.1 0 47).toInt = 0) (hr : RT Q_m_walk_L0 w0 w80) : TWq n K w0 w80 := by
  refine RT.ind (TWq n K w0) hr ⟨X0, W, [], 1502, I0, ⟨rfl, ?_⟩, by show (1501 : Int) ≤ 1502 + (w0.1 0 47).toInt; omega, ⟨by rw [h22]; rfl, by decide, fun q h => nomatch h⟩, fun _ => TXX.rf⟩ ?_
  · cases gItems EvSP SP K 1502 X0 with
    | none => rfl
    | some q => rfl
  intro a b _ ha hb
  obtain ⟨y, W1, d, f, I1, ⟨hf, hg⟩, hm, ⟨d22, d40, d8⟩, hT⟩ := ha
  obtain ⟨y47, -, -, -, -, -, -, -, -, c1, u225, hi, ki, rfl⟩ := hb
  obtain ⟨f0, rfl⟩ : ∃ f0, f = f0 + 1 := ⟨f - 1, by omega⟩
  have kd9 : ¬ (kd (mkE K y.2.2) y.1).toInt = 0 := by
    rw [I1.2.1, kdB]
    exact fun q => c1 ((kd0 I1.1).mp q)
  rcases rItem SP_m hi I1 with ⟨-, W', y', q1, q2⟩ | ⟨q, -⟩
  · have hf2 : tItems SP K 1502 X0 = tItems SP K f0 y' := by
      rw [hf]
      show (if (kd (mkE K y.2.2) y.1).toInt = 0 then _ else _) = _
      rw [if_neg kd9, q1, bd_ok]
    have gi : gItems EvSP SP K (f0 + 1) y = if ((mkE K y.2.2).1 (pAt y.1 + 1 + 1)).toInt = 30 then (gFunc EvSP (mkE K y.2.2) (pAt y.1 + 1)).bind fun q => (gItems EvSP SP K f0 y').bind fun r => some ((q.1, q.2.1) :: r) else gItems EvSP SP K f0 y' := by
      show (if (kd (mkE K y.2.2) y.1).toInt = 0 then some [] else match tItem SP K y with
        | .error _ => none
        | .ok x' => if ((mkE K y.2.2).1 (pAt y.1 + 1 + 1)).toInt = 30 then (gFunc EvSP (mkE K y.2.2) (pAt y.1 + 1)).bind fun q => (gItems EvSP SP K f0 x').bind fun r => some ((q.1, q.2.1) :: r) else gItems EvSP SP K f0 x' : Option (List (List Int32 × List EV))) = _
      rw [if_neg kd9, q1]
    have b47 := ki.2.1.1
    have hlen : ((mkE K y.2.2).2.2.2.length : Int) ≤ (a.1 0 27).toInt := by
      have l := I1.2.2.2.1
      have n27 : (((a.1 0 27).toNatClampNeg : Nat) : Int) = (a.1 0 27).toInt := natI I1.2.2.2.2.1.2.1
      have e1 : (mkE K y.2.2).2.2.2.length = y.2.2.length := List.length_map _
      rw [e1, l]
      unfold gsM nGm
      rw [List.length_map, List.length_range]
      omega
    rcases oItemW EvSP_w EvSP_m SP_m hi I1 with ⟨c30, kn, e1, j, fr, x1, x2, x3, x4, x5, x6⟩ | ⟨c30, x2, x4⟩
    · have l22 := q2.2.2.2.2.1.1.2
      have nd : (nI d.length).toInt = d.length := nI_Z (by omega)
      have n22 : nI d.length + 1 = nI (d.length + 1) := by
        refine Int32.toInt_inj.mp ?_
        have s1 : (nI d.length + 1).toInt = (nI d.length).toInt + 1 := add_z rfl (by decide) (by omega) (by omega)
        rw [nI_Z (show d.length + 1 < 2147483648 by omega), s1, nd]
        omega
      rw [d22, n22] at x6
      rw [x6, nI_Z (show d.length + 1 < 2147483648 by omega)] at l22
      refine ⟨y', W', d ++ [(kn, e1)], f0, q2, ⟨hf2, ?_⟩, by omega, ⟨?_, ?_, ?_⟩, fun B => ?_⟩
      · rw [hg, gi, if_pos c30, x1, Option.bind_some]
        cases gItems EvSP SP K f0 y' with
        | none => rfl
        | some r =>
          show some (d ++ (kn, e1) :: r) = some (d ++ [(kn, e1)] ++ r)
          rw [List.append_assoc]
          rfl
      · rw [x6, List.length_append]
        rfl
      · rw [List.length_append]
        show d.length + 1 ≤ 40
        omega
      · intro q hq
        rcases List.mem_append.mp hq with g | g
        · exact d8 q g
        · rw [List.mem_singleton.mp g]
          exact x4
      · obtain ⟨B1, B2, B3⟩ := B
        rw [lnX_app, lnX_cons, lnX_nil, Nat.add_zero] at B2
        have T := hT ⟨B1, by omega, B3⟩
        have t1 := T.1
        have t43 := T.2.1.2.1.1
        have F := x2 ⟨by omega, by omega, by omega⟩
        exact T.fn F B1 B3 d22 d40 x3 x4 x5 (p7Func EvSP_7 x1) hlen
    · refine ⟨y', W', d, f0, q2, ⟨hf2, ?_⟩, by omega, ⟨by rw [x4]; exact d22, d40, d8⟩, fun B => (hT B).gl x2 B.2.2⟩
      rw [hg, gi, if_neg c30]
  · cases q
end ZZS
