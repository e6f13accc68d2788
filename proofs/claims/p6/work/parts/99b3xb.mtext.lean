/-! the reference's orders: a whole text -/
/-- the orders, at the end: q's stands at p -/
def mfA (K : TK) (u : MS) (q : EV) (p : Nat) : Prop :=
  if q.1 = 16 ∨ q.1 = 17 ∨ q.1 = 18 ∨ q.1 = 19 then (u.1 14 p).toInt = p + q.2.2.2.2.1
  else if q.1 = 5 ∨ q.1 = 6 then (q.2.1.toNatClampNeg : Int) < (u.1 0 27).toInt ∧ u.1 14 p = u.1 25 q.2.1.toNatClampNeg
  else if q.1 = 20 then ∃ z ∈ SC, z.2 = q.2.1 ∧ u.1 14 p = z.1
  else if q.1 = 21 then 0 ≤ (u.1 14 p).toInt ∧ (u.1 14 p).toInt < (u.1 0 22).toInt ∧ K.2.1 (u.1 16 (u.1 14 p).toNatClampNeg) = q.2.1
  else if q.1 = 2 ∨ q.1 = 3 ∨ q.1 = 4 ∨ q.1 = 7 then u.1 14 p = q.2.1
  else if q.1 = 30 ∨ q.1 = 31 then False
  else u.1 14 p = 0
def MFq (K : TK) (u : MS) (a : List EV) : Prop := ∀ x q y, a = x ++ q :: y → loE q = 0 ∨ (u.1 13 (loL x) = oEv q ∧ mfA K u q (loL x))
theorem EvSP_m {n : Int} {K : TK} : XMs9 n K (QMS 40) EvSP := oSLev (Es := EP) (fun m hm => (oLev m 50 hm).2.2) (fun m hm => (mLev m 50 hm).2.2) EP_b 40 50 (by decide) (by decide)
theorem oEv14 {q : EV} (h : oEv q = 14) : q.1 = 21 := by
  apply Classical.byContradiction
  intro c
  unfold oEv at h
  by_cases c2 : q.1 = 2
  · rw [if_pos c2] at h; exact absurd h (by decide)
  rw [if_neg c2] at h
  by_cases c3 : q.1 = 3
  · rw [if_pos c3] at h; exact absurd h (by decide)
  rw [if_neg c3] at h
  by_cases c4 : q.1 = 4
  · rw [if_pos c4] at h; exact absurd h (by decide)
  rw [if_neg c4] at h
  by_cases c5 : q.1 = 5
  · rw [if_pos c5] at h; exact absurd h (by decide)
  rw [if_neg c5] at h
  by_cases c6 : q.1 = 6
  · rw [if_pos c6] at h; exact absurd h (by decide)
  rw [if_neg c6] at h
  by_cases c7 : q.1 = 7
  · rw [if_pos c7] at h; exact absurd h (by decide)
  rw [if_neg c7] at h
  by_cases c8 : q.1 = 8
  · rw [if_pos c8] at h; exact absurd h (by decide)
  rw [if_neg c8] at h
  by_cases c10 : q.1 = 10
  · rw [if_pos c10] at h; exact absurd h (by decide)
  rw [if_neg c10] at h
  by_cases c11 : q.1 = 11
  · rw [if_pos c11] at h; exact absurd h (by decide)
  rw [if_neg c11] at h
  by_cases c25 : q.1 = 25
  · rw [if_pos c25] at h; exact absurd h (by decide)
  rw [if_neg c25] at h
  by_cases c16 : q.1 = 16
  · rw [if_pos c16] at h
    by_cases d : q.2.2.1 = 1
    · rw [if_pos d] at h; exact absurd h (by decide)
    · rw [if_neg d] at h; exact absurd h (by decide)
  rw [if_neg c16] at h
  by_cases c17 : q.1 = 17
  · rw [if_pos c17] at h; exact absurd h (by decide)
  rw [if_neg c17] at h
  by_cases c18 : q.1 = 18
  · rw [if_pos c18] at h; exact absurd h (by decide)
  rw [if_neg c18] at h
  by_cases c19 : q.1 = 19
  · rw [if_pos c19] at h; exact absurd h (by decide)
  rw [if_neg c19] at h
  by_cases c24 : q.1 = 24
  · rw [if_pos c24] at h; exact absurd h (by decide)
  rw [if_neg c24] at h
  rw [if_neg c] at h
  by_cases c1 : q.1 = 1 ∨ q.1 = 32 ∨ q.1 = 33
  · rw [if_pos c1] at h; exact absurd h (by decide)
  rw [if_neg c1] at h
  by_cases c22 : q.1 = 22
  · rw [if_pos c22] at h; exact absurd h (by decide)
  rw [if_neg c22] at h
  by_cases c23 : q.1 = 23
  · rw [if_pos c23] at h; exact absurd h (by decide)
  rw [if_neg c23] at h
  by_cases c12 : q.1 = 12
  · rw [if_pos c12] at h; exact absurd h (by decide)
  rw [if_neg c12] at h
  by_cases c13 : q.1 = 13
  · rw [if_pos c13] at h; exact absurd h (by decide)
  rw [if_neg c13] at h
  by_cases c14 : q.1 = 14
  · rw [if_pos c14] at h; exact absurd h (by decide)
  rw [if_neg c14] at h
  by_cases c20 : q.1 = 20
  · rw [if_pos c20] at h; exact absurd h (by decide)
  rw [if_neg c20] at h
  exact absurd h (by decide)
section XBT
variable {n : Int} {K : TK} {e : PE} {v u w x' y w0 w80 : MS} {a b d a0 cc : List EV} {q : EV} {r pa pb i kI : Int32} {S : EvS} {Ss : FS} {k p N : Nat} {bz : Bool} {cl cl' : Int} {x : IS} {W : Nat → Int32}
/-- what a part of the text has left -/
def TMq (n : Int) (K : TK) (w0 w : MS) : Prop := ∃ y W' d f, RIq n K W' w y ∧ (tItems SP K 1502 X0 = tItems SP K f y ∧ gItems EvSP SP K 1502 X0 = (gItems EvSP SP K f y).bind (fun r => some (d ++ r))) ∧ (1501 : Int) ≤ ((f : Nat) : Int) + (w.1 0 47).toInt ∧ OAt K w0 w (txE 0 d) ∧ (w.1 0 22 = nI d.length ∧ d.length ≤ 40) ∧ ∀ f : Nat, f < d.length → (w.1 20 f).toInt = loL (txE 0 (d.take f))
set_option maxHeartbeats 800000 in
theorem oItemsM (I0 : RIq n K W w0 X0) (h15 : (w0.1 0 15).toInt = 0) (h22 : w0.1 0 22 = 0) (h47 : (w0.1 0 47).toInt = 0) (hr : RT Q_m_walk_L0 w0 w80) : TMq n K w0 w80 := by
  refine RT.ind (TMq n K w0) hr ⟨X0, W, [], 1502, I0, ⟨rfl, ?_⟩, by show (1501 : Int) ≤ 1502 + (w0.1 0 47).toInt; omega, OAt.rf, ⟨by rw [h22]; rfl, by decide⟩, fun f hf => absurd hf (by show ¬ f < 0; omega)⟩ ?_
  · cases gItems EvSP SP K 1502 X0 with
    | none => rfl
    | some q => rfl
  intro a b _ ha hb
  obtain ⟨y, W1, d, f, I1, ⟨hf, hg⟩, hm, OA1, ⟨d22, d40⟩, h20⟩ := ha
  obtain ⟨y47, -, -, -, -, -, -, -, -, c1, u225, hi, ki, rfl⟩ := hb
  obtain ⟨f0, rfl⟩ : ∃ f0, f = f0 + 1 := ⟨f - 1, by omega⟩
  have a15 := OA1.1
  have kd9 : ¬ (kd (mkE K y.2.2) y.1).toInt = 0 := by
    rw [I1.2.1, kdB]
    exact fun q => c1 ((kd0 I1.1).mp q)
  rcases rItem SP_m hi I1 with ⟨-, W', y', q1, q2⟩ | ⟨q, -⟩
  · have hf2 : tItems SP K 1502 X0 = tItems SP K f0 y' := by
      rw [hf]
      show (if (kd (mkE K y.2.2) y.1).toInt = 0 then _ else _) = _
      rw [if_neg kd9, q1, bd_ok]
    have gi : gItems EvSP SP K (f0 + 1) y = if ((mkE K y.2.2).1 (pAt y.1 + 1 + 1)).toInt = 30 then (gFunc EvSP (mkE K y.2.2) (pAt y.1 + 1)).bind fun q => (gItems EvSP SP K f0 y').bind fun r => some ((q.1, q.2.1) :: r) else gItems EvSP SP K f0 y' := by
      show (if (kd (mkE K y.2.2) y.1).toInt = 0 then some [] else match tItem SP K y with
        | .error _ => none
        | .ok x' => if ((mkE K y.2.2).1 (pAt y.1 + 1 + 1)).toInt = 30 then (gFunc EvSP (mkE K y.2.2) (pAt y.1 + 1)).bind fun q => (gItems EvSP SP K f0 x').bind fun r => some ((q.1, q.2.1) :: r) else gItems EvSP SP K f0 x' : Option (List (List Int32 × List EV))) = _
      rw [if_neg kd9, q1]
    have b47 := ki.2.1.1
    rcases oItemM EvSP_m SP_m hi I1 (by omega) with ⟨c30, kn, e1, j, x1, x2, x3, x4⟩ | ⟨c30, x2, x3, x4⟩
    · have l22 := q2.2.2.2.2.1.1.2
      have nd : (nI d.length).toInt = d.length := nI_Z (by omega)
      have n22 : nI d.length + 1 = nI (d.length + 1) := by
        refine Int32.toInt_inj.mp ?_
        have s1 : (nI d.length + 1).toInt = (nI d.length).toInt + 1 := add_z rfl (by decide) (by omega) (by omega)
        rw [nI_Z (show d.length + 1 < 2147483648 by omega), s1, nd]
        omega
      rw [d22] at x2 x3 x4
      rw [n22] at x4
      rw [x4, nI_Z (show d.length + 1 < 2147483648 by omega)] at l22
      refine ⟨y', W', d ++ [(kn, e1)], f0, q2, ⟨hf2, ?_⟩, by omega, ?_, ⟨?_, ?_⟩, fun f hf => ?_⟩
      · rw [hg, gi, if_pos c30, x1, Option.bind_some]
        cases gItems EvSP SP K f0 y' with
        | none => rfl
        | some r =>
          show some (d ++ (kn, e1) :: r) = some (d ++ [(kn, e1)] ++ r)
          rw [List.append_assoc]
          rfl
      · rw [txE_snoc, Nat.zero_add]
        exact OA1.tr x2 (by omega)
      · rw [x4, List.length_append]
        rfl
      · rw [List.length_append]
        show d.length + 1 ≤ 40
        omega
      · rw [List.length_append] at hf
        have hf : f < d.length + 1 := hf
        have nn : (nI d.length).toNatClampNeg = d.length := natC nd
        rw [x3, nn]
        by_cases g : f = d.length
        · rw [g, updS, List.take_left' rfl]
          omega
        · rw [updN_ g, List.take_append_of_le_length (by omega)]
          exact h20 f (by omega)
    · refine ⟨y', W', d, f0, q2, ⟨hf2, ?_⟩, by omega, ?_, ⟨by rw [x4]; exact d22, d40⟩, fun f hf => by rw [x3]; exact h20 f hf⟩
      · rw [hg, gi, if_neg c30]
      · have T := OA1.tr x2 (by omega)
        rw [List.append_nil] at T
        exact T
  · cases q
/-- a call's function -/
theorem oCallF (J : JG bz n K e w) (D : FD n K w) {c : Nat} (hc : (c : Int) < (w.1 0 39).toInt) (h : Q_m_functionOf2 w (w.1 35 c) r) : (r.toInt < 0 ∧ ∀ j : Nat, j < nFm w → K.2.1 (w.1 16 j) ≠ K.2.1 (w.1 35 c)) ∨ (0 ≤ r.toInt ∧ r.toInt < (w.1 0 22).toInt ∧ K.2.1 (w.1 16 r.toNatClampNeg) = K.2.1 (w.1 35 c)) := by
  rcases rFunOf (W := fun _ => 0) (fo2 h) J D (J.2.2.2.2.2.2 c hc) with ⟨a, b, -⟩ | ⟨a, b, f⟩
  · exact Or.inl ⟨a, b⟩
  · refine Or.inr ⟨a, b, ?_⟩
    have := List.find?_some f
    exact beq_iff_eq.mp this
set_option maxHeartbeats 800000 in
theorem oCallsM {ka kb : Int32} {w171 : MS} (J : JG bz n K e w80) (D : FD n K w80) (C : CJ w0 w80) (c39 : (w0.1 0 39).toInt = 0) (b39 : 0 ≤ (w80.1 0 39).toInt) (b22 : 0 ≤ (w80.1 0 22).toInt) (hk : RT (Q_m_walk_L1 w80) 0 ka) (ck : (w80.1 0 39).toInt ≤ ka.toInt) (hr : RT (Q_m_walk_L2 w80) (0, w80) (kb, w171)) (ckb : (w80.1 0 39).toInt ≤ kb.toInt) : (∀ c : Nat, (c : Int) < (w80.1 0 39).toInt → 0 ≤ (w171.1 14 (w80.1 38 c).toNatClampNeg).toInt ∧ (w171.1 14 (w80.1 38 c).toNatClampNeg).toInt < (w80.1 0 22).toInt ∧ K.2.1 (w80.1 16 (w171.1 14 (w80.1 38 c).toNatClampNeg).toNatClampNeg) = K.2.1 (w80.1 35 c)) ∧ ∀ j : Nat, (∀ c : Nat, (c : Int) < (w80.1 0 39).toInt → (w80.1 38 c).toNatClampNeg ≠ j) → w171.1 14 j = w80.1 14 j := by
  have z0 : (0 : Int32).toInt = 0 := by decide
  have l39 := Int32.toInt_lt (w80.1 0 39)
  have A : ∀ c : Nat, (c : Int) < (w80.1 0 39).toInt → ∃ r : Int32, 0 ≤ r.toInt ∧ Q_m_functionOf2 w80 (w80.1 35 c) r := by
    have : 0 ≤ ka.toInt ∧ ∀ c : Nat, (c : Int) < ka.toInt → ∃ r : Int32, 0 ≤ r.toInt ∧ Q_m_functionOf2 w80 (w80.1 35 c) r := by
      refine RT.ind (fun (y : Int32) => 0 ≤ y.toInt ∧ ∀ c : Nat, (c : Int) < y.toInt → ∃ r : Int32, 0 ≤ r.toInt ∧ Q_m_functionOf2 w80 (w80.1 35 c) r) hk ⟨by omega, fun c hc => by omega⟩ ?_
      intro a b _ ⟨i0, i1⟩ hb
      obtain ⟨-, c1, r7, h7, -, c7, -, rfl⟩ := hb
      have ea : (a + (1 : Int32)).toInt = a.toInt + 1 := add_z rfl (by decide) (by omega) (by omega)
      refine ⟨by omega, fun c hc => ?_⟩
      have na := natI i0
      by_cases g : c = a.toNatClampNeg
      · rw [g]; exact ⟨r7, c7, h7⟩
      · exact i1 c (by omega)
    exact fun c hc => this.2 c (by omega)
  have pos : ∀ c : Nat, (c : Int) < (w80.1 0 39).toInt → 0 ≤ (w80.1 38 c).toInt := fun c hc => (C.1 c (by omega) hc).2.1
  have inj : ∀ c d : Nat, (c : Int) < (w80.1 0 39).toInt → (d : Int) < (w80.1 0 39).toInt → (w80.1 38 c).toNatClampNeg = (w80.1 38 d).toNatClampNeg → c = d := fun c d hc hd q => by
    have n1 := natI (pos c hc)
    have n2 := natI (pos d hd)
    exact C.2 c d (by omega) hc (by omega) hd (Int32.toInt_inj.mp (by omega))
  have inv : 0 ≤ kb.toInt ∧ (∀ c : Nat, (c : Int) < kb.toInt → (c : Int) < (w80.1 0 39).toInt → 0 ≤ (w171.1 14 (w80.1 38 c).toNatClampNeg).toInt ∧ (w171.1 14 (w80.1 38 c).toNatClampNeg).toInt < (w80.1 0 22).toInt ∧ K.2.1 (w80.1 16 (w171.1 14 (w80.1 38 c).toNatClampNeg).toNatClampNeg) = K.2.1 (w80.1 35 c)) ∧ ∀ j : Nat, (∀ c : Nat, (c : Int) < (w80.1 0 39).toInt → (w80.1 38 c).toNatClampNeg ≠ j) → w171.1 14 j = w80.1 14 j := by
    refine RT.ind (fun (y : Int32 × MS) => 0 ≤ y.1.toInt ∧ (∀ c : Nat, (c : Int) < y.1.toInt → (c : Int) < (w80.1 0 39).toInt → 0 ≤ (y.2.1 14 (w80.1 38 c).toNatClampNeg).toInt ∧ (y.2.1 14 (w80.1 38 c).toNatClampNeg).toInt < (w80.1 0 22).toInt ∧ K.2.1 (w80.1 16 (y.2.1 14 (w80.1 38 c).toNatClampNeg).toNatClampNeg) = K.2.1 (w80.1 35 c)) ∧ ∀ j : Nat, (∀ c : Nat, (c : Int) < (w80.1 0 39).toInt → (w80.1 38 c).toNatClampNeg ≠ j) → y.2.1 14 j = w80.1 14 j) hr ⟨show 0 ≤ (0 : Int32).toInt by omega, fun c hc => absurd (show (c : Int) < (0 : Int32).toInt from hc) (by omega), fun _ _ => rfl⟩ ?_
    rintro ⟨s, z⟩ y - ⟨i0, i1, i2⟩ hb
    obtain ⟨fr, bs, cs, r195, h7, -, x202, -, rfl⟩ := hb
    have fr : FG [] [11, 14] w80 z := fr
    have cs : s.toInt < (z.1 0 39).toInt := cs
    have i0 : 0 ≤ s.toInt := i0
    have z0' : ∀ i, z.1 0 i = w80.1 0 i := fun i => fr.2.1 i (fun q => nomatch q)
    have zA : ∀ a ∉ [11, 14], z.1 a = w80.1 a := fr.2.2
    rw [z0' 39] at cs
    have ns := natI i0
    have ea : (s + (1 : Int32)).toInt = s.toInt + 1 := add_z rfl (by decide) (by omega) (by omega)
    have h7 : Q_m_functionOf2 z (z.1 35 s.toNatClampNeg) r195 := h7
    have J2 : JG bz n K e z := J.fr fr (by decide) ⟨by decide, by decide⟩ (by rw [z0' 49, z0' 47]; exact ⟨J.2.2.2.1.1, J.2.2.2.1.2.1, J.2.2.2.1.2.2.1⟩) (fun q => nomatch q)
    have D2 : FD n K z := by
      unfold FD nFm at D ⊢
      rw [z0' 22, zA 16 (by decide)]
      exact D
    have F := oCallF J2 D2 (c := s.toNatClampNeg) (by rw [z0' 39]; omega) h7
    rw [zA 16 (by decide), zA 35 (by decide), z0' 22] at F
    have F2 : 0 ≤ r195.toInt ∧ r195.toInt < (w80.1 0 22).toInt ∧ K.2.1 (w80.1 16 r195.toNatClampNeg) = K.2.1 (w80.1 35 s.toNatClampNeg) := by
      rcases F with ⟨-, no⟩ | F
      · obtain ⟨r, r0, hq⟩ := A s.toNatClampNeg (by omega)
        rcases oCallF J D (c := s.toNatClampNeg) (by omega) hq with ⟨q, -⟩ | ⟨-, q2, q3⟩
        · omega
        · have nr := natI r0
          have : nFm z = nFm w80 := by unfold nFm; rw [z0' 22]
          have n22 : ((nFm w80 : Nat) : Int) = (w80.1 0 22).toInt := natI b22
          exact absurd q3 (no r.toNatClampNeg (by omega))
      · exact F
    have e38 : z.1 38 = w80.1 38 := zA 38 (by decide)
    refine ⟨show 0 ≤ (s + (1 : Int32)).toInt by omega, fun c hc h9 => ?_, fun j hj => ?_⟩
    · have hc : (c : Int) < (s + (1 : Int32)).toInt := hc
      show 0 ≤ (upd (z.1 14) (z.1 38 s.toNatClampNeg).toNatClampNeg r195 (w80.1 38 c).toNatClampNeg).toInt ∧ (upd (z.1 14) (z.1 38 s.toNatClampNeg).toNatClampNeg r195 (w80.1 38 c).toNatClampNeg).toInt < _ ∧ K.2.1 (w80.1 16 (upd (z.1 14) (z.1 38 s.toNatClampNeg).toNatClampNeg r195 (w80.1 38 c).toNatClampNeg).toNatClampNeg) = _
      rw [e38]
      by_cases g : c = s.toNatClampNeg
      · rw [g, updS]
        exact F2
      · rw [updN_ (fun q => g (inj c _ h9 (by omega) q))]
        exact i1 c (show (c : Int) < s.toInt by omega) h9
    · show upd (z.1 14) (z.1 38 s.toNatClampNeg).toNatClampNeg r195 j = _
      rw [e38, updN_ (fun q => hj s.toNatClampNeg (by omega) q.symm)]
      exact i2 j hj
  exact ⟨fun c hc => inv.2.1 c (by omega) hc, inv.2.2⟩
end XBT
