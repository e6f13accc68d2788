/-! the class: all deeds are laid -/
def AB (w U v : MS) : Prop := v.1 378 = w.1 378 ∧ v.1 379 = U.1 379 ∧ (∀ i ∈ [375, 377, 381], v.1 0 i = w.1 0 i) ∧ (∀ a, 5000 ≤ a → ∀ j : Nat, j ≠ 1 → v.1 a j = w.1 a j)
def ENt (w : MS) (k f : Nat) : Prop := w.1 378 k = 0 ∧ (w.1 379 k).toInt = f
def AL (L1 : List Nat) (w z : MS) (n : Nat) : Prop := z.1 0 337 = 2 + dsum (p9 L1 w) (w.1 378) (w.1 379) n ∧ z.1 0 339 = (if dhas isT (w.1 378) (w.1 379) n = true then 1 else 0) ∧ z.1 0 340 = (if dhas isD (w.1 378) (w.1 379) n = true then 1 else 0) ∧ ∀ f : Nat, f < 40 → ∀ k, k < n → ENt w k f → (∀ k', k < k' → k' < n → ¬ ENt w k' f) → rF L1 z f 1 = 4 * (2 + dsum (p9 L1 w) (w.1 378) (w.1 379) k)
def HW (L1 : List Nat) (W : Nat → Int32) (w U : MS) : Prop := (0 ≤ (w.1 0 375).toInt ∧ (w.1 0 375).toInt ≤ 40) ∧ (0 ≤ (w.1 0 321).toInt ∧ (w.1 0 321).toInt ≤ 501) ∧ LK L1 W w U ∧ (∀ f : Nat, f < nF w → 0 ≤ (rF L1 w f 0).toInt) ∧ (∀ c : Nat, c < nC w → ∃ g : FN, fnm (fsC L1 W w) (w.1 318 c) = some g ∧ g.2.2.1 = w.1 320 c)
section CAL
variable {L1 L2 : List Nat} {N : Nat} {W : Nat → Int32} {v u w x z U : MS} {pa pb pc1 pd r k l d y : Int32} {p : Int → Int32}
theorem i_m1 : (-1 : Int32).toInt = -1 := by decide
theorem wEq (H : HW L1 W w U) {k : Nat} (hk : (k : Int) < (w.1 0 381).toInt) (h5 : z.1 0 375 = w.1 0 375) (hr : ∀ a, 5000 ≤ a → z.1 a 0 = w.1 a 0) : lw L1 z (w.1 378 k) (U.1 379 k) = dsy (p9 L1 w) (w.1 378 k) (w.1 379 k) := by
  obtain ⟨J3, z21, lk, pn, ck⟩ := H
  have L := lk k hk
  unfold lw dsy
  rw [ff_cg h5 hr]
  have nf := natI J3.1
  have nc := natI z21.1
  by_cases d21 : w.1 378 k = 21
  · rw [if_pos d21, if_pos d21]
    congr 1
    have xl := Int32.toInt_lt (w.1 379 k)
    rcases L.1 d21 with ⟨q, e⟩ | ⟨a, b, q⟩
    · have fe : ff L1 w (-1) = -1 := if_neg (by rw [i_m1]; omega)
      rw [p9_o (by omega) (by omega), e, fe, if_neg (by rw [i_m1]; omega)]
    · have nx := natI a
      rw [p9_c ⟨a, b⟩]
      obtain ⟨g, g1, g2⟩ := ck (w.1 379 k).toNatClampNeg (by unfold nC; omega)
      rcases q with ⟨-, q⟩ | ⟨q1, q2, g', q3, q4⟩
      · rw [g1] at q
        cases q
      · rw [g1] at q3
        have gg : g = g' := Option.some.inj q3
        rw [← gg, g2] at q4
        have nr := natI q1
        have fe : ff L1 w (U.1 379 k) = rF L1 w (U.1 379 k).toNatClampNeg 0 := if_pos ⟨q1, q2, by omega⟩
        rw [fe, ← q4]
        have p0 := pn (U.1 379 k).toNatClampNeg (by unfold nF; omega)
        rw [← q4] at p0
        show (if 0 < (w.1 320 (w.1 379 k).toNatClampNeg).toInt then 1 else 0) = if w.1 320 (w.1 379 k).toNatClampNeg = 0 then 0 else 1
        by_cases e0 : w.1 320 (w.1 379 k).toNatClampNeg = 0
        · rw [if_pos e0, e0, if_neg (by decide)]
        · have : (w.1 320 (w.1 379 k).toNatClampNeg).toInt ≠ 0 := fun q => e0 (Int32.toInt_inj.mp q)
          rw [if_neg e0, if_pos (by omega)]
  · rw [if_neg d21, if_neg d21]
    by_cases d0 : w.1 378 k = 0
    · have xe := L.2 (by rw [d0]; decide) d21
      rw [if_pos d0, if_pos d0, xe]
      congr 1
      have xl := Int32.toInt_lt (w.1 379 k)
      have xg := Int32.le_toInt (w.1 379 k)
      by_cases q : 0 ≤ (w.1 379 k).toInt ∧ (w.1 379 k).toInt < (w.1 0 375).toInt
      · have nx := natI q.1
        have fe : ff L1 w (w.1 379 k) = rF L1 w (w.1 379 k).toNatClampNeg 0 := if_pos ⟨q.1, q.2, by omega⟩
        have pe : p9 L1 w (1099511627776 + (w.1 379 k).toInt) = 2 * rF L1 w (w.1 379 k).toNatClampNeg 0 := by rw [← nx]; exact p9_f (by omega) z21.2
        rw [fe, pe]
        have p0 := pn (w.1 379 k).toNatClampNeg (by unfold nF; omega)
        by_cases e0 : 0 < (rF L1 w (w.1 379 k).toNatClampNeg 0).toInt
        · rw [if_pos e0]
        · have : rF L1 w (w.1 379 k).toNatClampNeg 0 = 0 := Int32.toInt_inj.mp (show _ = (0 : Int) by omega)
          rw [if_neg e0, this]
      · have fe : ff L1 w (w.1 379 k) = -1 := if_neg (fun s => q ⟨s.1, s.2.1⟩)
        rw [fe, if_neg (by rw [i_m1]; omega), p9_g q ⟨by omega, by omega⟩ z21.2]
        decide
    · rw [if_neg d0, if_neg d0]
      by_cases j : 16 ≤ (w.1 378 k).toInt ∧ (w.1 378 k).toInt ≤ 19
      · have n20 : w.1 378 k ≠ 20 := fun q => by rw [q] at j; exact absurd j (by decide)
        rw [if_pos (dvd_t (by omega) (Or.inl n20)), if_pos (dvd_t (by omega) (Or.inl n20))]
        have n2 : w.1 378 k ≠ 2 := fun q => by rw [q] at j; exact absurd j (by decide)
        unfold dsz
        simp only [if_neg n2, if_neg n20]
      · rw [L.2 j d21, p9_e z21.2 J3.2]
theorem row_1 (rd : RD L1 L2) (h : Q_x_X7_changeFunction L1 L2 v pa 1 y u) : (∀ f : Nat, f < 40 → pa.toInt = f → rF L1 u f 1 = y) ∧ (∀ f : Nat, f < 40 → pa.toInt ≠ f → rF L1 u f 1 = rF L1 v f 1) := by
  obtain ⟨-, h⟩ := h
  unfold rF
  rcases h with ⟨a, rfl⟩ | ⟨a, ⟨b, rfl⟩ | ⟨b, ⟨q, rfl⟩ | ⟨-, ⟨q, rfl⟩ | ⟨-, rfl⟩⟩⟩⟩
  · exact ⟨fun f hf e => by omega, fun f hf e => rfl⟩
  · exact ⟨fun f hf e => by omega, fun f hf e => rfl⟩
  · exact absurd q (by decide)
  · exact absurd q (by decide)
  · have np := natI a
    refine ⟨fun f hf e => ?_, fun f hf e => ?_⟩
    · have : f = pa.toNatClampNeg := by omega
      rw [this]
      show (if 5000 + rowA L1 pa.toNatClampNeg = 5000 + rowA L1 pa.toNatClampNeg then upd (v.1 _) 1 y else _) 1 = y
      rw [if_pos rfl]
      exact updS
    · have : rowA L1 f ≠ rowA L1 pa.toNatClampNeg := rd.2.1 f _ hf (by omega) (by omega)
      show (if 5000 + rowA L1 f = 5000 + rowA L1 pa.toNatClampNeg then _ else v.1 _) 1 = _
      rw [if_neg (by omega)]
set_option maxHeartbeats 1600000 in
theorem zLoop (rd : RD L1 L2) (H : HW L1 W w U) {ka : Int32} {w33 u5 : MS} (A : AB w U v) (A5 : AB w U u5) (h5 : u5.1 0 337 = 2 ∧ u5.1 0 339 = 0 ∧ u5.1 0 340 = 0) (z81 : 0 ≤ (w.1 0 381).toInt) (hr : RT (Q_x_X0_layAll_L0 L1 L2 N v) (0, u5) (ka, w33)) (hx : (w33.1 0 381).toInt ≤ ka.toInt) : AB w U w33 ∧ AL L1 w w33 (nD w) := by
  have inv : (0 ≤ ka.toInt ∧ ka.toInt ≤ (w.1 0 381).toInt) ∧ AB w U w33 ∧ AL L1 w w33 ka.toNatClampNeg := by
    refine RT.ind (fun (y : Int32 × MS) => (0 ≤ y.1.toInt ∧ y.1.toInt ≤ (w.1 0 381).toInt) ∧ AB w U y.2 ∧ AL L1 w y.2 y.1.toNatClampNeg) hr ⟨⟨show 0 ≤ (0 : Int32).toInt by decide, by show (0 : Int32).toInt ≤ _; have : (0 : Int32).toInt = 0 := (by decide); omega⟩, A5, ?_⟩ ?_
    · exact ⟨h5.1, h5.2.1, h5.2.2, fun f _ k hk => absurd hk (by show ¬ k < (0 : Int32).toNatClampNeg; have : (0 : Int32).toNatClampNeg = 0 := (by decide); omega)⟩
    intro a b _ ha hb
    obtain ⟨g1, gA, gL⟩ := ha
    obtain ⟨fa, ba, sa, ca, ca2, u49, hl, kl, rfl⟩ := hb
    have na := natI g1.1
    have ea : (a.1 + (1 : Int32)).toInt = a.1.toInt + 1 := add_z rfl (by decide) (by omega) (by omega)
    have nb : (a.1 + (1 : Int32)).toNatClampNeg = a.1.toNatClampNeg + 1 := natS ea g1.1
    have e81 : a.2.1 0 381 = w.1 0 381 := gA.2.2.1 381 (by decide)
    rw [e81] at ca
    rw [gA.1, gA.2.1] at hl
    have Z := zLay hl
    have rz : ∀ c, 5000 ≤ c → ∀ j : Nat, j ≠ 1 → u49.1 c j = a.2.1 c j := by
      intro c hc j hj
      have e1 : (wA a.2 336 a.1.toNatClampNeg (4 * a.2.1 0 337)).1 c = a.2.1 c := if_neg (by omega)
      rcases Z.2.2.2 with ⟨-, u6, h6, r6⟩ | ⟨-, r6⟩
      · rw [r6 c hc, row_c h6 hj, e1]
      · rw [r6 c hc, e1]
    have lwe : lw L1 (wA a.2 336 a.1.toNatClampNeg (4 * a.2.1 0 337)) (w.1 378 a.1.toNatClampNeg) (U.1 379 a.1.toNatClampNeg) = dsy (p9 L1 w) (w.1 378 a.1.toNatClampNeg) (w.1 379 a.1.toNatClampNeg) := wEq H (by omega) (gA.2.2.1 375 (by decide)) (fun c hc => (congrFun (if_neg (by omega)) 0).trans (gA.2.2.2 c hc 0 (by decide)))
    have Z1 : u49.1 0 337 = a.2.1 0 337 + lw L1 (wA a.2 336 a.1.toNatClampNeg (4 * a.2.1 0 337)) (w.1 378 a.1.toNatClampNeg) (U.1 379 a.1.toNatClampNeg) := Z.1
    have x20 : w.1 378 a.1.toNatClampNeg = 20 → U.1 379 a.1.toNatClampNeg = w.1 379 a.1.toNatClampNeg := fun q => (H.2.2.1 _ (by omega)).2 (by rw [q]; decide) (by rw [q]; decide)
    have x0 : w.1 378 a.1.toNatClampNeg = 0 → U.1 379 a.1.toNatClampNeg = w.1 379 a.1.toNatClampNeg := fun q => (H.2.2.1 _ (by omega)).2 (by rw [q]; decide) (by rw [q]; decide)
    have hb : ∀ {P : Int32 → Bool} {s t : Int32}, s = (if dhas P (w.1 378) (w.1 379) a.1.toNatClampNeg = true then 1 else 0) → t = (if w.1 378 a.1.toNatClampNeg = 20 ∧ P (U.1 379 a.1.toNatClampNeg) = true then 1 else s) → t = (if dhas P (w.1 378) (w.1 379) (a.1.toNatClampNeg + 1) = true then 1 else 0) := by
      intro P s t hs ht
      show t = if (dhas P (w.1 378) (w.1 379) a.1.toNatClampNeg || (decide (w.1 378 a.1.toNatClampNeg = 20) && P (w.1 379 a.1.toNatClampNeg))) = true then 1 else 0
      rw [ht]
      by_cases q : w.1 378 a.1.toNatClampNeg = 20
      · rw [x20 q, decide_eq_true q, Bool.true_and]
        by_cases q2 : P (w.1 379 a.1.toNatClampNeg) = true
        · rw [if_pos ⟨q, q2⟩, q2, Bool.or_true, if_pos rfl]
        · have q3 : P (w.1 379 a.1.toNatClampNeg) = false := by cases hq : P (w.1 379 a.1.toNatClampNeg) with | true => exact absurd hq q2 | false => rfl
          rw [if_neg (fun z => q2 z.2), q3, Bool.or_false, hs]
      · rw [if_neg (fun z => q z.1), decide_eq_false q, Bool.false_and, Bool.or_false, hs]
    refine ⟨⟨by show 0 ≤ (a.1 + (1 : Int32)).toInt; omega, by show (a.1 + (1 : Int32)).toInt ≤ _; omega⟩, ⟨?_, ?_, ?_, ?_⟩, ?_⟩
    · show u49.1 378 = _
      rw [kl.1.2.2 378 (by decide)]
      exact gA.1
    · show u49.1 379 = _
      rw [kl.1.2.2 379 (by decide)]
      exact gA.2.1
    · intro i hi
      show u49.1 0 i = _
      rw [kl.1.2.1 i (by revert i; decide)]
      exact gA.2.2.1 i hi
    · intro c hc j hj
      show u49.1 c j = _
      rw [rz c hc j hj]
      exact gA.2.2.2 c hc j hj
    · show AL L1 w u49 (a.1 + (1 : Int32)).toNatClampNeg
      rw [nb]
      refine ⟨?_, hb gL.2.1 Z.2.1, hb gL.2.2.1 Z.2.2.1, ?_⟩
      · rw [Z1, lwe, gL.1, Int32.add_assoc]
        rfl
      · intro f hf k hk he hlast
        have e1 : ∀ f, rF L1 (wA a.2 336 a.1.toNatClampNeg (4 * a.2.1 0 337)) f 1 = rF L1 a.2 f 1 := fun f => congrFun (if_neg (by omega)) 1
        by_cases kn : k = a.1.toNatClampNeg
        · subst kn
          have xe := x0 he.1
          rcases Z.2.2.2 with ⟨-, u6, h6, r6⟩ | ⟨q, -⟩
          · unfold rF
            rw [r6 _ (by omega)]
            have q := (row_1 rd h6).1 f hf (by rw [xe]; exact he.2)
            unfold rF at q
            rw [q]
            show 4 * a.2.1 0 337 = _
            rw [gL.1]
          · exact absurd he.1 q
        · have old := gL.2.2.2 f hf k (by omega) he (fun k' h1 h2 => hlast k' h1 (by omega))
          have nn := hlast a.1.toNatClampNeg (by omega) (by omega)
          rw [← old]
          rcases Z.2.2.2 with ⟨d0, u6, h6, r6⟩ | ⟨-, r6⟩
          · unfold rF
            rw [r6 _ (by omega)]
            have q := (row_1 rd h6).2 f hf (by rw [x0 d0]; exact fun z => nn ⟨d0, z⟩)
            rw [e1] at q
            exact q
          · unfold rF
            rw [r6 _ (by omega)]
            exact e1 f
  have e81 := inv.2.1.2.2.1 381 (by decide)
  rw [e81] at hx
  have : ka.toNatClampNeg = nD w := by unfold nD; congr 1; exact Int32.toInt_inj.mp (by omega)
  rw [this] at inv
  exact inv.2
end CAL
