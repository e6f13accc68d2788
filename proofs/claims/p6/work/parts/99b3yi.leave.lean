/-! both meanings side by side: functions are left, called -/
section YIL
variable {g : GC} {N : Nat} {ng lim : Int} {L1 L2 : List Nat} {K : TK} {fn : Nat → Int32} {v0 w0 : MS} {ka : Int} {v w u u2 : MS} {f k B b i' : Nat} {p : Int} {P PO : Nat} {q : EV} {kc pb hh : Nat} {r : Int32} {s : ST3}
theorem skB {F PL C7 C8 C9 : Nat → Int32} (hL : ∀ f i, zOk g f i → zLo g f ≤ zMm g f) : ∀ (k f B b : Nat) (p : Int), SKf g F PL C7 C8 C9 k f B b p → b ≤ 2 * B ∧ 2 * k ≤ B
  | 0, f, B, b, p, h => ⟨by rw [h.2.1]; omega, by omega⟩
  | k + 1, f, B, b, p, h => by
    obtain ⟨-, f', i', B', b', kc, pb, p', h1, h2, h3, ⟨h4, h4'⟩, -, -, h7, -⟩ := h
    have := skB hL k f' B' b' p' h1
    have := hL f' i' h3
    exact ⟨by omega, by omega⟩
def RETs (g : GC) (N : Nat) (ng lim ka p : Int) (w u y : MS) : Prop := ∃ f' i' k' B' b' p', zOk g f' i' ∧ STA g N ng lim (ka + 1) u y f' k' B' b' p' (zTy g f' i') ∧ ((u.1 0 364).toInt = zPd g f' i' ∧ (y.1 0 112).toInt = zPo g f' i') ∧ p = p' + zRk g f' i' ∧ y.1 0 113 = w.1 0 113
theorem evLv (A : AG v0 v) (Am : AGM w0 w) (S : STA g N ng lim ka v w f k B b p (kc, 0, 1)) (hc : 0 ≤ (v.1 0 364).toInt ∧ (v.1 0 364).toInt < (v.1 0 381).toInt) (D : v.1 378 (v.1 0 364).toNatClampNeg = 1) (o1 : w.1 71 (w.1 0 112).toNatClampNeg = 15) (hN : N ≤ 4096) (hl : 0 ≤ lim) (hL : ∀ f i, zOk g f i → zLo g f ≤ zMm g f) (h79 : (w0.1 79 f).toInt = 8 + 4 * (zMm g f : Int)) (Q1 : Q_x_X10_doDeed L1 L2 N v u) (Q2 : Q_m_obey w N r u2) : RETs g N ng lim ka p w u (wA u2 0 121 r) ∨ FIN ng (ka + 1) u (wA u2 0 121 r) := by
  obtain ⟨p1, p2, p3, p4⟩ := S.pi1
  have tf := tfn_k S
  have C := S.cnt
  have S0 := S
  obtain ⟨⟨s1, s1'⟩, ⟨s2, s2'⟩, ⟨s3, s3'⟩, ⟨s4, s4', s4''⟩, s5, s6, s7, s8⟩ := S
  obtain ⟨u3, e0, -, e1⟩ := dD_1 Q1 hc.1 hc.2 D
  obtain ⟨r3, f3, r6, f6, e0⟩ := e0
  have f3 := fwR (n := B) hN (show ((wA v 0 364 (v.1 0 364 + 1)).1 0 365).toInt = B from s2) (by omega) f3
  have f3 : r3 = v.1 358 B := f3
  have i1 : (v.1 0 365 + 1).toInt = ((B + 1 : Nat) : Int) := (add_z s2 (by decide) (by omega) (by omega) : (v.1 0 365 + 1).toInt = (B : Int) + 1).trans (by omega)
  have f6 := fwR (n := B + 1) hN i1 (by omega) f6
  have f6 : r6 = v.1 358 (B + 1) := f6
  obtain ⟨r8, u8, m0, -, e2, e3⟩ := dO_15 Q2 o1
  obtain ⟨-, m0⟩ := m0
  have d1 : (w.1 0 110 - 1).toInt = (k : Int) := (sub_z s3' (by decide) (by omega) (by omega) : (w.1 0 110 - 1).toInt = (k : Int) + 1 - 1).trans (by omega)
  have nk : (w.1 0 110 - 1).toNatClampNeg = k := natC d1
  have nb : (w.1 0 111).toNatClampNeg = b := natC s3
  have pq : w.1 105 (w.1 0 106 - 1).toNatClampNeg = v.1 0 363 := by rw [p3, p4]
  have k8 : (w.1 0 111 + 1).toInt = (b : Int) + 1 := add_z s3 (by decide) (by omega) (by omega)
  have t9 : (w.1 109 k).toNatClampNeg = f := by
    have tf := tf
    have n1 : (w.1 0 110).toNatClampNeg = k + 1 := natC (by omega)
    unfold tfn at tf
    rw [n1, Nat.add_sub_cancel] at tf
    exact tf
  obtain ⟨U, hU⟩ : ∃ U, U = wA (wA (wA (wA (wA (wA (wA (wA (wA w 0 112 (w.1 0 112 + 1)) 0 106 (w.1 0 106 - 1)) 0 106 (w.1 0 111)) 0 110 (w.1 0 110 - 1)) 0 115 (w.1 0 115 - w0.1 79 f)) 0 112 (w.1 107 k)) 0 111 (w.1 108 k)) 105 b (v.1 0 363)) 0 106 (w.1 0 111 + 1) := ⟨_, rfl⟩
  have m1 : ((k : Int) ≠ 0 ∧ r8 = -1 ∧ u8 = U) ∨ ((k : Int) = 0 ∧ r8 = 0 ∧ u8 = U) := by
    have e79 : w.1 79 = w0.1 79 := Am.2 79 (by decide)
    rw [hU]
    rcases m0 with ⟨c, m1, m2⟩ | ⟨c, m1, m2⟩
    · refine Or.inl ⟨?_, m1, ?_⟩
      · have c : (w.1 0 110).toInt - 1 ≠ 0 := c
        omega
      · have m2 : u8 = wA (wA (wA (wA (wA (wA (wA (wA (wA w 0 112 (w.1 0 112 + 1)) 0 106 (w.1 0 106 - 1)) 0 106 (w.1 0 111)) 0 110 (w.1 0 110 - 1)) 0 115 (w.1 0 115 - w.1 79 (w.1 109 (w.1 0 110 - 1).toNatClampNeg).toNatClampNeg)) 0 112 (w.1 107 (w.1 0 110 - 1).toNatClampNeg)) 0 111 (w.1 108 (w.1 0 110 - 1).toNatClampNeg)) 105 (w.1 0 111).toNatClampNeg (w.1 105 (w.1 0 106 - 1).toNatClampNeg)) 0 106 (w.1 0 111 + 1) := m2
        rw [nk, t9, nb, pq, e79] at m2
        exact m2
    · refine Or.inr ⟨?_, m1, ?_⟩
      · have c : (w.1 0 110).toInt - 1 = 0 := c
        omega
      · have m2 : u8 = wA (wA (wA (wA (wA (wA (wA (wA (wA w 0 112 (w.1 0 112 + 1)) 0 106 (w.1 0 106 - 1)) 0 106 (w.1 0 111)) 0 110 (w.1 0 110 - 1)) 0 115 (w.1 0 115 - w.1 79 (w.1 109 (w.1 0 110 - 1).toNatClampNeg).toNatClampNeg)) 0 112 (w.1 107 (w.1 0 110 - 1).toNatClampNeg)) 0 111 (w.1 108 (w.1 0 110 - 1).toNatClampNeg)) 105 (w.1 0 111).toNatClampNeg (w.1 105 (w.1 0 106 - 1).toNatClampNeg)) 0 106 (w.1 0 111 + 1) := m2
        rw [nk, t9, nb, pq, e79] at m2
        exact m2
  rw [e2, e3, e1]
  cases k with
  | zero =>
    right
    obtain ⟨B0, b0, -, -, F0⟩ := s6
    rw [B0] at f3
    rcases e0 with ⟨c, -⟩ | ⟨-, e0⟩
    · rw [f3, F0] at c
      exact absurd (by decide) c
    · rcases m1 with ⟨c, -⟩ | ⟨-, m1, m2⟩
      · exact absurd rfl c
      · rw [e0, m1, m2, hU]
        refine ⟨⟨rfl, by show (0 : Int32) ≠ -1; decide⟩, S0.cnt.sm (by omega) ⟨rfl, rfl, rfl, rfl, rfl, rfl⟩ ⟨rfl, rfl, rfl, rfl, rfl, rfl⟩, fun _ => ?_⟩
        show v.1 0 363 = upd (w.1 105) b (v.1 0 363) (w.1 0 111 + 1 - 1).toNatClampNeg
        rw [Int32.add_sub_cancel, nb, updS]
  | succ k =>
    left
    obtain ⟨h0, f', i', B', b', kc', pb', p', h1, h2, h3, ⟨h4, h4'⟩, ⟨h5, h5'⟩, ⟨h6, h6'⟩, ⟨h7, h7'⟩, h8, h9, h10⟩ := s6
    rcases e0 with ⟨-, e0⟩ | ⟨c, -⟩
    · rcases m1 with ⟨-, m1, m2⟩ | ⟨c, -⟩
      · have kb := skB hL k f' B' b' p' h1
        have s5' : (w.1 0 115 - w0.1 79 f).toInt = 4 * ((B' : Int) + 2 + zMm g f') := (sub_z s5 h79 (by omega) (by omega) : (w.1 0 115 - w0.1 79 f).toInt = 4 * ((B : Int) + 2 + zMm g f) - (8 + 4 * (zMm g f : Int))).trans (by omega)
        rw [e0, m1, m2, hU, f3, f6]
        refine ⟨f', i', k, B', b', p', h3, STA.le (s := (kc', pb', 1)) ?_ h8, ⟨h6, h5⟩, h2, rfl⟩
        refine ⟨⟨s1, rfl⟩, ⟨h6', by show (v.1 0 365).toInt = _; omega⟩, ⟨h5', by show (w.1 0 110 - 1).toInt = _; omega⟩, ⟨by omega, kb.1, kb.2⟩, s5', ?_, ?_, S0.cnt.sm (by omega) ⟨rfl, rfl, rfl, rfl, rfl, rfl⟩ ⟨rfl, rfl, rfl, rfl, rfl, rfl⟩⟩
        · refine SKf.keep k f' B' b' p' h1 (fun j _ => rfl) (fun j hj => ?_) (fun j _ => ⟨rfl, rfl, rfl⟩)
          show upd (w.1 105) b (v.1 0 363) j = _
          rw [updN_ (by omega)]
        · show COR (v.1 358) (upd (w.1 105) b (v.1 0 363)) (v.1 0 363) B' b' (zMm g f') (zLo g f') (kc', pb', 1) (w.1 0 111 + 1).toInt
          refine ⟨fun j hj => ?_, fun j hj => ?_, ⟨h7, h7'⟩, ?_, fun _ => ?_, fun e => absurd e n12⟩
          · have hj : j < kc' := hj
            rw [updN_ (by omega)]
            exact h9 j hj
          · have hj : j < pb' := hj
            show v.1 358 (B' + 2 + (kc' + j)) = _
            rw [updN_ (by omega)]
            exact h10 j hj
          · show _ = (b' : Int) + zLo g f' + pb' + 1
            rw [k8]
            omega
          · show _ = upd (w.1 105) b (v.1 0 363) (b' + (zLo g f' + pb'))
            rw [← h4', updS]
      · exact absurd c (by omega)
    · rw [f3, h6] at c
      omega
end YIL
