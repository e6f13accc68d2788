/-! the reference's words: return, a function's frame -/
/-- what stands behind a function's beginning -/
def fnT (b : List EV) : List EV := rsr (d3p (b ++ [evx 2 0 0])) b ++ [evx 2 0 0] ++ [evx 1 0 0]
/-- the beginning, before the limit is known -/
def enR (fr : Int32) : List Int32 := [iW 19 2 2 (-fr), 0, 0, bW 20579 2 6 12, iW 19 17 0 1, 1048691, sW 1 (fr - (4 : Int32)) 2, sW 8 (fr - (8 : Int32)) 2, iW 19 8 2 fr]
section ZZL
variable {K : TK} {v u w x y X s s' : MS} {cl cl' : Int} {g : Bool × Int32 × Bool} {q : EV} {p : Nat} {d T : Int32} {a b : List EV} {F : Nat → Int32}
theorem lwL_rsr : ∀ (a : List EV) (R : D3), lwL (rsr R a) = lwL a
  | [], _ => rfl
  | q :: l, R => by
    show lwL ((if q.1 = 32 then _ else q) :: rsr _ l) = _
    rw [lwL_cons, lwL_cons, lwL_rsr l]
    by_cases c1 : q.1 = 32
    · rw [if_pos c1, lwE3 (Or.inr (Or.inr c1))]; rfl
    · rw [if_neg c1]
theorem fxL_rsr : ∀ (a : List EV) (R : D3) (p : Nat), fxL p (rsr R a) = fxL p a
  | [], _, _ => rfl
  | q :: l, R, p => by
    show (fxE (if q.1 = 32 then (33, 0, 0, R.1, R.2.1, R.2.2) else q)).map _ ++ fxL (p + lwE (if q.1 = 32 then (33, 0, 0, R.1, R.2.1, R.2.2) else q)) (rsr _ l) = (fxE q).map _ ++ fxL (p + lwE q) l
    by_cases c1 : q.1 = 32
    · rw [if_pos c1, fxL_rsr l, lwE3 (Or.inr (Or.inr c1))]
      obtain ⟨t, r⟩ := q
      have c1 : t = 32 := c1
      subst c1
      rfl
    · rw [if_neg c1, fxL_rsr l]
theorem WOq.cons (h : woE K u cl q p) (k : WOq K u cl (p + lwE q) a) : WOq K u cl p (q :: a) := by
  have := (WOq.one h).app (b := a) (by rw [lwL_cons, lwL_nil]; exact k)
  exact this
theorem woE.jm3 {d1 d2 d3 : Int} {x0 y0 : Int32} (h0 : (p : Int) + 1 ≤ (u.1 0 12).toInt) (h1 : u.1 11 p = jW 0 (jr d3 0)) : woE K u cl (33, x0, y0, d1, d2, d3) p := by
  refine ⟨⟨h0, rfl⟩, fun i z hz => ?_, fun e => absurd e (show ¬ ((33 : Int32) = 21) by decide)⟩
  have hz : ([jW 0 (jr d3 0)] : List Int32)[i]? = some z := hz
  match i, hz with
  | 0, hz =>
    rw [Nat.add_zero, h1]
    exact Option.some.inj hz
  | i + 1, hz => simp at hz
/-- no loop: only returns wait; their places known -/
theorem rtW (hg : g.2.2 = false) : ∀ (b : List EV) (R : D3) {p : Nat} {x y d : Int32}, MWq K w cl g p x y d b → p + lwL b ≤ 2000000 → (∀ j : Nat, p ≤ j → j < p + lwL b → (j ∉ bpw 32 p b → F j = w.1 11 j) ∧ (j ∈ bpw 32 p b → F j = jW 0 ((4 : Int32) * (T - nI j)))) → T.toInt = p + R.2.2 → WOq K (wR w F) cl p (rsr R b)
  | [], _, _, _, _, _, _, _, _, _ => WOq.nil
  | q :: l, R, p, x, y, d, h, hb, hj, hT => by
    rw [lwL_cons] at hb
    have tl : WOq K (wR w F) cl (p + lwE q) (rsr (d3s R q) l) := by
      refine rtW hg l (d3s R q) h.2 (by omega) (fun j j1 j2 => ?_) ?_
      · have H := hj j (by omega) (by rw [lwL_cons]; omega)
        by_cases l0 : lwE q = 0
        · have n32 : q.1 ≠ 32 := fun c => by rw [lwE3 (Or.inr (Or.inr c))] at l0; exact absurd l0 (by decide)
          rw [bpw_ne n32] at H
          exact H
        · rw [bpw_tl (t := 32) (by omega)] at H
          exact H
      · show _ = ((p + lwE q : Nat) : Int) + (R.2.2 - lwE q)
        omega
    have h1 := h.1
    unfold mwE at h1
    rw [hg] at h1
    show WOq K (wR w F) cl p ((if q.1 = 32 then (33, 0, 0, R.1, R.2.1, R.2.2) else q) :: rsr (d3s R q) l)
    have np : (nI p).toInt = (p : Int) := nI_Z (by omega)
    by_cases c1 : q.1 = 30
    · rw [if_pos c1] at h1
      exact absurd h1.2.2 Bool.false_ne_true
    rw [if_neg c1] at h1
    by_cases c2 : q.1 = 31
    · rw [if_pos c2] at h1
      exact absurd h1.2.2 Bool.false_ne_true
    rw [if_neg c2] at h1
    by_cases c3 : q.1 = 32
    · rw [if_pos c3] at h1 ⊢
      have l1 : lwE q = 1 := lwE3 (Or.inr (Or.inr c3))
      have H := hj p (Nat.le_refl _) (by rw [lwL_cons, l1]; omega)
      have hm := (bpw_hd (q := q) (p := p) (l := l) (Or.inr (Or.inr rfl)) (by omega)).mpr c3
      rw [l1] at tl
      refine WOq.cons (woE.jm3 h1.1 ?_) tl
      show F p = _
      rw [H.2 hm, jrE (d := R.2.2) (k := 0) (by omega)]
    · rw [if_neg c3] at h1 ⊢
      refine WOq.cons (h1.wR (fun j g1 g2 => ?_)) tl
      have H := hj j g1 (by rw [lwL_cons]; omega)
      have o32 := bpw_out (t := 32) (Or.inr (Or.inr rfl)) (q :: l) [] q l p (j - p) rfl c3 (by omega)
      rw [lwL_nil, show p + 0 + (j - p) = j by omega] at o32
      exact H.1 o32
/-- an event whose words are the final ones -/
theorem wdA (h12 : (s'.1 0 12).toInt = (s.1 0 12).toInt + lwE q) (hs : SMw s s') (h0 : 0 ≤ (s.1 0 12).toInt) (hw : ∀ (i : Nat) (z : Int32), (rwE (s.1 24) q)[i]? = some z → F ((s.1 0 12).toNatClampNeg + i) = z) (hl : (rwE (s.1 24) q).length = lwE q) (hf : fxE q = []) (hq : decide (q.1 = 21) = false := by rfl) : WAq K (wR s F) (wR s' F) [q] := by
  have n := natI h0
  obtain ⟨⟨s1, s2, s3, s4, s5, s6⟩, s7, s8⟩ := hs
  refine ⟨by rw [lwL_cons, lwL_nil]; exact h12, ⟨⟨by show (s.1 0 12).toInt ≤ (s'.1 0 12).toInt; omega, fun _ _ => rfl⟩, ⟨by show (s.1 0 43).toInt ≤ (s'.1 0 43).toInt; rw [s8]; exact Int.le_refl _, fun c _ => by show s'.1 40 c = s.1 40 c ∧ s'.1 41 c = s.1 41 c ∧ s'.1 42 c = s.1 42 c; rw [s4, s5, s6]; exact ⟨rfl, rfl, rfl⟩⟩, ⟨by show (s.1 0 39).toInt ≤ (s'.1 0 39).toInt; rw [s7]; exact Int.le_refl _, fun c _ => by show s'.1 35 c = s.1 35 c ∧ s'.1 37 c = s.1 37 c; rw [s2, s3]; exact ⟨rfl, rfl⟩⟩, s1⟩, ⟨fun c c1 c2 => ?_, fun c d c1 c2 => ?_⟩, WOq.one ⟨⟨by show (((s.1 0 12).toNatClampNeg : Nat) : Int) + _ ≤ (s'.1 0 12).toInt; omega, by show (rwE (s'.1 24) q).length = _; rw [s1]; exact hl⟩, fun i z hz => ?_, fun e => absurd e (of_decide_eq_false hq)⟩, ?_⟩
  · have c1 : (s.1 0 39).toInt ≤ c := c1
    have c2 : (c : Int) < (s'.1 0 39).toInt := c2
    rw [s7] at c2
    omega
  · have c1 : (s.1 0 39).toInt ≤ c := c1
    have c2 : (c : Int) < (s'.1 0 39).toInt := c2
    rw [s7] at c2
    omega
  · have hz : (rwE (s'.1 24) q)[i]? = some z := hz
    rw [s1] at hz
    exact hw i z hz
  · show FQq s s' ((fxE q).map (fun e => ((s.1 0 12).toNatClampNeg + e.1, e.2)) ++ [])
    rw [hf]
    exact ⟨by rw [s8]; show _ = _ + ((0 : Nat) : Int); omega, fun k e h => by simp at h⟩
theorem fW1 {ka : Int32} {w203 w252 C : MS} (hr : RT (Q_m_function0_L1 v w203) (0, C) (ka, w252)) (h9 : ka.toInt = 9) : EMi C w252 (List.replicate 9 0) [] := by
  have : ∃ c : Nat, (c : Int) = ka.toInt ∧ EMi C w252 (List.replicate c 0) [] := by
    refine RT.ind (fun (y : Int32 × MS) => ∃ c : Nat, (c : Int) = y.1.toInt ∧ EMi C y.2 (List.replicate c 0) []) hr ⟨0, show (0 : Int) = (0 : Int32).toInt by decide, EMi.rf⟩ ?_
    rintro a b - ⟨c, hc, he⟩ hb
    obtain ⟨-, q1, q2, rfl⟩ := hb
    have e1 : (a.1 + (1 : Int32)).toInt = a.1.toInt + 1 := add_z rfl (by decide) (by omega) (by omega)
    exact ⟨c + 1, by show ((c + 1 : Nat) : Int) = (a.1 + (1 : Int32)).toInt; omega, by rw [List.replicate_succ']; exact he.snc rfl rfl⟩
  obtain ⟨c, hc, he⟩ := this
  rw [show (9 : Nat) = c by omega]
  exact he
theorem fW2 {kb : Int32} {w252 w274 : MS} (hr : RT (Q_m_function0_L2 v w252) (0, w252) (kb, w274)) (h0 : 0 ≤ (w252.1 17 (v.1 0 22).toNatClampNeg).toInt) (h9 : (w274.1 17 (v.1 0 22).toNatClampNeg).toInt ≤ kb.toInt) : EMi w252 w274 (paL (w252.1 17 (v.1 0 22).toNatClampNeg).toNatClampNeg) [] := by
  have nz := natI h0
  have : (∃ c : Nat, (c : Int) = kb.toInt ∧ EMi w252 w274 (paL c) []) ∧ kb.toInt ≤ (w252.1 17 (v.1 0 22).toNatClampNeg).toInt ∧ w274.1 17 = w252.1 17 := by
    refine RT.ind (fun (y : Int32 × MS) => (∃ c : Nat, (c : Int) = y.1.toInt ∧ EMi w252 y.2 (paL c) []) ∧ y.1.toInt ≤ (w252.1 17 (v.1 0 22).toNatClampNeg).toInt ∧ y.2.1 17 = w252.1 17) hr ⟨⟨0, show (0 : Int) = (0 : Int32).toInt by decide, EMi.rf⟩, by show (0 : Int32).toInt ≤ _; have : (0 : Int32).toInt = 0 := (by decide); omega, rfl⟩ ?_
    rintro ⟨x9, w9⟩ b - ⟨⟨c, hc, he⟩, hl, h17⟩ hb
    obtain ⟨-, q1, q2, r183, h183, r192, h192, r195, h195, rfl⟩ := hb
    have hc : (c : Int) = x9.toInt := hc
    have q1 : _ ∧ 0 ≤ x9.toInt ∧ x9.toInt ≤ 8 := q1
    have q2 : x9.toInt < (w9.1 17 (v.1 0 22).toNatClampNeg).toInt := q2
    have h17 : w9.1 17 = w252.1 17 := h17
    rw [h17] at q2
    have e1 : (x9 + (1 : Int32)).toInt = x9.toInt + 1 := add_z rfl (by decide) (by omega) (by omega)
    have nc : nI c = x9 := Int32.toInt_inj.mp (by rw [nI_Z (by omega)]; exact hc)
    refine ⟨⟨c + 1, by show ((c + 1 : Nat) : Int) = (x9 + (1 : Int32)).toInt; omega, ?_⟩, by show (x9 + (1 : Int32)).toInt ≤ _; omega, h17⟩
    have w183 : r183 = iW 8195 6 5 (((-4) : Int32) * nI c) := by rw [nc]; exact eLw h183
    have w192 : r192 = fW (nI c) := by rw [nc]; exact eSlot h192
    subst w183
    subst w192
    obtain rfl := eSw h195
    have T := he.tr (EMi.w2 (v := w9) (r1 := iW 8195 6 5 (((-4) : Int32) * nI c)) (r2 := sW 6 (fW (nI c)) 8) (u := wA (wA (wA (wA w9 11 ((w9.1 0 12).toNatClampNeg) (iW 8195 6 5 (((-4) : Int32) * nI c))) 0 12 ((w9.1 0 12) + (1 : Int32))) 11 (((w9.1 0 12) + (1 : Int32)).toNatClampNeg) (sW 6 (fW (nI c)) 8)) 0 12 (((w9.1 0 12) + (1 : Int32)) + (1 : Int32))) rfl rfl)
    exact T
  obtain ⟨⟨c, hc, he⟩, hl, h17⟩ := this
  rw [h17] at h9
  rw [show (w252.1 17 (v.1 0 22).toNatClampNeg).toNatClampNeg = c by omega]
  exact he
end ZZL
