/-! the reference's orders: the inside of a loop, its end -/
/-- kept for events: how far, calls, globals -/
def CFq (w u : MS) : Prop := ((w.1 0 15).toInt ≤ (u.1 0 15).toInt ∧ (w.1 0 39).toInt ≤ (u.1 0 39).toInt ∧ ∀ c : Nat, (c : Int) < (w.1 0 39).toInt → u.1 35 c = w.1 35 c ∧ u.1 38 c = w.1 38 c) ∧ (u.1 0 27 = w.1 0 27 ∧ u.1 25 = w.1 25) ∧ ∀ j : Nat, (j : Int) < (w.1 0 15).toInt → u.1 13 j = w.1 13 j
section WSB
variable {n : Int} {K : TK} {e : PE} {v u w x y X : MS} {a b d a0 cc : List EV} {q : EV} {r pa pb pd o zv zn T A : Int32} {c : RM1} {E : EvE} {S : EvS} {Es : FE} {Ss : FS} {k : Nat} {cl cl' : Int} {g : Bool × Int32 × Bool} {p : Nat}
theorem CFq.of (h : OF v u) : CFq v u := ⟨⟨h.1.1, h.2.1⟩, h.2.2, fun j hj => (h.1.2 j hj).1⟩
theorem CFq.rf : CFq v v := CFq.of OF.rf
theorem CFq.sm (h15 : (v.1 0 15).toInt ≤ (u.1 0 15).toInt) (h39 : u.1 0 39 = v.1 0 39) (h27 : u.1 0 27 = v.1 0 27) (ha : u.1 35 = v.1 35 ∧ u.1 38 = v.1 38 ∧ u.1 25 = v.1 25) (h13 : ∀ j : Nat, (j : Int) < (v.1 0 15).toInt → u.1 13 j = v.1 13 j) : CFq v u := ⟨⟨h15, by rw [h39]; exact Int.le_refl _, fun c _ => ⟨by rw [ha.1], by rw [ha.2.1]⟩⟩, ⟨h27, ha.2.2⟩, h13⟩
theorem CFq.tr (h : CFq v w) (k : CFq w u) : CFq v u := ⟨⟨Int.le_trans h.1.1 k.1.1, Int.le_trans h.1.2.1 k.1.2.1, fun c hc => by
  have h1 := h.1.2.1
  have A := k.1.2.2 c (by omega)
  have B := h.1.2.2 c hc
  exact ⟨A.1.trans B.1, A.2.trans B.2⟩⟩, ⟨k.2.1.1.trans h.2.1.1, k.2.1.2.trans h.2.1.2⟩, fun j hj => (k.2.2 j (by have := h.1.1; omega)).trans (h.2.2 j hj)⟩
theorem OF.cf (k : CFq v u) (h : ∀ j : Nat, (j : Int) < (v.1 0 15).toInt → u.1 13 j = v.1 13 j ∧ u.1 14 j = v.1 14 j) : OF v u := ⟨⟨k.1.1, h⟩, k.1.2, k.2.1⟩
theorem CJ.cf (h : CJ v w) (k : CFq w u) (h39 : u.1 0 39 = w.1 0 39) : CJ v u := by
  have k1 := k.1.1
  refine ⟨fun c c1 c2 => ?_, fun c d c1 c2 d1 d2 e => ?_⟩
  · rw [h39] at c2
    have := h.1 c c1 c2
    have nc := natI this.2.1
    rw [(k.1.2.2 c c2).2]
    exact ⟨⟨this.1.1, by omega⟩, this.2.1, by rw [k.2.2 _ (by omega)]; exact this.2.2⟩
  · rw [h39] at c2 d2
    rw [(k.1.2.2 c c2).2, (k.1.2.2 d d2).2] at e
    exact h.2 c d c1 c2 d1 d2 e
theorem CJ.fc (f : CFq v w) (h39 : w.1 0 39 = v.1 0 39) (h : CJ w u) : CJ v u := by
  have k1 := f.1.1
  refine ⟨fun c c1 c2 => ?_, fun c d c1 c2 d1 d2 e => ?_⟩
  · have := h.1 c (by rw [h39]; exact c1) c2
    exact ⟨⟨by omega, this.1.2⟩, this.2⟩
  · exact h.2 c d (by rw [h39]; exact c1) c2 (by rw [h39]; exact d1) d2 e
theorem CJ.tc (h : CJ v u) (k : CJ u w) (f : CFq v u) (g : CFq u w) : CJ v w := by
  obtain ⟨h1, h2⟩ := h
  obtain ⟨k1, k2⟩ := k
  have f1 := f.1.1
  have g1 := g.1.1
  have f3 := f.1.2.1
  have g3 := g.1.2.1
  have g4 := g.1.2.2
  have R : ∀ c : Nat, (v.1 0 39).toInt ≤ c → (c : Int) < (w.1 0 39).toInt → (((c : Int) < (u.1 0 39).toInt ∧ w.1 38 c = u.1 38 c ∧ (v.1 0 15).toInt ≤ (w.1 38 c).toInt ∧ (w.1 38 c).toInt < (u.1 0 15).toInt) ∨ ((u.1 0 39).toInt ≤ c ∧ (u.1 0 15).toInt ≤ (w.1 38 c).toInt ∧ (w.1 38 c).toInt < (w.1 0 15).toInt)) ∧ 0 ≤ (w.1 38 c).toInt ∧ w.1 13 (w.1 38 c).toNatClampNeg = 14 := fun c c1 c2 => by
    by_cases e : (c : Int) < (u.1 0 39).toInt
    · have := h1 c c1 e
      rw [(g4 c e).2]
      have nc := natI this.2.1
      refine ⟨Or.inl ⟨e, rfl, this.1.1, this.1.2⟩, this.2.1, ?_⟩
      rw [g.2.2 _ (by omega)]
      exact this.2.2
    · have := k1 c (by omega) c2
      exact ⟨Or.inr ⟨by omega, this.1⟩, this.2⟩
  refine ⟨fun c c1 c2 => ?_, fun c d c1 c2 d1 d2 e => ?_⟩
  · obtain ⟨R1, R2⟩ := R c c1 c2
    rcases R1 with ⟨q1, q2, q3, q4⟩ | ⟨q1, q2, q3⟩
    · exact ⟨⟨q3, by omega⟩, R2⟩
    · exact ⟨⟨by omega, q3⟩, R2⟩
  · rcases (R c c1 c2).1 with ⟨q1, q2, q3, q4⟩ | ⟨q1, q2, q3⟩
    · rcases (R d d1 d2).1 with ⟨r1, r2, r3, r4⟩ | ⟨r1, r2, r3⟩
      · exact h2 c d c1 q1 d1 r1 (by rw [← q2, ← r2]; exact e)
      · rw [e] at q4
        omega
    · rcases (R d d1 d2).1 with ⟨r1, r2, r3, r4⟩ | ⟨r1, r2, r3⟩
      · rw [e] at q2
        omega
      · exact k2 c d q1 c2 r1 d2 e
theorem moE.lf (h : moE K w cl q p) (k : CFq w u) (hc : cl' ≤ cl) (g : loE q = 0 ∨ (u.1 13 p = w.1 13 p ∧ u.1 14 p = w.1 14 p)) : moE K u cl' q p := by
  obtain ⟨a1, a2⟩ := h
  obtain ⟨⟨b1, b3, b4⟩, ⟨b5, b6⟩, -⟩ := k
  refine ⟨by omega, ?_⟩
  rcases g with g | J
  · exact Or.inl g
  rcases a2 with a2 | a2
  · exact Or.inl a2
  · rw [J.1]
    refine Or.inr ⟨a2.1, ?_⟩
    have m := a2.2
    unfold moA at m ⊢
    rw [J.2, b5, b6]
    by_cases c1 : q.1 = 16 ∨ q.1 = 17 ∨ q.1 = 18 ∨ q.1 = 19
    · rw [if_pos c1] at m ⊢; exact m
    rw [if_neg c1] at m ⊢
    by_cases c2 : q.1 = 5 ∨ q.1 = 6
    · rw [if_pos c2] at m ⊢; exact m
    rw [if_neg c2] at m ⊢
    by_cases c3 : q.1 = 20
    · rw [if_pos c3] at m ⊢; exact m
    rw [if_neg c3] at m ⊢
    by_cases c4 : q.1 = 21
    · rw [if_pos c4] at m ⊢
      obtain ⟨c, m1, m2, m3, m4⟩ := m
      have C := b4 c m2
      exact ⟨c, by omega, by omega, by rw [C.2]; exact m3, by rw [C.1]; exact m4⟩
    rw [if_neg c4] at m ⊢
    exact m
theorem MOq.lf (h : MOq K w cl p a) (k : CFq w u) (hc : cl' ≤ cl) (g : ∀ j : Nat, p ≤ j → j < p + loL a → u.1 13 j = w.1 13 j ∧ u.1 14 j = w.1 14 j) : MOq K u cl' p a := fun x q y e => (h x q y e).lf k hc (by
  by_cases l0 : loE q = 0
  · exact Or.inl l0
  · refine Or.inr (g _ (by omega) ?_)
    have l := congrArg loL e
    rw [loL_app, loL_cons] at l
    omega)
theorem MOq.cons (h : moE K u cl q p) (k : MOq K u cl (p + loE q) a) : MOq K u cl p (q :: a) := by
  have := (MOq.one h).app (b := a) (by rw [loL_cons, loL_nil]; exact k)
  exact this
theorem loL_rsv : ∀ (a : List EV) (B C : D3), loL (rsv B C a) = loL a
  | [], _, _ => rfl
  | q :: l, B, C => by
    show loL ((if q.1 = 30 then _ else if q.1 = 31 then _ else q) :: rsv _ _ l) = _
    rw [loL_cons, loL_cons, loL_rsv l]
    by_cases c1 : q.1 = 30
    · rw [if_pos c1, loE3 (Or.inl c1)]; rfl
    rw [if_neg c1]
    by_cases c2 : q.1 = 31
    · rw [if_pos c2, loE3 (Or.inr c2)]; rfl
    rw [if_neg c2]
theorem bps_hd {t : Int32} (ht : t = 30 ∨ t = 31) {l : List EV} (l0 : loE q ≠ 0) : p ∈ bps t p (q :: l) ↔ q.1 = t := by
  have := (bps_mem ht (q :: l) [] q l p rfl).resolve_right l0
  rw [loL_nil] at this
  exact this
theorem bps_tl {t : Int32} {l : List EV} {j : Nat} (hj : p < j) : j ∈ bps t p (q :: l) ↔ j ∈ bps t (p + loE q) l := by
  refine ⟨fun h => ?_, fun h => List.mem_append.mpr (Or.inl h)⟩
  rcases List.mem_append.mp h with h | h
  · exact h
  · by_cases c1 : q.1 = t
    · rw [if_pos c1] at h
      have := List.mem_singleton.mp h
      omega
    · rw [if_neg c1] at h
      cases h
/-- the inside, its places known -/
theorem rsM (k : CFq w u) (hc : cl' ≤ cl) : ∀ (b : List EV) (B C : D3) {p : Nat} {x y : Int32}, MSq K w cl g p x y b → (∀ j : Nat, p ≤ j → j < p + loL b → u.1 13 j = w.1 13 j ∧ (j ∉ bps 30 p b → j ∉ bps 31 p b → u.1 14 j = w.1 14 j) ∧ (j ∈ bps 30 p b → u.1 14 j = T) ∧ (j ∈ bps 31 p b → u.1 14 j = A)) → T.toInt = p + B.2.1 → A.toInt = p + C.2.1 → MOq K u cl' p (rsv B C b)
  | [], _, _, _, _, _, _, _, _, _ => MOq.nil
  | q :: l, B, C, p, x, y, h, hj, hT, hA => by
    have tl : MOq K u cl' (p + loE q) (rsv (d3s B q) (d3s C q) l) := by
      refine rsM k hc l (d3s B q) (d3s C q) h.2 (fun j j1 j2 => ?_) ?_ ?_
      · have H := hj j (by omega) (by rw [loL_cons]; omega)
        by_cases l0 : loE q = 0
        · have n30 : q.1 ≠ 30 := fun c => by rw [loE3 (Or.inl c)] at l0; exact absurd l0 (by decide)
          have n31 : q.1 ≠ 31 := fun c => by rw [loE3 (Or.inr c)] at l0; exact absurd l0 (by decide)
          have E : ∀ t : Int32, q.1 ≠ t → bps t p (q :: l) = bps t (p + loE q) l := fun t ht => by
            show bps t (p + loE q) l ++ (if q.1 = t then [p] else []) = _
            rw [if_neg ht, List.append_nil]
          rw [E 30 n30, E 31 n31] at H
          exact H
        · rw [bps_tl (t := 30) (by omega), bps_tl (t := 31) (by omega)] at H
          exact H
      · show _ = ((p + loE q : Nat) : Int) + (B.2.1 - loE q)
        omega
      · show _ = ((p + loE q : Nat) : Int) + (C.2.1 - loE q)
        omega
    have h1 := h.1
    unfold msE at h1
    show MOq K u cl' p ((if q.1 = 30 then (19, 0, 0, B.1, B.2.1, B.2.2) else if q.1 = 31 then (19, 0, 0, C.1, C.2.1, C.2.2) else q) :: rsv (d3s B q) (d3s C q) l)
    have k1 := k.1.1
    by_cases c1 : q.1 = 30
    · rw [if_pos c1] at h1 ⊢
      have l1 : loE q = 1 := loE3 (Or.inl c1)
      have H := hj p (Nat.le_refl _) (by rw [loL_cons, l1]; omega)
      have hm := (bps_hd (q := q) (p := p) (l := l) (Or.inl rfl) (by omega)).mpr c1
      refine MOq.cons (moE.jump (Or.inr (Or.inr (Or.inr rfl))) (by omega) (by rw [H.1]; exact h1.2.1) (by rw [H.2.2.1 hm]; exact hT)) ?_
      rw [l1] at tl
      exact tl
    rw [if_neg c1] at h1 ⊢
    by_cases c2 : q.1 = 31
    · rw [if_pos c2] at h1 ⊢
      have l1 : loE q = 1 := loE3 (Or.inr c2)
      have H := hj p (Nat.le_refl _) (by rw [loL_cons, l1]; omega)
      have hm := (bps_hd (q := q) (p := p) (l := l) (Or.inr rfl) (by omega)).mpr c2
      refine MOq.cons (moE.jump (Or.inr (Or.inr (Or.inr rfl))) (by omega) (by rw [H.1]; exact h1.2.1) (by rw [H.2.2.2 hm]; exact hA)) ?_
      rw [l1] at tl
      exact tl
    rw [if_neg c2] at h1 ⊢
    refine MOq.cons (h1.lf k hc ?_) tl
    by_cases l0 : loE q = 0
    · exact Or.inl l0
    · have H := hj p (Nat.le_refl _) (by rw [loL_cons]; omega)
      exact Or.inr ⟨H.1, H.2.1 (fun z => c1 ((bps_hd (Or.inl rfl) l0).mp z)) (fun z => c2 ((bps_hd (Or.inr rfl) l0).mp z))⟩
/-- where continue leads if it does not wait -/
theorem MSq.agn (hg : g.1 = false) : ∀ (a : List EV) {p : Nat} {b c : Int32}, MSq K u cl g p b c a → ∀ j, j ∈ bps 31 p a → u.1 14 j = g.2.1
  | [], _, _, _, _, _, hj => nomatch hj
  | q :: l, p, b, c, h, j, hj => by
    rcases List.mem_append.mp hj with hj | hj
    · exact MSq.agn hg l h.2 j hj
    · have h1 := h.1
      unfold msE at h1
      by_cases c2 : q.1 = 31
      · rw [if_neg (by rw [c2]; decide), if_pos c2, hg, if_neg Bool.false_ne_true] at h1
        rw [if_pos c2] at hj
        rw [List.mem_singleton.mp hj]
        exact h1.2.2.1
      · rw [if_neg c2] at hj
        cases hj
theorem bps_dj {j : Nat} : ∀ (a : List EV) {p : Nat}, j ∈ bps 30 p a → j ∈ bps 31 p a → False
  | [], _, h, _ => nomatch h
  | q :: l, p, h, k => by
    by_cases l0 : loE q = 0
    · have n30 : q.1 ≠ 30 := fun c => by rw [loE3 (Or.inl c)] at l0; exact absurd l0 (by decide)
      have n31 : q.1 ≠ 31 := fun c => by rw [loE3 (Or.inr c)] at l0; exact absurd l0 (by decide)
      have E : ∀ t : Int32, q.1 ≠ t → bps t p (q :: l) = bps t (p + loE q) l := fun t ht => by
        show bps t (p + loE q) l ++ (if q.1 = t then [p] else []) = _
        rw [if_neg ht, List.append_nil]
      rw [E 30 n30] at h
      rw [E 31 n31] at k
      exact bps_dj l h k
    · have r := bps_rng (Or.inl rfl) _ h
      by_cases e : j = p
      · rw [e] at h k
        have h1 := (bps_hd (Or.inl rfl) l0).mp h
        have k1 := (bps_hd (Or.inr rfl) l0).mp k
        rw [h1] at k1
        exact absurd k1 (by decide)
      · exact bps_dj l ((bps_tl (by omega)).mp h) ((bps_tl (by omega)).mp k)
/-- the inside -/
def BDq (n : Int) (K : TK) (e : PE) (v u : MS) (pa pb : Int32) (b : List EV) : Prop := (JM n K e u ∧ ND u) ∧ ((u.1 0 15).toInt = (v.1 0 15).toInt + loL b ∧ OF v u ∧ CJ v u ∧ MSq K u (v.1 0 39).toInt (decide (pa.toInt = -1), pb, true) (v.1 0 15).toNatClampNeg (-1) (-1) b) ∧ (u.1 0 54 = chn 30 (-1) (v.1 0 15).toNatClampNeg b ∧ (pa.toInt = -1 → u.1 0 58 = chn 31 (-1) (v.1 0 15).toNatClampNeg b)) ∧ ((u.1 0 52 = v.1 0 52 + 1 ∧ (u.1 0 52).toInt = (v.1 0 52).toInt + 1) ∧ (u.1 62 (v.1 0 52).toNatClampNeg = v.1 0 54 ∧ u.1 63 (v.1 0 52).toNatClampNeg = v.1 0 55 ∧ u.1 64 (v.1 0 52).toNatClampNeg = v.1 0 56 ∧ u.1 66 (v.1 0 52).toNatClampNeg = v.1 0 58) ∧ ∀ b ∈ [62, 64, 66, 63], ∀ j : Nat, (j : Int) < (v.1 0 52).toInt → u.1 b j = v.1 b j) ∧ (u.1 0 32 = v.1 0 32 ∧ u.1 0 30 = v.1 0 30 ∧ (∀ j : Nat, (j : Int) < (v.1 0 30).toInt → u.1 29 j = v.1 29 j) ∧ knM K u = knM K v)
theorem oBodyM (hS : XMs9 n K c S) (hSs : HMS n K c Ss) (h : Q_m_body k c v pa pb false u) (J : JM n K e v) (nd : ND v) : ∃ b, gInner S e (knM K v) (v.1 0 32) (v.1 0 47) = some (b, knM K v, u.1 0 47) ∧ BDq n K e v u pa pb b := by
  have z52 := z52_b h
  obtain ⟨-, -, -, -, -, -, -, -, -, -, -, -, -, -, h⟩ := h
  rcases h with ⟨u9, -, f9, -⟩ | ⟨u5, h1, k1, -, eu⟩
  · cases f9
  obtain ⟨W, hW⟩ : ∃ W, W = (wA (wA (wA (wA (wA (wA (wA (wA (wA (wA (wA (wA (wA v 61 ((v.1 0 52).toNatClampNeg) (v.1 0 53)) 62 ((v.1 0 52).toNatClampNeg) (v.1 0 54)) 63 ((v.1 0 52).toNatClampNeg) (v.1 0 55)) 64 ((v.1 0 52).toNatClampNeg) (v.1 0 56)) 65 ((v.1 0 52).toNatClampNeg) (v.1 0 57)) 66 ((v.1 0 52).toNatClampNeg) (v.1 0 58)) 0 52 ((v.1 0 52) + (1 : Int32))) 0 53 (-1 : Int32)) 0 54 (-1 : Int32)) 0 55 pa) 0 56 pb) 0 57 (-1 : Int32)) 0 58 (-1 : Int32)) := ⟨_, rfl⟩
  rw [← hW] at h1
  have e1 : EMS 0 v W := by
    rw [hW]
    exact EMS.w0 (EMS.w0 (EMS.w0 (EMS.w0 (EMS.w0 (EMS.w0 (EMS.w0 (EMS.wa (EMS.wa (EMS.wa (EMS.wa (EMS.wa (EMS.wa EMS.rf (by decide)) (by decide)) (by decide)) (by decide)) (by decide)) (by decide)) (by decide)) (by decide)) (by decide)) (by decide)) (by decide)) (by decide)) (by decide)
  have e52 : (v.1 0 52 + 1).toInt = (v.1 0 52).toInt + 1 := add_z rfl (by decide) (by omega) (by omega)
  have w52 : W.1 0 52 = v.1 0 52 + 1 := by rw [hW]; rfl
  have w54 : W.1 0 54 = -1 := by rw [hW]; rfl
  have w55 : W.1 0 55 = pa := by rw [hW]; rfl
  have w56 : W.1 0 56 = pb := by rw [hW]; rfl
  have w58 : W.1 0 58 = -1 := by rw [hW]; rfl
  have w62 : W.1 62 = upd (v.1 62) (v.1 0 52).toNatClampNeg (v.1 0 54) := by rw [hW]; rfl
  have w63 : W.1 63 = upd (v.1 63) (v.1 0 52).toNatClampNeg (v.1 0 55) := by rw [hW]; rfl
  have w64 : W.1 64 = upd (v.1 64) (v.1 0 52).toNatClampNeg (v.1 0 56) := by rw [hW]; rfl
  have w66 : W.1 66 = upd (v.1 66) (v.1 0 52).toNatClampNeg (v.1 0 58) := by rw [hW]; rfl
  have w15 : W.1 0 15 = v.1 0 15 := by rw [hW]; rfl
  have w39 : W.1 0 39 = v.1 0 39 := by rw [hW]; rfl
  have w32 : W.1 0 32 = v.1 0 32 := by rw [hW]; rfl
  have w30 : W.1 0 30 = v.1 0 30 := by rw [hW]; rfl
  have w29 : W.1 29 = v.1 29 := by rw [hW]; rfl
  have w47 : W.1 0 47 = v.1 0 47 := by rw [hW]; rfl
  have FW : OF v W := by rw [hW]; exact ⟨⟨Int.le_refl _, fun _ _ => ⟨rfl, rfl⟩⟩, ⟨Int.le_refl _, fun _ _ => ⟨rfl, rfl⟩⟩, rfl, rfl⟩
  obtain ⟨b, y1, y2, y30, ykn⟩ := oPart hS hSs h1 (e1.j J) (nd_e e1 nd)
  have knW : knM K W = knM K v := knM_of w29 w30
  rw [ykn, knW, w32, w47] at y1
  rw [eu]
  obtain ⟨JU, ⟨⟨a1, a2, a3, a4⟩, ⟨a5, a6⟩, ⟨a7, a8, a9⟩, a10⟩, b1, b2, b3⟩ := y2
  have gW : gWq W = (decide (pa.toInt = -1), pb, true) := by
    unfold gWq
    rw [w55, w56, w52, e52]
    rw [decide_eq_true (p := (v.1 0 52).toInt + 1 ≠ 0) (by omega)]
  rw [gW, w39, w15, w54, w58] at a4
  rw [w54, w15] at a5
  rw [w55, w58, w15] at a6
  rw [w15] at a1
  have n52 := natI z52.1
  have up : ∀ B ∈ [62, 64, 66, 63], u5.1 B (v.1 0 52).toNatClampNeg = W.1 B (v.1 0 52).toNatClampNeg := fun B hB => a10 B hB _ (by rw [w52, e52]; omega)
  refine ⟨b, y1, JU, ⟨a1, FW.tr a2, CJ.fc (CFq.of FW) w39 a3, a4⟩, ⟨a5, a6⟩, ⟨⟨by rw [a7, w52], by rw [a7, w52, e52]⟩, ⟨?_, ?_, ?_, ?_⟩, fun B hB j hj => ?_⟩, by rw [b1, w32], by rw [y30, w30], fun j hj => by rw [b3 j (by rw [w30]; exact hj), w29], ykn.trans knW⟩
  · rw [up 62 (by decide), w62]; exact updS
  · rw [up 63 (by decide), w63]; exact updS
  · rw [up 64 (by decide), w64]; exact updS
  · rw [up 66 (by decide), w66]; exact updS
  · rw [a10 B hB j (by rw [w52, e52]; omega)]
    have nj : j ≠ (v.1 0 52).toNatClampNeg := by omega
    simp only [List.mem_cons, List.not_mem_nil, or_false] at hB
    rcases hB with rfl | rfl | rfl | rfl
    · rw [w62]; exact updN_ nj
    · rw [w64]; exact updN_ nj
    · rw [w66]; exact updN_ nj
    · rw [w63]; exact updN_ nj
/-- a loop ends -/
def ENq (v u : MS) : Prop := (u.1 13 = v.1 13 ∧ u.1 0 15 = v.1 0 15 ∧ u.1 0 39 = v.1 0 39 ∧ u.1 0 27 = v.1 0 27 ∧ u.1 35 = v.1 35 ∧ u.1 38 = v.1 38 ∧ u.1 25 = v.1 25) ∧ (u.1 29 = v.1 29 ∧ u.1 0 30 = v.1 0 30 ∧ u.1 0 32 = v.1 0 32 ∧ u.1 0 47 = v.1 0 47) ∧ (u.1 0 52 = v.1 0 52 - 1 ∧ u.1 0 54 = v.1 62 (v.1 0 52 - 1).toNatClampNeg ∧ u.1 0 55 = v.1 63 (v.1 0 52 - 1).toNatClampNeg ∧ u.1 0 56 = v.1 64 (v.1 0 52 - 1).toNatClampNeg ∧ u.1 0 58 = v.1 66 (v.1 0 52 - 1).toNatClampNeg) ∧ (u.1 62 = v.1 62 ∧ u.1 63 = v.1 63 ∧ u.1 64 = v.1 64 ∧ u.1 66 = v.1 66)
theorem oEnds {R : List Nat} (h : Q_m_ends v u) (hR : CHr (v.1 14) (v.1 0 54) (-1) R) (hd : R.Pairwise (· > ·)) (hb : ∀ x ∈ R, x < 100000) : ((∀ j, j ∈ R → u.1 14 j = v.1 0 15) ∧ (∀ j, j ∉ R → u.1 14 j = v.1 14 j)) ∧ ENq v u := by
  obtain ⟨-, -, -, u2, h2, k2, u6, h6, k6, eu⟩ := h
  have A : ∀ i, i ≠ 11 → u2.1 i = v.1 i ∨ i = 0 := fun i hi => by
    by_cases z : i = 0
    · exact Or.inr z
    · exact Or.inl (k2.2.2 i (by simp only [List.mem_cons, List.not_mem_nil, or_false]; exact hi))
  have F : ∀ i, u2.1 0 i = v.1 0 i := fun i => k2.2.1 i (List.not_mem_nil)
  have F6 : ∀ i, u6.1 0 i = v.1 0 i := fun i => (k6.2.1 i (List.not_mem_nil)).trans (F i)
  have A6 : ∀ i, i ∉ [0, 11, 14] → u6.1 i = v.1 i := fun i hi => by
    simp only [List.mem_cons, List.not_mem_nil, or_false, not_or] at hi
    rw [k6.2.2 i (by simp only [List.mem_cons, List.not_mem_nil, or_false]; exact hi.2.2)]
    exact (A i hi.2.1).resolve_right hi.1
  have e14 : u2.1 14 = v.1 14 := (A 14 (by decide)).resolve_right (by decide)
  rw [← e14, ← F 54] at hR
  have C := arrC h6 hR hd hb
  rw [F 15, e14] at C
  refine ⟨⟨fun j hj => ?_, fun j hj => ?_⟩, ?_⟩
  · rw [eu]; exact C.1 j hj
  · rw [eu]; exact C.2 j hj
  · rw [eu]
    refine ⟨⟨A6 13 (by decide), F6 15, F6 39, F6 27, A6 35 (by decide), A6 38 (by decide), A6 25 (by decide)⟩, ⟨A6 29 (by decide), F6 30, F6 32, F6 47⟩, ⟨?_, ?_, ?_, ?_, ?_⟩, A6 62 (by decide), A6 63 (by decide), A6 64 (by decide), A6 66 (by decide)⟩
    · show u6.1 0 52 - 1 = _
      rw [F6]
    · show u6.1 62 (u6.1 0 52 - 1).toNatClampNeg = _
      rw [F6, A6 62 (by decide)]
    · show u6.1 63 (u6.1 0 52 - 1).toNatClampNeg = _
      rw [F6, A6 63 (by decide)]
    · show u6.1 64 (u6.1 0 52 - 1).toNatClampNeg = _
      rw [F6, A6 64 (by decide)]
    · show u6.1 66 (u6.1 0 52 - 1).toNatClampNeg = _
      rw [F6, A6 66 (by decide)]
theorem SAq.oh (A : OA K v u a) (h5 : u.1 0 52 = v.1 0 52 ∧ u.1 0 54 = v.1 0 54 ∧ u.1 0 55 = v.1 0 55 ∧ u.1 0 56 = v.1 0 56 ∧ u.1 0 58 = v.1 0 58) (ha : ∀ b ∈ [62, 64, 66, 63], ∀ j : Nat, (j : Int) < (v.1 0 52).toInt → u.1 b j = v.1 b j) : SAq K v u a := by
  obtain ⟨a1, a2, a3, a4⟩ := A
  have M := MSq.mo (g := gWq v) a (b := v.1 0 54) (c := v.1 0 58) a4
  exact ⟨⟨a1, a2, a3, M.1⟩, ⟨by rw [M.2.1]; exact h5.2.1, fun _ => by rw [M.2.2]; exact h5.2.2.2.2⟩, ⟨h5.1, h5.2.2.1, h5.2.2.2.1⟩, ha⟩
theorem endsK (B : BDq n K e x w pa pb b) (xs : kpS v x) (z52 : 0 ≤ (v.1 0 52).toInt) (x52 : X.1 0 52 = w.1 0 52) (xa : X.1 62 = w.1 62 ∧ X.1 63 = w.1 63 ∧ X.1 64 = w.1 64 ∧ X.1 66 = w.1 66) (N : ENq X u) : (u.1 0 52 = v.1 0 52 ∧ u.1 0 54 = v.1 0 54 ∧ u.1 0 55 = v.1 0 55 ∧ u.1 0 56 = v.1 0 56 ∧ u.1 0 58 = v.1 0 58) ∧ ∀ b ∈ [62, 64, 66, 63], ∀ j : Nat, (j : Int) < (v.1 0 52).toInt → u.1 b j = v.1 b j := by
  obtain ⟨-, -, -, ⟨⟨b1, -⟩, ⟨b2, b3, b4, b5⟩, b6⟩, -⟩ := B
  obtain ⟨-, -, ⟨c1, c2, c3, c4, c5⟩, d1, d2, d3, d4⟩ := N
  obtain ⟨⟨s1, s2, s3, s4, s5⟩, s6, s7, s8, s9⟩ := xs
  have e52 : X.1 0 52 - 1 = x.1 0 52 := by rw [x52, b1]; exact Int32.add_sub_cancel _ _
  rw [e52] at c1 c2 c3 c4 c5
  refine ⟨⟨c1.trans s1, by rw [c2, xa.1, b2, s2], by rw [c3, xa.2.1, b3, s3], by rw [c4, xa.2.2.1, b4, s4], by rw [c5, xa.2.2.2, b5, s5]⟩, fun B hB j hj => ?_⟩
  have := b6 B hB j (by rw [s1]; exact hj)
  simp only [List.mem_cons, List.not_mem_nil, or_false] at hB
  rcases hB with rfl | rfl | rfl | rfl
  · rw [d1, xa.1, this, s6]
  · rw [d3, xa.2.2.1, this, s8]
  · rw [d4, xa.2.2.2, this, s9]
  · rw [d2, xa.2.1, this, s7]
end WSB
