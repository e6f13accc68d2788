/-! the reference's words: what a loop leaves (returns still wait) -/
/-- a state with other words -/
def wR (s : MS) (F : Nat → Int32) : MS := (fun i => if i = 11 then F else s.1 i, s.2)
def mrE (K : TK) (u : MS) (cl : Int) (d : Int32) (q : EV) (p : Nat) : Prop := if q.1 = 32 then (p : Int) + 1 ≤ (u.1 0 12).toInt ∧ u.1 11 p = d else woE K u cl q p
def MRq (K : TK) (u : MS) (cl : Int) : Nat → Int32 → List EV → Prop
  | _, _, [] => True
  | p, d, q :: l => mrE K u cl d q p ∧ MRq K u cl (p + lwE q) (if q.1 = 32 then nI p else d) l
/-- from v to u the words of a, d and d' the chain of returns before and behind -/
def LQw (K : TK) (v u : MS) (d d' : Int32) (a : List EV) : Prop := ((u.1 0 12).toInt = (v.1 0 12).toInt + lwL a ∧ WFq v u ∧ CWq v u ∧ MRq K u (v.1 0 39).toInt (v.1 0 12).toNatClampNeg d a ∧ FQq v u (fxL (v.1 0 12).toNatClampNeg a)) ∧ d' = chw 32 d (v.1 0 12).toNatClampNeg a
section ZZE
variable {K : TK} {v u w x y X : MS} {cl cl' : Int} {g : Bool × Int32 × Bool} {q : EV} {p : Nat} {d d1 d2 b0 c0 T A : Int32} {a b : List EV} {F : Nat → Int32} {t : Int32}
theorem mrE.up (h : mrE K u cl d q p) (k : WFq u w) (hc : cl' ≤ cl) : mrE K w cl' d q p := by
  unfold mrE at h ⊢
  by_cases c3 : q.1 = 32
  · rw [if_pos c3] at h ⊢
    have k1 := k.1.1
    exact ⟨by omega, by rw [k.1.2 p (by omega)]; exact h.2⟩
  · rw [if_neg c3] at h ⊢
    exact h.up k hc
theorem MRq.up (k : WFq u w) (hc : cl' ≤ cl) : ∀ (a : List EV) {p : Nat} {d : Int32}, MRq K u cl p d a → MRq K w cl' p d a
  | [], _, _, _ => trivial
  | q :: l, _, _, h => ⟨h.1.up k hc, MRq.up k hc l h.2⟩
theorem MRq.app : ∀ (a : List EV) {a' : List EV} {p : Nat} {d : Int32}, MRq K u cl p d a → MRq K u cl (p + lwL a) (chw 32 d p a) a' → MRq K u cl p d (a ++ a')
  | [], _, _, _, _, k => k
  | q :: l, a', p, d, h, k => ⟨h.1, MRq.app l h.2 (by rw [lwL_cons, ← Nat.add_assoc] at k; exact k)⟩
theorem MRq.wo : ∀ (a : List EV) {p : Nat} {d : Int32}, WOq K u cl p a → MRq K u cl p d a ∧ chw 32 d p a = d
  | [], _, _, _ => ⟨trivial, rfl⟩
  | q :: l, p, d, h => by
    have H := h.hd
    have N := H.1.n3
    have T := MRq.wo l (d := d) H.2
    refine ⟨⟨?_, ?_⟩, ?_⟩
    · unfold mrE
      rw [if_neg N.2.2]
      exact H.1
    · rw [if_neg N.2.2]
      exact T.1
    · show chw 32 (if q.1 = 32 then nI p else d) (p + lwE q) l = d
      rw [if_neg N.2.2]
      exact T.2
theorem MRq.mw : ∀ (a : List EV) {p : Nat} {b c d : Int32}, MRq K u cl p d a → MWq K u cl g p b c d a ∧ chw 30 b p a = b ∧ chw 31 c p a = c
  | [], _, _, _, _, _ => ⟨trivial, rfl, rfl⟩
  | q :: l, p, b, c, d, h => by
    have N : q.1 ≠ 30 ∧ q.1 ≠ 31 := by
      have h1 := h.1
      unfold mrE at h1
      by_cases c3 : q.1 = 32
      · rw [c3]; decide
      · rw [if_neg c3] at h1
        exact ⟨h1.n3.1, h1.n3.2.1⟩
    have T := MRq.mw l (b := b) (c := c) h.2
    refine ⟨⟨?_, ?_⟩, ?_, ?_⟩
    · unfold mwE
      rw [if_neg N.1, if_neg N.2]
      exact h.1
    · rw [if_neg N.1, if_neg N.2]
      exact T.1
    · show chw 30 (if q.1 = 30 then nI p else b) (p + lwE q) l = b
      rw [if_neg N.1]
      exact T.2.1
    · show chw 31 (if q.1 = 31 then nI p else c) (p + lwE q) l = c
      rw [if_neg N.2]
      exact T.2.2
theorem LQw.tr (h : LQw K v u d d1 a) (k : LQw K u w d1 d2 b) (h0 : 0 ≤ (v.1 0 12).toInt) (h3 : 0 ≤ (v.1 0 43).toInt) : LQw K v w d d2 (a ++ b) := by
  obtain ⟨⟨a1, a2, a3, a4, a5⟩, a6⟩ := h
  obtain ⟨⟨b1, b2, b3, b4, b5⟩, b6⟩ := k
  have n1 := natI h0
  have n2 := natI (a := u.1 0 12) (by omega)
  have e : (u.1 0 12).toNatClampNeg = (v.1 0 12).toNatClampNeg + lwL a := by omega
  rw [e, a6] at b4 b6
  rw [e] at b5
  refine ⟨⟨by rw [lwL_app]; omega, a2.tr b2, a3.tr b3 a2 b2, MRq.app a (MRq.up b2 (Int.le_refl _) a a4) (MRq.up WFq.rf a2.2.2.1.1 b b4), ?_⟩, by rw [chw_app]; exact b6⟩
  rw [fxL_app]
  exact a5.tr b5 b2 h3
theorem LQw.wa (h : WAq K v u a) : LQw K v u d d a := ⟨⟨h.1, h.2.1, h.2.2.1, (MRq.wo a h.2.2.2.1).1, h.2.2.2.2⟩, (MRq.wo a h.2.2.2.1).2.symm⟩
/-- a loop's statement -/
theorem SAw.lq (h : BDw v (lwL a) → LQw K v u (v.1 0 59) (u.1 0 59) a) (h5 : u.1 0 52 = v.1 0 52 ∧ u.1 0 53 = v.1 0 53 ∧ u.1 0 55 = v.1 0 55 ∧ u.1 0 57 = v.1 0 57) (ha : ∀ b ∈ [61, 63, 65], ∀ j : Nat, (j : Int) < (v.1 0 52).toInt → u.1 b j = v.1 b j) : SAw K v u a := by
  refine ⟨fun B => ?_, ⟨h5.1, h5.2.2.1⟩, ha⟩
  obtain ⟨⟨a1, a2, a3, a4, a5⟩, a6⟩ := h B
  have M := MRq.mw (g := gWw v) a (b := v.1 0 53) (c := v.1 0 57) a4
  exact ⟨⟨a1, a2, a3, M.1, a5⟩, by rw [M.2.1]; exact h5.2.1, fun _ => by rw [M.2.2]; exact h5.2.2.2, a6⟩
/-- all but the words -/
def WGq (v u : MS) : Prop := (v.1 0 12).toInt ≤ (u.1 0 12).toInt ∧ ((v.1 0 43).toInt ≤ (u.1 0 43).toInt ∧ ∀ c : Nat, (c : Int) < (v.1 0 43).toInt → u.1 40 c = v.1 40 c ∧ u.1 41 c = v.1 41 c ∧ u.1 42 c = v.1 42 c) ∧ ((v.1 0 39).toInt ≤ (u.1 0 39).toInt ∧ ∀ c : Nat, (c : Int) < (v.1 0 39).toInt → u.1 35 c = v.1 35 c ∧ u.1 37 c = v.1 37 c) ∧ u.1 24 = v.1 24
theorem WFq.wR (h : WFq v u) : WFq (wR v F) (wR u F) := ⟨⟨h.1.1, fun _ _ => rfl⟩, h.2⟩
theorem CWq.wR (h : CWq v u) : CWq (wR v F) (wR u F) := h
theorem FQq.wR {l : List (Nat × Int32 × Int32)} (h : FQq v u l) : FQq (wR v F) (wR u F) l := h
theorem woE.wR (h : woE K u cl q p) (hF : ∀ j : Nat, p ≤ j → j < p + lwE q → F j = u.1 11 j) : woE K (wR u F) cl q p := by
  obtain ⟨⟨a1, a1'⟩, a2, a3⟩ := h
  refine ⟨⟨a1, a1'⟩, fun i z hz => ?_, a3⟩
  have l := getl hz
  have l : i < (rwE (u.1 24) q).length := l
  show F (p + i) = z
  rw [hF _ (by omega) (by omega)]
  exact a2 i z hz
theorem WOq.wR (h : WOq K u cl p a) (hF : ∀ j : Nat, p ≤ j → j < p + lwL a → F j = u.1 11 j) : WOq K (wR u F) cl p a := fun x q y e => (h x q y e).wR (fun j g1 g2 => hF j (by omega) (by
  have l := congrArg lwL e
  rw [lwL_app, lwL_cons] at l
  omega))
/-- a part whose words are kept -/
theorem WAq.wR (h : WAq K v u a) (h0 : 0 ≤ (v.1 0 12).toInt) (hF : ∀ j : Nat, (v.1 0 12).toInt ≤ j → (j : Int) < (u.1 0 12).toInt → F j = u.1 11 j) : WAq K (wR v F) (wR u F) a := by
  have n := natI h0
  have h1 := h.1
  exact ⟨h.1, h.2.1.wR, h.2.2.1.wR, h.2.2.2.1.wR (fun j g1 g2 => hF j (by omega) (by omega)), h.2.2.2.2.wR⟩
/-- the final words -/
theorem LQw.fin (h : LQw K (wR v F) (wR X F) d d1 a) (u11 : u.1 11 = F) (u12 : u.1 0 12 = X.1 0 12) (hs : SMw X u) (hv : ∀ j : Nat, (j : Int) < (v.1 0 12).toInt → F j = v.1 11 j) : LQw K v u d d1 a := by
  obtain ⟨⟨a1, a2, a3, a4, a5⟩, a6⟩ := h
  obtain ⟨⟨s1, s2, s3, s4, s5, s6⟩, s7, s8⟩ := hs
  have a1 : (X.1 0 12).toInt = (v.1 0 12).toInt + lwL a := a1
  have K1 : WFq (wR X F) u := ⟨⟨by rw [u12]; exact Int.le_refl _, fun j _ => by rw [u11]; rfl⟩, ⟨by rw [s8]; exact Int.le_refl _, fun c _ => by rw [s4, s5, s6]; exact ⟨rfl, rfl, rfl⟩⟩, ⟨by rw [s7]; exact Int.le_refl _, fun c _ => by rw [s2, s3]; exact ⟨rfl, rfl⟩⟩, s1⟩
  have a2' := a2.tr K1
  refine ⟨⟨by rw [u12]; exact a1, ⟨⟨a2'.1.1, fun j hj => by rw [u11]; exact hv j hj⟩, a2'.2⟩, ?_, MRq.up K1 (Int.le_refl _) a a4, ?_⟩, a6⟩
  · unfold CWq
    rw [s7, u12, s3]
    exact a3
  · exact ⟨by rw [s8]; exact a5.1, fun k e he => by rw [s4, s5, s6]; exact a5.2 k e he⟩
theorem lwL_rsv : ∀ (a : List EV) (B C : D3), lwL (rsv B C a) = lwL a
  | [], _, _ => rfl
  | q :: l, B, C => by
    show lwL ((if q.1 = 30 then _ else if q.1 = 31 then _ else q) :: rsv _ _ l) = _
    rw [lwL_cons, lwL_cons, lwL_rsv l]
    by_cases c1 : q.1 = 30
    · rw [if_pos c1, lwE3 (Or.inl c1)]; rfl
    rw [if_neg c1]
    by_cases c2 : q.1 = 31
    · rw [if_pos c2, lwE3 (Or.inr (Or.inl c2))]; rfl
    rw [if_neg c2]
theorem fxE3 {q : EV} (h : q.1 = 30 ∨ q.1 = 31) : fxE q = [] := by
  obtain ⟨t, r⟩ := q
  rcases h with h | h <;> (have h : t = _ := h; subst h; rfl)
theorem fxL_rsv : ∀ (a : List EV) (B C : D3) (p : Nat), fxL p (rsv B C a) = fxL p a
  | [], _, _, _ => rfl
  | q :: l, B, C, p => by
    show (fxE (if q.1 = 30 then (19, 0, 0, B.1, B.2.1, B.2.2) else if q.1 = 31 then (19, 0, 0, C.1, C.2.1, C.2.2) else q)).map _ ++ fxL (p + lwE (if q.1 = 30 then (19, 0, 0, B.1, B.2.1, B.2.2) else if q.1 = 31 then (19, 0, 0, C.1, C.2.1, C.2.2) else q)) (rsv _ _ l) = (fxE q).map _ ++ fxL (p + lwE q) l
    by_cases c1 : q.1 = 30
    · rw [if_pos c1, fxE3 (Or.inl c1), lwE3 (Or.inl c1), fxL_rsv l]; rfl
    rw [if_neg c1]
    by_cases c2 : q.1 = 31
    · rw [if_pos c2, fxE3 (Or.inr c2), lwE3 (Or.inr (Or.inl c2)), fxL_rsv l]; rfl
    rw [if_neg c2, fxL_rsv l]
theorem bpw_hd (ht : t = 30 ∨ t = 31 ∨ t = 32) {l : List EV} (l0 : lwE q ≠ 0) : p ∈ bpw t p (q :: l) ↔ q.1 = t := by
  have := (bpw_mem ht (q :: l) [] q l p rfl).resolve_right l0
  rw [lwL_nil] at this
  exact this
theorem bpw_ne {l : List EV} (h : q.1 ≠ t) : bpw t p (q :: l) = bpw t (p + lwE q) l := by
  show bpw t (p + lwE q) l ++ (if q.1 = t then [p] else []) = _
  rw [if_neg h, List.append_nil]
theorem bpw_tl {l : List EV} {j : Nat} (hj : p < j) : j ∈ bpw t p (q :: l) ↔ j ∈ bpw t (p + lwE q) l := by
  refine ⟨fun h => ?_, fun h => List.mem_append.mpr (Or.inl h)⟩
  rcases List.mem_append.mp h with h | h
  · exact h
  · by_cases c1 : q.1 = t
    · rw [if_pos c1] at h
      have := List.mem_singleton.mp h
      omega
    · rw [if_neg c1] at h
      cases h
theorem bpw_dj {j : Nat} {t t' : Int32} (ht : t = 30 ∨ t = 31 ∨ t = 32) (ht' : t' = 30 ∨ t' = 31 ∨ t' = 32) (hne : t ≠ t') : ∀ (a : List EV) {p : Nat}, j ∈ bpw t p a → j ∈ bpw t' p a → False
  | [], _, h, _ => nomatch h
  | q :: l, p, h, k => by
    by_cases l0 : lwE q = 0
    · have n1 : q.1 ≠ t := fun c => by rw [bpw_l1 ht c] at l0; exact absurd l0 (by decide)
      have n2 : q.1 ≠ t' := fun c => by rw [bpw_l1 ht' c] at l0; exact absurd l0 (by decide)
      rw [bpw_ne n1] at h
      rw [bpw_ne n2] at k
      exact bpw_dj ht ht' hne l h k
    · have r := bpw_rng ht _ h
      by_cases e : j = p
      · rw [e] at h k
        have h1 := (bpw_hd ht l0).mp h
        have k1 := (bpw_hd ht' l0).mp k
        exact hne (h1.symm.trans k1)
      · exact bpw_dj ht ht' hne l ((bpw_tl (by omega)).mp h) ((bpw_tl (by omega)).mp k)
/-- a jump's word -/
theorem woE.jmp {d1 d2 d3 : Int} {x0 y0 : Int32} (h0 : (p : Int) + 1 ≤ (u.1 0 12).toInt) (h1 : u.1 11 p = jW 0 (jr d3 0)) : woE K u cl (19, x0, y0, d1, d2, d3) p := by
  refine ⟨⟨h0, rfl⟩, fun i z hz => ?_, fun e => absurd e (show ¬ ((19 : Int32) = 21) by decide)⟩
  have hz : ([jW 0 (jr d3 0)] : List Int32)[i]? = some z := hz
  match i, hz with
  | 0, hz =>
    rw [Nat.add_zero, h1]
    exact Option.some.inj hz
  | i + 1, hz => simp at hz
/-- the inside, its places known -/
theorem rsW : ∀ (b : List EV) (B C : D3) {p : Nat} {x y d : Int32}, MWq K w cl g p x y d b → p + lwL b ≤ 2000000 → (∀ j : Nat, p ≤ j → j < p + lwL b → (j ∉ bpw 30 p b → j ∉ bpw 31 p b → F j = w.1 11 j) ∧ (j ∈ bpw 30 p b → F j = jW 0 ((4 : Int32) * (T - nI j))) ∧ (j ∈ bpw 31 p b → F j = jW 0 ((4 : Int32) * (A - nI j)))) → T.toInt = p + B.2.2 → A.toInt = p + C.2.2 → MRq K (wR w F) cl p d (rsv B C b) ∧ chw 32 d p (rsv B C b) = chw 32 d p b
  | [], _, _, _, _, _, _, _, _, _, _, _ => ⟨trivial, rfl⟩
  | q :: l, B, C, p, x, y, d, h, hb, hj, hT, hA => by
    rw [lwL_cons] at hb
    have tl : ∀ e : Int32, MWq K w cl g (p + lwE q) (if q.1 = 30 then nI p else x) (if q.1 = 31 then nI p else y) e l → MRq K (wR w F) cl (p + lwE q) e (rsv (d3s B q) (d3s C q) l) ∧ chw 32 e (p + lwE q) (rsv (d3s B q) (d3s C q) l) = chw 32 e (p + lwE q) l := by
      intro e he
      refine rsW l (d3s B q) (d3s C q) he (by omega) (fun j j1 j2 => ?_) ?_ ?_
      · have H := hj j (by omega) (by rw [lwL_cons]; omega)
        by_cases l0 : lwE q = 0
        · have n30 : q.1 ≠ 30 := fun c => by rw [lwE3 (Or.inl c)] at l0; exact absurd l0 (by decide)
          have n31 : q.1 ≠ 31 := fun c => by rw [lwE3 (Or.inr (Or.inl c))] at l0; exact absurd l0 (by decide)
          rw [bpw_ne n30, bpw_ne n31] at H
          exact H
        · rw [bpw_tl (t := 30) (by omega), bpw_tl (t := 31) (by omega)] at H
          exact H
      · show _ = ((p + lwE q : Nat) : Int) + (B.2.2 - lwE q)
        omega
      · show _ = ((p + lwE q : Nat) : Int) + (C.2.2 - lwE q)
        omega
    have tl := tl _ h.2
    have h1 := h.1
    unfold mwE at h1
    show MRq K (wR w F) cl p d ((if q.1 = 30 then (19, 0, 0, B.1, B.2.1, B.2.2) else if q.1 = 31 then (19, 0, 0, C.1, C.2.1, C.2.2) else q) :: rsv (d3s B q) (d3s C q) l) ∧ chw 32 d p ((if q.1 = 30 then (19, 0, 0, B.1, B.2.1, B.2.2) else if q.1 = 31 then (19, 0, 0, C.1, C.2.1, C.2.2) else q) :: rsv (d3s B q) (d3s C q) l) = chw 32 (if q.1 = 32 then nI p else d) (p + lwE q) l
    have np : (nI p).toInt = (p : Int) := nI_Z (by omega)
    by_cases c1 : q.1 = 30
    · rw [if_pos c1] at h1 ⊢
      have l1 : lwE q = 1 := lwE3 (Or.inl c1)
      have c3 : ¬ q.1 = 32 := by rw [c1]; decide
      have H := hj p (Nat.le_refl _) (by rw [lwL_cons, l1]; omega)
      have hm := (bpw_hd (q := q) (p := p) (l := l) (Or.inl rfl) (by omega)).mpr c1
      rw [if_neg c3, l1] at tl
      rw [if_neg c3, l1]
      refine ⟨⟨?_, tl.1⟩, tl.2⟩
      show woE K (wR w F) cl (19, 0, 0, B.1, B.2.1, B.2.2) p
      refine woE.jmp h1.1 ?_
      show F p = _
      rw [H.2.1 hm, jrE (d := B.2.2) (k := 0) (by omega)]
    rw [if_neg c1] at h1 ⊢
    by_cases c2 : q.1 = 31
    · rw [if_pos c2] at h1 ⊢
      have l1 : lwE q = 1 := lwE3 (Or.inr (Or.inl c2))
      have c3 : ¬ q.1 = 32 := by rw [c2]; decide
      have H := hj p (Nat.le_refl _) (by rw [lwL_cons, l1]; omega)
      have hm := (bpw_hd (q := q) (p := p) (l := l) (Or.inr (Or.inl rfl)) (by omega)).mpr c2
      rw [if_neg c3, l1] at tl
      rw [if_neg c3, l1]
      refine ⟨⟨?_, tl.1⟩, tl.2⟩
      show woE K (wR w F) cl (19, 0, 0, C.1, C.2.1, C.2.2) p
      refine woE.jmp h1.1 ?_
      show F p = _
      rw [H.2.2 hm, jrE (d := C.2.2) (k := 0) (by omega)]
    rw [if_neg c2] at h1 ⊢
    refine ⟨⟨?_, tl.1⟩, tl.2⟩
    unfold mrE
    by_cases c3 : q.1 = 32
    · rw [if_pos c3] at h1 ⊢
      have l1 : lwE q = 1 := lwE3 (Or.inr (Or.inr c3))
      have H := hj p (Nat.le_refl _) (by rw [lwL_cons, l1]; omega)
      refine ⟨h1.1, ?_⟩
      show F p = d
      rw [H.1 (fun z => c1 ((bpw_hd (Or.inl rfl) (by omega)).mp z)) (fun z => c2 ((bpw_hd (Or.inr (Or.inl rfl)) (by omega)).mp z))]
      exact h1.2
    · rw [if_neg c3] at h1 ⊢
      refine h1.wR (fun j g1 g2 => ?_)
      have H := hj j g1 (by rw [lwL_cons]; omega)
      have o30 := bpw_out (t := 30) (Or.inl rfl) (q :: l) [] q l p (j - p) rfl c1 (by omega)
      have o31 := bpw_out (t := 31) (Or.inr (Or.inl rfl)) (q :: l) [] q l p (j - p) rfl c2 (by omega)
      rw [lwL_nil, show p + 0 + (j - p) = j by omega] at o30 o31
      exact H.1 o30 o31
/-- where continue leads if it does not wait -/
theorem MWq.agn (hg : g.1 = false) : ∀ (a : List EV) {p : Nat} {b c d : Int32}, MWq K u cl g p b c d a → ∀ j, j ∈ bpw 31 p a → u.1 11 j = jW 0 ((4 : Int32) * (g.2.1 - nI j))
  | [], _, _, _, _, _, _, hj => nomatch hj
  | q :: l, p, b, c, d, h, j, hj => by
    rcases List.mem_append.mp hj with hj | hj
    · exact MWq.agn hg l h.2 j hj
    · have h1 := h.1
      unfold mwE at h1
      by_cases c2 : q.1 = 31
      · rw [if_neg (by rw [c2]; decide), if_pos c2, hg, if_neg Bool.false_ne_true] at h1
        rw [if_pos c2] at hj
        rw [List.mem_singleton.mp hj]
        exact h1.2.1
      · rw [if_neg c2] at hj
        cases hj
end ZZE
