/-! the reference's words: break, continue and return wait in chains -/
/-- the last word of the tag t, or b -/
def chw (t b : Int32) (p : Nat) : List EV → Int32
  | [] => b
  | q :: l => chw t (if q.1 = t then nI p else b) (p + lwE q) l
/-- where words of the tag t stand, the last first -/
def bpw (t : Int32) (p : Nat) : List EV → List Nat
  | [] => []
  | q :: l => bpw t (p + lwE q) l ++ (if q.1 = t then [p] else [])
/-- g: whether continue waits; where it leads if not; whether there is a loop -/
def mwE (K : TK) (u : MS) (cl : Int) (g : Bool × Int32 × Bool) (b c d : Int32) (q : EV) (p : Nat) : Prop :=
  if q.1 = 30 then (p : Int) + 1 ≤ (u.1 0 12).toInt ∧ u.1 11 p = b ∧ g.2.2 = true
  else if q.1 = 31 then (p : Int) + 1 ≤ (u.1 0 12).toInt ∧ u.1 11 p = (if g.1 = true then c else jW 0 ((4 : Int32) * (g.2.1 - nI p))) ∧ g.2.2 = true
  else if q.1 = 32 then (p : Int) + 1 ≤ (u.1 0 12).toInt ∧ u.1 11 p = d
  else woE K u cl q p
def MWq (K : TK) (u : MS) (cl : Int) (g : Bool × Int32 × Bool) : Nat → Int32 → Int32 → Int32 → List EV → Prop
  | _, _, _, _, [] => True
  | p, b, c, d, q :: l => mwE K u cl g b c d q p ∧ MWq K u cl g (p + lwE q) (if q.1 = 30 then nI p else b) (if q.1 = 31 then nI p else c) (if q.1 = 32 then nI p else d) l
theorem lwE3 {q : EV} (h : q.1 = 30 ∨ q.1 = 31 ∨ q.1 = 32) : lwE q = 1 := by
  obtain ⟨t, r⟩ := q
  rcases h with h | h | h <;> (have h : t = _ := h; subst h; rfl)
section ZWY
variable {K : TK} {u w v : MS} {cl cl' : Int} {g : Bool × Int32 × Bool} {q : EV} {t z : Int32}
theorem chw_app : ∀ (a a' : List EV) (p : Nat) (b : Int32), chw t b p (a ++ a') = chw t (chw t b p a) (p + lwL a) a'
  | [], _, _, _ => rfl
  | q :: l, a', p, b => by
    show chw t _ (p + lwE q) (l ++ a') = chw t (chw t _ (p + lwE q) l) (p + lwL (q :: l)) a'
    rw [chw_app l, lwL_cons, Nat.add_assoc]
theorem MWq.app : ∀ (a : List EV) {a' : List EV} {p : Nat} {b c d : Int32}, MWq K u cl g p b c d a → MWq K u cl g (p + lwL a) (chw 30 b p a) (chw 31 c p a) (chw 32 d p a) a' → MWq K u cl g p b c d (a ++ a')
  | [], _, _, _, _, _, _, k => k
  | q :: l, a', p, b, c, d, h, k => ⟨h.1, MWq.app l h.2 (by rw [lwL_cons, ← Nat.add_assoc] at k; exact k)⟩
/-- what is known of a word, from one state to the next -/
theorem mwE.to {b c d : Int32} {p : Nat} (h : mwE K u cl g b c d q p) (h3 : q.1 = 30 ∨ q.1 = 31 ∨ q.1 = 32 → (p : Int) + 1 ≤ (u.1 0 12).toInt → u.1 11 p = w.1 11 p) (h12 : (u.1 0 12).toInt ≤ (w.1 0 12).toInt) (ho : woE K u cl q p → woE K w cl' q p) : mwE K w cl' g b c d q p := by
  unfold mwE at h ⊢
  by_cases c1 : q.1 = 30
  · rw [if_pos c1] at h ⊢
    exact ⟨by omega, by rw [← h3 (Or.inl c1) h.1]; exact h.2.1, h.2.2⟩
  rw [if_neg c1] at h ⊢
  by_cases c2 : q.1 = 31
  · rw [if_pos c2] at h ⊢
    exact ⟨by omega, by rw [← h3 (Or.inr (Or.inl c2)) h.1]; exact h.2.1, h.2.2⟩
  rw [if_neg c2] at h ⊢
  by_cases c3 : q.1 = 32
  · rw [if_pos c3] at h ⊢
    exact ⟨by omega, by rw [← h3 (Or.inr (Or.inr c3)) h.1]; exact h.2⟩
  rw [if_neg c3] at h ⊢
  exact ho h
theorem mwE.up {b c d : Int32} {p : Nat} (h : mwE K u cl g b c d q p) (k : WFq u w) (hc : cl' ≤ cl) : mwE K w cl' g b c d q p := h.to (fun _ h1 => (k.1.2 p (by omega)).symm) k.1.1 (fun h => h.up k hc)
theorem MWq.up (k : WFq u w) (hc : cl' ≤ cl) : ∀ (a : List EV) {p : Nat} {b c d : Int32}, MWq K u cl g p b c d a → MWq K w cl' g p b c d a
  | [], _, _, _, _, _ => trivial
  | q :: l, _, _, _, _, h => ⟨h.1.up k hc, MWq.up k hc l h.2⟩
/-- a word is changed elsewhere -/
theorem MWq.pt (h12 : u.1 0 12 = w.1 0 12) (hs : SMw w u) : ∀ (a : List EV) {p : Nat} {b c d : Int32}, (∀ j : Nat, p ≤ j → j < p + lwL a → u.1 11 j = w.1 11 j) → MWq K w cl g p b c d a → MWq K u cl g p b c d a
  | [], _, _, _, _, _, _ => trivial
  | q :: l, p, b, c, d, hm, h => by
    rw [lwL_cons] at hm
    refine ⟨h.1.to (fun h3 _ => ?_) (by rw [h12]; exact Int.le_refl _) (fun ho => ho.pt (fun j g1 g2 => hm j g1 (by omega)) h12 hs), MWq.pt h12 hs l (fun j g1 g2 => hm j (by omega) (by omega)) h.2⟩
    have l1 := lwE3 h3
    exact (hm p (Nat.le_refl _) (by omega)).symm
/-- events that wait for nothing -/
theorem WOq.hd {p : Nat} {a : List EV} (h : WOq K u cl p (q :: a)) : woE K u cl q p ∧ WOq K u cl (p + lwE q) a := by
  refine ⟨h [] q a rfl, fun x q' y e => ?_⟩
  have := h (q :: x) q' y (by rw [e]; rfl)
  rw [lwL_cons, ← Nat.add_assoc] at this
  exact this
theorem woE.n3 {p : Nat} (h : woE K u cl q p) : q.1 ≠ 30 ∧ q.1 ≠ 31 ∧ q.1 ≠ 32 := by
  have l := h.1.2
  have N : ¬ (q.1 = 30 ∨ q.1 = 31 ∨ q.1 = 32) := fun c => by
    rw [lwE3 c] at l
    obtain ⟨t, r⟩ := q
    rcases c with c | c | c <;> (have c : t = _ := c; subst c; exact absurd l (by show ¬ ((0 : Nat) = 1); decide))
  exact ⟨fun c => N (Or.inl c), fun c => N (Or.inr (Or.inl c)), fun c => N (Or.inr (Or.inr c))⟩
theorem MWq.mo : ∀ (a : List EV) {p : Nat} {b c d : Int32}, WOq K u cl p a → MWq K u cl g p b c d a ∧ chw 30 b p a = b ∧ chw 31 c p a = c ∧ chw 32 d p a = d
  | [], _, _, _, _, _ => ⟨trivial, rfl, rfl, rfl⟩
  | q :: l, p, b, c, d, h => by
    have H := h.hd
    have N := H.1.n3
    have T := MWq.mo l (b := b) (c := c) (d := d) H.2
    refine ⟨⟨?_, ?_⟩, ?_, ?_, ?_⟩
    · unfold mwE
      rw [if_neg N.1, if_neg N.2.1, if_neg N.2.2]
      exact H.1
    · rw [if_neg N.1, if_neg N.2.1, if_neg N.2.2]
      exact T.1
    · show chw 30 (if q.1 = 30 then nI p else b) (p + lwE q) l = b
      rw [if_neg N.1]
      exact T.2.1
    · show chw 31 (if q.1 = 31 then nI p else c) (p + lwE q) l = c
      rw [if_neg N.2.1]
      exact T.2.2.1
    · show chw 32 (if q.1 = 32 then nI p else d) (p + lwE q) l = d
      rw [if_neg N.2.2]
      exact T.2.2.2
theorem CHr.bw : ∀ (a : List EV) {p : Nat} {b c d : Int32}, MWq K u cl g p b c d a → CHr (u.1 11) (chw 30 b p a) b (bpw 30 p a)
  | [], _, _, _, _, _ => rfl
  | q :: l, p, b, c, d, h => by
    have T := CHr.bw l h.2
    show CHr (u.1 11) (chw 30 (if q.1 = 30 then nI p else b) (p + lwE q) l) b (bpw 30 (p + lwE q) l ++ (if q.1 = 30 then [p] else []))
    refine CHr.app _ T ?_
    have h1 := h.1
    unfold mwE at h1
    by_cases c1 : q.1 = 30
    · rw [if_pos c1] at h1 ⊢
      rw [if_pos c1]
      exact ⟨rfl, h1.2.1⟩
    · rw [if_neg c1, if_neg c1]
      rfl
theorem CHr.aw (hg : g.1 = true) : ∀ (a : List EV) {p : Nat} {b c d : Int32}, MWq K u cl g p b c d a → CHr (u.1 11) (chw 31 c p a) c (bpw 31 p a)
  | [], _, _, _, _, _ => rfl
  | q :: l, p, b, c, d, h => by
    have T := CHr.aw hg l h.2
    show CHr (u.1 11) (chw 31 (if q.1 = 31 then nI p else c) (p + lwE q) l) c (bpw 31 (p + lwE q) l ++ (if q.1 = 31 then [p] else []))
    refine CHr.app _ T ?_
    have h1 := h.1
    unfold mwE at h1
    by_cases c1 : q.1 = 31
    · rw [if_neg (by rw [c1]; decide), if_pos c1, if_pos hg] at h1
      rw [if_pos c1, if_pos c1]
      exact ⟨rfl, h1.2.1⟩
    · rw [if_neg c1, if_neg c1]
      rfl
theorem CHr.rw : ∀ (a : List EV) {p : Nat} {b c d : Int32}, MWq K u cl g p b c d a → CHr (u.1 11) (chw 32 d p a) d (bpw 32 p a)
  | [], _, _, _, _, _ => rfl
  | q :: l, p, b, c, d, h => by
    have T := CHr.rw l h.2
    show CHr (u.1 11) (chw 32 (if q.1 = 32 then nI p else d) (p + lwE q) l) d (bpw 32 (p + lwE q) l ++ (if q.1 = 32 then [p] else []))
    refine CHr.app _ T ?_
    have h1 := h.1
    unfold mwE at h1
    by_cases c1 : q.1 = 32
    · rw [if_neg (by rw [c1]; decide), if_neg (by rw [c1]; decide), if_pos c1] at h1
      rw [if_pos c1, if_pos c1]
      exact ⟨rfl, h1.2⟩
    · rw [if_neg c1, if_neg c1]
      rfl
theorem bpw_l1 (ht : t = 30 ∨ t = 31 ∨ t = 32) (h : q.1 = t) : lwE q = 1 := lwE3 (by rw [h]; exact ht)
theorem bpw_rng (ht : t = 30 ∨ t = 31 ∨ t = 32) : ∀ (a : List EV) {p x : Nat}, x ∈ bpw t p a → p ≤ x ∧ x < p + lwL a
  | [], _, _, h => nomatch h
  | q :: l, p, x, h => by
    rw [lwL_cons]
    rcases List.mem_append.mp h with h | h
    · have := bpw_rng ht l h
      omega
    · by_cases c1 : q.1 = t
      · rw [if_pos c1] at h
        have := List.mem_singleton.mp h
        have l1 := bpw_l1 ht c1
        omega
      · rw [if_neg c1] at h
        cases h
/-- the positions fall -/
theorem bpw_dec (ht : t = 30 ∨ t = 31 ∨ t = 32) : ∀ (a : List EV) {p : Nat}, (bpw t p a).Pairwise (· > ·)
  | [], _ => List.Pairwise.nil
  | q :: l, p => by
    show (bpw t (p + lwE q) l ++ (if q.1 = t then [p] else [])).Pairwise (· > ·)
    refine List.pairwise_append.mpr ⟨bpw_dec ht l, ?_, fun x hx y hy => ?_⟩
    · by_cases c1 : q.1 = t
      · rw [if_pos c1]; exact List.pairwise_singleton _ _
      · rw [if_neg c1]; exact List.Pairwise.nil
    · have := bpw_rng ht l hx
      by_cases c1 : q.1 = t
      · rw [if_pos c1] at hy
        have := List.mem_singleton.mp hy
        have l1 := bpw_l1 ht c1
        show y < x
        omega
      · rw [if_neg c1] at hy
        cases hy
theorem bpw_mem (ht : t = 30 ∨ t = 31 ∨ t = 32) : ∀ (a x : List EV) (q : EV) (y : List EV) (p : Nat), a = x ++ q :: y → ((p + lwL x) ∈ bpw t p a ↔ q.1 = t) ∨ lwE q = 0
  | [], x, q, y, p, e => by
    have := congrArg List.length e
    simp at this
  | q0 :: l, [], q, y, p, e => by
    have e1 := (List.cons.inj e).1
    by_cases l0 : lwE q = 0
    · exact Or.inr l0
    refine Or.inl ⟨fun h => ?_, fun h => ?_⟩
    · rcases List.mem_append.mp h with h | h
      · have := bpw_rng ht l h
        rw [lwL_nil, e1] at this
        omega
      · by_cases c1 : q0.1 = t
        · rw [← e1]; exact c1
        · rw [if_neg c1] at h
          cases h
    · refine List.mem_append.mpr (Or.inr ?_)
      rw [if_pos (by rw [e1]; exact h)]
      exact List.mem_singleton.mpr rfl
  | q0 :: l, x0 :: x, q, y, p, e => by
    have e1 := List.cons.inj e
    have T := bpw_mem ht l x q y (p + lwE q0) e1.2
    by_cases l0 : lwE q = 0
    · exact Or.inr l0
    have T := T.resolve_right l0
    refine Or.inl ?_
    rw [lwL_cons, ← e1.1, ← Nat.add_assoc, ← T]
    refine ⟨fun h => ?_, fun h => List.mem_append.mpr (Or.inl h)⟩
    rcases List.mem_append.mp h with h | h
    · exact h
    · by_cases c1 : q0.1 = t
      · rw [if_pos c1] at h
        have h := List.mem_singleton.mp h
        have l1 := bpw_l1 ht c1
        omega
      · rw [if_neg c1] at h
        cases h
/-- within an event of many words no chain's word lies -/
theorem bpw_out (ht : t = 30 ∨ t = 31 ∨ t = 32) : ∀ (a x : List EV) (q : EV) (y : List EV) (p i : Nat), a = x ++ q :: y → q.1 ≠ t → i < lwE q → (p + lwL x + i) ∉ bpw t p a
  | [], x, q, y, p, i, e, _, _ => by
    have := congrArg List.length e
    simp at this
  | q0 :: l, [], q, y, p, i, e, n, hi => fun h => by
    have e1 := (List.cons.inj e).1
    rw [lwL_nil] at h
    rcases List.mem_append.mp h with h | h
    · have := bpw_rng ht l h
      rw [e1] at this
      omega
    · rw [if_neg (by rw [e1]; exact n)] at h
      cases h
  | q0 :: l, x0 :: x, q, y, p, i, e, n, hi => fun h => by
    have e1 := List.cons.inj e
    have T := bpw_out ht l x q y (p + lwE q0) i e1.2 n hi
    rw [lwL_cons, ← e1.1, ← Nat.add_assoc] at h
    rcases List.mem_append.mp h with h | h
    · exact T h
    · by_cases c1 : q0.1 = t
      · rw [if_pos c1] at h
        have h := List.mem_singleton.mp h
        have l1 := bpw_l1 ht c1
        omega
      · rw [if_neg c1] at h
        cases h
/-- the chain's words lead to T -/
theorem landC {h T : Int32} {R : List Nat} (hq : Q_m_land v h T u) (hR : CHr (v.1 11) h (-1) R) (hd : R.Pairwise (· > ·)) (hb : ∀ x ∈ R, x < 10000000) : (∀ j, j ∈ R → u.1 11 j = jW 0 ((4 : Int32) * (T - nI j))) ∧ (∀ j, j ∉ R → u.1 11 j = v.1 11 j) := by
  obtain ⟨-, k, w2, hr, -, -, hk, rfl⟩ := hq
  have inv : ∃ R1 R2, R = R1 ++ R2 ∧ CHr (u.1 11) k (-1) R2 ∧ (∀ j, j ∈ R1 → u.1 11 j = jW 0 ((4 : Int32) * (T - nI j))) ∧ (∀ j, j ∉ R1 → u.1 11 j = v.1 11 j) := by
    refine RT.ind (fun (y : Int32 × MS) => ∃ R1 R2, R = R1 ++ R2 ∧ CHr (y.2.1 11) y.1 (-1) R2 ∧ (∀ j, j ∈ R1 → y.2.1 11 j = jW 0 ((4 : Int32) * (T - nI j))) ∧ (∀ j, j ∉ R1 → y.2.1 11 j = v.1 11 j)) hr ⟨[], R, rfl, hR, ⟨fun j hj => absurd hj List.not_mem_nil, fun _ _ => rfl⟩⟩ ?_
    rintro ⟨x, w⟩ y - ⟨R1, R2, e, c, i1, i2⟩ hy
    obtain ⟨-, -, nx, x7, hj7, rfl⟩ := hy
    have nx : x.toInt ≠ -1 := nx
    have c : CHr (w.1 11) x (-1) R2 := c
    have e7 : x7 = jW 0 ((4 : Int32) * (T - x)) := eJmp hj7
    subst e7
    cases R2 with
    | nil =>
      have c : x = -1 := c
      rw [c] at nx
      exact absurd (by decide) nx
    | cons z R3 =>
      obtain ⟨c1, c2⟩ := c
      have zl : z < 10000000 := hb z (by rw [e]; exact List.mem_append.mpr (Or.inr List.mem_cons_self))
      have nz : x.toNatClampNeg = z := natC (by rw [c1, nI_Z (by omega)])
      have i1 : ∀ j, j ∈ R1 → w.1 11 j = jW 0 ((4 : Int32) * (T - nI j)) := i1
      have i2 : ∀ j, j ∉ R1 → w.1 11 j = v.1 11 j := i2
      have dz : ∀ y ∈ R3, y ≠ z := fun y hy q => by
        rw [e] at hd
        have h2 := (List.pairwise_append.mp hd).2.1
        have := (List.pairwise_cons.mp h2).1 y hy
        omega
      have wz : ∀ j, j ≠ z → upd (w.1 11) x.toNatClampNeg (jW 0 ((4 : Int32) * (T - x))) j = w.1 11 j := fun j hj => updN_ (by rw [nz]; exact hj)
      have wz1 : upd (w.1 11) x.toNatClampNeg (jW 0 ((4 : Int32) * (T - x))) z = jW 0 ((4 : Int32) * (T - nI z)) := by
        rw [nz, updS, c1]
      refine ⟨R1 ++ [z], R3, by rw [e, List.append_assoc]; rfl, ?_, fun j hj => ?_, fun j hj => ?_⟩
      · show CHr (upd (w.1 11) x.toNatClampNeg (jW 0 ((4 : Int32) * (T - x)))) (w.1 11 x.toNatClampNeg) (-1) R3
        rw [nz]
        refine CHr.cg R3 (fun y hy => ?_) c2
        exact updN_ (dz y hy)
      · show upd (w.1 11) x.toNatClampNeg (jW 0 ((4 : Int32) * (T - x))) j = _
        rcases List.mem_append.mp hj with hj | hj
        · by_cases g9 : j = z
          · rw [g9]
            exact wz1
          · exact (wz j g9).trans (i1 j hj)
        · rw [List.mem_singleton.mp hj]
          exact wz1
      · have h1 : j ≠ z := fun q => hj (List.mem_append.mpr (Or.inr (List.mem_singleton.mpr q)))
        exact (wz j h1).trans (i2 j (fun q => hj (List.mem_append.mpr (Or.inl q))))
  obtain ⟨R1, R2, e, c, i1, i2⟩ := inv
  cases R2 with
  | nil =>
    rw [List.append_nil] at e
    rw [e]
    exact ⟨i1, i2⟩
  | cons z R3 =>
    exfalso
    have zl : z < 10000000 := hb z (by rw [e]; exact List.mem_append.mpr (Or.inr List.mem_cons_self))
    have := c.1
    rw [this, nI_Z (by omega)] at hk
    omega
end ZWY
