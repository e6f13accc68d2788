/-! the reference's orders: break and continue wait in chains -/
/-- the last order of the tag t, or b -/
def chn (t b : Int32) (p : Nat) : List EV → Int32
  | [] => b
  | q :: l => chn t (if q.1 = t then nI p else b) (p + loE q) l
/-- where orders of the tag t stand, the last first -/
def bps (t : Int32) (p : Nat) : List EV → List Nat
  | [] => []
  | q :: l => bps t (p + loE q) l ++ (if q.1 = t then [p] else [])
/-- g: whether continue waits; where it leads if not; whether there is a loop -/
def msE (K : TK) (u : MS) (cl : Int) (g : Bool × Int32 × Bool) (b c : Int32) (q : EV) (p : Nat) : Prop :=
  if q.1 = 30 then (p : Int) + 1 ≤ (u.1 0 15).toInt ∧ u.1 13 p = 12 ∧ u.1 14 p = b ∧ g.2.2 = true
  else if q.1 = 31 then (p : Int) + 1 ≤ (u.1 0 15).toInt ∧ u.1 13 p = 12 ∧ u.1 14 p = (if g.1 = true then c else g.2.1) ∧ g.2.2 = true
  else moE K u cl q p
def MSq (K : TK) (u : MS) (cl : Int) (g : Bool × Int32 × Bool) : Nat → Int32 → Int32 → List EV → Prop
  | _, _, _, [] => True
  | p, b, c, q :: l => msE K u cl g b c q p ∧ MSq K u cl g (p + loE q) (if q.1 = 30 then nI p else b) (if q.1 = 31 then nI p else c) l
theorem loE3 {q : EV} (h : q.1 = 30 ∨ q.1 = 31) : loE q = 1 := by
  obtain ⟨t, r⟩ := q
  rcases h with h | h <;> (have h : t = _ := h; subst h; exact loE1)
section WMS
variable {K : TK} {u w v : MS} {cl cl' : Int} {g : Bool × Int32 × Bool} {q : EV} {t z : Int32}
theorem chn_app : ∀ (a a' : List EV) (p : Nat) (b : Int32), chn t b p (a ++ a') = chn t (chn t b p a) (p + loL a) a'
  | [], _, _, _ => rfl
  | q :: l, a', p, b => by
    show chn t _ (p + loE q) (l ++ a') = chn t (chn t _ (p + loE q) l) (p + loL (q :: l)) a'
    rw [chn_app l, loL_cons, Nat.add_assoc]
theorem MSq.app : ∀ (a : List EV) {a' : List EV} {p : Nat} {b c : Int32}, MSq K u cl g p b c a → MSq K u cl g (p + loL a) (chn 30 b p a) (chn 31 c p a) a' → MSq K u cl g p b c (a ++ a')
  | [], _, _, _, _, _, k => k
  | q :: l, a', p, b, c, h, k => ⟨h.1, MSq.app l h.2 (by rw [loL_cons, ← Nat.add_assoc] at k; exact k)⟩
theorem msE.up {b c : Int32} {p : Nat} (h : msE K u cl g b c q p) (k : OF u w) (hc : cl' ≤ cl) : msE K w cl' g b c q p := by
  unfold msE at h ⊢
  by_cases c1 : q.1 = 30
  · rw [if_pos c1] at h ⊢
    have := k.1.2 p (by omega)
    have k1 := k.1.1
    exact ⟨by omega, by rw [this.1]; exact h.2.1, by rw [this.2]; exact h.2.2⟩
  · rw [if_neg c1] at h ⊢
    by_cases c2 : q.1 = 31
    · rw [if_pos c2] at h ⊢
      have := k.1.2 p (by omega)
      have k1 := k.1.1
      exact ⟨by omega, by rw [this.1]; exact h.2.1, by rw [this.2]; exact h.2.2⟩
    · rw [if_neg c2] at h ⊢
      exact h.up k hc
theorem MSq.up (k : OF u w) (hc : cl' ≤ cl) : ∀ (a : List EV) {p : Nat} {b c : Int32}, MSq K u cl g p b c a → MSq K w cl' g p b c a
  | [], _, _, _, _ => trivial
  | q :: l, _, _, _, h => ⟨h.1.up k hc, MSq.up k hc l h.2⟩
theorem msE.pt {b c : Int32} {p m : Nat} (h : msE K u cl g b c q p) (hm : loE q = 0 ∨ m ≠ p) : msE K (wA u 14 m z) cl g b c q p := by
  have e : m ≠ p → (wA u 14 m z).1 14 p = u.1 14 p := fun hm => show upd (u.1 14) m z p = _ from updN_ (fun q => hm q.symm)
  unfold msE at h ⊢
  by_cases c1 : q.1 = 30
  · rw [if_pos c1] at h ⊢
    have hm : m ≠ p := hm.resolve_left (by rw [loE3 (Or.inl c1)]; decide)
    exact ⟨h.1, h.2.1, by rw [e hm]; exact h.2.2⟩
  · rw [if_neg c1] at h ⊢
    by_cases c2 : q.1 = 31
    · rw [if_pos c2] at h ⊢
      have hm : m ≠ p := hm.resolve_left (by rw [loE3 (Or.inr c2)]; decide)
      exact ⟨h.1, h.2.1, by rw [e hm]; exact h.2.2⟩
    · rw [if_neg c2] at h ⊢
      exact h.pt hm
theorem MSq.pt {m : Nat} : ∀ (a : List EV) {p : Nat} {b c : Int32}, (m < p ∨ p + loL a ≤ m) → MSq K u cl g p b c a → MSq K (wA u 14 m z) cl g p b c a
  | [], _, _, _, _, _ => trivial
  | q :: l, p, b, c, hm, h => by
    rw [loL_cons] at hm
    refine ⟨h.1.pt ?_, MSq.pt l (by omega) h.2⟩
    by_cases l0 : loE q = 0
    · exact Or.inl l0
    · exact Or.inr (by omega)
/-- events that wait for nothing -/
theorem MOq.hd {p : Nat} {a : List EV} (h : MOq K u cl p (q :: a)) : moE K u cl q p ∧ MOq K u cl (p + loE q) a := by
  refine ⟨h [] q a rfl, fun x q' y e => ?_⟩
  have := h (q :: x) q' y (by rw [e]; rfl)
  rw [loL_cons, ← Nat.add_assoc] at this
  exact this
theorem moE.n3 {p : Nat} (h : moE K u cl q p) : q.1 ≠ 30 ∧ q.1 ≠ 31 := by
  refine ⟨fun c => ?_, fun c => ?_⟩
  · rcases h.2 with l | l
    · rw [loE3 (Or.inl c)] at l; exact absurd l (by decide)
    · have l := l.2
      unfold moA at l
      rw [c] at l
      exact l
  · rcases h.2 with l | l
    · rw [loE3 (Or.inr c)] at l; exact absurd l (by decide)
    · have l := l.2
      unfold moA at l
      rw [c] at l
      exact l
theorem MSq.mo : ∀ (a : List EV) {p : Nat} {b c : Int32}, MOq K u cl p a → MSq K u cl g p b c a ∧ chn 30 b p a = b ∧ chn 31 c p a = c
  | [], _, _, _, _ => ⟨trivial, rfl, rfl⟩
  | q :: l, p, b, c, h => by
    have H := h.hd
    have N := H.1.n3
    have T := MSq.mo l (b := b) (c := c) H.2
    refine ⟨⟨?_, ?_⟩, ?_, ?_⟩
    · unfold msE
      rw [if_neg N.1, if_neg N.2]
      exact H.1
    · rw [if_neg N.1, if_neg N.2]
      exact T.1
    · show chn 30 (if q.1 = 30 then nI p else b) (p + loE q) l = b
      rw [if_neg N.1]
      exact T.2.1
    · show chn 31 (if q.1 = 31 then nI p else c) (p + loE q) l = c
      rw [if_neg N.2]
      exact T.2.2
/-- a chain, from its head on -/
def CHr (f : Nat → Int32) (h b : Int32) : List Nat → Prop
  | [] => h = b
  | x :: R => h = nI x ∧ CHr f (f x) b R
theorem CHr.app {f : Nat → Int32} : ∀ (R : List Nat) {R' : List Nat} {h m b : Int32}, CHr f h m R → CHr f m b R' → CHr f h b (R ++ R')
  | [], _, _, _, _, k, k' => by
    have k : _ = _ := k
    rw [k]
    exact k'
  | x :: R, _, _, _, _, k, k' => ⟨k.1, CHr.app R k.2 k'⟩
theorem CHr.cg {f f' : Nat → Int32} : ∀ (R : List Nat) {h b : Int32}, (∀ x ∈ R, f' x = f x) → CHr f h b R → CHr f' h b R
  | [], _, _, _, k => k
  | x :: R, _, _, e, k => ⟨k.1, by
      rw [e x List.mem_cons_self]
      exact CHr.cg R (fun y hy => e y (List.mem_cons_of_mem _ hy)) k.2⟩
theorem CHr.br : ∀ (a : List EV) {p : Nat} {b c : Int32}, MSq K u cl g p b c a → CHr (u.1 14) (chn 30 b p a) b (bps 30 p a)
  | [], _, _, _, _ => rfl
  | q :: l, p, b, c, h => by
    have T := CHr.br l h.2
    show CHr (u.1 14) (chn 30 (if q.1 = 30 then nI p else b) (p + loE q) l) b (bps 30 (p + loE q) l ++ (if q.1 = 30 then [p] else []))
    refine CHr.app _ T ?_
    have h1 := h.1
    unfold msE at h1
    by_cases c1 : q.1 = 30
    · rw [if_pos c1] at h1 ⊢
      rw [if_pos c1]
      exact ⟨rfl, h1.2.2.1⟩
    · rw [if_neg c1, if_neg c1]
      rfl
theorem CHr.ag (hg : g.1 = true) : ∀ (a : List EV) {p : Nat} {b c : Int32}, MSq K u cl g p b c a → CHr (u.1 14) (chn 31 c p a) c (bps 31 p a)
  | [], _, _, _, _ => rfl
  | q :: l, p, b, c, h => by
    have T := CHr.ag hg l h.2
    show CHr (u.1 14) (chn 31 (if q.1 = 31 then nI p else c) (p + loE q) l) c (bps 31 (p + loE q) l ++ (if q.1 = 31 then [p] else []))
    refine CHr.app _ T ?_
    have h1 := h.1
    unfold msE at h1
    by_cases c1 : q.1 = 31
    · rw [if_neg (by rw [c1]; decide), if_pos c1, if_pos hg] at h1
      rw [if_pos c1, if_pos c1]
      exact ⟨rfl, h1.2.2.1⟩
    · rw [if_neg c1, if_neg c1]
      rfl
theorem bps_rng (ht : t = 30 ∨ t = 31) : ∀ (a : List EV) {p x : Nat}, x ∈ bps t p a → p ≤ x ∧ x < p + loL a
  | [], _, _, h => nomatch h
  | q :: l, p, x, h => by
    rw [loL_cons]
    rcases List.mem_append.mp h with h | h
    · have := bps_rng ht l h
      omega
    · by_cases c1 : q.1 = t
      · rw [if_pos c1] at h
        have := List.mem_singleton.mp h
        have l1 : loE q = 1 := by
          obtain ⟨t9, r⟩ := q
          have c1 : t9 = t := c1
          rcases ht with ht | ht <;> (rw [c1, ht]; exact loE1)
        omega
      · rw [if_neg c1] at h
        cases h
/-- the positions fall -/
theorem bps_dec (ht : t = 30 ∨ t = 31) : ∀ (a : List EV) {p : Nat}, (bps t p a).Pairwise (· > ·)
  | [], _ => List.Pairwise.nil
  | q :: l, p => by
    show (bps t (p + loE q) l ++ (if q.1 = t then [p] else [])).Pairwise (· > ·)
    refine List.pairwise_append.mpr ⟨bps_dec ht l, ?_, fun x hx y hy => ?_⟩
    · by_cases c1 : q.1 = t
      · rw [if_pos c1]; exact List.pairwise_singleton _ _
      · rw [if_neg c1]; exact List.Pairwise.nil
    · have := bps_rng ht l hx
      by_cases c1 : q.1 = t
      · rw [if_pos c1] at hy
        have := List.mem_singleton.mp hy
        have l1 : loE q = 1 := by
          obtain ⟨t9, r⟩ := q
          have c1 : t9 = t := c1
          rcases ht with ht | ht <;> (rw [c1, ht]; exact loE1)
        show y < x
        omega
      · rw [if_neg c1] at hy
        cases hy
theorem bps_mem (ht : t = 30 ∨ t = 31) : ∀ (a x : List EV) (q : EV) (y : List EV) (p : Nat), a = x ++ q :: y → ((p + loL x) ∈ bps t p a ↔ q.1 = t) ∨ loE q = 0
  | [], x, q, y, p, e => by
    have := congrArg List.length e
    simp at this
  | q0 :: l, [], q, y, p, e => by
    have e1 := (List.cons.inj e).1
    by_cases l0 : loE q = 0
    · exact Or.inr l0
    refine Or.inl ⟨fun h => ?_, fun h => ?_⟩
    · rcases List.mem_append.mp h with h | h
      · have := bps_rng ht l h
        rw [loL_nil, e1] at this
        omega
      · by_cases c1 : q0.1 = t
        · rw [← e1]; exact c1
        · rw [if_neg c1] at h
          cases h
    · refine List.mem_append.mpr (Or.inr ?_)
      rw [if_pos (by rw [e1]; exact h)]
      exact List.mem_singleton.mpr rfl
  | q0 :: l, x0 :: x, q, y, p, e => by
    have e1 := List.cons.inj e
    have T := bps_mem ht l x q y (p + loE q0) e1.2
    by_cases l0 : loE q = 0
    · exact Or.inr l0
    have T := T.resolve_right l0
    refine Or.inl ?_
    rw [loL_cons, ← e1.1, ← Nat.add_assoc, ← T]
    refine ⟨fun h => ?_, fun h => List.mem_append.mpr (Or.inl h)⟩
    rcases List.mem_append.mp h with h | h
    · exact h
    · by_cases c1 : q0.1 = t
      · rw [if_pos c1] at h
        have h := List.mem_singleton.mp h
        have l1 : loE q0 = 1 := by
          obtain ⟨t9, r⟩ := q0
          have c1 : t9 = t := c1
          rcases ht with ht | ht <;> (rw [c1, ht]; exact loE1)
        omega
      · rw [if_neg c1] at h
        cases h
/-- the chain's orders are led to T -/
theorem arrC {h T : Int32} {R : List Nat} (hq : Q_m_arrive2 v h T u) (hR : CHr (v.1 14) h (-1) R) (hd : R.Pairwise (· > ·)) (hb : ∀ x ∈ R, x < 100000) : (∀ j, j ∈ R → u.1 14 j = T) ∧ (∀ j, j ∉ R → u.1 14 j = v.1 14 j) := by
  obtain ⟨-, k, w2, hr, -, -, hk, rfl⟩ := hq
  have inv : ∃ R1 R2, R = R1 ++ R2 ∧ CHr (u.1 14) k (-1) R2 ∧ (∀ j, j ∈ R1 → u.1 14 j = T) ∧ (∀ j, j ∉ R1 → u.1 14 j = v.1 14 j) := by
    refine RT.ind (fun (y : Int32 × MS) => ∃ R1 R2, R = R1 ++ R2 ∧ CHr (y.2.1 14) y.1 (-1) R2 ∧ (∀ j, j ∈ R1 → y.2.1 14 j = T) ∧ (∀ j, j ∉ R1 → y.2.1 14 j = v.1 14 j)) hr ⟨[], R, rfl, hR, ⟨fun j hj => absurd hj List.not_mem_nil, fun _ _ => rfl⟩⟩ ?_
    rintro ⟨x, w⟩ y - ⟨R1, R2, e, c, i1, i2⟩ hy
    obtain ⟨-, -, nx, rfl⟩ := hy
    have nx : x.toInt ≠ -1 := nx
    have c : CHr (w.1 14) x (-1) R2 := c
    cases R2 with
    | nil =>
      have c : x = -1 := c
      rw [c] at nx
      exact absurd (by decide) nx
    | cons z R3 =>
      obtain ⟨c1, c2⟩ := c
      have zl : z < 100000 := hb z (by rw [e]; exact List.mem_append.mpr (Or.inr List.mem_cons_self))
      have nz : x.toNatClampNeg = z := natC (by rw [c1, nI_Z (by omega)])
      have i1 : ∀ j, j ∈ R1 → w.1 14 j = T := i1
      have i2 : ∀ j, j ∉ R1 → w.1 14 j = v.1 14 j := i2
      have dz : ∀ y ∈ R3, y ≠ z := fun y hy q => by
        rw [e] at hd
        have h2 := (List.pairwise_append.mp hd).2.1
        have := (List.pairwise_cons.mp h2).1 y hy
        omega
      have wz : ∀ j, j ≠ z → (wA w 14 x.toNatClampNeg T).1 14 j = w.1 14 j := fun j hj => show upd (w.1 14) x.toNatClampNeg T j = _ from updN_ (by rw [nz]; exact hj)
      refine ⟨R1 ++ [z], R3, by rw [e, List.append_assoc]; rfl, ?_, fun j hj => ?_, fun j hj => ?_⟩
      · show CHr ((wA w 14 x.toNatClampNeg T).1 14) (w.1 14 x.toNatClampNeg) (-1) R3
        rw [nz]
        refine CHr.cg R3 (fun y hy => ?_) c2
        show upd (w.1 14) z T y = _
        exact updN_ (dz y hy)
      · rcases List.mem_append.mp hj with hj | hj
        · by_cases g9 : j = z
          · rw [g9]
            show upd (w.1 14) x.toNatClampNeg T z = T
            rw [nz]
            exact updS
          · exact (wz j g9).trans (i1 j hj)
        · rw [List.mem_singleton.mp hj]
          show upd (w.1 14) x.toNatClampNeg T z = T
          rw [nz]
          exact updS
      · have h1 : j ≠ z := fun q => hj (List.mem_append.mpr (Or.inr (List.mem_singleton.mpr q)))
        exact (wz j h1).trans (i2 j (fun q => hj (List.mem_append.mpr (Or.inl q))))
  obtain ⟨R1, R2, e, c, i1, i2⟩ := inv
  cases R2 with
  | nil =>
    rw [List.append_nil] at e
    rw [e]
    exact ⟨i1, i2⟩
  | cons z R3 =>
    exfalso
    have zl : z < 100000 := hb z (by rw [e]; exact List.mem_append.mpr (Or.inr List.mem_cons_self))
    have := c.1
    rw [this, nI_Z (by omega)] at hk
    omega
end WMS
