/-! the reference's words: every event of a text, by its place -/
def fnW (k : Int32) (q : List Int32 × List EV) : List EV := [evx 0 k (nI q.1.length)] ++ fnT q.2
def txW : Nat → List (List Int32 × List EV) → List EV
  | _, [] => []
  | k, q :: l => fnW (nI k) q ++ txW (k + 1) l
/-- a function's beginning at p -/
def fbE (w : MS) (q : EV) (p : Nat) : Prop := ∃ k np : Nat, q = evx 0 (nI k) (nI np) ∧ (np ≤ 8 ∧ (k : Int) < (w.1 0 22).toInt) ∧ w.1 19 k = nI p ∧ w.1 17 k = nI np ∧ (∀ (i : Nat) (z : Int32), (enR (w.1 18 k))[i]? = some z → w.1 11 (p + i) = z) ∧ Seg w (p + 9) (paL np) ∧ ((p + 9 + 2 * np : Nat) : Int) ≤ (w.1 0 12).toInt
/-- every event at its words -/
def TPw (K : TK) (w : MS) (cl : Int) (p : Nat) (a : List EV) : Prop := ∀ x q y, a = x ++ q :: y → if q.1 = 0 then fbE w q (p + lwL x) else woE K w cl q (p + lwL x) ∧ (∃ Z : Nat, (Z : Int) ≤ (w.1 0 27).toInt ∧ P7 Z [q])
section ZZT
variable {K : TK} {w : MS} {cl : Int} {p : Nat} {a b : List EV} {q : EV}
theorem TPw.app (h : TPw K w cl p a) (k : TPw K w cl (p + lwL a) b) : TPw K w cl p (a ++ b) := fun x q y e => by
  rcases List.append_eq_append_iff.mp e with ⟨z, e1, e2⟩ | ⟨z, e1, e2⟩
  · have := k z q y e2
    rw [e1, lwL_app, ← Nat.add_assoc]
    exact this
  · cases z with
    | nil =>
      rw [List.append_nil] at e1
      rw [List.nil_append] at e2
      have := k [] q y e2.symm
      rw [← e1]
      exact this
    | cons z0 z =>
      rw [List.cons_append] at e2
      have e3 := List.cons.inj e2
      exact h x q z (by rw [e1, e3.1])
theorem TPw.one (h : if q.1 = 0 then fbE w q p else woE K w cl q p ∧ (∃ Z : Nat, (Z : Int) ≤ (w.1 0 27).toInt ∧ P7 Z [q])) : TPw K w cl p [q] := fun x q' y h' => by
  cases x with
  | nil =>
    have e := (List.cons.inj h').1
    rw [← e]
    exact h
  | cons z x =>
    have e := (List.cons.inj h').2
    have := congrArg List.length e
    simp at this
theorem lwE0 {k : Int32} {np : Nat} (h : np ≤ 8) : lwE (evx 0 k (nI np)) = 9 + 2 * np := by
  have e : (nI np).toNatClampNeg = np := natC (nI_Z (by omega))
  show 9 + 2 * (nI np).toNatClampNeg = _
  rw [e]
theorem lwL_fnW {k : Int32} {q : List Int32 × List EV} (h : q.1.length ≤ 8) : lwL (fnW k q) = lnF q := by
  unfold fnW lnF
  rw [lwL_app, lwL_cons, lwL_nil, lwE0 h, Nat.add_zero]
theorem woE.ne0 (h : woE K w cl q p) : q.1 ≠ 0 := fun c => by
  have l := h.1.2
  obtain ⟨t, r⟩ := q
  have c : t = 0 := c
  subst c
  have e : (rwE (w.1 24) (0, r)).length = 0 := rfl
  have e2 : lwE (0, r) = 9 + 2 * r.2.1.toNatClampNeg := rfl
  rw [e, e2] at l
  omega
theorem TXw.pos : ∀ (d : List (List Int32 × List EV)) (p k : Nat), ((k + d.length : Nat) : Int) ≤ (w.1 0 22).toInt → TXw K w cl p k d → TPw K w cl p (txW k d) ∧ lwL (txW k d) = lnX d
  | [], _, _, _, _ => ⟨fun x q y e => by
      have := congrArg List.length e
      simp [txW] at this, rfl⟩
  | q :: l, p, k, hk, h => by
    rw [List.length_cons] at hk
    obtain ⟨⟨⟨h1, h2, h3⟩, hl, ⟨Z, hZ, hP⟩, h4, h5, h6⟩, h7⟩ := h
    have T := TXw.pos l (p + lnF q) (k + 1) (by omega) h7
    have lf : lnF q = 9 + 2 * q.1.length + lwL (fnT q.2) := rfl
    have F : TPw K w cl p (fnW (nI k) q) := by
      refine TPw.app (TPw.one ?_) ?_
      · rw [if_pos (show (evx 0 (nI k) (nI q.1.length)).1 = 0 from rfl)]
        exact ⟨k, q.1.length, rfl, ⟨h6, by omega⟩, h4, h5, h1, h2, by omega⟩
      · rw [lwL_cons, lwL_nil, lwE0 h6]
        intro x e y hx
        have W := h3 x e y hx
        rw [show p + (9 + 2 * q.1.length + 0) + lwL x = p + 9 + 2 * q.1.length + lwL x by omega, if_neg W.ne0]
        exact ⟨W, Z, hZ, fun z hz => by
          rw [List.mem_singleton.mp hz]
          exact hP e (by rw [hx]; exact List.mem_append.mpr (Or.inr List.mem_cons_self))⟩
    refine ⟨F.app (by rw [lwL_fnW h6]; exact T.1), ?_⟩
    show lwL (fnW (nI k) q ++ txW (k + 1) l) = _
    rw [lwL_app, lwL_fnW h6, T.2, lnX_cons]
end ZZT
