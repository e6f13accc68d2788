/-! the reference's words: expressions at every level -/
section ZWX
variable {n : Int} {K : TK} {e : PE} {v u w x y : MS} {a b d a0 : List EV} {q : EV} {r pa pb pd : Int32} {c o : RM1} {c2 : RM2} {E : EvE} {O : EvO} {Es : FE} {Os : FO} {f : Nat}
set_option maxHeartbeats 800000 in
theorem oExprW {O' : EvO} (hX : XWe n K c E) (hE : HME n K c Es) (hC : XWc n K c2 E (gOperand E O')) (h : Q_m_expression c c2 v false u) (J : JM n K e v) : ∃ a, gExpr E (gOperand E O') true e (knM K v) (v.1 0 32) (v.1 0 47) = some (a, u.1 0 47) ∧ WSi n K e v u a := by
  obtain ⟨z47, z2, z3, z4, z5, z6, z15, z8, z9, z10, h⟩ := h
  have ek : e.1 (v.1 0 47) = kM (v.1 6 (v.1 0 47).toNatClampNeg) (v.2 (v.1 0 47).toNatClampNeg) (v.1 10 (v.1 0 47).toNatClampNeg) := rKd (g := g00) J
  have e2 : e.1 (v.1 0 47) = 2 ↔ v.1 6 (v.1 0 47).toNatClampNeg = 2 := by rw [ek]; exact kM_2 (rTV J)
  have same : (gOperand E O' true e (knM K v) (v.1 0 32) (v.1 0 47) = gOperand E O' false e (knM K v) (v.1 0 32) (v.1 0 47)) → (∃ a, gExpr E (gOperand E O') false e (knM K v) (v.1 0 32) (v.1 0 47) = some (a, u.1 0 47) ∧ WSi n K e v u a) → ∃ a, gExpr E (gOperand E O') true e (knM K v) (v.1 0 32) (v.1 0 47) = some (a, u.1 0 47) ∧ WSi n K e v u a := by
    intro q R
    obtain ⟨a, x1, x2⟩ := R
    refine ⟨a, ?_, x2⟩
    rw [← x1]
    unfold gExpr
    rw [q]
  have ch : ((∃ u9, c2 v 0 true u9 ∧ false = true ∧ u = u9) ∨ (∃ u5, c2 v 0 false u5 ∧ K_m_choice v 0 u5 ∧ false = false ∧ u = u5)) → ∃ a, gExpr E (gOperand E O') false e (knM K v) (v.1 0 32) (v.1 0 47) = some (a, u.1 0 47) ∧ WSi n K e v u a := by
    rintro (⟨u9, -, f9, -⟩ | ⟨u5, h1, k1, -, eu⟩)
    · cases f9
    · rw [← eu] at h1 k1
      exact (hC e v u 0 h1 k1 J).2 rfl
  rcases h with ⟨c2', h⟩ | ⟨c2', r12, h12, -, h⟩
  · have n2 : ¬ (e.1 (v.1 0 47)).toInt = 2 := fun q => c2' (by rw [e2.mp (Int32.toInt_inj.mp (q.trans (by decide)))]; decide)
    refine same ?_ (ch h)
    unfold gOperand
    rw [if_neg n2, if_neg n2]
  · have k2 : e.1 (v.1 0 47) = 2 := e2.mpr (Int32.toInt_inj.mp (c2'.trans (by decide)))
    have kb2 := (rKb (g := g00) h12 J z47.2 (by show 2 ≤ (e.1 (v.1 0 47)).toInt; rw [k2]; decide) (q := (40, 30)) (by decide) rfl).1
    have kb2 : r12.toInt ≠ 0 ↔ e.1 (v.1 0 47 + 1) = 30 := kb2
    have op : ∀ st, gOperand E O' st e (knM K v) (v.1 0 32) (v.1 0 47) = gNamed E st e (knM K v) (v.1 0 32) (v.1 0 47) := fun st => by
      unfold gOperand
      rw [k2]
      rfl
    rcases h with ⟨q12, h⟩ | ⟨q12, h⟩
    · have yb : (e.1 (v.1 0 47 + 1)).toInt = 30 := by rw [kb2.mp q12]; decide
      refine same ?_ (ch h)
      rw [op, op]
      unfold gNamed
      rw [if_pos yb, if_pos yb]
    · have nb : (e.1 (v.1 0 47 + 1)).toInt ≠ 30 := fun q => kb2.mpr (Int32.toInt_inj.mp (q.trans (by decide))) q12
      rcases h with ⟨u9, -, f9, -⟩ | ⟨u21, h1, -, -, eu⟩
      · cases f9
      · rw [← eu] at h1
        obtain ⟨a, x1, x2⟩ := oNamed1W hX hE hC h1 J k2 nb
        refine ⟨a, ?_, x2⟩
        rw [← x1]
        unfold gExpr
        rw [op]
        rfl
set_option maxHeartbeats 800000 in
theorem oLevelW {k : Nat} {E : EvE} {O' : EvO} {Es : FE} {Os : FO} (hX : XWe n K (pME k) E) (hO : XWo n K (pMO k) O') (hC : XW0 n K (pMC k) E) (hE : HME n K (pME k) Es) (hO' : HMO n K (pMO k) Os) : XWo n K (QMO k) (gOperand E O') ∧ XWc n K (QMC k) E (gOperand E O') ∧ XWe n K (QME k) (gExpr E (gOperand E O')) := by
  have o : XWo n K (QMO k) (gOperand E O') := by
    intro e v u h _ J
    rw [QMO_eq] at h
    exact oOperandW hX hE hO h J
  have os : HMO n K (QMO k) (tOperand Es Os) := by
    intro g e v t u h _ J og
    rw [QMO_eq] at h
    exact rOperand hE hO' h J og
  have js : ∀ i, HMJ n K (pMJ k i) (tOperand Es Os) := by
    intro i
    induction i with
    | zero => exact fun _ _ _ _ _ _ _ h => h.elim
    | succ i ih =>
      intro g e v pa t u f h _ J og hf
      have h : QMJ k i v pa 0 t u := h
      rw [QMJ_eq] at h
      exact (rJoined os ih h J og hf).2 (by decide)
  have jj : ∀ i, XWj n K (pMJ k i) (gOperand E O') := by
    intro i
    induction i with
    | zero => exact fun _ _ _ _ _ h => h.elim
    | succ i ih =>
      intro e v u pa f h _ J hf
      have h : QMJ k i v pa 0 false u := h
      rw [QMJ_eq] at h
      obtain ⟨q, r, -, x1, x2, x3⟩ := (oJoinedW o ih (js i) h J hf).2 (by decide)
      exact ⟨q, r, x1, x2, x3⟩
  have c : XWc n K (QMC k) E (gOperand E O') := by
    intro e v u pa h _ J
    rw [QMC_eq] at h
    refine oChoiceW hX hC ?_ h J
    intro e v u pa pb f h J hf
    rw [QMJ_eq] at h
    exact oJoinedW o (jj 10) (js 10) h J hf
  refine ⟨o, c, ?_⟩
  intro e v u h _ J
  rw [QME_eq] at h
  exact oExprW hX hE c h J
theorem oLevW : ∀ k N : Nat, k ≤ N → XWo n K (QMO k) (geO N) ∧ XWc n K (QMC k) (hgE N) (geO N) ∧ XWe n K (QME k) (geE N) := by
  intro k
  induction k with
  | zero =>
    intro N _
    have r := oLevelW (n := n) (K := K) (k := 0) (E := hgE N) (O' := hgO N) (Es := nE) (Os := nO) (fun _ _ _ h => h.elim) (fun _ _ _ h => h.elim) (fun _ _ _ h => h.elim) (fun _ _ _ _ _ h => h.elim) (fun _ _ _ _ _ h => h.elim)
    rw [geE_eq, geO_eq]
    exact r
  | succ k ih =>
    intro N h
    cases N with
    | zero => omega
    | succ N =>
      have i := ih N (by omega)
      have m := mLev (n := n) (K := K) k N (by omega)
      have r := oLevelW (n := n) (K := K) (k := k + 1) (E := hgE (N + 1)) (O' := hgO (N + 1)) (Es := tE N) (Os := tO N) i.2.2 i.1 (by
        intro e v u h kk J
        have q := (i.2.1 e v u 0 h kk J).2 rfl
        show ∃ b, geE N false e (knM K v) (v.1 0 32) (v.1 0 47) = some (b, u.1 0 47) ∧ WSi n K e v u b
        rw [geE_eq]
        exact q) m.2.2 m.1
      rw [geE_eq, geO_eq]
      exact r
end ZWX
