/-! the class: expressions at every level -/
set_option maxHeartbeats 400000 in
theorem cLev {L1 L2 : List Nat} : ∀ n N : Nat, n ≤ N → HO L2 (QO L1 L2 n) (tO N) ∧ HE L2 (QE L1 L2 n) (tE N) := by
  intro n
  induction n with
  | zero =>
    intro N _
    have p1 : HE L2 (pE L1 L2 0) (qE N) := fun _ _ _ _ _ _ _ _ h => h.elim
    have p2 : HO L2 (pO L1 L2 0) (qO N) := fun _ _ _ _ _ _ _ _ _ h => h.elim
    have o : HO L2 (QO L1 L2 0) (tO N) := by
      intro G e v pa b t r u hb hq _ J og tp
      rw [QO_eq] at hq
      rw [tO_eq]
      exact cOperand p1 p2 hq J og tp hb
    refine ⟨o, ?_⟩
    intro G e v pa b t u hb hq _ J og tp
    rw [QE_eq] at hq
    rw [tE_eq]
    exact cExpr p1 o hq J og tp hb
  | succ n ih =>
    intro N h
    cases N with
    | zero => omega
    | succ N =>
      have p1 : HE L2 (pE L1 L2 (n + 1)) (qE (N + 1)) := (ih N (by omega)).2
      have p2 : HO L2 (pO L1 L2 (n + 1)) (qO (N + 1)) := (ih N (by omega)).1
      have o : HO L2 (QO L1 L2 (n + 1)) (tO (N + 1)) := by
        intro G e v pa b t r u hb hq _ J og tp
        rw [QO_eq] at hq
        rw [tO_eq]
        exact cOperand p1 p2 hq J og tp hb
      refine ⟨o, ?_⟩
      intro G e v pa b t u hb hq _ J og tp
      rw [QE_eq] at hq
      rw [tE_eq]
      exact cExpr p1 o hq J og tp hb
