/-! load in both: the same words -/
section ZZZJ
variable {L1 L2 : List Nat} {T : Nat → Int32} {L N : Nat} {v u w u' : MS} {ps r r' : Int32} {q : EV} {d : List (List Int32 × List EV)}
theorem i32_l {a : Int32} {n : Nat} (h : a.toInt ≤ n) : a.toNatClampNeg ≤ n := by
  show a.toInt.toNat ≤ n
  omega
theorem lwE_le (h : q.1 ≠ 0) : lwE q ≤ 9 * ldE q := by
  unfold lwE ldE
  by_cases c : q.1 = 25
  · rw [if_pos c, if_pos c]; omega
  rw [if_neg c, if_neg c]
  by_cases c1 : q.1 = 21
  · rw [if_pos c1]
    split <;> omega
  rw [if_neg c1, if_neg h]
  refine i32_l ?_
  unfold dsz
  rw [if_neg h]
  split
  · decide
  split
  · unfold nsz
    split <;> decide
  split
  · decide
  split
  · decide
  split
  · decide
  split
  · unfold opz
    split <;> decide
  split <;> decide
theorem lwL_le : ∀ (a : List EV), (∀ e ∈ a, e.1 ≠ 0) → lwL a ≤ 9 * ldL a
  | [], _ => Nat.le_refl _
  | q :: l, h => by
    have h1 := lwE_le (h q List.mem_cons_self)
    have h2 := lwL_le l (fun e he => h e (List.mem_cons_of_mem _ he))
    rw [lwL_cons, ldL_cons]
    omega
theorem lnLe : ∀ (d : List (List Int32 × List EV)) (k : Nat), (∀ q ∈ d, ∀ e ∈ fnT q.2, e.1 ≠ 0) → (∀ q ∈ d, q.1.length ≤ 8) → lnX d ≤ 25 * ldL (txE k d)
  | [], _, _, _ => Nat.le_refl _
  | q :: l, k, h, g => by
    have h1 := lwL_le _ (h q List.mem_cons_self)
    have h2 := lnLe l (k + 1) (fun p hp => h p (List.mem_cons_of_mem _ hp)) (fun p hp => g p (List.mem_cons_of_mem _ hp))
    have h3 := g q List.mem_cons_self
    have e : ldL (txE k (q :: l)) = 1 + ldL (fnT q.2) + ldL (txE (k + 1) l) := by
      show ldL (([evx 0 (nI k) 0] ++ fnT q.2) ++ txE (k + 1) l) = _
      rw [ldL_app, ldL_app]
      rfl
    rw [lnX_cons, e]
    unfold lnF
    omega
end ZZZJ
