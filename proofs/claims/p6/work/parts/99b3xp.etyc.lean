/-! events' types: a whole text -/
section XPT
variable {K : TK} {Sx : FS}
theorem tyItems : ∀ (f : Nat) (x : IS) (evs : List (List Int32 × List EV)), gItems EvSP Sx K f x = some evs → ∀ g ∈ evs, g.1.length ≤ 1502 ∧ TYG g.1.length (fnB g.2)
  | 0, _, _, h => by cases h
  | f + 1, x, evs, h => by
    have h : (if (kd (mkE K x.2.2) x.1).toInt = 0 then some [] else match tItem Sx K x with
      | .error _ => none
      | .ok x' => if ((mkE K x.2.2).1 (pAt x.1 + 1 + 1)).toInt = 30 then (gFunc EvSP (mkE K x.2.2) (pAt x.1 + 1)).bind fun q => (gItems EvSP Sx K f x').bind fun r => some ((q.1, q.2.1) :: r) else gItems EvSP Sx K f x' : Option (List (List Int32 × List EV))) = some evs := h
    by_cases c : (kd (mkE K x.2.2) x.1).toInt = 0
    · rw [if_pos c] at h
      have := Option.some.inj h
      rw [← this]
      exact fun g hg => nomatch hg
    rw [if_neg c] at h
    cases ht : tItem Sx K x with
    | error z => rw [ht] at h; cases h
    | ok x' =>
      rw [ht] at h
      have h : (if ((mkE K x.2.2).1 (pAt x.1 + 1 + 1)).toInt = 30 then (gFunc EvSP (mkE K x.2.2) (pAt x.1 + 1)).bind fun q => (gItems EvSP Sx K f x').bind fun r => some ((q.1, q.2.1) :: r) else gItems EvSP Sx K f x') = some evs := h
      by_cases c2 : ((mkE K x.2.2).1 (pAt x.1 + 1 + 1)).toInt = 30
      · rw [if_pos c2] at h
        obtain ⟨q, hq, h⟩ := Option.bind_eq_some_iff.mp h
        obtain ⟨r, hr, h⟩ := Option.bind_eq_some_iff.mp h
        have e := Option.some.inj h
        rw [← e]
        intro g hg
        rcases List.mem_cons.mp hg with e2 | hg
        · rw [e2]
          obtain ⟨l, m, hm, T⟩ := tyFunc hq
          exact ⟨l, tyFnB T hm⟩
        · exact tyItems f x' r hr g hg
      · rw [if_neg c2] at h
        exact tyItems f x' evs h
/-- where a function's events stand in the text's -/
theorem txE_at : ∀ (evs : List (List Int32 × List EV)) (k f : Nat) (g : List Int32 × List EV), evs[f]? = some g → txE k evs = txE k (evs.take f) ++ (fnE (nI (k + f)) g.2 ++ txE (k + f + 1) (evs.drop (f + 1)))
  | [], _, f, g, h => by cases h
  | q :: l, k, 0, g, h => by
    have e : q = g := Option.some.inj h
    rw [e]
    rfl
  | q :: l, k, f + 1, g, h => by
    have h : l[f]? = some g := h
    have T := txE_at l (k + 1) f g h
    show fnE (nI k) q.2 ++ txE (k + 1) l = fnE (nI k) q.2 ++ txE (k + 1) (l.take f) ++ _
    rw [T, show k + (f + 1) = k + 1 + f by omega, List.append_assoc]
    rfl
end XPT
