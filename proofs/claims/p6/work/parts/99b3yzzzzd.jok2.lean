/-! the leaps of every text that is read to its end -/
section ZZZD
variable {a b c : List EV} {q : EV} {e : PE} {x y g : Int32} {n : Nat} {E : EvE} {O : EvO} {S : EvS} {st : Bool} {kn : List Int32} {pb i : Int32}
theorem jk_rd {sn : Int} : JLk [gRead sn g] := by
  unfold gRead
  split <;> exact JLk.o
theorem jk_pt {sn : Int} : JLk [gPut sn g] := by
  unfold gPut
  split <;> exact JLk.o
theorem jkIndex {r : List EV × Int32} (hE : XEj E) (h : gIndex E g e kn pb i = some r) : JLk r.1 := by
  obtain ⟨q, hq, h⟩ := Option.bind_eq_some_iff.mp h
  obtain ⟨j, hj, h⟩ := Option.bind_eq_some_iff.mp h
  rw [← Option.some.inj h]
  exact (hE _ _ _ _ _ _ hq).app jk_ev
theorem jkChange {row : Bool} {sl : Int} {r : List EV × Int32} (hE : XEj E) (h : gChange E row sl g e kn pb i = some r) : JLk r.1 := by
  have R1 : JLk [if row = true then evx 11 (gsl kn pb) 0 else gPut sl g] := by
    split
    · exact jk_ev
    · exact jk_pt
  unfold gChange at h
  dsimp only at h
  by_cases c : (e.1 i).toInt = 42
  · rw [if_pos c] at h
    obtain ⟨q, hq, h⟩ := Option.bind_eq_some_iff.mp h
    rw [← Option.some.inj h]
    refine (JLk.app ?_ (hE _ _ _ _ _ _ hq)).app R1
    split
    · exact jk_ev
    · exact JLk.nil
  · rw [if_neg c] at h
    obtain ⟨q, hq, h⟩ := Option.bind_eq_some_iff.mp h
    rw [← Option.some.inj h]
    refine ((JLk.app ?_ jk_ev).app (hE _ _ _ _ _ _ hq)).app ((jk_ev : JLk [evx 20 _ _]).app R1)
    split
    · exact JLk.app (jk_ev : JLk [evx 9 _ _]) jk_ev
    · exact jk_rd
theorem jkArgs (hE : XEj E) : ∀ (f : Nat) (k : Int) (e : PE) (kn : List Int32) (pb i : Int32) (r : Int × List EV × Int32), gArgs E f k e kn pb i = some r → JLk r.2.1
  | 0, _, _, _, _, _, _, h => by cases h
  | f + 1, k, e, kn, pb, i, r, h => by
    obtain ⟨q, hq, h⟩ := Option.bind_eq_some_iff.mp h
    have A := (hE _ _ _ _ _ _ hq).app (jk_ev : JLk [evx 4 (gsl kn pb) 0])
    split at h
    · obtain ⟨z, hz, h⟩ := Option.bind_eq_some_iff.mp h
      rw [← Option.some.inj h]
      exact A.app (jkArgs hE f _ _ _ _ _ _ hz)
    · rw [← Option.some.inj h]
      exact A
theorem jkCall {r : List EV × Int32} (hE : XEj E) (h : gCall E e kn pb i = some r) : JLk r.1 := by
  obtain ⟨q, hq, h⟩ := Option.bind_eq_some_iff.mp h
  obtain ⟨j, hj, h⟩ := Option.bind_eq_some_iff.mp h
  rw [← Option.some.inj h]
  refine JLk.app ?_ JLk.o
  split at hq
  · rw [← Option.some.inj hq]
    exact JLk.nil
  · exact jkArgs hE _ _ _ _ _ _ _ hq
theorem jkNamed {r : Bool × List EV × Int32} (hE : XEj E) (h : gNamed E st e kn pb i = some r) : JLk r.2.1 := by
  unfold gNamed at h
  split at h
  · obtain ⟨q, hq, h⟩ := Option.bind_eq_some_iff.mp h
    rw [← Option.some.inj h]
    exact jkCall hE hq
  · obtain ⟨q, hq, h⟩ := Option.bind_eq_some_iff.mp h
    have A : JLk q.1 := by
      split at hq
      · exact jkIndex hE hq
      · rw [← Option.some.inj hq]
        exact JLk.nil
    split at h
    · obtain ⟨z, hz, h⟩ := Option.bind_eq_some_iff.mp h
      rw [← Option.some.inj h]
      exact A.app (jkChange hE hz)
    · rw [← Option.some.inj h]
      refine A.app ?_
      split
      · exact jk_ev
      · exact jk_rd
theorem jkOperand (hE : XEj E) (hO : XOj O) : XOj (gOperand E O) := by
  intro st e kn pb i r h
  unfold gOperand at h
  split at h
  · obtain ⟨q, hq, h⟩ := Option.bind_eq_some_iff.mp h
    rw [← Option.some.inj h]
    refine (hO _ _ _ _ _ _ hq).app (jk_ev ?_)
    unfold gUn
    split
    · decide
    · split <;> decide
  split at h
  · rw [← Option.some.inj h]
    exact jk_ev
  split at h
  · obtain ⟨q, hq, h⟩ := Option.bind_eq_some_iff.mp h
    obtain ⟨j, hj, h⟩ := Option.bind_eq_some_iff.mp h
    rw [← Option.some.inj h]
    exact jk_ev
  split at h
  · obtain ⟨q, hq, h⟩ := Option.bind_eq_some_iff.mp h
    obtain ⟨j, hj, h⟩ := Option.bind_eq_some_iff.mp h
    rw [← Option.some.inj h]
    have := hE _ _ _ _ _ _ hq
    exact this
  split at h
  · exact jkNamed hE h
  · cases h
theorem jkSign {k s : Int32} (ha : JLk a) (hb : JLk b) : JLk (gSign k s a b) := by
  unfold gSign
  split
  · have := ha.app (JLk.fw (y := 1) (t := 16) (by decide) (hb.app (jk_ev : JLk [evx 15 0 0])))
    simp only [List.append_assoc] at this ⊢
    exact this
  split
  · have := ha.app (JLk.fw (y := 0) (t := 18) (by decide) (hb.app (jk_ev : JLk [evx 15 0 0])))
    simp only [List.append_assoc] at this ⊢
    exact this
  · exact ((ha.app jk_ev).app hb).app jk_ev
theorem jkJ (hO : XOj O) : ∀ (f : Nat) (m : Int) (e : PE) (kn : List Int32) (pb : Int32) (a : List EV) (i : Int32) (r : List EV × Int32), gJ O f m e kn pb a i = some r → JLk a → JLk r.1
  | 0, _, _, _, _, _, _, _, h, _ => by cases h
  | f + 1, m, e, kn, pb, a, i, r, h, ha => by
    unfold gJ at h
    split at h
    · rw [← Option.some.inj h]
      exact ha
    · obtain ⟨q, hq, h⟩ := Option.bind_eq_some_iff.mp h
      obtain ⟨z, hz, h⟩ := Option.bind_eq_some_iff.mp h
      exact jkJ hO f _ _ _ _ _ _ _ h (jkSign ha (jkJ hO f _ _ _ _ _ _ _ hz (hO _ _ _ _ _ _ hq)))
theorem jkQuest {r : List EV × Int32} (hE : XEj E) (ha : JLk a) (h : gQuest E e kn pb a i = some r) : JLk r.1 := by
  unfold gQuest at h
  split at h
  · obtain ⟨q, hq, h⟩ := Option.bind_eq_some_iff.mp h
    obtain ⟨j, hj, h⟩ := Option.bind_eq_some_iff.mp h
    obtain ⟨z, hz, h⟩ := Option.bind_eq_some_iff.mp h
    rw [← Option.some.inj h]
    have := ha.app (JLk.q2 (hE _ _ _ _ _ _ hq) (hE _ _ _ _ _ _ hz))
    simp only [List.append_assoc] at this ⊢
    exact this
  · rw [← Option.some.inj h]
    exact ha
theorem jkExpr (hE : XEj E) (hO : XOj O) : XEj (gExpr E O) := by
  intro st e kn pb i r h
  obtain ⟨q, hq, h⟩ := Option.bind_eq_some_iff.mp h
  have A := hO _ _ _ _ _ _ hq
  split at h
  · rw [← Option.some.inj h]
    exact A
  · obtain ⟨z, hz, h⟩ := Option.bind_eq_some_iff.mp h
    exact jkQuest hE (jkJ hO _ _ _ _ _ _ _ _ hz A) h
theorem jkLev : ∀ n : Nat, XEj (geE n) ∧ XOj (geO n)
  | 0 => by
    have E0 : XEj evE0 := fun _ _ _ _ _ _ h => nomatch h
    have O0 : XOj evO0 := fun _ _ _ _ _ _ h => nomatch h
    exact ⟨jkExpr E0 (jkOperand E0 O0), jkOperand E0 O0⟩
  | n + 1 => by
    have T := jkLev n
    exact ⟨jkExpr T.1 (jkOperand T.1 T.2), jkOperand T.1 T.2⟩
theorem jkCond {r : List EV × Int32} (hE : XEj E) (h : gCond E e kn pb i = some r) : JLk r.1 := by
  obtain ⟨j, hj, h⟩ := Option.bind_eq_some_iff.mp h
  obtain ⟨q, hq, h⟩ := Option.bind_eq_some_iff.mp h
  obtain ⟨j2, hj2, h⟩ := Option.bind_eq_some_iff.mp h
  rw [← Option.some.inj h]
  have := hE _ _ _ _ _ _ hq
  exact this
theorem jkInner {r : List EV × List Int32 × Int32} (hS : XSj S) (h : gInner S e kn pb i = some r) : JLk r.1 := by
  obtain ⟨q, hq, h⟩ := Option.bind_eq_some_iff.mp h
  rw [← Option.some.inj h]
  have := hS _ _ _ _ _ hq
  exact this
theorem jkStats (hS : XSj S) : ∀ f : Nat, XSj (gStats S f)
  | 0 => fun _ _ _ _ _ h => nomatch h
  | f + 1 => by
    intro e kn pb i r h
    unfold gStats at h
    split at h
    · rw [← Option.some.inj h]
      exact JLk.nil
    · obtain ⟨q, hq, h⟩ := Option.bind_eq_some_iff.mp h
      obtain ⟨z, hz, h⟩ := Option.bind_eq_some_iff.mp h
      rw [← Option.some.inj h]
      exact (hS _ _ _ _ _ hq).app (jkStats hS f _ _ _ _ _ hz)
theorem jkOpt {k : Int} {r : Option (List EV) × Int32} (hE : XEj E) (h : gOpt E k e kn pb i = some r) : ∀ c, r.1 = some c → JLk c := by
  unfold gOpt at h
  split at h
  · rw [← Option.some.inj h]
    intro c hc
    cases hc
  · obtain ⟨q, hq, h⟩ := Option.bind_eq_some_iff.mp h
    rw [← Option.some.inj h]
    intro c hc
    rw [← Option.some.inj hc]
    exact hE _ _ _ _ _ _ hq
theorem jkDrop {o : Option (List EV)} (h : ∀ c, o = some c → JLk c) : JLk (dropE o) := by
  cases o with
  | none => exact JLk.nil
  | some c => exact (h c rfl).app jk_ev
theorem jkStat (hE : XEj E) (hS : XSj S) : XSj (gStat E S) := by
  intro e kn pb i r h
  unfold gStat at h
  split at h
  · obtain ⟨q, hq, h⟩ := Option.bind_eq_some_iff.mp h
    obtain ⟨j, hj, h⟩ := Option.bind_eq_some_iff.mp h
    rw [← Option.some.inj h]
    refine JLk.app ?_ ((jk_ev : JLk [evx 4 (gsl kn pb) 1]).app jk_ev)
    split at hq
    · exact hE _ _ _ _ _ _ hq
    · rw [← Option.some.inj hq]
      exact jk_ev
  split at h
  · obtain ⟨q, hq, h⟩ := Option.bind_eq_some_iff.mp h
    obtain ⟨z, hz, h⟩ := Option.bind_eq_some_iff.mp h
    have A := jkCond hE hq
    have B := jkInner hS hz
    split at h
    · obtain ⟨y, hy, h⟩ := Option.bind_eq_some_iff.mp h
      rw [← Option.some.inj h]
      have := A.app (JLk.q2 B (jkInner hS hy))
      simp only [List.append_assoc] at this ⊢
      exact this
    · rw [← Option.some.inj h]
      have := A.app (JLk.fw (y := 0) (t := 16) (by decide) B)
      simp only [List.append_assoc] at this ⊢
      exact this
  split at h
  · obtain ⟨q, hq, h⟩ := Option.bind_eq_some_iff.mp h
    obtain ⟨z, hz, h⟩ := Option.bind_eq_some_iff.mp h
    rw [← Option.some.inj h]
    exact JLk.wh (jkCond hE hq) (jkInner hS hz)
  split at h
  · obtain ⟨q, hq, h⟩ := Option.bind_eq_some_iff.mp h
    obtain ⟨j, hj, h⟩ := Option.bind_eq_some_iff.mp h
    obtain ⟨z, hz, h⟩ := Option.bind_eq_some_iff.mp h
    obtain ⟨j2, hj2, h⟩ := Option.bind_eq_some_iff.mp h
    rw [← Option.some.inj h]
    exact JLk.dd (jkInner hS hq) (jkCond hE hz)
  split at h
  · obtain ⟨j, hj, h⟩ := Option.bind_eq_some_iff.mp h
    obtain ⟨a, ha, h⟩ := Option.bind_eq_some_iff.mp h
    obtain ⟨j2, hj2, h⟩ := Option.bind_eq_some_iff.mp h
    obtain ⟨c, hc, h⟩ := Option.bind_eq_some_iff.mp h
    obtain ⟨j3, hj3, h⟩ := Option.bind_eq_some_iff.mp h
    obtain ⟨s, hs, h⟩ := Option.bind_eq_some_iff.mp h
    obtain ⟨j4, hj4, h⟩ := Option.bind_eq_some_iff.mp h
    obtain ⟨b, hb, h⟩ := Option.bind_eq_some_iff.mp h
    rw [← Option.some.inj h]
    have A := jkDrop (jkOpt hE ha)
    have D := jkDrop (jkOpt hE hs)
    have B := jkInner hS hb
    have hc' := jkOpt hE hc
    have G : JLk (gForL (dropE a.1) c.1 (dropE s.1) b.1) := by
      unfold gForL
      dsimp only
      cases h9 : c.1 with
      | none => exact JLk.fo (f := evx 0 0 0) A D B (Or.inl rfl)
      | some z => exact JLk.fo (f := fwE 16 0 ([fwE 19 0 (dropE s.1 ++ [evx 19 0 0])] ++ (dropE s.1 ++ [evx 19 0 0]) ++ b.1 ++ [evx 19 0 0])) A D B (Or.inr ⟨z, hc' z h9, rfl, ⟨rfl, rfl⟩, rfl, rfl⟩)
    exact G
  split at h
  · obtain ⟨j, hj, h⟩ := Option.bind_eq_some_iff.mp h
    rw [← Option.some.inj h]
    refine jk_ev ?_
    split <;> decide
  split at h
  · obtain ⟨q, hq, h⟩ := Option.bind_eq_some_iff.mp h
    obtain ⟨j, hj, h⟩ := Option.bind_eq_some_iff.mp h
    rw [← Option.some.inj h]
    refine JLk.app ?_ jk_ev
    split at hq
    · rw [← Option.some.inj hq]
      exact jk_ev
    · exact hE _ _ _ _ _ _ hq
  split at h
  · obtain ⟨q, hq, h⟩ := Option.bind_eq_some_iff.mp h
    obtain ⟨j, hj, h⟩ := Option.bind_eq_some_iff.mp h
    rw [← Option.some.inj h]
    exact (jkCond hE hq).app jk_ev
  split at h
  · obtain ⟨q, hq, h⟩ := Option.bind_eq_some_iff.mp h
    obtain ⟨j, hj, h⟩ := Option.bind_eq_some_iff.mp h
    rw [← Option.some.inj h]
    have := jkStats hS _ _ _ _ _ _ hq
    exact this
  split at h
  · rw [← Option.some.inj h]
    exact JLk.nil
  · obtain ⟨q, hq, h⟩ := Option.bind_eq_some_iff.mp h
    obtain ⟨j, hj, h⟩ := Option.bind_eq_some_iff.mp h
    rw [← Option.some.inj h]
    exact (hE _ _ _ _ _ _ hq).app jk_ev
theorem jkSLev (hE : XEj E) : ∀ n : Nat, XSj (geS E n)
  | 0 => jkStat hE (fun _ _ _ _ _ h => nomatch h)
  | n + 1 => jkStat hE (jkSLev hE n)
theorem jkFunc {r : List Int32 × List EV × Int32} (hS : XSj S) (h : gFunc S e i = some r) : JLs (fnT r.2.1) := by
  obtain ⟨q, hq, h⟩ := Option.bind_eq_some_iff.mp h
  obtain ⟨j, hj, h⟩ := Option.bind_eq_some_iff.mp h
  obtain ⟨b, hb, h⟩ := Option.bind_eq_some_iff.mp h
  obtain ⟨j2, hj2, h⟩ := Option.bind_eq_some_iff.mp h
  rw [← Option.some.inj h]
  exact JLk.fn (jkStats hS _ _ _ _ _ _ hb)
theorem EvSP_j : XSj EvSP := jkSLev (jkLev 50).1 50
/-- a whole text -/
theorem jkItems {K : TK} : ∀ (f : Nat) (x : IS) (d : List (List Int32 × List EV)), gItems EvSP SP K f x = some d → ∀ q ∈ d, JLs (fnT q.2)
  | 0, _, _, h => by cases h
  | f + 1, x, d, h => by
    unfold gItems at h
    split at h
    · rw [← Option.some.inj h]
      exact fun q hq => nomatch hq
    · split at h
      · cases h
      · rename_i x' _
        split at h
        · obtain ⟨q, hq, h⟩ := Option.bind_eq_some_iff.mp h
          obtain ⟨r, hr, h⟩ := Option.bind_eq_some_iff.mp h
          rw [← Option.some.inj h]
          intro p hp
          rcases List.mem_cons.mp hp with g | g
          · rw [g]
            exact jkFunc EvSP_j hq
          · exact jkItems f x' r hr p g
        · exact jkItems f x' d h
theorem jkText : ∀ (d : List (List Int32 × List EV)) (k : Nat), (∀ q ∈ d, JLs (fnT q.2)) → JLs (txW k d)
  | [], _, _ => JLs.nil
  | q :: l, k, h => ((JLs.app (JLs.o : JLs [evx 0 (nI k) (nI q.1.length)]) (h q List.mem_cons_self) : JLs (fnW (nI k) q))).app (jkText l (k + 1) (fun p hp => h p (List.mem_cons_of_mem _ hp)))
end ZZZD
