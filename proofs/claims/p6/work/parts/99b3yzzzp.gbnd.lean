/-! the events' globals are there -/
def P7q (Z : Nat) (q : EV) : Prop := q.1 ≠ 0 ∧ ((q.1 = 7 ∨ q.1 = 8 ∨ q.1 = 9) → ∃ n, n < Z ∧ q.2.1 = nI n) ∧ ((q.1 = 5 ∨ q.1 = 6) → ∃ n, n ≤ Z ∧ q.2.1 = nI n)
def P7 (Z : Nat) (a : List EV) : Prop := ∀ q ∈ a, P7q Z q
def XE7 (E : EvE) : Prop := ∀ (st : Bool) (e : PE) (kn : List Int32) (pb i : Int32) (q : List EV × Int32), E st e kn pb i = some q → P7 e.2.2.2.length q.1
def XO7 (O : EvO) : Prop := ∀ (st : Bool) (e : PE) (kn : List Int32) (pb i : Int32) (q : Bool × List EV × Int32), O st e kn pb i = some q → P7 e.2.2.2.length q.2.1
def XS7 (S : EvS) : Prop := ∀ (e : PE) (kn : List Int32) (pb i : Int32) (q : List EV × List Int32 × Int32), S e kn pb i = some q → P7 e.2.2.2.length q.1
section ZZP
variable {Z : Nat} {a b c : List EV} {q : EV} {e : PE} {x y g : Int32} {n : Nat} {E : EvE} {O : EvO} {S : EvS} {st : Bool} {kn : List Int32} {pb i : Int32}
theorem P7.nil : P7 Z [] := fun q h => nomatch h
theorem P7.app (h : P7 Z a) (k : P7 Z b) : P7 Z (a ++ b) := fun q hq => (List.mem_append.mp hq).elim (h q) (k q)
theorem P7.one (h : P7q Z q) : P7 Z [q] := fun p hp => by
  rw [List.mem_singleton.mp hp]
  exact h
theorem P7.o {t : Int32} {r : Int32 × Int32 × Int × Int × Int} (h : ¬ (t = 0 ∨ t = 5 ∨ t = 6 ∨ t = 7 ∨ t = 8 ∨ t = 9) := by decide) : P7 Z [(t, r)] := P7.one ⟨fun c => h (Or.inl c), fun c => absurd (Or.inr (Or.inr (Or.inr c))) h, fun c => absurd (Or.inr (c.elim Or.inl (fun c => Or.inr (Or.inl c)))) h⟩
theorem P7.gl {t : Int32} (hn : n < Z) (hx : x = nI n) (h0 : t ≠ 0 := by decide) : P7 Z [evx t x y] := P7.one ⟨h0, fun _ => ⟨n, hn, hx⟩, fun _ => ⟨n, by omega, hx⟩⟩
theorem P7.l (h : P7 Z (a ++ b)) : P7 Z a := fun q hq => h q (List.mem_append.mpr (Or.inl hq))
theorem p7_rsv : ∀ (a : List EV) (B C : D3), P7 Z a → P7 Z (rsv B C a)
  | [], _, _, h => h
  | q :: l, B, C, h => by
    have T := p7_rsv l (d3s B q) (d3s C q) (fun p hp => h p (List.mem_cons_of_mem _ hp))
    have H : P7 Z [if q.1 = 30 then (19, 0, 0, B.1, B.2.1, B.2.2) else if q.1 = 31 then (19, 0, 0, C.1, C.2.1, C.2.2) else q] := by
      split
      · exact P7.o
      · split
        · exact P7.o
        · exact P7.one (h q List.mem_cons_self)
    exact H.app T
theorem p7_rsr : ∀ (a : List EV) (R : D3), P7 Z a → P7 Z (rsr R a)
  | [], _, h => h
  | q :: l, R, h => by
    have T := p7_rsr l (d3s R q) (fun p hp => h p (List.mem_cons_of_mem _ hp))
    have H : P7 Z [if q.1 = 32 then (33, 0, 0, R.1, R.2.1, R.2.2) else q] := by
      split
      · exact P7.o
      · exact P7.one (h q List.mem_cons_self)
    exact H.app T
theorem gix_lt {k : Int32} (h : gfd e x = some k) : gix e x < e.2.2.2.length := by
  unfold gfd at h
  unfold gix
  rw [List.findIdx_lt_length]
  cases hf : e.2.2.2.find? (fun g => g.1 == x) with
  | none => rw [hf] at h; cases h
  | some z =>
    have := List.find?_some hf
    exact ⟨z, List.mem_of_find?_eq_some hf, this⟩
theorem gix_le7 : gix e x ≤ e.2.2.2.length := by
  unfold gix
  exact List.findIdx_le_length
theorem p7_rd {sn : Int} (h : ∃ n, n ≤ Z ∧ g = nI n) : P7 Z [gRead sn g] := by
  unfold gRead
  split
  · exact P7.o
  · exact P7.one ⟨show (5 : Int32) ≠ 0 by decide, fun c => absurd c (show ¬ ((5 : Int32) = 7 ∨ (5 : Int32) = 8 ∨ (5 : Int32) = 9) by decide), fun _ => h⟩
theorem p7_pt {sn : Int} (h : ∃ n, n ≤ Z ∧ g = nI n) : P7 Z [gPut sn g] := by
  unfold gPut
  split
  · exact P7.o
  · exact P7.one ⟨show (6 : Int32) ≠ 0 by decide, fun c => absurd c (show ¬ ((6 : Int32) = 7 ∨ (6 : Int32) = 8 ∨ (6 : Int32) = 9) by decide), fun _ => h⟩
theorem p7_fw {t : Int32} (h : ¬ (t = 0 ∨ t = 5 ∨ t = 6 ∨ t = 7 ∨ t = 8 ∨ t = 9) := by decide) : P7 Z [fwE t y a] := P7.o h
theorem p7_bw {t : Int32} (h : ¬ (t = 0 ∨ t = 5 ∨ t = 6 ∨ t = 7 ∨ t = 8 ∨ t = 9) := by decide) : P7 Z [bwE t y a] := P7.o h
theorem p7_ev {t : Int32} (h : ¬ (t = 0 ∨ t = 5 ∨ t = 6 ∨ t = 7 ∨ t = 8 ∨ t = 9) := by decide) : P7 Z [evx t x y] := P7.o h
theorem p7Index {r : List EV × Int32} (hE : XE7 E) (hg : ∃ n, n < e.2.2.2.length ∧ g = nI n) (h : gIndex E g e kn pb i = some r) : P7 e.2.2.2.length r.1 := by
  obtain ⟨q, hq, h⟩ := Option.bind_eq_some_iff.mp h
  obtain ⟨j, hj, h⟩ := Option.bind_eq_some_iff.mp h
  rw [← Option.some.inj h]
  obtain ⟨n, n1, n2⟩ := hg
  exact (hE _ _ _ _ _ _ hq).app (P7.gl n1 n2)
theorem p7Change {row : Bool} {sl : Int} {r : List EV × Int32} (hE : XE7 E) (hg : row = true → ∃ n, n < e.2.2.2.length ∧ g = nI n) (hl : ∃ n, n ≤ e.2.2.2.length ∧ g = nI n) (h : gChange E row sl g e kn pb i = some r) : P7 e.2.2.2.length r.1 := by
  have R1 : P7 e.2.2.2.length [if row = true then evx 11 (gsl kn pb) 0 else gPut sl g] := by
    split
    · exact p7_ev
    · exact p7_pt hl
  unfold gChange at h
  dsimp only at h
  by_cases c : (e.1 i).toInt = 42
  · rw [if_pos c] at h
    obtain ⟨q, hq, h⟩ := Option.bind_eq_some_iff.mp h
    rw [← Option.some.inj h]
    refine (P7.app ?_ (hE _ _ _ _ _ _ hq)).app R1
    split
    · rename_i c
      obtain ⟨n, n1, n2⟩ := hg c
      exact P7.gl n1 n2
    · exact P7.nil
  · rw [if_neg c] at h
    obtain ⟨q, hq, h⟩ := Option.bind_eq_some_iff.mp h
    rw [← Option.some.inj h]
    refine ((P7.app ?_ p7_ev).app (hE _ _ _ _ _ _ hq)).app ((p7_ev : P7 _ [evx 20 _ _]).app R1)
    split
    · rename_i c
      obtain ⟨n, n1, n2⟩ := hg c
      exact (P7.gl n1 n2).app p7_ev
    · exact p7_rd hl
theorem p7Args (hE : XE7 E) : ∀ (f : Nat) (k : Int) (e : PE) (kn : List Int32) (pb i : Int32) (r : Int × List EV × Int32), gArgs E f k e kn pb i = some r → P7 e.2.2.2.length r.2.1
  | 0, _, _, _, _, _, _, h => by cases h
  | f + 1, k, e, kn, pb, i, r, h => by
    obtain ⟨q, hq, h⟩ := Option.bind_eq_some_iff.mp h
    have A := (hE _ _ _ _ _ _ hq).app (p7_ev : P7 _ [evx 4 (gsl kn pb) 0])
    split at h
    · obtain ⟨z, hz, h⟩ := Option.bind_eq_some_iff.mp h
      rw [← Option.some.inj h]
      exact A.app (p7Args hE f _ _ _ _ _ _ hz)
    · rw [← Option.some.inj h]
      exact A
theorem p7Call {r : List EV × Int32} (hE : XE7 E) (h : gCall E e kn pb i = some r) : P7 e.2.2.2.length r.1 := by
  obtain ⟨q, hq, h⟩ := Option.bind_eq_some_iff.mp h
  obtain ⟨j, hj, h⟩ := Option.bind_eq_some_iff.mp h
  rw [← Option.some.inj h]
  refine P7.app ?_ P7.o
  split at hq
  · rw [← Option.some.inj hq]
    exact P7.nil
  · exact p7Args hE _ _ _ _ _ _ _ hq
theorem p7Named {r : Bool × List EV × Int32} (hE : XE7 E) (h : gNamed E st e kn pb i = some r) : P7 e.2.2.2.length r.2.1 := by
  unfold gNamed at h
  have hg : decide (fnd kn (e.2.1 i) < 0 ∧ gfd e (e.2.1 i) = some 1) = true → ∃ n, n < e.2.2.2.length ∧ nI (gix e (e.2.1 i)) = nI n := fun c => ⟨_, gix_lt (of_decide_eq_true c).2, rfl⟩
  split at h
  · obtain ⟨q, hq, h⟩ := Option.bind_eq_some_iff.mp h
    rw [← Option.some.inj h]
    exact p7Call hE hq
  · obtain ⟨q, hq, h⟩ := Option.bind_eq_some_iff.mp h
    have A : P7 e.2.2.2.length q.1 := by
      split at hq
      · rename_i c
        exact p7Index hE (hg c) hq
      · rw [← Option.some.inj hq]
        exact P7.nil
    split at h
    · obtain ⟨z, hz, h⟩ := Option.bind_eq_some_iff.mp h
      rw [← Option.some.inj h]
      exact A.app (p7Change hE hg ⟨_, gix_le7, rfl⟩ hz)
    · rw [← Option.some.inj h]
      refine A.app ?_
      split
      · rename_i c
        obtain ⟨n, n1, n2⟩ := hg c
        exact P7.gl n1 n2
      · exact p7_rd ⟨_, gix_le7, rfl⟩
theorem p7Operand (hE : XE7 E) (hO : XO7 O) : XO7 (gOperand E O) := by
  intro st e kn pb i r h
  unfold gOperand at h
  split at h
  · obtain ⟨q, hq, h⟩ := Option.bind_eq_some_iff.mp h
    rw [← Option.some.inj h]
    refine (hO _ _ _ _ _ _ hq).app (p7_ev ?_)
    unfold gUn
    split
    · decide
    · split <;> decide
  split at h
  · rw [← Option.some.inj h]
    exact p7_ev
  split at h
  · obtain ⟨q, hq, h⟩ := Option.bind_eq_some_iff.mp h
    obtain ⟨j, hj, h⟩ := Option.bind_eq_some_iff.mp h
    rw [← Option.some.inj h]
    exact p7_ev
  split at h
  · obtain ⟨q, hq, h⟩ := Option.bind_eq_some_iff.mp h
    obtain ⟨j, hj, h⟩ := Option.bind_eq_some_iff.mp h
    rw [← Option.some.inj h]
    have := hE _ _ _ _ _ _ hq
    exact this
  split at h
  · exact p7Named hE h
  · cases h
theorem p7Sign {k s : Int32} (ha : P7 Z a) (hb : P7 Z b) : P7 Z (gSign k s a b) := by
  unfold gSign
  split
  · exact ((ha.app p7_fw).app hb).app p7_ev
  split
  · exact ((ha.app p7_fw).app hb).app p7_ev
  · exact ((ha.app p7_ev).app hb).app p7_ev
theorem p7J (hO : XO7 O) : ∀ (f : Nat) (m : Int) (e : PE) (kn : List Int32) (pb : Int32) (a : List EV) (i : Int32) (r : List EV × Int32), gJ O f m e kn pb a i = some r → P7 e.2.2.2.length a → P7 e.2.2.2.length r.1
  | 0, _, _, _, _, _, _, _, h, _ => by cases h
  | f + 1, m, e, kn, pb, a, i, r, h, ha => by
    unfold gJ at h
    split at h
    · rw [← Option.some.inj h]
      exact ha
    · obtain ⟨q, hq, h⟩ := Option.bind_eq_some_iff.mp h
      obtain ⟨z, hz, h⟩ := Option.bind_eq_some_iff.mp h
      exact p7J hO f _ _ _ _ _ _ _ h (p7Sign ha (p7J hO f _ _ _ _ _ _ _ hz (hO _ _ _ _ _ _ hq)))
theorem p7Quest {r : List EV × Int32} (hE : XE7 E) (ha : P7 e.2.2.2.length a) (h : gQuest E e kn pb a i = some r) : P7 e.2.2.2.length r.1 := by
  unfold gQuest at h
  split at h
  · obtain ⟨q, hq, h⟩ := Option.bind_eq_some_iff.mp h
    obtain ⟨j, hj, h⟩ := Option.bind_eq_some_iff.mp h
    obtain ⟨z, hz, h⟩ := Option.bind_eq_some_iff.mp h
    rw [← Option.some.inj h]
    exact (((ha.app p7_fw).app (hE _ _ _ _ _ _ hq)).app p7_fw).app (hE _ _ _ _ _ _ hz)
  · rw [← Option.some.inj h]
    exact ha
theorem p7Expr (hE : XE7 E) (hO : XO7 O) : XE7 (gExpr E O) := by
  intro st e kn pb i r h
  obtain ⟨q, hq, h⟩ := Option.bind_eq_some_iff.mp h
  have A := hO _ _ _ _ _ _ hq
  split at h
  · rw [← Option.some.inj h]
    exact A
  · obtain ⟨z, hz, h⟩ := Option.bind_eq_some_iff.mp h
    exact p7Quest hE (p7J hO _ _ _ _ _ _ _ _ hz A) h
theorem p7Lev : ∀ n : Nat, XE7 (geE n) ∧ XO7 (geO n)
  | 0 => by
    have E0 : XE7 evE0 := fun _ _ _ _ _ _ h => nomatch h
    have O0 : XO7 evO0 := fun _ _ _ _ _ _ h => nomatch h
    exact ⟨p7Expr E0 (p7Operand E0 O0), p7Operand E0 O0⟩
  | n + 1 => by
    have T := p7Lev n
    exact ⟨p7Expr T.1 (p7Operand T.1 T.2), p7Operand T.1 T.2⟩
theorem p7Cond {r : List EV × Int32} (hE : XE7 E) (h : gCond E e kn pb i = some r) : P7 e.2.2.2.length r.1 := by
  obtain ⟨j, hj, h⟩ := Option.bind_eq_some_iff.mp h
  obtain ⟨q, hq, h⟩ := Option.bind_eq_some_iff.mp h
  obtain ⟨j2, hj2, h⟩ := Option.bind_eq_some_iff.mp h
  rw [← Option.some.inj h]
  have := hE _ _ _ _ _ _ hq
  exact this
theorem p7Inner {r : List EV × List Int32 × Int32} (hS : XS7 S) (h : gInner S e kn pb i = some r) : P7 e.2.2.2.length r.1 := by
  obtain ⟨q, hq, h⟩ := Option.bind_eq_some_iff.mp h
  rw [← Option.some.inj h]
  have := hS _ _ _ _ _ hq
  exact this
theorem p7Stats (hS : XS7 S) : ∀ f : Nat, XS7 (gStats S f)
  | 0 => fun _ _ _ _ _ h => nomatch h
  | f + 1 => by
    intro e kn pb i r h
    unfold gStats at h
    split at h
    · rw [← Option.some.inj h]
      exact P7.nil
    · obtain ⟨q, hq, h⟩ := Option.bind_eq_some_iff.mp h
      obtain ⟨z, hz, h⟩ := Option.bind_eq_some_iff.mp h
      rw [← Option.some.inj h]
      exact (hS _ _ _ _ _ hq).app (p7Stats hS f _ _ _ _ _ hz)
theorem p7Opt {k : Int} {r : Option (List EV) × Int32} (hE : XE7 E) (h : gOpt E k e kn pb i = some r) : ∀ c, r.1 = some c → P7 e.2.2.2.length c := by
  unfold gOpt at h
  split at h
  · rw [← Option.some.inj h]
    intro c hc
    cases hc
  · obtain ⟨q, hq, h⟩ := Option.bind_eq_some_iff.mp h
    rw [← Option.some.inj h]
    intro c hc
    rw [← Option.some.inj hc]
    exact hE _ _ _ _ _ _ hq
theorem p7Drop {o : Option (List EV)} (h : ∀ c, o = some c → P7 Z c) : P7 Z (dropE o) := by
  cases o with
  | none => exact P7.nil
  | some c => exact (h c rfl).app p7_ev
theorem p7Stat (hE : XE7 E) (hS : XS7 S) : XS7 (gStat E S) := by
  intro e kn pb i r h
  unfold gStat at h
  split at h
  · obtain ⟨q, hq, h⟩ := Option.bind_eq_some_iff.mp h
    obtain ⟨j, hj, h⟩ := Option.bind_eq_some_iff.mp h
    rw [← Option.some.inj h]
    refine P7.app ?_ ((p7_ev : P7 _ [evx 4 (gsl kn pb) 1]).app p7_ev)
    split at hq
    · exact hE _ _ _ _ _ _ hq
    · rw [← Option.some.inj hq]
      exact p7_ev
  split at h
  · obtain ⟨q, hq, h⟩ := Option.bind_eq_some_iff.mp h
    obtain ⟨z, hz, h⟩ := Option.bind_eq_some_iff.mp h
    have A := p7Cond hE hq
    have B := p7Inner hS hz
    split at h
    · obtain ⟨y, hy, h⟩ := Option.bind_eq_some_iff.mp h
      rw [← Option.some.inj h]
      exact (((A.app p7_fw).app B).app p7_fw).app (p7Inner hS hy)
    · rw [← Option.some.inj h]
      exact (A.app p7_fw).app B
  split at h
  · obtain ⟨q, hq, h⟩ := Option.bind_eq_some_iff.mp h
    obtain ⟨z, hz, h⟩ := Option.bind_eq_some_iff.mp h
    rw [← Option.some.inj h]
    exact ((((p7_ev : P7 _ [evx 24 0 0]).app (p7Cond hE hq)).app p7_fw).app (p7_rsv _ _ _ (p7Inner hS hz))).app p7_bw
  split at h
  · obtain ⟨q, hq, h⟩ := Option.bind_eq_some_iff.mp h
    obtain ⟨j, hj, h⟩ := Option.bind_eq_some_iff.mp h
    obtain ⟨z, hz, h⟩ := Option.bind_eq_some_iff.mp h
    obtain ⟨j2, hj2, h⟩ := Option.bind_eq_some_iff.mp h
    rw [← Option.some.inj h]
    exact (((p7_ev : P7 _ [evx 24 0 0]).app (p7_rsv _ _ _ (p7Inner hS hq))).app (p7Cond hE hz)).app p7_bw
  split at h
  · obtain ⟨j, hj, h⟩ := Option.bind_eq_some_iff.mp h
    obtain ⟨a, ha, h⟩ := Option.bind_eq_some_iff.mp h
    obtain ⟨j2, hj2, h⟩ := Option.bind_eq_some_iff.mp h
    obtain ⟨c, hc, h⟩ := Option.bind_eq_some_iff.mp h
    obtain ⟨j3, hj3, h⟩ := Option.bind_eq_some_iff.mp h
    obtain ⟨s, hs, h⟩ := Option.bind_eq_some_iff.mp h
    obtain ⟨j4, hj4, h⟩ := Option.bind_eq_some_iff.mp h
    obtain ⟨b, hb, h⟩ := Option.bind_eq_some_iff.mp h
    rw [← Option.some.inj h]
    have A := p7Drop (p7Opt hE ha)
    have D := p7Drop (p7Opt hE hs)
    have B := p7Inner hS hb
    have C : P7 e.2.2.2.length (match c.1 with | none => [] | some c => c ++ [fwE 16 0 ([fwE 19 0 (dropE s.1 ++ [evx 19 0 0])] ++ (dropE s.1 ++ [evx 19 0 0]) ++ b.1 ++ [evx 19 0 0])]) := by
      have hc' := p7Opt hE hc
      cases h9 : c.1 with
      | none => exact P7.nil
      | some z => exact (hc' z h9).app p7_fw
    exact ((((A.app (((p7_ev : P7 _ [evx 24 0 0]).app C).app p7_fw)).app D).app p7_bw).app (p7_rsv _ _ _ B)).app p7_bw
  split at h
  · obtain ⟨j, hj, h⟩ := Option.bind_eq_some_iff.mp h
    rw [← Option.some.inj h]
    refine p7_ev ?_
    split <;> decide
  split at h
  · obtain ⟨q, hq, h⟩ := Option.bind_eq_some_iff.mp h
    obtain ⟨j, hj, h⟩ := Option.bind_eq_some_iff.mp h
    rw [← Option.some.inj h]
    refine P7.app ?_ p7_ev
    split at hq
    · rw [← Option.some.inj hq]
      exact p7_ev
    · exact hE _ _ _ _ _ _ hq
  split at h
  · obtain ⟨q, hq, h⟩ := Option.bind_eq_some_iff.mp h
    obtain ⟨j, hj, h⟩ := Option.bind_eq_some_iff.mp h
    rw [← Option.some.inj h]
    exact (p7Cond hE hq).app p7_ev
  split at h
  · obtain ⟨q, hq, h⟩ := Option.bind_eq_some_iff.mp h
    obtain ⟨j, hj, h⟩ := Option.bind_eq_some_iff.mp h
    rw [← Option.some.inj h]
    have := p7Stats hS _ _ _ _ _ _ hq
    exact this
  split at h
  · rw [← Option.some.inj h]
    exact P7.nil
  · obtain ⟨q, hq, h⟩ := Option.bind_eq_some_iff.mp h
    obtain ⟨j, hj, h⟩ := Option.bind_eq_some_iff.mp h
    rw [← Option.some.inj h]
    exact (hE _ _ _ _ _ _ hq).app p7_ev
theorem p7SLev (hE : XE7 E) : ∀ n : Nat, XS7 (geS E n)
  | 0 => p7Stat hE (fun _ _ _ _ _ h => nomatch h)
  | n + 1 => p7Stat hE (p7SLev hE n)
theorem p7Func {r : List Int32 × List EV × Int32} (hS : XS7 S) (h : gFunc S e i = some r) : P7 e.2.2.2.length (fnT r.2.1) := by
  obtain ⟨q, hq, h⟩ := Option.bind_eq_some_iff.mp h
  obtain ⟨j, hj, h⟩ := Option.bind_eq_some_iff.mp h
  obtain ⟨b, hb, h⟩ := Option.bind_eq_some_iff.mp h
  obtain ⟨j2, hj2, h⟩ := Option.bind_eq_some_iff.mp h
  rw [← Option.some.inj h]
  exact ((p7_rsr _ _ (p7Stats hS _ _ _ _ _ _ hb)).app p7_ev).app p7_ev
theorem EvSP_7 : XS7 EvSP := p7SLev (p7Lev 50).1 50
/-- a whole text -/
theorem ne0Items {K : TK} : ∀ (f : Nat) (x : IS) (d : List (List Int32 × List EV)), gItems EvSP SP K f x = some d → ∀ q ∈ d, ∀ e ∈ fnT q.2, e.1 ≠ 0
  | 0, _, _, h => by cases h
  | f + 1, x, d, h => by
    unfold gItems at h
    split at h
    · rw [← Option.some.inj h]
      exact fun q hq => nomatch hq
    · split at h
      · cases h
      · rename_i x' _
        split at h
        · obtain ⟨q, hq, h⟩ := Option.bind_eq_some_iff.mp h
          obtain ⟨r, hr, h⟩ := Option.bind_eq_some_iff.mp h
          rw [← Option.some.inj h]
          intro p hp
          rcases List.mem_cons.mp hp with g | g
          · rw [g]
            exact fun e he => (p7Func EvSP_7 hq e he).1
          · exact ne0Items f x' r hr p g
        · exact ne0Items f x' d h
end ZZP
