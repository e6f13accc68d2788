/-! events' types: expressions -/
/-- what a reading of expressions gives, below a bound of slots -/
def XTe (M : Int) (E : EvE) : Prop := ∀ st e kn pb i a j, E st e kn pb i = some (a, j) → 0 ≤ pb.toInt → (kn.length : Int) + pb.toInt ≤ M → TYe kn.length a (kn.length, pb.toNatClampNeg, 0) (kn.length, pb.toNatClampNeg, 1)
def XTo (M : Int) (O : EvO) : Prop := ∀ st e kn pb i b a j, O st e kn pb i = some (b, a, j) → 0 ≤ pb.toInt → (kn.length : Int) + pb.toInt ≤ M → TYe kn.length a (kn.length, pb.toNatClampNeg, 0) (kn.length, pb.toNatClampNeg, 1)
theorem fndr_lt {x : Int32} : ∀ l : List Int32, fndr x l < l.length ∧ (-1 : Int) ≤ fndr x l
  | [] => ⟨by show (-1 : Int) < 0; decide, by show (-1 : Int) ≤ -1; decide⟩
  | y :: l => by
    have := fndr_lt (x := x) l
    show (if y = x then (l.length : Int) else fndr x l) < ((l.length + 1 : Nat) : Int) ∧ (-1 : Int) ≤ (if y = x then (l.length : Int) else fndr x l)
    by_cases g : y = x
    · rw [if_pos g]; omega
    · rw [if_neg g]; omega
theorem fnd_lt {kn : List Int32} {x : Int32} : fnd kn x < kn.length := by
  have := (fndr_lt (x := x) kn.reverse).1
  rw [List.length_reverse] at this
  exact this
theorem nL {t9 : Int32} {r : Int32 × Int32 × Int × Int × Int} (h : ¬ (t9 = 16 ∨ t9 = 17 ∨ t9 = 18 ∨ t9 = 19) := by decide) : ¬ isL (t9, r) := h
section XGT
variable {M : Int} {E : EvE} {O : EvO} {e : PE} {kn : List Int32} {pb i j g : Int32} {a b l : List EV} {p : Nat} {sl : Int} {s : ST3}
theorem gsl_n (h0 : 0 ≤ pb.toInt) (h1 : (kn.length : Int) + pb.toInt ≤ 1000000) : 0 ≤ (gsl kn pb).toInt ∧ (gsl kn pb).toNatClampNeg = kn.length + pb.toNatClampNeg := by
  have k := nI_Z (n := kn.length) (by omega)
  have n := natI h0
  have e : (gsl kn pb).toInt = (kn.length : Int) + pb.toInt := by
    unfold gsl
    rw [← k]
    exact add_z rfl rfl (by omega) (by omega)
  exact ⟨by omega, natC (by omega)⟩
theorem ofI_n (h0 : 0 ≤ sl) (h1 : sl < 2147483648) : (Int32.ofInt sl).toInt = sl := Int32.toInt_ofInt_of_le (by omega) (by omega)
theorem tyRead (hs : s.2.2 ≠ 1) (hl : sl < kn.length) (hk : (kn.length : Int) ≤ 1000000) (h1 : s.1 = kn.length) : TYe kn.length [gRead sl g] s (s.1, s.2.1, 1) := by
  unfold gRead
  by_cases c : 0 ≤ sl
  · rw [if_pos c]
    have n := ofI_n c (by omega)
    have z := natI (a := Int32.ofInt sl) (by omega)
    exact TYe.one (show s.2.2 ≠ 1 ∧ 0 ≤ (Int32.ofInt sl).toInt ∧ (Int32.ofInt sl).toNatClampNeg < s.1 from ⟨hs, by omega, by omega⟩) le3.rf nL (by omega) (by show kn.length ≤ s.1; omega)
  · rw [if_neg c]
    exact TYe.one (show s.2.2 ≠ 1 from hs) le3.rf nL (by omega) (by show kn.length ≤ s.1; omega)
theorem tyPut (hs : s.2.2 = 1) (hl : sl < kn.length) (hk : (kn.length : Int) ≤ 1000000) (h1 : s.1 = kn.length) : TYe kn.length [gPut sl g] s s := by
  unfold gPut
  by_cases c : 0 ≤ sl
  · rw [if_pos c]
    have n := ofI_n c (by omega)
    have z := natI (a := Int32.ofInt sl) (by omega)
    have lt : (Int32.ofInt sl).toNatClampNeg < s.1 := by omega
    refine TYe.one (show s.2.2 = 1 ∧ 0 ≤ (Int32.ofInt sl).toInt ∧ _ from ⟨hs, by omega, Or.inr ⟨rfl, Or.inl lt⟩⟩) ?_ nL (by omega) (by omega)
    show le3 (if (Int32.ofInt sl).toNatClampNeg < s.1 then s else _) s
    rw [if_pos lt]
    exact le3.rf
  · rw [if_neg c]
    exact TYe.one (show s.2.2 = 1 from hs) le3.rf nL (by omega) (by omega)
/-- a number is put by -/
theorem tyBy (h0 : 0 ≤ pb.toInt) (h1 : (kn.length : Int) + pb.toInt ≤ 1000000) : TYe kn.length [evx 4 (gsl kn pb) 0] (kn.length, pb.toNatClampNeg, 1) (kn.length, pb.toNatClampNeg + 1, 0) := by
  have G := gsl_n h0 h1
  exact TYe.one (show (1 : Nat) = 1 ∧ 0 ≤ (gsl kn pb).toInt ∧ _ from ⟨rfl, G.1, Or.inl ⟨rfl, G.2⟩⟩) le3.rf nL (Nat.le_refl _) (Nat.le_refl _)
theorem tyBin {k : Int32} (h0 : 0 ≤ pb.toInt) (h1 : (kn.length : Int) + pb.toInt ≤ 1000000) : TYe kn.length [evx 20 k (gsl kn pb)] (kn.length, pb.toNatClampNeg + 1, 1) (kn.length, pb.toNatClampNeg, 1) := by
  have G := gsl_n h0 h1
  refine TYe.one (show (1 : Nat) = 1 ∧ 1 ≤ pb.toNatClampNeg + 1 ∧ 0 ≤ (gsl kn pb).toInt ∧ (gsl kn pb).toNatClampNeg + 1 = kn.length + (pb.toNatClampNeg + 1) from ⟨rfl, by omega, G.1, by omega⟩) ?_ nL (Nat.le_refl _) (Nat.le_refl _)
  exact le3.rf
theorem ty11 {t9 : Int32} (ht : t9 = 6 ∨ t9 = 7 ∨ t9 = 8 ∨ t9 = 12 ∨ t9 = 13 ∨ t9 = 14 ∨ t9 = 15) (hs : s.2.2 = 1) (h1 : s.1 = kn.length) {x9 y9 : Int32} : TYe kn.length [evx t9 x9 y9] s s := by
  rcases ht with rfl | rfl | rfl | rfl | rfl | rfl | rfl <;> exact TYe.one (show s.2.2 = 1 from hs) le3.rf nL (by omega) (by omega)
theorem pb_n {z : Int32} (z1 : z.toInt = 1) (h0 : 0 ≤ pb.toInt) (h1 : pb.toInt ≤ 1000000) : (pb + z).toInt = pb.toInt + 1 ∧ (pb + z).toNatClampNeg = pb.toNatClampNeg + 1 := by
  have e : (pb + z).toInt = pb.toInt + 1 := add_z rfl z1 (by omega) (by omega)
  have := natI h0
  exact ⟨e, natC (by omega)⟩
/-- the arguments -/
theorem tyArgs (hM : M ≤ 990000) (hE : XTe M E) : ∀ (f : Nat) (k : Int) (pb i : Int32) (n : Int) (l : List EV) (j : Int32), gArgs E f k e kn pb i = some (n, l, j) → 0 ≤ pb.toInt → (kn.length : Int) + pb.toInt + f ≤ M → k < n ∧ TYe kn.length l (kn.length, pb.toNatClampNeg, 0) (kn.length, pb.toNatClampNeg + (n - k).toNat, 0)
  | 0, _, _, _, _, _, _, h, _, _ => by cases h
  | f + 1, k, pb, i, n, l, j, h, h0, h1 => by
    have h1 : (kn.length : Int) + pb.toInt + ((f + 1 : Nat) : Int) ≤ M := h1
    have h : (E true e kn pb i).bind (fun q => if (e.1 q.2).toInt = 37 then (gArgs E f (k + 1) e kn (pb + 1) (q.2 + 1)).bind fun r => some (r.1, q.1 ++ [evx 4 (gsl kn pb) 0] ++ r.2.1, r.2.2) else some (k + 1, q.1 ++ [evx 4 (gsl kn pb) 0], q.2)) = some (n, l, j) := h
    cases hq : E true e kn pb i with
    | none => rw [hq] at h; cases h
    | some q =>
      obtain ⟨a, j1⟩ := q
      rw [hq, Option.bind_some] at h
      have T := (hE true e kn pb i a j1 hq h0 (by omega)).app (tyBy h0 (by omega))
      by_cases c : (e.1 j1).toInt = 37
      · have h : (if (e.1 j1).toInt = 37 then (gArgs E f (k + 1) e kn (pb + 1) (j1 + 1)).bind fun r => some (r.1, a ++ [evx 4 (gsl kn pb) 0] ++ r.2.1, r.2.2) else some (k + 1, a ++ [evx 4 (gsl kn pb) 0], j1)) = some (n, l, j) := h
        rw [if_pos c] at h
        cases hr : gArgs E f (k + 1) e kn (pb + 1) (j1 + 1) with
        | none => rw [hr] at h; cases h
        | some r =>
          obtain ⟨n2, l2, j2⟩ := r
          rw [hr, Option.bind_some] at h
          have e1 := Option.some.inj h
          have en : n2 = n := congrArg Prod.fst e1
          have el : a ++ [evx 4 (gsl kn pb) 0] ++ l2 = l := congrArg (fun x => x.2.1) e1
          have P := pb_n (pb := pb) (z := 1) (by decide) h0 (by omega)
          obtain ⟨R1, R2⟩ := tyArgs hM hE f (k + 1) (pb + 1) (j1 + 1) n2 l2 j2 hr (by omega) (by omega)
          rw [P.2] at R2
          refine ⟨by omega, ?_⟩
          rw [← el]
          have := T.app R2
          rw [show pb.toNatClampNeg + 1 + (n2 - (k + 1)).toNat = pb.toNatClampNeg + (n - k).toNat by omega] at this
          exact this
      · have h : (if (e.1 j1).toInt = 37 then (gArgs E f (k + 1) e kn (pb + 1) (j1 + 1)).bind fun r => some (r.1, a ++ [evx 4 (gsl kn pb) 0] ++ r.2.1, r.2.2) else some (k + 1, a ++ [evx 4 (gsl kn pb) 0], j1)) = some (n, l, j) := h
        rw [if_neg c] at h
        have e1 := Option.some.inj h
        have en : k + 1 = n := congrArg Prod.fst e1
        have el : a ++ [evx 4 (gsl kn pb) 0] = l := congrArg (fun x => x.2.1) e1
        refine ⟨by omega, ?_⟩
        rw [← el, show pb.toNatClampNeg + (n - k).toNat = pb.toNatClampNeg + 1 by omega]
        exact T
theorem tyCall (hM : M ≤ 990000) (hE : XTe M E) (h : gCall E e kn pb i = some (a, j)) (h0 : 0 ≤ pb.toInt) (h1 : (kn.length : Int) + pb.toInt + 1502 ≤ M) : TYe kn.length a (kn.length, pb.toNatClampNeg, 0) (kn.length, pb.toNatClampNeg, 1) := by
  unfold gCall at h
  have G := gsl_n (kn := kn) h0 (by omega)
  have fin : ∀ (n : Int) (l : List EV) (j1 : Int32), 0 ≤ n → TYe kn.length l (kn.length, pb.toNatClampNeg, 0) (kn.length, pb.toNatClampNeg + n.toNat, 0) → ((gTok e 31 j1).bind fun j => some (l ++ [(21, e.2.1 i, gsl kn pb, n, 0, 0)], j)) = some (a, j) → TYe kn.length a (kn.length, pb.toNatClampNeg, 0) (kn.length, pb.toNatClampNeg, 1) := by
    intro n l j1 n0 T h
    cases hq : gTok e 31 j1 with
    | none => rw [hq] at h; cases h
    | some j2 =>
      rw [hq, Option.bind_some] at h
      have el : l ++ [(21, e.2.1 i, gsl kn pb, n, 0, 0)] = a := congrArg Prod.fst (Option.some.inj h)
      rw [← el]
      refine T.app (TYe.one (show (0 : Nat) ≠ 1 ∧ 0 ≤ n ∧ n.toNat ≤ pb.toNatClampNeg + n.toNat ∧ 0 ≤ (gsl kn pb).toInt ∧ (gsl kn pb).toNatClampNeg + n.toNat = kn.length + (pb.toNatClampNeg + n.toNat) from ⟨by decide, n0, by omega, G.1, by omega⟩) ?_ nL (Nat.le_refl _) (Nat.le_refl _))
      show le3 (kn.length, pb.toNatClampNeg + n.toNat - n.toNat, 1) _
      rw [Nat.add_sub_cancel]
      exact le3.rf
  by_cases c : (e.1 (i + 2)).toInt = 31
  · rw [if_pos c, Option.bind_some] at h
    exact fin 0 [] (i + 2) (by decide) (TYe.nil (Nat.le_refl _)) h
  · rw [if_neg c] at h
    cases hq : gArgs E 1502 0 e kn pb (i + 2) with
    | none => rw [hq] at h; cases h
    | some r =>
      obtain ⟨n, l, j1⟩ := r
      rw [hq, Option.bind_some] at h
      obtain ⟨R1, R2⟩ := tyArgs hM hE 1502 0 pb (i + 2) n l j1 hq h0 (by omega)
      rw [show n - 0 = n by omega] at R2
      exact fin n l j1 (by omega) R2 h
end XGT
