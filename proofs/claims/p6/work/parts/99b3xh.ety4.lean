/-! events' types: names, operands, signs -/
section XHT
variable {M : Int} {E : EvE} {O : EvO} {e : PE} {kn : List Int32} {pb i j g : Int32} {a b l : List EV} {p : Nat} {sl : Int} {s : ST3} {row st bo : Bool}
theorem tyIndex (hE : XTe M E) (h : gIndex E g e kn pb i = some (a, j)) (h0 : 0 ≤ pb.toInt) (h1 : (kn.length : Int) + pb.toInt ≤ M) : TYe kn.length a (kn.length, pb.toNatClampNeg, 0) (kn.length, pb.toNatClampNeg, 1) := by
  unfold gIndex at h
  obtain ⟨q, hq, h⟩ := Option.bind_eq_some_iff.mp h
  obtain ⟨j2, -, h⟩ := Option.bind_eq_some_iff.mp h
  have el : q.1 ++ [evx 7 g 0] = a := congrArg Prod.fst (Option.some.inj h)
  rw [← el]
  exact (hE true e kn pb (i + 1) q.1 q.2 hq h0 h1).app (ty11 (Or.inr (Or.inl rfl)) rfl rfl)
theorem zero_n : (pb + 0) = pb := Int32.add_zero pb
set_option maxHeartbeats 800000 in
theorem tyChange (hM : M ≤ 990000) (hE : XTe M E) (hl : sl < kn.length) (h : gChange E row sl g e kn pb i = some (a, j)) (h0 : 0 ≤ pb.toInt) (h1 : (kn.length : Int) + pb.toInt + 2 ≤ M) : TYe kn.length a (kn.length, pb.toNatClampNeg, if row = true then 1 else 0) (kn.length, pb.toNatClampNeg, 1) := by
  have G := gsl_n (kn := kn) h0 (by omega)
  have P := pb_n (pb := pb) (z := 1) (by decide) h0 (by omega)
  have P2 := pb_n (pb := pb + 1) (z := 1) (by decide) (by omega) (by omega)
  have gs1 : gsl kn pb + 1 = gsl kn (pb + 1) := by unfold gsl; rw [Int32.add_assoc]
  have hold : TYe kn.length [evx 9 g (gsl kn pb)] (kn.length, pb.toNatClampNeg, 1) (kn.length, pb.toNatClampNeg + 1, 2) := TYe.one (show (1 : Nat) = 1 ∧ 0 ≤ (gsl kn pb).toInt ∧ (gsl kn pb).toNatClampNeg = kn.length + pb.toNatClampNeg from ⟨rfl, G.1, G.2⟩) le3.rf nL (Nat.le_refl _) (Nat.le_refl _)
  have lay : TYe kn.length [evx 11 (gsl kn pb) 0] (kn.length, pb.toNatClampNeg + 1, 1) (kn.length, pb.toNatClampNeg, 1) := TYe.one (show (1 : Nat) = 1 ∧ 1 ≤ pb.toNatClampNeg + 1 ∧ 0 ≤ (gsl kn pb).toInt ∧ (gsl kn pb).toNatClampNeg + 1 = kn.length + (pb.toNatClampNeg + 1) from ⟨rfl, by omega, G.1, by omega⟩) le3.rf nL (Nat.le_refl _) (Nat.le_refl _)
  have peek : TYe kn.length [evx 10 0 0] (kn.length, pb.toNatClampNeg + 1, 2) (kn.length, pb.toNatClampNeg + 1, 1) := TYe.one (show (2 : Nat) = 2 ∧ 1 ≤ pb.toNatClampNeg + 1 from ⟨rfl, by omega⟩) le3.rf nL (Nat.le_refl _) (Nat.le_refl _)
  have two : le3 (kn.length, pb.toNatClampNeg + 1, 2) (kn.length, pb.toNatClampNeg + 1, 0) := ⟨rfl, Or.inl rfl, Or.inr ⟨rfl, rfl⟩⟩
  unfold gChange at h
  cases row with
  | true =>
    rw [if_pos (rfl : (true : Bool) = true)] at h ⊢
    by_cases c : (e.1 i).toInt = 42
    · have h : (if (e.1 i).toInt = 42 then (E true e kn (pb + 1) (i + 1)).bind fun q => some ([evx 9 g (gsl kn pb)] ++ q.1 ++ [evx 11 (gsl kn pb) 0], q.2) else _) = some (a, j) := h
      rw [if_pos c] at h
      obtain ⟨q, hq, h⟩ := Option.bind_eq_some_iff.mp h
      have el : [evx 9 g (gsl kn pb)] ++ q.1 ++ [evx 11 (gsl kn pb) 0] = a := congrArg Prod.fst (Option.some.inj h)
      have T := hE true e kn (pb + 1) (i + 1) q.1 q.2 hq (by omega) (by omega)
      rw [P.2] at T
      rw [← el]
      exact (hold.app (T.w two le3.rf)).app lay
    · have h : (if (e.1 i).toInt = 42 then _ else (E true e kn (pb + 1 + 1) (i + 1)).bind fun q => some ([evx 9 g (gsl kn pb), evx 10 0 0] ++ [evx 4 (gsl kn pb + 1) 0] ++ q.1 ++ [evx 20 (e.1 i + 10) (gsl kn pb + 1), evx 11 (gsl kn pb) 0], q.2)) = some (a, j) := h
      rw [if_neg c] at h
      obtain ⟨q, hq, h⟩ := Option.bind_eq_some_iff.mp h
      have el : [evx 9 g (gsl kn pb), evx 10 0 0] ++ [evx 4 (gsl kn pb + 1) 0] ++ q.1 ++ [evx 20 (e.1 i + 10) (gsl kn pb + 1), evx 11 (gsl kn pb) 0] = a := congrArg Prod.fst (Option.some.inj h)
      have T := hE true e kn (pb + 1 + 1) (i + 1) q.1 q.2 hq (by omega) (by omega)
      rw [P2.2, P.2] at T
      have B := tyBy (kn := kn) (pb := pb + 1) (by omega) (by omega)
      have N := tyBin (kn := kn) (pb := pb + 1) (k := e.1 i + 10) (by omega) (by omega)
      rw [P.2] at B N
      rw [gs1] at el
      rw [← el]
      exact (((hold.app peek).app B).app T).app (N.app lay)
  | false =>
    rw [if_neg (Bool.false_ne_true)] at h ⊢
    by_cases c : (e.1 i).toInt = 42
    · have h : (if (e.1 i).toInt = 42 then (E true e kn (pb + 0) (i + 1)).bind fun q => some ([] ++ q.1 ++ [gPut sl g], q.2) else _) = some (a, j) := h
      rw [if_pos c, zero_n] at h
      obtain ⟨q, hq, h⟩ := Option.bind_eq_some_iff.mp h
      have el : [] ++ q.1 ++ [gPut sl g] = a := congrArg Prod.fst (Option.some.inj h)
      have T := hE true e kn pb (i + 1) q.1 q.2 hq h0 (by omega)
      rw [← el]
      exact T.app (tyPut rfl hl (by omega) rfl)
    · have h : (if (e.1 i).toInt = 42 then _ else (E true e kn (pb + 0 + 1) (i + 1)).bind fun q => some ([gRead sl g] ++ [evx 4 (gsl kn pb + 0) 0] ++ q.1 ++ [evx 20 (e.1 i + 10) (gsl kn pb + 0), gPut sl g], q.2)) = some (a, j) := h
      rw [if_neg c, zero_n, Int32.add_zero] at h
      obtain ⟨q, hq, h⟩ := Option.bind_eq_some_iff.mp h
      have el : [gRead sl g] ++ [evx 4 (gsl kn pb) 0] ++ q.1 ++ [evx 20 (e.1 i + 10) (gsl kn pb), gPut sl g] = a := congrArg Prod.fst (Option.some.inj h)
      have T := hE true e kn (pb + 1) (i + 1) q.1 q.2 hq (by omega) (by omega)
      rw [P.2] at T
      have B := tyBy (kn := kn) (pb := pb) h0 (by omega)
      have N := tyBin (kn := kn) (pb := pb) (k := e.1 i + 10) h0 (by omega)
      have R := tyRead (kn := kn) (g := g) (s := (kn.length, pb.toNatClampNeg, 0)) (sl := sl) (show (0 : Nat) ≠ 1 by decide) hl (by omega) rfl
      rw [← el]
      exact ((R.app B).app T).app (N.app (tyPut (s := (kn.length, pb.toNatClampNeg, 1)) rfl hl (by omega) rfl))
theorem tyNamed (hM : M ≤ 990000) (hE : XTe M E) (h : gNamed E st e kn pb i = some (bo, a, j)) (h0 : 0 ≤ pb.toInt) (h1 : (kn.length : Int) + pb.toInt + 1502 ≤ M) : TYe kn.length a (kn.length, pb.toNatClampNeg, 0) (kn.length, pb.toNatClampNeg, 1) := by
  have hl : fnd kn (e.2.1 i) < kn.length := fnd_lt
  unfold gNamed at h
  obtain ⟨sl, hsl⟩ : ∃ sl, sl = fnd kn (e.2.1 i) := ⟨_, rfl⟩
  obtain ⟨g, hg⟩ : ∃ g, g = nI (gix e (e.2.1 i)) := ⟨_, rfl⟩
  obtain ⟨row, hrow⟩ : ∃ row, row = decide (fnd kn (e.2.1 i) < 0 ∧ gfd e (e.2.1 i) = some 1) := ⟨_, rfl⟩
  have h : (if (e.1 (i + 1)).toInt = 30 then (gCall E e kn pb i).bind fun q => some (false, q) else (if row = true then gIndex E g e kn pb (i + 1) else some ([], i + 1)).bind fun q => if st = true ∧ (42 : Int) ≤ (e.1 q.2).toInt ∧ (e.1 q.2).toInt ≤ 52 then (gChange E row sl g e kn pb q.2).bind fun r => some (true, q.1 ++ r.1, r.2) else some (false, q.1 ++ [if row = true then evx 8 g 0 else gRead sl g], q.2)) = some (bo, a, j) := by rw [hsl, hg, hrow]; exact h
  rw [← hsl] at hl
  by_cases c : (e.1 (i + 1)).toInt = 30
  · rw [if_pos c] at h
    obtain ⟨q, hq, h⟩ := Option.bind_eq_some_iff.mp h
    have el : q = (a, j) := congrArg Prod.snd (Option.some.inj h)
    rw [el] at hq
    exact tyCall hM hE hq h0 h1
  · rw [if_neg c] at h
    obtain ⟨q, hq, h⟩ := Option.bind_eq_some_iff.mp h
    have T : TYe kn.length q.1 (kn.length, pb.toNatClampNeg, 0) (kn.length, pb.toNatClampNeg, if row = true then 1 else 0) := by
      cases row with
      | true =>
        rw [if_pos rfl] at hq ⊢
        exact tyIndex hE hq h0 (by omega)
      | false =>
        rw [if_neg Bool.false_ne_true] at hq ⊢
        have : ([], i + 1) = q := Option.some.inj hq
        rw [← this]
        exact TYe.nil (Nat.le_refl _)
    by_cases c2 : st = true ∧ (42 : Int) ≤ (e.1 q.2).toInt ∧ (e.1 q.2).toInt ≤ 52
    · rw [if_pos c2] at h
      obtain ⟨r, hr, h⟩ := Option.bind_eq_some_iff.mp h
      have el : q.1 ++ r.1 = a := congrArg (fun x => x.2.1) (Option.some.inj h)
      rw [← el]
      exact T.app (tyChange hM hE hl hr h0 (by omega))
    · rw [if_neg c2] at h
      have el : q.1 ++ [if row = true then evx 8 g 0 else gRead sl g] = a := congrArg (fun x => x.2.1) (Option.some.inj h)
      rw [← el]
      refine T.app ?_
      cases row with
      | true =>
        rw [if_pos rfl, if_pos rfl]
        exact ty11 (Or.inr (Or.inr (Or.inl rfl))) rfl rfl
      | false =>
        rw [if_neg Bool.false_ne_true, if_neg Bool.false_ne_true]
        exact tyRead (s := (kn.length, pb.toNatClampNeg, 0)) (show (0 : Nat) ≠ 1 by decide) hl (by omega) rfl
theorem tyOperand (hM : M ≤ 990000) (hE : XTe M E) (hO : XTo M O) : XTo (M - 1502) (gOperand E O) := by
  intro st e kn pb i bo a j h h0 h1
  have one : ∀ {t9 x9 : Int32}, (t9 = 2 ∨ t9 = 23) → TYe kn.length [evx t9 x9 0] (kn.length, pb.toNatClampNeg, 0) (kn.length, pb.toNatClampNeg, 1) := by
    intro t9 x9 ht
    rcases ht with rfl | rfl <;> exact TYe.one (show (0 : Nat) ≠ 1 by decide) le3.rf nL (Nat.le_refl _) (Nat.le_refl _)
  unfold gOperand at h
  by_cases c1 : (e.1 i).toInt = 54 ∨ (e.1 i).toInt = 40 ∨ (e.1 i).toInt = 41
  · rw [if_pos c1] at h
    obtain ⟨q, hq, h⟩ := Option.bind_eq_some_iff.mp h
    have el : q.2.1 ++ [evx (gUn (e.1 i)) 0 0] = a := congrArg (fun x => x.2.1) (Option.some.inj h)
    rw [← el]
    refine (hO false e kn pb (i + 1) q.1 q.2.1 q.2.2 hq h0 (by omega)).app (ty11 ?_ rfl rfl)
    unfold gUn
    by_cases g1 : (e.1 i).toInt = 54
    · rw [if_pos g1]; exact Or.inr (Or.inr (Or.inr (Or.inl rfl)))
    rw [if_neg g1]
    by_cases g2 : (e.1 i).toInt = 40
    · rw [if_pos g2]; exact Or.inr (Or.inr (Or.inr (Or.inr (Or.inl rfl))))
    rw [if_neg g2]
    exact Or.inr (Or.inr (Or.inr (Or.inr (Or.inr (Or.inl rfl)))))
  rw [if_neg c1] at h
  by_cases c2 : (e.1 i).toInt = 3 ∨ (e.1 i).toInt = 5
  · rw [if_pos c2] at h
    have el : [evx 2 (e.2.1 i) 0] = a := congrArg (fun x => x.2.1) (Option.some.inj h)
    rw [← el]
    exact one (Or.inl rfl)
  rw [if_neg c2] at h
  by_cases c3 : (e.1 i).toInt = 20
  · rw [if_pos c3] at h
    obtain ⟨j1, -, h⟩ := Option.bind_eq_some_iff.mp h
    obtain ⟨j2, -, h⟩ := Option.bind_eq_some_iff.mp h
    have el : [evx 23 0 0] = a := congrArg (fun x => x.2.1) (Option.some.inj h)
    rw [← el]
    exact one (Or.inr rfl)
  rw [if_neg c3] at h
  by_cases c4 : (e.1 i).toInt = 30
  · rw [if_pos c4] at h
    obtain ⟨q, hq, h⟩ := Option.bind_eq_some_iff.mp h
    obtain ⟨j1, -, h⟩ := Option.bind_eq_some_iff.mp h
    have el : q.1 = a := congrArg (fun x => x.2.1) (Option.some.inj h)
    rw [← el]
    exact hE true e kn pb (i + 1) q.1 q.2 hq h0 (by omega)
  rw [if_neg c4] at h
  by_cases c5 : (e.1 i).toInt = 2
  · rw [if_pos c5] at h
    exact tyNamed hM hE h h0 (by omega)
  · rw [if_neg c5] at h
    cases h
end XHT
