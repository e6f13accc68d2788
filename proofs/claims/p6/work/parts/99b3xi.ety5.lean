/-! events' types: signs, choices, every level -/
section XIT
variable {M : Int} {E : EvE} {O : EvO} {e : PE} {kn : List Int32} {pb i j k : Int32} {a b l : List EV}
theorem tySign (h0 : 0 ≤ pb.toInt) (h1 : (kn.length : Int) + pb.toInt ≤ 990000) (A : TYe kn.length a (kn.length, pb.toNatClampNeg, 0) (kn.length, pb.toNatClampNeg, 1)) (B : TYe kn.length b (kn.length, (gpb k pb).toNatClampNeg, 0) (kn.length, (gpb k pb).toNatClampNeg, 1)) : TYe kn.length (gSign k (gsl kn pb) a b) (kn.length, pb.toNatClampNeg, 0) (kn.length, pb.toNatClampNeg, 1) := by
  unfold gSign
  have tr : TYe kn.length [evx 15 0 0] (kn.length, pb.toNatClampNeg, 1) (kn.length, pb.toNatClampNeg, 1) := ty11 (Or.inr (Or.inr (Or.inr (Or.inr (Or.inr (Or.inr rfl)))))) rfl rfl
  by_cases c1 : k.toInt = 69
  · rw [if_pos c1]
    have e : gpb k pb = pb := if_pos (Or.inl c1)
    rw [e] at B
    rw [List.append_assoc, List.append_assoc]
    refine A.app ?_
    rw [← List.append_assoc] at *
    exact TYe.fw (s := (kn.length, pb.toNatClampNeg, 1)) (q := fwE 16 1 (b ++ [evx 15 0 0])) (B.app tr) (Or.inl rfl) rfl rfl rfl le3.rf (Nat.le_refl _) (Nat.le_refl _)
  rw [if_neg c1]
  by_cases c2 : k.toInt = 70
  · rw [if_pos c2]
    have e : gpb k pb = pb := if_pos (Or.inr c2)
    rw [e] at B
    rw [List.append_assoc, List.append_assoc]
    refine A.app ?_
    exact TYe.fw (s := (kn.length, pb.toNatClampNeg, 1)) (q := fwE 18 0 (b ++ [evx 15 0 0])) (B.app tr) (Or.inr rfl) rfl rfl rfl le3.rf (Nat.le_refl _) (Nat.le_refl _)
  rw [if_neg c2]
  have e : gpb k pb = pb + 1 := if_neg (fun q => q.elim c1 c2)
  have P := pb_n (pb := pb) (z := 1) (by decide) h0 (by omega)
  rw [e, P.2] at B
  exact ((A.app (tyBy h0 (by omega))).app B).app (tyBin h0 (by omega))
theorem gpb_n (h0 : 0 ≤ pb.toInt) (h1 : pb.toInt ≤ 1000000) : 0 ≤ (gpb k pb).toInt ∧ (gpb k pb).toInt ≤ pb.toInt + 1 := by
  unfold gpb
  by_cases c : k.toInt = 69 ∨ k.toInt = 70
  · rw [if_pos c]; omega
  · rw [if_neg c]
    have := pb_n (pb := pb) (z := 1) (by decide) h0 h1
    omega
theorem tyJ (hM : M ≤ 990000) (hO : XTo M O) : ∀ (f : Nat) (m : Int) (pb : Int32) (a : List EV) (i : Int32) (r : List EV) (j : Int32), gJ O f m e kn pb a i = some (r, j) → 0 ≤ pb.toInt → (kn.length : Int) + pb.toInt + f ≤ M → TYe kn.length a (kn.length, pb.toNatClampNeg, 0) (kn.length, pb.toNatClampNeg, 1) → TYe kn.length r (kn.length, pb.toNatClampNeg, 0) (kn.length, pb.toNatClampNeg, 1)
  | 0, _, _, _, _, _, _, h, _, _, _ => by cases h
  | f + 1, m, pb, a, i, r, j, h, h0, h1, A => by
    have h1 : (kn.length : Int) + pb.toInt + ((f + 1 : Nat) : Int) ≤ M := h1
    have h : (if (stg (e.1 i)).toInt < m ∨ (stg (e.1 i)).toInt ≤ 0 then some (a, i) else (O false e kn (gpb (e.1 i) pb) (i + 1)).bind fun q => (gJ O f ((stg (e.1 i)).toInt + 1) e kn (gpb (e.1 i) pb) q.2.1 q.2.2).bind fun r => gJ O f m e kn pb (gSign (e.1 i) (gsl kn pb) a r.1) r.2) = some (r, j) := h
    by_cases c : (stg (e.1 i)).toInt < m ∨ (stg (e.1 i)).toInt ≤ 0
    · rw [if_pos c] at h
      have el : a = r := congrArg Prod.fst (Option.some.inj h)
      rw [← el]
      exact A
    · rw [if_neg c] at h
      obtain ⟨q, hq, h⟩ := Option.bind_eq_some_iff.mp h
      obtain ⟨r1, hr, h⟩ := Option.bind_eq_some_iff.mp h
      have G := gpb_n (k := e.1 i) h0 (by omega)
      have B := tyJ hM hO f _ (gpb (e.1 i) pb) q.2.1 q.2.2 r1.1 r1.2 hr G.1 (by omega) (hO false e kn (gpb (e.1 i) pb) (i + 1) q.1 q.2.1 q.2.2 hq G.1 (by omega))
      exact tyJ hM hO f m pb _ r1.2 r j h h0 (by omega) (tySign h0 (by omega) A B)
theorem tyQuest (hE : XTe M E) (h : gQuest E e kn pb a i = some (b, j)) (h0 : 0 ≤ pb.toInt) (h1 : (kn.length : Int) + pb.toInt ≤ M) (A : TYe kn.length a (kn.length, pb.toNatClampNeg, 0) (kn.length, pb.toNatClampNeg, 1)) : TYe kn.length b (kn.length, pb.toNatClampNeg, 0) (kn.length, pb.toNatClampNeg, 1) := by
  unfold gQuest at h
  by_cases c : (e.1 i).toInt = 38
  · rw [if_pos c] at h
    obtain ⟨q, hq, h⟩ := Option.bind_eq_some_iff.mp h
    obtain ⟨j1, -, h⟩ := Option.bind_eq_some_iff.mp h
    obtain ⟨r, hr, h⟩ := Option.bind_eq_some_iff.mp h
    have el : a ++ [fwE 16 0 (q.1 ++ [fwE 19 0 r.1])] ++ q.1 ++ [fwE 19 0 r.1] ++ r.1 = b := congrArg Prod.fst (Option.some.inj h)
    have Q := TYe.qu (hE true e kn pb (i + 1) q.1 q.2 hq h0 h1) (hE false e kn pb j1 r.1 r.2 hr h0 h1) (Nat.le_refl _) (Nat.le_refl _)
    have T := A.app Q
    rw [← el]
    simp only [List.append_assoc] at T ⊢
    exact T
  · rw [if_neg c] at h
    have el : a = b := congrArg Prod.fst (Option.some.inj h)
    rw [← el]
    exact A
theorem tyExpr (hM : M ≤ 990000) (hE : XTe M E) (hO : XTo M O) : XTe (M - 1502) (gExpr E O) := by
  intro st e kn pb i a j h h0 h1
  unfold gExpr at h
  obtain ⟨q, hq, h⟩ := Option.bind_eq_some_iff.mp h
  have T := hO st e kn pb i q.1 q.2.1 q.2.2 hq h0 (by omega)
  by_cases c : q.1 = true
  · rw [if_pos c] at h
    have el : q.2.1 = a := congrArg Prod.fst (Option.some.inj h)
    rw [← el]
    exact T
  · rw [if_neg c] at h
    obtain ⟨r, hr, h⟩ := Option.bind_eq_some_iff.mp h
    exact tyQuest hE h h0 (by omega) (tyJ hM hO 1502 1 pb q.2.1 q.2.2 r.1 r.2 hr h0 (by omega) T)
theorem XTe.lw {M' : Int} (h : XTe M E) (k : M' ≤ M) : XTe M' E := fun st e kn pb i a j x x0 x1 => h st e kn pb i a j x x0 (by omega)
theorem XTo.lw {M' : Int} (h : XTo M O) (k : M' ≤ M) : XTo M' O := fun st e kn pb i b a j x x0 x1 => h st e kn pb i b a j x x0 (by omega)
/-- every level -/
theorem tyLev : ∀ n : Nat, XTe (990000 - 3004 * (n + 1)) (geE n) ∧ XTo (990000 - 3004 * (n + 1)) (geO n) := by
  have st : ∀ {M : Int} {E : EvE} {O : EvO}, M ≤ 990000 → XTe M E → XTo M O → XTe (M - 3004) (gExpr E (gOperand E O)) ∧ XTo (M - 3004) (gOperand E O) := by
    intro M E O hM hE hO
    have o := tyOperand hM hE hO
    have x := tyExpr (M := M - 1502) (by omega) (hE.lw (by omega)) o
    exact ⟨x.lw (by omega), o.lw (by omega)⟩
  intro n
  induction n with
  | zero =>
    have := st (M := 990000) (E := evE0) (O := evO0) (by omega) (fun _ _ _ _ _ _ _ h => by cases h) (fun _ _ _ _ _ _ _ _ h => by cases h)
    exact ⟨this.1.lw (by omega), this.2.lw (by omega)⟩
  | succ n ih =>
    have := st (M := 990000 - 3004 * ((n : Int) + 1)) (by omega) ih.1 ih.2
    exact ⟨this.1.lw (by omega), this.2.lw (by omega)⟩
end XIT
