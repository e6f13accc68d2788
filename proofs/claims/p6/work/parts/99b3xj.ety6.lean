/-! events' types: statements but loops -/
def XTs (M : Int) (S : EvS) : Prop := ∀ e kn i a kn' j, S e kn 0 i = some (a, kn', j) → (kn.length : Int) ≤ M → kn.length ≤ kn'.length ∧ kn'.length ≤ kn.length + 1 ∧ TYe kn.length a (kn.length, 0, 0) (kn'.length, 0, 0)
section XJT
variable {M : Int} {E : EvE} {S : EvS} {e : PE} {kn kn' : List Int32} {i j k : Int32} {a b l : List EV}
theorem z_n : (0 : Int32).toInt = 0 ∧ (0 : Int32).toNatClampNeg = 0 := by decide
theorem tyE0 (hE : XTe M E) {st : Bool} (h : E st e kn 0 i = some (a, j)) (h1 : (kn.length : Int) ≤ M) : TYe kn.length a (kn.length, 0, 0) (kn.length, 0, 1) := by
  have T := hE st e kn 0 i a j h (by rw [z_n.1]; exact Int.le_refl _) (by rw [z_n.1]; omega)
  rw [z_n.2] at T
  exact T
theorem tyCond (hE : XTe M E) (h : gCond E e kn 0 i = some (a, j)) (h1 : (kn.length : Int) ≤ M) : TYe kn.length a (kn.length, 0, 0) (kn.length, 0, 1) := by
  unfold gCond at h
  obtain ⟨j1, -, h⟩ := Option.bind_eq_some_iff.mp h
  obtain ⟨q, hq, h⟩ := Option.bind_eq_some_iff.mp h
  obtain ⟨j2, -, h⟩ := Option.bind_eq_some_iff.mp h
  have el : q.1 = a := congrArg Prod.fst (Option.some.inj h)
  rw [← el]
  exact tyE0 hE (st := true) hq h1
theorem tyDrop {k : Nat} {t9 : Int32} (ht : t9 = 22 ∨ t9 = 25) {K : Nat} (hk : K ≤ k) : TYe K [evx t9 0 0] (k, 0, 1) (k, 0, 0) := by
  rcases ht with rfl | rfl <;> exact TYe.one (show (1 : Nat) = 1 from rfl) le3.rf nL hk hk
theorem tyNum {k : Nat} {x9 : Int32} : TYe k [evx 2 x9 0] (k, 0, 0) (k, 0, 1) := TYe.one (show (0 : Nat) ≠ 1 by decide) le3.rf nL (Nat.le_refl _) (Nat.le_refl _)
theorem tyPlain (hE : XTe M E) (h : ((E true e kn 0 i).bind fun q => (gTok e 36 q.2).bind fun j => some (q.1 ++ [evx 25 0 0], kn, j)) = some (a, kn', j)) (h1 : (kn.length : Int) ≤ M) : kn.length ≤ kn'.length ∧ kn'.length ≤ kn.length + 1 ∧ TYe kn.length a (kn.length, 0, 0) (kn'.length, 0, 0) := by
  obtain ⟨q, hq, h⟩ := Option.bind_eq_some_iff.mp h
  obtain ⟨j2, -, h⟩ := Option.bind_eq_some_iff.mp h
  have e1 := Option.some.inj h
  have el : q.1 ++ [evx 25 0 0] = a := congrArg Prod.fst e1
  have ek : kn = kn' := congrArg (fun x => x.2.1) e1
  rw [← el, ← ek]
  exact ⟨Nat.le_refl _, by omega, (tyE0 hE (st := true) hq h1).app (tyDrop (Or.inr rfl) (Nat.le_refl _))⟩
theorem tyLocal (hM : M ≤ 990000) (hE : XTe M E) (h : gLocal E e kn 0 i = some (a, kn', j)) (h1 : (kn.length : Int) ≤ M) : kn.length ≤ kn'.length ∧ kn'.length ≤ kn.length + 1 ∧ TYe kn.length a (kn.length, 0, 0) (kn'.length, 0, 0) := by
  unfold gLocal at h
  obtain ⟨q, hq, h⟩ := Option.bind_eq_some_iff.mp h
  obtain ⟨j2, -, h⟩ := Option.bind_eq_some_iff.mp h
  have e1 := Option.some.inj h
  have el : q.1 ++ [evx 4 (gsl kn 0) 1, evx 25 0 0] = a := congrArg Prod.fst e1
  have ek : kn ++ [e.2.1 (i + 1)] = kn' := congrArg (fun x => x.2.1) e1
  have lk : kn'.length = kn.length + 1 := by rw [← ek, List.length_append]; rfl
  have T : TYe kn.length q.1 (kn.length, 0, 0) (kn.length, 0, 1) := by
    by_cases c : (e.1 (i + 2)).toInt = 42
    · rw [if_pos c] at hq
      exact tyE0 hE (st := true) hq h1
    · rw [if_neg c] at hq
      have e2 : [evx 2 0 0] = q.1 := congrArg Prod.fst (Option.some.inj hq)
      rw [← e2]
      exact tyNum
  have G := gsl_n (kn := kn) (pb := 0) (by rw [z_n.1]; exact Int.le_refl _) (by rw [z_n.1]; omega)
  rw [z_n.2, Nat.add_zero] at G
  have K1 : TYe kn.length [evx 4 (gsl kn 0) 1] (kn.length, 0, 1) (kn.length + 1, 0, 1) := by
    refine TYe.one (show (1 : Nat) = 1 ∧ 0 ≤ (gsl kn 0).toInt ∧ _ from ⟨rfl, G.1, Or.inr ⟨rfl, Or.inr ⟨G.2, rfl⟩⟩⟩) ?_ nL (Nat.le_refl _) (Nat.le_succ _)
    show le3 (if (gsl kn 0).toNatClampNeg < kn.length then _ else (kn.length + 1, 0, 1)) _
    rw [if_neg (by omega)]
    exact le3.rf
  rw [← el, lk]
  exact ⟨by omega, by omega, T.app (K1.app (tyDrop (Or.inr rfl) (Nat.le_succ _)))⟩
theorem tyLeave (h : gLeave e kn i = some (a, kn', j)) : kn.length ≤ kn'.length ∧ kn'.length ≤ kn.length + 1 ∧ TYe kn.length a (kn.length, 0, 0) (kn'.length, 0, 0) := by
  unfold gLeave at h
  obtain ⟨j2, -, h⟩ := Option.bind_eq_some_iff.mp h
  have e1 := Option.some.inj h
  have el : [evx (if (e.1 i).toInt = 16 then 30 else 31) 0 0] = a := congrArg Prod.fst e1
  have ek : kn = kn' := congrArg (fun x => x.2.1) e1
  rw [← el, ← ek]
  refine ⟨Nat.le_refl _, by omega, ?_⟩
  by_cases c : (e.1 i).toInt = 16
  · rw [if_pos c]
    exact TYe.fin (show (0 : Nat) = 0 ∧ (0 : Nat) = 0 by decide) (Or.inr (Or.inl rfl)) nL (Nat.le_refl _) (Nat.le_refl _)
  · rw [if_neg c]
    exact TYe.fin (show (0 : Nat) = 0 ∧ (0 : Nat) = 0 by decide) (Or.inr (Or.inr (Or.inl rfl))) nL (Nat.le_refl _) (Nat.le_refl _)
theorem tyRet (hE : XTe M E) (h : gRet E e kn 0 i = some (a, kn', j)) (h1 : (kn.length : Int) ≤ M) : kn.length ≤ kn'.length ∧ kn'.length ≤ kn.length + 1 ∧ TYe kn.length a (kn.length, 0, 0) (kn'.length, 0, 0) := by
  unfold gRet at h
  obtain ⟨q, hq, h⟩ := Option.bind_eq_some_iff.mp h
  obtain ⟨j2, -, h⟩ := Option.bind_eq_some_iff.mp h
  have e1 := Option.some.inj h
  have el : q.1 ++ [evx 32 0 0] = a := congrArg Prod.fst e1
  have ek : kn = kn' := congrArg (fun x => x.2.1) e1
  have T : TYe kn.length q.1 (kn.length, 0, 0) (kn.length, 0, 1) := by
    by_cases c : (e.1 (i + 1)).toInt = 36
    · rw [if_pos c] at hq
      have e2 : [evx 2 0 0] = q.1 := congrArg Prod.fst (Option.some.inj hq)
      rw [← e2]
      exact tyNum
    · rw [if_neg c] at hq
      exact tyE0 hE (st := true) hq h1
  rw [← el, ← ek]
  exact ⟨Nat.le_refl _, by omega, T.app (TYe.fin (show (1 : Nat) = 1 ∧ (0 : Nat) = 0 by decide) (Or.inr (Or.inr (Or.inr (Or.inl rfl)))) nL (Nat.le_refl _) (Nat.le_refl _))⟩
theorem tyPutS (hE : XTe M E) (h : gPutS E e kn 0 i = some (a, kn', j)) (h1 : (kn.length : Int) ≤ M) : kn.length ≤ kn'.length ∧ kn'.length ≤ kn.length + 1 ∧ TYe kn.length a (kn.length, 0, 0) (kn'.length, 0, 0) := by
  unfold gPutS at h
  obtain ⟨q, hq, h⟩ := Option.bind_eq_some_iff.mp h
  obtain ⟨j2, -, h⟩ := Option.bind_eq_some_iff.mp h
  have e1 := Option.some.inj h
  have el : q.1 ++ [evx 22 0 0] = a := congrArg Prod.fst e1
  have ek : kn = kn' := congrArg (fun x => x.2.1) e1
  rw [← el, ← ek]
  exact ⟨Nat.le_refl _, by omega, (tyCond hE hq h1).app (tyDrop (Or.inl rfl) (Nat.le_refl _))⟩
theorem tyStats (hS : XTs M S) : ∀ (f : Nat) (kn : List Int32) (i : Int32) (a : List EV) (kn' : List Int32) (j : Int32), gStats S f e kn 0 i = some (a, kn', j) → (kn.length : Int) + f ≤ M → kn.length ≤ kn'.length ∧ TYe kn.length a (kn.length, 0, 0) (kn'.length, 0, 0)
  | 0, _, _, _, _, _, h, _ => by cases h
  | f + 1, kn, i, a, kn', j, h, h1 => by
    have h1 : (kn.length : Int) + ((f + 1 : Nat) : Int) ≤ M := h1
    have h : (if (e.1 i).toInt = 33 then some ([], kn, i) else (S e kn 0 i).bind fun q => (gStats S f e q.2.1 0 q.2.2).bind fun r => some (q.1 ++ r.1, r.2)) = some (a, kn', j) := h
    by_cases c : (e.1 i).toInt = 33
    · rw [if_pos c] at h
      have e1 := Option.some.inj h
      have el : [] = a := congrArg Prod.fst e1
      have ek : kn = kn' := congrArg (fun x => x.2.1) e1
      rw [← el, ← ek]
      exact ⟨Nat.le_refl _, TYe.nil (Nat.le_refl _)⟩
    · rw [if_neg c] at h
      obtain ⟨q, hq, h⟩ := Option.bind_eq_some_iff.mp h
      obtain ⟨r, hr, h⟩ := Option.bind_eq_some_iff.mp h
      have e1 := Option.some.inj h
      have el : q.1 ++ r.1 = a := congrArg Prod.fst e1
      have ek : r.2.1 = kn' := congrArg (fun x => x.2.1) e1
      obtain ⟨A1, A2, A3⟩ := hS e kn i q.1 q.2.1 q.2.2 hq (by omega)
      obtain ⟨B1, B2⟩ := tyStats hS f q.2.1 q.2.2 r.1 r.2.1 r.2.2 hr (by omega)
      rw [← el, ← ek]
      exact ⟨by omega, A3.app (B2.k A1)⟩
theorem back0 {k k' : Nat} (h : k ≤ k') : le3 (k', 0, 0) (k, 0, 0) := ⟨rfl, Or.inr ⟨rfl, h⟩, Or.inl rfl⟩
theorem tyBlock (hS : XTs M S) (h : gBlock S e kn 0 i = some (a, kn', j)) (h1 : (kn.length : Int) + 1502 ≤ M) : kn.length ≤ kn'.length ∧ kn'.length ≤ kn.length + 1 ∧ TYe kn.length a (kn.length, 0, 0) (kn'.length, 0, 0) := by
  unfold gBlock at h
  obtain ⟨q, hq, h⟩ := Option.bind_eq_some_iff.mp h
  obtain ⟨j2, -, h⟩ := Option.bind_eq_some_iff.mp h
  have e1 := Option.some.inj h
  have el : q.1 = a := congrArg Prod.fst e1
  have ek : kn = kn' := congrArg (fun x => x.2.1) e1
  obtain ⟨B1, B2⟩ := tyStats hS 1502 kn (i + 1) q.1 q.2.1 q.2.2 hq (by omega)
  rw [← el, ← ek]
  exact ⟨Nat.le_refl _, by omega, B2.w le3.rf (back0 B1)⟩
theorem tyInner (hS : XTs M S) (h : gInner S e kn 0 i = some (a, kn', j)) (h1 : (kn.length : Int) ≤ M) : kn = kn' ∧ TYe kn.length a (kn.length, 0, 0) (kn.length, 0, 0) := by
  unfold gInner at h
  obtain ⟨q, hq, h⟩ := Option.bind_eq_some_iff.mp h
  have e1 := Option.some.inj h
  have el : q.1 = a := congrArg Prod.fst e1
  have ek : kn = kn' := congrArg (fun x => x.2.1) e1
  obtain ⟨A1, A2, A3⟩ := hS e kn i q.1 q.2.1 q.2.2 hq h1
  rw [← el]
  exact ⟨ek, A3.w le3.rf (back0 A1)⟩
theorem tyIf (hE : XTe M E) (hS : XTs M S) (h : gIf E S e kn 0 i = some (a, kn', j)) (h1 : (kn.length : Int) ≤ M) : kn.length ≤ kn'.length ∧ kn'.length ≤ kn.length + 1 ∧ TYe kn.length a (kn.length, 0, 0) (kn'.length, 0, 0) := by
  unfold gIf at h
  obtain ⟨c, hc, h⟩ := Option.bind_eq_some_iff.mp h
  obtain ⟨q, hq, h⟩ := Option.bind_eq_some_iff.mp h
  have C := tyCond hE hc h1
  obtain ⟨-, A⟩ := tyInner hS hq h1
  by_cases g : (e.1 q.2.2).toInt = 12
  · rw [if_pos g] at h
    obtain ⟨r, hr, h⟩ := Option.bind_eq_some_iff.mp h
    obtain ⟨-, B⟩ := tyInner hS hr h1
    have e1 := Option.some.inj h
    have el : c.1 ++ [fwE 16 0 (q.1 ++ [fwE 19 0 r.1])] ++ q.1 ++ [fwE 19 0 r.1] ++ r.1 = a := congrArg Prod.fst e1
    have ek : kn = kn' := congrArg (fun x => x.2.1) e1
    have T := C.app (TYe.qu A B (Nat.le_refl _) (Nat.le_refl _))
    rw [← el, ← ek]
    simp only [List.append_assoc] at T ⊢
    exact ⟨Nat.le_refl _, by omega, T⟩
  · rw [if_neg g] at h
    have e1 := Option.some.inj h
    have el : c.1 ++ [fwE 16 0 q.1] ++ q.1 = a := congrArg Prod.fst e1
    have ek : kn = kn' := congrArg (fun x => x.2.1) e1
    rw [← el, ← ek, List.append_assoc]
    exact ⟨Nat.le_refl _, by omega, C.app (TYe.fw (s := (kn.length, 0, 1)) A (Or.inl rfl) rfl rfl rfl le3.rf (Nat.le_refl _) (Nat.le_refl _))⟩
end XJT
