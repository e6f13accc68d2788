/-! slots: no event keeps a number beyond its frame: expressions -/
def SLT (Z : Nat) (M : Int) (a : List EV) : Prop := ∀ q ∈ a, (q.1 = 4 → q.2.2.1 = 0 → q.2.1.toInt < M) ∧ (q.1 = 9 → q.2.2.1.toInt < M) ∧ (q.1 = 5 ∨ q.1 = 6 → ∃ n, n ≤ Z ∧ q.2.1 = nI n) ∧ (q.1 = 20 → 53 ≤ q.2.1.toInt ∧ q.2.1.toInt ≤ 68)
section XQL
variable {Z : Nat} {M M' : Int} {a b : List EV} {q : EV}
theorem SLT.nil : SLT Z M [] := fun q h => nomatch h
theorem SLT.app (h : SLT Z M a) (k : SLT Z M b) : SLT Z M (a ++ b) := fun q hq => (List.mem_append.mp hq).elim (h q) (k q)
theorem SLT.m (h : SLT Z M a) (k : M ≤ M') : SLT Z M' a := fun q hq => ⟨fun c d => by have := (h q hq).1 c d; omega, fun c => by have := (h q hq).2.1 c; omega, (h q hq).2.2⟩
theorem SLT.one (h : (q.1 = 4 → q.2.2.1 = 0 → q.2.1.toInt < M) ∧ (q.1 = 9 → q.2.2.1.toInt < M) ∧ (q.1 = 5 ∨ q.1 = 6 → ∃ n, n ≤ Z ∧ q.2.1 = nI n) ∧ (q.1 = 20 → 53 ≤ q.2.1.toInt ∧ q.2.1.toInt ≤ 68)) : SLT Z M [q] := fun p hp => by
  rw [List.mem_singleton.mp hp]
  exact h
theorem SLT.o {t : Int32} {r : Int32 × Int32 × Int × Int × Int} (h4 : t ≠ 4 := by decide) (h9 : t ≠ 9 := by decide) (h5 : ¬ (t = 5 ∨ t = 6) := by decide) (h20 : t ≠ 20 := by decide) : SLT Z M [(t, r)] := SLT.one ⟨fun c => absurd c h4, fun c => absurd c h9, fun c => absurd c h5, fun c => absurd c h20⟩
theorem SLT.bn {x y : Int32} (h : 53 ≤ x.toInt ∧ x.toInt ≤ 68) : SLT Z M [evx 20 x y] := SLT.one ⟨fun c => absurd c (show ¬ (20 : Int32) = 4 by decide), fun c => absurd c (show ¬ (20 : Int32) = 9 by decide), fun c => absurd c (show ¬ ((20 : Int32) = 5 ∨ (20 : Int32) = 6) by decide), fun _ => h⟩
theorem n10 : ¬ (1 : Int32) = 0 := by decide
theorem n49 : ¬ (4 : Int32) = 9 := by decide
theorem n94 : ¬ (9 : Int32) = 4 := by decide
theorem n456 : ¬ ((4 : Int32) = 5 ∨ (4 : Int32) = 6) := by decide
theorem n956 : ¬ ((9 : Int32) = 5 ∨ (9 : Int32) = 6) := by decide
theorem SLT.y1 {x : Int32} : SLT Z M [evx 4 x 1] := SLT.one ⟨fun _ c => absurd c n10, fun c => absurd c n49, fun c => absurd c n456, fun c => absurd c (show ¬ (4 : Int32) = 20 by decide)⟩
theorem SLT.k4 {x : Int32} (h : x.toInt < M) : SLT Z M [evx 4 x 0] := SLT.one ⟨fun _ _ => h, fun c => absurd c n49, fun c => absurd c n456, fun c => absurd c (show ¬ (4 : Int32) = 20 by decide)⟩
theorem SLT.k9 {x g : Int32} (h : x.toInt < M) : SLT Z M [evx 9 g x] := SLT.one ⟨fun c => absurd c n94, fun _ => h, fun c => absurd c n956, fun c => absurd c (show ¬ (9 : Int32) = 20 by decide)⟩
theorem SLT.g {t x y : Int32} {n : Nat} (hn : n ≤ Z) (hx : x = nI n) (h4 : t ≠ 4 := by decide) (h9 : t ≠ 9 := by decide) (h20 : t ≠ 20 := by decide) : SLT Z M [evx t x y] := SLT.one ⟨fun c => absurd c h4, fun c => absurd c h9, fun _ => ⟨n, hn, hx⟩, fun c => absurd c h20⟩
theorem gix_le {e : PE} {x : Int32} : gix e x ≤ e.2.2.2.length := by
  unfold gix
  exact List.findIdx_le_length
theorem slt_rd {sn : Int} {g : Int32} {n : Nat} (hn : n ≤ Z) (hx : g = nI n) : SLT Z M [gRead sn g] := by
  unfold gRead
  split
  · exact SLT.o
  · exact SLT.g hn hx
theorem slt_pt {sn : Int} {g : Int32} {n : Nat} (hn : n ≤ Z) (hx : g = nI n) : SLT Z M [gPut sn g] := by
  unfold gPut
  split
  · exact SLT.y1
  · exact SLT.g hn hx
end XQL
/-- at, known names, how many, put by, due, most slots -/
abbrev V6 : Type := Int32 × List Int32 × Int32 × Int32 × Bool × Int32
def vp (s : PS) : V6 := (pAt s, pKn s, pKc s, pPb s, pDu s, pMo s)
def SO (x : V6) : Prop := (x.2.2.2.2.1 = false ∧ x.2.2.2.2.2.toInt ≤ 500) ∧ x.2.2.1.toInt = (x.2.1.length : Int) ∧ 0 ≤ x.2.2.2.1.toInt ∧ x.2.2.1.toInt + x.2.2.2.1.toInt ≤ 500
def KA (x y : V6) : Prop := y.2.1 = x.2.1 ∧ y.2.2.1 = x.2.2.1 ∧ y.2.2.2.1 = x.2.2.2.1 ∧ (y.2.2.2.2.1 = false ∧ (x.2.2.2.2.2.toInt ≤ 500 → y.2.2.2.2.2.toInt ≤ 500)) ∧ x.2.2.2.2.2.toInt ≤ y.2.2.2.2.2.toInt
def nx (x : V6) : V6 := (x.1 + 1, x.2.1, x.2.2.1, x.2.2.2.1, false, x.2.2.2.2.2)
def AT (s : PS) (kn : List Int32) (pb i : Int32) : Prop := kn = pKn s ∧ pb = pPb s ∧ i = pAt s
section XQS
variable {s s' s1 s2 : PS} {x y z : V6} {e : PE} {k n : Int32} {m : Int} {kn : List Int32} {pb i : Int32}
theorem ok_inj {α : Type} {x y : α} (h : (.ok x : PX α) = .ok y) : x = y := Except.ok.inj h
theorem vp_em : vp (em k s) = vp s := by
  unfold em
  split <;> rfl
theorem vp_cl : vp (tClose s) = vp s := rfl
theorem vp_rem : vp (tRem k s) = vp s := rfl
theorem vp_add {y : Int32} : vp (tAddCall k y s) = vp s := by
  unfold tAddCall
  split
  · rfl
  · split <;> rfl
theorem vp_ec {c : Nat} : vp (tEndCall c n s) = vp s := by
  unfold tEndCall
  split <;> rfl
theorem KA.rf (h : SO x) : KA x x := ⟨rfl, rfl, rfl, ⟨h.1.1, id⟩, Int.le_refl _⟩
theorem KA.tr (h : KA x y) (k : KA y z) : KA x z := ⟨k.1.trans h.1, k.2.1.trans h.2.1, k.2.2.1.trans h.2.2.1, ⟨k.2.2.2.1.1, fun w => k.2.2.2.1.2 (h.2.2.2.1.2 w)⟩, Int.le_trans h.2.2.2.2 k.2.2.2.2⟩
theorem KA.so (h : KA x y) (k : SO x) : SO y := by
  obtain ⟨h1, h2, h3, h4, h5⟩ := h
  obtain ⟨k1, k2, k3, k4⟩ := k
  exact ⟨⟨h4.1, h4.2 k1.2⟩, by rw [h2, h1]; exact k2, by rw [h3]; exact k3, by rw [h2, h3]; exact k4⟩
theorem KA.n1 : KA x (nx x) := ⟨rfl, rfl, rfl, ⟨rfl, id⟩, Int.le_refl _⟩
theorem KA.vx (h : vp s1 = nx (vp s)) : KA (vp s) (vp s1) := by rw [h]; exact KA.n1
theorem KA.ve (h : vp s1 = vp s) (k : SO (vp s)) : KA (vp s) (vp s1) := by rw [h]; exact KA.rf k
theorem AT.n1 (h : AT s kn pb i) (k : vp s1 = nx (vp s)) : AT s1 kn pb (i + 1) := by
  have e1 : pAt s1 = pAt s + 1 := congrArg (fun x => x.1) k
  have e2 : pKn s1 = pKn s := congrArg (fun x => x.2.1) k
  have e3 : pPb s1 = pPb s := congrArg (fun x => x.2.2.2.1) k
  exact ⟨by rw [e2]; exact h.1, by rw [e3]; exact h.2.1, by rw [e1, h.2.2]⟩
theorem AT.e1 (h : AT s kn pb i) (k : vp s1 = vp s) : AT s1 kn pb i := by
  have e1 : pAt s1 = pAt s := congrArg (fun x => x.1) k
  have e2 : pKn s1 = pKn s := congrArg (fun x => x.2.1) k
  have e3 : pPb s1 = pPb s := congrArg (fun x => x.2.2.2.1) k
  exact ⟨by rw [e2]; exact h.1, by rw [e3]; exact h.2.1, by rw [e1, h.2.2]⟩
/-- behind what keeps names and slots -/
theorem AT.k1 (h : AT s kn pb i) (k : KA (vp s) (vp s1)) {j : Int32} (hj : j = pAt s1) : AT s1 kn pb j := ⟨h.1.trans (k.1 : pKn s1 = pKn s).symm, h.2.1.trans (k.2.2.1 : pPb s1 = pPb s).symm, hj⟩
theorem take_inv (h : tTake e s = .ok s') : pDu s = false ∧ vp s' = nx (vp s) := by
  unfold tTake at h
  by_cases c : (1500 : Int) ≤ (pAt s).toInt ∨ pDu s = true
  · rw [if_pos c] at h; cases h
  · rw [if_neg c] at h
    have e1 := ok_inj h
    refine ⟨?_, by rw [← e1]; rfl⟩
    cases d : pDu s with
    | true => exact absurd (Or.inr d) c
    | false => rfl
theorem need_inv (h : tNeed m e s = .ok s') : (e.1 (pAt s)).toInt = m ∧ s' = s := by
  unfold tNeed at h
  by_cases c : (kd e s).toInt = m
  · rw [if_pos c] at h; exact ⟨c, (ok_inj h).symm⟩
  · rw [if_neg c] at h
    cases h
theorem exp_inv (h : tExp m e s = .ok s') : (e.1 (pAt s)).toInt = m ∧ pDu s = false ∧ vp s' = nx (vp s) := by
  obtain ⟨a, h1, h2⟩ := bd_inv h
  obtain ⟨c, rfl⟩ := need_inv h1
  exact ⟨c, take_inv h2⟩
theorem exp_tok (h : tExp m e s = .ok s') (A : AT s kn pb i) : gTok e m i = some (i + 1) := by
  unfold gTok
  rw [A.2.2, if_pos (exp_inv h).1]
/-- a sign that is there -/
theorem gTok_j {j i' : Int32} (h : gTok e m i = some j) : j = i + 1 := by
  unfold gTok at h
  by_cases c : (e.1 i).toInt = m
  · rw [if_pos c] at h; exact (Option.some.inj h).symm
  · rw [if_neg c] at h; cases h
theorem open_inv (h : tOpen e s = .ok s') : pDu s = false ∧ vp s' = nx (vp s) := by
  unfold tOpen at h
  by_cases c : (40 : Int) ≤ (pOp s).toInt
  · rw [if_pos c] at h; cases h
  · rw [if_neg c] at h
    obtain ⟨a, h1, h2⟩ := bd_inv h
    have e1 := ok_inj h2
    obtain ⟨d, v⟩ := take_inv h1
    exact ⟨d, by rw [← e1]; exact v⟩
theorem mx_le {a b : Int32} : a.toInt ≤ (mx a b).toInt ∧ b.toInt ≤ (mx a b).toInt ∧ ((mx a b).toInt = a.toInt ∨ (mx a b).toInt = b.toInt) := by
  unfold mx
  by_cases c : a < b
  · rw [if_pos c]
    have := Int32.lt_iff_toInt_lt.mp c
    omega
  · rw [if_neg c]
    have : ¬ a.toInt < b.toInt := fun w => c (Int32.lt_iff_toInt_lt.mpr w)
    omega
/-- most slots changed alone -/
def wm (x : V6) (m : Int32) : V6 := (x.1, x.2.1, x.2.2.1, x.2.2.2.1, x.2.2.2.2.1, m)
theorem sum3 (I : SO (vp s)) (h0 : 0 ≤ n.toInt) (h1 : n.toInt ≤ 8) : (pKc s + pPb s + n).toInt = (pKc s).toInt + (pPb s).toInt + n.toInt := by
  obtain ⟨-, i2, i3, i4⟩ := I
  have i2 : (pKc s).toInt = ((pKn s).length : Int) := i2
  have i3 : 0 ≤ (pPb s).toInt := i3
  have i4 : (pKc s).toInt + (pPb s).toInt ≤ 500 := i4
  have a1 : (pKc s + pPb s).toInt = (pKc s).toInt + (pPb s).toInt := add_z rfl rfl (by omega) (by omega)
  exact add_z a1 rfl (by omega) (by omega)
theorem want_inv (h : tWant n e s = .ok s') (I : SO (vp s)) (h0 : 0 ≤ n.toInt) (h1 : n.toInt ≤ 8) : (pKc s).toInt + (pPb s).toInt + n.toInt ≤ 500 ∧ (pKc s).toInt + (pPb s).toInt + n.toInt ≤ (pMo s').toInt ∧ KA (vp s) (vp s') ∧ pAt s' = pAt s := by
  unfold tWant at h
  have e3 := sum3 I h0 h1
  by_cases c : (500 : Int) < (pKc s + pPb s + n).toInt
  · rw [if_pos c] at h; cases h
  · rw [if_neg c] at h
    have e1 := ok_inj h
    have du : pDu s = false := I.1.1
    unfold sMm at e1
    rw [if_neg (by rw [du]; exact Bool.false_ne_true)] at e1
    have M := mx_le (a := pMo s) (b := pKc s + pPb s + n)
    rw [← e1]
    exact ⟨by omega, by rw [← e3]; exact M.2.1, ⟨rfl, rfl, rfl, ⟨du, fun w => by have w : (pMo s).toInt ≤ 500 := w; show (mx (pMo s) (pKc s + pPb s + n)).toInt ≤ 500; omega⟩, M.1⟩, rfl⟩
theorem due_inv (I : SO (vp s)) (hd : pDu (tDue k s) = false) : (pKc s).toInt + (pPb s).toInt + 1 ≤ 500 ∧ (pKc s).toInt + (pPb s).toInt + 1 ≤ (pMo (tDue k s)).toInt ∧ KA (vp s) (vp (tDue k s)) ∧ pAt (tDue k s) = pAt s := by
  have e3 := sum3 (n := 1) I (by decide) (by decide)
  have o1 : (1 : Int32).toInt = 1 := by decide
  unfold tDue at hd ⊢
  by_cases c : (500 : Int) < (pKc s + pPb s + 1).toInt ∨ (8 : Int) ≤ k.toInt
  · rw [if_pos c] at hd; exact absurd hd (by show ¬ true = false; decide)
  · rw [if_neg c]
    have du : pDu s = false := I.1.1
    unfold sMm
    rw [if_neg (by rw [du]; exact Bool.false_ne_true)]
    have M := mx_le (a := pMo s) (b := pKc s + pPb s + 1)
    have c1 : ¬ (500 : Int) < (pKc s + pPb s + 1).toInt := fun w => c (Or.inl w)
    refine ⟨by omega, ?_, ⟨rfl, rfl, rfl, ⟨du, fun w => by have w : (pMo s).toInt ≤ 500 := w; show (mx (pMo s) (pKc s + pPb s + 1)).toInt ≤ 500; omega⟩, M.1⟩, rfl⟩
    have M2 := M.2.1
    rw [e3, o1] at M2
    exact M2
/-- one put by more -/
theorem pb1 (I : SO (vp s)) (h : (pKc s).toInt + (pPb s).toInt + n.toInt ≤ 500) (h0 : 0 ≤ n.toInt) (h1 : n.toInt ≤ 8) : (pPb s + n).toInt = (pPb s).toInt + n.toInt := by
  obtain ⟨-, i2, i3, i4⟩ := I
  have i2 : (pKc s).toInt = ((pKn s).length : Int) := i2
  have i3 : 0 ≤ (pPb s).toInt := i3
  exact add_z rfl rfl (by omega) (by omega)
theorem SO.pm (I : SO (vp s)) (h : (pKc s).toInt + (pPb s).toInt + n.toInt ≤ 500) (h0 : 0 ≤ n.toInt) (h1 : n.toInt ≤ 8) : SO (vp (sPb s (pPb s + n))) := by
  have e1 := pb1 I h h0 h1
  have i3 : 0 ≤ (pPb s).toInt := I.2.2.1
  refine ⟨I.1, I.2.1, ?_, ?_⟩
  · show 0 ≤ (pPb s + n).toInt
    omega
  · show (pKc s).toInt + (pPb s + n).toInt ≤ 500
    omega
theorem gsl_i (I : SO (vp s)) (A : AT s kn pb i) : (gsl kn pb).toInt = (pKc s).toInt + (pPb s).toInt := by
  obtain ⟨-, i2, i3, i4⟩ := I
  have i2 : (pKc s).toInt = ((pKn s).length : Int) := i2
  have i3 : 0 ≤ (pPb s).toInt := i3
  have i4 : (pKc s).toInt + (pPb s).toInt ≤ 500 := i4
  unfold gsl
  rw [A.1, A.2.1, i2]
  have k := nI_Z (n := (pKn s).length) (by omega)
  exact add_z k rfl (by omega) (by omega)
end XQS
def XJE (E : FE) (G : EvE) : Prop := ∀ st e s s', E st e s = .ok s' → pDu s = false ∧ (SO (vp s) → KA (vp s) (vp s') ∧ ∀ kn pb i a j, AT s kn pb i → G st e kn pb i = some (a, j) → j = pAt s' ∧ SLT e.2.2.2.length (pMo s').toInt a)
def XJO (O : FO) (G : EvO) : Prop := ∀ st e s q, O st e s = .ok q → pDu s = false ∧ (SO (vp s) → KA (vp s) (vp q.2) ∧ ∀ kn pb i b a j, AT s kn pb i → G st e kn pb i = some (b, a, j) → b = q.1 ∧ j = pAt q.2 ∧ SLT e.2.2.2.length (pMo q.2).toInt a)
section XQE
variable {E : FE} {G : EvE} {O : FO} {H : EvO} {s s' : PS} {e : PE} {kn : List Int32} {pb i j g : Int32} {a b : List EV}
theorem jIndex (hE : XJE E G) (h : tIndex E e s = .ok s') (I : SO (vp s)) : KA (vp s) (vp s') ∧ ∀ kn pb i a j g, AT s kn pb i → gIndex G g e kn pb i = some (a, j) → j = pAt s' ∧ SLT e.2.2.2.length (pMo s').toInt a := by
  obtain ⟨s1, h1, h⟩ := bd_inv h
  obtain ⟨s2, h2, h⟩ := bd_inv h
  obtain ⟨s3, h3, h⟩ := bd_inv h
  have e1 := ok_inj h
  obtain ⟨-, v1⟩ := open_inv h1
  have K1 := KA.vx v1
  obtain ⟨K2, G2⟩ := (hE _ _ _ _ h2).2 (K1.so I)
  obtain ⟨-, -, v3⟩ := exp_inv h3
  have v4 : vp s' = nx (vp s2) := by rw [← e1, vp_em, vp_cl, v3]
  refine ⟨(K1.tr K2).tr (KA.vx v4), fun kn pb i a j g A hg => ?_⟩
  obtain ⟨q, hq, hg⟩ := Option.bind_eq_some_iff.mp hg
  obtain ⟨j1, hj, hg⟩ := Option.bind_eq_some_iff.mp hg
  have e2 := Option.some.inj hg
  have el : q.1 ++ [evx 7 g 0] = a := congrArg Prod.fst e2
  have ej : j1 = j := congrArg Prod.snd e2
  obtain ⟨b1, b2⟩ := G2 _ _ _ q.1 q.2 (A.n1 v1) hq
  have m4 : pMo s' = pMo s2 := congrArg (fun x => x.2.2.2.2.2) v4
  have a4 : pAt s' = pAt s2 + 1 := congrArg (fun x => x.1) v4
  rw [← el, ← ej, m4, a4, gTok_j (i' := 0) hj, b1]
  exact ⟨rfl, b2.app SLT.o⟩
theorem jChange (hE : XJE E G) {row sl : Bool} (h42 : (42 : Int) ≤ (kd e s).toInt ∧ (kd e s).toInt ≤ 52) (h : tChange E row sl e s = .ok s') (I : SO (vp s)) : KA (vp s) (vp s') ∧ ∀ kn pb i a j sn g n9, n9 ≤ e.2.2.2.length → g = nI n9 → AT s kn pb i → gChange G row sn g e kn pb i = some (a, j) → j = pAt s' ∧ SLT e.2.2.2.length (pMo s').toInt a := by
  unfold tChange at h
  obtain ⟨n, hn⟩ : ∃ n : Int32, n = (if row = true then 1 else 0) + (if decide ((kd e s).toInt = 42) = true then 0 else 1) := ⟨_, rfl⟩
  have n0 : 0 ≤ n.toInt ∧ n.toInt ≤ 8 := by
    rw [hn]
    cases row <;> cases decide ((kd e s).toInt = 42) <;> decide
  have h : bd (tWant ((if row = true then 1 else 0) + (if decide ((kd e s).toInt = 42) = true then 0 else 1)) e s) _ = .ok s' := h
  rw [← hn] at h
  obtain ⟨s1, h1, h⟩ := bd_inv h
  obtain ⟨s2, h2, h⟩ := bd_inv h
  obtain ⟨s3, h3, h⟩ := bd_inv h
  have e1 := ok_inj h
  obtain ⟨w1, w2, K1, at1⟩ := want_inv h1 I n0.1 n0.2
  obtain ⟨-, v2⟩ := open_inv h2
  have v2 : vp s2 = nx (vp s1) := by
    rw [v2]
    cases decide ((kd e s).toInt = 42) <;> rfl
  have I1 := K1.so I
  have K2 := KA.vx v2
  have I2 := K2.so I1
  have kc2 : pKc s2 = pKc s := (K1.tr K2).2.1
  have pb2 : pPb s2 = pPb s := (K1.tr K2).2.2.1
  have v2e : vp (em (tPre row sl (decide ((kd e s).toInt = 42))) s2) = vp s2 := vp_em
  have vb : vp (sPb (em (tPre row sl (decide ((kd e s).toInt = 42))) s2) (pPb s2 + n)) = vp (sPb s2 (pPb s2 + n)) := by
    have a1 : pAt (em (tPre row sl (decide ((kd e s).toInt = 42))) s2) = pAt s2 := congrArg (fun x => x.1) v2e
    have a2 : pKn (em (tPre row sl (decide ((kd e s).toInt = 42))) s2) = pKn s2 := congrArg (fun x => x.2.1) v2e
    have a3 : pKc (em (tPre row sl (decide ((kd e s).toInt = 42))) s2) = pKc s2 := congrArg (fun x => x.2.2.1) v2e
    have a4 : pDu (em (tPre row sl (decide ((kd e s).toInt = 42))) s2) = pDu s2 := congrArg (fun x => x.2.2.2.2.1) v2e
    have a5 : pMo (em (tPre row sl (decide ((kd e s).toInt = 42))) s2) = pMo s2 := congrArg (fun x => x.2.2.2.2.2) v2e
    show ((pAt (em _ s2), pKn (em _ s2), pKc (em _ s2), pPb s2 + n, pDu (em _ s2), pMo (em _ s2)) : V6) = (pAt s2, pKn s2, pKc s2, pPb s2 + n, pDu s2, pMo s2)
    rw [a1, a2, a3, a4, a5]
  have I3 : SO (vp (sPb s2 (pPb s2 + n))) := I2.pm (by rw [kc2, pb2]; exact w1) n0.1 n0.2
  obtain ⟨K3, G3⟩ := (hE _ _ _ _ h3).2 (by rw [vb]; exact I3)
  rw [vb] at K3
  have pb3 : pPb s3 = pPb s2 + n := K3.2.2.1
  have vf : vp s' = ((pAt s3, pKn s3, pKc s3, pPb s3 - n, pDu s3, pMo s3) : V6) := by rw [← e1]; show vp (tClose (em _ _)) = _; rw [vp_cl, vp_em]; rfl
  have pbf : pPb s' = pPb s := by
    have : pPb s' = pPb s3 - n := congrArg (fun x => x.2.2.2.1) vf
    rw [this, pb3, pb2]
    exact Int32.add_sub_cancel _ _
  have mf : pMo s' = pMo s3 := congrArg (fun x => x.2.2.2.2.2) vf
  have af : pAt s' = pAt s3 := congrArg (fun x => x.1) vf
  have kf : pKn s' = pKn s := by
    have : pKn s' = pKn s3 := congrArg (fun x => x.2.1) vf
    rw [this, show pKn s3 = pKn s2 from K3.1, show pKn s2 = pKn s1 from K2.1, show pKn s1 = pKn s from K1.1]
  have cf : pKc s' = pKc s := by
    have : pKc s' = pKc s3 := congrArg (fun x => x.2.2.1) vf
    rw [this, show pKc s3 = pKc s2 from K3.2.1, kc2]
  have df : pDu s' = false := by
    have : pDu s' = pDu s3 := congrArg (fun x => x.2.2.2.2.1) vf
    rw [this]; exact K3.2.2.2.1.1
  have m1 : (pMo s).toInt ≤ (pMo s1).toInt := K1.2.2.2.2
  have m2 : (pMo s1).toInt ≤ (pMo s2).toInt := K2.2.2.2.2
  have m3 : (pMo s2).toInt ≤ (pMo s3).toInt := K3.2.2.2.2
  refine ⟨⟨kf, cf, pbf, ⟨df, fun w => by have w1 := K1.2.2.2.1.2 w; have w2 := K2.2.2.2.1.2 w1; have w3 : (pMo s3).toInt ≤ 500 := K3.2.2.2.1.2 w2; show (pMo s').toInt ≤ 500; rw [mf]; exact w3⟩, ?_⟩, fun kn pb i a j sn g n9 hn9 hx9 A hg => ?_⟩
  · show (pMo s).toInt ≤ (pMo s').toInt
    rw [mf]
    omega
  have gs := gsl_i I A
  have A3 : AT (sPb (em (tPre row sl (decide ((kd e s).toInt = 42))) s2) (pPb s2 + n)) kn (pb + n) (i + 1) := by
    have a1 : pAt (em (tPre row sl (decide ((kd e s).toInt = 42))) s2) = pAt s2 := congrArg (fun x => x.1) v2e
    have a2 : pKn (em (tPre row sl (decide ((kd e s).toInt = 42))) s2) = pKn s2 := congrArg (fun x => x.2.1) v2e
    have B := (A.k1 K1 (j := i) (by rw [at1]; exact A.2.2)).n1 v2
    exact ⟨by show kn = pKn (em _ s2); rw [a2]; exact B.1, by show pb + n = pPb s2 + n; rw [B.2.1], by show i + 1 = pAt (em _ s2); rw [a1]; exact B.2.2⟩
  have ki : e.1 i = kd e s := by rw [A.2.2]; rfl
  have sr : ∀ r : Int32, r.toInt = 0 ∨ r.toInt = 1 → (gsl kn pb + r).toInt = (gsl kn pb).toInt + r.toInt := fun r hr => by
    have i4 : (pKc s).toInt + (pPb s).toInt ≤ 500 := I.2.2.2
    have i3 : 0 ≤ (pPb s).toInt := I.2.2.1
    have i2 : (pKc s).toInt = ((pKn s).length : Int) := I.2.1
    exact add_z rfl rfl (by omega) (by omega)
  have P1 : ∀ M, SLT e.2.2.2.length M [gPut sn g] := fun M => slt_pt hn9 hx9
  have R1 : ∀ M, SLT e.2.2.2.length M [gRead sn g] := fun M => slt_rd hn9 hx9
  rw [mf, af]
  unfold gChange at hg
  rw [ki] at hg
  by_cases c : (kd e s).toInt = 42
  · have hg : ((G true e kn (pb + (if row = true then 1 else 0)) (i + 1)).bind fun q => some ((if row = true then [evx 9 g (gsl kn pb)] else []) ++ q.1 ++ [if row = true then evx 11 (gsl kn pb) 0 else gPut sn g], q.2)) = some (a, j) := by
      have := hg
      rw [if_pos c] at this
      exact this
    have en : n = (if row = true then 1 else 0) := by
      rw [hn, if_pos (decide_eq_true c)]
      exact Int32.add_zero _
    rw [← en] at hg
    obtain ⟨q, hq, hg⟩ := Option.bind_eq_some_iff.mp hg
    have e2 := Option.some.inj hg
    have el : _ = a := congrArg Prod.fst e2
    have ej : q.2 = j := congrArg Prod.snd e2
    obtain ⟨b1, b2⟩ := G3 _ _ _ q.1 q.2 A3 hq
    rw [← el, ← ej]
    refine ⟨b1, SLT.app (SLT.app ?_ b2) ?_⟩
    · cases row with
      | false => exact SLT.nil
      | true =>
        have n1 : n.toInt = 1 := by rw [en]; decide
        exact SLT.k9 (by omega)
    · cases row with
      | false => exact P1 _
      | true => exact SLT.o
  · have hg : ((G true e kn (pb + (if row = true then 1 else 0) + 1) (i + 1)).bind fun q => some ((if row = true then [evx 9 g (gsl kn pb), evx 10 0 0] else [gRead sn g]) ++ [evx 4 (gsl kn pb + (if row = true then 1 else 0)) 0] ++ q.1 ++ [evx 20 (kd e s + 10) (gsl kn pb + (if row = true then 1 else 0)), if row = true then evx 11 (gsl kn pb) 0 else gPut sn g], q.2)) = some (a, j) := by
      have := hg
      rw [if_neg c] at this
      exact this
    have en : n = (if row = true then 1 else 0) + 1 := by rw [hn, if_neg (show ¬ decide ((kd e s).toInt = 42) = true by rw [decide_eq_false c]; exact Bool.false_ne_true)]
    have ep : pb + (if row = true then 1 else 0) + 1 = pb + n := by rw [en, Int32.add_assoc]
    rw [ep] at hg
    obtain ⟨q, hq, hg⟩ := Option.bind_eq_some_iff.mp hg
    have e2 := Option.some.inj hg
    have el : _ = a := congrArg Prod.fst e2
    have ej : q.2 = j := congrArg Prod.snd e2
    obtain ⟨b1, b2⟩ := G3 _ _ _ q.1 q.2 A3 hq
    rw [← el, ← ej]
    refine ⟨b1, ?_⟩
    have k10 : (kd e s + 10).toInt = (kd e s).toInt + 10 := add_z rfl (by decide) (by omega) (by omega)
    have B9 : 53 ≤ (kd e s + 10).toInt ∧ (kd e s + 10).toInt ≤ 68 := by omega
    cases row with
    | false =>
      have n1 : n.toInt = 1 := by rw [en]; decide
      have z := sr 0 (Or.inl (by decide))
      have z0 : (0 : Int32).toInt = 0 := by decide
      exact ((SLT.app (R1 _) (SLT.k4 (by show (gsl kn pb + 0).toInt < _; omega))).app b2).app (SLT.app (a := [evx 20 _ _]) (SLT.bn B9) (P1 _))
    | true =>
      have n1 : n.toInt = 2 := by rw [en]; decide
      have z := sr 1 (Or.inr (by decide))
      have z0 : (1 : Int32).toInt = 1 := by decide
      exact ((SLT.app (SLT.app (a := [evx 9 _ _]) (b := [evx 10 0 0]) (SLT.k9 (by omega)) SLT.o) (SLT.k4 (by show (gsl kn pb + 1).toInt < _; omega))).app b2).app (SLT.app (a := [evx 20 _ _]) (b := [evx 11 _ 0]) (SLT.bn B9) SLT.o)
end XQE
