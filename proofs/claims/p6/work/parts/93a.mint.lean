/-! the meaning: what lies on the pile, the frames -/
def PT (p : Nat → Int32) (ng : Int) (b : Nat) : List Bool → Prop
  | [] => True
  | x :: R => PT p ng b R ∧ (x = true → 0 ≤ (p (b + R.length)).toInt ∧ (p (b + R.length)).toInt < ng)
theorem PT.keep {p q : Nat → Int32} {ng : Int} {b : Nat} : ∀ {A : List Bool}, PT p ng b A → (∀ i, b ≤ i → i < b + A.length → q i = p i) → PT q ng b A
  | [], _, _ => trivial
  | x :: R, h, k => by
    refine ⟨PT.keep h.1 (fun i h1 h2 => k i h1 (by rw [List.length_cons]; omega)), fun e => ?_⟩
    rw [k (b + R.length) (by omega) (by rw [List.length_cons]; omega)]
    exact h.2 e
theorem PT.suf {p : Nat → Int32} {ng : Int} {b : Nat} {R : List Bool} : ∀ {A : List Bool}, PT p ng b (A ++ R) → PT p ng b R
  | [], h => h
  | _ :: _, h => PT.suf h.1
theorem PT.f {p : Nat → Int32} {ng : Int} {b : Nat} {R : List Bool} (h : PT p ng b R) : PT p ng b (false :: R) := ⟨h, fun e => absurd e (by decide)⟩
def cum (fr cl : Nat → Int32) : Nat → Int
  | 0 => 0
  | k + 1 => cum fr cl k + (fr (cl k).toNatClampNeg).toInt
theorem cum_keep {fr cl cl' : Nat → Int32} : ∀ {n : Nat}, (∀ i, i < n → cl' i = cl i) → cum fr cl' n = cum fr cl n
  | 0, _ => rfl
  | n + 1, k => by
    show cum fr cl' n + _ = cum fr cl n + _
    rw [cum_keep (fun i hi => k i (by omega)), k n (by omega)]
def RK (o : Nat → Int32) (τ : Nat → TT) (j : Nat) : Int := if (o j).toInt = 13 then 0 else if (τ j).2.2.1 = true then 40000 - (j : Int) else 20000 - (j : Int)
theorem RK.r {o : Nat → Int32} {τ : Nat → TT} {j : Nat} (h : j < 16000) : 0 ≤ RK o τ j ∧ RK o τ j ≤ 40000 := by unfold RK; split; omega; split <;> omega
theorem RK.p {o : Nat → Int32} {τ : Nat → TT} {j : Nat} (h : j < 16000) (ho : (o j).toInt ≠ 13) : 4000 ≤ RK o τ j := by unfold RK; rw [if_neg ho]; split <;> omega
def cur (o : Nat → Int32) (T : Nat → Nat → TT) (cl bk : Nat → Int32) : Nat → Int
  | 0 => 0
  | k + 1 => cur o T cl bk k + RK o (T (cl k).toNatClampNeg) (bk (k + 1)).toNatClampNeg
theorem cur_keep {o : Nat → Int32} {T : Nat → Nat → TT} {cl bk cl' bk' : Nat → Int32} : ∀ {n : Nat}, (∀ i, i < n → cl' i = cl i) → (∀ i, i < n → bk' (i + 1) = bk (i + 1)) → cur o T cl' bk' n = cur o T cl bk n
  | 0, _, _ => rfl
  | n + 1, k1, k2 => by
    show cur o T cl' bk' n + _ = cur o T cl bk n + _
    rw [cur_keep (fun i hi => k1 i (by omega)) (fun i hi => k2 i (by omega)), k1 n (by omega), k2 n (by omega)]
def PRG (T : Nat → Nat → TT) (E : Nat → Nat) (h : Nat → Int) (v : MS) : Prop :=
  (∀ f : Nat, (f : Int) < (v.1 0 74).toInt → FN2 (v.1 71) (v.1 72) (v.1 78) (v.1 79) (v.1 81) (v.1 82) (v.1 0 74).toInt (v.1 0 76).toInt (v.1 0 75).toInt f (E f) (h f) (T f) ∧ (E f : Int) ≤ 16000) ∧ BF v ∧ (v.1 0 76).toInt ≤ 4096
theorem skol {P : Nat → Prop} {Q : Nat → Nat → Int → (Nat → TT) → Prop} (H : ∀ f, P f → ∃ a b c, Q f a b c) : ∃ (A : Nat → Nat) (B : Nat → Int) (C : Nat → Nat → TT), ∀ f, P f → Q f (A f) (B f) (C f) := by
  have h1 : ∀ f, ∃ x : Nat × Int × (Nat → TT), P f → Q f x.1 x.2.1 x.2.2 := fun f => by
    by_cases p : P f
    · obtain ⟨a, b, c, q⟩ := H f p
      exact ⟨(a, b, c), fun _ => q⟩
    · exact ⟨(0, 0, fun _ => ([], 0, true, false)), fun w => absurd w p⟩
  exact ⟨fun f => (Classical.choose (h1 f)).1, fun f => (Classical.choose (h1 f)).2.1, fun f => (Classical.choose (h1 f)).2.2, fun f p => Classical.choose_spec (h1 f) p⟩
theorem PRG.of {v : MS} (b : BG v) (bf : BF v) (h : (v.1 0 76).toInt ≤ 4096) : ∃ T E hh, PRG T E hh v := by
  obtain ⟨E, hh, T, q⟩ := skol b
  exact ⟨T, E, hh, q, bf, h⟩
theorem PRG.same {T : Nat → Nat → TT} {E : Nat → Nat} {h : Nat → Int} {v u : MS} (p : PRG T E h v) (F : ∀ k ∈ [74, 75, 76], u.1 0 k = v.1 0 k) (G : ∀ k ∈ [71, 72, 78, 79, 81, 82, 85, 86], u.1 k = v.1 k) : PRG T E h u := by
  unfold PRG BF
  rw [F 74 (by decide), F 75 (by decide), F 76 (by decide), G 71 (by decide), G 72 (by decide), G 78 (by decide), G 79 (by decide), G 81 (by decide), G 82 (by decide), G 85 (by decide), G 86 (by decide)]
  exact p
/-- base of frame k of n, the topmost's is b -/
def bsk (v : MS) (n k : Nat) (b : Int32) : Int32 := if k + 1 = n then b else v.1 108 (k + 1)
/-- frame k waits for frame k + 1, whose base is b -/
def FRM (T : Nat → Nat → TT) (E : Nat → Nat) (v : MS) (k : Nat) (b : Int32) : Prop :=
  ∃ R, (T (v.1 109 k).toNatClampNeg (v.1 107 (k + 1)).toNatClampNeg).1 = false :: R ∧ (v.1 81 (v.1 109 k).toNatClampNeg).toInt ≤ (v.1 107 (k + 1)).toInt ∧ (v.1 107 (k + 1)).toInt < (E (v.1 109 k).toNatClampNeg : Int) ∧
    b.toInt = (v.1 108 (k + 1)).toInt + (v.1 82 (v.1 109 k).toNatClampNeg).toInt + (R.length : Int) ∧ PT (v.1 105) (v.1 0 76).toInt ((v.1 108 (k + 1)).toInt + (v.1 82 (v.1 109 k).toNatClampNeg).toInt).toNat R
def SUS (T : Nat → Nat → TT) (E : Nat → Nat) (v : MS) (n : Nat) (b : Int32) : Prop :=
  (∀ k, k < n → 0 ≤ (v.1 109 k).toInt ∧ (v.1 109 k).toInt < (v.1 0 74).toInt) ∧
  (∀ k, k + 1 < n → FRM T E v k (bsk v n (k + 1) b)) ∧
  (∀ k, k < n → 0 ≤ (bsk v n k b).toInt ∧ 2 * (bsk v n k b).toInt ≤ cum (v.1 79) (v.1 109) k)
section SUSS
variable {T : Nat → Nat → TT} {E : Nat → Nat} {h : Nat → Int} {v u : MS} {n k : Nat} {b j j' : Int32}
/-- what a function keeps to -/
theorem PRG.at (p : PRG T E h v) {f : Int32} (h0 : 0 ≤ f.toInt) (h1 : f.toInt < (v.1 0 74).toInt) : FN2 (v.1 71) (v.1 72) (v.1 78) (v.1 79) (v.1 81) (v.1 82) (v.1 0 74).toInt (v.1 0 76).toInt (v.1 0 75).toInt f.toNatClampNeg (E f.toNatClampNeg) (h f.toNatClampNeg) (T f.toNatClampNeg) ∧ (E f.toNatClampNeg : Int) ≤ 16000 :=
  p.1 _ (by have := nat_z h0; omega)
theorem PRG.lo (p : PRG T E h v) {f : Int32} (h0 : 0 ≤ f.toInt) (h1 : f.toInt < (v.1 0 74).toInt) : 0 ≤ (v.1 82 f.toNatClampNeg).toInt ∧ (v.1 82 f.toNatClampNeg).toInt ≤ h f.toNatClampNeg ∧ (v.1 79 f.toNatClampNeg).toInt = 8 + 4 * h f.toNatClampNeg ∧ 0 ≤ (v.1 78 f.toNatClampNeg).toInt ∧ (v.1 78 f.toNatClampNeg).toInt ≤ (v.1 82 f.toNatClampNeg).toInt ∧ 0 ≤ (v.1 81 f.toNatClampNeg).toInt := by
  obtain ⟨_, _, _, _, _, p6, p7, p8, p9, p10⟩ := (p.at h0 h1).1
  exact ⟨by omega, p9, p6, p7, p8, p10⟩
theorem SUS.mono (p : PRG T E h v) (s : SUS T E v n b) : ∀ d k, k + d + 1 = n → (bsk v n k b).toInt ≤ b.toInt
  | 0, k, e => by unfold bsk; rw [if_pos (by omega)]; exact Int.le_refl _
  | d + 1, k, e => by
    have ih := SUS.mono p s d (k + 1) (by omega)
    obtain ⟨R, _, _, _, r4, _⟩ := s.2.1 k (by omega)
    have c := s.1 k (by omega)
    have l := p.lo c.1 c.2
    have e1 : bsk v n k b = v.1 108 (k + 1) := if_neg (by omega)
    rw [e1]; omega
theorem SUS.same (p : PRG T E h v) (s : SUS T E v n b) (F : ∀ k ∈ [74, 76], u.1 0 k = v.1 0 k) (G : ∀ k ∈ [79, 81, 82], u.1 k = v.1 k) (k9 : ∀ i, i < n → u.1 109 i = v.1 109 i) (k7 : ∀ i, i + 1 < n → u.1 107 (i + 1) = v.1 107 (i + 1)) (k8 : ∀ i, i + 1 < n → u.1 108 (i + 1) = v.1 108 (i + 1)) (kp : ∀ i : Nat, (i : Int) < b.toInt → u.1 105 i = v.1 105 i) : SUS T E u n b := by
  have eb : ∀ k, k < n → bsk u n k b = bsk v n k b := fun k hk => by
    unfold bsk
    by_cases q : k + 1 = n
    · rw [if_pos q, if_pos q]
    · rw [if_neg q, if_neg q, k8 k (by omega)]
  refine ⟨fun k hk => by rw [k9 k hk, F 74 (by decide)]; exact s.1 k hk, fun k hk => ?_, fun k hk => ?_⟩
  · obtain ⟨R, r1, r2, r3, r4, r5⟩ := s.2.1 k hk
    have m := SUS.mono p s (n - k - 2) (k + 1) (by omega)
    have m0 := (s.2.2 k (by omega)).1
    have e1 : bsk v n k b = v.1 108 (k + 1) := if_neg (by omega)
    rw [e1] at m0
    have c := s.1 k (by omega)
    have l := p.lo c.1 c.2
    unfold FRM
    rw [eb (k + 1) hk, k9 k (by omega), k7 k hk, k8 k hk, G 81 (by decide), G 82 (by decide), F 76 (by decide)]
    exact ⟨R, r1, r2, r3, r4, r5.keep (fun i _ hi => kp i (by omega))⟩
  · rw [eb k hk, G 79 (by decide), cum_keep (fun i hi => k9 i (by omega))]; exact s.2.2 k hk
theorem SUS.cur0 (p : PRG T E h v) (s : SUS T E v n b) : ∀ k, k + 1 ≤ n → 0 ≤ cur (v.1 71) T (v.1 109) (v.1 107) k
  | 0, _ => Int.le_refl _
  | k + 1, e => by
    have ih := SUS.cur0 p s k (by omega)
    obtain ⟨R, _, r2, r3, _⟩ := s.2.1 k (by omega)
    have c := s.1 k (by omega)
    have l := p.lo c.1 c.2
    have z := (p.at c.1 c.2).2
    have e2 := nat_z (x := v.1 107 (k + 1)) (by omega)
    have := (RK.r (o := v.1 71) (τ := T (v.1 109 k).toNatClampNeg) (j := (v.1 107 (k + 1)).toNatClampNeg) (by omega)).1
    show 0 ≤ cur (v.1 71) T (v.1 109) (v.1 107) k + _
    omega
theorem SUS.cum8 (p : PRG T E h v) (s : SUS T E v n b) : ∀ k, k ≤ n → 8 * (k : Int) ≤ cum (v.1 79) (v.1 109) k
  | 0, _ => Int.le_refl _
  | k + 1, e => by
    have ih := SUS.cum8 p s k (by omega)
    have c := s.1 k (by omega)
    have l := p.lo c.1 c.2
    show 8 * ((k + 1 : Nat) : Int) ≤ cum (v.1 79) (v.1 109) k + _
    omega
end SUSS
/-- the function of the topmost frame -/
def tfn (v : MS) : Int32 := v.1 109 ((v.1 0 110).toNatClampNeg - 1)
def PHI (T : Nat → Nat → TT) (v : MS) (j : Int32) : Int := ((v.1 0 114).toInt - (v.1 0 113).toInt) * 40001 + cur (v.1 71) T (v.1 109) (v.1 107) ((v.1 0 110).toNatClampNeg - 1) + RK (v.1 71) (T (tfn v).toNatClampNeg) j.toNatClampNeg
/-- at order j of the topmost frame -/
def TOPF (T : Nat → Nat → TT) (E : Nat → Nat) (v : MS) (j : Int32) : Prop :=
  (v.1 81 (tfn v).toNatClampNeg).toInt ≤ j.toInt ∧ j.toInt < (E (tfn v).toNatClampNeg : Int) ∧ (v.1 0 106).toInt = (v.1 0 111).toInt + (v.1 82 (tfn v).toNatClampNeg).toInt + ((T (tfn v).toNatClampNeg j.toNatClampNeg).1.length : Int) ∧
  PT (v.1 105) (v.1 0 76).toInt ((v.1 0 111).toInt + (v.1 82 (tfn v).toNatClampNeg).toInt).toNat (T (tfn v).toNatClampNeg j.toNatClampNeg).1
def BUD (v : MS) (x : Int) : Prop := 0 ≤ (v.1 0 113).toInt ∧ (v.1 0 113).toInt ≤ (v.1 0 114).toInt ∧ (v.1 0 114).toInt ≤ 20000 ∧ 0 ≤ (v.1 0 119).toInt ∧ (v.1 0 119).toInt + x ≤ 1000000000 ∧ 0 ≤ (v.1 0 120).toInt ∧ (v.1 0 120).toInt + x ≤ 1000000000
def MI (T : Nat → Nat → TT) (E : Nat → Nat) (h : Nat → Int) (v : MS) (j : Int32) : Prop :=
  PRG T E h v ∧ 1 ≤ (v.1 0 110).toInt ∧ SUS T E v (v.1 0 110).toNatClampNeg (v.1 0 111) ∧ TOPF T E v j ∧ (v.1 0 115).toInt = cum (v.1 79) (v.1 109) (v.1 0 110).toNatClampNeg ∧ (v.1 0 115).toInt ≤ 16384 ∧ BUD v (PHI T v j)
section MIS
variable {T : Nat → Nat → TT} {E : Nat → Nat} {h : Nat → Int} {v u : MS} {n k : Nat} {b j j' : Int32}
theorem MI.tf (m : MI T E h v j) : 0 ≤ (tfn v).toInt ∧ (tfn v).toInt < (v.1 0 74).toInt := by
  obtain ⟨p, n1, s, _⟩ := m
  have e := nat_z (x := v.1 0 110) (by omega)
  exact s.1 _ (by omega)
theorem MI.num (m : MI T E h v j) : 0 ≤ (v.1 0 111).toInt ∧ 2 * (v.1 0 106).toInt ≤ 16384 ∧ 0 ≤ j.toInt ∧ j.toInt < 16000 ∧ 0 ≤ (v.1 82 (tfn v).toNatClampNeg).toInt ∧ (v.1 0 110).toInt ≤ 2048 ∧ (v.1 0 111).toInt + (v.1 82 (tfn v).toNatClampNeg).toInt ≤ (v.1 0 106).toInt ∧ 0 ≤ PHI T v j ∧ 1 ≤ (v.1 0 110).toInt := by
  have c := m.tf
  obtain ⟨p, n1, s, ⟨t1, t2, t3, t4⟩, e5, e6, bd⟩ := m
  have e := nat_z (x := v.1 0 110) (by omega)
  have l := p.lo c.1 c.2
  obtain ⟨f2, f3⟩ := p.at c.1 c.2
  have z := s.2.2 ((v.1 0 110).toNatClampNeg - 1) (by omega)
  have eb : bsk v (v.1 0 110).toNatClampNeg ((v.1 0 110).toNatClampNeg - 1) (v.1 0 111) = v.1 0 111 := if_pos (by omega)
  rw [eb] at z
  have ec : cum (v.1 79) (v.1 109) (v.1 0 110).toNatClampNeg = cum (v.1 79) (v.1 109) ((v.1 0 110).toNatClampNeg - 1) + (v.1 79 (tfn v).toNatClampNeg).toInt := by
    have : (v.1 0 110).toNatClampNeg = ((v.1 0 110).toNatClampNeg - 1) + 1 := by omega
    rw [this]; rfl
  have ej := nat_z (x := j) (by omega)
  have eg := nat_z (x := v.1 81 (tfn v).toNatClampNeg) l.2.2.2.2.2
  have len := f2.2.2.2.1 j.toNatClampNeg (by omega) (by omega)
  have c8 := SUS.cum8 p s (v.1 0 110).toNatClampNeg (Nat.le_refl _)
  have k0 := SUS.cur0 p s ((v.1 0 110).toNatClampNeg - 1) (by omega)
  have r0 := (RK.r (o := v.1 71) (τ := T (tfn v).toNatClampNeg) (j := j.toNatClampNeg) (by omega)).1
  have q0 : 0 ≤ ((v.1 0 114).toInt - (v.1 0 113).toInt) * 40001 := Int.mul_nonneg (by have := bd.2.1; omega) (by decide)
  refine ⟨z.1, by omega, by omega, by omega, l.1, by omega, by omega, ?_, n1⟩
  unfold PHI
  omega
/-- the order at j, its type and the next place's -/
theorem MI.ft (m : MI T E h v j) : FT (v.1 82 (tfn v).toNatClampNeg).toInt (v.1 0 76).toInt (v.1 0 75).toInt (T (tfn v).toNatClampNeg j.toNatClampNeg).2.1 (v.1 71 j.toNatClampNeg).toInt (v.1 72 j.toNatClampNeg) (T (tfn v).toNatClampNeg j.toNatClampNeg).1 (T (tfn v).toNatClampNeg (j.toNatClampNeg + 1)).1 := by
  have c := m.tf
  have nm := m.num
  obtain ⟨p, n1, s, ⟨t1, t2, t3, t4⟩, _⟩ := m
  have l := p.lo c.1 c.2
  have ej := nat_z (x := j) (by omega)
  have eg := nat_z (x := v.1 81 (tfn v).toNatClampNeg) l.2.2.2.2.2
  exact ((p.at c.1 c.2).1.2.2.2.2.1 j.toNatClampNeg (by omega) (by omega)).1
/-- the next place -/
theorem MI.nx (m : MI T E h v j) (h12 : (v.1 71 j.toNatClampNeg).toInt ≠ 12) (h15 : (v.1 71 j.toNatClampNeg).toInt ≠ 15) (hj : j'.toInt = j.toInt + 1) :
    j'.toNatClampNeg = j.toNatClampNeg + 1 ∧ (v.1 81 (tfn v).toNatClampNeg).toInt ≤ j'.toInt ∧ j'.toInt < (E (tfn v).toNatClampNeg : Int) ∧ (RK (v.1 71) (T (tfn v).toNatClampNeg) j'.toNatClampNeg < RK (v.1 71) (T (tfn v).toNatClampNeg) j.toNatClampNeg ∨ (v.1 71 j.toNatClampNeg).toInt = 13) := by
  have c := m.tf
  have nm := m.num
  obtain ⟨p, n1, s, ⟨t1, t2, t3, t4⟩, _⟩ := m
  have l := p.lo c.1 c.2
  obtain ⟨⟨p1, p2, p3, p4, p5, _⟩, f3⟩ := p.at c.1 c.2
  have ej := nat_z (x := j) (by omega)
  have ej2 := nat_z (x := j') (by omega)
  have eg := nat_z (x := v.1 81 (tfn v).toNatClampNeg) l.2.2.2.2.2
  have ne : j.toNatClampNeg ≠ E (tfn v).toNatClampNeg - 1 := fun w => h15 (by rw [w]; exact p3)
  have e1 : j'.toNatClampNeg = j.toNatClampNeg + 1 := by omega
  refine ⟨e1, by omega, by omega, ?_⟩
  by_cases w : (v.1 71 j.toNatClampNeg).toInt = 13
  · exact Or.inr w
  · left
    have cl := (p5 j.toNatClampNeg (by omega) (by omega)).2.1 h12 h15
    rw [e1]
    unfold RK
    rw [if_neg w, cl]
    split
    · split <;> omega
    · split <;> omega
/-- where a jump goes -/
theorem MI.jp (m : MI T E h v j) {A : List Bool} (hJ : JT (v.1 71 j.toNatClampNeg).toInt (T (tfn v).toNatClampNeg j.toNatClampNeg).1 A) :
    (T (tfn v).toNatClampNeg (v.1 72 j.toNatClampNeg).toNatClampNeg).1 = A ∧ (v.1 81 (tfn v).toNatClampNeg).toInt ≤ (v.1 72 j.toNatClampNeg).toInt ∧ (v.1 72 j.toNatClampNeg).toInt < (E (tfn v).toNatClampNeg : Int) ∧ RK (v.1 71) (T (tfn v).toNatClampNeg) (v.1 72 j.toNatClampNeg).toNatClampNeg < RK (v.1 71) (T (tfn v).toNatClampNeg) j.toNatClampNeg := by
  have c := m.tf
  have nm := m.num
  obtain ⟨p, n1, s, ⟨t1, t2, t3, t4⟩, _⟩ := m
  have l := p.lo c.1 c.2
  obtain ⟨⟨p1, p2, p3, p4, p5, _⟩, f3⟩ := p.at c.1 c.2
  have ej := nat_z (x := j) (by omega)
  have eg := nat_z (x := v.1 81 (tfn v).toNatClampNeg) l.2.2.2.2.2
  obtain ⟨⟨g1, g2, g3, g4⟩, g5⟩ := (p5 j.toNatClampNeg (by omega) (by omega)).2.2.1 A hJ
  have ea := nat_z (x := v.1 72 j.toNatClampNeg) (by omega)
  have w : (v.1 71 j.toNatClampNeg).toInt ≠ 13 := fun w => by rcases hJ with ⟨q, _⟩ | ⟨q, _⟩ <;> omega
  have pj := RK.p (o := v.1 71) (τ := T (tfn v).toNatClampNeg) (j := j.toNatClampNeg) (by omega) w
  refine ⟨g3, by omega, g5, ?_⟩
  rcases g4 with ⟨q1, q2⟩ | ⟨q1, q2⟩ | ⟨q1, q2, q3⟩
  · unfold RK
    rw [if_neg w, q2]
    split
    · split <;> omega
    · split <;> omega
  · have : RK (v.1 71) (T (tfn v).toNatClampNeg) (v.1 72 j.toNatClampNeg).toNatClampNeg = 0 := if_pos q2
    omega
  · unfold RK
    rw [if_neg w, q2, q3, if_pos rfl]
    split
    · omega
    · rw [if_neg (by decide)]; omega
/-- a step within the topmost frame -/
theorem MI.go (m : MI T E h v j) (F : ∀ k ∈ [74, 75, 76, 110, 111, 113, 114, 115], u.1 0 k = v.1 0 k) (G : ∀ k ∈ [71, 72, 78, 79, 81, 82, 85, 86, 107, 108, 109], u.1 k = v.1 k)
    (h1 : (v.1 81 (tfn v).toNatClampNeg).toInt ≤ j'.toInt) (h2 : j'.toInt < (E (tfn v).toNatClampNeg : Int)) {B : List Bool} (hB : (T (tfn v).toNatClampNeg j'.toNatClampNeg).1 = B) (hp : (u.1 0 106).toInt = (v.1 0 111).toInt + (v.1 82 (tfn v).toNatClampNeg).toInt + (B.length : Int))
    (hpt : PT (u.1 105) (v.1 0 76).toInt ((v.1 0 111).toInt + (v.1 82 (tfn v).toNatClampNeg).toInt).toNat B) (hk : ∀ i : Nat, (i : Int) < (v.1 0 111).toInt → u.1 105 i = v.1 105 i) (hr : RK (v.1 71) (T (tfn v).toNatClampNeg) j'.toNatClampNeg < RK (v.1 71) (T (tfn v).toNatClampNeg) j.toNatClampNeg)
    (h119 : 0 ≤ (u.1 0 119).toInt ∧ (u.1 0 119).toInt ≤ (v.1 0 119).toInt + 1) (h120 : 0 ≤ (u.1 0 120).toInt ∧ (u.1 0 120).toInt ≤ (v.1 0 120).toInt + 1) : MI T E h u j' ∧ PHI T u j' < PHI T v j := by
  obtain ⟨p, n1, s, t, e5, e6, bd⟩ := m
  have et : tfn u = tfn v := by unfold tfn; rw [F 110 (by decide), G 109 (by decide)]
  have eP : PHI T u j' < PHI T v j := by
    unfold PHI
    rw [et, F 110 (by decide), F 113 (by decide), F 114 (by decide), G 71 (by decide), G 109 (by decide), G 107 (by decide)]
    omega
  refine ⟨⟨p.same (fun k hk => F k (by simp at hk ⊢; omega)) (fun k hk => G k (by simp at hk ⊢; omega)), by rw [F 110 (by decide)]; exact n1, ?_, ?_, ?_, by rw [F 115 (by decide)]; exact e6, ?_⟩, eP⟩
  · rw [F 110 (by decide), F 111 (by decide)]
    exact s.same p (fun k hk => F k (by simp at hk ⊢; omega)) (fun k hk => G k (by simp at hk ⊢; omega)) (fun i _ => by rw [G 109 (by decide)]) (fun i _ => by rw [G 107 (by decide)]) (fun i _ => by rw [G 108 (by decide)]) hk
  · unfold TOPF
    rw [et, G 81 (by decide), G 82 (by decide), F 111 (by decide), F 76 (by decide), hB]
    exact ⟨h1, h2, hp, hpt⟩
  · rw [F 115 (by decide), F 110 (by decide), G 79 (by decide), G 109 (by decide)]; exact e5
  · obtain ⟨b1, b2, b3, b4, b5, b6, b7⟩ := bd
    refine ⟨by rw [F 113 (by decide)]; exact b1, by rw [F 113 (by decide), F 114 (by decide)]; exact b2, by rw [F 114 (by decide)]; exact b3, h119.1, by omega, h120.1, by omega⟩
end MIS
