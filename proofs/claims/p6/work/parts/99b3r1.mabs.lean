/-! the reference's state as a state of the reading -/
def SC : List (Int32 × Int32) := [(40, 30), (41, 31), (123, 32), (125, 33), (91, 34), (93, 35), (59, 36), (44, 37), (63, 38), (58, 39), (33, 40), (126, 41), (61, 42), (15659, 43), (15661, 44), (15658, 45), (15663, 46), (15653, 47), (15654, 48), (15740, 49), (15710, 50), (4013116, 51), (4013630, 52), (43, 53), (45, 54), (42, 55), (47, 56), (37, 57), (38, 58), (124, 59), (94, 60), (15420, 61), (15934, 62), (15677, 63), (15649, 64), (60, 65), (15676, 66), (62, 67), (15678, 68), (9766, 69), (31868, 70)]
def sgk (x : Int32) : Int32 := ((SC.find? (fun q => q.1 == x)).map (fun q => q.2)).getD 99
def kM (k : Int32) (x : Int64) (d : Int32) : Int32 := if k = 3 then 10 + x.toInt32 else if k = 4 then (if d ≠ 0 ∧ (2147483647 : Int) < x.toInt then 4 else 3) else if k = 5 then sgk x.toInt32 else if k = 6 then 5 else k
def KL : List Int32 := [0, 1, 2, 3, 4, 5, 6, 7, 8, 9, 10]
def TV (k : Int32) (x : Int64) : Prop := k ∈ [0, 1, 2, 3, 4, 5, 6] ∧ (k = 3 → ∃ y ∈ KL, x = y.toInt64) ∧ (k = 5 → ∃ q ∈ SC, x = q.1.toInt64)
/-- two tokens of the same bytes -/
def SM (w : MS) (i j : Int32) : Prop := (w.1 8 i.toNatClampNeg).toInt - (w.1 7 i.toNatClampNeg).toInt = (w.1 8 j.toNatClampNeg).toInt - (w.1 7 j.toNatClampNeg).toInt ∧ ∀ k : Int32, 0 ≤ k.toInt → k.toInt < (w.1 8 i.toNatClampNeg).toInt - (w.1 7 i.toNatClampNeg).toInt → w.1 3 (w.1 7 i.toNatClampNeg + k).toNatClampNeg = w.1 3 (w.1 7 j.toNatClampNeg + k).toNatClampNeg
/-- the first n tokens are those of the reference -/
def TR (n : Int) (K : TK) (w : MS) : Prop := (∀ i : Int32, 0 ≤ i.toInt → i.toInt < n → K.1 i = kM (w.1 6 i.toNatClampNeg) (w.2 i.toNatClampNeg) (w.1 10 i.toNatClampNeg) ∧ K.2.2 i = w.1 7 i.toNatClampNeg ∧ ((w.1 6 i.toNatClampNeg = 4 ∨ w.1 6 i.toNatClampNeg = 6) → K.2.1 i = (w.2 i.toNatClampNeg).toInt32) ∧ TV (w.1 6 i.toNatClampNeg) (w.2 i.toNatClampNeg)) ∧ (∀ i j : Int32, 0 ≤ i.toInt → i.toInt < n → 0 ≤ j.toInt → j.toInt < n → K.1 i = 2 → K.1 j = 2 → (SM w i j ↔ K.2.1 i = K.2.1 j)) ∧ (∀ i : Int32, 0 ≤ i.toInt → i.toInt ≤ 1500 → i.toInt < n → 2 ≤ (K.1 i).toInt → i.toInt + 1 < n)
abbrev GM : Type := Bool × List Nat
def ovM (w : MS) : Bool := decide ((501 : Int) ≤ (w.1 0 39).toInt)
def caM (O : List Nat) (K : TK) (w : MS) : CA := if ovM w = true then [] else (List.range (w.1 0 39).toNatClampNeg).map (fun c => (K.2.1 (w.1 35 c), K.2.2 (w.1 35 c), if c ∈ O then 0 else w.1 36 c))
def knM (K : TK) (w : MS) : List Int32 := (List.range (w.1 0 30).toNatClampNeg).map (fun k => K.2.1 (w.1 29 k))
def aR (g : GM) (K : TK) (w : MS) : PS := mkP (w.1 0 47) (w.1 0 48) (decide (w.1 0 49 = w.1 0 47)) (w.1 0 31) (w.1 0 32) (if w.1 0 49 = w.1 0 47 then 0 else w.1 0 33) (decide (w.1 0 44 ≠ 0)) (decide (w.1 0 45 ≠ 0)) g.1 (ovM w) (if ovM w = true then 0 else w.1 0 12) (w.1 0 30) (knM K w) (caM g.2 K w)
def glM (K : TK) (w : MS) : List (Int32 × Int32) := (List.range (w.1 0 27).toNatClampNeg).map (fun k => (K.2.1 (w.1 23 k), w.1 26 k))
/-- names that are kept are tokens that are names -/
def NT (n : Int) (K : TK) (x : Int32) : Prop := 0 ≤ x.toInt ∧ x.toInt < n ∧ K.1 x = 2
def JG (bz : Bool) (n : Int) (K : TK) (e : PE) (w : MS) : Prop := TR n K w ∧ e = (K.1, K.2.1, K.2.2, glM K w) ∧ (∀ i j : Nat, i < j → (j : Int) < (w.1 0 27).toInt → K.2.1 (w.1 23 i) ≠ K.2.1 (w.1 23 j)) ∧ ((w.1 0 49).toInt ≤ (w.1 0 47).toInt ∧ 0 ≤ (w.1 0 47).toInt ∧ (w.1 0 47).toInt < n ∧ n ≤ 4002) ∧ (∀ k : Nat, (k : Int) < cond bz (w.1 0 30).toInt 0 → NT n K (w.1 29 k)) ∧ (∀ k : Nat, (k : Int) < (w.1 0 27).toInt → NT n K (w.1 23 k) ∧ (w.1 26 k = 0 ∨ w.1 26 k = 1)) ∧ (∀ k : Nat, (k : Int) < (w.1 0 39).toInt → NT n K (w.1 35 k))
abbrev JM (n : Int) (K : TK) (e : PE) (w : MS) : Prop := JG true n K e w
section MPR
variable {bz : Bool} {g : GM} {n : Int} {K : TK} {e : PE} {v u : MS} {t : Bool} {r pa pb : Int32}
theorem rKd (J : JG bz n K e v) : kd e (aR g K v) = kM (v.1 6 (v.1 0 47).toNatClampNeg) (v.2 (v.1 0 47).toNatClampNeg) (v.1 10 (v.1 0 47).toNatClampNeg) := by
  obtain ⟨T, rfl, -, J4, -⟩ := J
  exact (T.1 _ J4.2.1 J4.2.2.1).1
theorem rPl (J : JG bz n K e v) : pl e (aR g K v) = v.1 7 (v.1 0 47).toNatClampNeg := by
  obtain ⟨T, rfl, -, J4, -⟩ := J
  exact (T.1 _ J4.2.1 J4.2.2.1).2.1
theorem rTV (J : JG bz n K e v) : TV (v.1 6 (v.1 0 47).toNatClampNeg) (v.2 (v.1 0 47).toNatClampNeg) := (J.1.1 _ J.2.2.2.1.2.1 J.2.2.2.1.2.2.1).2.2.2
theorem sgk_SC : ∀ q ∈ SC, sgk q.1 = q.2 ∧ 30 ≤ q.2.toInt ∧ q.2.toInt ≤ 70 := by decide
theorem sgk_in : ∀ a ∈ SC, ∀ b ∈ SC, a.2 = b.2 → a.1 = b.1 := by decide
theorem i64_32 (x : Int32) : x.toInt64.toInt32 = x := by simp
/-- a token's kind by what it is -/
theorem kM_5 {k : Int32} {x : Int64} {d : Int32} (h : TV k x) {q : Int32 × Int32} (hq : q ∈ SC) : kM k x d = q.2 ↔ (k = 5 ∧ x = q.1.toInt64) := by
  have b := (sgk_SC q hq).2
  constructor
  · intro w
    unfold kM at w
    by_cases k3 : k = 3
    · rw [if_pos k3] at w
      obtain ⟨y, hy, rfl⟩ := h.2.1 k3
      rw [i64_32] at w
      have : ∀ y ∈ KL, (10 + y : Int32).toInt ≤ 20 := by decide
      have := this y hy
      rw [w] at this
      omega
    · rw [if_neg k3] at w
      by_cases k4 : k = 4
      · rw [if_pos k4] at w
        split at w
        · rw [← w] at b; exact absurd b.1 (by decide)
        · rw [← w] at b; exact absurd b.1 (by decide)
      · rw [if_neg k4] at w
        by_cases k5 : k = 5
        · rw [if_pos k5] at w
          obtain ⟨z, hz, rfl⟩ := h.2.2 k5
          rw [i64_32, (sgk_SC z hz).1] at w
          exact ⟨k5, by rw [sgk_in z hz q hq w]⟩
        · rw [if_neg k5] at w
          by_cases k6 : k = 6
          · rw [if_pos k6] at w
            rw [← w] at b; exact absurd b.1 (by decide)
          · rw [if_neg k6] at w
            have : ∀ k ∈ ([0, 1, 2, 3, 4, 5, 6] : List Int32), k.toInt ≤ 6 := by decide
            have := this k h.1
            rw [w] at this
            omega
  · rintro ⟨rfl, rfl⟩
    unfold kM
    rw [if_neg (by decide), if_neg (by decide), if_pos rfl, i64_32]
    exact (sgk_SC q hq).1
theorem kM_3 {k : Int32} {x : Int64} {d y : Int32} (h : TV k x) (hy : y ∈ KL) : kM k x d = 10 + y ↔ (k = 3 ∧ x = y.toInt64) := by
  have bb : ∀ y ∈ KL, 10 ≤ (10 + y : Int32).toInt ∧ (10 + y : Int32).toInt ≤ 20 := by decide
  have b := bb y hy
  constructor
  · intro w
    unfold kM at w
    by_cases k3 : k = 3
    · rw [if_pos k3] at w
      obtain ⟨z, hz, rfl⟩ := h.2.1 k3
      rw [i64_32] at w
      have inj : ∀ z ∈ KL, ∀ y ∈ KL, (10 + z : Int32) = 10 + y → z = y := by decide
      exact ⟨k3, by rw [inj z hz y hy w]⟩
    · rw [if_neg k3] at w
      by_cases k4 : k = 4
      · rw [if_pos k4] at w
        split at w
        · rw [← w] at b; exact absurd b.1 (by decide)
        · rw [← w] at b; exact absurd b.1 (by decide)
      · rw [if_neg k4] at w
        by_cases k5 : k = 5
        · rw [if_pos k5] at w
          obtain ⟨z, hz, rfl⟩ := h.2.2 k5
          rw [i64_32, (sgk_SC z hz).1] at w
          have := (sgk_SC z hz).2
          rw [w] at this
          omega
        · rw [if_neg k5] at w
          by_cases k6 : k = 6
          · rw [if_pos k6] at w
            rw [← w] at b; exact absurd b.1 (by decide)
          · rw [if_neg k6] at w
            have : ∀ k ∈ ([0, 1, 2, 3, 4, 5, 6] : List Int32), k.toInt ≤ 6 := by decide
            have := this k h.1
            rw [w] at this
            omega
  · rintro ⟨rfl, rfl⟩
    unfold kM
    rw [if_pos rfl, i64_32]
theorem lg0 {a b : Int64} : (lg_cmp a b).toInt = 0 ↔ a = b := by
  have e0 : (0 : Int32).toInt = 0 := by decide
  rw [← e0, Int32.toInt_inj]
  exact lg_cmp_eq a b
/-- is: does a sign stand there -/
theorem rIs (h : Q_m_is v pa r) (J : JG bz n K e v) {q : Int32 × Int32} (hq : q ∈ SC) (hp : q.1 = pa) : r.toInt ≠ 0 ↔ kd e (aR g K v) = q.2 := by
  obtain ⟨-, r3, ⟨-, h⟩, -, hr⟩ := h
  rw [rKd J, kM_5 (rTV J) hq, hr, hp]
  rcases h with ⟨a, rfl⟩ | ⟨a, ⟨b, rfl⟩ | ⟨b, rfl⟩⟩
  · exact ⟨fun w => absurd rfl w, fun w => absurd (congrArg Int32.toInt w.1) (by exact a)⟩
  · exact ⟨fun w => absurd rfl w, fun w => absurd (lg0.mpr w.2) b⟩
  · exact ⟨fun _ => ⟨Int32.toInt_inj.mp a, lg0.mp b⟩, fun _ => by decide⟩
theorem rIsKey (h : Q_m_isKey v pa r) (J : JG bz n K e v) (hp : pa ∈ KL) : r.toInt ≠ 0 ↔ kd e (aR g K v) = 10 + pa := by
  obtain ⟨-, h⟩ := h
  rw [rKd J, kM_3 (rTV J) hp]
  rcases h with ⟨a, rfl⟩ | ⟨a, ⟨b, rfl⟩ | ⟨b, rfl⟩⟩
  · exact ⟨fun w => absurd rfl w, fun w => absurd (congrArg Int32.toInt w.1) (by exact a)⟩
  · exact ⟨fun w => absurd rfl w, fun w => absurd (lg0.mpr w.2) b⟩
  · exact ⟨fun _ => ⟨Int32.toInt_inj.mp a, lg0.mp b⟩, fun _ => by decide⟩
end MPR
