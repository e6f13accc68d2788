/-! what is written behind a text -/
def TA (f : Nat → Int32) (n : Nat) (g : Nat → Int32) (k : Nat) (p : List Int32) : Prop := k = n + p.length ∧ (∀ i, i < n → g i = f i) ∧ ∀ i, i < p.length → g (n + i) = p.getD i 0
theorem TA.nil {f : Nat → Int32} {n : Nat} : TA f n f n [] := ⟨rfl, fun _ _ => rfl, fun i h => absurd h (Nat.not_lt_zero i)⟩
theorem TA.tr {f g h : Nat → Int32} {n k m : Nat} {p q : List Int32} (a : TA f n g k p) (b : TA g k h m q) : TA f n h m (p ++ q) := by
  obtain ⟨a1, a2, a3⟩ := a
  obtain ⟨b1, b2, b3⟩ := b
  refine ⟨by rw [List.length_append]; omega, fun i hi => (b2 i (by omega)).trans (a2 i hi), fun i hi => ?_⟩
  rw [List.length_append] at hi
  rcases Nat.lt_or_ge i p.length with z | z
  · rw [b2 (n + i) (by omega), a3 i z, List.getD_eq_getElem?_getD, List.getD_eq_getElem?_getD, List.getElem?_append_left z]
  · have e := b3 (i - p.length) (by omega)
    rw [show k + (i - p.length) = n + i by omega] at e
    rw [e, List.getD_eq_getElem?_getD, List.getD_eq_getElem?_getD, List.getElem?_append_right z]
theorem TA.eq {f g : Nat → Int32} {n k : Nat} {p q : List Int32} (a : TA f n g k p) (e : p = q) : TA f n g k q := e ▸ a
theorem TA.at {f g : Nat → Int32} {n k k2 : Nat} {p : List Int32} (a : TA f n g k p) (e : k = k2) : TA f n g k2 p := e ▸ a
theorem TA.one (f : Nat → Int32) (n : Nat) (x : Int32) : TA f n (upd f n x) (n + 1) [x] := by
  refine ⟨rfl, fun i hi => if_neg (by omega), fun i hi => ?_⟩
  have hi : i = 0 := by simp at hi; exact hi
  subst hi
  exact if_pos rfl
theorem TA.put {f g : Nat → Int32} {n : Nat} {x : Int32} (h : upd f (nI n).toNatClampNeg x = g) (hn : n < 100000) : TA f n g (n + 1) [x] := by
  rw [nI_clamp (by omega)] at h
  rw [← h]
  exact TA.one f n x
theorem TA.put0 {f g : Nat → Int32} {x : Int32} (h : upd f (0 : Int32).toNatClampNeg x = g) : TA f 0 g 1 [x] := by
  rw [show (0 : Int32).toNatClampNeg = 0 by decide] at h
  rw [← h]
  exact TA.one f 0 x
theorem TA.keep {f g : Nat → Int32} {n m : Nat} (h : ∀ i, i < m → g i = f i) (hn : n ≤ m) : TA f n g n [] := ⟨rfl, fun i hi => h i (by omega), fun i hi => absurd hi (Nat.not_lt_zero i)⟩
theorem cpy_lt {f z g : Nat → Int32} {m : Nat} (h : va_cpy f z (0 : Int32).toNatClampNeg (0 : Int32).toNatClampNeg (nI m).toNatClampNeg = g) (hm : m < 100000) : ∀ i, i < m → g i = f i := by
  intro i hi
  rw [← h, show (0 : Int32).toNatClampNeg = 0 by decide, nI_clamp (by omega)]
  unfold va_cpy
  rw [if_pos (by omega)]
  congr 1
  omega
/-- a constant's bytes -/
def strT (i : Nat) : List Int32 := bytS.getD i []
theorem strT_len : ∀ i, i < 66 → (strT i).length = lenS.getD i 0 := by decide +kernel
theorem TA.str {f g : Nat → Int32} {n i : Nat} (hi : i < 66) (h : va_cpy (fun j => (bytS.getD i []).getD j 0) f (0 : Int32).toNatClampNeg (nI n).toNatClampNeg (nI (lenS.getD i 0)).toNatClampNeg = g) (hn : n + lenS.getD i 0 < 100000) : TA f n g (n + lenS.getD i 0) (strT i) := by
  have hL := strT_len i hi
  rw [show (0 : Int32).toNatClampNeg = 0 by decide, nI_clamp (by omega), nI_clamp (by omega)] at h
  refine ⟨by omega, fun j hj => ?_, fun j hj => ?_⟩
  · rw [← h]
    exact if_neg (by omega)
  · rw [← h]
    unfold va_cpy
    rw [if_pos (by omega)]
    show (bytS.getD i []).getD (0 + (n + j - n)) 0 = _
    rw [show 0 + (n + j - n) = j by omega]
    rfl
/-- a sign as a byte -/
def chB (ch : Nat) : Int32 := vp_nar .byte ((nI ch).toInt8.toInt32)
theorem chB_1 : chB 32 = 32 ∧ chB 40 = 40 ∧ chB 41 = 41 ∧ chB 120 = 120 := by decide +kernel
/-! numbers in digits -/
def dgR (M : Nat) : Nat → List Int32
  | 0 => []
  | t + 1 => nI (48 + M / 10 ^ t % 10) :: dgR M t
theorem dgR_len (M : Nat) : ∀ t, (dgR M t).length = t
  | 0 => rfl
  | t + 1 => by
    show (dgR M t).length + 1 = t + 1
    rw [dgR_len M t]
theorem dgR_ten (M : Nat) : ∀ t, dgR M (t + 1) = dgR (M / 10) t ++ [nI (48 + M % 10)]
  | 0 => by
    show [nI (48 + M / 10 ^ 0 % 10)] = [nI (48 + M % 10)]
    rw [Nat.pow_zero, Nat.div_one]
  | t + 1 => by
    have ih := dgR_ten M t
    show nI (48 + M / 10 ^ (t + 1) % 10) :: dgR M (t + 1) = (nI (48 + M / 10 / 10 ^ t % 10) :: dgR (M / 10) t) ++ [nI (48 + M % 10)]
    rw [ih, Nat.div_div_eq_div_mul, Nat.pow_succ, Nat.mul_comm 10]
    rfl
theorem dgR_hun (M t : Nat) : dgR M (t + 2) = dgR (M / 100) t ++ [nI (48 + M % 100 / 10), nI (48 + M % 100 % 10)] := by
  rw [dgR_ten, dgR_ten, List.append_assoc]
  rw [show M / 10 / 10 = M / 100 by omega, show M / 10 % 10 = M % 100 / 10 by omega, show M % 10 = M % 100 % 10 by omega]
  rfl
def dgT (M : Nat) : List Int32 := dgR M (dgN M)
def decT (x : Int32) : List Int32 := if x < 0 then 45 :: dgT (-x.toInt).toNat else dgT x.toInt.toNat
theorem decT_len (x : Int32) : (decT x).length = dl x := by
  unfold decT dl dgT
  by_cases h : x < 0
  · rw [if_pos h, if_pos h, List.length_cons, dgR_len]
  · rw [if_neg h, if_neg h, dgR_len]
theorem dgB : ∀ k, k < 100 → vp_nar .byte ((tbD.getD 0 ("", [])).2.getD k 0) = nI (48 + k / 10) ∧ vp_nar .byte ((tbD.getD 1 ("", [])).2.getD k 0) = nI (48 + k % 10) := by decide +kernel
/-- digits written from the right: from c on, up to e, the signs p; below c as before -/
def TB (f : Nat → Int32) (g : Nat → Int32) (c e : Nat) (p : List Int32) : Prop := e = c + p.length ∧ (∀ i, i < c → g i = f i) ∧ ∀ i, i < p.length → g (c + i) = p.getD i 0
theorem TB.nil {f : Nat → Int32} {c : Nat} : TB f f c c [] := ⟨rfl, fun _ _ => rfl, fun i h => absurd h (Nat.not_lt_zero i)⟩
theorem TB.put {f g h : Nat → Int32} {c e k : Nat} {p : List Int32} {x y : Int32} (a : TB f g c e p) (hk : k + 1 = c) (hc : c < 100000) (hu : upd g (nI k).toNatClampNeg x = h) (hx : x = y) : TB f h k e (y :: p) := by
  obtain ⟨a1, a2, a3⟩ := a
  rw [nI_clamp (by omega), hx] at hu
  refine ⟨by rw [List.length_cons]; omega, fun i hi => ?_, fun i hi => ?_⟩
  · rw [← hu]
    exact (if_neg (by omega)).trans (a2 i (by omega))
  · rw [← hu]
    rcases i with _ | i
    · exact if_pos rfl
    · rw [List.length_cons] at hi
      refine (if_neg (by omega)).trans ?_
      have e2 := a3 i (by omega)
      rw [show c + i = k + (i + 1) by omega] at e2
      rw [e2]
      rfl
theorem TB.ta {f g : Nat → Int32} {b e : Nat} {p : List Int32} (a : TB f g b e p) : TA f b g e p := a
/-- a byte of a text, got as a char -/
def chR (f : Nat → Int32) (k : Nat) (r : Int32) : Prop := r = ((f k &&& 255).toUInt32 % 65536).toInt32
