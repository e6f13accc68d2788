/-! the class's deeds: signs that wait, one after the other -/
/-- a sign that waits: the sign, fuel and level behind it, numbers put by, the left side; where the left side began, where it ended, where the right side begins -/
abbrev FQ : Type := Int32 × Nat × Int × Int32 × List EV × MS × MS × MS
def sQ (q : FQ) : MS := q.2.2.2.2.2.1
def wQ (q : FQ) : MS := q.2.2.2.2.2.2.1
def tQ (q : FQ) : MS := q.2.2.2.2.2.2.2
/-- where what is read now began -/
def hdQ (v : MS) : List FQ → MS
  | [] => v
  | q :: _ => tQ q
def lvQ : List FQ → Int
  | [] => 1
  | q :: _ => (stg q.1).toInt + 1
/-- what is still to be read -/
def gK (O : EvO) (e : PE) (kn : List Int32) : List FQ → Option (List EV × Int32) → Option (List EV × Int32)
  | [], X => X
  | q :: l, X => gK O e kn l (X.bind fun r => gJ O q.2.1 q.2.2.1 e kn q.2.2.2.1 (gSign q.1 (gsl kn q.2.2.2.1) q.2.2.2.2.1 r.1) r.2)
/-- a sign has been begun: its deed, its mark -/
def SBq (k : Int32) (m : Int32) (w x : MS) : Prop := EF (w.1 0 317).toInt (w.1 0 321).toInt w x ∧ (x.1 0 381).toInt = (w.1 0 381).toInt + 1 ∧ (x.1 0 317).toInt - (x.1 0 305).toInt ≤ (w.1 0 317).toInt - (w.1 0 305).toInt ∧ x.1 380 (w.1 0 381).toNatClampNeg = 0 ∧ x.1 379 (w.1 0 381).toNatClampNeg = m ∧
  (((k.toInt = 69 ∨ k.toInt = 70) ∧ x.1 378 (w.1 0 381).toNatClampNeg = (if k.toInt = 69 then 16 else 18) ∧ m.toInt = (w.1 0 317).toInt ∧ (x.1 0 317).toInt = (w.1 0 317).toInt + 1 ∧ x.1 0 314 = w.1 0 314) ∨
   (¬ (k.toInt = 69 ∨ k.toInt = 70) ∧ x.1 378 (w.1 0 381).toNatClampNeg = 4 ∧ m = w.1 0 312 + w.1 0 314 ∧ (x.1 0 317).toInt = (w.1 0 317).toInt ∧ x.1 0 314 = w.1 0 314 + 1))
section UTF
variable {L1 L2 : List Nat} {P : Int32 × Int32 × Int32} {s v u w w1 x z : MS} {a b c : List EV} {e : PE} {pa pb pc1 pd r m : Int32} {k : Int32}
/-- a sign is done: its two sides become one list -/
theorem eFinA (S : SBq k m w1 x) (hk : k.toInt = 69 ∨ k.toInt = 70) (A : EA P s w1 a) (h0 : (0 ≤ (s.1 0 381).toInt ∧ 0 ≤ (s.1 0 321).toInt) ∧ 0 ≤ (s.1 0 317).toInt) (Cb : EA P x w b) (hx0 : 0 ≤ (x.1 0 381).toInt ∧ 0 ≤ (x.1 0 321).toInt) {n : Int32} (h1 : Q_x_X1_add L1 L2 (wA w 0 326 n) 15 0 0 z) (h2 : Q_x_X1_setLabel L1 L2 z m u) (sl : Int32) : EA P s u (gSign k sl a b) := by
  obtain ⟨F, e81, hx, d3, d2, S⟩ := S
  rcases S with ⟨-, d1, mm, e17, -⟩ | ⟨q, -⟩
  · have B1 : EA P w (wA w 0 326 n) [] := EA.wr 326 n
    have B2 : EA P (wA w 0 326 n) z [evx 15 0 0] := EA.add h1 (by unfold plE; decide) rfl
    have C := (Cb.tr B1 hx0).tr B2 hx0
    rw [List.append_nil] at C
    unfold gSign
    by_cases q : k.toInt = 69
    · rw [if_pos q] at d1 ⊢
      have := EA.fwd (y := 1) A h0 F e17 e81 d1 (by rw [d2]; exact mm) d3 hx C h2 mm (Or.inl rfl)
      simp only [List.append_assoc] at this ⊢
      exact this
    · rw [if_neg q] at d1 ⊢
      rw [if_pos (by omega)]
      have := EA.fwd (y := 0) A h0 F e17 e81 d1 (by rw [d2]; exact mm) d3 hx C h2 mm (Or.inr (Or.inr (Or.inl rfl)))
      simp only [List.append_assoc] at this ⊢
      exact this
  · exact absurd hk q
theorem eFinB (S : SBq k m w1 x) (hk : ¬ (k.toInt = 69 ∨ k.toInt = 70)) (A : EA P s w1 a) (h0 : 0 ≤ (s.1 0 381).toInt ∧ 0 ≤ (s.1 0 321).toInt) (Cb : EA P x w b) {n y : Int32} (h1 : Q_x_X1_add L1 L2 (wA (wA w 0 326 n) 0 314 y) 20 k m u) : EA P s u (gSign k m a b) := by
  obtain ⟨F, e81, hx, d3, d2, S⟩ := S
  rcases S with ⟨q, -⟩ | ⟨-, d1, mm, e17, -⟩
  · exact absurd q hk
  · unfold gSign
    rw [if_neg (fun q => hk (Or.inl q)), if_neg (fun q => hk (Or.inr q))]
    have h00 := A.2.1.2.2.2.2.1
    have h01 := A.1
    have n1 := natI (a := w1.1 0 381) (by omega)
    have B0 : EA P w1 x [evx 4 m 0] := by
      refine ⟨by rw [ldL_cons, ldL_nil]; exact e81, F, hx, MTq.one ⟨?_, ?_⟩⟩
      · show ((w1.1 0 381).toNatClampNeg : Int) + (1 : Nat) ≤ _
        omega
      · exact ⟨d1, d2, d3⟩
    have B1 : EA P w (wA w 0 326 n) [] := EA.wr 326 n
    have B2 : EA P (wA w 0 326 n) (wA (wA w 0 326 n) 0 314 y) [] := EA.wr 314 y
    have B3 : EA P (wA (wA w 0 326 n) 0 314 y) u [evx 20 k m] := EA.add h1 (by unfold plE; decide) rfl
    have T := ((((A.tr B0 h0).tr Cb h0).tr B1 h0).tr B2 h0).tr B3 h0
    rw [List.append_nil, List.append_nil] at T
    exact T
end UTF
