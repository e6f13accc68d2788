/-! texts: bytes, and what is passed over between tokens -/
def btq (T : Nat → Int32) (L p : Nat) : Int := if p < L then (T p).toInt else -1
def b0 (T : Nat → Int32) (L p : Nat) : Int := if p < L then (T p).toInt else 0
def blk (c : Int) : Prop := c = 9 ∨ c = 10 ∨ c = 13 ∨ c = 32
def dgt (c : Int) : Prop := 48 ≤ c ∧ c ≤ 57
def ltr (c : Int) : Prop := (97 ≤ c ∧ c ≤ 122) ∨ (65 ≤ c ∧ c ≤ 90) ∨ c = 95
def nmp (c : Int) : Prop := ltr c ∨ dgt c
def skn (T : Nat → Int32) (L : Nat) : Nat → Bool → Nat
  | 0, _ => L
  | n + 1, c => if c = true then (if btq T L (L - (n + 1)) = 10 then skn T L n false else skn T L n true) else if btq T L (L - (n + 1)) = 9 ∨ btq T L (L - (n + 1)) = 10 ∨ btq T L (L - (n + 1)) = 13 ∨ btq T L (L - (n + 1)) = 32 then skn T L n false else if btq T L (L - (n + 1)) = 47 ∧ btq T L (L - (n + 1) + 1) = 47 then skn T L n true else L - (n + 1)
def SKP (T : Nat → Int32) (L : Nat) (c : Bool) (p : Nat) : Nat := skn T L (L - p) c
/-- the class's text, the reference's text -/
def TXC (T : Nat → Int32) (L : Nat) (v : MS) : Prop := (v.1 0 373).toInt = L ∧ L ≤ 4000 ∧ (∀ p, p < L → v.1 372 p = T p) ∧ ∀ p, p < L → 0 ≤ (T p).toInt
def TXM (T : Nat → Int32) (L : Nat) (w : MS) : Prop := (w.1 0 4).toInt = L ∧ L ≤ 4000 ∧ (∀ p, p < L → w.1 3 p = T p) ∧ ∀ p, p < L → 0 ≤ (T p).toInt
section LX1
variable {L1 L2 : List Nat} {T : Nat → Int32} {L p q n : Nat} {v u w : MS} {pa pb pc1 r : Int32}
theorem SKP_end (h : L ≤ p) {c : Bool} : SKP T L c p = L := by
  unfold SKP
  rw [show L - p = 0 by omega]
  rfl
theorem SKP_st (h : p < L) {c : Bool} : SKP T L c p = if c = true then (if btq T L p = 10 then SKP T L false (p + 1) else SKP T L true (p + 1)) else if btq T L p = 9 ∨ btq T L p = 10 ∨ btq T L p = 13 ∨ btq T L p = 32 then SKP T L false (p + 1) else if btq T L p = 47 ∧ btq T L (p + 1) = 47 then SKP T L true (p + 1) else p := by
  obtain ⟨n, hn⟩ : ∃ n, L - p = n + 1 := ⟨L - p - 1, by omega⟩
  unfold SKP
  rw [show L - (p + 1) = n by omega, hn]
  have e : L - (n + 1) = p := by omega
  show (if c = true then (if btq T L (L - (n + 1)) = 10 then _ else _) else _) = _
  rw [e]
theorem xByte (h : Q_x_X7_byteAt L1 L2 v pa r) (X : TXC T L v) (hp : pa.toInt = p) : r.toInt = btq T L p := by
  obtain ⟨-, h⟩ := h
  obtain ⟨xl, -, xt, -⟩ := X
  unfold btq
  rcases h with ⟨a, rfl⟩ | ⟨a, ⟨b, rfl⟩ | ⟨b, rfl⟩⟩
  · omega
  · rw [if_neg (by omega)]
    decide
  · have : pa.toNatClampNeg = p := by have := natI a; omega
    rw [if_pos (by omega), this, xt p (by omega)]
theorem mAt (h : Q_m_at2 w pa r) (X : TXM T L w) (hp : pa.toInt = p) : r.toInt = b0 T L p := by
  obtain ⟨-, a, h⟩ := h
  obtain ⟨xl, -, xt, -⟩ := X
  unfold b0
  rcases h with ⟨b, rfl⟩ | ⟨b, rfl⟩
  · rw [if_neg (by omega)]
    decide
  · have : pa.toNatClampNeg = p := by have := natI a; omega
    rw [if_pos (by omega), this, xt p (by omega)]
theorem b0_lt (h : p < L) : b0 T L p = (T p).toInt := if_pos h
theorem bt_lt (h : p < L) : btq T L p = (T p).toInt := if_pos h
theorem bt_ge (h : L ≤ p) : btq T L p = -1 := if_neg (by omega)
theorem b0_ge (h : L ≤ p) : b0 T L p = 0 := if_neg (by omega)
theorem b0_47 {c : Int} (hc : 0 < c) : b0 T L p = c ↔ btq T L p = c := by
  by_cases h : p < L
  · rw [b0_lt h, bt_lt h]
  · rw [b0_ge (by omega), bt_ge (by omega)]
    omega
theorem xDigit (h : Q_x_X9_isDigit pa r) : r.toInt ≠ 0 ↔ dgt pa.toInt := by
  unfold dgt
  rcases h with ⟨a, rfl⟩ | ⟨a, ⟨b, rfl⟩ | ⟨b, rfl⟩⟩
  · exact ⟨fun q => absurd rfl q, fun q => by omega⟩
  · exact ⟨fun q => absurd rfl q, fun q => by omega⟩
  · exact ⟨fun _ => ⟨a, b⟩, fun _ => by decide⟩
theorem i10 : (1 : Int32).toInt ≠ 0 := by decide
theorem xLetter (h : Q_x_X9_isLetter pa r) : r.toInt ≠ 0 ↔ ltr pa.toInt := by
  unfold ltr
  rcases h with ⟨a, ⟨b, c, rfl⟩ | ⟨b, ⟨c, rfl⟩ | ⟨c, ⟨d, rfl⟩ | ⟨d, rfl⟩⟩⟩⟩ | ⟨a, ⟨b, rfl⟩ | ⟨b, c, d, e, rfl⟩⟩
  · exact ⟨fun q => absurd rfl q, fun q => by omega⟩
  · exact ⟨fun _ => by omega, fun _ => i10⟩
  · exact ⟨fun q => absurd rfl q, fun q => by omega⟩
  · exact ⟨fun _ => by omega, fun _ => i10⟩
  · exact ⟨fun _ => by omega, fun _ => i10⟩
  · exact ⟨fun q => absurd rfl q, fun q => by omega⟩
theorem xName (h : Q_x_X9_isNamePart pa r) : r.toInt ≠ 0 ↔ nmp pa.toInt := by
  unfold nmp ltr dgt
  rcases h with ⟨a, ⟨b, c, ⟨d, rfl⟩ | ⟨d, ⟨e, rfl⟩ | ⟨e, rfl⟩⟩⟩ | ⟨b, ⟨c, rfl⟩ | ⟨c, ⟨d, rfl⟩ | ⟨d, e, f, rfl⟩⟩⟩⟩ | ⟨a, ⟨b, rfl⟩ | ⟨b, c, d, e, f, g, rfl⟩⟩
  · exact ⟨fun q => absurd rfl q, fun q => by omega⟩
  · exact ⟨fun q => absurd rfl q, fun q => by omega⟩
  · exact ⟨fun _ => by omega, fun _ => i10⟩
  · exact ⟨fun _ => by omega, fun _ => i10⟩
  · exact ⟨fun _ => by omega, fun _ => i10⟩
  · exact ⟨fun q => absurd rfl q, fun q => by omega⟩
  · exact ⟨fun _ => by omega, fun _ => i10⟩
  · exact ⟨fun q => absurd rfl q, fun q => by omega⟩
theorem mDigit (k : K_m_isDigit2 pa r) : r.toInt ≠ 0 ↔ dgt pa.toInt := by
  unfold dgt
  constructor
  · intro q
    omega
  · intro q
    omega
theorem mName (k : K_m_isOfName2 pa r) : r.toInt ≠ 0 ↔ nmp pa.toInt := by
  unfold nmp ltr dgt
  constructor
  · intro q
    omega
  · intro q
    omega
theorem nmp_b0 : nmp (b0 T L p) ↔ nmp (btq T L p) := by
  by_cases h : p < L
  · rw [b0_lt h, bt_lt h]
  · rw [b0_ge (by omega), bt_ge (by omega)]
    unfold nmp ltr dgt
    omega
theorem dgt_b0 : dgt (b0 T L p) ↔ dgt (btq T L p) := by
  by_cases h : p < L
  · rw [b0_lt h, bt_lt h]
  · rw [b0_ge (by omega), bt_ge (by omega)]
    unfold dgt
    omega
/-- what the class passes over -/
theorem xSkip (X : TXC T L v) (hp : pa.toInt = p) (hl : p ≤ L) (h : Q_x_X9_behindBlanks L1 L2 v pa r) : r.toInt = SKP T L false p ∧ p ≤ SKP T L false p ∧ SKP T L false p ≤ L := by
  obtain ⟨-, ib, ka, hr, h⟩ := h
  obtain ⟨xl, x4, xt, x0⟩ := X
  have X : TXC T L v := ⟨xl, x4, xt, x0⟩
  have inv : ∃ k : Nat, ka.toInt = k ∧ p ≤ k ∧ k ≤ L ∧ SKP T L false p = SKP T L (decide (ib.toInt ≠ 0)) k := by
    refine RT.ind (fun (y : Int32 × Int32) => ∃ k : Nat, y.2.toInt = k ∧ p ≤ k ∧ k ≤ L ∧ SKP T L false p = SKP T L (decide (y.1.toInt ≠ 0)) k) hr ⟨p, hp, Nat.le_refl _, hl, rfl⟩ ?_
    intro a b _ ⟨k, e1, e2, e3, e4⟩ hb
    obtain ⟨c1, r6, h6, hb⟩ := hb
    rw [xl] at c1
    have kl : k < L := by omega
    have B := xByte h6 X e1
    have ea : (a.2 + (1 : Int32)).toInt = ((k + 1 : Nat) : Int) := by
      have : (a.2 + (1 : Int32)).toInt = a.2.toInt + 1 := add_z rfl (by decide) (by omega) (by omega)
      omega
    rw [SKP_st kl] at e4
    rw [B] at hb
    have go : ∀ {x : Int32}, b = (x, a.2 + 1) → SKP T L false p = SKP T L (decide (x.toInt ≠ 0)) (k + 1) → ∃ k : Nat, b.2.toInt = k ∧ p ≤ k ∧ k ≤ L ∧ SKP T L false p = SKP T L (decide (b.1.toInt ≠ 0)) k := by
      rintro x rfl q
      exact ⟨k + 1, ea, by omega, by omega, q⟩
    have z1 : decide ((1 : Int32).toInt ≠ 0) = true := by decide
    have z0 : decide ((0 : Int32).toInt ≠ 0) = false := by decide
    rcases hb with ⟨c, hb⟩ | ⟨c, hb⟩
    · have cf : decide (a.1.toInt ≠ 0) = false := decide_eq_false (fun q => q c)
      rw [cf, if_neg Bool.false_ne_true] at e4
      rcases hb with ⟨d, hb⟩ | ⟨d, r31, h31, d2, hb⟩
      · have bl : (btq T L k = 9 ∨ btq T L k = 10 ∨ btq T L k = 13 ∨ btq T L k = 32) ∧ b = (a.1, a.2 + 1) := by
          rcases hb with ⟨f, hb⟩ | ⟨f, ⟨g, hb⟩ | ⟨g, ⟨i, hb⟩ | ⟨i, j, hb⟩⟩⟩
          · exact ⟨Or.inl f, hb⟩
          · exact ⟨Or.inr (Or.inl g), hb⟩
          · exact ⟨Or.inr (Or.inr (Or.inl i)), hb⟩
          · exact ⟨Or.inr (Or.inr (Or.inr j)), hb⟩
        rw [if_pos bl.1] at e4
        exact go bl.2 (by rw [cf]; exact e4)
      · have B2 := xByte h31 X (p := k + 1) ea
        rw [if_neg (by omega), if_pos ⟨d, by rw [← B2]; exact d2⟩] at e4
        exact go hb (by rw [z1]; exact e4)
    · have ct : decide (a.1.toInt ≠ 0) = true := decide_eq_true c
      rw [ct, if_pos rfl] at e4
      rcases hb with ⟨d, hb⟩ | ⟨d, hb⟩
      · rw [if_pos d] at e4
        exact go hb (by rw [z0]; exact e4)
      · rw [if_neg d] at e4
        exact go hb (by rw [z1]; exact e4)
  obtain ⟨k, e1, e2, e3, e4⟩ := inv
  rw [xl] at h
  rcases h with ⟨c, rfl⟩ | ⟨c, r6, h6, hi, h⟩
  · rw [e4, SKP_end (by omega), xl]
    omega
  · have B := xByte h6 X e1
    have cf : decide (ib.toInt ≠ 0) = false := decide_eq_false (fun q => q hi)
    rw [cf, SKP_st (p := k) (by omega), if_neg Bool.false_ne_true] at e4
    rcases h with ⟨d, f9, f10, f13, f32, er⟩ | ⟨d, r31, h31, d2, f9, f10, f13, f32, er⟩
    · rw [if_neg (by omega), if_neg (by omega)] at e4
      rw [e4, er, e1]
      omega
    · have ea : (ka + (1 : Int32)).toInt = ((k + 1 : Nat) : Int) := by
        have : (ka + (1 : Int32)).toInt = ka.toInt + 1 := add_z rfl (by decide) (by omega) (by omega)
        omega
      have B2 := xByte h31 X (p := k + 1) ea
      rw [if_neg (by omega), if_neg (by omega)] at e4
      rw [e4, er, e1]
      omega
end LX1
