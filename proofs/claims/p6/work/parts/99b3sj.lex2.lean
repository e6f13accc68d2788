/-! texts: what the reference passes over; names -/
def nln (T : Nat → Int32) (L : Nat) : Nat → Nat
  | 0 => L
  | n + 1 => if (97 ≤ btq T L (L - (n + 1)) ∧ btq T L (L - (n + 1)) ≤ 122) ∨ (65 ≤ btq T L (L - (n + 1)) ∧ btq T L (L - (n + 1)) ≤ 90) ∨ btq T L (L - (n + 1)) = 95 ∨ (48 ≤ btq T L (L - (n + 1)) ∧ btq T L (L - (n + 1)) ≤ 57) then nln T L n else L - (n + 1)
/-- the place behind the bytes that may stand in a name -/
def NLE (T : Nat → Int32) (L p : Nat) : Nat := nln T L (L - p)
section LX2
variable {L1 L2 : List Nat} {T : Nat → Int32} {L p q n : Nat} {v u w : MS} {pa pb pc1 r : Int32}
theorem NLE_end (h : L ≤ p) : NLE T L p = L := by
  unfold NLE
  rw [show L - p = 0 by omega]
  rfl
theorem NLE_y (h : p < L) (k : nmp (btq T L p)) : NLE T L p = NLE T L (p + 1) := by
  obtain ⟨n, hn⟩ : ∃ n, L - p = n + 1 := ⟨L - p - 1, by omega⟩
  unfold NLE
  rw [show L - (p + 1) = n by omega, hn]
  have e : L - (n + 1) = p := by omega
  show (if _ then nln T L n else L - (n + 1)) = _
  rw [e, if_pos (by unfold nmp ltr dgt at k; omega)]
theorem NLE_n (h : p < L) (k : ¬ nmp (btq T L p)) : NLE T L p = p := by
  obtain ⟨n, hn⟩ : ∃ n, L - p = n + 1 := ⟨L - p - 1, by omega⟩
  unfold NLE
  rw [hn]
  have e : L - (n + 1) = p := by omega
  show (if _ then nln T L n else L - (n + 1)) = _
  rw [e, if_neg (by unfold nmp ltr dgt at k; omega)]
theorem nmp_lt (k : nmp (btq T L p)) : p < L := by
  by_cases h : p < L
  · exact h
  · rw [bt_ge (by omega)] at k
    unfold nmp ltr dgt at k
    omega
theorem NLE_le (h : p ≤ L) : p ≤ NLE T L p ∧ NLE T L p ≤ L := by
  obtain ⟨n, hn⟩ : ∃ n, L - p = n := ⟨_, rfl⟩
  induction n generalizing p with
  | zero => rw [NLE_end (by omega)]; omega
  | succ n ih =>
    by_cases k : nmp (btq T L p)
    · rw [NLE_y (by omega) k]
      have := ih (p := p + 1) (by omega) (by omega)
      omega
    · rw [NLE_n (by omega) k]
      omega
theorem blank_iff (h : Q_m_isBlank pa r) : r.toInt ≠ 0 ↔ (pa.toInt = 9 ∨ pa.toInt = 10 ∨ pa.toInt = 13 ∨ pa.toInt = 32) := by
  rcases h with ⟨a, rfl⟩ | ⟨a, ⟨b, rfl⟩ | ⟨b, ⟨c, rfl⟩ | ⟨c, ⟨d, rfl⟩ | ⟨d, rfl⟩⟩⟩⟩
  · exact ⟨fun _ => Or.inl a, fun _ => i10⟩
  · exact ⟨fun _ => Or.inr (Or.inl b), fun _ => i10⟩
  · exact ⟨fun _ => Or.inr (Or.inr (Or.inl c)), fun _ => i10⟩
  · exact ⟨fun q => absurd rfl q, fun q => by omega⟩
  · exact ⟨fun _ => Or.inr (Or.inr (Or.inr d)), fun _ => i10⟩
theorem mText (X : TXM T L w) {k : Nat} (hk : pa.toInt = k) (hl : k < L) : (w.1 3 pa.toNatClampNeg).toInt = btq T L k := by
  have : pa.toNatClampNeg = k := by have := natI (a := pa) (by omega); omega
  rw [this, X.2.2.1 k hl, bt_lt hl]
theorem inc1 {k : Nat} (hk : pa.toInt = k) (hl : k ≤ 4000) : (pa + (1 : Int32)).toInt = ((k + 1 : Nat) : Int) := by
  have : (pa + (1 : Int32)).toInt = pa.toInt + 1 := add_z rfl (by decide) (by omega) (by omega)
  omega
set_option maxHeartbeats 800000 in
/-- what the reference passes over -/
theorem mSkip (X : TXM T L w) (hv : (v.1 0 4).toInt = L) {kx ka bl : Int32} (hp : kx.toInt = p) (hl : p ≤ L) (hr : RT (Q_m_cut_L1 v kx w) (kx, 1) (ka, bl)) (hb : bl.toInt = 0) : ka.toInt = SKP T L false p := by
  obtain ⟨xl, x4, xt, x0⟩ := X
  have X : TXM T L w := ⟨xl, x4, xt, x0⟩
  have inv : ∃ k : Nat, ka.toInt = k ∧ k ≤ L ∧ (bl.toInt ≠ 0 → SKP T L false p = SKP T L false k) ∧ (bl.toInt = 0 → SKP T L false p = k) := by
    refine RT.ind (fun (y : Int32 × Int32) => ∃ k : Nat, y.1.toInt = k ∧ k ≤ L ∧ (y.2.toInt ≠ 0 → SKP T L false p = SKP T L false k) ∧ (y.2.toInt = 0 → SKP T L false p = k)) hr ⟨p, hp, hl, fun _ => rfl, fun q => absurd q i10⟩ ?_
    intro a b _ ⟨k, e1, e2, e3, e4⟩ hb
    obtain ⟨-, c1, kc, h2, k2, hb⟩ := hb
    have e5 := e3 c1
    have I2 : ∃ c : Nat, kc.toInt = c ∧ c ≤ L ∧ SKP T L false p = SKP T L false c := by
      refine RT.ind (fun (y : Int32) => ∃ c : Nat, y.toInt = c ∧ c ≤ L ∧ SKP T L false p = SKP T L false c) h2 ⟨k, e1, e2, e5⟩ ?_
      intro x y _ ⟨c, f1, f2, f3⟩ hy
      obtain ⟨-, g1, r52, h52, -, g2, rfl⟩ := hy
      rw [xl] at g1
      have bl := (blank_iff h52).mp g2
      rw [mText X f1 (by omega)] at bl
      refine ⟨c + 1, inc1 f1 (by omega), by omega, ?_⟩
      rw [f3, SKP_st (p := c) (by omega), if_neg Bool.false_ne_true, if_pos bl]
    obtain ⟨c, f1, f2, f3⟩ := I2
    have done : ∀ {m : Int32}, SKP T L false c = c → b = (kc, 0) → ∃ k : Nat, b.1.toInt = k ∧ k ≤ L ∧ (b.2.toInt ≠ 0 → SKP T L false p = SKP T L false k) ∧ (b.2.toInt = 0 → SKP T L false p = k) := by
      rintro - q rfl
      exact ⟨c, f1, f2, fun z => absurd rfl z, fun _ => by rw [f3, q]⟩
    rw [xl] at hb
    rcases hb with ⟨g1, r34, h34, -, hb⟩ | ⟨g1, r52, h52, -, g2, r57, h57, -, hb⟩
    · have ec : SKP T L false c = c := by rw [SKP_end (by omega)]; omega
      rcases hb with ⟨-, hb⟩ | ⟨z, -⟩
      · exact done (m := 0) ec hb
      · have := mAt h34 X f1
        rw [b0_ge (by omega)] at this
        omega
    · have nb : ¬ (btq T L c = 9 ∨ btq T L c = 10 ∨ btq T L c = 13 ∨ btq T L c = 32) := fun q => (blank_iff h52).mpr (by rw [mText X f1 (by omega)]; exact q) g2
      have e57 : r57.toInt = btq T L c := by rw [mAt h57 X f1, b0_lt (by omega), bt_lt (by omega)]
      have st := SKP_st (T := T) (p := c) (L := L) (c := false) (by omega)
      rw [if_neg Bool.false_ne_true, if_neg nb] at st
      rcases hb with ⟨z, hb⟩ | ⟨z, r64, h64, -, hb⟩
      · rw [if_neg (fun q => z (by rw [e57]; exact q.1))] at st
        exact done (m := 0) st hb
      have e64 := mAt h64 X (inc1 f1 (by omega))
      rcases hb with ⟨z2, hb⟩ | ⟨z2, kd, h4, k4, -, hb⟩
      · have : ¬ (btq T L c = 47 ∧ btq T L (c + 1) = 47) := fun q => z2 (by rw [e64]; exact (b0_47 (by decide)).mpr q.2)
        rw [if_neg this] at st
        exact done (m := 0) st hb
      have b1 : btq T L (c + 1) = 47 := (b0_47 (by decide)).mp (by rw [← e64]; exact z2)
      rw [if_pos ⟨by rw [← e57]; exact z, b1⟩] at st
      have s0 : SKP T L false c = SKP T L true c := by
        rw [st, SKP_st (p := c) (c := true) (by omega), if_pos rfl, if_neg (by omega)]
      have I4 : ∃ d : Nat, kd.toInt = d ∧ d ≤ L ∧ SKP T L false p = SKP T L true d := by
        refine RT.ind (fun (y : Int32) => ∃ d : Nat, y.toInt = d ∧ d ≤ L ∧ SKP T L false p = SKP T L true d) h4 ⟨c, f1, f2, by rw [f3, s0]⟩ ?_
        intro x y _ ⟨d, g1, g2, g3⟩ hy
        obtain ⟨-, -, l1, l2, rfl⟩ := hy
        rw [xl] at l1
        rw [mText X g1 (by omega)] at l2
        refine ⟨d + 1, inc1 g1 (by omega), by omega, ?_⟩
        rw [g3, SKP_st (p := d) (c := true) (by omega), if_pos rfl, if_neg l2]
      obtain ⟨d, g1, g2, g3⟩ := I4
      have fin : SKP T L true d = SKP T L false d → b = (kd, 1) → ∃ k : Nat, b.1.toInt = k ∧ k ≤ L ∧ (b.2.toInt ≠ 0 → SKP T L false p = SKP T L false k) ∧ (b.2.toInt = 0 → SKP T L false p = k) := by
        rintro q rfl
        exact ⟨d, g1, g2, fun _ => by rw [g3, q], fun z => absurd z i10⟩
      rcases hb with ⟨l1, hb⟩ | ⟨l1, l2, hb⟩
      · exact fin (by rw [SKP_end (by omega), SKP_end (by omega)]) hb
      · rw [mText X g1 (by omega)] at l2
        refine fin ?_ hb
        rw [SKP_st (p := d) (c := true) (by omega), if_pos rfl, if_pos l2, SKP_st (p := d) (c := false) (by omega), if_neg Bool.false_ne_true, if_pos (Or.inr (Or.inl l2))]
  obtain ⟨k, e1, -, -, e4⟩ := inv
  rw [e1, e4 hb]
end LX2
