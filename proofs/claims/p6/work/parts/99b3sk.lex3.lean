/-! texts: key words -/
def wl (e : Nat) : Nat := [3, 2, 4, 5, 2, 3, 5, 8, 6, 3, 3].getD e 0
def stw (e : Nat) : Nat := [0, 4, 7, 12, 18, 21, 25, 31, 40, 47, 51, 55].getD e 55
def MW (T : Nat → Int32) (L p n e : Nat) : Prop := n = wl e ∧ ∀ j, j < n → btq T L (p + j) = (chN 0 (8 * e + j) : Int)
theorem wl_32 : ∀ e, e < 11 → ∀ j, j < 8 → (chN 0 (8 * e + j) = 32 ↔ wl e ≤ j) := by decide
theorem wl_8 : ∀ e, e < 11 → 1 ≤ wl e ∧ wl e ≤ 8 := by decide
theorem stw_c : ∀ e, e < 11 → ∀ j, j < wl e → chN 23 (stw e + j) = chN 0 (8 * e + j) := by decide
theorem stw_n : ∀ e, e < 11 → stw (e + 1) = stw e + wl e + 1 ∧ chN 23 (stw e + wl e) = 32 ∧ stw e < 55 ∧ stw (e + 1) ≤ 55 := by decide
theorem chN_b {i k : Nat} : chN i k < 256 := Nat.mod_lt _ (by decide)
section LX3
variable {L1 L2 : List Nat} {T : Nat → Int32} {L p q n : Nat} {v u w : MS} {pa pb pc1 r : Int32}
theorem nI_c {i k : Nat} : (nI (chN i k)).toInt = (chN i k : Int) := by
  have := chN_b (i := i) (k := k)
  unfold nI
  exact Int32.toInt_ofNat_of_lt (by omega)
theorem incn {a : Int32} {k : Nat} (hk : pa.toInt = p) (ha : a.toInt = k) (hl : p + k ≤ 100000) : (pa + a).toInt = ((p + k : Nat) : Int) := by
  have : (pa + a).toInt = pa.toInt + a.toInt := add_z rfl rfl (by omega) (by omega)
  omega
set_option maxHeartbeats 400000 in
theorem xSpK (X : TXC T L v) (hp : pc1.toInt = p) (hl : p ≤ L) {e : Nat} (he : e < 11) (hb : pb.toInt = e) (h : Q_x_spelledK L1 L2 v 8 pb pc1 r) : (r.toInt = wl e ∧ ∀ j, j < wl e → btq T L (p + j) = (chN 0 (8 * e + j) : Int)) ∨ (r.toInt = 0 ∧ ∃ j, j < wl e ∧ btq T L (p + j) ≠ (chN 0 (8 * e + j) : Int)) := by
  obtain ⟨-, ka, hr, h0, h⟩ := h
  have x4 := X.2.1
  have w8 := wl_8 e he
  have eight : (8 : Int32).toInt = 8 := by decide
  have ix : ∀ {y : Int32} {k : Nat}, y.toInt = k → k < 8 → (pb * 8 + y).toInt = ((8 * e + k : Nat) : Int) ∧ (pb * 8 + y).toNatClampNeg = 8 * e + k := by
    intro y k hy hk
    have m1 : (pb * 8).toInt = pb.toInt * 8 := mul_z rfl eight (by omega) (by omega)
    have m2 : (pb * 8 + y).toInt = pb.toInt * 8 + y.toInt := add_z m1 rfl (by omega) (by omega)
    have m3 := natI (a := pb * 8 + y) (by omega)
    constructor <;> omega
  have inv : ∃ k : Nat, ka.toInt = k ∧ k ≤ wl e ∧ ∀ j, j < k → btq T L (p + j) = (chN 0 (8 * e + j) : Int) := by
    refine RT.ind (fun (y : Int32) => ∃ k : Nat, y.toInt = k ∧ k ≤ wl e ∧ ∀ j, j < k → btq T L (p + j) = (chN 0 (8 * e + j) : Int)) hr ⟨0, by decide, by omega, fun j hj => by omega⟩ ?_
    intro x y _ ⟨k, f1, f2, f3⟩ hy
    obtain ⟨-, g1, -, -, r15, hc, g2, r20, hb2, g3, rfl⟩ := hy
    have k8 : k < 8 := by omega
    have I := ix f1 k8
    rw [I.2] at hc
    have e15 : r15.toInt = (chN 0 (8 * e + k) : Int) := by rw [hc]; exact nI_c
    have e20 := xByte hb2 X (p := p + k) (incn hp f1 (by omega))
    have kl : ¬ wl e ≤ k := fun q => g2 (by rw [e15, (wl_32 e he k k8).mpr q]; rfl)
    refine ⟨k + 1, inc1 f1 (by omega), by omega, fun j hj => ?_⟩
    by_cases q : j = k
    · rw [q, ← e20, ← e15, g3]
    · exact f3 j (by omega)
  obtain ⟨k, f1, f2, f3⟩ := inv
  rw [eight] at h
  rcases h with ⟨a, rfl⟩ | ⟨a, h⟩
  · refine Or.inl ⟨by rw [eight]; omega, fun j hj => f3 j (by omega)⟩
  have I := ix f1 (by omega)
  rcases h with ⟨b, -⟩ | ⟨-, ⟨b, -⟩ | ⟨-, r15, hc, ⟨c, r20, hb2, d, rfl⟩ | ⟨c, rfl⟩⟩⟩
  · omega
  · omega
  · rw [I.2] at hc
    have e15 : r15.toInt = (chN 0 (8 * e + k) : Int) := by rw [hc]; exact nI_c
    have e20 := xByte hb2 X (p := p + k) (incn hp f1 (by omega))
    have kl : ¬ wl e ≤ k := fun q => c (by rw [e15, (wl_32 e he k (by omega)).mpr q]; rfl)
    exact Or.inr ⟨by decide, k, by omega, by rw [← e20, ← e15]; exact d⟩
  · rw [I.2] at hc
    have e15 : r15.toInt = (chN 0 (8 * e + k) : Int) := by rw [hc]; exact nI_c
    have kl : wl e ≤ k := (wl_32 e he k (by omega)).mp (by have : (chN 0 (8 * e + k) : Int) = 32 := (by rw [← e15]; exact c); omega)
    exact Or.inl ⟨by omega, fun j hj => f3 j (by omega)⟩
/-- the class: which key word -/
theorem xKey (X : TXC T L v) (hp : pa.toInt = p) (hl : p ≤ L) {r3 ka : Int32} (h3 : r3.toInt = n) (hn : 1 ≤ n) (hr : RT (Q_x_X9_scanName_L0 L1 L2 v pa r3) 0 ka) : ∃ k : Nat, ka.toInt = k ∧ ∀ e, e < k → e < 11 ∧ ¬ MW T L p n e := by
  refine RT.ind (fun (y : Int32) => ∃ k : Nat, y.toInt = k ∧ ∀ e, e < k → e < 11 ∧ ¬ MW T L p n e) hr ⟨0, by decide, fun e he => by omega⟩ ?_
  intro x y _ ⟨k, f1, f2⟩ hy
  obtain ⟨-, g1, r19, h19, g2, rfl⟩ := hy
  refine ⟨k + 1, inc1 f1 (by omega), fun e he => ?_⟩
  by_cases q : e = k
  · refine ⟨by omega, fun m => ?_⟩
    rw [q] at m
    rcases xSpK X hp hl (e := k) (by omega) f1 h19 with ⟨z1, z2⟩ | ⟨z1, j, z2, z3⟩
    · have := m.1
      omega
    · exact z3 (m.2 j (by have := m.1; omega))
  · exact f2 e (by omega)
theorem xKeyY (X : TXC T L v) (hp : pa.toInt = p) (hl : p ≤ L) {r3 ka r19 : Int32} {k : Nat} (h3 : r3.toInt = n) (hn : 1 ≤ n) (hk : ka.toInt = k) (k11 : k < 11) (h : Q_x_spelledK L1 L2 v 8 ka pa r19) (e : r19.toInt = r3.toInt) : MW T L p n k := by
  rcases xSpK X hp hl (e := k) k11 hk h with ⟨z1, z2⟩ | ⟨z1, -⟩
  · have : n = wl k := by omega
    exact ⟨this, fun j hj => z2 j (by omega)⟩
  · omega
end LX3
