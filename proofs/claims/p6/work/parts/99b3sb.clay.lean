/-! the class: how many words a deed gets -/
def SZ9 (k : Int32) (v u : MS) : Prop := u.1 0 337 = v.1 0 337 + k ∧ u.1 0 339 = v.1 0 339 ∧ u.1 0 340 = v.1 0 340 ∧ RS0 v u
section CLY
variable {L1 L2 : List Nat} {N : Nat} {v u w x z : MS} {pa pb pc1 pd r k l d y : Int32} {p : Int → Int32}
theorem i32_of {a b c : Int32} {k : Int} (h : b.toInt = a.toInt + k) (hk : c.toInt = k) : b = a + c := by
  have l1 := Int32.toInt_lt b
  have l2 := Int32.le_toInt b
  refine Int32.toInt_inj.mp ?_
  rw [add_z rfl hk (by omega) (by omega)]
  exact h
theorem SZ9.of {al : List Nat} {m : Int} (h : FC [337] al v u ∧ ((u.1 0 337).toInt = (v.1 0 337).toInt + m) ∧ RS v u) (hk : k.toInt = m) : SZ9 k v u :=
  ⟨i32_of h.2.1 hk, h.1.2.1 339 (by decide), h.1.2.1 340 (by decide), h.2.2.1⟩
theorem SZ9.tr (h : SZ9 k v u) (g : SZ9 l u x) : SZ9 (k + l) v x := ⟨by rw [g.1, h.1, Int32.add_assoc], g.2.1.trans h.2.1, g.2.2.1.trans h.2.2.1, h.2.2.2.tr g.2.2.2⟩
theorem SZ9.t2 (h : SZ9 k v u) (g : SZ9 l u x) (e : k + l = y) : SZ9 y v x := e ▸ h.tr g
theorem SZ9.rf : SZ9 0 v v := ⟨(Int32.add_zero _).symm, rfl, rfl, RS0.rf⟩
theorem zNum (h : Q_x_X0_layNumber L1 L2 N v pa u) : SZ9 (nsz pa) v u := by
  obtain ⟨-, h⟩ := h
  unfold nsz
  rcases h with ⟨a, u4, -, k1, r8, -, u10, -, k2, rfl⟩ | ⟨a, ⟨b, u4, -, k1, r8, -, u10, -, k2, rfl⟩ | ⟨b, u26, -, k1, rfl⟩⟩
  · rw [if_neg (by omega)]
    exact (SZ9.of (k := 1) k1 (by decide)).t2 (SZ9.of (k := 1) k2 (by decide)) (by decide)
  · rw [if_neg (by omega)]
    exact (SZ9.of (k := 1) k1 (by decide)).t2 (SZ9.of (k := 1) k2 (by decide)) (by decide)
  · rw [if_pos ⟨a, b⟩]
    exact SZ9.of (k := 1) k1 (by decide)
theorem zJump (h : Q_x_X0_layJump L1 L2 N v pa pb u) : SZ9 (if pa.toInt = 18 then 3 else if pa.toInt = 16 ∨ pa.toInt = 17 then 2 else 1) v u := by
  obtain ⟨-, h⟩ := h
  rcases h with ⟨a, ⟨b, ⟨c, r9, -, u11, -, k1, rfl⟩ | ⟨c, u15, -, k1, u18, -, k2, r22, -, u24, -, k3, rfl⟩⟩ | ⟨b, u28, -, k1, r32, -, u34, -, k2, rfl⟩⟩ | ⟨a, u38, -, k1, r42, -, u44, -, k2, rfl⟩
  · rw [if_neg c, if_neg (fun q => q.elim a b)]
    exact SZ9.of (k := 1) k1 (by decide)
  · rw [if_pos c]
    exact ((SZ9.of (k := 1) k1 (by decide)).t2 (SZ9.of (k := 1) k2 (by decide)) (y := 2) (by decide)).t2 (SZ9.of (k := 1) k3 (by decide)) (by decide)
  · rw [if_neg (by omega), if_pos (Or.inr b)]
    exact (SZ9.of (k := 1) k1 (by decide)).t2 (SZ9.of (k := 1) k2 (by decide)) (by decide)
  · rw [if_neg (by omega), if_pos (Or.inl a)]
    exact (SZ9.of (k := 1) k1 (by decide)).t2 (SZ9.of (k := 1) k2 (by decide)) (by decide)
/-- a function's fact -/
def ff (L1 : List Nat) (v : MS) (f : Int32) : Int32 := if 0 ≤ f.toInt ∧ f.toInt < (v.1 0 375).toInt ∧ f.toInt < 40 then rF L1 v f.toNatClampNeg 0 else -1
theorem zFact (h : Q_x_X7_functionFact L1 L2 v pa 0 r) : r = ff L1 v pa := by
  unfold ff
  rcases h with ⟨a, rfl⟩ | ⟨a, ⟨b, rfl⟩ | ⟨b, ⟨c, ⟨d, rfl⟩ | ⟨d, ⟨e, rfl⟩ | ⟨e, rfl⟩⟩⟩ | ⟨c, rfl⟩⟩⟩
  · rw [if_neg (by omega)]
  · rw [if_neg (by omega)]
  · exact absurd d (by decide)
  · exact absurd e (by decide)
  · rw [if_pos ⟨a, b, c⟩]
    rfl
  · rw [if_neg (by omega)]
theorem zCall (h : Q_x_X0_layCall L1 L2 N v pa pb u) : SZ9 (1 + (if 0 < (ff L1 v pa).toInt then 1 else 0)) v u := by
  obtain ⟨-, r3, h3, -, h⟩ := h
  rw [← zFact h3]
  rcases h with ⟨a, r8, -, -, u10, -, k1, rfl⟩ | ⟨a, r15, -, u17, -, k1, r21, -, -, u23, -, k2, rfl⟩
  · rw [if_neg (by omega)]
    exact SZ9.of (k := 1 + 0) k1 (by decide)
  · rw [if_pos a]
    exact (SZ9.of (k := 1) k1 (by decide)).t2 (SZ9.of (k := 1) k2 (by decide)) (by decide)
def ist (b : Bool) (x y : Int32) : Prop := y = if b = true then 1 else x
/-- a sign's words, and which helper it calls -/
def SG9 (k : Int32) (pa : Int32) (v u : MS) : Prop := u.1 0 337 = v.1 0 337 + k ∧ u.1 0 339 = (if isT pa = true then 1 else v.1 0 339) ∧ u.1 0 340 = (if isD pa = true then 1 else v.1 0 340) ∧ RS0 v u
theorem SG9.of (h : SZ9 k v u) (hp : isT pa = false ∧ isD pa = false) : SG9 k pa v u := ⟨h.1, by rw [hp.1]; exact h.2.1, by rw [hp.2]; exact h.2.2.1, h.2.2.2⟩
theorem zCmp (h : Q_x_X0_layComparison L1 L2 N v pa u) : SZ9 (if pa = 63 ∨ pa = 64 ∨ pa = 66 ∨ pa = 68 then 2 else if pa = 65 ∨ pa = 67 then 1 else 0) v u := by
  obtain ⟨-, h⟩ := h
  rcases h with ⟨rfl, u3, -, k1, u6, -, k2, rfl⟩ | ⟨a, ⟨rfl, u3, -, k1, u6, -, k2, rfl⟩ | ⟨b, ⟨rfl, u17, -, k1, rfl⟩ | ⟨c, ⟨rfl, u3, -, k1, u6, -, k2, rfl⟩ | ⟨d, ⟨rfl, u17, -, k1, rfl⟩ | ⟨e, ⟨rfl, u3, -, k1, u6, -, k2, rfl⟩ | ⟨f, rfl⟩⟩⟩⟩⟩⟩
  · exact (SZ9.of (k := 1) k1 (by decide)).t2 (SZ9.of (k := 1) k2 (by decide)) (by decide)
  · exact (SZ9.of (k := 1) k1 (by decide)).t2 (SZ9.of (k := 1) k2 (by decide)) (by decide)
  · exact SZ9.of (k := 1) k1 (by decide)
  · exact (SZ9.of (k := 1) k1 (by decide)).t2 (SZ9.of (k := 1) k2 (by decide)) (by decide)
  · exact SZ9.of (k := 1) k1 (by decide)
  · exact (SZ9.of (k := 1) k1 (by decide)).t2 (SZ9.of (k := 1) k2 (by decide)) (by decide)
  · rw [if_neg (fun q => by rcases q with q | q | q | q; exact a q; exact b q; exact d q; exact f q), if_neg (fun q => by rcases q with q | q; exact c q; exact e q)]
    exact SZ9.rf
end CLY
