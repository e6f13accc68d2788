/-! the class: jumps and calls are linked; the weights that the words have -/
def FOC (L1 : List Nat) (W : Nat → Int32) (w : MS) (x r : Int32) : Prop := ((x.toInt < 0 ∨ (w.1 0 321).toInt ≤ x.toInt) ∧ r = -1) ∨ (0 ≤ x.toInt ∧ x.toInt < (w.1 0 321).toInt ∧ ((r.toInt = -1 ∧ fnm (fsC L1 W w) (w.1 318 x.toNatClampNeg) = none) ∨ (0 ≤ r.toInt ∧ r.toInt < (w.1 0 375).toInt ∧ ∃ g : FN, fnm (fsC L1 W w) (w.1 318 x.toNatClampNeg) = some g ∧ g.2.2.1 = rF L1 w r.toNatClampNeg 0)))
def LK (L1 : List Nat) (W : Nat → Int32) (w U : MS) : Prop := ∀ k : Nat, (k : Int) < (w.1 0 381).toInt → (w.1 378 k = 21 → FOC L1 W w (w.1 379 k) (U.1 379 k)) ∧ (¬ (16 ≤ (w.1 378 k).toInt ∧ (w.1 378 k).toInt ≤ 19) → w.1 378 k ≠ 21 → U.1 379 k = w.1 379 k)
def p9 (L1 : List Nat) (w : MS) : Int → Int32 := fun i => if 0 ≤ i ∧ i < (w.1 0 321).toInt then (if w.1 320 i.toNat = 0 then 0 else 1) else if 1099511627776 ≤ i ∧ i < 1099511627776 + (w.1 0 375).toInt then 2 * rF L1 w (i - 1099511627776).toNat 0 else if i = 2199023255552 then -1 else 0
section CLK
variable {L1 L2 : List Nat} {N : Nat} {W : Nat → Int32} {v u w x z U : MS} {pa pb pc1 pd r k l d y : Int32} {p : Int → Int32}
theorem zFOC (h : Q_x_X1_functionOfCall L1 L2 z pa r) (h321 : z.1 0 321 = w.1 0 321) (h375 : z.1 0 375 = w.1 0 375) (h318 : z.1 318 = w.1 318) (hr : RS0 w z) (J3 : 0 ≤ (w.1 0 375).toInt ∧ (w.1 0 375).toInt ≤ 40) : FOC L1 W w pa r := by
  obtain ⟨-, h⟩ := h
  have fe : fsC L1 W z = fsC L1 W w := by
    unfold fsC nF rF
    rw [h375]
    exact List.map_congr_left (fun f _ => by rw [hr _ (by omega)])
  rw [h321, h318] at h
  rcases h with ⟨a, e⟩ | ⟨a, ⟨b, e⟩ | ⟨b, r9, hn, e⟩⟩
  · exact Or.inl ⟨Or.inl a, e⟩
  · exact Or.inl ⟨Or.inr b, e⟩
  · refine Or.inr ⟨a, b, ?_⟩
    rw [e]
    rcases cFun (W := W) hn (by rw [h375]; exact J3) with ⟨q1, q2⟩ | ⟨q1, q2, q3⟩
    · rw [fe] at q2
      exact Or.inl ⟨q1, q2⟩
    · rw [fe] at q3
      rw [h375] at q2
      refine Or.inr ⟨q1, q2, _, q3, ?_⟩
      show rF L1 z r9.toNatClampNeg 0 = _
      unfold rF
      rw [hr _ (by omega)]
set_option maxHeartbeats 800000 in
theorem zLink (h : Q_x_X1_link L1 L2 w U) (J3 : 0 ≤ (w.1 0 375).toInt ∧ (w.1 0 375).toInt ≤ 40) : FC [] [379] w U ∧ RS0 w U ∧ LK L1 W w U := by
  obtain ⟨-, z81, ka, w2, hr, fc, hka, rs, c81, rfl⟩ := h
  refine ⟨fc, rs, ?_⟩
  have inv : 0 ≤ ka.toInt ∧ (∀ k : Nat, (k : Int) < ka.toInt → (w.1 378 k = 21 → FOC L1 W w (w.1 379 k) (U.1 379 k)) ∧ (¬ (16 ≤ (w.1 378 k).toInt ∧ (w.1 378 k).toInt ≤ 19) → w.1 378 k ≠ 21 → U.1 379 k = w.1 379 k)) ∧ ∀ k : Nat, ka.toInt ≤ (k : Int) → U.1 379 k = w.1 379 k := by
    refine RT.ind (fun (y : Int32 × MS) => 0 ≤ y.1.toInt ∧ (∀ k : Nat, (k : Int) < y.1.toInt → (w.1 378 k = 21 → FOC L1 W w (w.1 379 k) (y.2.1 379 k)) ∧ (¬ (16 ≤ (w.1 378 k).toInt ∧ (w.1 378 k).toInt ≤ 19) → w.1 378 k ≠ 21 → y.2.1 379 k = w.1 379 k)) ∧ ∀ k : Nat, y.1.toInt ≤ (k : Int) → y.2.1 379 k = w.1 379 k) hr ⟨show 0 ≤ (0 : Int32).toInt by decide, fun k hk => by have hk : (k : Int) < (0 : Int32).toInt := hk; have : (0 : Int32).toInt = 0 := (by decide); omega, fun _ _ => rfl⟩ ?_
    intro a b _ ha hb
    obtain ⟨g1, g2, g3⟩ := ha
    obtain ⟨fa, ba, ra, ca, hb⟩ := hb
    have na := natI g1
    have ea : (a.1 + (1 : Int32)).toInt = a.1.toInt + 1 := add_z rfl (by decide) (by omega) (by omega)
    have e378 : a.2.1 378 = w.1 378 := fa.2.2 378 (by decide)
    have x379 : a.2.1 379 a.1.toNatClampNeg = w.1 379 a.1.toNatClampNeg := g3 _ (by omega)
    rw [e378, x379] at hb
    have fin : ∀ {m : MS}, (∀ k : Nat, k ≠ a.1.toNatClampNeg → m.1 379 k = a.2.1 379 k) → ((w.1 378 a.1.toNatClampNeg = 21 → FOC L1 W w (w.1 379 a.1.toNatClampNeg) (m.1 379 a.1.toNatClampNeg)) ∧ (¬ (16 ≤ (w.1 378 a.1.toNatClampNeg).toInt ∧ (w.1 378 a.1.toNatClampNeg).toInt ≤ 19) → w.1 378 a.1.toNatClampNeg ≠ 21 → m.1 379 a.1.toNatClampNeg = w.1 379 a.1.toNatClampNeg)) → 0 ≤ (a.1 + (1 : Int32)).toInt ∧ (∀ k : Nat, (k : Int) < (a.1 + (1 : Int32)).toInt → (w.1 378 k = 21 → FOC L1 W w (w.1 379 k) (m.1 379 k)) ∧ (¬ (16 ≤ (w.1 378 k).toInt ∧ (w.1 378 k).toInt ≤ 19) → w.1 378 k ≠ 21 → m.1 379 k = w.1 379 k)) ∧ ∀ k : Nat, (a.1 + (1 : Int32)).toInt ≤ (k : Int) → m.1 379 k = w.1 379 k := by
      intro m h1 h2
      refine ⟨by omega, fun k hk => ?_, fun k hk => ?_⟩
      · by_cases q : k = a.1.toNatClampNeg
        · rw [q]; exact h2
        · rw [h1 k q]; exact g2 k (by omega)
      · rw [h1 k (by omega)]; exact g3 k (by omega)
    have n21 : (w.1 378 a.1.toNatClampNeg).toInt ≠ 21 → w.1 378 a.1.toNatClampNeg ≠ 21 := fun q z => q (by rw [z]; decide)
    have wr : ∀ {y : Int32} (k : Nat), k ≠ a.1.toNatClampNeg → (wA a.2 379 a.1.toNatClampNeg y).1 379 k = a.2.1 379 k := fun k hk => show upd (a.2.1 379) _ _ k = _ from updN_ hk
    rcases hb with ⟨b1, b2, rfl⟩ | ⟨b1, ⟨b2, ⟨b3, rfl⟩ | ⟨b3, r21, hq, rfl⟩⟩ | ⟨b2, hb⟩⟩
    · exact fin (fun k _ => rfl) ⟨fun q => absurd q (n21 b2), fun _ _ => x379⟩
    · exact fin (fun k _ => rfl) ⟨fun q => absurd q (n21 b3), fun _ _ => x379⟩
    · refine fin wr ⟨fun _ => ?_, fun _ q => absurd (Int32.toInt_inj.mp b3) q⟩
      show FOC L1 W w _ (upd (a.2.1 379) _ r21 _)
      rw [updS]
      exact zFOC hq (fa.2.1 321 (fun q => nomatch q)) (fa.2.1 375 (fun q => nomatch q)) (fa.2.2 318 (by decide)) ra J3
    · have j : 16 ≤ (w.1 378 a.1.toNatClampNeg).toInt ∧ (w.1 378 a.1.toNatClampNeg).toInt ≤ 19 := ⟨b1, b2⟩
      have no : w.1 378 a.1.toNatClampNeg ≠ 21 := n21 (by omega)
      rcases hb with ⟨-, rfl⟩ | ⟨-, ⟨-, rfl⟩ | ⟨-, rfl⟩⟩
      · exact fin wr ⟨fun q => absurd q no, fun q => absurd j q⟩
      · exact fin wr ⟨fun q => absurd q no, fun q => absurd j q⟩
      · exact fin wr ⟨fun q => absurd q no, fun q => absurd j q⟩
  intro k hk
  rw [fc.2.1 381 (fun q => nomatch q)] at c81
  exact inv.2.1 k (by omega)
theorem tCalls_ok {fs : List FN} : ∀ {l : CA}, tCalls fs l = .ok () → ∀ q ∈ l, ∃ f, fnm fs q.1 = some f ∧ f.2.2.1 = q.2.2
  | [], _, q, hq => nomatch hq
  | c :: l, h, q, hq => by
    have h : (match fnm fs c.1 with | none => (Except.error (3, c.2.1) : PX Unit) | some f => if f.2.2.1 = c.2.2 then tCalls fs l else Except.error (4, c.2.1)) = .ok () := h
    cases hf : fnm fs c.1 with
    | none => rw [hf] at h; cases h
    | some f =>
      rw [hf] at h
      have h : (if f.2.2.1 = c.2.2 then tCalls fs l else (Except.error (4, c.2.1) : PX Unit)) = .ok () := h
      by_cases e : f.2.2.1 = c.2.2
      · rw [if_pos e] at h
        rcases List.mem_cons.mp hq with rfl | hq
        · exact ⟨f, hf, e⟩
        · exact tCalls_ok h q hq
      · rw [if_neg e] at h
        cases h
theorem p9_c {i : Int} (h : 0 ≤ i ∧ i < (w.1 0 321).toInt) : p9 L1 w i = if w.1 320 i.toNat = 0 then 0 else 1 := if_pos h
theorem p9_o {i : Int} (h : ¬ (0 ≤ i ∧ i < (w.1 0 321).toInt)) (hi : i < 2147483648) : p9 L1 w i = 0 := by
  unfold p9
  rw [if_neg h, if_neg (by omega), if_neg (by omega)]
theorem p9_f {f : Nat} (h : (f : Int) < (w.1 0 375).toInt) (h21 : (w.1 0 321).toInt ≤ 501) : p9 L1 w (1099511627776 + (f : Int)) = 2 * rF L1 w f 0 := by
  unfold p9
  rw [if_neg (by omega), if_pos (by omega), show (1099511627776 + (f : Int) - 1099511627776).toNat = f by omega]
theorem p9_g {i : Int} (h : ¬ (0 ≤ i ∧ i < (w.1 0 375).toInt)) (hi : -2147483648 ≤ i ∧ i < 2147483648) (h21 : (w.1 0 321).toInt ≤ 501) : p9 L1 w (1099511627776 + i) = 0 := by
  unfold p9
  rw [if_neg (by omega), if_neg (by omega), if_neg (by omega)]
theorem p9_e (h21 : (w.1 0 321).toInt ≤ 501) (h75 : (w.1 0 375).toInt ≤ 40) : p9 L1 w 2199023255552 = -1 := by
  unfold p9
  rw [if_neg (by omega), if_neg (by omega), if_pos rfl]
theorem csum_p9 {n : Nat} (h : (n : Int) ≤ (w.1 0 321).toInt) : csum (p9 L1 w) [] (w.1 320) n = 0 := by
  induction n with
  | zero => rfl
  | succ n ih =>
    show csum (p9 L1 w) [] (w.1 320) n + (if n ∈ [] then 0 else (if w.1 320 n = 0 then 0 else 1) - p9 L1 w (n : Int)) = 0
    rw [ih (by omega), if_neg (fun q => nomatch q), p9_c (by omega), show ((n : Int)).toNat = n from rfl, Int32.sub_self]
    rfl
end CLK
