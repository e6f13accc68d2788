/-! the class's deeds: linked -/
/-- the deed at p, once linked -/
def DTq (L1 : List Nat) (U : MS) (q : EV) (p : Nat) : Prop :=
  (p : Int) + ldE q ≤ (U.1 0 381).toInt ∧
  (if q.1 = 25 then True
   else if q.1 = 16 ∨ q.1 = 17 ∨ q.1 = 18 ∨ q.1 = 19 then U.1 378 p = q.1 ∧ (U.1 379 p).toInt = p + q.2.2.2.1
   else if q.1 = 33 then U.1 378 p = 19 ∧ (U.1 379 p).toInt = p + q.2.2.2.1
   else if q.1 = 21 then U.1 378 p = 21 ∧ U.1 380 p = q.2.2.1 ∧ (0 ≤ (U.1 379 p).toInt ∧ (U.1 379 p).toInt < (U.1 0 375).toInt) ∧ rF L1 U (U.1 379 p).toNatClampNeg 4 = q.2.1 ∧ (rF L1 U (U.1 379 p).toNatClampNeg 0).toInt = q.2.2.2.1
   else (q.1 ≠ 30 ∧ q.1 ≠ 31 ∧ q.1 ≠ 32) ∧ U.1 378 p = q.1 ∧ U.1 379 p = q.2.1 ∧ U.1 380 p = (if q.1 = 4 then 0 else q.2.2.1))
def FC2 (L1 : List Nat) (W : Nat → Int32) (w : MS) (x r : Int32) : Prop := (r.toInt = -1 ∧ fnm (fsC L1 W w) x = none) ∨ (0 ≤ r.toInt ∧ r.toInt < (w.1 0 375).toInt ∧ fnm (fsC L1 W w) x = some (rF L1 w r.toNatClampNeg 4, rF L1 w r.toNatClampNeg 3, rF L1 w r.toNatClampNeg 0, rF L1 w r.toNatClampNeg 2, W r.toNatClampNeg))
section VTL
variable {L1 L2 : List Nat} {W : Nat → Int32} {v u w z U : MS} {ps pa r : Int32} {K : TK}
theorem zFC2 (h : Q_x_X1_functionOfCall L1 L2 z pa r) (h321 : z.1 0 321 = w.1 0 321) (h375 : z.1 0 375 = w.1 0 375) (h318 : z.1 318 = w.1 318) (hr : RS0 w z) (J3 : 0 ≤ (w.1 0 375).toInt ∧ (w.1 0 375).toInt ≤ 40) (h0 : 0 ≤ pa.toInt ∧ pa.toInt < (w.1 0 321).toInt) : FC2 L1 W w (w.1 318 pa.toNatClampNeg) r := by
  have rf : ∀ f i, rF L1 z f i = rF L1 w f i := fun f i => by unfold rF; rw [hr _ (by omega)]
  have fe : fsC L1 W z = fsC L1 W w := by
    unfold fsC nF
    rw [h375]
    exact List.map_congr_left (fun f _ => by rw [rf, rf, rf, rf])
  have q := cFOC h (by rw [h321]; exact h0)
  rw [h318] at q
  have q2 := cFun (W := W) q (by rw [h375]; exact J3)
  rw [fe, rf, rf, rf, rf, h375] at q2
  exact q2
set_option maxHeartbeats 800000 in
theorem cLink2 (h : Q_x_X1_link L1 L2 w U) (J3 : 0 ≤ (w.1 0 375).toInt ∧ (w.1 0 375).toInt ≤ 40) : ∀ k : Nat, (k : Int) < (w.1 0 381).toInt → (16 ≤ (w.1 378 k).toInt ∧ (w.1 378 k).toInt ≤ 19 → 0 ≤ (w.1 379 k).toInt ∧ (w.1 379 k).toInt < 1500 → U.1 379 k = w.1 316 (w.1 379 k).toNatClampNeg) ∧ (w.1 378 k = 21 → 0 ≤ (w.1 379 k).toInt ∧ (w.1 379 k).toInt < (w.1 0 321).toInt → FC2 L1 W w (w.1 318 (w.1 379 k).toNatClampNeg) (U.1 379 k)) := by
  obtain ⟨-, z81, ka, w2, hr, fc, hka, rs, c81, rfl⟩ := h
  have inv : 0 ≤ ka.toInt ∧ (∀ k : Nat, (k : Int) < ka.toInt → (16 ≤ (w.1 378 k).toInt ∧ (w.1 378 k).toInt ≤ 19 → 0 ≤ (w.1 379 k).toInt ∧ (w.1 379 k).toInt < 1500 → U.1 379 k = w.1 316 (w.1 379 k).toNatClampNeg) ∧ (w.1 378 k = 21 → 0 ≤ (w.1 379 k).toInt ∧ (w.1 379 k).toInt < (w.1 0 321).toInt → FC2 L1 W w (w.1 318 (w.1 379 k).toNatClampNeg) (U.1 379 k))) ∧ ∀ k : Nat, ka.toInt ≤ (k : Int) → U.1 379 k = w.1 379 k := by
    refine RT.ind (fun (y : Int32 × MS) => 0 ≤ y.1.toInt ∧ (∀ k : Nat, (k : Int) < y.1.toInt → (16 ≤ (w.1 378 k).toInt ∧ (w.1 378 k).toInt ≤ 19 → 0 ≤ (w.1 379 k).toInt ∧ (w.1 379 k).toInt < 1500 → y.2.1 379 k = w.1 316 (w.1 379 k).toNatClampNeg) ∧ (w.1 378 k = 21 → 0 ≤ (w.1 379 k).toInt ∧ (w.1 379 k).toInt < (w.1 0 321).toInt → FC2 L1 W w (w.1 318 (w.1 379 k).toNatClampNeg) (y.2.1 379 k))) ∧ ∀ k : Nat, y.1.toInt ≤ (k : Int) → y.2.1 379 k = w.1 379 k) hr ⟨show 0 ≤ (0 : Int32).toInt by decide, fun k hk => by have hk : (k : Int) < (0 : Int32).toInt := hk; have : (0 : Int32).toInt = 0 := (by decide); omega, fun _ _ => rfl⟩ ?_
    intro a b _ ha hb
    obtain ⟨g1, g2, g3⟩ := ha
    obtain ⟨fa, ba, ra, ca, hb⟩ := hb
    have na := natI g1
    have ea : (a.1 + (1 : Int32)).toInt = a.1.toInt + 1 := add_z rfl (by decide) (by omega) (by omega)
    have e378 : a.2.1 378 = w.1 378 := fa.2.2 378 (by decide)
    have e316 : a.2.1 316 = w.1 316 := fa.2.2 316 (by decide)
    have x379 : a.2.1 379 a.1.toNatClampNeg = w.1 379 a.1.toNatClampNeg := g3 _ (by omega)
    rw [e378, x379, e316] at hb
    have fin : ∀ {m : MS}, (∀ k : Nat, k ≠ a.1.toNatClampNeg → m.1 379 k = a.2.1 379 k) → ((16 ≤ (w.1 378 a.1.toNatClampNeg).toInt ∧ (w.1 378 a.1.toNatClampNeg).toInt ≤ 19 → 0 ≤ (w.1 379 a.1.toNatClampNeg).toInt ∧ (w.1 379 a.1.toNatClampNeg).toInt < 1500 → m.1 379 a.1.toNatClampNeg = w.1 316 (w.1 379 a.1.toNatClampNeg).toNatClampNeg) ∧ (w.1 378 a.1.toNatClampNeg = 21 → 0 ≤ (w.1 379 a.1.toNatClampNeg).toInt ∧ (w.1 379 a.1.toNatClampNeg).toInt < (w.1 0 321).toInt → FC2 L1 W w (w.1 318 (w.1 379 a.1.toNatClampNeg).toNatClampNeg) (m.1 379 a.1.toNatClampNeg))) → 0 ≤ (a.1 + (1 : Int32)).toInt ∧ (∀ k : Nat, (k : Int) < (a.1 + (1 : Int32)).toInt → (16 ≤ (w.1 378 k).toInt ∧ (w.1 378 k).toInt ≤ 19 → 0 ≤ (w.1 379 k).toInt ∧ (w.1 379 k).toInt < 1500 → m.1 379 k = w.1 316 (w.1 379 k).toNatClampNeg) ∧ (w.1 378 k = 21 → 0 ≤ (w.1 379 k).toInt ∧ (w.1 379 k).toInt < (w.1 0 321).toInt → FC2 L1 W w (w.1 318 (w.1 379 k).toNatClampNeg) (m.1 379 k))) ∧ ∀ k : Nat, (a.1 + (1 : Int32)).toInt ≤ (k : Int) → m.1 379 k = w.1 379 k := by
      intro m h1 h2
      refine ⟨by omega, fun k hk => ?_, fun k hk => ?_⟩
      · by_cases q : k = a.1.toNatClampNeg
        · rw [q]; exact h2
        · rw [h1 k q]; exact g2 k (by omega)
      · rw [h1 k (by omega)]; exact g3 k (by omega)
    have n21 : (w.1 378 a.1.toNatClampNeg).toInt ≠ 21 → w.1 378 a.1.toNatClampNeg ≠ 21 := fun q z => q (by rw [z]; decide)
    have wr : ∀ {y : Int32} (k : Nat), k ≠ a.1.toNatClampNeg → (wA a.2 379 a.1.toNatClampNeg y).1 379 k = a.2.1 379 k := fun k hk => show upd (a.2.1 379) _ _ k = _ from updN_ hk
    rcases hb with ⟨b1, b2, rfl⟩ | ⟨b1, ⟨b2, ⟨b3, rfl⟩ | ⟨b3, r21, hq, rfl⟩⟩ | ⟨b2, hb⟩⟩
    · exact fin (fun k _ => rfl) ⟨fun q => by omega, fun q => absurd q (n21 b2)⟩
    · exact fin (fun k _ => rfl) ⟨fun q => by omega, fun q => absurd q (n21 b3)⟩
    · refine fin wr ⟨fun q => by omega, fun _ q0 => ?_⟩
      show FC2 L1 W w _ (upd (a.2.1 379) _ r21 _)
      rw [updS]
      exact zFC2 hq (fa.2.1 321 (fun q => nomatch q)) (fa.2.1 375 (fun q => nomatch q)) (fa.2.2 318 (by decide)) ra J3 q0
    · have no : w.1 378 a.1.toNatClampNeg ≠ 21 := n21 (by omega)
      rcases hb with ⟨c, rfl⟩ | ⟨-, ⟨c, rfl⟩ | ⟨-, rfl⟩⟩
      · exact fin wr ⟨fun _ q => by omega, fun q => absurd q no⟩
      · exact fin wr ⟨fun _ q => by omega, fun q => absurd q no⟩
      · refine fin wr ⟨fun _ q => ?_, fun q => absurd q no⟩
        show upd (a.2.1 379) _ _ _ = _
        rw [updS]
  rw [fc.2.1 381 (fun q => nomatch q)] at c81
  exact fun k hk => inv.2.1 k (by omega)
theorem fnm_nm {fs : List FN} {x : Int32} {f : FN} (h : fnm fs x = some f) : f.1 = x := by
  have := List.find?_some h
  exact eq_of_beq this
/-- the deeds of a text, once linked, are the events -/
theorem cLinkD {evs : List (List Int32 × List EV)} {u8 : MS} {y : IS} (hL : Q_x_X1_link L1 L2 w U) (kL : K_x_X1_link w U) (C : CIq L1 L2 K W w y) (hE : ∀ P, EA P u8 w (txE 0 evs)) (h8 : (u8.1 0 381).toInt = 0 ∧ (u8.1 0 317).toInt = 0 ∧ (u8.1 0 305).toInt = 0) (h21 : 0 ≤ (w.1 0 321).toInt) (h5 : (w.1 0 305).toInt ≤ 1500) (hC : tCalls y.2.1 (cas [] (w.1 318) (w.1 319) (w.1 320) (nC w)) = .ok ()) : (∀ x q z, txE 0 evs = x ++ q :: z → DTq L1 U q (ldL x)) ∧ (U.1 0 381).toInt = ldL (txE 0 evs) := by
  have J3 := C.2.2.1
  have hf : y.2.1 = fsC L1 W w := C.2.2.2.1
  have G : ∀ j, U.1 0 j = w.1 0 j := fun j => kL.1.2.1 j (fun q => nomatch q)
  have e78 : U.1 378 = w.1 378 := kL.1.2.2 378 (by decide)
  have e80 : U.1 380 = w.1 380 := kL.1.2.2 380 (by decide)
  have rf : ∀ f i, rF L1 U f i = rF L1 w f i := fun f i => by unfold rF; rw [kL.2 _ (by omega)]
  have n0 : (u8.1 0 381).toNatClampNeg = 0 := by have := natI (a := u8.1 0 381) (by omega); omega
  have l17 : (w.1 0 317).toInt ≤ 1500 := by have := (hE (0, 0, 0)).2.2.1; omega
  have LK := cLink2 (W := W) hL J3
  have LN := (zLink (W := W) hL J3).2.2
  refine ⟨fun x q z e => ?_, ?_⟩
  · have M : ∀ P, mtE P w (u8.1 0 317).toInt (u8.1 0 321).toInt q (ldL x) := fun P => by
      have := (hE P).2.2.2 x q z e
      rw [n0, Nat.zero_add] at this
      exact this
    obtain ⟨m1, m2⟩ := M (-1, -1, 0)
    refine ⟨by rw [G 381]; exact m1, ?_⟩
    by_cases c0 : q.1 = 25
    · rw [if_pos c0]; trivial
    have l1 : ldE q = 1 := if_neg c0
    rw [l1] at m1
    rw [if_neg c0] at m2 ⊢
    rw [e78, e80]
    by_cases c1 : q.1 = 16 ∨ q.1 = 17 ∨ q.1 = 18 ∨ q.1 = 19
    · rw [if_pos c1] at m2 ⊢
      obtain ⟨a1, a2, ⟨a3, a4, a5⟩, a6⟩ := m2
      have tg : 16 ≤ (w.1 378 (ldL x)).toInt ∧ (w.1 378 (ldL x)).toInt ≤ 19 := by
        rw [a1]
        rcases c1 with c | c | c | c <;> (rw [c]; decide)
      refine ⟨a1, ?_⟩
      rw [(LK (ldL x) (by omega)).1 tg ⟨a4, by omega⟩]
      exact a6 (by omega)
    rw [if_neg c1] at m2 ⊢
    by_cases c2 : q.1 = 30
    · rw [if_pos c2] at m2
      exact absurd (by decide) m2.2.2.2
    rw [if_neg c2] at m2
    by_cases c3 : q.1 = 31
    · rw [if_pos c3] at m2
      exact absurd (by decide) m2.2.2.2
    rw [if_neg c3] at m2
    by_cases c4 : q.1 = 32
    · rw [if_pos c4] at m2
      have m3 := (M (-1, -1, 1)).2
      rw [if_neg c0, if_neg c1, if_neg c2, if_neg c3, if_pos c4] at m3
      have := m2.2.2.symm.trans m3.2.2
      exact absurd this (by decide)
    rw [if_neg c4] at m2
    by_cases c5 : q.1 = 33
    · rw [if_pos c5] at m2 ⊢
      obtain ⟨a1, a2, ⟨a3, a4, a5⟩, a6⟩ := m2
      refine ⟨a1, ?_⟩
      rw [(LK (ldL x) (by omega)).1 (by rw [a1]; decide) ⟨a4, by omega⟩]
      exact a6 (by omega)
    rw [if_neg c5] at m2 ⊢
    by_cases c6 : q.1 = 21
    · rw [if_pos c6] at m2 ⊢
      obtain ⟨a1, a2, ⟨a3, a4, a5⟩, a6, a7⟩ := m2
      have nn := natI a4
      have nc : ((nC w : Nat) : Int) = (w.1 0 321).toInt := natI h21
      have mem : (w.1 318 (w.1 379 (ldL x)).toNatClampNeg, w.1 319 (w.1 379 (ldL x)).toNatClampNeg, w.1 320 (w.1 379 (ldL x)).toNatClampNeg) ∈ cas [] (w.1 318) (w.1 319) (w.1 320) (nC w) := by
        unfold cas
        refine List.mem_map.mpr ⟨(w.1 379 (ldL x)).toNatClampNeg, List.mem_range.mpr (by omega), ?_⟩
        rw [if_neg (fun q => nomatch q)]
      obtain ⟨g, g1, g2⟩ := tCalls_ok hC _ mem
      rw [hf] at g1
      rcases (LK (ldL x) (by omega)).2 a1 ⟨a4, a5⟩ with ⟨-, b2⟩ | ⟨b1, b2, b3⟩
      · rw [b2] at g1
        cases g1
      · have e1 : g = _ := Option.some.inj (g1.symm.trans b3)
        refine ⟨a1, a2, ⟨b1, by rw [G 375]; exact b2⟩, ?_, ?_⟩
        · rw [rf]
          exact (fnm_nm b3).trans a6
        · rw [rf]
          have e2 : g.2.2.1 = rF L1 w (U.1 379 (ldL x)).toNatClampNeg 0 := by rw [e1]
          rw [← e2, g2]
          exact a7
    · rw [if_neg c6] at m2 ⊢
      refine ⟨⟨c2, c3, c4⟩, m2.1, ?_, m2.2.2⟩
      rw [(LN (ldL x) (by omega)).2 (by
        rw [m2.1]
        rintro ⟨q1, q2⟩
        refine c1 ?_
        have t : ∀ z : Int32, 16 ≤ z.toInt → z.toInt ≤ 19 → z = 16 ∨ z = 17 ∨ z = 18 ∨ z = 19 := fun z h1 h2 => by
          have : z.toInt = 16 ∨ z.toInt = 17 ∨ z.toInt = 18 ∨ z.toInt = 19 := by omega
          rcases this with h | h | h | h
          · exact Or.inl (Int32.toInt_inj.mp (h.trans (by decide)))
          · exact Or.inr (Or.inl (Int32.toInt_inj.mp (h.trans (by decide))))
          · exact Or.inr (Or.inr (Or.inl (Int32.toInt_inj.mp (h.trans (by decide)))))
          · exact Or.inr (Or.inr (Or.inr (Int32.toInt_inj.mp (h.trans (by decide)))))
        exact t _ q1 q2) (by rw [m2.1]; exact c6)]
      exact m2.2.1
  · rw [G 381, (hE (0, 0, 0)).1]
    omega
end VTL
