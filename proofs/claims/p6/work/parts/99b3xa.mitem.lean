/-! the reference's orders: an item -/
/-- kept along a text: orders, calls, the globals' places so far -/
def OFt (v u : MS) : Prop := ((v.1 0 15).toInt ≤ (u.1 0 15).toInt ∧ ∀ j : Nat, (j : Int) < (v.1 0 15).toInt → u.1 13 j = v.1 13 j ∧ u.1 14 j = v.1 14 j) ∧ ((v.1 0 39).toInt ≤ (u.1 0 39).toInt ∧ ∀ c : Nat, (c : Int) < (v.1 0 39).toInt → u.1 35 c = v.1 35 c ∧ u.1 38 c = v.1 38 c) ∧ ((v.1 0 27).toInt ≤ (u.1 0 27).toInt ∧ ∀ j : Nat, (j : Int) < (v.1 0 27).toInt → u.1 25 j = v.1 25 j)
def OAt (K : TK) (v u : MS) (a : List EV) : Prop := (u.1 0 15).toInt = (v.1 0 15).toInt + loL a ∧ OFt v u ∧ CJ v u ∧ MOq K u (v.1 0 39).toInt (v.1 0 15).toNatClampNeg a
section XAI
variable {n : Int} {K : TK} {e : PE} {v u w x' y u2 A : MS} {a b d a0 cc : List EV} {q : EV} {r pa pb pd o zv zn i kI : Int32} {c : RM1} {E : EvE} {S : EvS} {Es : FE} {Ss : FS} {k p : Nat} {bz : Bool} {cl cl' : Int} {x : IS} {W : Nat → Int32}
theorem OFt.rf : OFt v v := ⟨⟨Int.le_refl _, fun _ _ => ⟨rfl, rfl⟩⟩, ⟨Int.le_refl _, fun _ _ => ⟨rfl, rfl⟩⟩, Int.le_refl _, fun _ _ => rfl⟩
theorem OFt.of (h : OF v u) : OFt v u := ⟨h.1, h.2.1, by rw [h.2.2.1]; exact Int.le_refl _, fun j _ => by rw [h.2.2.2]⟩
theorem OFt.tr (h : OFt v u) (k : OFt u w) : OFt v w := by
  obtain ⟨⟨a1, a2⟩, ⟨a3, a4⟩, a5, a6⟩ := h
  obtain ⟨⟨b1, b2⟩, ⟨b3, b4⟩, b5, b6⟩ := k
  refine ⟨⟨by omega, fun j hj => ?_⟩, ⟨by omega, fun c hc => ?_⟩, by omega, fun j hj => (b6 j (by omega)).trans (a6 j hj)⟩
  · exact ⟨by rw [(b2 j (by omega)).1, (a2 j hj).1], by rw [(b2 j (by omega)).2, (a2 j hj).2]⟩
  · exact ⟨by rw [(b4 c (by omega)).1, (a4 c hc).1], by rw [(b4 c (by omega)).2, (a4 c hc).2]⟩
theorem CJ.tt (h : CJ v u) (k : CJ u w) (f : OFt v u) (g : OFt u w) : CJ v w := by
  obtain ⟨h1, h2⟩ := h
  obtain ⟨k1, k2⟩ := k
  have f1 := f.1.1
  have g1 := g.1.1
  have f3 := f.2.1.1
  have g3 := g.2.1.1
  have g4 := g.2.1.2
  have R : ∀ c : Nat, (v.1 0 39).toInt ≤ c → (c : Int) < (w.1 0 39).toInt → (((c : Int) < (u.1 0 39).toInt ∧ w.1 38 c = u.1 38 c ∧ (v.1 0 15).toInt ≤ (w.1 38 c).toInt ∧ (w.1 38 c).toInt < (u.1 0 15).toInt) ∨ ((u.1 0 39).toInt ≤ c ∧ (u.1 0 15).toInt ≤ (w.1 38 c).toInt ∧ (w.1 38 c).toInt < (w.1 0 15).toInt)) ∧ 0 ≤ (w.1 38 c).toInt ∧ w.1 13 (w.1 38 c).toNatClampNeg = 14 := fun c c1 c2 => by
    by_cases e : (c : Int) < (u.1 0 39).toInt
    · have := h1 c c1 e
      rw [(g4 c e).2]
      have nc := natI this.2.1
      refine ⟨Or.inl ⟨e, rfl, this.1.1, this.1.2⟩, this.2.1, ?_⟩
      rw [(g.1.2 _ (by omega)).1]
      exact this.2.2
    · have := k1 c (by omega) c2
      exact ⟨Or.inr ⟨by omega, this.1⟩, this.2⟩
  refine ⟨fun c c1 c2 => ?_, fun c d c1 c2 d1 d2 e => ?_⟩
  · obtain ⟨R1, R2⟩ := R c c1 c2
    rcases R1 with ⟨q1, q2, q3, q4⟩ | ⟨q1, q2, q3⟩
    · exact ⟨⟨q3, by omega⟩, R2⟩
    · exact ⟨⟨by omega, q3⟩, R2⟩
  · rcases (R c c1 c2).1 with ⟨q1, q2, q3, q4⟩ | ⟨q1, q2, q3⟩
    · rcases (R d d1 d2).1 with ⟨r1, r2, r3, r4⟩ | ⟨r1, r2, r3⟩
      · exact h2 c d c1 q1 d1 r1 (by rw [← q2, ← r2]; exact e)
      · rw [e] at q4
        omega
    · rcases (R d d1 d2).1 with ⟨r1, r2, r3, r4⟩ | ⟨r1, r2, r3⟩
      · rw [e] at q2
        omega
      · exact k2 c d q1 c2 r1 d2 e
theorem moE.ut (h : moE K u cl q p) (k : OFt u w) (hc : cl' ≤ cl) : moE K w cl' q p := by
  obtain ⟨a1, a2⟩ := h
  obtain ⟨⟨b1, b2⟩, ⟨b3, b4⟩, b5, b6⟩ := k
  refine ⟨by omega, ?_⟩
  by_cases z : loE q = 0
  · exact Or.inl z
  · rcases a2 with a2 | a2
    · exact absurd a2 z
    have J := b2 p (by omega)
    rw [J.1]
    refine Or.inr ⟨a2.1, ?_⟩
    have m := a2.2
    unfold moA at m ⊢
    rw [J.2]
    by_cases c1 : q.1 = 16 ∨ q.1 = 17 ∨ q.1 = 18 ∨ q.1 = 19
    · rw [if_pos c1] at m ⊢; exact m
    rw [if_neg c1] at m ⊢
    by_cases c2 : q.1 = 5 ∨ q.1 = 6
    · rw [if_pos c2] at m ⊢
      exact ⟨by omega, by rw [b6 _ m.1]; exact m.2⟩
    rw [if_neg c2] at m ⊢
    by_cases c3 : q.1 = 20
    · rw [if_pos c3] at m ⊢; exact m
    rw [if_neg c3] at m ⊢
    by_cases c4 : q.1 = 21
    · rw [if_pos c4] at m ⊢
      obtain ⟨c, m1, m2, m3, m4⟩ := m
      have C := b4 c m2
      exact ⟨c, by omega, by omega, by rw [C.2]; exact m3, by rw [C.1]; exact m4⟩
    rw [if_neg c4] at m ⊢
    exact m
theorem OAt.of (h : OA K v u a) : OAt K v u a := ⟨h.1, OFt.of h.2.1, h.2.2.1, h.2.2.2⟩
theorem OAt.rf : OAt K v v [] := OAt.of OA.rf
theorem OAt.tr (h : OAt K v u a) (k : OAt K u w b) (h0 : 0 ≤ (v.1 0 15).toInt) : OAt K v w (a ++ b) := by
  obtain ⟨a1, a2, a3, a4⟩ := h
  obtain ⟨b1, b2, b3, b4⟩ := k
  refine ⟨by rw [loL_app]; omega, a2.tr b2, a3.tt b3 a2 b2, MOq.app (fun x q y e => (a4 x q y e).ut b2 (Int.le_refl _)) ?_⟩
  have n1 := natI h0
  have n2 := natI (a := u.1 0 15) (by omega)
  rw [show (v.1 0 15).toNatClampNeg + loL a = (u.1 0 15).toNatClampNeg by omega]
  exact b4.up OF.rf a2.2.1.1
/-- a global -/
theorem OAt.gl {z : Int32} (h13 : u.1 13 = v.1 13) (h14 : u.1 14 = v.1 14) (h35 : u.1 35 = v.1 35) (h38 : u.1 38 = v.1 38) (h15 : u.1 0 15 = v.1 0 15) (h39 : u.1 0 39 = v.1 0 39) (h27 : u.1 0 27 = v.1 0 27 + 1) (hb : 0 ≤ (v.1 0 27).toInt ∧ (v.1 0 27).toInt ≤ 60) (h25 : u.1 25 = upd (v.1 25) (v.1 0 27).toNatClampNeg z) : OAt K v u [] := by
  have i27 : (u.1 0 27).toInt = (v.1 0 27).toInt + 1 := by rw [h27]; exact add_z rfl (by decide) (by omega) (by omega)
  have n7 := natI hb.1
  exact ⟨by rw [h15, loL_nil]; omega, ⟨⟨by rw [h15]; exact Int.le_refl _, fun _ _ => ⟨by rw [h13], by rw [h14]⟩⟩, ⟨by rw [h39]; exact Int.le_refl _, fun _ _ => ⟨by rw [h35], by rw [h38]⟩⟩, by omega, fun j hj => by rw [h25]; exact updN_ (by omega)⟩, ⟨fun c c1 c2 => by rw [h39] at c2; omega, fun c d c1 c2 => by rw [h39] at c2; omega⟩, MOq.nil⟩
set_option maxHeartbeats 1600000 in
theorem oItemM (hS : XMs9 n K (QMS 40) S) (hSs : HMS n K (QMS 40) Ss) (h : Q_m_item v false u) (I : RIq n K W v x) (p0 : 0 ≤ (v.1 0 15).toInt) : (((mkE K x.2.2).1 (pAt x.1 + 1 + 1)).toInt = 30 ∧ ∃ kn b j, gFunc S (mkE K x.2.2) (pAt x.1 + 1) = some (kn, b, j) ∧ OAt K v u (fnE (v.1 0 22) b) ∧ u.1 20 = upd (v.1 20) (v.1 0 22).toNatClampNeg (v.1 0 15) ∧ u.1 0 22 = v.1 0 22 + 1) ∨ (¬ ((mkE K x.2.2).1 (pAt x.1 + 1 + 1)).toInt = 30 ∧ OAt K v u [] ∧ u.1 20 = v.1 20 ∧ u.1 0 22 = v.1 0 22) := by
  obtain ⟨-, -, -, -, -, -, -, -, -, r3, h1, -, h⟩ := h
  have J := I.1
  have i3 := rIsKey (g := (false, [])) h1 J (pa := 0) (by decide)
  have px : pAt x.1 = v.1 0 47 := by rw [I.2.1]; rfl
  rcases h with ⟨c3, h⟩ | ⟨c3, u221, hb, -, f9, -⟩
  rotate_left
  · cases f9
  have hk : kd (mkE K x.2.2) (aR (false, []) K v) = 10 := i3.mp c3
  rcases h with ⟨u9, h1, f9, -⟩ | ⟨h1, k1, h⟩
  · cases f9
  rcases h with ⟨c2, h⟩ | ⟨c2, u217, hb, -, f9, -⟩
  rotate_left
  · cases f9
  obtain ⟨J1, hk2, I1, HD⟩ := rHd I hk h1 k1 c2
  have J4 := J.2.2.2.1
  have e1 : (v.1 0 47 + 1).toInt = (v.1 0 47).toInt + 1 := add_z rfl (by decide) (by omega) (by omega)
  obtain ⟨r14, hg, -, h⟩ := h
  rcases h with ⟨c14, f9, -⟩ | ⟨c14, r24, hf, -, h⟩
  · cases f9
  rcases h with ⟨c24, r30, hs, -, w143, hj, fr, -, h⟩ | ⟨c24, f9, -⟩
  rotate_left
  · cases f9
  have le5 : (v.1 0 47 + 1).toInt ≤ 1500 := by have := k1.1; omega
  have B30 := (rKb (g := (false, [])) (v := wA v 0 47 (v.1 0 47 + 1)) (sg2 hs) J1 le5 (by rw [hk2]; decide) (q := (40, 30)) (by decide) rfl).1
  have B30 : r30.toInt ≠ 0 ↔ (mkE K x.2.2).1 (v.1 0 47 + 1 + 1) = 30 := B30
  have hb27 : 0 ≤ (v.1 0 27).toInt ∧ (v.1 0 27).toInt ≤ 60 := I.2.2.2.2.1.2
  rw [px]
  have F0 : ∀ i, i ≠ 47 → i ≠ 49 → w143.1 0 i = v.1 0 i := fun i i7 i9 => by
    rw [fr.2.1 i (by simp only [List.mem_cons, List.not_mem_nil, or_false]; exact i9)]
    exact updN_ i7
  have FA : ∀ a, a ≠ 0 → w143.1 a = v.1 a := fun a a0 => by
    rw [fr.2.2 a (by simp only [List.mem_cons, List.not_mem_nil, or_false]; exact a0)]
    exact if_neg a0
  rcases h with ⟨u9, ht, f9, -⟩ | ⟨ht, kt, h⟩
  · cases f9
  rcases h with ⟨c30, r40, h40, -, h⟩ | ⟨c30, h⟩
  · refine Or.inr ⟨fun q => B30.mpr (Int32.toInt_inj.mp q) c30, ?_⟩
    rcases h with ⟨c40, ⟨u9, -, f9, -⟩ | ⟨-, -, -, hu⟩⟩ | ⟨c40, ⟨u9, -, f9, -⟩ | ⟨-, -, ⟨c4, h⟩ | ⟨c4, u174, -, -, f9, -⟩⟩⟩
    · cases f9
    · rw [hu]
      exact ⟨OAt.gl (FA 13 (by decide)) (FA 14 (by decide)) (FA 35 (by decide)) (FA 38 (by decide)) (F0 15 (by decide) (by decide)) (F0 39 (by decide) (by decide)) (by rw [← F0 27 (by decide) (by decide)]; rfl) hb27 (by rw [← F0 27 (by decide) (by decide), ← FA 25 (by decide)]; rfl), FA 20 (by decide), F0 22 (by decide) (by decide)⟩
    · cases f9
    · rcases h with ⟨c5, ⟨u9, -, f9, -⟩ | ⟨-, -, ⟨u9, -, f9, -⟩ | ⟨-, -, u77, h77, ⟨u9, -, f9, -⟩ | ⟨-, -, -, hu⟩⟩⟩⟩ | ⟨c5, ⟨c6, ⟨u9, -, f9, -⟩ | ⟨-, -, ⟨u9, -, f9, -⟩ | ⟨-, -, ⟨u9, -, f9, -⟩ | ⟨-, -, u118, h118, -, hu⟩⟩⟩⟩ | ⟨c6, ⟨u9, -, f9, -⟩ | ⟨-, -, ⟨u9, -, f9, -⟩ | ⟨-, -, u77, h77, ⟨u9, -, f9, -⟩ | ⟨-, -, -, hu⟩⟩⟩⟩⟩
      · cases f9
      · cases f9
      · cases f9
      · rw [hu, h77]
        exact ⟨OAt.gl (FA 13 (by decide)) (FA 14 (by decide)) (FA 35 (by decide)) (FA 38 (by decide)) (F0 15 (by decide) (by decide)) (F0 39 (by decide) (by decide)) (by rw [← F0 27 (by decide) (by decide)]; rfl) hb27 (by rw [← F0 27 (by decide) (by decide), ← FA 25 (by decide)]; rfl), FA 20 (by decide), F0 22 (by decide) (by decide)⟩
      · cases f9
      · cases f9
      · cases f9
      · rw [hu, h118]
        exact ⟨OAt.gl (FA 13 (by decide)) (FA 14 (by decide)) (FA 35 (by decide)) (FA 38 (by decide)) (F0 15 (by decide) (by decide)) (F0 39 (by decide) (by decide)) (by rw [← F0 27 (by decide) (by decide)]; rfl) hb27 (by rw [← F0 27 (by decide) (by decide), ← FA 25 (by decide)]; rfl), FA 20 (by decide), F0 22 (by decide) (by decide)⟩
      · cases f9
      · cases f9
      · cases f9
      · rw [hu, h77]
        exact ⟨OAt.gl (FA 13 (by decide)) (FA 14 (by decide)) (FA 35 (by decide)) (FA 38 (by decide)) (F0 15 (by decide) (by decide)) (F0 39 (by decide) (by decide)) (by rw [← F0 27 (by decide) (by decide)]; rfl) hb27 (by rw [← F0 27 (by decide) (by decide), ← FA 25 (by decide)]; rfl), FA 20 (by decide), F0 22 (by decide) (by decide)⟩
    · cases f9
  · have k30 : ((mkE K x.2.2).1 (v.1 0 47 + 1 + 1)).toInt = 30 := by rw [B30.mp c30]; decide
    refine Or.inl ⟨k30, ?_⟩
    unfold Q_m_item_J0 at hj
    rcases hj with ⟨q, -⟩ | ⟨-, hj⟩
    · exact absurd q c30
    rcases hj with ⟨q, ew⟩ | ⟨q, ew⟩
    rotate_left
    · exfalso
      rw [ew] at ht
      exact absurd (rDueT (g := (false, [])) J1 (by rw [hk2]; decide) ht).1 Bool.false_ne_true
    rcases h with ⟨u9, h, f9, -⟩ | ⟨u186, h, hK, -, eu⟩
    · cases f9
    rw [ew] at ht h
    have T1 := rTake (g := (false, [])) ht J1 (by rw [hk2]; decide)
    have JT := T1.jj
    rw [eu]
    obtain ⟨kn, b, x1, x2, x3, -⟩ := oFunM (kI := v.1 0 22) (i := v.1 0 47 + 1) hS h JT rfl
    have F := rFun0 hSs h JT k30
    rcases F with ⟨-, c, f9, -, -, -, F4⟩ | ⟨f9, -⟩
    · refine ⟨kn, b, _, x1, OAt.of ((OA.sm rfl rfl rfl rfl rfl rfl rfl rfl : OA K v _ []).tn x2 p0), x3, F4.2.2.2.2.1⟩
    · cases f9
end XAI
