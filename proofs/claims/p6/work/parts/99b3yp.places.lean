/-! every place of a program -/
section YPP
variable {evs : List (List Int32 × List EV)} {L1 : List Nat} {K : TK} {fn : Nat → Int32} {v0 w0 : MS} {E : Nat → Nat} {ty : Nat → Nat → ST3} {lo M : Nat → Nat} {h : Nat → Int} {T : Nat → Nat → TT} {nf ng gl : Int}
set_option maxHeartbeats 1000000 in
theorem placeE (hE : ∀ x q z, txE 0 evs = x ++ q :: z → DTq L1 v0 q (ldL x)) (hM : MXq K fn w0 (txE 0 evs)) (h9 : (v0.1 0 381).toInt ≤ 3008)
    (hT : ∀ f, f < evs.length → ∀ i q, (Lfn evs f)[i]? = some q → (q.1 = 33 ∧ ((ty f i).2.2 = 1 ∧ (ty f i).2.1 = 0) ∧ (ldL ((Lfn evs f).take i) : Int) + q.2.2.2.1 = (ldL (Lfn evs f) : Int) - 1) ∨ (preT q (ty f i) ∧ (endT q ∨ le3 (postT q (ty f i)) (ty f (i + 1))) ∧ (isL q → ∃ j, j < (Lfn evs f).length ∧ (ldL ((Lfn evs f).take j) : Int) = ldL ((Lfn evs f).take i) + q.2.2.2.1 ∧ (loL ((Lfn evs f).take j) : Int) = loL ((Lfn evs f).take i) + q.2.2.2.2.1 ∧ le3 (leapT q (ty f i)) (ty f j))))
    (hS : ∀ f, f < evs.length → SLT 1502 (M f) (Lfn evs f))
    (hF : ∀ f, f < evs.length → FN2 (w0.1 71) (w0.1 72) (w0.1 78) (w0.1 79) (w0.1 81) (w0.1 82) nf ng gl f (E f) (h f) (T f) ∧ (w0.1 81 f).toInt = loL (xfn evs f)) :
    ∀ f i, okF evs E f i → (0 ≤ rkF evs (fun f j => (T f j).2.2.1) f i ∧ rkF evs (fun f j => (T f j).2.2.1) f i ≤ 6018) ∧ ∃ q, EVP (pdF evs, poF evs, ty, lo, M, rkF evs (fun f j => (T f j).2.2.1), okF evs E) L1 K fn v0 w0 f i q := by
  have at9 : ∀ f i q, f < evs.length → (Lfn evs f)[i]? = some q → DTq L1 v0 q (pdF evs f i) ∧ (loE q = 0 ∨ (w0.1 71 (poF evs f i) = oEv q ∧ mxA K fn w0 q (poF evs f i))) := fun f i q hf hq => by
    obtain ⟨z, hz⟩ := ev_at hf hq
    have d := hE _ _ _ hz
    have m := hM _ _ _ hz
    rw [ldL_app] at d
    rw [loL_app] at m
    exact ⟨d, m⟩
  have pb : ∀ f i q, f < evs.length → (Lfn evs f)[i]? = some q → pdF evs f i + ldE q ≤ 3008 := fun f i q hf hq => by
    have := (at9 f i q hf hq).1.1
    omega
  intro f i ⟨hf, hi, hp⟩
  obtain ⟨q, hq⟩ : ∃ q, (Lfn evs f)[i]? = some q := ⟨_, List.getElem?_eq_getElem hi⟩
  obtain ⟨d, m⟩ := at9 f i q hf hq
  have b1 := pb f i q hf hq
  have rn : q.1 ≠ 24 → rkF evs (fun f j => (T f j).2.2.1) f i = if (T f (poF evs f i)).2.2.1 = true then 6018 - (pdF evs f i : Int) else 3009 - (pdF evs f i : Int) := fun z => rk_n hq z
  have r1 : q.1 ≠ 24 → 3009 - (pdF evs f i : Int) ≤ rkF evs (fun f j => (T f j).2.2.1) f i ∧ rkF evs (fun f j => (T f j).2.2.1) f i ≤ 6018 := fun z => by
    rw [rn z]
    by_cases c : (T f (poF evs f i)).2.2.1 = true
    · rw [if_pos c]; omega
    · rw [if_neg c]; omega
  refine ⟨?_, q, d, m, fun p hp => hS f hf p (by rw [List.mem_singleton.mp hp]; exact List.mem_of_getElem? hq), ?_, ?_⟩
  · by_cases c : q.1 = 24
    · rw [rk_24 hq c]; omega
    · have := r1 c; omega
  · by_cases c : q.1 = 24
    · exact Or.inl c
    · have := r1 c
      right
      show 1 ≤ rkF evs (fun f j => (T f j).2.2.1) f i
      omega
  obtain ⟨⟨p1, -, p3, -, p5, -⟩, g81⟩ := hF f hf
  have n81 : (w0.1 81 f).toNatClampNeg = loL (xfn evs f) := natC g81
  have gj : (w0.1 81 f).toNatClampNeg ≤ poF evs f i := by rw [n81]; unfold poF; omega
  rcases hT f hf i q hq with ⟨t33, ts, tl⟩ | ⟨pr, fa, le⟩
  · -- return
    left
    have ne1 : q.1 ≠ 1 := by rw [t33]; decide
    have i1 := nx_lt hq ne1
    obtain ⟨Y, hY⟩ := Lf_last (evs := evs) (f := f)
    have lY : (Lfn evs f).length = Y.length + 1 := by rw [hY, List.length_append]; rfl
    have hl : (Lfn evs f)[Y.length]? = some (evx 1 0 0) := by rw [hY, List.getElem?_append_right (Nat.le_refl _), Nat.sub_self]; rfl
    have dl := (at9 f _ _ hf hl).1
    have bl := pb f _ _ hf hl
    have l1 : ldE (evx 1 0 0) = 1 := rfl
    have pl : pdF evs f Y.length = ldL (xfn evs f) + ldL Y := by unfold pdF; rw [hY, List.take_append_of_le_length (Nat.le_refl _), List.take_length]
    have wl : ldL (Lfn evs f) = ldL Y + 1 := by rw [hY, ldL_app]; rfl
    have mo : pdF evs f (i + 1) ≤ pdF evs f Y.length := by
      unfold pdF
      have := (mono_take (L := Lfn evs f) (show i + 1 ≤ Y.length by omega)).1
      omega
    have ps := pd_s hq
    have lq : ldE q = 1 := if_neg (by rw [t33]; decide)
    have rr := r1 (by rw [t33]; decide)
    refine ⟨t33, ts, ?_, pdF evs f Y.length, ?_, (dPl dl (by show ¬ _; decide)).1, ?_⟩
    · show 2 ≤ rkF evs (fun f j => (T f j).2.2.1) f i
      omega
    · show ((pdF evs f i : Nat) : Int) + _ = _
      rw [pl]
      unfold pdF
      omega
    · have := dl.1
      rw [l1] at this
      omega
  · right
    have kn := preK pr
    refine ⟨pr, ?_, fun hl => ?_⟩
    · rcases fa with fa | fa
      · exact Or.inl fa
      by_cases et : endT q
      · exact Or.inl et
      right
      have ne1 : q.1 ≠ 1 := fun z => et (Or.inr (Or.inr (Or.inr (Or.inr (Or.inr z)))))
      have i1 := nx_lt hq ne1
      have pds := pd_s hq
      have pos := po_s hq
      have oo := oEvN kn et
      have fl : (T f (poF evs f (i + 1))).2.2.1 = (T f (poF evs f i)).2.2.1 ∧ poF evs f (i + 1) < E f := by
        rcases m with m | ⟨m1, -⟩
        · rw [pos, m]
          exact ⟨rfl, hp⟩
        · by_cases z : loE q = 0
          · rw [pos, z]
            exact ⟨rfl, hp⟩
          · have l1 : loE q = 1 := by
              unfold loE at z ⊢
              by_cases g : q.1 = 0 ∨ (q.1 = 4 ∧ q.2.2.1 = 0) ∨ q.1 = 9
              · rw [if_pos g] at z; exact absurd rfl z
              · rw [if_neg g]
            have ne : poF evs f i ≠ E f - 1 := fun w => by
              have p3 := p3
              rw [← w, m1] at p3
              exact oo.2 p3
            have c := (p5 (poF evs f i) gj hp).2.1 (by rw [m1]; exact oo.1) (by rw [m1]; exact oo.2)
            rw [pos, l1]
            exact ⟨c, by omega⟩
      have i1' : i + 1 < (Lfn evs f).length := i1
      refine ⟨⟨hf, i1', fl.2⟩, pds, pos, ?_, fa⟩
      by_cases c : q.1 = 24
      · exact Or.inl c
      right
      show rkF evs (fun f j => (T f j).2.2.1) f (i + 1) + ((ldE q : Nat) : Int) ≤ rkF evs (fun f j => (T f j).2.2.1) f i
      obtain ⟨q2, hq2⟩ : ∃ q2, (Lfn evs f)[i + 1]? = some q2 := ⟨_, List.getElem?_eq_getElem i1'⟩
      have b2 := pb f (i + 1) q2 hf hq2
      have lq : ldE q ≤ 1 := by unfold ldE; split <;> omega
      have rr := r1 c
      by_cases c2 : q2.1 = 24
      · rw [rk_24 hq2 c2]
        omega
      · rw [rk_n hq2 c2, rn c]
        show (if (T f (poF evs f (i + 1))).2.2.1 = true then _ else _) + _ ≤ _
        rw [fl.1]
        by_cases g : (T f (poF evs f i)).2.2.1 = true
        · rw [if_pos g, if_pos g]; omega
        · rw [if_neg g, if_neg g]; omega
    · obtain ⟨j, j1, j2, j3, j4⟩ := le hl
      have q24 : q.1 ≠ 24 := fun z => by
        unfold isL at hl
        rw [z] at hl
        exact absurd hl (by decide)
      have l1 : loE q = 1 := loE_1 (by rcases hl with z | z | z | z <;> (rw [z]; decide))
      have l2 : ldE q = 1 := if_neg (by rcases hl with z | z | z | z <;> (rw [z]; decide))
      have m1 : w0.1 71 (poF evs f i) = oEv q ∧ (w0.1 72 (poF evs f i)).toInt = (poF evs f i : Int) + q.2.2.2.2.1 := by
        rcases m with m | ⟨m1, m2⟩
        · omega
        · unfold mxA at m2
          rw [if_pos (show q.1 = 16 ∨ q.1 = 17 ∨ q.1 = 18 ∨ q.1 = 19 from hl)] at m2
          exact ⟨m1, m2⟩
      have aj : (w0.1 72 (poF evs f i)).toInt = ((poF evs f j : Nat) : Int) := by
        rw [m1.2]
        unfold poF
        omega
      have naj := natC aj
      have jo : JO (w0.1 71 (poF evs f i)) := by
        rw [m1.1]
        unfold JO
        rcases hl with z | z | z | z
        · rw [oE_16 z]
          by_cases y : q.2.2.1 = 1
          · rw [if_pos y]; decide
          · rw [if_neg y]; decide
        · rw [oE_17 z]; decide
        · rw [oE_18 z]; decide
        · rw [oE_19 z]; decide
      obtain ⟨P1, -, P3, -⟩ := p5 (poF evs f i) gj hp
      obtain ⟨A, hA⟩ := P1.jt jo
      obtain ⟨⟨-, -, -, tg⟩, tl⟩ := P3 A hA
      rw [naj] at tg
      have rr := r1 q24
      obtain ⟨q2, hq2⟩ : ∃ q2, (Lfn evs f)[j]? = some q2 := ⟨_, List.getElem?_eq_getElem j1⟩
      have b2 := pb f j q2 hf hq2
      refine ⟨j, ⟨hf, j1, by omega⟩, ?_, ?_, ?_, j4⟩
      · show ((pdF evs f j : Nat) : Int) = ((pdF evs f i : Nat) : Int) + _
        unfold pdF
        omega
      · show ((poF evs f j : Nat) : Int) = ((poF evs f i : Nat) : Int) + _
        unfold poF
        omega
      · show rkF evs (fun f j => (T f j).2.2.1) f j + 1 ≤ rkF evs (fun f j => (T f j).2.2.1) f i
        by_cases c2 : q2.1 = 24
        · rw [rk_24 hq2 c2]
          omega
        · have ex := rk_n (fl := fun f j => (T f j).2.2.1) hq2 c2
          have ex : rkF evs (fun f j => (T f j).2.2.1) f j = if (T f (poF evs f j)).2.2.1 = true then 6018 - (pdF evs f j : Int) else 3009 - (pdF evs f j : Int) := ex
          rw [ex, rn q24]
          rcases tg with ⟨t1, t2⟩ | ⟨t1, t2⟩ | ⟨t1, t2, t3⟩
          · have ij : i < j := by
              apply Classical.byContradiction
              intro z
              have := (mono_take (L := Lfn evs f) (show j ≤ i by omega)).2
              unfold poF at t1 aj
              omega
            have pds := pd_s hq
            have mo : pdF evs f (i + 1) ≤ pdF evs f j := by
              unfold pdF
              have := (mono_take (L := Lfn evs f) (show i + 1 ≤ j by omega)).1
              omega
            rw [t2]
            by_cases g : (T f (poF evs f i)).2.2.1 = true
            · rw [if_pos g, if_pos g]; omega
            · rw [if_neg g, if_neg g]; omega
          · -- the order there is TURN: so is the event
            exfalso
            have e13 : ∀ {x : Int32}, x.toInt = 13 → x = 13 := fun z => Int32.toInt_inj.mp (z.trans (by decide))
            have t2 := e13 t2
            have m2 := (at9 f j q2 hf hq2).2
            rcases hT f hf j q2 hq2 with ⟨y33, -, -⟩ | ⟨pr2, fa2, -⟩
            · rcases m2 with m2 | ⟨m2, -⟩
              · exact absurd m2 (by rw [loE_1 (by rw [y33]; decide)]; decide)
              · rw [t2, oE_33 y33] at m2
                exact absurd m2 (by decide)
            · by_cases z : loE q2 = 0
              · obtain ⟨z1, z2, z3, z4, z5⟩ := lo0 pr2 z
                have i2 := nx_lt hq2 z4
                have fa2 := fa2.resolve_left z5
                obtain ⟨q3, hq3⟩ : ∃ q3, (Lfn evs f)[j + 1]? = some q3 := ⟨_, List.getElem?_eq_getElem i2⟩
                have po3 : poF evs f (j + 1) = poF evs f j := by rw [po_s hq2, z, Nat.add_zero]
                have m3 := (at9 f (j + 1) q3 hf hq3).2
                rw [po3, t2] at m3
                obtain ⟨y1, -, y3⟩ := fa2
                have h3 : (ty f (j + 1)).2.2 ≠ 1 := by omega
                have b3 : (ty f (j + 1)).2.1 ≠ 0 := by omega
                rcases hT f hf (j + 1) q3 hq3 with ⟨-, ⟨y5, -⟩, -⟩ | ⟨pr3, -, -⟩
                · exact h3 y5
                · by_cases z9 : loE q3 = 0
                  · exact h3 (lo0 pr3 z9).1
                  · rcases m3 with m3 | ⟨m3, -⟩
                    · exact z9 m3
                    · have y4 := oEv13 m3.symm (Or.inr (preK pr3)) z9
                      unfold preT at pr3
                      rw [y4] at pr3
                      exact b3 pr3.2
              · rcases m2 with m2 | ⟨m2, -⟩
                · exact z m2
                · rw [t2] at m2
                  exact c2 (oEv13 m2.symm (Or.inr (preK pr2)) z)
          · rw [if_neg (by rw [t3]; decide), if_pos t2]
            omega
end YPP
