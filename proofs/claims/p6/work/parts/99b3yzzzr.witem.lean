/-! the reference's words: an item -/
/-- a global: no words -/
def WGl (v u : MS) : Prop := WFt v u ∧ (u.1 0 12 = v.1 0 12 ∧ u.1 0 39 = v.1 0 39 ∧ u.1 0 43 = v.1 0 43) ∧ (u.1 17 = v.1 17 ∧ u.1 18 = v.1 18 ∧ u.1 19 = v.1 19)
section ZZR
variable {n : Int} {K : TK} {e : PE} {v u w x' y u2 A : MS} {a b d a0 cc : List EV} {q : EV} {r pa pb pd o zv zn i kI : Int32} {c : RM1} {E : EvE} {S : EvS} {Es : FE} {Ss : FS} {k p : Nat} {bz : Bool} {cl cl' : Int} {x : IS} {W : Nat → Int32}
theorem WGl.of {z : Int32} (h11 : u.1 11 = v.1 11) (h12 : u.1 0 12 = v.1 0 12) (h35 : u.1 35 = v.1 35) (h37 : u.1 37 = v.1 37) (h39 : u.1 0 39 = v.1 0 39) (h40 : u.1 40 = v.1 40) (h41 : u.1 41 = v.1 41) (h42 : u.1 42 = v.1 42) (h43 : u.1 0 43 = v.1 0 43) (h27 : u.1 0 27 = v.1 0 27 + 1) (hb : 0 ≤ (v.1 0 27).toInt ∧ (v.1 0 27).toInt ≤ 60) (h24 : u.1 24 = upd (v.1 24) (v.1 0 27).toNatClampNeg z) (h17 : u.1 17 = v.1 17) (h18 : u.1 18 = v.1 18) (h19 : u.1 19 = v.1 19) : WGl v u := by
  have i27 : (u.1 0 27).toInt = (v.1 0 27).toInt + 1 := by rw [h27]; exact add_z rfl (by decide) (by omega) (by omega)
  have n7 := natI hb.1
  exact ⟨⟨⟨by rw [h12]; exact Int.le_refl _, fun _ _ => by rw [h11]⟩, ⟨by rw [h43]; exact Int.le_refl _, fun _ _ => by rw [h40, h41, h42]; exact ⟨rfl, rfl, rfl⟩⟩, ⟨by rw [h39]; exact Int.le_refl _, fun _ _ => by rw [h35, h37]; exact ⟨rfl, rfl⟩⟩, by omega, fun j hj => by rw [h24]; exact updN_ (by omega)⟩, ⟨h12, h39, h43⟩, h17, h18, h19⟩
theorem FUq.cg {V : MS} {fr : Int32} {np : Nat} (h : FUq K V u fr np b) (e11 : V.1 11 = v.1 11) (e12 : V.1 0 12 = v.1 0 12) (eS : SMw v V) : FUq K v u fr np b := by
  obtain ⟨h1, h2, h3, h4, h5⟩ := h
  obtain ⟨⟨s1, s2, s3, s4, s5, s6⟩, s7, s8⟩ := eS
  rw [e12] at h1
  refine ⟨h1, ?_, ?_, ?_, ?_⟩
  · unfold WFq at h2
    rw [e11, e12, s8, s4, s5, s6, s7, s2, s3, s1] at h2
    exact h2
  · unfold CWq at h3
    rw [e12, s7] at h3
    exact h3
  · rw [e12, s7] at h4
    exact h4
  · unfold FQq at h5
    rw [e12, s8] at h5
    exact h5
set_option maxHeartbeats 1600000 in
theorem oItemW (hS : XWs n K (QMS 40) S) (hS9 : XMs9 n K (QMS 40) S) (hSs : HMS n K (QMS 40) Ss) (h : Q_m_item v false u) (I : RIq n K W v x) : (((mkE K x.2.2).1 (pAt x.1 + 1 + 1)).toInt = 30 ∧ ∃ kn b j fr, gFunc S (mkE K x.2.2) (pAt x.1 + 1) = some (kn, b, j) ∧ (BDw v (lnF (kn, b)) → FUq K v u fr kn.length b) ∧ (u.1 19 = upd (v.1 19) (v.1 0 22).toNatClampNeg (v.1 0 12) ∧ u.1 18 = upd (v.1 18) (v.1 0 22).toNatClampNeg fr ∧ u.1 17 = upd (v.1 17) (v.1 0 22).toNatClampNeg (nI kn.length)) ∧ kn.length ≤ 8 ∧ u.1 0 27 = v.1 0 27 ∧ u.1 0 22 = v.1 0 22 + 1) ∨ (¬ ((mkE K x.2.2).1 (pAt x.1 + 1 + 1)).toInt = 30 ∧ WGl v u ∧ u.1 0 22 = v.1 0 22) := by
  obtain ⟨-, -, -, -, -, -, -, -, -, r3, h1, -, h⟩ := h
  have J := I.1
  have i3 := rIsKey (g := (false, [])) h1 J (pa := 0) (by decide)
  have px : pAt x.1 = v.1 0 47 := by rw [I.2.1]; rfl
  rcases h with ⟨c3, h⟩ | ⟨c3, u221, hb, -, f9, -⟩
  rotate_left
  · cases f9
  have hk : kd (mkE K x.2.2) (aR (false, []) K v) = 10 := i3.mp c3
  rcases h with ⟨u9, h1, f9, -⟩ | ⟨h1, k1, h⟩
  · cases f9
  rcases h with ⟨c2, h⟩ | ⟨c2, u217, hb, -, f9, -⟩
  rotate_left
  · cases f9
  obtain ⟨J1, hk2, I1, HD⟩ := rHd I hk h1 k1 c2
  have J4 := J.2.2.2.1
  have e1 : (v.1 0 47 + 1).toInt = (v.1 0 47).toInt + 1 := add_z rfl (by decide) (by omega) (by omega)
  obtain ⟨r14, hg, -, h⟩ := h
  rcases h with ⟨c14, f9, -⟩ | ⟨c14, r24, hf, -, h⟩
  · cases f9
  rcases h with ⟨c24, r30, hs, -, w143, hj, fr, -, h⟩ | ⟨c24, f9, -⟩
  rotate_left
  · cases f9
  have le5 : (v.1 0 47 + 1).toInt ≤ 1500 := by have := k1.1; omega
  have B30 := (rKb (g := (false, [])) (v := wA v 0 47 (v.1 0 47 + 1)) (sg2 hs) J1 le5 (by rw [hk2]; decide) (q := (40, 30)) (by decide) rfl).1
  have B30 : r30.toInt ≠ 0 ↔ (mkE K x.2.2).1 (v.1 0 47 + 1 + 1) = 30 := B30
  have hb27 : 0 ≤ (v.1 0 27).toInt ∧ (v.1 0 27).toInt ≤ 60 := I.2.2.2.2.1.2
  rw [px]
  have F0 : ∀ i, i ≠ 47 → i ≠ 49 → w143.1 0 i = v.1 0 i := fun i i7 i9 => by
    rw [fr.2.1 i (by simp only [List.mem_cons, List.not_mem_nil, or_false]; exact i9)]
    exact updN_ i7
  have FA : ∀ a, a ≠ 0 → w143.1 a = v.1 a := fun a a0 => by
    rw [fr.2.2 a (by simp only [List.mem_cons, List.not_mem_nil, or_false]; exact a0)]
    exact if_neg a0
  rcases h with ⟨u9, ht, f9, -⟩ | ⟨ht, kt, h⟩
  · cases f9
  rcases h with ⟨c30, r40, h40, -, h⟩ | ⟨c30, h⟩
  · refine Or.inr ⟨fun q => B30.mpr (Int32.toInt_inj.mp q) c30, ?_⟩
    rcases h with ⟨c40, ⟨u9, -, f9, -⟩ | ⟨-, -, -, hu⟩⟩ | ⟨c40, ⟨u9, -, f9, -⟩ | ⟨-, -, ⟨c4, h⟩ | ⟨c4, u174, -, -, f9, -⟩⟩⟩
    · cases f9
    · rw [hu]
      exact ⟨WGl.of (FA 11 (by decide)) (F0 12 (by decide) (by decide)) (FA 35 (by decide)) (FA 37 (by decide)) (F0 39 (by decide) (by decide)) (FA 40 (by decide)) (FA 41 (by decide)) (FA 42 (by decide)) (F0 43 (by decide) (by decide)) (by rw [← F0 27 (by decide) (by decide)]; rfl) hb27 (by rw [← F0 27 (by decide) (by decide), ← FA 24 (by decide)]; rfl) (FA 17 (by decide)) (FA 18 (by decide)) (FA 19 (by decide)), F0 22 (by decide) (by decide)⟩
    · cases f9
    · rcases h with ⟨c5, ⟨u9, -, f9, -⟩ | ⟨-, -, ⟨u9, -, f9, -⟩ | ⟨-, -, u77, h77, ⟨u9, -, f9, -⟩ | ⟨-, -, -, hu⟩⟩⟩⟩ | ⟨c5, ⟨c6, ⟨u9, -, f9, -⟩ | ⟨-, -, ⟨u9, -, f9, -⟩ | ⟨-, -, ⟨u9, -, f9, -⟩ | ⟨-, -, u118, h118, -, hu⟩⟩⟩⟩ | ⟨c6, ⟨u9, -, f9, -⟩ | ⟨-, -, ⟨u9, -, f9, -⟩ | ⟨-, -, u77, h77, ⟨u9, -, f9, -⟩ | ⟨-, -, -, hu⟩⟩⟩⟩⟩
      · cases f9
      · cases f9
      · cases f9
      · rw [hu, h77]
        exact ⟨WGl.of (FA 11 (by decide)) (F0 12 (by decide) (by decide)) (FA 35 (by decide)) (FA 37 (by decide)) (F0 39 (by decide) (by decide)) (FA 40 (by decide)) (FA 41 (by decide)) (FA 42 (by decide)) (F0 43 (by decide) (by decide)) (by rw [← F0 27 (by decide) (by decide)]; rfl) hb27 (by rw [← F0 27 (by decide) (by decide), ← FA 24 (by decide)]; rfl) (FA 17 (by decide)) (FA 18 (by decide)) (FA 19 (by decide)), F0 22 (by decide) (by decide)⟩
      · cases f9
      · cases f9
      · cases f9
      · rw [hu, h118]
        exact ⟨WGl.of (FA 11 (by decide)) (F0 12 (by decide) (by decide)) (FA 35 (by decide)) (FA 37 (by decide)) (F0 39 (by decide) (by decide)) (FA 40 (by decide)) (FA 41 (by decide)) (FA 42 (by decide)) (F0 43 (by decide) (by decide)) (by rw [← F0 27 (by decide) (by decide)]; rfl) hb27 (by rw [← F0 27 (by decide) (by decide), ← FA 24 (by decide)]; rfl) (FA 17 (by decide)) (FA 18 (by decide)) (FA 19 (by decide)), F0 22 (by decide) (by decide)⟩
      · cases f9
      · cases f9
      · cases f9
      · rw [hu, h77]
        exact ⟨WGl.of (FA 11 (by decide)) (F0 12 (by decide) (by decide)) (FA 35 (by decide)) (FA 37 (by decide)) (F0 39 (by decide) (by decide)) (FA 40 (by decide)) (FA 41 (by decide)) (FA 42 (by decide)) (F0 43 (by decide) (by decide)) (by rw [← F0 27 (by decide) (by decide)]; rfl) hb27 (by rw [← F0 27 (by decide) (by decide), ← FA 24 (by decide)]; rfl) (FA 17 (by decide)) (FA 18 (by decide)) (FA 19 (by decide)), F0 22 (by decide) (by decide)⟩
    · cases f9
  · have k30 : ((mkE K x.2.2).1 (v.1 0 47 + 1 + 1)).toInt = 30 := by rw [B30.mp c30]; decide
    refine Or.inl ⟨k30, ?_⟩
    unfold Q_m_item_J0 at hj
    rcases hj with ⟨q, -⟩ | ⟨-, hj⟩
    · exact absurd q c30
    rcases hj with ⟨q, ew⟩ | ⟨q, ew⟩
    rotate_left
    · exfalso
      rw [ew] at ht
      exact absurd (rDueT (g := (false, [])) J1 (by rw [hk2]; decide) ht).1 Bool.false_ne_true
    rcases h with ⟨u9, h, f9, -⟩ | ⟨u186, h, hK, -, eu⟩
    · cases f9
    rw [ew] at ht h
    have T1 := rTake (g := (false, [])) ht J1 (by rw [hk2]; decide)
    have JT := T1.jj
    rw [eu]
    obtain ⟨kn, b, fr9, x1, x2, x3, x4⟩ := oFunW (i := v.1 0 47 + 1) hS h JT rfl
    obtain ⟨kn8, b8, -, y2, -, -⟩ := oFunM (kI := v.1 0 22) (i := v.1 0 47 + 1) hS9 h JT rfl
    have F := rFun0 hSs h JT k30
    rcases F with ⟨-, c, f9, -, -, -, F4⟩ | ⟨f9, -⟩
    · refine ⟨kn, b, _, fr9, x1, fun B => (x2 B).cg rfl rfl ⟨⟨rfl, rfl, rfl, rfl, rfl, rfl⟩, rfl, rfl⟩, x3, x4, (y2.2.1.2.2.1).trans rfl, F4.2.2.2.2.1⟩
    · cases f9
end ZZR
