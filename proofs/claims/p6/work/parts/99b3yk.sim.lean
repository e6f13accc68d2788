/-! both meanings go in step (written by gyk.py) -/
/-- an event at its place -/
def EVP (g : GC) (L1 : List Nat) (K : TK) (fn : Nat → Int32) (v0 w0 : MS) (f i : Nat) (q : EV) : Prop :=
  DTq L1 v0 q (zPd g f i) ∧ (loE q = 0 ∨ (w0.1 71 (zPo g f i) = oEv q ∧ mxA K fn w0 q (zPo g f i))) ∧ SLT 1502 (zMm g f) [q] ∧ (q.1 = 24 ∨ 1 ≤ zRk g f i) ∧
  ((q.1 = 33 ∧ ((zTy g f i).2.2 = 1 ∧ (zTy g f i).2.1 = 0) ∧ 2 ≤ zRk g f i ∧ (∃ e : Nat, (zPd g f i : Int) + q.2.2.2.1 = e ∧ v0.1 378 e = 1 ∧ (e : Int) < (v0.1 0 381).toInt)) ∨
   (preT q (zTy g f i) ∧ (endT q ∨ (zOk g f (i + 1) ∧ zPd g f (i + 1) = zPd g f i + ldE q ∧ zPo g f (i + 1) = zPo g f i + loE q ∧ (q.1 = 24 ∨ zRk g f (i + 1) + ldE q ≤ zRk g f i) ∧ le3 (postT q (zTy g f i)) (zTy g f (i + 1)))) ∧
    (isL q → ∃ j, zOk g f j ∧ (zPd g f j : Int) = zPd g f i + q.2.2.2.1 ∧ (zPo g f j : Int) = zPo g f i + q.2.2.2.2.1 ∧ zRk g f j + 1 ≤ zRk g f i ∧ le3 (leapT q (zTy g f i)) (zTy g f j))))
/-- a program in both -/
def PGF (g : GC) (N : Nat) (ng lim : Int) (L1 L2 : List Nat) (K : TK) (fn : Nat → Int32) (v0 w0 : MS) : Prop :=
  (∀ f i, zOk g f i → ((f : Int) < (w0.1 0 74).toInt ∧ 0 ≤ zRk g f i ∧ zRk g f i ≤ 6018) ∧ ∃ q, EVP g L1 K fn v0 w0 f i q) ∧ FUN g L1 v0 w0 ∧ NAM L1 K fn v0 w0 ∧ GLB L2 v0 w0 ng N ∧ GIF v0 w0 ∧ (N ≤ 4096 ∧ 0 ≤ lim ∧ lim ≤ 16384) ∧ ((v0.1 0 357).toInt = 4 * (N : Int) ∧ (v0.1 0 384).toInt = lim ∧ (w0.1 0 77).toInt = lim ∧ v0.1 0 367 = w0.1 0 114) ∧ (v0.1 0 381).toInt ≤ 3008
/-- what is left to do -/
def PTT (w0 w : MS) : Int := ((w0.1 0 114).toInt - (w.1 0 113).toInt) * 6020
def SIMa (g : GC) (N : Nat) (ng lim : Int) (w0 : MS) (ka : Int) (v w : MS) : Prop := ∃ f i k B b p, zOk g f i ∧ STA g N ng lim ka v w f k B b p (zTy g f i) ∧ ((v.1 0 364).toInt = zPd g f i ∧ (w.1 0 112).toInt = zPo g f i) ∧ ka + PTT w0 w + p + zRk g f i ≤ 999999999
def SIMe (g : GC) (N : Nat) (ng lim : Int) (v0 w0 : MS) (ka : Int) (v w : MS) : Prop := ∃ c k B b p, zOk g c 0 ∧ STA g N ng lim ka v w c k B b p (zTy g c 0) ∧ ((v.1 0 364).toInt + 1 = zPd g c 0 ∧ (w.1 0 112).toInt = zPo g c 0) ∧ (0 ≤ (v.1 0 364).toInt ∧ (v.1 0 364).toInt < (v0.1 0 381).toInt ∧ v0.1 378 (v.1 0 364).toNatClampNeg = 0) ∧ ka + 1 + PTT w0 w + p + zRk g c 0 ≤ 999999999
def SIMl (g : GC) (N : Nat) (ng lim : Int) (v0 w0 : MS) (ka : Int) (v w : MS) : Prop := ∃ (f k B b : Nat) (p : Int) (kc : Nat), (f : Int) < (w0.1 0 74).toInt ∧ STA g N ng lim ka v w f k B b p (kc, 0, 1) ∧ (0 ≤ (v.1 0 364).toInt ∧ (v.1 0 364).toInt < (v0.1 0 381).toInt ∧ v0.1 378 (v.1 0 364).toNatClampNeg = 1) ∧ w0.1 71 (w.1 0 112).toNatClampNeg = 15 ∧ ka + 1 + PTT w0 w + p ≤ 999999999
def SIM (g : GC) (N : Nat) (ng lim : Int) (v0 w0 : MS) (ka : Int) (v w : MS) : Prop := SIMa g N ng lim w0 ka v w ∨ SIMe g N ng lim v0 w0 ka v w ∨ SIMl g N ng lim v0 w0 ka v w
def STP (L1 L2 : List Nat) (g : GC) (N : Nat) (ng lim : Int) (v0 w0 : MS) (ka : Int) (v w : MS) : Prop := (∀ u, Q_x_X10_doDeed L1 L2 N v u → SIM g N ng lim v0 w0 (ka + 1) u w) ∨ (∀ r u2, Q_m_obey w N r u2 → SIM g N ng lim v0 w0 ka v (wA u2 0 121 r)) ∨ (∀ u r u2, Q_x_X10_doDeed L1 L2 N v u → Q_m_obey w N r u2 → SIM g N ng lim v0 w0 (ka + 1) u (wA u2 0 121 r) ∨ FIN ng (ka + 1) u (wA u2 0 121 r))
section YKS
variable {g : GC} {N : Nat} {ng lim : Int} {L1 L2 : List Nat} {K : TK} {fn : Nat → Int32} {v0 w0 : MS} {ka : Int} {v w u y : MS} {f k B b i : Nat} {p : Int} {q : EV} {s : ST3}
theorem simF (e : zOk g f (i + 1) ∧ zPd g f (i + 1) = zPd g f i + ldE q ∧ zPo g f (i + 1) = zPo g f i + loE q ∧ (q.1 = 24 ∨ zRk g f (i + 1) + ldE q ≤ zRk g f i) ∧ le3 (postT q s) (zTy g f (i + 1))) (n4 : q.1 ≠ 24) (l1 : ldE q = 1) (hP : ka + PTT w0 w + p + zRk g f i ≤ 999999999) (h : FAL g N ng lim ka f k B b p (zPd g f i) (zPo g f i) q s w u y) : SIM g N ng lim v0 w0 (ka + 1) u y := by
  obtain ⟨e1, e2, e3, e4, e5⟩ := e
  obtain ⟨h1, h2, h3, h4⟩ := h
  have e4 := e4.resolve_left n4
  refine Or.inl ⟨f, i + 1, k, B, b, p, e1, h1.le e5, ⟨by rw [h2, e2]; omega, by rw [h3, e3]; omega⟩, ?_⟩
  have : PTT w0 y = PTT w0 w := by unfold PTT; rw [h4]
  rw [this]
  omega
theorem simL (e : ∃ j, zOk g f j ∧ (zPd g f j : Int) = zPd g f i + q.2.2.2.1 ∧ (zPo g f j : Int) = zPo g f i + q.2.2.2.2.1 ∧ zRk g f j + 1 ≤ zRk g f i ∧ le3 (leapT q s) (zTy g f j)) (hP : ka + PTT w0 w + p + zRk g f i ≤ 999999999) (h : LEA g N ng lim ka f k B b p (zPd g f i) (zPo g f i) q s w u y) : SIM g N ng lim v0 w0 (ka + 1) u y := by
  obtain ⟨j, e1, e2, e3, e4, e5⟩ := e
  obtain ⟨h1, h2, h3, h4⟩ := h
  refine Or.inl ⟨f, j, k, B, b, p, e1, h1.le e5, ⟨by rw [h2, e2], by rw [h3, e3]⟩, ?_⟩
  have : PTT w0 y = PTT w0 w := by unfold PTT; rw [h4]
  rw [this]
  omega
/-- a deed alone -/
theorem simC (e : zOk g f (i + 1) ∧ zPd g f (i + 1) = zPd g f i + ldE q ∧ zPo g f (i + 1) = zPo g f i + loE q ∧ (q.1 = 24 ∨ zRk g f (i + 1) + ldE q ≤ zRk g f i) ∧ le3 (postT q s) (zTy g f (i + 1))) (n4 : q.1 ≠ 24) (l1 : ldE q = 1) (l0 : loE q = 0) (ho : (w.1 0 112).toInt = zPo g f i) (hP : ka + PTT w0 w + p + zRk g f i ≤ 999999999) (h : STA g N ng lim (ka + 1) u w f k B b p (postT q s) ∧ (u.1 0 364).toInt = (zPd g f i : Int) + ldE q) : SIM g N ng lim v0 w0 (ka + 1) u w := by
  obtain ⟨e1, e2, e3, e4, e5⟩ := e
  have e4 := e4.resolve_left n4
  exact Or.inl ⟨f, i + 1, k, B, b, p, e1, h.1.le e5, ⟨by rw [h.2, e2]; omega, by rw [ho, e3]; omega⟩, by omega⟩
theorem PTT.st (h : (y.1 0 113).toInt = (w.1 0 113).toInt + 1) : PTT w0 y = PTT w0 w - 6020 := by
  unfold PTT
  rw [h]
  omega
set_option maxHeartbeats 4000000 in
theorem simStep (G : PGF g N ng lim L1 L2 K fn v0 w0) (h : SIM g N ng lim v0 w0 ka v w) (A : AG v0 v) (Am : AGM w0 w) (mi : ∃ T E h, MI T E h w (w.1 0 112)) (hka : ka < 1000000000) : STP L1 L2 g N ng lim v0 w0 ka v w := by
  obtain ⟨G1, G2, G3, G4, G5, ⟨hN, hl, hl6⟩, ⟨h57, h84, h77, h67⟩, h9⟩ := G
  have hL : ∀ f i, zOk g f i → zLo g f ≤ zMm g f := fun f i hf => (G2.2 f (G1 f i hf).1.1).2.2.2.1.2.1
  rcases h with h | h | h
  · obtain ⟨f, i, k, B, b, p, ok, S, ⟨hp, ho⟩, hP⟩ := h
    obtain ⟨⟨fl, rk0, rk1⟩, q, d, m, sl, rk2, ev⟩ := G1 f i ok
    have F := G2.2 f fl
    rcases ev with ⟨t33, ⟨t1, t0⟩, rk3, e, e1, e2, e3⟩ | ⟨pr, fa, le⟩
    · -- return: the class leaps first
      refine Or.inl (fun u Q1 => ?_)
      obtain ⟨⟨a1, a2⟩, a3, a4, a5, a6⟩ := clP A hp d (by rw [t33]; decide) h9
      have d2 := d.2
      rw [if_neg (by rw [t33]; decide), if_neg (by rw [t33]; decide), if_pos t33] at d2
      have D : v.1 378 (v.1 0 364).toNatClampNeg = 19 := by rw [a4]; exact d2.1
      obtain ⟨-, -, u9, e0, -, e4⟩ := dD_19 Q1 a1 a2 D
      have e0 : u9 = wA (wA v 0 364 (v.1 0 364 + 1)) 0 364 (v.1 379 (v.1 0 364).toNatClampNeg) := by
        rcases e0 with ⟨-, -, e0⟩ | ⟨c, -⟩
        · exact e0
        · rw [D] at c; exact absurd (by decide) c
      have x1 : (v.1 379 (v.1 0 364).toNatClampNeg).toInt = e := by rw [a5, d2.2, e1]
      have xn : (v.1 379 (v.1 0 364).toNatClampNeg).toNatClampNeg = e := natC x1
      refine Or.inr (Or.inr ⟨f, k, B, b, p, (zTy g f i).1, fl, ?_, ?_, ?_, by omega⟩)
      · rw [e4, e0]
        have S2 : STA g N ng lim (ka + 1) (wA (wA v 0 364 (v.1 0 364 + 1)) 0 364 (v.1 379 (v.1 0 364).toNatClampNeg)) w f k B b p (zTy g f i) := S.same ⟨rfl, rfl, rfl⟩ MSm.rf rfl rfl rfl rfl (S.cnt.sm (by omega) ⟨rfl, rfl, rfl, rfl, rfl, rfl⟩ ⟨rfl, rfl, rfl, rfl, rfl, rfl⟩)
        have et : zTy g f i = ((zTy g f i).1, 0, 1) := by rw [← t0, ← t1]
        rw [et] at S2
        exact S2
      · rw [e4, e0]
        show 0 ≤ (v.1 379 (v.1 0 364).toNatClampNeg).toInt ∧ (v.1 379 (v.1 0 364).toNatClampNeg).toInt < _ ∧ v0.1 378 (v.1 379 (v.1 0 364).toNatClampNeg).toNatClampNeg = 1
        rw [xn, x1]
        exact ⟨by omega, e3, e2⟩
      · rcases m with m | ⟨m1, -⟩
        · exact absurd m (by rw [loE_1 (by rw [t33]; decide)]; decide)
        · rw [natC ho, m1, oE_33 t33]
    · have kn : knT q.1 = true := by
        cases z : knT q.1 with
        | true => rfl
        | false =>
          unfold preT at pr
          rw [if_pos z] at pr
          exact pr.elim
      obtain ⟨kc, pb, hh, hs⟩ : ∃ kc pb hh, zTy g f i = (kc, pb, hh) := ⟨_, _, _, rfl⟩
      rw [hs] at S pr fa le
      have C : CTX g N ng lim L1 K fn v0 w0 ka v w f k B b p (zPd g f i) (zPo g f i) q (kc, pb, hh) := ⟨A, Am, S, hp, ho, d, m, pr, ⟨h9, hN, hl, hka⟩, mi⟩
      have sq := sl q (List.mem_singleton.mpr rfl)
      have fz : ¬ endT q → zOk g f (i + 1) ∧ zPd g f (i + 1) = zPd g f i + ldE q ∧ zPo g f (i + 1) = zPo g f i + loE q ∧ (q.1 = 24 ∨ zRk g f (i + 1) + ldE q ≤ zRk g f i) ∧ le3 (postT q (kc, pb, hh)) (zTy g f (i + 1)) := fun z => fa.resolve_left z
      have g5 : q.1 = 5 ∨ q.1 = 6 → 0 ≤ q.2.1.toInt := fun z => by
        obtain ⟨n, n1, n2⟩ := sq.2.2.1 z
        rw [n2, nI_Z (by omega)]
        omega
      have ne : ∀ {t : Int32}, q.1 = t → ¬ (t = 19 ∨ t = 30 ∨ t = 31 ∨ t = 32 ∨ t = 33 ∨ t = 1) → ¬ endT q := fun ht hz z => hz (by unfold endT at z; rw [ht] at z; exact z)
      have dn : q.1 ≠ 30 ∧ q.1 ≠ 31 ∧ q.1 ≠ 32 := by
        refine ⟨fun z => ?_, fun z => ?_, fun z => ?_⟩ <;>
        · have d2 := d.2
          rw [if_neg (by rw [z]; decide), if_neg (by rw [z]; decide), if_neg (by rw [z]; decide), if_neg (by rw [z]; decide)] at d2
          first | exact d2.1.1 z | exact d2.1.2.1 z | exact d2.1.2.2 z
      have kn := of_decide_eq_true kn
      rcases kn with ht | ht | ht | ht | ht | ht | ht | ht | ht | ht | ht | ht | ht | ht | ht | ht | ht | ht | ht | ht | ht | ht | ht | ht | ht | ht | ht | ht
      · -- LEAVE
        have pz : hh = 1 ∧ pb = 0 := by
          have z := pr
          unfold preT at z
          rw [ht] at z
          exact z
        obtain ⟨rfl, rfl⟩ := pz
        obtain ⟨⟨a1, a2⟩, a3, a4, a5, a6⟩ := clP A hp d (by rw [ht]; decide) h9
        obtain ⟨d1, -, -⟩ := dPl d (by rw [ht]; decide)
        have rk9 := rk2.resolve_left (by rw [ht]; decide)
        have o9 : w0.1 71 (w.1 0 112).toNatClampNeg = 15 := by
          rcases m with m | ⟨m1, -⟩
          · exact absurd m (by rw [loE_1 (by rw [ht]; decide)]; decide)
          · rw [natC ho, m1, oE_1 ht]
        refine Or.inr (Or.inr (fun u r u2 Q1 Q2 => ?_))
        rcases evLv (L1 := L1) (L2 := L2) A Am S ⟨a1, a2⟩ (by rw [a4, d1, ht]) (by rw [Am.2 71 (by decide)]; exact o9) hN hl hL F.2.2.1.1 Q1 Q2 with R | R
        · obtain ⟨f9, i9, k9, B9, b9, p9, z1, z2, z3, z4, z5⟩ := R
          refine Or.inl (Or.inl ⟨f9, i9, k9, B9, b9, p9, z1, z2, z3, ?_⟩)
          have : PTT w0 (wA u2 0 121 r) = PTT w0 w := by unfold PTT; rw [z5]
          rw [this]
          omega
        · exact Or.inr R
      · exact Or.inr (Or.inr (fun u r u2 Q1 Q2 => Or.inl (simF (fz (ne ht (by decide))) (by rw [ht]; decide) (if_neg (by rw [ht]; decide)) hP (ev_2 ht C Q1 Q2))))
      · exact Or.inr (Or.inr (fun u r u2 Q1 Q2 => Or.inl (simF (fz (ne ht (by decide))) (by rw [ht]; decide) (if_neg (by rw [ht]; decide)) hP (ev_3 ht C Q1 Q2))))
      · have py : q.2.2.1 = 0 ∨ q.2.2.1 = 1 := by
          have z := pr
          unfold preT at z
          rw [ht] at z
          have z : hh = 1 ∧ 0 ≤ q.2.1.toInt ∧ ((q.2.2.1 = 0 ∧ _) ∨ (q.2.2.1 = 1 ∧ _)) := z
          exact z.2.2.imp (fun z => z.1) (fun z => z.1)
        rcases py with hy | hy
        · exact Or.inl (fun u Q1 => simC (fz (ne ht (by decide))) (by rw [ht]; decide) (if_neg (by rw [ht]; decide)) (if_pos (Or.inr (Or.inl ⟨ht, hy⟩))) ho hP (ev_4a ht hy (sq.1 ht hy) C Q1))
        · exact Or.inr (Or.inr (fun u r u2 Q1 Q2 => Or.inl (simF (fz (ne ht (by decide))) (by rw [ht]; decide) (if_neg (by rw [ht]; decide)) hP (ev_4b ht hy F.2.2.2.1.1 F.2.2.2.1.2.1 C Q1 Q2))))
      · exact Or.inr (Or.inr (fun u r u2 Q1 Q2 => Or.inl (simF (fz (ne ht (by decide))) (by rw [ht]; decide) (if_neg (by rw [ht]; decide)) hP (ev_5 ht C Q1 Q2 G4 (g5 (by rw [ht]; decide))))))
      · exact Or.inr (Or.inr (fun u r u2 Q1 Q2 => Or.inl (simF (fz (ne ht (by decide))) (by rw [ht]; decide) (if_neg (by rw [ht]; decide)) hP (ev_6 ht C Q1 Q2 G4 (g5 (by rw [ht]; decide))))))
      · exact Or.inr (Or.inr (fun u r u2 Q1 Q2 => (ev_7 ht C Q1 Q2 G4).imp (fun z => simF (fz (ne ht (by decide))) (by rw [ht]; decide) (if_neg (by rw [ht]; decide)) hP (z)) id))
      · exact Or.inr (Or.inr (fun u r u2 Q1 Q2 => Or.inl (simF (fz (ne ht (by decide))) (by rw [ht]; decide) (if_neg (by rw [ht]; decide)) hP (ev_8 ht C Q1 Q2 G4))))
      · exact Or.inl (fun u Q1 => simC (fz (ne ht (by decide))) (by rw [ht]; decide) (if_neg (by rw [ht]; decide)) (if_pos (Or.inr (Or.inr ht))) ho hP (ev_9 ht (sq.2.1 ht) C Q1))
      · exact Or.inr (Or.inr (fun u r u2 Q1 Q2 => Or.inl (simF (fz (ne ht (by decide))) (by rw [ht]; decide) (if_neg (by rw [ht]; decide)) hP (ev_10 ht C Q1 Q2 G4))))
      · exact Or.inr (Or.inr (fun u r u2 Q1 Q2 => Or.inl (simF (fz (ne ht (by decide))) (by rw [ht]; decide) (if_neg (by rw [ht]; decide)) hP (ev_11 ht C Q1 Q2 G4))))
      · exact Or.inr (Or.inr (fun u r u2 Q1 Q2 => Or.inl (simF (fz (ne ht (by decide))) (by rw [ht]; decide) (if_neg (by rw [ht]; decide)) hP (ev_12 ht C Q1 Q2))))
      · exact Or.inr (Or.inr (fun u r u2 Q1 Q2 => Or.inl (simF (fz (ne ht (by decide))) (by rw [ht]; decide) (if_neg (by rw [ht]; decide)) hP (ev_13 ht C Q1 Q2))))
      · exact Or.inr (Or.inr (fun u r u2 Q1 Q2 => Or.inl (simF (fz (ne ht (by decide))) (by rw [ht]; decide) (if_neg (by rw [ht]; decide)) hP (ev_14 ht C Q1 Q2))))
      · exact Or.inr (Or.inr (fun u r u2 Q1 Q2 => Or.inl (simF (fz (ne ht (by decide))) (by rw [ht]; decide) (if_neg (by rw [ht]; decide)) hP (ev_15 ht C Q1 Q2))))
      · by_cases hy : q.2.2.1 = 1
        · exact Or.inr (Or.inr (fun u r u2 Q1 Q2 => Or.inl ((ev_16b ht hy C Q1 Q2).elim (fun z => simF (fz (ne ht (by decide))) (by rw [ht]; decide) (if_neg (by rw [ht]; decide)) hP (z)) (fun z => simL (le (Or.inl ht)) hP z))))
        · exact Or.inr (Or.inr (fun u r u2 Q1 Q2 => Or.inl ((ev_16a ht hy C Q1 Q2).elim (fun z => simF (fz (ne ht (by decide))) (by rw [ht]; decide) (if_neg (by rw [ht]; decide)) hP (z)) (fun z => simL (le (Or.inl ht)) hP z))))
      · exact Or.inr (Or.inr (fun u r u2 Q1 Q2 => Or.inl ((ev_17 ht C Q1 Q2).elim (fun z => simF (fz (ne ht (by decide))) (by rw [ht]; decide) (if_neg (by rw [ht]; decide)) hP (z)) (fun z => simL (le (Or.inr (Or.inl ht))) hP z))))
      · exact Or.inr (Or.inr (fun u r u2 Q1 Q2 => Or.inl ((ev_18 ht C Q1 Q2).elim (fun z => simF (fz (ne ht (by decide))) (by rw [ht]; decide) (if_neg (by rw [ht]; decide)) hP (z)) (fun z => simL (le (Or.inr (Or.inr (Or.inl ht)))) hP z))))
      · exact Or.inr (Or.inr (fun u r u2 Q1 Q2 => Or.inl (simL (le (Or.inr (Or.inr (Or.inr ht)))) hP (ev_19 ht C Q1 Q2))))
      · exact Or.inr (Or.inr (fun u r u2 Q1 Q2 => (ev_20 ht C Q1 Q2 (sq.2.2.2 ht)).imp (fun z => simF (fz (ne ht (by decide))) (by rw [ht]; decide) (if_neg (by rw [ht]; decide)) hP (z)) id))
      · obtain ⟨e1, e2, e3, e4, e5⟩ := (fz (ne ht (by decide)))
        have e4 := e4.resolve_left (by rw [ht]; decide)
        have q1 : ldE q = 1 := (if_neg (by rw [ht]; decide))
        have q2 : loE q = 1 := loE_1 (by rw [ht]; decide)
        rw [q1] at e2 e4
        rw [q2] at e3
        refine Or.inr (Or.inr (fun u r u2 Q1 Q2 => ?_))
        rcases evCall ht C G2 G3 h57 h84 h77 hl6 h67 hL e1 e2 e3 e5 Q1 Q2 with R | R
        · obtain ⟨c, k9, B9, b9, z1, z2, z3, z4, z5⟩ := R
          have rc := (G1 c 0 z1).1.2.2
          refine Or.inl (Or.inr (Or.inl ⟨c, k9, B9, b9, p + zRk g f (i + 1), z1, z2, z3, z4, ?_⟩))
          rw [PTT.st z5]
          omega
        · exact Or.inr R
      · exact Or.inr (Or.inr (fun u r u2 Q1 Q2 => Or.inl (simF (fz (ne ht (by decide))) (by rw [ht]; decide) (if_neg (by rw [ht]; decide)) hP (ev_22 ht C Q1 Q2))))
      · exact Or.inr (Or.inr (fun u r u2 Q1 Q2 => Or.inl (simF (fz (ne ht (by decide))) (by rw [ht]; decide) (if_neg (by rw [ht]; decide)) hP (ev_23 ht C Q1 Q2 G5))))
      · obtain ⟨e1, e2, e3, e4, e5⟩ := (fz (ne ht (by decide)))
        have q1 : ldE q = 1 := (if_neg (by rw [ht]; decide))
        have q2 : loE q = 1 := loE_1 (by rw [ht]; decide)
        rw [q1] at e2
        rw [q2] at e3
        have po : postT q (kc, pb, hh) = (kc, pb, hh) := by
          unfold postT
          rw [ht]
          rfl
        rw [po] at e5
        have rc := (G1 f (i + 1) e1).1.2.2
        refine Or.inr (Or.inr (fun u r u2 Q1 Q2 => ?_))
        rcases ev_24 ht C Q1 Q2 h67 with R | R
        · obtain ⟨z1, z2, z3, z4⟩ := R
          refine Or.inl (Or.inl ⟨f, i + 1, k, B, b, p, e1, z1.le e5, ⟨by rw [z2, e2]; omega, by rw [z3, e3]; omega⟩, ?_⟩)
          rw [PTT.st z4]
          omega
        · exact Or.inr R
      · obtain ⟨e1, e2, e3, e4, e5⟩ := (fz (ne ht (by decide)))
        have e4 := e4.resolve_left (by rw [ht]; decide)
        have q1 : ldE q = 0 := if_pos ht
        rw [q1] at e2 e4
        refine Or.inr (Or.inl (fun r u2 Q2 => ?_))
        obtain ⟨z1, z2, z3⟩ := ev_25 ht C Q2
        refine Or.inl ⟨f, i + 1, k, B, b, p, e1, z1.le e5, ⟨by rw [hp, e2]; omega, by rw [z2, e3]; omega⟩, ?_⟩
        have : PTT w0 (wA u2 0 121 r) = PTT w0 w := by unfold PTT; rw [z3]
        rw [this]
        omega
      · exact absurd ht dn.1
      · exact absurd ht dn.2.1
      · exact absurd ht dn.2.2
  · -- at a function's beginning
    obtain ⟨c, k, B, b, p, ok, S, ⟨hp, ho⟩, ⟨x1, x2, x3⟩, hP⟩ := h
    refine Or.inl (fun u Q1 => ?_)
    have D : v.1 378 (v.1 0 364).toNatClampNeg = 0 := by rw [A.2 378 (by decide)]; exact x3
    have x2 : (v.1 0 364).toInt < (v.1 0 381).toInt := by rw [A.1 381 (by decide)]; exact x2
    have e : u = wA v 0 364 (v.1 0 364 + 1) := by
      rcases dD_0 Q1 x1 x2 D with ⟨-, u9, e0, -, e1⟩ | ⟨c9, -⟩
      · rw [e1, dP_0 e0 D]
      · rw [D] at c9; exact absurd c9 (by decide)
    have l3 : (v.1 0 381).toInt ≤ 3008 := by rw [A.1 381 (by decide)]; exact h9
    have i1 : (v.1 0 364 + 1).toInt = (v.1 0 364).toInt + 1 := add_z rfl (by decide) (by omega) (by omega)
    rw [e]
    exact Or.inl ⟨c, 0, k, B, b, p, ok, S.same ⟨rfl, rfl, rfl⟩ MSm.rf rfl rfl rfl rfl (S.cnt.sm (by omega) ⟨rfl, rfl, rfl, rfl, rfl, rfl⟩ ⟨rfl, rfl, rfl, rfl, rfl, rfl⟩), ⟨by show (v.1 0 364 + 1).toInt = _; omega, ho⟩, by omega⟩
  · -- at a function's end
    obtain ⟨f, k, B, b, p, kc, fl, S, ⟨x1, x2, x3⟩, x4, hP⟩ := h
    have F := G2.2 f fl
    refine Or.inr (Or.inr (fun u r u2 Q1 Q2 => ?_))
    rcases evLv (L1 := L1) (L2 := L2) A Am S ⟨x1, by rw [A.1 381 (by decide)]; exact x2⟩ (by rw [A.2 378 (by decide)]; exact x3) (by rw [Am.2 71 (by decide)]; exact x4) hN hl hL F.2.2.1.1 Q1 Q2 with R | R
    · obtain ⟨f9, i9, k9, B9, b9, p9, z1, z2, z3, z4, z5⟩ := R
      refine Or.inl (Or.inl ⟨f9, i9, k9, B9, b9, p9, z1, z2, z3, ?_⟩)
      have : PTT w0 (wA u2 0 121 r) = PTT w0 w := by unfold PTT; rw [z5]
      rw [this]
      omega
    · exact Or.inr R
end YKS
