/-! the reference: statements, every level -/
section MSM
variable {g : GM} {n : Int} {K : TK} {e : PE} {v u w x : MS} {t : Bool} {r pa pb : Int32} {c : RM1} {E : FE} {S : FS} {f f' : PS → PX PS} {k k' N cc : Nat} {m : Int}
theorem OKZ.cg (h : f (aR g K v) = f' (aR g K v)) (k : OKZ g n K e f' v t u) : OKZ g n K e f v t u := by
  unfold OKZ at k ⊢
  rw [h]
  exact k
theorem rTakeZ (h : (∃ u9, Q_m_take v true u9 ∧ t = true ∧ u = u9) ∨ (Q_m_take v false (wA v 0 47 ((v.1 0 47) + (1 : Int32))) ∧ K_m_take v (wA v 0 47 ((v.1 0 47) + (1 : Int32))) ∧ t = false ∧ u = wA v 0 47 ((v.1 0 47) + (1 : Int32)))) (J : JM n K e v) (hk : 2 ≤ (kd e (aR g K v)).toInt) : OKZ g n K e (tTake e) v t u := by
  rcases h with ⟨u9, h1, rfl, rfl⟩ | ⟨h1, k1, rfl, rfl⟩
  · exact Or.inr ⟨rfl, (rTake (g := g) h1 J hk).er⟩
  · have a := rTake (g := g) h1 J hk
    exact Or.inl ⟨rfl, a.eo, a.jj, ZS.of rfl rfl rfl, ndT J k1.1⟩
set_option maxHeartbeats 800000 in
theorem rPutZ (hE : HME n K (QME k) E) (J : JM n K e v) (g2 : g.2 = []) (hk : 2 ≤ (kd e (aR g K v)).toInt) (h : (∃ u9, Q_m_take v true u9 ∧ t = true ∧ u = u9) ∨ (Q_m_take v false (wA v 0 47 ((v.1 0 47) + (1 : Int32))) ∧ K_m_take v (wA v 0 47 ((v.1 0 47) + (1 : Int32))) ∧ ((∃ u9, Q_m_open (wA v 0 47 ((v.1 0 47) + (1 : Int32))) 40 true u9 ∧ t = true ∧ u = u9) ∨ (Q_m_open (wA v 0 47 ((v.1 0 47) + (1 : Int32))) 40 false (wA (wA (wA v 0 47 ((v.1 0 47) + (1 : Int32))) 0 47 (((v.1 0 47) + (1 : Int32)) + (1 : Int32))) 0 48 ((v.1 0 48) + (1 : Int32))) ∧ K_m_open (wA v 0 47 ((v.1 0 47) + (1 : Int32))) 40 (wA (wA (wA v 0 47 ((v.1 0 47) + (1 : Int32))) 0 47 (((v.1 0 47) + (1 : Int32)) + (1 : Int32))) 0 48 ((v.1 0 48) + (1 : Int32))) ∧ ((∃ u9, QME k (wA (wA (wA v 0 47 ((v.1 0 47) + (1 : Int32))) 0 47 (((v.1 0 47) + (1 : Int32)) + (1 : Int32))) 0 48 ((v.1 0 48) + (1 : Int32))) true u9 ∧ t = true ∧ u = u9) ∨ (∃ u100, QME k (wA (wA (wA v 0 47 ((v.1 0 47) + (1 : Int32))) 0 47 (((v.1 0 47) + (1 : Int32)) + (1 : Int32))) 0 48 ((v.1 0 48) + (1 : Int32))) false u100 ∧ K_m_expression (wA (wA (wA v 0 47 ((v.1 0 47) + (1 : Int32))) 0 47 (((v.1 0 47) + (1 : Int32)) + (1 : Int32))) 0 48 ((v.1 0 48) + (1 : Int32))) u100 ∧ ((∃ u9, Q_m_close u100 41 true u9 ∧ t = true ∧ u = u9) ∨ (Q_m_close u100 41 false (wA (wA u100 0 47 ((u100.1 0 47) + (1 : Int32))) 0 48 ((u100.1 0 48) - (1 : Int32))) ∧ K_m_close u100 41 (wA (wA u100 0 47 ((u100.1 0 47) + (1 : Int32))) 0 48 ((u100.1 0 48) - (1 : Int32))) ∧ ((∃ u9, Q_m_need (wA (wA u100 0 47 ((u100.1 0 47) + (1 : Int32))) 0 48 ((u100.1 0 48) - (1 : Int32))) 59 true u9 ∧ t = true ∧ u = u9) ∨ (Q_m_need (wA (wA u100 0 47 ((u100.1 0 47) + (1 : Int32))) 0 48 ((u100.1 0 48) - (1 : Int32))) 59 false (wA (wA (wA u100 0 47 ((u100.1 0 47) + (1 : Int32))) 0 48 ((u100.1 0 48) - (1 : Int32))) 0 47 (((u100.1 0 47) + (1 : Int32)) + (1 : Int32))) ∧ K_m_need (wA (wA u100 0 47 ((u100.1 0 47) + (1 : Int32))) 0 48 ((u100.1 0 48) - (1 : Int32))) 59 (wA (wA (wA u100 0 47 ((u100.1 0 47) + (1 : Int32))) 0 48 ((u100.1 0 48) - (1 : Int32))) 0 47 (((u100.1 0 47) + (1 : Int32)) + (1 : Int32))) ∧ ∃ r119, Q_m_addi 17 0 1 r119 ∧ t = false ∧ u = (wA (wA (wA (wA (wA (wA (wA (wA (wA (wA u100 0 47 ((u100.1 0 47) + (1 : Int32))) 0 48 ((u100.1 0 48) - (1 : Int32))) 0 47 (((u100.1 0 47) + (1 : Int32)) + (1 : Int32))) 11 ((u100.1 0 12).toNatClampNeg) r119) 0 12 ((u100.1 0 12) + (1 : Int32))) 11 (((u100.1 0 12) + (1 : Int32)).toNatClampNeg) (115 : Int32)) 0 12 (((u100.1 0 12) + (1 : Int32)) + (1 : Int32))) 13 ((u100.1 0 15).toNatClampNeg) (16 : Int32)) 14 ((u100.1 0 15).toNatClampNeg) (0 : Int32)) 0 15 ((u100.1 0 15) + (1 : Int32))))))))))))) : OKZ g n K e (tPut E e) v t u := by
  unfold OKZ tPut
  rcases h with ⟨u9, h1, rfl, rfl⟩ | ⟨h1, k1, h⟩
  · exact Or.inr ⟨rfl, by rw [(rTake (g := g) h1 J hk).er, bd_er]⟩
  have a1 := rTake (g := g) h1 J hk
  rw [a1.eo, bd_ok]
  have qc : ∀ (s : PS) (F : PS → PX PS), bd (tCond E e s) F = bd (bd (tNeed 30 e s) (tOpen e)) fun s => bd (E true e s) fun s => bd (bd (tExp 31 e s) fun s => .ok (tClose s)) F := fun s F => by
    unfold tCond
    simp only [bd_as, bd_ok]
  rw [qc]
  rcases h with ⟨u9, h7, rfl, rfl⟩ | ⟨h7, k7, h⟩
  · exact Or.inr ⟨rfl, by rw [(rOpen (g := g) (q := (40, 30)) (m := 30) h7 a1.jj (by decide) rfl (by decide)).er, bd_er]⟩
  have a7 := rOpen (g := g) (q := (40, 30)) (m := 30) h7 a1.jj (by decide) rfl (by decide)
  rw [a7.eo, bd_ok]
  rcases h with ⟨u9, h8, rfl, rfl⟩ | ⟨u100, h8, k8, h⟩
  · exact Or.inr ⟨rfl, by rw [(hE g e _ _ _ h8 nom a7.jj (og0 g2)).er, bd_er]⟩
  have a8 := hE g e _ _ _ h8 (fun _ => k8) a7.jj (og0 g2)
  rw [a8.eo, bd_ok]
  rcases h with ⟨u9, h9, rfl, rfl⟩ | ⟨h9, k9, h⟩
  · exact Or.inr ⟨rfl, by rw [(rClose (g := g) (q := (41, 31)) (m := 31) h9 a8.jj (by decide) rfl (by decide)).er, bd_er]⟩
  have a9 := rClose (g := g) (q := (41, 31)) (m := 31) h9 a8.jj (by decide) rfl (by decide)
  rw [a9.eo, bd_ok, exp_em]
  rcases h with ⟨u9, h10, rfl, rfl⟩ | ⟨h10, k10, r119, -, rfl, rfl⟩
  · exact Or.inr ⟨rfl, by rw [(rNeed (g := g) (q := (59, 36)) (m := 36) h10 a9.jj (by decide) rfl (by decide)).er, bd_er]⟩
  have a10 := rNeed (g := g) (q := (59, 36)) (m := 36) h10 a9.jj (by decide) rfl (by decide)
  rw [a10.eo, bd_ok]
  have e1 : EMS 2 (wA (wA (wA u100 0 47 ((u100.1 0 47) + (1 : Int32))) 0 48 ((u100.1 0 48) - (1 : Int32))) 0 47 (((u100.1 0 47) + (1 : Int32)) + (1 : Int32))) (wA (wA (wA (wA (wA (wA (wA (wA (wA (wA u100 0 47 ((u100.1 0 47) + (1 : Int32))) 0 48 ((u100.1 0 48) - (1 : Int32))) 0 47 (((u100.1 0 47) + (1 : Int32)) + (1 : Int32))) 11 ((u100.1 0 12).toNatClampNeg) r119) 0 12 ((u100.1 0 12) + (1 : Int32))) 11 (((u100.1 0 12) + (1 : Int32)).toNatClampNeg) (115 : Int32)) 0 12 (((u100.1 0 12) + (1 : Int32)) + (1 : Int32))) 13 ((u100.1 0 15).toNatClampNeg) (16 : Int32)) 14 ((u100.1 0 15).toNatClampNeg) (0 : Int32)) 0 15 ((u100.1 0 15) + (1 : Int32))) := EMS.w0 (EMS.wa (EMS.wa (EMS.o1 (EMS.wa (EMS.o1 (EMS.wa EMS.rf (by decide)) rfl) (by decide)) rfl) (by decide)) (by decide)) (by decide)
  refine Or.inl ⟨rfl, by rw [e1.a]; rfl, e1.j a10.jj, ?_, nd_e e1 (ndT a9.jj k10.1)⟩
  exact ((ZS.of rfl rfl rfl : ZS v (wA (wA (wA v 0 47 ((v.1 0 47) + (1 : Int32))) 0 47 (((v.1 0 47) + (1 : Int32)) + (1 : Int32))) 0 48 ((v.1 0 48) + (1 : Int32)))).tr (ZS.fg k8.1 (by decide) k8.2.2.2.2.2.2.1.1)).tr (ZS.of rfl rfl rfl)
theorem kM_n3 {k : Int32} {x : Int64} {d : Int32} (h : TV k x) (h3 : k ≠ 3) : ¬ (10 ≤ (kM k x d).toInt ∧ (kM k x d).toInt ≤ 20) := by
  unfold kM
  rw [if_neg h3]
  by_cases k4 : k = 4
  · rw [if_pos k4]
    split <;> decide
  · rw [if_neg k4]
    by_cases k5 : k = 5
    · rw [if_pos k5]
      obtain ⟨z, hz, rfl⟩ := h.2.2 k5
      rw [i64_32, (sgk_SC z hz).1]
      have := (sgk_SC z hz).2
      omega
    · rw [if_neg k5]
      by_cases k6 : k = 6
      · rw [if_pos k6]
        decide
      · rw [if_neg k6]
        have : ∀ k ∈ ([0, 1, 2, 3, 4, 5, 6] : List Int32), ¬ (10 ≤ k.toInt ∧ k.toInt ≤ 20) := by decide
        exact this k h.1
set_option maxHeartbeats 1600000 in
theorem rStat (hE : HME n K (QME k) E) (hEb : ∀ e s, (kd e s).toInt = 12 → E true e s = tBad e s) (hS : HMS n K c S) (h : Q_m_statement k c v t u) (J : JM n K e v) (g2 : g.2 = []) (lo : g.1 = true ↔ (v.1 0 52).toInt ≠ 0) (nd : ND v) : OKZ g n K e (tStat E S e) v t u := by
  obtain ⟨-, -, -, -, -, -, -, -, -, -, -, -, -, -, r3, h3, -, h⟩ := h
  have i3 := (rIs (g := g) h3 J (q := (123, 32)) (by decide) rfl).trans (kd_m (m := 32) (by decide))
  have T := rTV J
  have ek := rKd (g := g) J
  rcases h with ⟨c3, h⟩ | ⟨c3, h⟩
  · have n32 : ¬ (kd e (aR g K v)).toInt = 32 := fun q => i3.mpr q c3
    rcases h with ⟨c6, r11, h11, -, h⟩ | ⟨c6, h⟩
    · have n3 := kM_n3 (d := v.1 10 (v.1 0 47).toNatClampNeg) T (fun q => c6 (by rw [q]; decide))
      rw [← ek] at n3
      have i11 := (rIs (g := g) h11 J (q := (59, 36)) (by decide) rfl).trans (kd_m (m := 36) (by decide))
      rcases h with ⟨c11, h⟩ | ⟨c11, h⟩
      · have n36 : ¬ (kd e (aR g K v)).toInt = 36 := fun q => i11.mpr q c11
        refine OKZ.cg (f' := fun s => bd (E true e s) (tExp 36 e)) ?_ (by
          rcases h with ⟨u9, h1, rfl, rfl⟩ | ⟨u15, h1, -, rfl, rfl⟩ <;> exact rPlain hE h1 J g2)
        unfold tStat
        rw [if_neg (by omega), if_neg (by omega), if_neg (by omega), if_neg (by omega), if_neg (by omega), if_neg (by omega), if_neg n32, if_neg n36]
      · have k36 := i11.mp c11
        refine OKZ.cg (f' := tTake e) ?_ (rTakeZ h J (by omega))
        unfold tStat
        rw [if_neg (by omega), if_neg (by omega), if_neg (by omega), if_neg (by omega), if_neg (by omega), if_neg (by omega), if_neg n32, if_pos k36]
    · have k3 : v.1 6 (v.1 0 47).toNatClampNeg = 3 := Int32.toInt_inj.mp (c6.trans (by decide))
      obtain ⟨y, hy, qy⟩ := T.2.1 k3
      have kdy : kd e (aR g K v) = 10 + y := by
        rw [ek, kM_3 T hy]
        exact ⟨k3, qy⟩
      have vy : (v.2 (v.1 0 47).toNatClampNeg).toInt32 = y := by rw [qy, i64_32]
      have b : ∀ y ∈ KL, 10 ≤ (10 + y : Int32).toInt ∧ (10 + y : Int32).toInt ≤ 20 := by decide
      have hk2 : 2 ≤ (kd e (aR g K v)).toInt := by rw [kdy]; have := b y hy; omega
      rw [vy] at h
      rcases h with ⟨rfl, h⟩ | ⟨n0, h⟩
      · refine OKZ.cg (f' := tLocal E e) (by unfold tStat; rw [kdy]; rfl) ?_
        rcases h with ⟨u9, h1, rfl, rfl⟩ | ⟨u31, h1, -, rfl, rfl⟩ <;> exact rLocalS hE h1 J g2 hk2
      rcases h with ⟨rfl, h⟩ | ⟨n1, h⟩
      · refine OKZ.cg (f' := tIf E S e) (by unfold tStat; rw [kdy]; rfl) ?_
        rcases h with ⟨u9, h1, rfl, rfl⟩ | ⟨u31, h1, -, rfl, rfl⟩ <;> exact rIf hE hS h1 J g2 lo hk2
      rcases h with ⟨rfl, u45, h45, -, rfl, rfl⟩ | ⟨n2, h⟩
      · have k12 : (kd e (aR g K v)).toInt = 12 := by rw [kdy]; decide
        refine OKZ.cg (f' := fun s => bd (E true e s) (tExp 36 e)) (by unfold tStat; rw [kdy]; rfl) (Or.inr ⟨rfl, ?_⟩)
        show bd (E true e (aR g K v)) _ = _
        rw [hEb _ _ k12, rBad (g := g) h45 J, bd_er]
      rcases h with ⟨rfl, h⟩ | ⟨n3, h⟩
      · refine OKZ.cg (f' := tLoop 13 E S e) (by unfold tStat; rw [kdy]; rfl) ?_
        rcases h with ⟨u9, h1, rfl, rfl⟩ | ⟨u31, h1, -, rfl, rfl⟩ <;> exact rWhile hE hS h1 J g2 hk2
      rcases h with ⟨rfl, h⟩ | ⟨n4, h⟩
      · refine OKZ.cg (f' := tLoop 14 E S e) (by unfold tStat; rw [kdy]; rfl) ?_
        rcases h with ⟨u9, h1, rfl, rfl⟩ | ⟨u31, h1, -, rfl, rfl⟩ <;> exact rDo hE hS h1 J g2 hk2
      rcases h with ⟨rfl, h⟩ | ⟨n5, h⟩
      · refine OKZ.cg (f' := tLoop 15 E S e) (by unfold tStat; rw [kdy]; rfl) ?_
        rcases h with ⟨u9, h1, rfl, rfl⟩ | ⟨u31, h1, -, rfl, rfl⟩ <;> exact rFor hE hS h1 J g2 hk2
      rcases h with ⟨rfl, h⟩ | ⟨n6, h⟩
      · refine OKZ.cg (f' := tJump e) (by unfold tStat; rw [kdy]; rfl) ?_
        rcases h with ⟨u9, h1, rfl, rfl⟩ | ⟨u31, h1, -, rfl, rfl⟩ <;> exact rLeave h1 J lo nd hk2
      rcases h with ⟨rfl, h⟩ | ⟨n7, h⟩
      · refine OKZ.cg (f' := tJump e) (by unfold tStat; rw [kdy]; rfl) ?_
        rcases h with ⟨u9, h1, rfl, rfl⟩ | ⟨u31, h1, -, rfl, rfl⟩ <;> exact rLeave h1 J lo nd hk2
      rcases h with ⟨rfl, h⟩ | ⟨n8, h⟩
      · refine OKZ.cg (f' := tRet E e) (by unfold tStat; rw [kdy]; rfl) ?_
        rcases h with ⟨u9, h1, rfl, rfl⟩ | ⟨u31, h1, -, rfl, rfl⟩ <;> exact rRet hE h1 J g2 hk2
      rcases h with ⟨rfl, h⟩ | ⟨n9, h⟩
      · exact OKZ.cg (f' := tPut E e) (by unfold tStat; rw [kdy]; rfl) (rPutZ hE J g2 hk2 h)
      rcases h with ⟨rfl, h⟩ | ⟨n10, h⟩
      · refine OKZ.cg (f' := fun s => bd (E true e s) (tExp 36 e)) (by unfold tStat; rw [kdy]; rfl) ?_
        rcases h with ⟨u9, h1, rfl, rfl⟩ | ⟨u31, h1, -, rfl, rfl⟩ <;> exact rPlain hE h1 J g2
      · exfalso
        have all : ∀ y ∈ KL, y = 0 ∨ y = 1 ∨ y = 2 ∨ y = 3 ∨ y = 4 ∨ y = 5 ∨ y = 6 ∨ y = 7 ∨ y = 8 ∨ y = 9 ∨ y = 10 := by decide
        rcases all y hy with q | q | q | q | q | q | q | q | q | q | q
        · exact n0 q
        · exact n1 q
        · exact n2 q
        · exact n3 q
        · exact n4 q
        · exact n5 q
        · exact n6 q
        · exact n7 q
        · exact n8 q
        · exact n9 q
        · exact n10 q
  · have k32 := i3.mp c3
    refine OKZ.cg (f' := tBlock S e) ?_ (by
      rcases h with ⟨u9, h1, rfl, rfl⟩ | ⟨u154, h1, -, rfl, rfl⟩ <;> exact rBlock hS h1 J g2 lo k32)
    unfold tStat
    rw [if_neg (by omega), if_neg (by omega), if_neg (by omega), if_neg (by omega), if_neg (by omega), if_neg (by omega), if_pos k32]
theorem tE_12 {N : Nat} {s : PS} (h : (kd e s).toInt = 12) : tE N true e s = tBad e s := by
  rw [tE_eq, tO_eq]
  unfold tExpr
  have q : tOperand (qE N) (qO N) true e s = tBad e s := by
    unfold tOperand
    rw [if_neg (by omega), if_neg (by omega), if_neg (by omega), if_neg (by omega), if_neg (by omega), if_neg (by omega)]
  rw [q]
  rfl
theorem mStat (hE : ∀ m, m ≤ 50 → HME n K (QME m) E) (hEb : ∀ e s, (kd e s).toInt = 12 → E true e s = tBad e s) : ∀ k N : Nat, k ≤ N → k ≤ 50 → HMS n K (QMS k) (tS E N) := by
  intro k
  induction k with
  | zero =>
    intro N _ _
    have p : HMS n K (pMS 0) (qS E N) := fun _ _ _ _ _ h => h.elim
    intro g e v t u h _ J g2 lo nd
    rw [QMS_eq] at h
    rw [tS_eq]
    exact rStat (hE _ (by omega)) hEb p h J g2 lo nd
  | succ k ih =>
    intro N h1 h2
    cases N with
    | zero => omega
    | succ N =>
      have p : HMS n K (pMS (k + 1)) (qS E (N + 1)) := ih N (by omega) (by omega)
      intro g e v t u h _ J g2 lo nd
      rw [QMS_eq] at h
      rw [tS_eq]
      exact rStat (hE _ (by omega)) hEb p h J g2 lo nd
end MSM
