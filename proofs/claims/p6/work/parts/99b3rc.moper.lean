/-! the reference: operands -/
section MOP
variable {g : GM} {n : Int} {K : TK} {e : PE} {v u w x S : MS} {t st : Bool} {r pa pb na : Int32} {c o : RM1} {E : FE} {O : FO}
theorem i_kd {m : Int} {k : Int32} {s : PS} (h : kd e s = k) (hk : k.toInt = m) : (kd e s).toInt = m := by rw [h, hk]
theorem rUn (hO : HMO n K o O) (J : JM n K e v) (og : OGM g v) (hk : 2 ≤ (kd e (aR g K v)).toInt) (h : (∃ u9, Q_m_opens v true u9 ∧ t = true ∧ u = u9) ∨ (Q_m_opens v false (wA (wA v 0 47 ((v.1 0 47) + (1 : Int32))) 0 48 ((v.1 0 48) + (1 : Int32))) ∧ ((∃ u9, o (wA (wA v 0 47 ((v.1 0 47) + (1 : Int32))) 0 48 ((v.1 0 48) + (1 : Int32))) true u9 ∧ t = true ∧ u = u9) ∨ (∃ u71, o (wA (wA v 0 47 ((v.1 0 47) + (1 : Int32))) 0 48 ((v.1 0 48) + (1 : Int32))) false u71 ∧ K_m_operand (wA (wA v 0 47 ((v.1 0 47) + (1 : Int32))) 0 48 ((v.1 0 48) + (1 : Int32))) u71 ∧ EMS 1 (wA u71 0 48 ((u71.1 0 48) - (1 : Int32))) u ∧ t = false)))) : OKP g n K e (fun s => bd (tOpen e s) fun s => bd (O false e s) fun q => .ok (false, em 1 (tClose q.2))) v t u := by
  unfold OKP
  show (t = false ∧ bd (tOpen e (aR g K v)) _ = _ ∧ _) ∨ (t = true ∧ bd (tOpen e (aR g K v)) _ = _)
  rcases h with ⟨u9, h1, rfl, rfl⟩ | ⟨h1, h⟩
  · exact Or.inr ⟨rfl, by rw [(rOpens (g := g) h1 J hk).er, bd_er]⟩
  have a1 := rOpens (g := g) h1 J hk
  rw [a1.eo, bd_ok]
  have og1 : OGM g (wA (wA v 0 47 ((v.1 0 47) + (1 : Int32))) 0 48 ((v.1 0 48) + (1 : Int32))) := og.of rfl
  rcases h with ⟨u9, h2, rfl, rfl⟩ | ⟨u71, h2, k2, e1, rfl⟩
  · exact Or.inr ⟨rfl, by rw [(hO g e _ _ _ h2 nom a1.jj og1).er, bd_er]⟩
  · have a2 := hO g e _ _ _ h2 (fun _ => k2) a1.jj og1
    rw [a2.eo, bd_ok]
    refine Or.inl ⟨rfl, ?_, e1.j (a2.jj.w (by decide))⟩
    rw [e1.a, aR_cl]
    rfl
theorem lg_pos {a b : Int64} : 0 < (lg_cmp a b).toInt ↔ b.toInt < a.toInt := by
  have e0 : (0 : Int32).toInt = 0 := by decide
  rw [← Int64.lt_iff_toInt_lt, ← lg_cmp_gt, Int32.lt_iff_toInt_lt, e0]
theorem rNumber (J : JM n K e v) (hk : (kd e (aR g K v)).toInt = 3 ∨ (kd e (aR g K v)).toInt = 5) (h6 : v.1 6 (v.1 0 47).toNatClampNeg = 4 ∨ v.1 6 (v.1 0 47).toNatClampNeg = 6) (h : (∃ u9, Q_m_take v true u9 ∧ t = true ∧ u = u9) ∨ (Q_m_take v false (wA v 0 47 ((v.1 0 47) + (1 : Int32))) ∧ K_m_take v (wA v 0 47 ((v.1 0 47) + (1 : Int32))) ∧ ∃ u14, Q_m_loads (wA v 0 47 ((v.1 0 47) + (1 : Int32))) ((v.2 (v.1 0 47).toNatClampNeg).toInt32) u14 ∧ K_m_loads (wA v 0 47 ((v.1 0 47) + (1 : Int32))) ((v.2 (v.1 0 47).toNatClampNeg).toInt32) u14 ∧ t = false ∧ u = u14)) : OKP g n K e (tOperand E O st e) v t u := by
  have q : tOperand E O st e (aR g K v) = bd (tTake e (aR g K v)) fun s1 => .ok (false, em (nsz (vl e (aR g K v))) s1) := by
    unfold tOperand
    rw [if_neg (by omega), if_pos (by omega)]
  have ev : vl e (aR g K v) = (v.2 (v.1 0 47).toNatClampNeg).toInt32 := by
    rw [rVl J]
    exact (J.1.1 _ J.2.2.2.1.2.1 J.2.2.2.1.2.2.1).2.2.1 h6
  unfold OKP
  rw [q]
  rcases h with ⟨u9, h1, rfl, rfl⟩ | ⟨h1, -, u14, h2, -, rfl, rfl⟩
  · exact Or.inr ⟨rfl, by rw [(rTake (g := g) h1 J (by omega)).er, bd_er]⟩
  · have a := rTake (g := g) h1 J (by omega)
    obtain ⟨cc, e1, q1⟩ := rLoads h2
    rw [a.eo, bd_ok]
    refine Or.inl ⟨rfl, ?_, e1.j a.jj⟩
    rw [e1.a, q1, ev]
set_option maxHeartbeats 1600000 in
theorem rOperand (hE : HME n K c E) (hO : HMO n K o O) (h : Q_m_operand c o v t u) (J : JM n K e v) (og : OGM g v) : OKP g n K e (tOperand E O false e) v t u := by
  obtain ⟨z47, -, -, -, -, -, -, -, -, -, h⟩ := h
  have ek := rKd (g := g) J
  have un : ((kd e (aR g K v)).toInt = 54 ∨ (kd e (aR g K v)).toInt = 40 ∨ (kd e (aR g K v)).toInt = 41) → ((∃ u9, Q_m_opens v true u9 ∧ t = true ∧ u = u9) ∨ (Q_m_opens v false (wA (wA v 0 47 ((v.1 0 47) + (1 : Int32))) 0 48 ((v.1 0 48) + (1 : Int32))) ∧ ((∃ u9, o (wA (wA v 0 47 ((v.1 0 47) + (1 : Int32))) 0 48 ((v.1 0 48) + (1 : Int32))) true u9 ∧ t = true ∧ u = u9) ∨ (∃ u71, o (wA (wA v 0 47 ((v.1 0 47) + (1 : Int32))) 0 48 ((v.1 0 48) + (1 : Int32))) false u71 ∧ K_m_operand (wA (wA v 0 47 ((v.1 0 47) + (1 : Int32))) 0 48 ((v.1 0 48) + (1 : Int32))) u71 ∧ EMS 1 (wA u71 0 48 ((u71.1 0 48) - (1 : Int32))) u ∧ t = false)))) → OKP g n K e (tOperand E O false e) v t u := by
    intro hk h
    have q : tOperand E O false e (aR g K v) = bd (tOpen e (aR g K v)) fun s => bd (O false e s) fun q => .ok (false, em 1 (tClose q.2)) := by
      unfold tOperand
      rw [if_pos hk]
    have R := rUn hO J og (by omega) h
    unfold OKP at R ⊢
    rw [q]
    exact R
  have six : ∀ {u71 : MS} {x1 x2 x3 x4 : Int32} {i1 i2 i3 : Nat}, EMS 1 (wA u71 0 48 ((u71.1 0 48) - (1 : Int32))) (wA (wA (wA (wA (wA (wA u71 0 48 ((u71.1 0 48) - (1 : Int32))) 11 i1 x1) 0 12 ((u71.1 0 12) + (1 : Int32))) 13 i2 x2) 14 i3 x3) 0 15 x4) := fun {_ _ _ _ _ _ _ _} => EMS.w0 (EMS.wa (EMS.wa (EMS.o1 (EMS.wa EMS.rf (by decide)) rfl) (by decide)) (by decide)) (by decide)
  rcases h with ⟨c4, -, h⟩ | ⟨c4, h⟩
  · have k4 : v.1 6 (v.1 0 47).toNatClampNeg = 4 := Int32.toInt_inj.mp (c4.trans (by decide))
    rcases h with ⟨c10, h⟩ | ⟨c10, ⟨cl, h⟩ | ⟨cl, h⟩⟩
    · have e3 : kd e (aR g K v) = 3 := by
        rw [ek, k4]
        unfold kM
        rw [if_neg (by decide), if_pos rfl, if_neg (fun q => q.1 (Int32.toInt_inj.mp (c10.trans (by decide))))]
      exact rNumber J (Or.inl (i_kd e3 (by decide))) (Or.inl k4) h
    · have e3 : kd e (aR g K v) = 3 := by
        rw [ek, k4]
        unfold kM
        have m7 : (2147483647 : Int64).toInt = 2147483647 := by decide
        rw [if_neg (by decide), if_pos rfl, if_neg (fun q => by have := lg_pos.mpr (show (2147483647 : Int64).toInt < _ from m7 ▸ q.2); omega)]
      exact rNumber J (Or.inl (i_kd e3 (by decide))) (Or.inl k4) h
    · have e4 : kd e (aR g K v) = 4 := by
        rw [ek, k4]
        unfold kM
        have m7 : (2147483647 : Int64).toInt = 2147483647 := by decide
        rw [if_neg (by decide), if_pos rfl, if_pos ⟨fun q => c10 (by rw [q]; decide), m7 ▸ lg_pos.mp cl⟩]
      have q : tOperand E O false e (aR g K v) = .error (5, pl e (aR g K v)) := by
        unfold tOperand
        rw [e4]
        rfl
      unfold OKP
      rw [q]
      have ex : ∀ {t : Bool} {u : MS}, Q_m_take (wA v 0 49 (v.1 0 47)) t u → t = true ∧ (u.1 0 50, u.1 0 51) = ((5 : Int32), v.1 7 (v.1 0 47).toNatClampNeg) := by
        intro t u hq
        obtain ⟨-, hq⟩ := hq
        rcases hq with ⟨-, rfl, rfl⟩ | ⟨-, ⟨b, -⟩ | ⟨-, rfl, rfl⟩⟩
        · exact ⟨rfl, rfl⟩
        · exact absurd rfl b
        · exact ⟨rfl, rfl⟩
      rcases h with ⟨u9, h1, rfl, rfl⟩ | ⟨h1, -⟩
      · exact Or.inr ⟨rfl, by rw [(ex h1).2, rPl J]⟩
      · cases (ex h1).1
  rcases h with ⟨c6, r60, h60, -, h⟩ | ⟨c6, -, h⟩
  · have i60 := rIs (g := g) h60 J (q := (45, 54)) (by decide) rfl
    rcases h with ⟨q60, h⟩ | ⟨q60, r135, h135, -, h⟩
    · refine un (Or.inl (i_kd (i60.mp q60) (by decide))) ?_
      rcases h with h | ⟨h1, -, h⟩
      · exact Or.inl h
      · refine Or.inr ⟨h1, ?_⟩
        rcases h with h | ⟨u71, h2, k2, ⟨-, ⟨-, r81, -, -, -, rfl, rfl⟩ | ⟨-, r81, -, -, -, rfl, rfl⟩⟩ | ⟨-, r81, -, -, rfl, rfl⟩⟩
        · exact Or.inl h
        · exact Or.inr ⟨u71, h2, k2, six, rfl⟩
        · exact Or.inr ⟨u71, h2, k2, six, rfl⟩
        · exact Or.inr ⟨u71, h2, k2, six, rfl⟩
    have i135 := rIs (g := g) h135 J (q := (33, 40)) (by decide) rfl
    rcases h with ⟨q135, h⟩ | ⟨q135, r210, h210, -, h⟩
    · refine un (Or.inr (Or.inl (i_kd (i135.mp q135) (by decide)))) ?_
      rcases h with h | ⟨h1, -, h⟩
      · exact Or.inl h
      · refine Or.inr ⟨h1, ?_⟩
        rcases h with h | ⟨u71, h2, k2, ⟨-, ⟨-, r81, -, -, -, rfl, rfl⟩ | ⟨-, r81, -, -, -, rfl, rfl⟩⟩ | ⟨-, r81, -, -, rfl, rfl⟩⟩
        · exact Or.inl h
        · exact Or.inr ⟨u71, h2, k2, six, rfl⟩
        · exact Or.inr ⟨u71, h2, k2, six, rfl⟩
        · exact Or.inr ⟨u71, h2, k2, six, rfl⟩
    have i210 := rIs (g := g) h210 J (q := (126, 41)) (by decide) rfl
    rcases h with ⟨q210, r215, h215, -, h⟩ | ⟨q210, h⟩
    · have i215 := rIs (g := g) h215 J (q := (40, 30)) (by decide) rfl
      have n54 : ¬ ((kd e (aR g K v)).toInt = 54 ∨ (kd e (aR g K v)).toInt = 40 ∨ (kd e (aR g K v)).toInt = 41) := by
        rintro (q | q | q)
        · exact i60.mpr (Int32.toInt_inj.mp (q.trans (by decide))) q60
        · exact i135.mpr (Int32.toInt_inj.mp (q.trans (by decide))) q135
        · exact i210.mpr (Int32.toInt_inj.mp (q.trans (by decide))) q210
      have ne4 : v.1 6 (v.1 0 47).toNatClampNeg ≠ 4 := fun q => c4 (by rw [q]; decide)
      have ne6 : v.1 6 (v.1 0 47).toNatClampNeg ≠ 6 := fun q => c6 (by rw [q]; decide)
      have n345 : ¬ ((kd e (aR g K v)).toInt = 3 ∨ (kd e (aR g K v)).toInt = 5) ∧ ¬ (kd e (aR g K v)).toInt = 4 := by
        have T := rTV J
        rw [ek]
        unfold kM
        by_cases k3 : v.1 6 (v.1 0 47).toNatClampNeg = 3
        · rw [if_pos k3]
          obtain ⟨y, hy, q⟩ := T.2.1 k3
          rw [q, i64_32]
          have : ∀ y ∈ KL, 10 ≤ (10 + y : Int32).toInt := by decide
          have := this y hy
          omega
        · rw [if_neg k3, if_neg ne4]
          by_cases k5 : v.1 6 (v.1 0 47).toNatClampNeg = 5
          · rw [if_pos k5]
            obtain ⟨z, hz, q⟩ := T.2.2 k5
            rw [q, i64_32, (sgk_SC z hz).1]
            have := (sgk_SC z hz).2
            omega
          · rw [if_neg k5, if_neg ne6]
            have : ∀ k ∈ ([0, 1, 2, 3, 4, 5, 6] : List Int32), k ≠ 3 → k ≠ 4 → k ≠ 5 → ¬ (k.toInt = 3 ∨ k.toInt = 5) ∧ ¬ k.toInt = 4 := by decide
            exact this _ T.1 k3 ne4 k5
      rcases h with ⟨q215, r220, h220, -, h⟩ | ⟨q215, h⟩
      · have i220 := rIsKey (g := g) h220 J (by decide)
        have n30 : ¬ (kd e (aR g K v)).toInt = 30 := fun q => i215.mpr (Int32.toInt_inj.mp (q.trans (by decide))) q215
        rcases h with ⟨q220, h⟩ | ⟨q220, h⟩
        · have n20 : ¬ (kd e (aR g K v)).toInt = 20 := fun q => i220.mpr (Int32.toInt_inj.mp (q.trans (by decide))) q220
          have e2 : kd e (aR g K v) = 2 ↔ v.1 6 (v.1 0 47).toNatClampNeg = 2 := by rw [ek]; exact kM_2 (rTV J)
          rcases h with ⟨c2, -, u228, h228, -, rfl, rfl⟩ | ⟨c2, r235, h235, -, h⟩
          · have n2 : ¬ (kd e (aR g K v)).toInt = 2 := fun q => c2 (by rw [e2.mp (Int32.toInt_inj.mp (q.trans (by decide)))]; decide)
            have q : tOperand E O false e (aR g K v) = tBad e (aR g K v) := by
              unfold tOperand
              rw [if_neg n54, if_neg n345.1, if_neg n345.2, if_neg n20, if_neg n30, if_neg n2]
            unfold OKP
            rw [q, rBad (g := g) h228 J]
            exact Or.inr ⟨rfl, rfl⟩
          · have k2 : kd e (aR g K v) = 2 := e2.mpr (Int32.toInt_inj.mp (c2.trans (by decide)))
            have q : tOperand E O false e (aR g K v) = tNamed E false e (aR g K v) := by
              unfold tOperand
              rw [if_neg n54, if_neg n345.1, if_neg n345.2, if_neg n20, if_neg n30, if_pos (i_kd k2 (by decide))]
            have kb2 := (rKb (g := g) h235 J z47.2 (by rw [k2]; decide) (q := (40, 30)) (by decide) rfl).1
            have R : OKP g n K e (tNamed E false e) v t u := by
              rcases h with ⟨q235, -, h⟩ | ⟨q235, h⟩
              · have nb : (kb e (aR g K v)).toInt ≠ 30 := fun q => kb2.mpr (Int32.toInt_inj.mp (q.trans (by decide))) q235
                rcases h with ⟨u9, h1, rfl, rfl⟩ | ⟨u242, h1, -, rfl, rfl⟩
                · exact rNamed0 hE h1 J og k2 nb
                · exact rNamed0 hE h1 J og k2 nb
              · have yb : (kb e (aR g K v)).toInt = 30 := by rw [kb2.mp q235]; decide
                rcases h with ⟨u9, h1, rfl, rfl⟩ | ⟨u247, h1, -, rfl, rfl⟩
                · exact rCall hE h1 J og k2 yb
                · exact rCall hE h1 J og k2 yb
            unfold OKP at R ⊢
            rw [q]
            exact R
        · have k20 : (kd e (aR g K v)).toInt = 20 := i_kd (i220.mp q220) (by decide)
          have q : tOperand E O false e (aR g K v) = bd (tTake e (aR g K v)) fun s => bd (tNeed 30 e s) fun s => bd (tOpen e s) fun s => bd (tExp 31 e s) fun s => .ok (false, em 2 (tClose s)) := by
            unfold tOperand
            rw [if_neg n54, if_neg n345.1, if_neg n345.2, if_pos k20]
          unfold OKP
          rw [q]
          rcases h with ⟨u9, h1, rfl, rfl⟩ | ⟨h1, -, h⟩
          · exact Or.inr ⟨rfl, by rw [(rTake (g := g) h1 J (by omega)).er, bd_er]⟩
          have a1 := rTake (g := g) h1 J (by omega)
          rw [a1.eo, bd_ok]
          have two : ∀ (s : PS) (F : PS → PX (Bool × PS)), (bd (tNeed 30 e s) fun s => bd (tOpen e s) F) = bd (bd (tNeed 30 e s) (tOpen e)) F := fun s F => (bd_as _ _ _).symm
          rw [two]
          rcases h with ⟨u9, h2, rfl, rfl⟩ | ⟨h2, -, h⟩
          · exact Or.inr ⟨rfl, by rw [(rOpen (g := g) (q := (40, 30)) (m := 30) h2 a1.jj (by decide) rfl (by decide)).er, bd_er]⟩
          have a2 := rOpen (g := g) (q := (40, 30)) (m := 30) h2 a1.jj (by decide) rfl (by decide)
          rw [a2.eo, bd_ok]
          have two2 : ∀ (s : PS), (bd (tExp 31 e s) fun s => (.ok (false, em 2 (tClose s)) : PX (Bool × PS))) = bd (bd (tExp 31 e s) fun s => .ok (tClose s)) fun s => .ok (false, em 2 s) := fun s => by rw [bd_as]; rfl
          rw [two2]
          rcases h with ⟨u9, h3, rfl, rfl⟩ | ⟨h3, -, r267, -, u272, hu272, rfl, rfl⟩
          · exact Or.inr ⟨rfl, by rw [(rClose (g := g) (q := (41, 31)) (m := 31) h3 a2.jj (by decide) rfl (by decide)).er, bd_er]⟩
          · have a3 := rClose (g := g) (q := (41, 31)) (m := 31) h3 a2.jj (by decide) rfl (by decide)
            rw [a3.eo, bd_ok]
            have e1 : EMS 1 (wA (wA (wA (wA (wA v 0 47 ((v.1 0 47) + (1 : Int32))) 0 47 (((v.1 0 47) + (1 : Int32)) + (1 : Int32))) 0 48 ((v.1 0 48) + (1 : Int32))) 0 47 ((((v.1 0 47) + (1 : Int32)) + (1 : Int32)) + (1 : Int32))) 0 48 (((v.1 0 48) + (1 : Int32)) - (1 : Int32))) u272 := by
              rw [hu272]
              exact EMS.o1 (EMS.wa EMS.rf (by decide)) rfl
            have e2' := e1.tr (x := wA (wA (wA (wA (wA u272 11 ((u272.1 0 12).toNatClampNeg) (115 : Int32)) 0 12 ((u272.1 0 12) + (1 : Int32))) 13 ((u272.1 0 15).toNatClampNeg) (17 : Int32)) 14 ((u272.1 0 15).toNatClampNeg) (0 : Int32)) 0 15 ((u272.1 0 15) + (1 : Int32))) (EMS.w0 (EMS.wa (EMS.wa (EMS.o1 (EMS.wa EMS.rf (by decide)) rfl) (by decide)) (by decide)) (by decide))
            refine Or.inl ⟨rfl, ?_, e2'.j a3.jj⟩
            rw [e2'.a]
            rfl
      · have k30 : (kd e (aR g K v)).toInt = 30 := i_kd (i215.mp q215) (by decide)
        have q : tOperand E O false e (aR g K v) = bd (tOpen e (aR g K v)) fun s => bd (E true e s) fun s => bd (tExp 31 e s) fun s => .ok (false, tClose s) := by
          unfold tOperand
          rw [if_neg n54, if_neg n345.1, if_neg n345.2, if_neg (by omega), if_pos k30]
        unfold OKP
        rw [q]
        rcases h with ⟨u9, h1, rfl, rfl⟩ | ⟨h1, -, h⟩
        · exact Or.inr ⟨rfl, by rw [(rOpens (g := g) h1 J (by omega)).er, bd_er]⟩
        have a1 := rOpens (g := g) h1 J (by omega)
        rw [a1.eo, bd_ok]
        have og1 : OGM g (wA (wA v 0 47 ((v.1 0 47) + (1 : Int32))) 0 48 ((v.1 0 48) + (1 : Int32))) := og.of rfl
        rcases h with ⟨u9, h2, rfl, rfl⟩ | ⟨u301, h2, k2, h⟩
        · exact Or.inr ⟨rfl, by rw [(hE g e _ _ _ h2 nom a1.jj og1).er, bd_er]⟩
        have a2 := hE g e _ _ _ h2 (fun _ => k2) a1.jj og1
        rw [a2.eo, bd_ok]
        have two2 : ∀ (s : PS), (bd (tExp 31 e s) fun s => (.ok (false, tClose s) : PX (Bool × PS))) = bd (bd (tExp 31 e s) fun s => .ok (tClose s)) fun s => .ok (false, s) := fun s => by rw [bd_as]; rfl
        rw [two2]
        rcases h with ⟨u9, h3, rfl, rfl⟩ | ⟨h3, -, rfl, rfl⟩
        · exact Or.inr ⟨rfl, by rw [(rClose (g := g) (q := (41, 31)) (m := 31) h3 a2.jj (by decide) rfl (by decide)).er, bd_er]⟩
        · have a3 := rClose (g := g) (q := (41, 31)) (m := 31) h3 a2.jj (by decide) rfl (by decide)
          rw [a3.eo, bd_ok]
          exact Or.inl ⟨rfl, rfl, a3.jj⟩
    · refine un (Or.inr (Or.inr (i_kd (i210.mp q210) (by decide)))) ?_
      rcases h with h | ⟨h1, -, h⟩
      · exact Or.inl h
      · refine Or.inr ⟨h1, ?_⟩
        rcases h with h | ⟨u71, h2, k2, ⟨-, ⟨-, r81, -, -, -, rfl, rfl⟩ | ⟨-, r81, -, -, -, rfl, rfl⟩⟩ | ⟨-, r81, -, -, rfl, rfl⟩⟩
        · exact Or.inl h
        · exact Or.inr ⟨u71, h2, k2, six, rfl⟩
        · exact Or.inr ⟨u71, h2, k2, six, rfl⟩
        · exact Or.inr ⟨u71, h2, k2, six, rfl⟩
  · have k6 : v.1 6 (v.1 0 47).toNatClampNeg = 6 := Int32.toInt_inj.mp (c6.trans (by decide))
    have e5 : kd e (aR g K v) = 5 := by
      rw [ek, k6]
      rfl
    exact rNumber J (Or.inr (i_kd e5 (by decide))) (Or.inr k6) h
end MOP
