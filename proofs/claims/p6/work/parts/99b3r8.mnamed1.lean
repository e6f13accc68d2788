/-! the reference: names at the beginning of an expression -/
section MNB
variable {g : GM} {n : Int} {K : TK} {e : PE} {v u w x : MS} {t : Bool} {r pa pb pc1 pd rs r5 r8 gg : Int32} {c : RM1} {c2 : RM2} {E : FE} {O : FO} {row sl : Bool}
def tGo (E : FE) (O : FO) (e : PE) (q : Bool × PS) : PX PS := if q.1 = true then .ok q.2 else bd (tJ O 1502 1 e q.2) (tQuest E e)
def tSt (E : FE) (row sl : Bool) (e : PE) (s : PS) : PX (Bool × PS) := if true = true ∧ (42 : Int) ≤ (kd e s).toInt ∧ (kd e s).toInt ≤ 52 then bd (tChange E row sl e s) fun s => .ok (true, s) else .ok (false, em (if row = true then 1 else vsz sl) s)
set_option maxHeartbeats 400000 in
theorem rTail (hE : HME n K c E) (hC : HMC n K c2 E O) (hs : Q_m_setting w rs) (J : JM n K e w) (og : OGM g w) (hrow : row = decide (r5.toInt ≠ 0)) (hsl : sl = decide (0 ≤ r8.toInt)) (h : (rs.toInt = -1 ∧ ∃ w2 cc, EMS cc w w2 ∧ Int32.ofNat cc = (if row = true then 1 else vsz sl) ∧ ((∃ u9, c2 w2 1 true u9 ∧ t = true ∧ u = u9) ∨ (∃ u44, c2 w2 1 false u44 ∧ K_m_choice w2 1 u44 ∧ t = false ∧ u = u44))) ∨ (rs.toInt ≠ -1 ∧ ((∃ u9, Q_m_sets c w r8 gg r5 rs true u9 ∧ t = true ∧ u = u9) ∨ (∃ u51, Q_m_sets c w r8 gg r5 rs false u51 ∧ K_m_sets w r8 gg r5 rs u51 ∧ t = false ∧ u = u51)))) : OKR g n K e (fun s => bd (tSt E row sl e s) (tGo E O e)) w t u := by
  have S := rSet (g := g) hs J
  unfold OKR OKG
  show (t = false ∧ bd (tSt E row sl e (aR g K w)) (tGo E O e) = _ ∧ _) ∨ (t = true ∧ bd (tSt E row sl e (aR g K w)) (tGo E O e) = _)
  unfold tSt
  rcases h with ⟨c1, w2, cc, e1, q1, h⟩ | ⟨c1, h⟩
  · rw [if_neg (fun q => S.1.mpr q.2 c1), bd_ok, ← q1, ← e1.a]
    have og2 : OGM g w2 := og.of (e1.2.2.1 39 (by decide))
    show (t = false ∧ bd (tJ O 1502 1 e (aR g K w2)) (tQuest E e) = _ ∧ _) ∨ (t = true ∧ bd (tJ O 1502 1 e (aR g K w2)) (tQuest E e) = _)
    rcases h with ⟨u9, h1, rfl, rfl⟩ | ⟨u44, h1, k1, rfl, rfl⟩
    · exact (hC g e w2 1 true u h1 nom (e1.j J) og2).1 rfl
    · exact (hC g e w2 1 false u h1 (fun _ => k1) (e1.j J) og2).1 rfl
  · have b := S.1.mp c1
    rw [if_pos ⟨rfl, b⟩]
    have T : OKR g n K e (tChange E row sl e) w t u := by
      have q := (S.2 c1)
      rcases h with ⟨u9, h1, rfl, rfl⟩ | ⟨u51, h1, -, rfl, rfl⟩
      · exact rSets hE h1 J og b q.1 q.2 hrow hsl
      · exact rSets hE h1 J og b q.1 q.2 hrow hsl
    cases t with
    | true => exact Or.inr ⟨rfl, by rw [T.er, bd_er, bd_er]⟩
    | false => exact Or.inl ⟨rfl, by rw [T.eo, bd_ok, bd_ok]; rfl, T.jj⟩
set_option maxHeartbeats 800000 in
theorem rNamed1 (hE : HME n K c E) (hC : HMC n K c2 E O) (h : Q_m_named1 c c2 v t u) (J : JM n K e v) (og : OGM g v) (hk : kd e (aR g K v) = 2) (h30 : (kb e (aR g K v)).toInt ≠ 30) : OKR g n K e (fun s => bd (tNamed E true e s) (tGo E O e)) v t u := by
  obtain ⟨z47, -, -, -, -, -, -, -, -, -, r5, h5, -, r8, h8, -, h⟩ := h
  have L := rLook (g := g) h5 h8 J z47.2 hk h30
  have hk2 : 2 ≤ (kd e (aR g K v)).toInt := by rw [hk]; decide
  unfold OKR OKG
  show (t = false ∧ bd (tNamed E true e (aR g K v)) (tGo E O e) = _ ∧ _) ∨ (t = true ∧ bd (tNamed E true e (aR g K v)) (tGo E O e) = _)
  have og1 : OGM g (wA v 0 47 (v.1 0 47 + 1)) := og.of rfl
  have r50 : r5.toInt = 0 → false = decide (r5.toInt ≠ 0) := fun q => (decide_eq_false (fun w => w q)).symm
  have fe : ∀ {sl : Bool} {q : Int32} {w : MS}, Q_m_fetch (wA v 0 47 (v.1 0 47 + 1)) r8 q w → sl = decide (0 ≤ r8.toInt) → ∃ cc, EMS cc (wA v 0 47 (v.1 0 47 + 1)) w ∧ Int32.ofNat cc = (if false = true then 1 else vsz sl) := by
    intro sl q w hf hs
    obtain ⟨cc, e1, q1⟩ := rFetch hf
    exact ⟨cc, e1, by rw [if_neg (by decide), q1, hs]⟩
  rcases h with ⟨c8, -, -, h⟩ | ⟨c8, r48, h48, -, -, h⟩
  · have hs : true = decide (0 ≤ fnd (pKn (aR g K v)) (vl e (aR g K v))) := by rw [← L.1]; exact (decide_eq_true c8).symm
    have hr : false = decide ((if true = true then none else gfd e (vl e (aR g K v))) = some (1 : Int32)) := (decide_eq_false (by rw [if_pos rfl]; exact fun q => (nomatch q))).symm
    rcases h with ⟨c5, h⟩ | ⟨c5, rfl, rfl⟩
    · have hb : false = decide ((kb e (aR g K v)).toInt = 34) := (decide_eq_false (fun q => L.2.2.mpr q c5)).symm
      rw [nm_ok (E := E) (st := true) h30 hs (Or.inl rfl) hr hb, bd_as]
      rcases h with ⟨u9, h1, rfl, rfl⟩ | ⟨h1, -, -, r26, h26, h⟩
      · exact Or.inr ⟨rfl, by rw [(rTake (g := g) h1 J hk2).er, bd_er]⟩
      have a := rTake (g := g) h1 J hk2
      rw [a.eo, bd_ok, if_neg (by decide), bd_ok]
      refine rTail (row := false) (sl := true) (gg := -1) hE hC h26 a.jj og1 (r50 c5) (decide_eq_true c8).symm ?_
      rcases h with ⟨c26, -, u32, h32, -, h⟩ | h
      · obtain ⟨cc, e1, q1⟩ := fe (sl := true) h32 (decide_eq_true c8).symm
        exact Or.inl ⟨c26, u32, cc, e1, q1, h⟩
      · exact Or.inr h
    · rw [nm_er (E := E) (st := true) h30 hs (Or.inr (by rw [← hr, decide_eq_true (L.2.2.mp c5)]; decide)), fl_er J, bd_er]
      exact Or.inr ⟨rfl, rfl⟩
  · have hs : false = decide (0 ≤ fnd (pKn (aR g K v)) (vl e (aR g K v))) := by rw [← L.1]; exact (decide_eq_false (by omega)).symm
    have s8 : false = decide (0 ≤ r8.toInt) := (decide_eq_false (by omega)).symm
    have G := rGlobal h48 J (rNT J hk)
    rw [← rVl (g := g) J] at G
    rcases h with ⟨c48, rfl, rfl⟩ | ⟨c48, -, h⟩
    · rw [nm_er (E := E) (st := true) h30 hs (Or.inl ⟨rfl, by
        rcases G with ⟨-, q⟩ | ⟨q, -⟩
        · exact q
        · omega⟩), fl_er J, bd_er]
      exact Or.inr ⟨rfl, rfl⟩
    obtain ⟨g1, g2⟩ : r48.toInt < (v.1 0 27).toInt ∧ gfd e (vl e (aR g K v)) = some (v.1 26 r48.toNatClampNeg) := by
      rcases G with ⟨q, -⟩ | ⟨-, q⟩
      · omega
      · exact q
    have z26 := r26 J c48 g1
    have hg : false = true ∨ gfd e (vl e (aR g K v)) ≠ none := Or.inr (by rw [g2]; exact fun q => (nomatch q))
    rcases h with ⟨c26, h⟩ | ⟨c26, h⟩
    · have hr : false = decide ((if false = true then none else gfd e (vl e (aR g K v))) = some (1 : Int32)) := (decide_eq_false (by rw [if_neg (by decide), g2]; exact fun q => (z26.mpr (Option.some.inj q)) c26)).symm
      rcases h with ⟨c5, h⟩ | ⟨c5, rfl, rfl⟩
      · have hb : false = decide ((kb e (aR g K v)).toInt = 34) := (decide_eq_false (fun q => L.2.2.mpr q c5)).symm
        rw [nm_ok (E := E) (st := true) h30 hs hg hr hb, bd_as]
        rcases h with ⟨u9, h1, rfl, rfl⟩ | ⟨h1, -, -, r90, h90, h⟩
        · exact Or.inr ⟨rfl, by rw [(rTake (g := g) h1 J hk2).er, bd_er]⟩
        have a := rTake (g := g) h1 J hk2
        rw [a.eo, bd_ok, if_neg (by decide), bd_ok]
        refine rTail (row := false) (sl := false) (gg := r48) hE hC h90 a.jj og1 (r50 c5) s8 ?_
        rcases h with ⟨c90, -, u96, h96, -, h⟩ | h
        · obtain ⟨cc, e1, q1⟩ := fe (sl := false) h96 s8
          exact Or.inl ⟨c90, u96, cc, e1, q1, h⟩
        · exact Or.inr h
      · rw [nm_er (E := E) (st := true) h30 hs (Or.inr (by rw [← hr, decide_eq_true (L.2.2.mp c5)]; decide)), fl_er J, bd_er]
        exact Or.inr ⟨rfl, rfl⟩
    · have hr : true = decide ((if false = true then none else gfd e (vl e (aR g K v))) = some (1 : Int32)) := (decide_eq_true (by rw [if_neg (by decide), g2, z26.mp c26])).symm
      rcases h with ⟨c5, h⟩ | ⟨c5, rfl, rfl⟩
      · have q34 : (kb e (aR g K v)).toInt = 34 := L.2.2.mp (by rw [c5]; decide)
        have hb : true = decide ((kb e (aR g K v)).toInt = 34) := (decide_eq_true q34).symm
        rw [nm_ok (E := E) (st := true) h30 hs hg hr hb, bd_as]
        rcases h with ⟨u9, h1, rfl, rfl⟩ | ⟨h1, -, -, h⟩
        · exact Or.inr ⟨rfl, by rw [(rTake (g := g) h1 J hk2).er, bd_er]⟩
        have a := rTake (g := g) h1 J hk2
        rw [a.eo, bd_ok, if_pos rfl, bd_as]
        have k34 : (kd e (aR g K (wA v 0 47 (v.1 0 47 + 1)))).toInt = 34 := q34
        rcases h with ⟨u9, h2, rfl, rfl⟩ | ⟨u134, h2, k2, r140, h140, h⟩
        · exact Or.inr ⟨rfl, by rw [(rIndex (g := g) hE h2 a.jj og1 k34).er, bd_er]⟩
        have b := rIndex (g := g) hE h2 a.jj og1 k34
        have og2 : OGM g u134 := og1.le k2.2.2.2.2.2.2.1.1
        rw [b.eo, bd_ok]
        refine rTail (row := true) (sl := false) (gg := r48) hE hC h140 b.jj og2 (decide_eq_true (by rw [c5]; decide)).symm s8 ?_
        rcases h with ⟨c140, -, r148, -, u154, -, k154, h⟩ | h
        · have e1 : EMS 1 u134 u154 := (EMS.o1 (EMS.wa EMS.rf (by decide)) rfl).tr (mFix k154)
          exact Or.inl ⟨c140, _, 1, EMS.w0 (EMS.wa (EMS.wa e1 (a := 13) (i := (u154.1 0 15).toNatClampNeg) (y := 6) (by decide)) (a := 14) (i := (u154.1 0 15).toNatClampNeg) (y := 0) (by decide)) (i := 15) (y := (u154.1 0 15) + 1) (by decide), by rfl, h⟩
        · exact Or.inr h
      · have ne : ¬ (kb e (aR g K v)).toInt = 34 := fun q => by
          have := L.2.2.mpr q
          rcases L.2.1 with w | w
          · rw [w] at this; exact this (by decide)
          · exact c5 (by rw [w]; decide)
        rw [nm_er (E := E) (st := true) h30 hs (Or.inr (by rw [← hr, decide_eq_false ne]; decide)), fl_er J, bd_er]
        exact Or.inr ⟨rfl, rfl⟩
end MNB
