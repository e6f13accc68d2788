/-! the reference: names -/
def OKP (g : GM) (n : Int) (K : TK) (e : PE) (f : PS → PX (Bool × PS)) (v : MS) (t : Bool) (u : MS) : Prop := (t = false ∧ f (aR g K v) = .ok (false, aR g K u) ∧ JM n K e u) ∨ (t = true ∧ f (aR g K v) = .error (u.1 0 50, u.1 0 51))
abbrev RM2 : Type := MS → Int32 → Bool → MS → Prop
def HMO (n : Int) (K : TK) (c : RM1) (O : FO) : Prop := ∀ (g : GM) (e : PE) (v : MS) (t : Bool) (u : MS), c v t u → (t = false → K_m_operand v u) → JM n K e v → OGM g v → OKP g n K e (O false e) v t u
def HMC (n : Int) (K : TK) (c : RM2) (E : FE) (O : FO) : Prop := ∀ (g : GM) (e : PE) (v : MS) (pa : Int32) (t : Bool) (u : MS), c v pa t u → (t = false → K_m_choice v pa u) → JM n K e v → OGM g v → (pa = 1 → OKR g n K e (fun s => bd (tJ O 1502 1 e s) (tQuest E e)) v t u) ∧ (pa = 0 → OKR g n K e (tExpr E O false e) v t u)
section MNA
variable {bz : Bool} {g : GM} {n : Int} {K : TK} {e : PE} {v u x : MS} {t st : Bool} {r pa pb pc1 pd : Int32} {m : Int} {c : RM1} {c2 : RM2} {E : FE} {O : FO} {f f' : PS → PX PS} {row sl : Bool}
theorem OKP.eo {f : PS → PX (Bool × PS)} (h : OKP g n K e f v false u) : f (aR g K v) = .ok (false, aR g K u) := by
  rcases h with h | ⟨h, _⟩
  · exact h.2.1
  · cases h
theorem OKP.er {f : PS → PX (Bool × PS)} (h : OKP g n K e f v true u) : f (aR g K v) = .error (u.1 0 50, u.1 0 51) := by
  rcases h with ⟨h, _⟩ | h
  · cases h
  · exact h.2
theorem OKP.jj {f : PS → PX (Bool × PS)} (h : OKP g n K e f v false u) : JM n K e u := by
  rcases h with h | ⟨h, _⟩
  · exact h.2.2
  · cases h
theorem rKb (h : Q_m_isSign v (v.1 0 47 + 1) pa r) (J : JG bz n K e v) (h5 : (v.1 0 47).toInt ≤ 1500) (hk : 2 ≤ (kd e (aR g K v)).toInt) {q : Int32 × Int32} (hq : q ∈ SC) (hp : q.1 = pa) : (r.toInt ≠ 0 ↔ kb e (aR g K v) = q.2) ∧ (r = 0 ∨ r = 1) := by
  have l := at_lt (g := g) J h5 hk
  have J4 := J.2.2.2.1
  have e1 : (v.1 0 47 + 1).toInt = (v.1 0 47).toInt + 1 := add_z rfl (by decide) (by omega) (by omega)
  obtain ⟨-, h⟩ := h
  have T := J.1.1 (v.1 0 47 + 1) (by omega) (by omega)
  have ek : kb e (aR g K v) = kM (v.1 6 (v.1 0 47 + 1).toNatClampNeg) (v.2 (v.1 0 47 + 1).toNatClampNeg) (v.1 10 (v.1 0 47 + 1).toNatClampNeg) := by
    rw [J.2.1]
    exact T.1
  rw [ek, kM_5 T.2.2.2 hq, hp]
  rcases h with ⟨a, rfl⟩ | ⟨a, ⟨b, rfl⟩ | ⟨b, rfl⟩⟩
  · exact ⟨⟨fun w => absurd rfl w, fun w => absurd (congrArg Int32.toInt w.1) (by exact a)⟩, Or.inl rfl⟩
  · exact ⟨⟨fun w => absurd rfl w, fun w => absurd (lg0.mpr w.2) b⟩, Or.inl rfl⟩
  · exact ⟨⟨fun _ => ⟨Int32.toInt_inj.mp a, lg0.mp b⟩, fun _ => by decide⟩, Or.inr rfl⟩
theorem kM_2 {k : Int32} {x : Int64} {d : Int32} (h : TV k x) : kM k x d = 2 ↔ k = 2 := by
  constructor
  · intro w
    unfold kM at w
    by_cases k3 : k = 3
    · rw [if_pos k3] at w
      obtain ⟨y, hy, rfl⟩ := h.2.1 k3
      rw [i64_32] at w
      have : ∀ y ∈ KL, (10 + y : Int32) ≠ 2 := by decide
      exact absurd w (this y hy)
    · rw [if_neg k3] at w
      by_cases k4 : k = 4
      · rw [if_pos k4] at w
        split at w <;> exact absurd w (by decide)
      · rw [if_neg k4] at w
        by_cases k5 : k = 5
        · rw [if_pos k5] at w
          obtain ⟨z, hz, rfl⟩ := h.2.2 k5
          rw [i64_32, (sgk_SC z hz).1] at w
          have := (sgk_SC z hz).2
          rw [w] at this
          exact absurd this.1 (by decide)
        · rw [if_neg k5] at w
          by_cases k6 : k = 6
          · rw [if_pos k6] at w
            exact absurd w (by decide)
          · rw [if_neg k6] at w
            exact w
  · rintro rfl
    rfl
theorem rNT (J : JG bz n K e v) (hk : kd e (aR g K v) = 2) : NT n K (v.1 0 47) := by
  obtain ⟨T, rfl, -, J4, -⟩ := J
  exact ⟨J4.2.1, J4.2.2.1, hk⟩
theorem rVl (J : JG bz n K e v) : vl e (aR g K v) = K.2.1 (v.1 0 47) := by rw [J.2.1]; rfl
/-- what a name stands for -/
theorem nm_er (h30 : (kb e (aR g K v)).toInt ≠ 30) (hs : sl = decide (0 ≤ fnd (pKn (aR g K v)) (vl e (aR g K v)))) (hb : (sl = false ∧ gfd e (vl e (aR g K v)) = none) ∨ (decide ((if sl = true then none else gfd e (vl e (aR g K v))) = some 1)) ≠ decide ((kb e (aR g K v)).toInt = 34)) : tNamed E st e (aR g K v) = .error (3, pl e (aR g K v)) := by
  unfold tNamed
  rw [if_neg h30, ← hs]
  refine if_pos ?_
  rcases hb with ⟨rfl, h2⟩ | h
  · exact Or.inl ⟨rfl, h2⟩
  · exact Or.inr h
theorem nm_ok (h30 : (kb e (aR g K v)).toInt ≠ 30) (hs : sl = decide (0 ≤ fnd (pKn (aR g K v)) (vl e (aR g K v)))) (hg : sl = true ∨ gfd e (vl e (aR g K v)) ≠ none) (hr : row = decide ((if sl = true then none else gfd e (vl e (aR g K v))) = some 1)) (hb : row = decide ((kb e (aR g K v)).toInt = 34)) : tNamed E st e (aR g K v) = bd (tTake e (aR g K v)) fun s => bd (if row = true then tIndex E e s else .ok s) fun s => if st = true ∧ (42 : Int) ≤ (kd e s).toInt ∧ (kd e s).toInt ≤ 52 then bd (tChange E row sl e s) fun s => .ok (true, s) else .ok (false, em (if row = true then 1 else vsz sl) s) := by
  unfold tNamed
  rw [if_neg h30, ← hs, ← hr]
  refine if_neg ?_
  rintro (⟨rfl, h2⟩ | h)
  · rcases hg with hg | hg
    · cases hg
    · exact hg h2
  · exact h hb
/-- the reference looks a name up: what follows -/
theorem rLook {r5 r8 : Int32} (h5 : Q_m_isSign v (v.1 0 47 + 1) 91 r5) (h8 : Q_m_local v (v.1 0 47) r8) (J : JM n K e v) (l5 : (v.1 0 47).toInt ≤ 1500) (hk : kd e (aR g K v) = 2) (h30 : (kb e (aR g K v)).toInt ≠ 30) :
    (decide (0 ≤ r8.toInt) = decide (0 ≤ fnd (pKn (aR g K v)) (vl e (aR g K v)))) ∧ (r5 = 0 ∨ r5 = 1) ∧ (r5.toInt ≠ 0 ↔ (kb e (aR g K v)).toInt = 34) := by
  have q := rKb (g := g) h5 J l5 (by rw [hk]; decide) (q := (91, 34)) (by decide) rfl
  refine ⟨by rw [rLocal (g := g) h8 J (rNT J hk), rVl J], q.2, q.1.trans ?_⟩
  exact ⟨fun w => by rw [w]; decide, fun w => Int32.toInt_inj.mp (w.trans (by decide))⟩
theorem r26 (J : JM n K e v) {k : Int32} (h0 : 0 ≤ k.toInt) (h1 : k.toInt < (v.1 0 27).toInt) : (v.1 26 k.toNatClampNeg).toInt ≠ 0 ↔ v.1 26 k.toNatClampNeg = 1 := by
  rcases (J.2.2.2.2.2.1 k.toNatClampNeg (by have := natI h0; omega)).2 with q | q
  · rw [q]; decide
  · rw [q]; decide
theorem fl_er (J : JM n K e v) : (Except.error (3, pl e (aR g K v)) : PX (Bool × PS)) = .error ((wA (wA v 0 50 (3 : Int32)) 0 51 ((v.1 7) (v.1 0 47).toNatClampNeg)).1 0 50, (wA (wA v 0 50 (3 : Int32)) 0 51 ((v.1 7) (v.1 0 47).toNatClampNeg)).1 0 51) := by rw [rPl J]; rfl
set_option maxHeartbeats 800000 in
theorem rNamed0 (hE : HME n K c E) (h : Q_m_named0 c v t u) (J : JM n K e v) (og : OGM g v) (hk : kd e (aR g K v) = 2) (h30 : (kb e (aR g K v)).toInt ≠ 30) : OKP g n K e (tNamed E false e) v t u := by
  obtain ⟨z47, -, -, -, -, -, -, -, -, -, r5, h5, -, r8, h8, -, h⟩ := h
  have L := rLook (g := g) h5 h8 J z47.2 hk h30
  have hk2 : 2 ≤ (kd e (aR g K v)).toInt := by rw [hk]; decide
  unfold OKP
  have fetch : ∀ {sl : Bool} {q : Int32} {w : MS}, Q_m_fetch (wA v 0 47 (v.1 0 47 + 1)) r8 q w → JM n K e (wA v 0 47 (v.1 0 47 + 1)) → sl = decide (0 ≤ r8.toInt) → em (vsz sl) (aR g K (wA v 0 47 (v.1 0 47 + 1))) = aR g K w ∧ JM n K e w := by
    intro sl q w hf J1 hs
    obtain ⟨cc, e1, q1⟩ := rFetch hf
    rw [e1.a, q1, hs]
    exact ⟨rfl, e1.j J1⟩
  rcases h with ⟨c8, -, -, h⟩ | ⟨c8, r48, h48, -, -, h⟩
  · have hs : true = decide (0 ≤ fnd (pKn (aR g K v)) (vl e (aR g K v))) := by rw [← L.1]; exact (decide_eq_true c8).symm
    have hr : false = decide ((if true = true then none else gfd e (vl e (aR g K v))) = some (1 : Int32)) := (decide_eq_false (by rw [if_pos rfl]; exact fun q => (nomatch q))).symm
    rcases h with ⟨c5, h⟩ | ⟨c5, rfl, rfl⟩
    · have hb : false = decide ((kb e (aR g K v)).toInt = 34) := (decide_eq_false (fun q => L.2.2.mpr q c5)).symm
      rw [nm_ok (E := E) (st := false) h30 hs (Or.inl rfl) hr hb]
      rcases h with ⟨u9, h1, rfl, rfl⟩ | ⟨h1, -, -, -, u28, h28, -, rfl, rfl⟩
      · exact Or.inr ⟨rfl, by rw [(rTake (g := g) h1 J hk2).er, bd_er]⟩
      · have a := rTake (g := g) h1 J hk2
        have F := fetch (sl := true) h28 a.jj (decide_eq_true c8).symm
        rw [a.eo, bd_ok, if_neg (by decide), bd_ok, if_neg (fun q => (nomatch q.1)), if_neg (by decide), F.1]
        exact Or.inl ⟨rfl, rfl, F.2⟩
    · rw [nm_er (E := E) (st := false) h30 hs (Or.inr (by rw [← hr, decide_eq_true (L.2.2.mp c5)]; decide)), fl_er J]
      exact Or.inr ⟨rfl, rfl⟩
  · have hs : false = decide (0 ≤ fnd (pKn (aR g K v)) (vl e (aR g K v))) := by rw [← L.1]; exact (decide_eq_false (by omega)).symm
    have G := rGlobal h48 J (rNT J hk)
    rw [← rVl (g := g) J] at G
    rcases h with ⟨c48, rfl, rfl⟩ | ⟨c48, -, h⟩
    · rw [nm_er (E := E) (st := false) h30 hs (Or.inl ⟨rfl, by
        rcases G with ⟨-, q⟩ | ⟨q, -⟩
        · exact q
        · omega⟩), fl_er J]
      exact Or.inr ⟨rfl, rfl⟩
    obtain ⟨g1, g2⟩ : r48.toInt < (v.1 0 27).toInt ∧ gfd e (vl e (aR g K v)) = some (v.1 26 r48.toNatClampNeg) := by
      rcases G with ⟨q, -⟩ | ⟨-, q⟩
      · omega
      · exact q
    have z26 := r26 J c48 g1
    have hg : false = true ∨ gfd e (vl e (aR g K v)) ≠ none := Or.inr (by rw [g2]; exact fun q => (nomatch q))
    rcases h with ⟨c26, h⟩ | ⟨c26, h⟩
    · have hr : false = decide ((if false = true then none else gfd e (vl e (aR g K v))) = some (1 : Int32)) := (decide_eq_false (by rw [if_neg (by decide), g2]; exact fun q => (z26.mpr (Option.some.inj q)) c26)).symm
      rcases h with ⟨c5, h⟩ | ⟨c5, rfl, rfl⟩
      · have hb : false = decide ((kb e (aR g K v)).toInt = 34) := (decide_eq_false (fun q => L.2.2.mpr q c5)).symm
        rw [nm_ok (E := E) (st := false) h30 hs hg hr hb]
        rcases h with ⟨u9, h1, rfl, rfl⟩ | ⟨h1, -, -, -, u28, h28, -, rfl, rfl⟩
        · exact Or.inr ⟨rfl, by rw [(rTake (g := g) h1 J hk2).er, bd_er]⟩
        · have a := rTake (g := g) h1 J hk2
          have F := fetch (sl := false) h28 a.jj (decide_eq_false (by omega)).symm
          rw [a.eo, bd_ok, if_neg (by decide), bd_ok, if_neg (fun q => (nomatch q.1)), if_neg (by decide), F.1]
          exact Or.inl ⟨rfl, rfl, F.2⟩
      · rw [nm_er (E := E) (st := false) h30 hs (Or.inr (by rw [← hr, decide_eq_true (L.2.2.mp c5)]; decide)), fl_er J]
        exact Or.inr ⟨rfl, rfl⟩
    · have hr : true = decide ((if false = true then none else gfd e (vl e (aR g K v))) = some (1 : Int32)) := (decide_eq_true (by rw [if_neg (by decide), g2, z26.mp c26])).symm
      rcases h with ⟨c5, h⟩ | ⟨c5, rfl, rfl⟩
      · have q34 : (kb e (aR g K v)).toInt = 34 := L.2.2.mp (by rw [c5]; decide)
        have hb : true = decide ((kb e (aR g K v)).toInt = 34) := (decide_eq_true q34).symm
        rw [nm_ok (E := E) (st := false) h30 hs hg hr hb]
        rcases h with ⟨u9, h1, rfl, rfl⟩ | ⟨h1, -, -, h⟩
        · exact Or.inr ⟨rfl, by rw [(rTake (g := g) h1 J hk2).er, bd_er]⟩
        have a := rTake (g := g) h1 J hk2
        rw [a.eo, bd_ok, if_pos rfl]
        have k34 : (kd e (aR g K (wA v 0 47 (v.1 0 47 + 1)))).toInt = 34 := q34
        have og1 : OGM g (wA v 0 47 (v.1 0 47 + 1)) := og.of rfl
        rcases h with ⟨u9, h2, rfl, rfl⟩ | ⟨u102, h2, -, -, r112, -, u118, -, k118, rfl, rfl⟩
        · exact Or.inr ⟨rfl, by rw [(rIndex (g := g) hE h2 a.jj og1 k34).er, bd_er]⟩
        · have b := rIndex (g := g) hE h2 a.jj og1 k34
          have e1 : EMS 1 u102 u118 := (EMS.o1 (EMS.wa EMS.rf (by decide)) rfl).tr (mFix k118)
          have e2 : EMS 1 u102 (wA (wA (wA u118 13 ((u118.1 0 15).toNatClampNeg) (6 : Int32)) 14 ((u118.1 0 15).toNatClampNeg) (0 : Int32)) 0 15 ((u118.1 0 15) + (1 : Int32))) := EMS.w0 (EMS.wa (EMS.wa e1 (by decide)) (by decide)) (by decide)
          rw [b.eo, bd_ok, if_neg (fun q => (nomatch q.1)), if_pos rfl, e2.a]
          exact Or.inl ⟨rfl, rfl, e2.j b.jj⟩
      · have ne : ¬ (kb e (aR g K v)).toInt = 34 := fun q => by
          have := L.2.2.mpr q
          rcases L.2.1 with w | w
          · rw [w] at this; exact this (by decide)
          · exact c5 (by rw [w]; decide)
        rw [nm_er (E := E) (st := false) h30 hs (Or.inr (by rw [← hr, decide_eq_false ne]; decide)), fl_er J]
        exact Or.inr ⟨rfl, rfl⟩
end MNA
