/-! the reference: expressions at every level -/
theorem bd_inv {α β : Type} {x : PX α} {f : α → PX β} {b : β} (h : bd x f = .ok b) : ∃ a, x = .ok a ∧ f a = .ok b := by
  cases x with
  | ok a => exact ⟨a, rfl, h⟩
  | error k => cases h
theorem ite_er {α : Type} {c : Prop} [Decidable c] {k : Flt} {y : PX α} {q : α} (h : (if c then .error k else y) = .ok q) : y = .ok q := by
  by_cases hc : c
  · rw [if_pos hc] at h
    cases h
  · rw [if_neg hc] at h
    exact h
theorem nm_f {E : FE} {e : PE} {s : PS} {q : Bool × PS} (h : tNamed E false e s = .ok q) : q.1 = false := by
  unfold tNamed at h
  by_cases a : (kb e s).toInt = 30
  · rw [if_pos a] at h
    obtain ⟨s1, -, h⟩ := bd_inv (ite_er h)
    injection h with h
    rw [← h]
  · rw [if_neg a] at h
    obtain ⟨s1, -, h⟩ := bd_inv (ite_er h)
    obtain ⟨s2, -, h⟩ := bd_inv h
    rw [if_neg (fun w => (nomatch w.1))] at h
    injection h with h
    rw [← h]
theorem op_f {E : FE} {O : FO} {e : PE} {s : PS} {q : Bool × PS} (h : tOperand E O false e s = .ok q) : q.1 = false := by
  unfold tOperand at h
  split at h
  · obtain ⟨s1, -, h⟩ := bd_inv h
    obtain ⟨s2, -, h⟩ := bd_inv h
    injection h with h
    rw [← h]
  split at h
  · obtain ⟨s1, -, h⟩ := bd_inv h
    injection h with h
    rw [← h]
  split at h
  · cases h
  split at h
  · obtain ⟨s1, -, h⟩ := bd_inv h
    obtain ⟨s2, -, h⟩ := bd_inv h
    obtain ⟨s3, -, h⟩ := bd_inv h
    obtain ⟨s4, -, h⟩ := bd_inv h
    injection h with h
    rw [← h]
  split at h
  · obtain ⟨s1, -, h⟩ := bd_inv h
    obtain ⟨s2, -, h⟩ := bd_inv h
    obtain ⟨s3, -, h⟩ := bd_inv h
    injection h with h
    rw [← h]
  split at h
  · exact nm_f h
  · unfold tBad at h
    cases h
def HC0 (n : Int) (K : TK) (c : RM2) (F : PE → PS → PX PS) : Prop := ∀ (g : GM) (e : PE) (v : MS) (t : Bool) (u : MS), c v 0 t u → (t = false → K_m_choice v 0 u) → JM n K e v → OGM g v → OKR g n K e (F e) v t u
section MLV
variable {g : GM} {n : Int} {K : TK} {e : PE} {v u w x S : MS} {t st : Bool} {r pa pb na by9 : Int32} {c o : RM1} {c1 c2 : RM2} {c3 : RM3} {E : FE} {O : FO} {f : Nat} {m : Int}
set_option maxHeartbeats 800000 in
theorem rJoined (hO : HMO n K o O) (hJ : HMJ n K c3 O) (h : Q_m_joined o c3 v pa pb t u) (J : JM n K e v) (og : OGM g v) (hf : (1501 : Int) ≤ f + (v.1 0 47).toInt) : (pb.toInt ≠ 0 → OKR g n K e (tJ O f pa.toInt e) v t u) ∧ (pb.toInt = 0 → OKR g n K e (fun s => bd (O false e s) fun q => tJ O f pa.toInt e q.2) v t u) := by
  obtain ⟨-, -, -, -, -, -, -, -, -, -, h⟩ := h
  rcases h with ⟨cb, r6, h6, -, by9, w13, hr, -, -, h47, -, -, -, -, h39, -, -, h⟩ | ⟨cb, h⟩
  · refine ⟨fun _ => ?_, fun q => absurd q cb⟩
    have inv : JI n K e g O pa.toInt (tJ O f pa.toInt e (aR g K v)) (by9, w13) := by
      refine RT.ind (JI n K e g O pa.toInt (tJ O f pa.toInt e (aR g K v))) hr ⟨J, h6, f, rfl, hf⟩ ?_
      intro a y _ I hy
      obtain ⟨-, -, y47, -, -, -, -, y39, -, -, q1, q2, hy⟩ := hy
      exact jStep hJ I (og.le y39.1) y47.2 q1 q2 hy
    refine jEnd hJ inv (og.le h39.1) h47.2 ?_
    rcases h with h | ⟨q1, q2, h⟩
    · exact Or.inl h
    · exact Or.inr ⟨q1, q2, h⟩
  · refine ⟨fun q => absurd cb q, fun _ => ?_⟩
    unfold OKR OKG
    show (t = false ∧ bd (O false e (aR g K v)) _ = _ ∧ _) ∨ (t = true ∧ bd (O false e (aR g K v)) _ = _)
    rcases h with ⟨u9, h1, rfl, rfl⟩ | ⟨u133, h1, k1, r139, h6, -, by9, w13, hr, -, -, h47, -, -, -, -, h39, -, -, h⟩
    · exact Or.inr ⟨rfl, by rw [(hO g e _ _ _ h1 nom J og).er, bd_er]⟩
    have a1 := hO g e _ _ _ h1 (fun _ => k1) J og
    rw [a1.eo, bd_ok]
    have p47 := k1.2.1.1
    have inv : JI n K e g O pa.toInt (tJ O f pa.toInt e (aR g K u133)) (by9, w13) := by
      refine RT.ind (JI n K e g O pa.toInt (tJ O f pa.toInt e (aR g K u133))) hr ⟨a1.jj, h6, f, rfl, by show (1501 : Int) ≤ f + (u133.1 0 47).toInt; omega⟩ ?_
      intro a y _ I hy
      obtain ⟨-, -, y47, -, -, -, -, y39, -, -, q1, q2, hy⟩ := hy
      exact jStep hJ I (og.le y39.1) y47.2 q1 q2 hy
    refine jEnd hJ inv (og.le h39.1) h47.2 ?_
    rcases h with h | ⟨q1, q2, h⟩
    · exact Or.inl h
    · exact Or.inr ⟨q1, q2, h⟩
set_option maxHeartbeats 800000 in
theorem rQuest (hE : HME n K c E) (hC : HC0 n K c1 (E false)) {u3 : MS} (J : JM n K e u3) (og : OGM g u3) {r8 : Int32} (h8 : Q_m_is u3 63 r8) (h : (r8.toInt ≠ 0 ∧ ((∃ u9, Q_m_opens u3 true u9 ∧ t = true ∧ u = u9) ∨ (Q_m_opens u3 false (wA (wA u3 0 47 ((u3.1 0 47) + (1 : Int32))) 0 48 ((u3.1 0 48) + (1 : Int32))) ∧ ∃ u32, EMS 2 (wA (wA u3 0 47 ((u3.1 0 47) + (1 : Int32))) 0 48 ((u3.1 0 48) + (1 : Int32))) u32 ∧ ((∃ u9, c u32 true u9 ∧ t = true ∧ u = u9) ∨ (∃ u50, c u32 false u50 ∧ K_m_expression u32 u50 ∧ ((∃ u9, Q_m_need u50 58 true u9 ∧ t = true ∧ u = u9) ∨ (Q_m_need u50 58 false (wA u50 0 47 ((u50.1 0 47) + (1 : Int32))) ∧ ∃ w2, EMS 1 (wA u50 0 47 ((u50.1 0 47) + (1 : Int32))) w2 ∧ ((∃ u9, c1 w2 0 true u9 ∧ t = true ∧ u = u9) ∨ (∃ u91, c1 w2 0 false u91 ∧ K_m_choice w2 0 u91 ∧ ∃ w3, EMS 0 u91 w3 ∧ t = false ∧ u = wA w3 0 48 ((u91.1 0 48) - (1 : Int32))))))))))) ∨ (r8.toInt = 0 ∧ t = false ∧ u = u3)) : OKR g n K e (tQuest E e) u3 t u := by
  have i8 := rIs (g := g) h8 J (q := (63, 38)) (by decide) rfl
  have e38 : kd e (aR g K u3) = 38 ↔ (kd e (aR g K u3)).toInt = 38 := ⟨fun q => by rw [q]; decide, fun q => Int32.toInt_inj.mp (q.trans (by decide))⟩
  unfold OKR OKG tQuest
  rcases h with ⟨c8, h⟩ | ⟨c8, rfl, rfl⟩
  · have k38 := e38.mp (i8.mp c8)
    rw [if_pos k38]
    rcases h with ⟨u9, h1, rfl, rfl⟩ | ⟨h1, u32, e1, h⟩
    · exact Or.inr ⟨rfl, by rw [(rOpens (g := g) h1 J (by omega)).er, bd_er]⟩
    have a1 := rOpens (g := g) h1 J (by omega)
    rw [a1.eo, bd_ok, show em 2 (aR g K (wA (wA u3 0 47 ((u3.1 0 47) + (1 : Int32))) 0 48 ((u3.1 0 48) + (1 : Int32)))) = aR g K u32 from e1.a.symm]
    have og1 : OGM g u32 := og.of (e1.2.2.1 39 (by decide))
    rcases h with ⟨u9, h2, rfl, rfl⟩ | ⟨u50, h2, k2, h⟩
    · exact Or.inr ⟨rfl, by rw [(hE g e _ _ _ h2 nom (e1.j a1.jj) og1).er, bd_er]⟩
    have a2 := hE g e _ _ _ h2 (fun _ => k2) (e1.j a1.jj) og1
    rw [a2.eo, bd_ok]
    rcases h with ⟨u9, h3, rfl, rfl⟩ | ⟨h3, w2, e3, h⟩
    · exact Or.inr ⟨rfl, by rw [(rNeed (g := g) (q := (58, 39)) (m := 39) h3 a2.jj (by decide) rfl (by decide)).er, bd_er]⟩
    have a3 := rNeed (g := g) (q := (58, 39)) (m := 39) h3 a2.jj (by decide) rfl (by decide)
    rw [a3.eo, bd_ok, show em 1 (aR g K (wA u50 0 47 ((u50.1 0 47) + (1 : Int32)))) = aR g K w2 from e3.a.symm]
    have og3 : OGM g w2 := (og1.le k2.2.2.2.2.2.2.1.1).of (e3.2.2.1 39 (by decide))
    rcases h with ⟨u9, h4, rfl, rfl⟩ | ⟨u91, h4, k4, w3, e4, rfl, rfl⟩
    · exact Or.inr ⟨rfl, by rw [(hC g e _ _ _ h4 nom (e3.j a3.jj) og3).er, bd_er]⟩
    · have a4 := hC g e _ _ _ h4 (fun _ => k4) (e3.j a3.jj) og3
      rw [a4.eo, bd_ok]
      refine Or.inl ⟨rfl, ?_, (e4.j a4.jj).w (by decide)⟩
      have q : aR g K w3 = aR g K u91 := by
        rw [e4.a]
        exact em_0
      have q48 : u91.1 0 48 = w3.1 0 48 := (e4.2.2.1 48 (by decide)).symm
      rw [q48, aR_cl, q]
  · rw [if_neg (fun q => i8.mpr (e38.mpr q) c8)]
    exact Or.inl ⟨rfl, rfl, J⟩
set_option maxHeartbeats 800000 in
theorem rChoice {cJ : RM3} (hE : HME n K c E) (hC : HC0 n K c1 (E false)) (hJ : ∀ (g : GM) (e : PE) (v : MS) (pa pb : Int32) (t : Bool) (u : MS) (f : Nat), cJ v pa pb t u → JM n K e v → OGM g v → (1501 : Int) ≤ f + (v.1 0 47).toInt → (pb.toInt ≠ 0 → OKR g n K e (tJ O f pa.toInt e) v t u) ∧ (pb.toInt = 0 → OKR g n K e (fun s => bd (O false e s) fun q => tJ O f pa.toInt e q.2) v t u)) (hOf : ∀ e s q, O false e s = .ok q → q.1 = false) (h : Q_m_choice c c1 cJ v pa t u) (J : JM n K e v) (og : OGM g v) : (pa = 1 → OKR g n K e (fun s => bd (tJ O 1502 1 e s) (tQuest E e)) v t u) ∧ (pa = 0 → OKR g n K e (tExpr E O false e) v t u) := by
  obtain ⟨-, -, -, -, -, -, -, -, -, -, h⟩ := h
  have J4 := J.2.2.2.1
  have A : ∀ {t : Bool} {u : MS}, cJ v 1 pa t u → (pa.toInt ≠ 0 → OKR g n K e (tJ O 1502 1 e) v t u) ∧ (pa.toInt = 0 → OKR g n K e (fun s => bd (O false e s) fun q => tJ O 1502 1 e q.2) v t u) := fun hc => hJ g e v 1 pa _ _ 1502 hc J og (by omega)
  -- the rest, behind a state
  have rest : ∀ {F : PS → PX PS}, (∀ {t : Bool} {u : MS}, cJ v 1 pa t u → OKR g n K e F v t u) → OKR g n K e (fun s => bd (F s) (tQuest E e)) v t u := by
    intro F hF
    unfold OKR OKG
    show (t = false ∧ bd (F (aR g K v)) (tQuest E e) = _ ∧ _) ∨ (t = true ∧ bd (F (aR g K v)) (tQuest E e) = _)
    rcases h with ⟨u9, h1, rfl, rfl⟩ | ⟨u3, h1, k1, r8, h8, -, h⟩
    · exact Or.inr ⟨rfl, by rw [(hF h1).er, bd_er]⟩
    have a1 := hF h1
    rw [a1.eo, bd_ok]
    have og3 : OGM g u3 := og.le k1.2.2.2.2.2.2.1.1
    refine rQuest hE hC a1.jj og3 h8 ?_
    rcases h with ⟨c8, h⟩ | h
    · refine Or.inl ⟨c8, ?_⟩
      rcases h with h | ⟨h2, -, r18, -, u32, hu32, h⟩
      · exact Or.inl h
      have e1 : EMS 2 (wA (wA u3 0 47 ((u3.1 0 47) + (1 : Int32))) 0 48 ((u3.1 0 48) + (1 : Int32))) u32 := by
        rw [hu32]
        exact EMS.w0 (EMS.wa (EMS.wa (EMS.o1 (EMS.wa (EMS.o1 (EMS.wa EMS.rf (by decide)) rfl) (by decide)) rfl) (by decide)) (by decide)) (by decide)
      refine Or.inr ⟨h2, u32, e1, ?_⟩
      rcases h with h | ⟨u50, h3, k3, h⟩
      · exact Or.inl h
      refine Or.inr ⟨u50, h3, k3, ?_⟩
      rcases h with h | ⟨h4, -, x71, -, u72, hu72, h⟩
      · exact Or.inl h
      have e2 : EMS 1 (wA u50 0 47 ((u50.1 0 47) + (1 : Int32))) (wA u72 14 ((u3.1 0 15).toNatClampNeg) (u72.1 0 15)) := by
        refine EMS.wa ?_ (by decide)
        rw [hu72]
        exact EMS.wa (EMS.w0 (EMS.wa (EMS.wa (EMS.o1 (EMS.wa EMS.rf (by decide)) rfl) (by decide)) (by decide)) (by decide)) (by decide)
      refine Or.inr ⟨h4, _, e2, ?_⟩
      rcases h with h | ⟨u91, h5, k5, x99, -, rfl, rfl⟩
      · exact Or.inl h
      · exact Or.inr ⟨u91, h5, k5, _, EMS.wa (EMS.wa EMS.rf (by decide)) (by decide), rfl, rfl⟩
    · exact Or.inr h
  refine ⟨fun q => rest (fun hc => (A hc).1 (by rw [q]; decide)), fun q => ?_⟩
  have R := rest (F := fun s => bd (O false e s) fun q => tJ O 1502 1 e q.2) (fun hc => (A hc).2 (by rw [q]; decide))
  refine OKR.cg (f' := fun s => bd (bd (O false e s) fun q => tJ O 1502 1 e q.2) (tQuest E e)) ?_ R
  show tExpr E O false e (aR g K v) = bd (bd (O false e (aR g K v)) fun q => tJ O 1502 1 e q.2) (tQuest E e)
  unfold tExpr
  rw [bd_as]
  cases X : O false e (aR g K v) with
  | error k => rfl
  | ok q =>
    rw [bd_ok, bd_ok, if_neg (by rw [hOf _ _ _ X]; decide)]
set_option maxHeartbeats 800000 in
theorem rExpr {O' : FO} (hE : HME n K c E) (hC : HMC n K c2 E (tOperand E O')) (h : Q_m_expression c c2 v t u) (J : JM n K e v) (og : OGM g v) : OKR g n K e (tExpr E (tOperand E O') true e) v t u := by
  obtain ⟨z47, -, -, -, -, -, -, -, -, -, h⟩ := h
  have e2 : kd e (aR g K v) = 2 ↔ v.1 6 (v.1 0 47).toNatClampNeg = 2 := by rw [rKd J]; exact kM_2 (rTV J)
  have same : ∀ (q : tOperand E O' true e (aR g K v) = tOperand E O' false e (aR g K v)), OKR g n K e (tExpr E (tOperand E O') false e) v t u → OKR g n K e (tExpr E (tOperand E O') true e) v t u := by
    intro q R
    refine OKR.cg (f' := tExpr E (tOperand E O') false e) ?_ R
    unfold tExpr
    rw [q]
  have ch : ((∃ u9, c2 v 0 true u9 ∧ t = true ∧ u = u9) ∨ (∃ u5, c2 v 0 false u5 ∧ K_m_choice v 0 u5 ∧ t = false ∧ u = u5)) → OKR g n K e (tExpr E (tOperand E O') false e) v t u := by
    rintro (⟨u9, h1, rfl, rfl⟩ | ⟨u5, h1, k1, rfl, rfl⟩)
    · exact (hC g e v 0 true u h1 nom J og).2 rfl
    · exact (hC g e v 0 false u h1 (fun _ => k1) J og).2 rfl
  rcases h with ⟨c2', h⟩ | ⟨c2', r12, h12, -, h⟩
  · have n2 : ¬ (kd e (aR g K v)).toInt = 2 := fun q => c2' (by rw [e2.mp (Int32.toInt_inj.mp (q.trans (by decide)))]; decide)
    refine same ?_ (ch h)
    unfold tOperand
    rw [if_neg n2, if_neg n2]
  · have k2 : kd e (aR g K v) = 2 := e2.mpr (Int32.toInt_inj.mp (c2'.trans (by decide)))
    have kb2 := (rKb (g := g) h12 J z47.2 (by rw [k2]; decide) (q := (40, 30)) (by decide) rfl).1
    have op : ∀ st, tOperand E O' st e (aR g K v) = tNamed E st e (aR g K v) := fun st => by
      unfold tOperand
      rw [k2]
      rfl
    rcases h with ⟨q12, h⟩ | ⟨q12, h⟩
    · have yb : (kb e (aR g K v)).toInt = 30 := by rw [kb2.mp q12]; decide
      refine same ?_ (ch h)
      rw [op, op]
      unfold tNamed
      rw [if_pos yb, if_pos yb]
    · have nb : (kb e (aR g K v)).toInt ≠ 30 := fun q => kb2.mpr (Int32.toInt_inj.mp (q.trans (by decide))) q12
      have R : OKR g n K e (fun s => bd (tNamed E true e s) (tGo E (tOperand E O') e)) v t u := by
        rcases h with ⟨u9, h1, rfl, rfl⟩ | ⟨u21, h1, -, rfl, rfl⟩
        · exact rNamed1 hE hC h1 J og k2 nb
        · exact rNamed1 hE hC h1 J og k2 nb
      refine OKR.cg (f' := fun s => bd (tNamed E true e s) (tGo E (tOperand E O') e)) ?_ R
      show tExpr E (tOperand E O') true e (aR g K v) = bd (tNamed E true e (aR g K v)) (tGo E (tOperand E O') e)
      unfold tExpr
      rw [op]
      rfl
set_option maxHeartbeats 800000 in
/-- a level over the one below -/
theorem rLevel {k : Nat} {E : FE} {O' : FO} (hE : HME n K (pME k) E) (hO' : HMO n K (pMO k) O') (hC : HC0 n K (pMC k) (E false)) : HMO n K (QMO k) (tOperand E O') ∧ HMC n K (QMC k) E (tOperand E O') ∧ HME n K (QME k) (tExpr E (tOperand E O')) := by
  have o : HMO n K (QMO k) (tOperand E O') := by
    intro g e v t u h _ J og
    rw [QMO_eq] at h
    exact rOperand hE hO' h J og
  have jj : ∀ i, HMJ n K (pMJ k i) (tOperand E O') := by
    intro i
    induction i with
    | zero => exact fun _ _ _ _ _ _ _ h => h.elim
    | succ i ih =>
      intro g e v pa t u f h _ J og hf
      have h : QMJ k i v pa 0 t u := h
      rw [QMJ_eq] at h
      exact (rJoined o ih h J og hf).2 (by decide)
  have c : HMC n K (QMC k) E (tOperand E O') := by
    intro g e v pa t u h _ J og
    rw [QMC_eq] at h
    refine rChoice hE hC ?_ (fun _ _ _ q => op_f q) h J og
    intro g e v pa pb t u f h J og hf
    rw [QMJ_eq] at h
    exact rJoined o (jj 10) h J og hf
  refine ⟨o, c, ?_⟩
  intro g e v t u h _ J og
  rw [QME_eq] at h
  exact rExpr hE c h J og
theorem mLev : ∀ k N : Nat, k ≤ N → HMO n K (QMO k) (tO N) ∧ HMC n K (QMC k) (qE N) (tO N) ∧ HME n K (QME k) (tE N) := by
  intro k
  induction k with
  | zero =>
    intro N _
    have r := rLevel (n := n) (K := K) (k := 0) (E := qE N) (O' := qO N) (fun _ _ _ _ _ h => h.elim) (fun _ _ _ _ _ h => h.elim) (fun _ _ _ _ _ h => h.elim)
    rw [tE_eq, tO_eq]
    exact r
  | succ k ih =>
    intro N h
    cases N with
    | zero => omega
    | succ N =>
      have i := ih N (by omega)
      have r := rLevel (n := n) (K := K) (k := k + 1) (E := qE (N + 1)) (O' := qO (N + 1)) i.2.2 i.1 (by
        intro g e v t u h kk J og
        have q := (i.2.1 g e v 0 t u h kk J og).2 rfl
        show OKR g n K e (tE N false e) v t u
        rw [tE_eq]
        exact q)
      rw [tE_eq, tO_eq]
      exact r
end MLV
