/-! the reference: index, changes -/
abbrev RM1 : Type := MS → Bool → MS → Prop
def OGM (g : GM) (v : MS) : Prop := ovM v = true ∨ ∀ c ∈ g.2, (c : Int) < (v.1 0 39).toInt
def HME (n : Int) (K : TK) (c : RM1) (E : FE) : Prop := ∀ (g : GM) (e : PE) (v : MS) (t : Bool) (u : MS), c v t u → (t = false → K_m_expression v u) → JM n K e v → OGM g v → OKR g n K e (E true e) v t u
section MST
variable {g : GM} {n : Int} {K : TK} {e : PE} {v u x : MS} {t : Bool} {r pa pb pc1 pd : Int32} {m : Int} {c : RM1} {E : FE} {f f' : PS → PX PS} {row sl plain : Bool}
theorem OGM.le (h : OGM g v) (k : (v.1 0 39).toInt ≤ (u.1 0 39).toInt) : OGM g u := h.imp (fun q => decide_eq_true (Int.le_trans (of_decide_eq_true q) k)) (fun w c hc => Int.lt_of_lt_of_le (w c hc) k)
theorem OGM.of (h : OGM g v) (k : u.1 0 39 = v.1 0 39) : OGM g u := h.le (by rw [k]; exact Int.le_refl _)
theorem OKR.cg (h : f (aR g K v) = f' (aR g K v)) (k : OKR g n K e f' v t u) : OKR g n K e f v t u := by
  unfold OKR OKG at k ⊢
  rw [h]
  exact k
theorem aR_pb {y : Int32} : aR g K (wA v 0 32 y) = sPb (aR g K v) y := rfl
theorem aR_cl : aR g K (wA v 0 48 (v.1 0 48 - 1)) = tClose (aR g K v) := rfl
theorem JG.w {i : Nat} {y : Int32} (J : JM n K e v) (hi : i ∉ [27, 30, 39, 47, 49]) : JM n K e (wA v 0 i y) := by
  have J4 := J.2.2.2.1
  have q : ∀ j ∈ [27, 30, 39, 47, 49], (wA v 0 i y).1 0 j = v.1 0 j := fun j hj => show upd (v.1 0) i y j = _ from updN_ (fun q => hi (by rw [← q]; exact hj))
  refine J.of rfl (fun a ha => if_neg (fun q => by rw [q] at ha; revert ha; decide)) (q 27 (by decide)) (q 30 (by decide)) ?_ (q 39 (by decide))
  rw [q 47 (by decide), q 49 (by decide)]
  exact ⟨J4.1, J4.2.1, J4.2.2.1⟩
theorem rOpenK {q : Int32 × Int32} (h : Q_m_open v pa t u) (J : JM n K e v) (hq : q ∈ SC) (hp : q.1 = pa) (hk : (kd e (aR g K v)).toInt = q.2.toInt) : OKR g n K e (tOpen e) v t u :=
  OKR.cg (f' := fun s => bd (tNeed q.2.toInt e s) (tOpen e)) (by unfold tNeed; rw [if_pos hk, bd_ok]) (rOpen h J hq hp rfl)
set_option maxHeartbeats 400000 in
theorem rIndex (hE : HME n K c E) (h : Q_m_index c v pa t u) (J : JM n K e v) (og : OGM g v) (hk : (kd e (aR g K v)).toInt = 34) : OKR g n K e (tIndex E e) v t u := by
  obtain ⟨-, -, -, -, -, -, -, -, -, -, -, h⟩ := h
  unfold OKR OKG tIndex
  have k34 : (kd e (aR g K v)).toInt = ((91, 34) : Int32 × Int32).2.toInt := hk.trans (by decide)
  rcases h with ⟨u9, h1, rfl, rfl⟩ | ⟨h1, k1, h⟩
  · exact Or.inr ⟨rfl, by rw [(rOpenK (g := g) h1 J (by decide) rfl k34).er, bd_er]⟩
  have a1 := rOpenK (g := g) h1 J (by decide) rfl k34
  rw [a1.eo, bd_ok]
  have og1 : OGM g (wA (wA v 0 47 (v.1 0 47 + 1)) 0 48 (v.1 0 48 + 1)) := og.of rfl
  rcases h with ⟨u9, h2, rfl, rfl⟩ | ⟨u10, h2, k2, h⟩
  · exact Or.inr ⟨rfl, by rw [(hE g e _ _ _ h2 nom a1.jj og1).er, bd_er]⟩
  have a2 := hE g e _ _ _ h2 (fun _ => k2) a1.jj og1
  rw [a2.eo, bd_ok]
  rcases h with ⟨u9, h3, rfl, rfl⟩ | ⟨h3, k3, r20, -, r23, -, r30, -, r33, -, r40, -, u45, hu45, r50, -, r62, -, r69, -, u74, hu74, u80, -, k80, r85, -, rfl, rfl⟩
  · have b := (rClose (g := g) (q := (93, 35)) (m := 35) h3 a2.jj (by decide) rfl (by decide)).er
    have b2 : (bd (bd (tExp 35 e (aR g K u10)) fun s => (.ok (tClose s) : PX PS)) fun s => (.ok (em 8 s) : PX PS)) = .error (u.1 0 50, u.1 0 51) := by rw [b, bd_er]
    rw [bd_as] at b2
    exact Or.inr ⟨rfl, b2⟩
  · have b := rClose (g := g) (q := (93, 35)) (m := 35) h3 a2.jj (by decide) rfl (by decide)
    have b2 : (bd (bd (tExp 35 e (aR g K u10)) fun s => (.ok (tClose s) : PX PS)) fun s => (.ok (em 8 s) : PX PS)) = .ok (em 8 (aR g K (wA (wA u10 0 47 (u10.1 0 47 + 1)) 0 48 (u10.1 0 48 - 1)))) := by rw [b.eo, bd_ok]
    rw [bd_as] at b2
    have e1 : EMS 3 (wA (wA u10 0 47 (u10.1 0 47 + 1)) 0 48 (u10.1 0 48 - 1)) u45 := by
      rw [hu45]
      exact EMS.o1 (EMS.wa (EMS.o1 (EMS.wa (EMS.o1 (EMS.wa EMS.rf (by decide)) rfl) (by decide)) rfl) (by decide)) rfl
    have e2 : EMS 4 u45 u74 := by
      rw [hu74]
      exact EMS.o1 (EMS.wa (EMS.o1 (EMS.wa (EMS.o1 (EMS.wa (EMS.o1 (EMS.wa EMS.rf (by decide)) rfl) (by decide)) rfl) (by decide)) rfl) (by decide)) rfl
    have e3 : EMS 8 (wA (wA u10 0 47 (u10.1 0 47 + 1)) 0 48 (u10.1 0 48 - 1)) (wA (wA (wA (wA (wA u80 11 ((u80.1 0 12).toNatClampNeg) r85) 0 12 ((u80.1 0 12) + (1 : Int32))) 13 ((u80.1 0 15).toNatClampNeg) (5 : Int32)) 14 ((u80.1 0 15).toNatClampNeg) pa) 0 15 ((u80.1 0 15) + (1 : Int32))) := ((e1.tr e2).tr (mFix k80)).tr (EMS.w0 (EMS.wa (EMS.wa (EMS.o1 (EMS.wa EMS.rf (by decide)) rfl) (by decide)) (by decide)) (by decide))
    exact Or.inl ⟨rfl, b2.trans (by rw [e3.a]; rfl), e3.j b.jj⟩
theorem sMu_id {s : PS} : sMu s (pMu s || false) (pDi s || false) = s := by
  rw [Bool.or_false, Bool.or_false]
  rfl
theorem rem_SC : ∀ y ∈ SC, (y.1 = 42 ↔ y.2 = 55) ∧ ((y.1 = 47 ∨ y.1 = 37) ↔ (y.2 = 56 ∨ y.2 = 57)) := by decide
theorem rRemK {k : Int32} (h : Q_m_remember v pd u) (J : JM n K e v) (hpd : (plain = true ∧ pd = 0) ∨ (plain = false ∧ ∃ y ∈ SC, y.1 = pd ∧ y.2 = k)) : aR g K u = (if plain = true then aR g K v else tRem k (aR g K v)) ∧ JM n K e u := by
  have a := rRem (g := g) h J
  refine ⟨?_, a.2⟩
  rw [a.1]
  rcases hpd with ⟨rfl, rfl⟩ | ⟨rfl, y, hy, rfl, rfl⟩
  · rw [if_pos rfl]
    exact sMu_id
  · rw [if_neg (by decide)]
    unfold tRem
    have s := rem_SC y hy
    rw [decide_eq_decide.mpr s.1, decide_eq_decide.mpr s.2]
theorem FG.q39 {fl al : List Nat} (h : FG fl al v u) (k : 39 ∉ fl) : u.1 0 39 = v.1 0 39 := h.2.1 39 k
set_option maxHeartbeats 800000 in
theorem rSetsC {nn : Int32} {u7 u14 : MS} (hE : HME n K c E) (J : JM n K e v) (og : OGM g v) (hpl : plain = decide ((kd e (aR g K v)).toInt = 42)) (hk2 : 2 ≤ (kd e (aR g K v)).toInt) (hn : nn = (if row = true then 1 else 0) + (if plain = true then 0 else 1)) (h1 : Q_m_slots v nn r u7) (k1 : K_m_slots v nn r u7) (h2 : Q_m_remember u7 pd u14) (k2 : K_m_remember u7 pd u14) (hpd : (plain = true ∧ pd = 0) ∨ (plain = false ∧ ∃ y ∈ SC, y.1 = pd ∧ y.2 = kd e (aR g K v) + 10))
    (h : (∃ u9, Q_m_opens u14 true u9 ∧ t = true ∧ u = u9) ∨ (Q_m_opens u14 false (wA (wA u14 0 47 ((u14.1 0 47) + (1 : Int32))) 0 48 ((u14.1 0 48) + (1 : Int32))) ∧ ∃ w1 c1, EMS c1 (wA (wA u14 0 47 ((u14.1 0 47) + (1 : Int32))) 0 48 ((u14.1 0 48) + (1 : Int32))) w1 ∧ Int32.ofNat c1 = tPre row sl plain ∧ ((∃ u9, c (wA w1 0 32 ((w1.1 0 32) + nn)) true u9 ∧ t = true ∧ u = u9) ∨ (∃ u78, c (wA w1 0 32 ((w1.1 0 32) + nn)) false u78 ∧ K_m_expression (wA w1 0 32 ((w1.1 0 32) + nn)) u78 ∧ ∃ w2 c2, EMS c2 (wA u78 0 32 ((u78.1 0 32) - nn)) w2 ∧ Int32.ofNat c2 = tPost row sl plain (kd e (aR g K v) + 10) ∧ t = false ∧ u = wA w2 0 48 ((w2.1 0 48) - (1 : Int32)))))) : OKR g n K e (tChange E row sl e) v t u := by
  have a1 := rSlots (g := g) (k := 0) h1 J
  have a2 := rRemK (g := g) (plain := plain) (k := kd e (aR g K v) + 10) h2 a1.2.1 hpd
  have p7 : pAt (aR g K u7) = pAt (aR g K v) := k1.1.2.1 47 (by decide)
  have p14 : pAt (aR g K u14) = pAt (aR g K v) := (k2.2.1 47 (by decide)).trans p7
  have kd14 : kd e (aR g K u14) = kd e (aR g K v) := by unfold kd; rw [p14]
  have hk14 : 2 ≤ (kd e (aR g K u14)).toInt := by rw [kd14]; exact hk2
  have g39 : u14.1 0 39 = v.1 0 39 := (FG.q39 k2 (by decide)).trans (FG.q39 k1.1 (by decide))
  unfold OKR OKG tChange
  show (t = false ∧ bd (tWant ((if row = true then 1 else 0) + (if decide ((kd e (aR g K v)).toInt = 42) = true then 0 else 1)) e (aR g K v)) _ = _ ∧ _) ∨ (t = true ∧ bd (tWant ((if row = true then 1 else 0) + (if decide ((kd e (aR g K v)).toInt = 42) = true then 0 else 1)) e (aR g K v)) _ = _)
  rw [← hpl, ← hn]
  unfold tWant
  by_cases l5 : (500 : Int) < (pKc (aR g K v) + pPb (aR g K v) + nn).toInt
  · rw [if_pos l5, bd_er]
    have q7 := (a1.2.2.2 l5).1
    have du : pDu (aR g K u14) = true := by
      rw [a2.1, q7]
      cases plain <;> rfl
    have bad : ∀ w : MS, tOpen e (aR g K u14) = .error (w.1 0 50, w.1 0 51) → (Except.error (5, pl e (aR g K v)) : PX PS) = .error (w.1 0 50, w.1 0 51) := fun w hw => by
      rw [← hw]
      unfold tOpen
      have pp : pl e (aR g K u14) = pl e (aR g K v) := by unfold pl; rw [p14]
      by_cases l4 : (40 : Int) ≤ (pOp (aR g K u14)).toInt
      · rw [if_pos l4, pp]
      · rw [if_neg l4]
        unfold tTake
        rw [if_pos (Or.inr du), bd_er, pp]
    rcases h with ⟨u9, h3, rfl, rfl⟩ | ⟨h3, -⟩
    · exact Or.inr ⟨rfl, bad u (rOpens (g := g) h3 a2.2 hk14).er⟩
    · have q := (rOpens (g := g) h3 a2.2 hk14).eo
      exfalso
      unfold tOpen at q
      by_cases l4 : (40 : Int) ≤ (pOp (aR g K u14)).toInt
      · rw [if_pos l4] at q
        cases q
      · rw [if_neg l4] at q
        unfold tTake at q
        rw [if_pos (Or.inr du), bd_er] at q
        cases q
  · rw [if_neg l5, bd_ok, ← (a1.2.2.1 (by omega)).1, ← a2.1]
    rcases h with ⟨u9, h3, rfl, rfl⟩ | ⟨h3, w1, c1, e1, q1, h⟩
    · exact Or.inr ⟨rfl, by rw [(rOpens (g := g) h3 a2.2 hk14).er, bd_er]⟩
    have a3 := rOpens (g := g) h3 a2.2 hk14
    rw [a3.eo, bd_ok]
    have ew : sPb (em (tPre row sl plain) (aR g K (wA (wA u14 0 47 ((u14.1 0 47) + (1 : Int32))) 0 48 ((u14.1 0 48) + (1 : Int32))))) (pPb (aR g K (wA (wA u14 0 47 ((u14.1 0 47) + (1 : Int32))) 0 48 ((u14.1 0 48) + (1 : Int32)))) + nn) = aR g K (wA w1 0 32 ((w1.1 0 32) + nn)) := by
      rw [aR_pb, e1.a, q1, show w1.1 0 32 = pPb (aR g K (wA (wA u14 0 47 ((u14.1 0 47) + (1 : Int32))) 0 48 ((u14.1 0 48) + (1 : Int32)))) from e1.2.2.1 32 (by decide)]
    rw [ew]
    have J1 : JM n K e (wA w1 0 32 ((w1.1 0 32) + nn)) := (e1.j a3.jj).w (by decide)
    have og1 : OGM g (wA w1 0 32 ((w1.1 0 32) + nn)) := og.of ((show w1.1 0 39 = u14.1 0 39 from e1.2.2.1 39 (by decide)).trans g39)
    rcases h with ⟨u9, h4, rfl, rfl⟩ | ⟨u78, h4, k4, w2, c2, e2, q2, rfl, rfl⟩
    · exact Or.inr ⟨rfl, by rw [(hE g e _ _ _ h4 nom J1 og1).er, bd_er]⟩
    · have a4 := hE g e _ _ _ h4 (fun _ => k4) J1 og1
      rw [a4.eo, bd_ok]
      refine Or.inl ⟨rfl, ?_, (e2.j (a4.jj.w (by decide))).w (by decide)⟩
      rw [aR_cl, e2.a, q2, aR_pb]
      rfl
set_option maxHeartbeats 800000 in
theorem rSets (hE : HME n K c E) (h : Q_m_sets c v pa pb pc1 pd t u) (J : JM n K e v) (og : OGM g v) (hk : (42 : Int) ≤ (kd e (aR g K v)).toInt ∧ (kd e (aR g K v)).toInt ≤ 52) (h0 : pd = 0 ↔ (kd e (aR g K v)).toInt = 42) (hy : pd ≠ 0 → ∃ y ∈ SC, y.1 = pd ∧ y.2 = kd e (aR g K v) + 10) (hrow : row = decide (pc1.toInt ≠ 0)) (hsl : sl = decide (0 ≤ pa.toInt)) : OKR g n K e (tChange E row sl e) v t u := by
  have z0 : ∀ a : Int32, a.toInt = 0 ↔ a = 0 := fun a => ⟨fun q => Int32.toInt_inj.mp (q.trans (by decide)), fun q => by rw [q]; decide⟩
  have op : pd ≠ 0 → Int32.ofNat (opc pd) = opz (kd e (aR g K v) + 10) := fun q => by
    obtain ⟨y, y1, y2, y3⟩ := hy q
    have q0 : ¬ (kd e (aR g K v)).toInt = 42 := fun w => q (h0.mpr w)
    have e10 : (kd e (aR g K v) + 10).toInt = (kd e (aR g K v)).toInt + 10 := add_z rfl (by decide) (by omega) (by omega)
    rw [← y2, ← y3]
    exact opc_SC y y1 (by rw [y3]; omega) (by rw [y3]; omega)
  obtain ⟨-, -, -, -, -, -, -, -, -, -, -, -, h⟩ := h
  have p0 : pd.toInt = 0 → (true = true ∧ pd = 0) ∨ (true = false ∧ ∃ y ∈ SC, y.1 = pd ∧ y.2 = kd e (aR g K v) + 10) := fun q => Or.inl ⟨rfl, (z0 pd).mp q⟩
  have p1 : pd.toInt ≠ 0 → (false = true ∧ pd = 0) ∨ (false = false ∧ ∃ y ∈ SC, y.1 = pd ∧ y.2 = kd e (aR g K v) + 10) := fun q => Or.inr ⟨rfl, hy (fun w => q ((z0 pd).mpr w))⟩
  have d0 : pd.toInt = 0 → true = decide ((kd e (aR g K v)).toInt = 42) := fun q => (decide_eq_true (h0.mp ((z0 pd).mp q))).symm
  have d1 : pd.toInt ≠ 0 → false = decide ((kd e (aR g K v)).toInt = 42) := fun q => (decide_eq_false (fun w => q ((z0 pd).mpr (h0.mpr w)))).symm
  rcases h with ⟨c1, ⟨c2, r8, u7, h1, k1, -, u14, h2, k2, h⟩ | ⟨c2, r8, u7, h1, k1, -, u14, h2, k2, h⟩⟩ | ⟨c1, ⟨c2, r8, u7, h1, k1, -, u14, h2, k2, h⟩ | ⟨c2, r8, u7, h1, k1, -, u14, h2, k2, h⟩⟩
  · have rw0 : row = false := by rw [hrow]; exact decide_eq_false (fun q => q c1)
    subst rw0
    refine rSetsC (plain := false) hE J og (d1 c2) (by omega) (by rfl) h1 k1 h2 k2 (p1 c2) ?_
    rcases h with h | ⟨h3, -, -, -, u42, h42, k42, -, r55, -, r58, -, h⟩
    · exact Or.inl h
    obtain ⟨cf, e1, q1⟩ := rFetch h42
    refine Or.inr ⟨h3, (wA (wA u42 11 ((u42.1 0 12).toNatClampNeg) r58) 0 12 ((u42.1 0 12) + (1 : Int32))), cf + 1, EMS.o1 (EMS.wa e1 (by decide)) rfl, ?_, ?_⟩
    · rw [Int32.ofNat_add, q1, ← hsl]
      show _ = (if false = true then 2 else 0) + _
      rw [if_neg (by decide), if_neg (by decide), Int32.zero_add, if_neg (by decide)]
      rfl
    · rcases h with h | ⟨u78, h4, k4, -, r88, -, r91, -, u97, h97, k97, -, u109, h109, k109, rfl, rfl⟩
      · exact Or.inl h
      · obtain ⟨cs, e3, q3⟩ := rStore h109
        refine Or.inr ⟨u78, h4, k4, u109, 1 + opc pd + cs, ((EMS.o1 (EMS.wa EMS.rf (by decide)) rfl).tr (rOper h97)).tr e3, ?_, rfl, rfl⟩
        rw [Int32.ofNat_add, Int32.ofNat_add, q3, op (fun w => c2 ((z0 pd).mpr w)), ← hsl]
        rfl
  · have rw0 : row = false := by rw [hrow]; exact decide_eq_false (fun q => q c1)
    subst rw0
    refine rSetsC (plain := true) hE J og (d0 c2) (by omega) (by rfl) h1 k1 h2 k2 (p0 c2) ?_
    rcases h with h | ⟨h3, -, -, -, -, h⟩
    · exact Or.inl h
    refine Or.inr ⟨h3, _, 0, EMS.rf, by rfl, ?_⟩
    rcases h with h | ⟨u78, h4, k4, -, -, u109, h109, k109, rfl, rfl⟩
    · exact Or.inl h
    · obtain ⟨cs, e3, q3⟩ := rStore h109
      refine Or.inr ⟨u78, h4, k4, u109, cs, e3, ?_, rfl, rfl⟩
      rw [q3, ← hsl]
      show _ = (if true = true then 0 else _) + (if false = true then 2 else vsz sl)
      rw [if_pos rfl, if_neg (by decide), Int32.zero_add]
  · have rw1 : row = true := by rw [hrow]; exact decide_eq_true c1
    subst rw1
    refine rSetsC (plain := false) hE J og (d1 c2) (by omega) (by rfl) h1 k1 h2 k2 (p1 c2) ?_
    rcases h with h | ⟨h3, -, -, r232, -, u242, -, k242, r247, -, r250, -, -, r261, -, -, u281, hu281, -, r289, -, r292, -, h⟩
    · exact Or.inl h
    have e1 : EMS 1 (wA (wA u14 0 47 ((u14.1 0 47) + (1 : Int32))) 0 48 ((u14.1 0 48) + (1 : Int32))) u242 := (EMS.o1 (EMS.wa EMS.rf (by decide)) rfl).tr (mFix k242)
    have e2 : EMS 2 u242 u281 := by
      rw [hu281]
      exact EMS.w0 (EMS.wa (EMS.wa (EMS.o1 (EMS.wa (EMS.o1 (EMS.wa EMS.rf (by decide)) rfl) (by decide)) rfl) (by decide)) (by decide)) (by decide)
    refine Or.inr ⟨h3, (wA (wA u281 11 ((u281.1 0 12).toNatClampNeg) r292) 0 12 ((u281.1 0 12) + (1 : Int32))), 4, EMS.o1 (EMS.wa (e1.tr e2) (by decide)) rfl, by rfl, ?_⟩
    rcases h with h | ⟨u325, h4, k4, -, r338, -, r341, -, u347, h347, k347, -, r359, -, r362, -, r369, -, u379, hu379, rfl, rfl⟩
    · exact Or.inl h
    · have e3 : EMS 2 u347 u379 := by
        rw [hu379]
        exact EMS.w0 (EMS.wa (EMS.wa (EMS.o1 (EMS.wa (EMS.o1 (EMS.wa EMS.rf (by decide)) rfl) (by decide)) rfl) (by decide)) (by decide)) (by decide)
      refine Or.inr ⟨u325, h4, k4, u379, 1 + opc pd + 2, ((EMS.o1 (EMS.wa EMS.rf (by decide)) rfl).tr (rOper h347)).tr e3, ?_, rfl, rfl⟩
      rw [Int32.ofNat_add, Int32.ofNat_add, op (fun w => c2 ((z0 pd).mpr w))]
      rfl
  · have rw1 : row = true := by rw [hrow]; exact decide_eq_true c1
    subst rw1
    refine rSetsC (plain := true) hE J og (d0 c2) (by omega) (by rfl) h1 k1 h2 k2 (p0 c2) ?_
    rcases h with h | ⟨h3, -, -, r422, -, u432, -, k432, r437, -, r440, -, -, -, -, h⟩
    · exact Or.inl h
    have e1 : EMS 1 (wA (wA u14 0 47 ((u14.1 0 47) + (1 : Int32))) 0 48 ((u14.1 0 48) + (1 : Int32))) u432 := (EMS.o1 (EMS.wa EMS.rf (by decide)) rfl).tr (mFix k432)
    refine Or.inr ⟨h3, (wA (wA u432 11 ((u432.1 0 12).toNatClampNeg) r440) 0 12 ((u432.1 0 12) + (1 : Int32))), 2, EMS.o1 (EMS.wa e1 (by decide)) rfl, by rfl, ?_⟩
    rcases h with h | ⟨u476, h4, k4, -, -, r491, -, r494, -, r501, -, u511, hu511, rfl, rfl⟩
    · exact Or.inl h
    · have e3 : EMS 2 (wA u476 0 32 ((u476.1 0 32) - (1 : Int32))) u511 := by
        rw [hu511]
        exact EMS.w0 (EMS.wa (EMS.wa (EMS.o1 (EMS.wa (EMS.o1 (EMS.wa EMS.rf (by decide)) rfl) (by decide)) rfl) (by decide)) (by decide)) (by decide)
      exact Or.inr ⟨u476, h4, k4, u511, 2, e3, by rfl, rfl, rfl⟩
end MST
