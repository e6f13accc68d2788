/-! the reference's orders: index, settings -/
/-- all that goes on from one state to the next -/
def OS (n : Int) (K : TK) (e : PE) (v u : MS) (a : List EV) : Prop := JM n K e u ∧ OA K v u a ∧ (u.1 29 = v.1 29 ∧ u.1 0 30 = v.1 0 30 ∧ u.1 0 32 = v.1 0 32)
def XMe (n : Int) (K : TK) (c : RM1) (E : EvE) : Prop := ∀ (e : PE) (v u : MS), c v false u → K_m_expression v u → JM n K e v → 0 ≤ (v.1 0 15).toInt → ∃ a, E true e (knM K v) (v.1 0 32) (v.1 0 47) = some (a, u.1 0 47) ∧ OS n K e v u a
def g00 : GM := (false, [])
theorem og00 {v : MS} : OGM g00 v := Or.inr (fun _ h => nomatch h)
section WCS
variable {n : Int} {K : TK} {e : PE} {v u w x y : MS} {a b pre post : List EV} {r pa pb pc1 pd : Int32} {c : RM1} {E : EvE} {Es : FE} {m : Int}
theorem OA.sm (h13 : u.1 13 = v.1 13) (h14 : u.1 14 = v.1 14) (h25 : u.1 25 = v.1 25) (h35 : u.1 35 = v.1 35) (h38 : u.1 38 = v.1 38) (h15 : u.1 0 15 = v.1 0 15) (h39 : u.1 0 39 = v.1 0 39) (h27 : u.1 0 27 = v.1 0 27) : OA K v u [] := OA.of0 ⟨⟨by rw [h15]; exact Int.le_refl _, fun _ _ => ⟨by rw [h13], by rw [h14]⟩⟩, ⟨by rw [h39]; exact Int.le_refl _, fun _ _ => ⟨by rw [h35], by rw [h38]⟩⟩, h27, h25⟩ h15 h39
theorem knM_of (h1 : u.1 29 = v.1 29) (h2 : u.1 0 30 = v.1 0 30) : knM K u = knM K v := by unfold knM; rw [h1, h2]
theorem mGix (h : Q_m_globalOf v pa r) (J : JM n K e v) (hp : NT n K pa) (h0 : 0 ≤ r.toInt) : r = nI (gix e (K.2.1 pa)) ∧ r.toInt < (v.1 0 27).toInt := by
  obtain ⟨-, z, k, hr, hk, h⟩ := h
  have J6 := J.2.2.2.2.2.1
  have nd := J.2.2.1
  have n0 : (((v.1 0 27).toNatClampNeg : Nat) : Int) = (v.1 0 27).toInt := natI z.1
  have gf : gix e (K.2.1 pa) = ((List.range (v.1 0 27).toNatClampNeg).map (fun k => (K.2.1 (v.1 23 k), v.1 26 k))).findIdx (fun g => g.1 == K.2.1 pa) := by
    rw [J.2.1]
    rfl
  rcases h with ⟨a, rfl⟩ | ⟨a, r7, h7, -, c7, rfl⟩
  · omega
  · have kn := natI a
    have e7 := (rNm J (J6 _ (by omega)).1 hp h7).mp c7
    refine ⟨?_, hk.2⟩
    rw [gf, fidx_s (p := fun g : Int32 × Int32 => g.1 == K.2.1 pa) (F := fun k => (K.2.1 (v.1 23 k), v.1 26 k)) (k := r.toNatClampNeg) (by
      show (K.2.1 (v.1 23 r.toNatClampNeg) == K.2.1 pa) = true
      rw [beq_iff_eq]
      exact e7) (fun j hj => beq_false_of_ne (fun w => nd j r.toNatClampNeg hj (by omega) (w.trans e7.symm))) _ (by omega)]
    exact Int32.toInt_inj.mp (by rw [nI_Z (by omega)]; omega)
/-- a token -/
theorem gTok_of (h : (e.1 (v.1 0 47)).toInt = m) : gTok e m (v.1 0 47) = some (v.1 0 47 + 1) := by unfold gTok; rw [if_pos h]
theorem oOpen {q : Int32 × Int32} (h : Q_m_open v pa false u) (J : JM n K e v) (hq : q ∈ SC) (hp : q.1 = pa) (hm : q.2.toInt = m) : JM n K e u ∧ (e.1 (v.1 0 47)).toInt = m := by
  have a := rOpen (g := g00) h J hq hp hm
  refine ⟨a.jj, ?_⟩
  have b := a.eo
  obtain ⟨s, b1, -⟩ := bd_inv b
  unfold tNeed at b1
  by_cases w : (kd e (aR g00 K v)).toInt = m
  · exact w
  · rw [if_neg w] at b1
    cases b1
theorem oClose {q : Int32 × Int32} (h : Q_m_close v pa false u) (J : JM n K e v) (hq : q ∈ SC) (hp : q.1 = pa) (hm : q.2.toInt = m) : JM n K e u ∧ (e.1 (v.1 0 47)).toInt = m := by
  have a := rClose (g := g00) h J hq hp hm
  refine ⟨a.jj, ?_⟩
  have b := a.eo
  obtain ⟨s, b1, -⟩ := bd_inv b
  obtain ⟨s2, b2, -⟩ := bd_inv b1
  unfold tNeed at b2
  by_cases w : (kd e (aR g00 K v)).toInt = m
  · exact w
  · rw [if_neg w] at b2
    cases b2
theorem oNeed {q : Int32 × Int32} (h : Q_m_need v pa false u) (J : JM n K e v) (hq : q ∈ SC) (hp : q.1 = pa) (hm : q.2.toInt = m) : JM n K e u ∧ (e.1 (v.1 0 47)).toInt = m := by
  have a := rNeed (g := g00) h J hq hp hm
  refine ⟨a.jj, ?_⟩
  have b := a.eo
  obtain ⟨s2, b2, -⟩ := bd_inv b
  unfold tNeed at b2
  by_cases w : (kd e (aR g00 K v)).toInt = m
  · exact w
  · rw [if_neg w] at b2
    cases b2
set_option maxHeartbeats 400000 in
theorem oIndex (hX : XMe n K c E) (hE : HME n K c Es) (h : Q_m_index c v pa false u) (J : JM n K e v) (hk : (e.1 (v.1 0 47)).toInt = 34) : ∃ a, gIndex E pa e (knM K v) (v.1 0 32) (v.1 0 47) = some (a, u.1 0 47) ∧ OS n K e v u a := by
  have JU := (rIndex (g := g00) hE h J og00 hk).jj
  obtain ⟨z1, z2, z3, z4, z5, z6, z15, z8, z9, z10, h⟩ := h
  obtain ⟨zz, h⟩ := h
  rcases h with ⟨u9, -, f, -⟩ | ⟨h1, k1, ⟨u9, -, f, -⟩ | ⟨u10, h2, k2, ⟨u9, -, f, -⟩ | ⟨h3, k3, r20, -, r23, -, r30, -, r33, -, r40, -, u45, hu45, r50, -, r62, -, r69, -, u74, hu74, u80, -, k80, r85, -, -, eu⟩⟩⟩
  · cases f
  · cases f
  · cases f
  have p0 := z15.1
  have O1 := oOpen (q := (91, 34)) (m := 34) h1 J (by decide) rfl (by decide)
  obtain ⟨a, x1, x2⟩ := hX e _ u10 h2 k2 O1.1 p0
  have C1 := oClose (q := (93, 35)) (m := 35) h3 x2.1 (by decide) rfl (by decide)
  have x1 : E true e (knM K v) (v.1 0 32) (v.1 0 47 + 1) = some (a, u10.1 0 47) := x1
  have A0 : OA K v (wA (wA v 0 47 ((v.1 0 47) + (1 : Int32))) 0 48 ((v.1 0 48) + (1 : Int32))) [] := OA.sm rfl rfl rfl rfl rfl rfl rfl rfl
  have A2 : OA K u10 u45 [] := by rw [hu45]; exact OA.sm rfl rfl rfl rfl rfl rfl rfl rfl
  have A3 : OA K u45 u74 [] := by rw [hu74]; exact OA.sm rfl rfl rfl rfl rfl rfl rfl rfl
  have B := ((((A0.tn x2.2.1 p0).nt A2 p0).nt A3 p0).nt (OA.fg k80.1) p0)
  have b15 := B.1
  have i10 := k2.2.2.2.2.1.2
  have i10 : (u10.1 0 15).toInt - 10 * (u10.1 0 47).toInt ≤ (v.1 0 15).toInt - 10 * ((v.1 0 47) + (1 : Int32)).toInt := i10
  have l80 : (u80.1 0 15).toInt ≤ 100000 := by
    have q1 : u80.1 0 15 = u10.1 0 15 := by
      rw [k80.1.2.1 15 (by decide), hu74]
      show u45.1 0 15 = _
      rw [hu45]
      rfl
    have q2 := k2.2.1.2
    have q3 := z1
    have q4 : ((v.1 0 47) + (1 : Int32)).toInt = (v.1 0 47).toInt + 1 := add_z rfl (by decide) (by omega) (by omega)
    rw [q1]
    omega
  have S : OA K u80 u [evx 7 pa 0] := by
    rw [eu]
    exact OA.say (o := 5) (z := pa) rfl rfl rfl ⟨by omega, l80⟩ rfl rfl ⟨rfl, rfl, rfl⟩ loE1 rfl (show upd (u80.1 14) _ pa _ = pa from updS)
  have T := B.tr S p0
  have e47 : u.1 0 47 = u10.1 0 47 + 1 := by
    rw [eu]
    show u80.1 0 47 = _
    rw [k80.1.2.1 47 (by decide), hu74]
    show u45.1 0 47 = _
    rw [hu45]
    rfl
  have k80f : ∀ j, j ∉ [43] → u80.1 0 j = u74.1 0 j := fun j hj => k80.1.2.1 j hj
  refine ⟨_, ?_, JU, T, ?_, ?_, ?_⟩
  · unfold gIndex
    rw [x1, Option.bind_some, gTok_of C1.2, Option.bind_some, e47]
  · rw [eu]
    show u80.1 29 = _
    rw [k80.1.2.2 29 (by decide), hu74]
    show u45.1 29 = _
    rw [hu45]
    show u10.1 29 = _
    exact x2.2.2.1
  · rw [eu]
    show u80.1 0 30 = _
    rw [k80f 30 (by decide), hu74]
    show u45.1 0 30 = _
    rw [hu45]
    show u10.1 0 30 = _
    exact x2.2.2.2.1
  · rw [eu]
    show u80.1 0 32 = _
    rw [k80f 32 (by decide), hu74]
    show u45.1 0 32 = _
    rw [hu45]
    show u10.1 0 32 = _
    exact x2.2.2.2.2
theorem oSetsC {nn : Int32} {u7 u14 w1 w2 u78 : MS} {c1 c2 : Nat} (hX : XMe n K c E) (J : JM n K e v) (hk2 : 2 ≤ (e.1 (v.1 0 47)).toInt) (z15 : 0 ≤ (v.1 0 15).toInt) (h1 : Q_m_slots v nn r u7) (k1 : K_m_slots v nn r u7) (h2 : Q_m_remember u7 pd u14) (k2 : K_m_remember u7 pd u14) (h3 : Q_m_opens u14 false (wA (wA u14 0 47 ((u14.1 0 47) + (1 : Int32))) 0 48 ((u14.1 0 48) + (1 : Int32)))) (e1 : EMS c1 (wA (wA u14 0 47 ((u14.1 0 47) + (1 : Int32))) 0 48 ((u14.1 0 48) + (1 : Int32))) w1) (A1 : OA K (wA (wA u14 0 47 ((u14.1 0 47) + (1 : Int32))) 0 48 ((u14.1 0 48) + (1 : Int32))) w1 pre) (h4 : c (wA w1 0 32 ((w1.1 0 32) + nn)) false u78) (k4 : K_m_expression (wA w1 0 32 ((w1.1 0 32) + nn)) u78) (e2 : EMS c2 (wA u78 0 32 ((u78.1 0 32) - nn)) w2) (A2 : OA K (wA u78 0 32 ((u78.1 0 32) - nn)) w2 post) (eu : u = wA w2 0 48 ((w2.1 0 48) - (1 : Int32))) : ∃ q, E true e (knM K v) (v.1 0 32 + nn) (v.1 0 47 + 1) = some (q, u.1 0 47) ∧ OS n K e v u (pre ++ q ++ post) := by
  have J7 := (rSlots (g := g00) (k := 0) h1 J).2.1
  have J14 := (rRem (g := g00) h2 J7).2
  have p14 : u14.1 0 47 = v.1 0 47 := (k2.2.1 47 (by decide)).trans (k1.1.2.1 47 (by decide))
  have J15 := (rOpens (g := g00) h3 J14 (by show 2 ≤ (e.1 (u14.1 0 47)).toInt; rw [p14]; exact hk2)).jj
  have J1 : JM n K e (wA w1 0 32 ((w1.1 0 32) + nn)) := (e1.j J15).w (by decide)
  have q29 : w1.1 29 = v.1 29 := by
    rw [e1.2.1 29 (by decide)]
    show u14.1 29 = _
    rw [k2.2.2 29 (by decide), k1.1.2.2 29 (by decide)]
  have q30 : w1.1 0 30 = v.1 0 30 := by
    rw [e1.2.2.1 30 (by decide)]
    show u14.1 0 30 = _
    rw [k2.2.1 30 (by decide), k1.1.2.1 30 (by decide)]
  have q32 : w1.1 0 32 = v.1 0 32 := by
    rw [e1.2.2.1 32 (by decide)]
    show u14.1 0 32 = _
    rw [k2.2.1 32 (by decide), k1.1.2.1 32 (by decide)]
  have q47 : w1.1 0 47 = v.1 0 47 + 1 := by
    rw [e1.2.2.1 47 (by decide)]
    show u14.1 0 47 + 1 = _
    rw [p14]
  have B0 : OA K v (wA (wA u14 0 47 ((u14.1 0 47) + (1 : Int32))) 0 48 ((u14.1 0 48) + (1 : Int32))) [] := ((OA.fg (K := K) k1.1).nt (OA.fg (K := K) k2) z15).nt (OA.sm rfl rfl rfl rfl rfl rfl rfl rfl) z15
  have B1 := (B0.tn A1 z15).nt (OA.w0 (K := K) (j := 32) (x9 := (w1.1 0 32) + nn)) z15
  have b1 := B1.1
  obtain ⟨q, x1, x2⟩ := hX e _ u78 h4 k4 J1 (by omega)
  have B2 := ((B1.tr x2.2.1 z15).nt (OA.w0 (K := K) (j := 32) (x9 := (u78.1 0 32) - nn)) z15).tr A2 z15
  have J2 : JM n K e w2 := e2.j (x2.1.w (by decide))
  have kn : knM K (wA w1 0 32 ((w1.1 0 32) + nn)) = knM K v := knM_of q29 q30
  refine ⟨q, ?_, by rw [eu]; exact J2.w (by decide), ?_, ?_, ?_, ?_⟩
  · rw [kn] at x1
    have x1 : E true e (knM K v) (w1.1 0 32 + nn) (w1.1 0 47) = some (q, u78.1 0 47) := x1
    rw [q32, q47] at x1
    rw [x1, eu]
    show _ = some (q, w2.1 0 47)
    rw [show w2.1 0 47 = u78.1 0 47 from e2.2.2.1 47 (by decide)]
  · rw [eu]
    exact B2.nt OA.w0 z15
  · rw [eu]
    show w2.1 29 = _
    rw [e2.2.1 29 (by decide)]
    show u78.1 29 = _
    rw [x2.2.2.1]
    exact q29
  · rw [eu]
    show w2.1 0 30 = _
    rw [e2.2.2.1 30 (by decide)]
    show u78.1 0 30 = _
    rw [x2.2.2.2.1]
    exact q30
  · rw [eu]
    show w2.1 0 32 = _
    rw [e2.2.2.1 32 (by decide)]
    show u78.1 0 32 - nn = _
    rw [x2.2.2.2.2]
    show w1.1 0 32 + nn - nn = _
    rw [q32, Int32.add_sub_cancel]
end WCS
