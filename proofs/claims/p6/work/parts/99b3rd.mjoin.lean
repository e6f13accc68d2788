/-! the reference: operators -/
abbrev RM3 : Type := MS → Int32 → Int32 → Bool → MS → Prop
/-- from a strength on, an operand first -/
def HMJ (n : Int) (K : TK) (c : RM3) (O : FO) : Prop := ∀ (g : GM) (e : PE) (v : MS) (pa : Int32) (t : Bool) (u : MS) (f : Nat), c v pa 0 t u → (t = false → K_m_joined v pa 0 u) → JM n K e v → OGM g v → (1501 : Int) ≤ f + (v.1 0 47).toInt → OKR g n K e (fun s => bd (O false e s) fun q => tJ O f pa.toInt e q.2) v t u
section MJN
variable {g : GM} {n : Int} {K : TK} {e : PE} {v u w x S : MS} {t st : Bool} {r pa pb na by9 : Int32} {c o : RM1} {c3 : RM3} {E : FE} {O : FO} {f : Nat} {m : Int}
def tOp (O : FO) (f : Nat) (e : PE) (s : PS) : PX PS := bd (tBegin (kd e s) e s) fun s1 => bd (tTake e s1) fun s2 => bd (bd (O false e s2) fun q => tJ O f ((stg (kd e s)).toInt + 1) e q.2) fun s3 => .ok (tEnd (kd e s) s3)
theorem tJ_op {s : PS} (h1 : ¬ ((stg (kd e s)).toInt < m ∨ (stg (kd e s)).toInt ≤ 0)) : tJ O (f + 1) m e s = bd (tOp O f e s) (tJ O f m e) := by
  show (if _ then _ else _) = _
  rw [if_neg h1]
  unfold tOp
  simp only [bd_as, bd_ok]
theorem stg_SC : ∀ z ∈ SC, (stg z.2 = 1 ↔ z.2 = 70) ∧ (stg z.2 = 2 ↔ z.2 = 69) ∧ (3 ≤ (stg z.2).toInt → z.2.toInt ≠ 69 ∧ z.2.toInt ≠ 70 ∧ 53 ≤ z.2.toInt ∧ z.2.toInt ≤ 68) ∧ (stg z.2).toInt ≤ 10 := by decide
theorem sg_of (h : Q_m_strength w r) (J : JM n K e w) (h0 : 0 < r.toInt) : ∃ z ∈ SC, (w.2 (w.1 0 47).toNatClampNeg).toInt32 = z.1 ∧ kd e (aR g K w) = z.2 ∧ r = stg z.2 := by
  rcases strF_of h with ⟨k5, q⟩ | ⟨k5, q⟩
  · obtain ⟨z, hz, -, q2, q3⟩ := rSg (g := g) J k5
    exact ⟨z, hz, q2, q3, by rw [q, q2, strF_SC z hz]⟩
  · rw [q] at h0
    exact absurd h0 (by decide)
theorem take_begin {k y : Int32} {s : PS} : tTake e (tRem k (sPb (em 1 s) y)) = bd (tTake e (tRem k s)) fun s' => .ok (sPb (em 1 s') y) := by
  show (if (1500 : Int) ≤ (pAt (em 1 s)).toInt ∨ pDu (em 1 s) = true then _ else _) = bd (if (1500 : Int) ≤ (pAt s).toInt ∨ pDu s = true then _ else _) _
  rw [pAt_em, pDu_em]
  by_cases q : (1500 : Int) ≤ (pAt s).toInt ∨ pDu s = true
  · rw [if_pos q, if_pos q]
    show Except.error (5, e.2.2.1 (pAt (em 1 s))) = _
    rw [pAt_em]
    rfl
  · rw [if_neg q, if_neg q, bd_ok]
    show Except.ok (sAt (sDu (tRem k (sPb (em 1 s) y)) false) (pAt (em 1 s) + 1)) = _
    rw [pAt_em]
    unfold em
    by_cases o : pOv s = true
    · rw [if_pos o, if_pos (show pOv (sAt (sDu (tRem k s) false) (pAt (tRem k s) + 1)) = true from o)]
      rfl
    · rw [if_neg o, if_neg (show ¬ pOv (sAt (sDu (tRem k s) false) (pAt (tRem k s) + 1)) = true from o)]
      rfl
set_option maxHeartbeats 800000 in
/-- a sign with a slot of its own -/
theorem jBin {u18 u22 : MS} {r19 : Int32} {z : Int32 × Int32} (hJ : HMJ n K c3 O) (J : JM n K e w) (og : OGM g w) (hz : z ∈ SC) (hv : (w.2 (w.1 0 47).toNatClampNeg).toInt32 = z.1) (hkd : kd e (aR g K w) = z.2) (h3 : 3 ≤ (stg z.2).toInt) (hby : by9 = stg z.2) (hf : (1501 : Int) ≤ f + (w.1 0 47).toInt + 1) (l5 : (w.1 0 47).toInt ≤ 1500) (h1 : Q_m_slots w 1 r19 u18) (k1 : K_m_slots w 1 r19 u18) (h2 : Q_m_remember u18 ((w.2 (w.1 0 47).toNatClampNeg).toInt32) u22) (k2 : K_m_remember u18 ((w.2 (w.1 0 47).toNatClampNeg).toInt32) u22)
    (h : (∃ u9, Q_m_take u22 true u9 ∧ t = true ∧ u = u9) ∨ (Q_m_take u22 false (wA u22 0 47 ((u22.1 0 47) + (1 : Int32))) ∧ ∃ r36, ((∃ u9, c3 (wA (wA (wA (wA u22 0 47 ((u22.1 0 47) + (1 : Int32))) 11 ((u22.1 0 12).toNatClampNeg) r36) 0 12 ((u22.1 0 12) + (1 : Int32))) 0 32 ((u22.1 0 32) + (1 : Int32))) (by9 + (1 : Int32)) 0 true u9 ∧ t = true ∧ u = u9) ∨ (∃ u65, c3 (wA (wA (wA (wA u22 0 47 ((u22.1 0 47) + (1 : Int32))) 11 ((u22.1 0 12).toNatClampNeg) r36) 0 12 ((u22.1 0 12) + (1 : Int32))) 0 32 ((u22.1 0 32) + (1 : Int32))) (by9 + (1 : Int32)) 0 false u65 ∧ K_m_joined (wA (wA (wA (wA u22 0 47 ((u22.1 0 47) + (1 : Int32))) 11 ((u22.1 0 12).toNatClampNeg) r36) 0 12 ((u22.1 0 12) + (1 : Int32))) 0 32 ((u22.1 0 32) + (1 : Int32))) (by9 + (1 : Int32)) 0 u65 ∧ ∃ r77, Q_m_operate (wA (wA (wA u65 0 32 ((u65.1 0 32) - (1 : Int32))) 11 ((u65.1 0 12).toNatClampNeg) r77) 0 12 ((u65.1 0 12) + (1 : Int32))) ((w.2 (w.1 0 47).toNatClampNeg).toInt32) u ∧ t = false)))) : OKR g n K e (tOp O f e) w t u := by
  have ss := stg_SC z hz
  have s3 := ss.2.2.1 h3
  have sg := (sgk_SC z hz).2
  have a1 := rSlots (g := g) (k := 0) h1 J
  have hpd : (false = true ∧ (w.2 (w.1 0 47).toNatClampNeg).toInt32 = 0) ∨ (false = false ∧ ∃ y ∈ SC, y.1 = (w.2 (w.1 0 47).toNatClampNeg).toInt32 ∧ y.2 = z.2) := Or.inr ⟨rfl, z, hz, hv.symm, rfl⟩
  have a2 := rRemK (g := g) (plain := false) (k := z.2) h2 a1.2.1 hpd
  rw [if_neg (by decide)] at a2
  have p22 : u22.1 0 47 = w.1 0 47 := (k2.2.1 47 (by decide)).trans (k1.1.2.1 47 (by decide))
  have g39 : u22.1 0 39 = w.1 0 39 := (FG.q39 k2 (by decide)).trans (FG.q39 k1.1 (by decide))
  have kd22 : kd e (aR g K u22) = kd e (aR g K w) := kd_aR p22
  have hk22 : 2 ≤ (kd e (aR g K u22)).toInt := by rw [kd22, hkd]; omega
  have T : tBegin (kd e (aR g K w)) e (aR g K w) = bd (tWant 1 e (aR g K w)) fun s => .ok (tRem z.2 (sPb (em 1 s) (pPb s + 1))) := by
    rw [hkd]
    unfold tBegin
    rw [if_neg s3.1, if_neg s3.2.1]
  unfold OKR OKG tOp
  rw [T, bd_as]
  unfold tWant
  by_cases l : (500 : Int) < (pKc (aR g K w) + pPb (aR g K w) + 1).toInt
  · rw [if_pos l, bd_er]
    have q7 := (a1.2.2.2 l).1
    have du : pDu (aR g K u22) = true := by
      rw [a2.1, q7]
      rfl
    have pp : pl e (aR g K u22) = pl e (aR g K w) := by unfold pl; rw [pAt_aR, pAt_aR, p22]
    have tk : tTake e (aR g K u22) = .error (5, pl e (aR g K w)) := by
      unfold tTake
      rw [if_pos (Or.inr du), pp]
    rcases h with ⟨u9, h3', rfl, rfl⟩ | ⟨h3', -⟩
    · have q := (rTake (g := g) h3' a2.2 hk22).er
      rw [tk] at q
      exact Or.inr ⟨rfl, by injection q with q; rw [q]⟩
    · have q := (rTake (g := g) h3' a2.2 hk22).eo
      rw [tk] at q
      cases q
  · rw [if_neg l, bd_ok, bd_ok, ← (a1.2.2.1 (by omega)).1, take_begin, ← a2.1, hkd]
    have pb22 : pPb (aR g K u18) = u22.1 0 32 := (k2.2.1 32 (by decide)).symm
    rcases h with ⟨u9, h3', rfl, rfl⟩ | ⟨h3', r36, h⟩
    · exact Or.inr ⟨rfl, by rw [(rTake (g := g) h3' a2.2 hk22).er, bd_er, bd_er]⟩
    have a3 := rTake (g := g) h3' a2.2 hk22
    rw [a3.eo, bd_ok, bd_ok]
    have e1 : EMS 1 (wA u22 0 47 ((u22.1 0 47) + (1 : Int32))) (wA (wA (wA u22 0 47 ((u22.1 0 47) + (1 : Int32))) 11 ((u22.1 0 12).toNatClampNeg) r36) 0 12 ((u22.1 0 12) + (1 : Int32))) := EMS.o1 (EMS.wa EMS.rf (by decide)) rfl
    have ea : sPb (em 1 (aR g K (wA u22 0 47 ((u22.1 0 47) + (1 : Int32))))) (pPb (aR g K u18) + 1) = aR g K (wA (wA (wA (wA u22 0 47 ((u22.1 0 47) + (1 : Int32))) 11 ((u22.1 0 12).toNatClampNeg) r36) 0 12 ((u22.1 0 12) + (1 : Int32))) 0 32 ((u22.1 0 32) + (1 : Int32))) := by
      rw [aR_pb, e1.a, pb22]
      rfl
    rw [ea]
    have J4 : JM n K e (wA (wA (wA (wA u22 0 47 ((u22.1 0 47) + (1 : Int32))) 11 ((u22.1 0 12).toNatClampNeg) r36) 0 12 ((u22.1 0 12) + (1 : Int32))) 0 32 ((u22.1 0 32) + (1 : Int32))) := (e1.j a3.jj).w (by decide)
    have og4 : OGM g (wA (wA (wA (wA u22 0 47 ((u22.1 0 47) + (1 : Int32))) 11 ((u22.1 0 12).toNatClampNeg) r36) 0 12 ((u22.1 0 12) + (1 : Int32))) 0 32 ((u22.1 0 32) + (1 : Int32))) := og.of g39
    have z0 := J.2.2.2.1.2.1
    have at4 : ((w.1 0 47) + (1 : Int32)).toInt = (w.1 0 47).toInt + 1 := add_z rfl (by decide) (by omega) (by omega)
    have hf4 : (1501 : Int) ≤ f + (((wA (wA (wA (wA u22 0 47 ((u22.1 0 47) + (1 : Int32))) 11 ((u22.1 0 12).toNatClampNeg) r36) 0 12 ((u22.1 0 12) + (1 : Int32))) 0 32 ((u22.1 0 32) + (1 : Int32))).1 0 47)).toInt := by
      show (1501 : Int) ≤ f + ((u22.1 0 47) + (1 : Int32)).toInt
      rw [p22, at4]
      omega
    have eb : (by9 + (1 : Int32)).toInt = (stg z.2).toInt + 1 := by
      rw [hby]
      exact add_z rfl (by decide) (by omega) (by have := ss.2.2.2; omega)
    have hJJ : ∀ {t : Bool} {u : MS}, c3 (wA (wA (wA (wA u22 0 47 ((u22.1 0 47) + (1 : Int32))) 11 ((u22.1 0 12).toNatClampNeg) r36) 0 12 ((u22.1 0 12) + (1 : Int32))) 0 32 ((u22.1 0 32) + (1 : Int32))) (by9 + (1 : Int32)) 0 t u → (t = false → K_m_joined (wA (wA (wA (wA u22 0 47 ((u22.1 0 47) + (1 : Int32))) 11 ((u22.1 0 12).toNatClampNeg) r36) 0 12 ((u22.1 0 12) + (1 : Int32))) 0 32 ((u22.1 0 32) + (1 : Int32))) (by9 + (1 : Int32)) 0 u) → OKR g n K e (fun s => bd (O false e s) fun q => tJ O f ((stg z.2).toInt + 1) e q.2) (wA (wA (wA (wA u22 0 47 ((u22.1 0 47) + (1 : Int32))) 11 ((u22.1 0 12).toNatClampNeg) r36) 0 12 ((u22.1 0 12) + (1 : Int32))) 0 32 ((u22.1 0 32) + (1 : Int32))) t u := by
      intro t u hc kc
      have q := hJ g e _ _ _ _ f hc kc J4 og4 hf4
      rw [eb] at q
      exact q
    rcases h with ⟨u9, h4, rfl, rfl⟩ | ⟨u65, h4, k4, r77, h5, rfl⟩
    · exact Or.inr ⟨rfl, by rw [(hJJ h4 nom).er, bd_er]⟩
    · have a4 := hJJ h4 (fun _ => k4)
      rw [a4.eo, bd_ok]
      have op := rOper h5
      have e5 : EMS 1 (wA u65 0 32 ((u65.1 0 32) - (1 : Int32))) (wA (wA (wA u65 0 32 ((u65.1 0 32) - (1 : Int32))) 11 ((u65.1 0 12).toNatClampNeg) r77) 0 12 ((u65.1 0 12) + (1 : Int32))) := EMS.o1 (EMS.wa EMS.rf (by decide)) rfl
      have e6 := e5.tr op
      refine Or.inl ⟨rfl, ?_, e6.j (a4.jj.w (by decide))⟩
      have oz : Int32.ofNat (1 + opc ((w.2 (w.1 0 47).toNatClampNeg).toInt32)) = 1 + opz z.2 := by
        rw [hv, Int32.ofNat_add, opc_SC z hz s3.2.2.1 s3.2.2.2]
        rfl
      rw [e6.a, oz, aR_pb]
      unfold tEnd
      rw [if_neg (by omega)]
      rfl
set_option maxHeartbeats 800000 in
/-- both, either -/
theorem jAnd {z : Int32 × Int32} {p : Int32} (hJ : HMJ n K c3 O) (J : JM n K e w) (og : OGM g w) (hz : z ∈ SC) (hkd : kd e (aR g K w) = z.2) (hp : (p = 0 ∧ z.2 = 69) ∨ (p = 1 ∧ z.2 = 70)) (hby : by9 = stg z.2) (hf : (1501 : Int) ≤ f + (w.1 0 47).toInt + 1) (l5 : (w.1 0 47).toInt ≤ 1500)
    (h : (∃ u9, Q_m_take w true u9 ∧ t = true ∧ u = u9) ∨ (Q_m_take w false (wA w 0 47 ((w.1 0 47) + (1 : Int32))) ∧ Q_m_both c3 (wA w 0 47 ((w.1 0 47) + (1 : Int32))) p (by9 + (1 : Int32)) t u)) : OKR g n K e (tOp O f e) w t u := by
  have ss := stg_SC z hz
  have sg := (sgk_SC z hz).2
  have hk2 : 2 ≤ (kd e (aR g K w)).toInt := by rw [hkd]; omega
  have T : tBegin (kd e (aR g K w)) e (aR g K w) = .ok (em (if p = 0 then 2 else 3) (aR g K w)) := by
    rw [hkd]
    unfold tBegin
    rcases hp with ⟨rfl, q⟩ | ⟨rfl, q⟩
    · rw [q]; rfl
    · rw [q]; rfl
  unfold OKR OKG tOp
  rw [T, bd_ok, take_em, hkd]
  rcases h with ⟨u9, h1, rfl, rfl⟩ | ⟨h1, h⟩
  · exact Or.inr ⟨rfl, by rw [(rTake (g := g) h1 J hk2).er, bd_er, bd_er]⟩
  have a1 := rTake (g := g) h1 J hk2
  rw [a1.eo, bd_ok, bd_ok]
  have z0 := J.2.2.2.1.2.1
  have at4 : ((w.1 0 47) + (1 : Int32)).toInt = (w.1 0 47).toInt + 1 := add_z rfl (by decide) (by omega) (by omega)
  have s12 : (stg z.2).toInt = 2 ∨ (stg z.2).toInt = 1 := by
    rcases hp with ⟨-, q⟩ | ⟨-, q⟩
    · exact Or.inl (by rw [q]; decide)
    · exact Or.inr (by rw [q]; decide)
  have eb : (by9 + (1 : Int32)).toInt = (stg z.2).toInt + 1 := by
    rw [hby]
    exact add_z rfl (by decide) (by omega) (by omega)
  have te : ∀ s : PS, tEnd z.2 s = em 1 s := fun s => by
    unfold tEnd
    rw [if_pos (by rcases hp with ⟨-, q⟩ | ⟨-, q⟩ <;> rw [q] <;> decide)]
  have main : ∀ {u22 : MS} {cc : Nat}, EMS cc (wA w 0 47 ((w.1 0 47) + (1 : Int32))) u22 → Int32.ofNat cc = (if p = 0 then 2 else 3) → ((∃ u9, c3 u22 (by9 + (1 : Int32)) 0 true u9 ∧ t = true ∧ u = u9) ∨ (∃ u36, c3 u22 (by9 + (1 : Int32)) 0 false u36 ∧ K_m_joined u22 (by9 + (1 : Int32)) 0 u36 ∧ EMS 1 u36 u ∧ t = false)) → ((t = false ∧ (bd (bd (O false e (em (if p = 0 then 2 else 3) (aR g K (wA w 0 47 ((w.1 0 47) + (1 : Int32)))))) fun q => tJ O f ((stg z.2).toInt + 1) e q.2) fun s3 => .ok (tEnd z.2 s3)) = .ok (aR g K u) ∧ JM n K e u) ∨ (t = true ∧ (bd (bd (O false e (em (if p = 0 then 2 else 3) (aR g K (wA w 0 47 ((w.1 0 47) + (1 : Int32)))))) fun q => tJ O f ((stg z.2).toInt + 1) e q.2) fun s3 => .ok (tEnd z.2 s3)) = .error (u.1 0 50, u.1 0 51))) := by
    intro u22 cc e1 q1 h
    have og4 : OGM g u22 := og.of (e1.2.2.1 39 (by decide))
    have hf4 : (1501 : Int) ≤ f + (u22.1 0 47).toInt := by
      rw [show u22.1 0 47 = (w.1 0 47) + (1 : Int32) from e1.2.2.1 47 (by decide), at4]
      omega
    rw [← q1, ← e1.a]
    have hJJ : ∀ {t : Bool} {u : MS}, c3 u22 (by9 + (1 : Int32)) 0 t u → (t = false → K_m_joined u22 (by9 + (1 : Int32)) 0 u) → OKR g n K e (fun s => bd (O false e s) fun q => tJ O f ((stg z.2).toInt + 1) e q.2) u22 t u := by
      intro t u hc kc
      have q := hJ g e _ _ _ _ f hc kc (e1.j a1.jj) og4 hf4
      rw [eb] at q
      exact q
    rcases h with ⟨u9, h4, rfl, rfl⟩ | ⟨u36, h4, k4, e2, rfl⟩
    · exact Or.inr ⟨rfl, by rw [(hJJ h4 nom).er, bd_er]⟩
    · have a4 := hJJ h4 (fun _ => k4)
      refine Or.inl ⟨rfl, ?_, e2.j a4.jj⟩
      rw [a4.eo, bd_ok, te, e2.a]
      rfl
  obtain ⟨-, -, -, -, -, -, -, -, -, -, h⟩ := h
  rcases h with ⟨c0, r6, -, -, u22, hu22, h⟩ | ⟨c0, r73, -, r80, -, -, u97, hu97, h⟩
  · have p0 : p = 0 := Int32.toInt_inj.mp (c0.trans (by decide))
    have e1 : EMS 2 (wA w 0 47 ((w.1 0 47) + (1 : Int32))) u22 := by
      rw [hu22]
      exact EMS.w0 (EMS.wa (EMS.wa (EMS.o1 (EMS.wa (EMS.o1 (EMS.wa EMS.rf (by decide)) rfl) (by decide)) rfl) (by decide)) (by decide)) (by decide)
    refine main e1 (by rw [if_pos p0]; rfl) ?_
    rcases h with h | ⟨u36, h1', k1', r42, -, x55, -, u57, hu57, rfl, rfl⟩
    · exact Or.inl h
    · refine Or.inr ⟨u36, h1', k1', ?_, rfl⟩
      rw [hu57]
      exact EMS.wa (EMS.wa (EMS.w0 (EMS.wa (EMS.wa (EMS.o1 (EMS.wa EMS.rf (by decide)) rfl) (by decide)) (by decide)) (by decide)) (by decide)) (by decide)
  · have p1 : p ≠ 0 := fun q => c0 (by rw [q]; decide)
    have e1 : EMS 3 (wA w 0 47 ((w.1 0 47) + (1 : Int32))) u97 := by
      rw [hu97]
      exact EMS.w0 (EMS.wa (EMS.wa (EMS.o1 (EMS.wa (EMS.o1 (EMS.wa (EMS.o1 (EMS.wa EMS.rf (by decide)) rfl) (by decide)) rfl) (by decide)) rfl) (by decide)) (by decide)) (by decide)
    refine main e1 (by rw [if_neg p1]; rfl) ?_
    rcases h with h | ⟨u36, h1', k1', r42, -, x55, -, u57, hu57, rfl, rfl⟩
    · exact Or.inl h
    · refine Or.inr ⟨u36, h1', k1', ?_, rfl⟩
      rw [hu57]
      exact EMS.wa (EMS.wa (EMS.w0 (EMS.wa (EMS.wa (EMS.o1 (EMS.wa EMS.rf (by decide)) rfl) (by decide)) (by decide)) (by decide)) (by decide)) (by decide)
end MJN
