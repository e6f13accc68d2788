/-! the reference's words: jumps; && and ||; signs -/
section ZWR
variable {n : Int} {K : TK} {e : PE} {v u w x y : MS} {a b c : List EV} {q : EV} {o zv zn r pa pb pc1 pd by9 t y9 : Int32} {m k : Int} {gm : Nat → Int32}
theorem eJmp (h : Q_m_jump v pa pb pc1 (wA v 11 pa.toNatClampNeg r)) : r = jW pb ((4 : Int32) * (pc1 - pa)) := by
  obtain ⟨-, r3, h3, e⟩ := h
  have e1 : (wA v 11 pa.toNatClampNeg r).1 11 pa.toNatClampNeg = (wA v 11 pa.toNatClampNeg r3).1 11 pa.toNatClampNeg := by rw [e]
  have e2 : upd (v.1 11) pa.toNatClampNeg r pa.toNatClampNeg = upd (v.1 11) pa.toNatClampNeg r3 pa.toNatClampNeg := e1
  rw [updS, updS] at e2
  rw [e2]
  exact eJ h3
theorem fwD (h : (dsz t 0).toInt = k) : (fwE t y9 c).2.2.2.2.2 = k + lwL c := by
  show (dsz t 0).toInt + (lwL c : Int) = _
  rw [h]
theorem rw16 {z d1 d2 d3} : rwE gm (16, z, y9, d1, d2, d3) = [bW 4195 10 0 8] ++ [jW 0 (jr d3 ([bW 4195 10 0 8].length : Nat))] := rfl
theorem rw17 {z d1 d2 d3} : rwE gm (17, z, y9, d1, d2, d3) = [bW 99 10 0 8] ++ [jW 0 (jr d3 ([bW 99 10 0 8].length : Nat))] := rfl
theorem rw18 {z d1 d2 d3} : rwE gm (18, z, y9, d1, d2, d3) = [bW 99 10 0 12, iW 19 10 0 1] ++ [jW 0 (jr d3 ([bW 99 10 0 12, iW 19 10 0 1].length : Nat))] := rfl
theorem rw19 {z d1 d2 d3} : rwE gm (19, z, y9, d1, d2, d3) = [] ++ [jW 0 (jr d3 (([] : List Int32).length : Nat))] := rfl
theorem wBool (h11 : u.1 11 = upd (v.1 11) (v.1 0 12).toNatClampNeg (iW 12339 10 0 10)) (h12 : u.1 0 12 = v.1 0 12 + 1) (hs : SMw v u := by exact ⟨⟨rfl, rfl, rfl, rfl, rfl, rfl⟩, rfl, rfl⟩) : WAi K v u [evx 15 0 0] := EMi.ev (by rw [rw15]; exact EMi.w1 h11 h12 hs) rfl
end ZWR
def XWj (n : Int) (K : TK) (c3 : RM3) (O : EvO) : Prop := ∀ (e : PE) (v u : MS) (pa : Int32) (f : Nat), c3 v pa 0 false u → K_m_joined v pa 0 u → JM n K e v → (1501 : Int) ≤ f + (v.1 0 47).toInt → ∃ q r, O false e (knM K v) (v.1 0 32) (v.1 0 47) = some q ∧ gJ O f pa.toInt e (knM K v) (v.1 0 32) q.2.1 q.2.2 = some (r, u.1 0 47) ∧ WSi n K e v u r
section ZWRB
variable {n : Int} {K : TK} {e : PE} {v u w x y : MS} {a b c : List EV} {q : EV} {o zv zn r pa pb pd by9 : Int32} {m : Int} {c3 : RM3} {O : EvO} {f : Nat}
set_option maxHeartbeats 800000 in
theorem oBothW (hJ : XWj n K c3 O) (h : Q_m_both c3 v pa pb false u) (J : JM n K e v) (hf : (1501 : Int) ≤ f + (v.1 0 47).toInt) : ∃ q r, O false e (knM K v) (v.1 0 32) (v.1 0 47) = some q ∧ gJ O f pb.toInt e (knM K v) (v.1 0 32) q.2.1 q.2.2 = some (r, u.1 0 47) ∧ WSi n K e v u ([if pa.toInt = 0 then fwE 16 1 (r ++ [evx 15 0 0]) else fwE 18 0 (r ++ [evx 15 0 0])] ++ (r ++ [evx 15 0 0])) := by
  obtain ⟨z1, z2, z3, z4, z5, z6, z15, z8, z9, -, h⟩ := h
  rcases h with ⟨c, r6, h6, -, u22, hu22, ⟨u9, -, f9, -⟩ | ⟨u36, h36, k36, r42, h42, x55, hx, u57, hu57, -, eu⟩⟩ | ⟨c, r73, h73, r80, h80, -, u97, hu97, ⟨u9, -, f9, -⟩ | ⟨u111, h36, k36, r117, h117, x130, hx, u132, hu132, -, eu⟩⟩
  · cases f9
  · obtain rfl := eB h6 (f := 4195) (by decide)
    obtain rfl := eR h42 (f := 12339) (by decide)
    obtain rfl := eJmp hx
    have e1 : EMS (0 + 1 + 1) v u22 := by
      rw [hu22]
      exact EMS.w0 (EMS.wa (EMS.wa (EMS.o1 (EMS.wa (EMS.o1 (EMS.wa EMS.rf (by decide)) rfl) (by decide)) rfl) (by decide)) (by decide)) (by decide)
    have f47 : u22.1 0 47 = v.1 0 47 := e1.2.2.1 47 (by decide)
    have f32 : u22.1 0 32 = v.1 0 32 := e1.2.2.1 32 (by decide)
    have fkn : knM K u22 = knM K v := knM_of (e1.2.1 29 (by decide)) (e1.2.2.1 30 (by decide))
    have E1 : EMi v u22 ([bW 4195 10 0 8] ++ [-1]) [] := by rw [hu22]; exact EMi.w2 rfl rfl
    obtain ⟨q, r, x1, x2, x3⟩ := hJ e u22 u36 pb f h36 k36 (e1.j J) (by rw [f47]; exact hf)
    obtain ⟨W, hW⟩ : ∃ W, W = (wA (wA (wA (wA (wA u36 11 ((u36.1 0 12).toNatClampNeg) (iW 12339 10 0 10)) 0 12 ((u36.1 0 12) + (1 : Int32))) 13 ((u36.1 0 15).toNatClampNeg) (24 : Int32)) 14 ((u36.1 0 15).toNatClampNeg) (0 : Int32)) 0 15 ((u36.1 0 15) + (1 : Int32))) := ⟨_, rfl⟩
    have hW5 : u57 = wA (wA W 11 (((v.1 0 12) + (1 : Int32)).toNatClampNeg) (jW 0 ((4 : Int32) * ((u36.1 0 12 + 1) - (v.1 0 12 + 1))))) 14 ((v.1 0 15).toNatClampNeg) ((u36.1 0 15) + (1 : Int32)) := by rw [hu57, hW]
    have w12 : W.1 0 12 = u36.1 0 12 + 1 := by rw [hW]; rfl
    have W1 : WAi K u36 W [evx 15 0 0] := wBool (by rw [hW]; rfl) w12 (by rw [hW]; exact ⟨⟨rfl, rfl, rfl, rfl, rfl, rfl⟩, rfl, rfl⟩)
    have C := x3.2.1.tr W1
    have e3 : EMS (0 + 1) u36 u57 := by
      rw [hu57]
      exact EMS.wa (EMS.wa (EMS.w0 (EMS.wa (EMS.wa (EMS.o1 (EMS.wa EMS.rf (by decide)) rfl) (by decide)) (by decide)) (by decide)) (by decide)) (by decide)
    have T : WAi K v u57 ([fwE 16 1 (r ++ [evx 15 0 0])] ++ (r ++ [evx 15 0 0])) := WAi.pj (a := [bW 4195 10 0 8]) (z0 := -1) (jj := 0) (p := v.1 0 12 + 1) (t := u36.1 0 12 + 1) E1 C (by rw [hW5]; rfl) (by rw [hW5]; rfl) (by rw [hW5]; exact ⟨⟨rfl, rfl, rfl, rfl, rfl, rfl⟩, rfl, rfl⟩) (fun g1 g2 => ad1 g1 g2) (fun _ _ => by rw [w12]; exact (Int.add_zero _).symm) (by rw [fwD (k := 2) (by decide)]; show (2 : Int) + _ = ((1 : Nat) : Int) + 1 + _ + 0; omega) (fun _ => rw16) rfl rfl
    rw [fkn, f32, f47] at x1
    rw [fkn, f32] at x2
    rw [eu]
    refine ⟨q, r, x1, ?_, e3.j x3.1, ?_, ?_, ?_, ?_⟩
    · rw [x2, show u57.1 0 47 = u36.1 0 47 from e3.2.2.1 47 (by decide)]
    · rw [if_pos c]
      exact T
    · rw [e3.2.1 29 (by decide), x3.2.2.1, e1.2.1 29 (by decide)]
    · rw [e3.2.2.1 30 (by decide), x3.2.2.2.1, e1.2.2.1 30 (by decide)]
    · rw [e3.2.2.1 32 (by decide), x3.2.2.2.2, f32]
  · cases f9
  · obtain rfl := eB h73 (f := 99) (by decide)
    obtain rfl := eAddi h80
    obtain rfl := eR h117 (f := 12339) (by decide)
    obtain rfl := eJmp hx
    have e1 : EMS (0 + 1 + 1 + 1) v u97 := by
      rw [hu97]
      exact EMS.w0 (EMS.wa (EMS.wa (EMS.o1 (EMS.wa (EMS.o1 (EMS.wa (EMS.o1 (EMS.wa EMS.rf (by decide)) rfl) (by decide)) rfl) (by decide)) rfl) (by decide)) (by decide)) (by decide)
    have f47 : u97.1 0 47 = v.1 0 47 := e1.2.2.1 47 (by decide)
    have f32 : u97.1 0 32 = v.1 0 32 := e1.2.2.1 32 (by decide)
    have fkn : knM K u97 = knM K v := knM_of (e1.2.1 29 (by decide)) (e1.2.2.1 30 (by decide))
    have E1 : EMi v u97 ([bW 99 10 0 12, iW 19 10 0 1] ++ [-1]) [] := by rw [hu97]; exact EMi.w3 rfl rfl
    obtain ⟨q, r, x1, x2, x3⟩ := hJ e u97 u111 pb f h36 k36 (e1.j J) (by rw [f47]; exact hf)
    obtain ⟨W, hW⟩ : ∃ W, W = (wA (wA (wA (wA (wA u111 11 ((u111.1 0 12).toNatClampNeg) (iW 12339 10 0 10)) 0 12 ((u111.1 0 12) + (1 : Int32))) 13 ((u111.1 0 15).toNatClampNeg) (24 : Int32)) 14 ((u111.1 0 15).toNatClampNeg) (0 : Int32)) 0 15 ((u111.1 0 15) + (1 : Int32))) := ⟨_, rfl⟩
    have hW5 : u132 = wA (wA W 11 ((((v.1 0 12) + (1 : Int32)) + (1 : Int32)).toNatClampNeg) (jW 0 ((4 : Int32) * ((u111.1 0 12 + 1) - (v.1 0 12 + 1 + 1))))) 14 ((v.1 0 15).toNatClampNeg) ((u111.1 0 15) + (1 : Int32)) := by rw [hu132, hW]
    have w12 : W.1 0 12 = u111.1 0 12 + 1 := by rw [hW]; rfl
    have W1 : WAi K u111 W [evx 15 0 0] := wBool (by rw [hW]; rfl) w12 (by rw [hW]; exact ⟨⟨rfl, rfl, rfl, rfl, rfl, rfl⟩, rfl, rfl⟩)
    have C := x3.2.1.tr W1
    have e3 : EMS (0 + 1) u111 u132 := by
      rw [hu132]
      exact EMS.wa (EMS.wa (EMS.w0 (EMS.wa (EMS.wa (EMS.o1 (EMS.wa EMS.rf (by decide)) rfl) (by decide)) (by decide)) (by decide)) (by decide)) (by decide)
    have T : WAi K v u132 ([fwE 18 0 (r ++ [evx 15 0 0])] ++ (r ++ [evx 15 0 0])) := WAi.pj (a := [bW 99 10 0 12, iW 19 10 0 1]) (z0 := -1) (jj := 0) (p := v.1 0 12 + 1 + 1) (t := u111.1 0 12 + 1) E1 C (by rw [hW5]; rfl) (by rw [hW5]; rfl) (by rw [hW5]; exact ⟨⟨rfl, rfl, rfl, rfl, rfl, rfl⟩, rfl, rfl⟩) (fun g1 g2 => ad2 g1 g2) (fun _ _ => by rw [w12]; exact (Int.add_zero _).symm) (by rw [fwD (k := 3) (by decide)]; show (3 : Int) + _ = ((2 : Nat) : Int) + 1 + _ + 0; omega) (fun _ => rw18) rfl rfl
    rw [fkn, f32, f47] at x1
    rw [fkn, f32] at x2
    rw [eu]
    refine ⟨q, r, x1, ?_, e3.j x3.1, ?_, ?_, ?_, ?_⟩
    · rw [x2, show u132.1 0 47 = u111.1 0 47 from e3.2.2.1 47 (by decide)]
    · rw [if_neg c]
      exact T
    · rw [e3.2.1 29 (by decide), x3.2.2.1, e1.2.1 29 (by decide)]
    · rw [e3.2.2.1 30 (by decide), x3.2.2.2.1, e1.2.2.1 30 (by decide)]
    · rw [e3.2.2.1 32 (by decide), x3.2.2.2.2, f32]
end ZWRB
section ZWRC
variable {n : Int} {K : TK} {e : PE} {v u w x y : MS} {a b c : List EV} {q : EV} {o zv zn r pa pb pd by9 : Int32} {m : Int} {c3 : RM3} {O : EvO} {E : EvE} {Os : FO} {Es : FE} {f : Nat}
theorem WSi.rf (J : JM n K e v) : WSi n K e v v [] := ⟨J, WAi.rf, rfl, rfl, rfl⟩
theorem WSi.tr (h : WSi n K e v u a) (k : WSi n K e u w b) : WSi n K e v w (a ++ b) := ⟨k.1, h.2.1.tr k.2.1, k.2.2.1.trans h.2.2.1, k.2.2.2.1.trans h.2.2.2.1, k.2.2.2.2.trans h.2.2.2.2⟩
theorem WSi.kn (h : WSi n K e v u a) : knM K u = knM K v := knM_of h.2.2.1 h.2.2.2.1
set_option maxHeartbeats 800000 in
theorem oRoundW {y : Int32 × MS} (hJ : XWj n K c3 O) (hH : HMJ n K c3 Os) (hs : Q_m_strength w by9) (J : JM n K e w) (l5 : 0 ≤ (w.1 0 47).toInt ∧ (w.1 0 47).toInt ≤ 1500) (h0 : 0 < by9.toInt) (hf : (1501 : Int) ≤ f + (w.1 0 47).toInt + 1) (h : JRnd c3 w by9 y) : ∃ q r, O false e (knM K w) (gpb (e.1 (w.1 0 47)) (w.1 0 32)) (w.1 0 47 + 1) = some q ∧ gJ O f ((stg (e.1 (w.1 0 47))).toInt + 1) e (knM K w) (gpb (e.1 (w.1 0 47)) (w.1 0 32)) q.2.1 q.2.2 = some (r, y.2.1 0 47) ∧ WSi n K e w y.2 (gSg (e.1 (w.1 0 47)) (gsl (knM K w) (w.1 0 32)) r) ∧ Q_m_strength y.2 y.1 ∧ (w.1 0 47).toInt + 1 ≤ (y.2.1 0 47).toInt := by
  obtain ⟨RR, q7, q8⟩ := jRound (g := g00) (f := f) hH hs J og00 l5.2 h0 hf h
  obtain ⟨z, hz, hv, hkd, hb⟩ := sg_of (g := g00) hs J h0
  have hkd : e.1 (w.1 0 47) = z.2 := hkd
  have at4 : ((w.1 0 47) + (1 : Int32)).toInt = (w.1 0 47).toInt + 1 := add_z rfl (by decide) (by omega) (by omega)
  have ss := stg_SC z hz
  have sb : (by9 + (1 : Int32)).toInt = by9.toInt + 1 := by
    have := ss.2.2.2
    rw [← hb] at this
    exact add_z rfl (by decide) (by omega) (by omega)
  rw [hkd]
  rcases h with ⟨h3, r19, u18, h1, k1, u22, h2, k2, h4, -, r33, h33, r36, h36, u65, h5, k5, r74, h74, r77, h77, u83, h6, k6, r93, h7, -, rfl⟩ | ⟨h3, h1, k1, h⟩
  · have s3 := ss.2.2.1 (by rw [← hb]; exact h3)
    obtain rfl := slM (K := K) h1
    obtain rfl := eSlot h33
    obtain rfl := eSw h36
    obtain rfl := eSlot h74
    obtain rfl := eLw h77
    have p22 : u22.1 0 47 = w.1 0 47 := (k2.2.1 47 (by decide)).trans (k1.1.2.1 47 (by decide))
    have a22 : u22.1 0 32 = w.1 0 32 := (k2.2.1 32 (by decide)).trans (k1.1.2.1 32 (by decide))
    have a30 : u22.1 0 30 = w.1 0 30 := (k2.2.1 30 (by decide)).trans (k1.1.2.1 30 (by decide))
    have a29 : u22.1 29 = w.1 29 := (k2.2.2 29 (by decide)).trans (k1.1.2.2 29 (by decide))
    have J22 := (rRem (g := g00) h2 (rSlots (g := g00) (k := 0) h1 J).2.1).2
    have k53 := s3.2.2.1
    have J23 : JM n K e (wA u22 0 47 ((u22.1 0 47) + (1 : Int32))) := (rTake (g := g00) h4 J22 (by show 2 ≤ (e.1 (u22.1 0 47)).toInt; rw [p22, hkd]; omega)).jj
    have m1 : EMS (0 + 1) (wA u22 0 47 ((u22.1 0 47) + (1 : Int32))) (wA (wA (wA u22 0 47 ((u22.1 0 47) + (1 : Int32))) 11 ((u22.1 0 12).toNatClampNeg) (sW 10 (fW (gsl (knM K w) (w.1 0 32))) 8)) 0 12 ((u22.1 0 12) + (1 : Int32))) := EMS.o1 (EMS.wa EMS.rf (by decide)) rfl
    have J24 : JM n K e (wA (wA (wA (wA u22 0 47 ((u22.1 0 47) + (1 : Int32))) 11 ((u22.1 0 12).toNatClampNeg) (sW 10 (fW (gsl (knM K w) (w.1 0 32))) 8)) 0 12 ((u22.1 0 12) + (1 : Int32))) 0 32 ((u22.1 0 32) + (1 : Int32))) := (m1.j J23).w (by decide)
    obtain ⟨q, r, x1, x2, x3⟩ := hJ e _ u65 _ f h5 k5 J24 (by
      show (1501 : Int) ≤ f + ((u22.1 0 47) + (1 : Int32)).toInt
      rw [p22, at4]
      omega)
    have gp : gpb z.2 (w.1 0 32) = w.1 0 32 + 1 := by unfold gpb; rw [if_neg (fun t => t.elim s3.1 s3.2.1)]
    have kn : knM K (wA (wA (wA (wA u22 0 47 ((u22.1 0 47) + (1 : Int32))) 11 ((u22.1 0 12).toNatClampNeg) (sW 10 (fW (gsl (knM K w) (w.1 0 32))) 8)) 0 12 ((u22.1 0 12) + (1 : Int32))) 0 32 ((u22.1 0 32) + (1 : Int32))) = knM K w := knM_of a29 a30
    rw [kn] at x1 x2
    have x1 : O false e (knM K w) (u22.1 0 32 + 1) (u22.1 0 47 + 1) = some q := x1
    have x2 : gJ O f (by9 + (1 : Int32)).toInt e (knM K w) (u22.1 0 32 + 1) q.2.1 q.2.2 = some (r, u65.1 0 47) := x2
    rw [a22, p22] at x1
    rw [a22, sb, hb] at x2
    have A0 : WAi K w u22 [] := (WAi.fg (K := K) k1.1).nt (WAi.fg (K := K) k2)
    have A1 : WAi K u22 (wA (wA (wA (wA u22 0 47 ((u22.1 0 47) + (1 : Int32))) 11 ((u22.1 0 12).toNatClampNeg) (sW 10 (fW (gsl (knM K w) (w.1 0 32))) 8)) 0 12 ((u22.1 0 12) + (1 : Int32))) 0 32 ((u22.1 0 32) + (1 : Int32))) [evx 4 (gsl (knM K w) (w.1 0 32)) 0] := wKeep rfl rfl
    have A2 : WAi K u65 u83 [evx 20 z.2 (gsl (knM K w) (w.1 0 32))] := wSgn hz hv.symm ⟨k53, by have := s3.2.2.2; have := s3.1; have := s3.2.1; omega⟩ rfl rfl h6
    have B := ((A0.tn A1).tr x3.2.1).tr A2
    have p83 : u83.1 0 47 = u65.1 0 47 := (k6.1.2.1 47 (by decide)).trans rfl
    refine ⟨q, r, by rw [gp]; exact x1, by rw [gp, x2, p83], ⟨RR.jj, ?_, ?_, ?_, ?_⟩, q7, q8⟩
    · unfold gSg
      rw [if_neg s3.1, if_neg s3.2.1]
      exact B
    · rw [k6.1.2.2 29 (by decide)]
      show u65.1 29 = _
      rw [x3.2.2.1]
      exact a29
    · rw [k6.1.2.1 30 (by decide)]
      show u65.1 0 30 = _
      rw [x3.2.2.2.1]
      exact a30
    · rw [k6.1.2.1 32 (by decide)]
      show u65.1 0 32 - 1 = _
      rw [x3.2.2.2.2]
      show u22.1 0 32 + 1 - 1 = _
      rw [a22, Int32.add_sub_cancel]
  · have s := s_12 hz hb h0 h3
    have kk : 2 ≤ (e.1 (w.1 0 47)).toInt := by
      rw [hkd]
      by_cases t : by9.toInt = 1
      · rw [s.2 t]; decide
      · rw [s.1 t]; decide
    have JT : JM n K e (wA w 0 47 ((w.1 0 47) + (1 : Int32))) := (rTake (g := g00) h1 J kk).jj
    have A0 : WAi K w (wA w 0 47 ((w.1 0 47) + (1 : Int32))) [] := WAi.w0
    have gp : gpb z.2 (w.1 0 32) = w.1 0 32 := by
      unfold gpb
      by_cases t : by9.toInt = 1
      · rw [if_pos (Or.inr (by rw [s.2 t]; decide))]
      · rw [if_pos (Or.inl (by rw [s.1 t]; decide))]
    rcases h with ⟨c1, u110, h2, k2, r116, h7, -, rfl⟩ | ⟨c1, u124, h2, k2, r130, h7, -, rfl⟩
    · obtain ⟨q, r, x1, x2, x3⟩ := oBothW (f := f) hJ h2 JT (by show (1501 : Int) ≤ f + ((w.1 0 47) + (1 : Int32)).toInt; rw [at4]; omega)
      have x1 : O false e (knM K w) (w.1 0 32) (w.1 0 47 + 1) = some q := x1
      have x2 : gJ O f (by9 + (1 : Int32)).toInt e (knM K w) (w.1 0 32) q.2.1 q.2.2 = some (r, u110.1 0 47) := x2
      rw [sb, hb] at x2
      refine ⟨q, r, by rw [gp]; exact x1, by rw [gp]; exact x2, ⟨RR.jj, ?_, x3.2.2.1, x3.2.2.2.1, x3.2.2.2.2⟩, q7, q8⟩
      have T := A0.tn x3.2.1
      rw [if_pos (by decide)] at T
      unfold gSg
      rw [if_pos (by rw [s.1 c1]; decide)]
      exact T
    · obtain ⟨q, r, x1, x2, x3⟩ := oBothW (f := f) hJ h2 JT (by show (1501 : Int) ≤ f + ((w.1 0 47) + (1 : Int32)).toInt; rw [at4]; omega)
      have x1 : O false e (knM K w) (w.1 0 32) (w.1 0 47 + 1) = some q := x1
      have x2 : gJ O f (by9 + (1 : Int32)).toInt e (knM K w) (w.1 0 32) q.2.1 q.2.2 = some (r, u124.1 0 47) := x2
      rw [sb, hb] at x2
      refine ⟨q, r, by rw [gp]; exact x1, by rw [gp]; exact x2, ⟨RR.jj, ?_, x3.2.2.1, x3.2.2.2.1, x3.2.2.2.2⟩, q7, q8⟩
      have T := A0.tn x3.2.1
      rw [if_neg (by decide)] at T
      unfold gSg
      rw [if_neg (by rw [s.2 c1]; decide), if_pos (by rw [s.2 c1]; decide)]
      exact T
/-- the loop, from a state on -/
def WJI (n : Int) (K : TK) (e : PE) (O : EvO) (m : Int) (F : Nat) (v : MS) (y : Int32 × MS) : Prop := Q_m_strength y.2 y.1 ∧ ∃ a, WSi n K e v y.2 a ∧ ∃ f : Nat, (1501 : Int) ≤ f + (y.2.1 0 47).toInt ∧ ∀ a0, gJ O F m e (knM K v) (v.1 0 32) a0 (v.1 0 47) = gJ O f m e (knM K v) (v.1 0 32) (a0 ++ a) (y.2.1 0 47)
theorem oStepW {F : Nat} {a y : Int32 × MS} (hJ : XWj n K c3 O) (hH : HMJ n K c3 Os) (I : WJI n K e O m F v a) (l5 : 0 ≤ (a.2.1 0 47).toInt ∧ (a.2.1 0 47).toInt ≤ 1500) (hm : m ≤ a.1.toInt) (h0 : 0 < a.1.toInt) (h : JRnd c3 a.2 a.1 y) : WJI n K e O m F v y := by
  obtain ⟨hs, b, S, f, hf, hX⟩ := I
  obtain ⟨f0, rfl⟩ : ∃ f0, f = f0 + 1 := ⟨f - 1, by omega⟩
  have es := rStr (g := g00) hs S.1
  have es : a.1 = stg (e.1 (a.2.1 0 47)) := es
  obtain ⟨q, r, x1, x2, x3, x4, x5⟩ := oRoundW (f := f0) hJ hH hs S.1 l5 h0 (by omega) h
  refine ⟨x4, _, S.tr x3, f0, by omega, fun a0 => ?_⟩
  rw [hX a0]
  show (if (stg (e.1 (a.2.1 0 47))).toInt < m ∨ (stg (e.1 (a.2.1 0 47))).toInt ≤ 0 then _ else (O false e (knM K v) (gpb (e.1 (a.2.1 0 47)) (v.1 0 32)) (a.2.1 0 47 + 1)).bind _) = _
  rw [if_neg (by rw [← es]; omega)]
  rw [S.kn, S.2.2.2.2] at x1 x2 x3
  rw [x1, Option.bind_some]
  show (gJ O f0 ((stg (e.1 (a.2.1 0 47))).toInt + 1) e (knM K v) (gpb (e.1 (a.2.1 0 47)) (v.1 0 32)) q.2.1 q.2.2).bind _ = _
  rw [x2, Option.bind_some, gSign_e, S.kn, S.2.2.2.2, List.append_assoc]
theorem oEndJW {F : Nat} (I : WJI n K e O m F v (by9, w)) (hq : by9.toInt < m) (l5 : (w.1 0 47).toInt ≤ 1500) : ∃ r, WSi n K e v w r ∧ ∀ a0, gJ O F m e (knM K v) (v.1 0 32) a0 (v.1 0 47) = some (a0 ++ r, w.1 0 47) := by
  obtain ⟨hs, b, S, f, hf, hX⟩ := I
  have hf : (1501 : Int) ≤ f + (w.1 0 47).toInt := hf
  have S : WSi n K e v w b := S
  obtain ⟨f0, rfl⟩ : ∃ f0, f = f0 + 1 := ⟨f - 1, by omega⟩
  have es := rStr (g := g00) hs S.1
  have es : by9 = stg (e.1 (w.1 0 47)) := es
  refine ⟨b, S, fun a0 => ?_⟩
  rw [hX a0]
  show (if (stg (e.1 (w.1 0 47))).toInt < m ∨ (stg (e.1 (w.1 0 47))).toInt ≤ 0 then some (a0 ++ b, w.1 0 47) else _) = _
  rw [if_pos (Or.inl (by rw [← es]; exact hq))]
def XWo (n : Int) (K : TK) (c : RM1) (O : EvO) : Prop := ∀ (e : PE) (v u : MS), c v false u → K_m_operand v u → JM n K e v → ∃ a, O false e (knM K v) (v.1 0 32) (v.1 0 47) = some (false, a, u.1 0 47) ∧ WSi n K e v u a
variable {oo : RM1}
set_option maxHeartbeats 800000 in
theorem oJoinedW (hO : XWo n K oo O) (hJ : XWj n K c3 O) (hH : HMJ n K c3 Os) (h : Q_m_joined oo c3 v pa pb false u) (J : JM n K e v) (hf : (1501 : Int) ≤ f + (v.1 0 47).toInt) : (pb.toInt ≠ 0 → ∃ r, WSi n K e v u r ∧ ∀ a0, gJ O f pa.toInt e (knM K v) (v.1 0 32) a0 (v.1 0 47) = some (a0 ++ r, u.1 0 47)) ∧ (pb.toInt = 0 → ∃ q r, q.1 = false ∧ O false e (knM K v) (v.1 0 32) (v.1 0 47) = some q ∧ gJ O f pa.toInt e (knM K v) (v.1 0 32) q.2.1 q.2.2 = some (r, u.1 0 47) ∧ WSi n K e v u r) := by
  obtain ⟨z1, z2, z3, z4, z5, z6, z15, z8, z9, z10, h⟩ := h
  rcases h with ⟨cb, r6, h6, -, by9, w13, hr, -, -, h47, -, -, g15, -, h39, -, -, h⟩ | ⟨cb, h⟩
  · refine ⟨fun _ => ?_, fun q => absurd q cb⟩
    have inv : WJI n K e O pa.toInt f v (by9, w13) := by
      refine RT.ind (WJI n K e O pa.toInt f v) hr ⟨h6, [], WSi.rf J, f, hf, fun a0 => by rw [List.append_nil]⟩ ?_
      intro a y _ I hy
      obtain ⟨-, -, y47, -, -, y15, -, y39, -, -, q1, q2, hy⟩ := hy
      exact oStepW hJ hH I ⟨by omega, y47.2⟩ q1 q2 hy
    rcases h with ⟨q, -, eu⟩ | ⟨q1, q2, h⟩
    · rw [eu]
      exact oEndJW inv q h47.2
    · exfalso
      rcases h with ⟨-, r19, u18, -, -, u22, -, -, ⟨u9, -, f9, -⟩ | ⟨-, -, r33, -, r36, -, u9, -, f9, -⟩⟩ | ⟨-, ⟨u9, -, f9, -⟩ | ⟨-, -, ⟨-, u9, -, f9, -⟩ | ⟨-, u9, -, f9, -⟩⟩⟩ <;> cases f9
  · refine ⟨fun q => absurd cb q, fun _ => ?_⟩
    rcases h with ⟨u9, -, f9, -⟩ | ⟨u133, h1, k1, r139, h6, -, by9, w13, hr, -, -, h47, -, -, g15, -, h39, -, -, h⟩
    · cases f9
    obtain ⟨a1, x1, x2⟩ := hO e v u133 h1 k1 J
    have p47 := k1.2.1.1
    have p15 := k1.2.2.2.2.1
    have inv : WJI n K e O pa.toInt f u133 (by9, w13) := by
      refine RT.ind (WJI n K e O pa.toInt f u133) hr ⟨h6, [], WSi.rf x2.1, f, by show (1501 : Int) ≤ f + (u133.1 0 47).toInt; omega, fun a0 => by rw [List.append_nil]⟩ ?_
      intro a y _ I hy
      obtain ⟨-, -, y47, -, -, y15, -, y39, -, -, q1, q2, hy⟩ := hy
      exact oStepW hJ hH I ⟨by omega, y47.2⟩ q1 q2 hy
    rcases h with ⟨q, -, eu⟩ | ⟨q1, q2, h⟩
    · rw [eu]
      obtain ⟨r, y1, y2⟩ := oEndJW inv q h47.2
      have y3 := y2 a1
      rw [x2.kn, x2.2.2.2.2] at y3
      exact ⟨(false, a1, u133.1 0 47), a1 ++ r, rfl, x1, y3, x2.tr y1⟩
    · exfalso
      rcases h with ⟨-, r19, u18, -, -, u22, -, -, ⟨u9, -, f9, -⟩ | ⟨-, -, r33, -, r36, -, u9, -, f9, -⟩⟩ | ⟨-, ⟨u9, -, f9, -⟩ | ⟨-, -, ⟨-, u9, -, f9, -⟩ | ⟨-, u9, -, f9, -⟩⟩⟩ <;> cases f9
end ZWRC
