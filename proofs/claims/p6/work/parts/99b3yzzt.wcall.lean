/-! the reference's words: calls -/
section ZWT
variable {n : Int} {K : TK} {e : PE} {v v1 u w w' x y : MS} {a b d : List EV} {q : EV} {r pa pb pd nm sl na t9 z : Int32} {m nn : Int} {c : RM1} {E : EvE} {Es : FE} {f : Nat} {ws : List Int32} {gm : Nat → Int32}
theorem rw21 : rwE gm (21, nm, sl, nn, 0, 0) = if nn = 0 then [0] else [iW 19 5 8 (fW sl), 0] := rfl
theorem lw21 : lwE (21, nm, sl, nn, 0, 0) = if nn = 0 then 1 else 2 := rfl
/-- a call's own: its word at the end -/
theorem WAi.call (x39 : v1.1 0 39 = v.1 0 39 + 1) (hb : 0 ≤ (v.1 0 39).toInt ∧ (v.1 0 39).toInt ≤ 100000) (x35 : v1.1 35 = upd (v.1 35) (v.1 0 39).toNatClampNeg t9) (x11 : v1.1 11 = v.1 11) (x12 : v1.1 0 12 = v.1 0 12) (x43 : v1.1 0 43 = v.1 0 43) (xa : v1.1 24 = v.1 24 ∧ v1.1 37 = v.1 37 ∧ v1.1 40 = v.1 40 ∧ v1.1 41 = v.1 41 ∧ v1.1 42 = v.1 42) (A : WAi K v1 w d) (B9 : EMi w w' ws []) (u11 : u.1 11 = w'.1 11) (u12 : u.1 0 12 = w'.1 0 12) (uk : u.1 24 = w.1 24 ∧ u.1 35 = w.1 35 ∧ u.1 40 = w.1 40 ∧ u.1 41 = w.1 41 ∧ u.1 42 = w.1 42) (u39 : u.1 0 39 = w.1 0 39) (u43 : u.1 0 43 = w.1 0 43) (u37 : u.1 37 = upd (w.1 37) (v.1 0 39).toNatClampNeg z) (hz : 0 ≤ (w.1 0 12).toInt → (w.1 0 12).toInt ≤ 1000000 → z.toInt + 1 = (w.1 0 12).toInt + ws.length) (hw : ∀ gm, rwE gm (21, nm, sl, nn, 0, 0) = ws) (hn : K.2.1 t9 = nm) : WAi K v u (d ++ [(21, nm, sl, nn, 0, 0)]) := fun B => by
  obtain ⟨b1, b2, b3⟩ := B
  have hl : ws.length = lwE (21, nm, sl, nn, 0, 0) := by
    rw [← hw (fun _ => 0), rw21, lw21]
    split <;> rfl
  have l1 : 1 ≤ ws.length := by
    rw [hl, lw21]
    split <;> omega
  rw [lwL_app, lwL_cons, lwL_nil, ← hl] at b2
  have i39 : (v1.1 0 39).toInt = (v.1 0 39).toInt + 1 := by rw [x39]; exact add_z rfl (by decide) (by omega) (by omega)
  obtain ⟨a1, a2, a3, a4, a5⟩ := A ⟨by rw [x12]; exact b1, by rw [x12]; omega, by rw [x43]; exact b3⟩
  rw [x12] at a1
  have w43 := a2.2.1.1
  rw [x43] at w43
  have w39 := a2.2.2.1.1
  obtain ⟨⟨⟨e1, -⟩, e3, e4⟩, -⟩ := B9 ⟨by omega, by omega, by omega⟩
  have i12 : (u.1 0 12).toInt = (w.1 0 12).toInt + ws.length := by rw [u12]; exact e1
  have ez := hz (by omega) (by omega)
  have n39 := natI hb.1
  have n0 := natI b1
  have nw := natI (a := w.1 0 12) (by omega)
  have n1 := natI (a := v1.1 0 12) (by rw [x12]; exact b1)
  have o11 : ∀ j : Nat, (j : Int) < (w.1 0 12).toInt → u.1 11 j = w.1 11 j := fun j hj => by rw [u11]; exact e4 j hj
  have o37 : ∀ c : Nat, (c : Int) ≠ (v.1 0 39).toInt → u.1 37 c = w.1 37 c := fun c hc => by rw [u37]; exact updN_ (by omega)
  have s37 : u.1 37 (v.1 0 39).toNatClampNeg = z := by rw [u37]; exact updS
  have p35 : w.1 35 (v.1 0 39).toNatClampNeg = t9 := by rw [(a2.2.2.1.2 _ (by omega)).1, x35]; exact updS
  refine ⟨by rw [lwL_app, lwL_cons, lwL_nil, ← hl]; omega, ⟨⟨by omega, fun j hj => ?_⟩, ⟨by rw [u43]; exact w43, fun c hc => ?_⟩, ⟨by rw [u39]; omega, fun c hc => ⟨?_, ?_⟩⟩, by rw [uk.1, a2.2.2.2, xa.1]⟩, ⟨fun c c1 c2 => ?_, fun c d c1 c2 d1 d2 ee => ?_⟩, WOq.app (fun x9 q9 y9 e9 => ?_) (WOq.one ⟨⟨?_, ?_⟩, ?_, ?_⟩), ?_⟩
  · rw [o11 j (by omega), a2.1.2 j (by rw [x12]; exact hj), x11]
  · have k := a2.2.1.2 c (by rw [x43]; exact hc)
    rw [uk.2.2.1, uk.2.2.2.1, uk.2.2.2.2, k.1, k.2.1, k.2.2, xa.2.2.1, xa.2.2.2.1, xa.2.2.2.2]
    exact ⟨rfl, rfl, rfl⟩
  · rw [uk.2.1, (a2.2.2.1.2 c (by omega)).1, x35]
    exact updN_ (by omega)
  · rw [o37 c (by omega), (a2.2.2.1.2 c (by omega)).2, xa.2.1]
  · rw [u39] at c2
    by_cases g : (c : Int) = (v.1 0 39).toInt
    · rw [show c = (v.1 0 39).toNatClampNeg by omega, s37]
      exact ⟨by omega, by omega⟩
    · have k := a3.1 c (by omega) c2
      rw [o37 c g]
      rw [x12] at k
      exact ⟨by omega, k.2⟩
  · rw [u39] at c2 d2
    by_cases g : (c : Int) = (v.1 0 39).toInt
    · by_cases g2 : (d : Int) = (v.1 0 39).toInt
      · omega
      · have k := a3.1 d (by omega) d2
        rw [show c = (v.1 0 39).toNatClampNeg by omega, s37, o37 d g2] at ee
        rw [← ee] at k
        omega
    · by_cases g2 : (d : Int) = (v.1 0 39).toInt
      · have k := a3.1 c (by omega) c2
        rw [show d = (v.1 0 39).toNatClampNeg by omega, s37, o37 c g] at ee
        rw [ee] at k
        omega
      · rw [o37 c g, o37 d g2] at ee
        exact a3.2 c d (by omega) c2 (by omega) d2 ee
  · have M := a4 x9 q9 y9 e9
    rw [x12] at M
    obtain ⟨⟨m1, m1'⟩, m2, m3⟩ := M
    refine ⟨⟨by omega, by rw [uk.1]; exact m1'⟩, fun i z' hz' => ?_, fun g => ?_⟩
    · rw [uk.1] at hz'
      have l := getl hz'
      rw [o11 _ (by omega)]
      exact m2 i z' hz'
    · obtain ⟨c, r1, r2, r3, r4⟩ := m3 g
      exact ⟨c, by omega, by rw [u39]; exact r2, by rw [o37 c (by omega)]; exact r3, by rw [uk.2.1]; exact r4⟩
  · rw [← hl]
    omega
  · rw [hw, hl]
  · rw [hw, show (v.1 0 12).toNatClampNeg + lwL d = (w.1 0 12).toNatClampNeg by omega]
    intro i z' hz'
    rw [u11]
    exact e3 i z' hz'
  · intro _
    refine ⟨(v.1 0 39).toNatClampNeg, by omega, by rw [u39]; omega, by rw [s37, ← hl]; omega, by rw [uk.2.1, p35]; exact hn⟩
  · rw [fxL_app]
    show FQq v u (fxL (v.1 0 12).toNatClampNeg d ++ ([] ++ []))
    rw [List.append_nil, List.append_nil]
    rw [x12] at a5
    refine ⟨by rw [u43]; have := a5.1; rw [x43] at this; exact this, fun k e he => ?_⟩
    have := a5.2 k e he
    rw [x43] at this
    rw [uk.2.2.1, uk.2.2.2.1, uk.2.2.2.2]
    exact this
/-- arguments one after the other -/
def WAI (n : Int) (K : TK) (e : PE) (E : EvE) (v1 : MS) (X : Option (Int × List EV × Int32)) (y : Int32 × Int32 × MS) : Prop := JM n K e y.2.2 ∧ (y.2.2.1 29 = v1.1 29 ∧ y.2.2.1 0 30 = v1.1 0 30) ∧ y.2.2.1 0 32 = v1.1 0 32 + y.1 ∧ ∃ d, WAi K v1 y.2.2 d ∧ ((y.2.1.toInt ≠ 0 ∧ ∃ f : Nat, (1501 : Int) ≤ f + (y.2.2.1 0 47).toInt ∧ X = (gArgs E f y.1.toInt e (knM K v1) (y.2.2.1 0 32) (y.2.2.1 0 47)).bind fun r => some (r.1, d ++ r.2.1, r.2.2)) ∨ (y.2.1.toInt = 0 ∧ X = some (y.1.toInt, d, y.2.2.1 0 47)))
set_option maxHeartbeats 800000 in
theorem oArgLW {X : Option (Int × List EV × Int32)} {a b : Int32 × Int32 × MS} (hX : XWe n K c E) (h : Q_m_call_L0 c v a b) (I : WAI n K e E v1 X a) : WAI n K e E v1 X b := by
  obtain ⟨J, ⟨i29, i30⟩, i32, d, A, I⟩ := I
  obtain ⟨-, hn, h47, -, -, g15, -, -, -, -, c0, h⟩ := h
  obtain ⟨f, hm, hf⟩ : ∃ f : Nat, (1501 : Int) ≤ f + (a.2.2.1 0 47).toInt ∧ X = (gArgs E f a.1.toInt e (knM K v1) (a.2.2.1 0 32) (a.2.2.1 0 47)).bind fun r => some (r.1, d ++ r.2.1, r.2.2) := by
    rcases I with ⟨-, q⟩ | ⟨q, -⟩
    · exact q
    · exact absurd q c0
  obtain ⟨f0, rfl⟩ : ∃ f0, f = f0 + 1 := ⟨f - 1, by omega⟩
  have ea : (a.1 + (1 : Int32)).toInt = a.1.toInt + 1 := add_z rfl (by decide) (by omega) (by omega)
  have main : ∀ {w0 u137 u153 : MS} {r172 : Int32}, JM n K e u137 → WAi K a.2.2 u137 [] → (u137.1 29 = a.2.2.1 29 ∧ u137.1 0 30 = a.2.2.1 0 30 ∧ u137.1 0 32 = a.2.2.1 0 32 ∧ u137.1 0 47 = a.2.2.1 0 47) → c u137 false u153 → K_m_expression u137 u153 → Q_m_is (wA (wA (wA u153 11 ((u153.1 0 12).toNatClampNeg) (sW 10 (fW (gsl (knM K v1) (a.2.2.1 0 32))) 8)) 0 12 ((u153.1 0 12) + (1 : Int32))) 0 32 ((u153.1 0 32) + (1 : Int32))) 44 r172 → ((r172.toInt = 0 ∧ b = ((a.1 + (1 : Int32)), r172, (wA (wA (wA u153 11 ((u153.1 0 12).toNatClampNeg) (sW 10 (fW (gsl (knM K v1) (a.2.2.1 0 32))) 8)) 0 12 ((u153.1 0 12) + (1 : Int32))) 0 32 ((u153.1 0 32) + (1 : Int32))))) ∨ (r172.toInt ≠ 0 ∧ Q_m_take (wA (wA (wA u153 11 ((u153.1 0 12).toNatClampNeg) (sW 10 (fW (gsl (knM K v1) (a.2.2.1 0 32))) 8)) 0 12 ((u153.1 0 12) + (1 : Int32))) 0 32 ((u153.1 0 32) + (1 : Int32))) false (wA (wA (wA (wA u153 11 ((u153.1 0 12).toNatClampNeg) (sW 10 (fW (gsl (knM K v1) (a.2.2.1 0 32))) 8)) 0 12 ((u153.1 0 12) + (1 : Int32))) 0 32 ((u153.1 0 32) + (1 : Int32))) 0 47 ((u153.1 0 47) + (1 : Int32))) ∧ b = ((a.1 + (1 : Int32)), r172, (wA (wA (wA (wA u153 11 ((u153.1 0 12).toNatClampNeg) (sW 10 (fW (gsl (knM K v1) (a.2.2.1 0 32))) 8)) 0 12 ((u153.1 0 12) + (1 : Int32))) 0 32 ((u153.1 0 32) + (1 : Int32))) 0 47 ((u153.1 0 47) + (1 : Int32)))))) → WAI n K e E v1 X b := by
    intro w0 u137 u153 r172 J1 A1 ⟨g29, g30, g32, g47⟩ h1 k1 h2 h
    obtain ⟨q, x1, x2⟩ := hX e u137 u153 h1 k1 J1
    have e1 : EMS 1 u153 (wA (wA u153 11 ((u153.1 0 12).toNatClampNeg) (sW 10 (fW (gsl (knM K v1) (a.2.2.1 0 32))) 8)) 0 12 ((u153.1 0 12) + (1 : Int32))) := EMS.o1 (EMS.wa EMS.rf (by decide)) rfl
    obtain ⟨Y, hY⟩ : ∃ Y, Y = wA (wA (wA u153 11 ((u153.1 0 12).toNatClampNeg) (sW 10 (fW (gsl (knM K v1) (a.2.2.1 0 32))) 8)) 0 12 ((u153.1 0 12) + (1 : Int32))) 0 32 ((u153.1 0 32) + (1 : Int32)) := ⟨_, rfl⟩
    rw [← hY] at h2 h
    have A3 : JM n K e Y := by rw [hY]; exact (e1.j x2.1).w (by decide)
    have i2 := rIs (g := g00) h2 A3 (q := (44, 37)) (by decide) rfl
    have y47 : Y.1 0 47 = u153.1 0 47 := by rw [hY]; rfl
    have y32 : Y.1 0 32 = a.2.2.1 0 32 + 1 := by
      rw [hY]
      show u153.1 0 32 + 1 = _
      rw [x2.2.2.2.2, g32]
    have y29 : Y.1 29 = v1.1 29 := by
      rw [hY]
      show u153.1 29 = _
      rw [x2.2.2.1, g29, i29]
    have y30 : Y.1 0 30 = v1.1 0 30 := by
      rw [hY]
      show u153.1 0 30 = _
      rw [x2.2.2.2.1, g30, i30]
    have e37 : e.1 (Y.1 0 47) = 37 ↔ (e.1 (Y.1 0 47)).toInt = 37 := ⟨fun q => by rw [q]; decide, fun q => Int32.toInt_inj.mp (q.trans (by decide))⟩
    have i2 : r172.toInt ≠ 0 ↔ e.1 (Y.1 0 47) = 37 := i2
    have p47 := k1.2.1
    rw [g47] at p47
    have kn : knM K u137 = knM K v1 := knM_of (g29.trans i29) (g30.trans i30)
    rw [kn, g32, g47] at x1
    have AY : WAi K u153 Y [evx 4 (gsl (knM K v1) (a.2.2.1 0 32)) 0] := by rw [hY]; exact wKeep rfl rfl
    have TB := ((A.nt A1).tr x2.2.1).tr AY
    have X1 : X = (if (e.1 (u153.1 0 47)).toInt = 37 then (gArgs E f0 (a.1.toInt + 1) e (knM K v1) (a.2.2.1 0 32 + 1) (u153.1 0 47 + 1)).bind fun r => some (r.1, d ++ q ++ [evx 4 (gsl (knM K v1) (a.2.2.1 0 32)) 0] ++ r.2.1, r.2.2) else some (a.1.toInt + 1, d ++ q ++ [evx 4 (gsl (knM K v1) (a.2.2.1 0 32)) 0], u153.1 0 47)) := by
      rw [hf]
      show ((E true e (knM K v1) (a.2.2.1 0 32) (a.2.2.1 0 47)).bind _).bind _ = _
      rw [x1, Option.bind_some]
      by_cases c37 : (e.1 (u153.1 0 47)).toInt = 37
      · rw [if_pos c37]
        show ((gArgs E f0 (a.1.toInt + 1) e (knM K v1) (a.2.2.1 0 32 + 1) (u153.1 0 47 + 1)).bind fun r => some (r.1, q ++ [evx 4 (gsl (knM K v1) (a.2.2.1 0 32)) 0] ++ r.2.1, r.2.2)).bind _ = _
        rw [if_pos c37]
        cases gArgs E f0 (a.1.toInt + 1) e (knM K v1) (a.2.2.1 0 32 + 1) (u153.1 0 47 + 1) with
        | none => rfl
        | some z =>
          show some (z.1, d ++ (q ++ [evx 4 (gsl (knM K v1) (a.2.2.1 0 32)) 0] ++ z.2.1), z.2.2) = some (z.1, d ++ q ++ [evx 4 (gsl (knM K v1) (a.2.2.1 0 32)) 0] ++ z.2.1, z.2.2)
          simp only [List.append_assoc]
      · rw [if_neg c37]
        show (some (a.1.toInt + 1, q ++ [evx 4 (gsl (knM K v1) (a.2.2.1 0 32)) 0], u153.1 0 47)).bind _ = _
        rw [if_neg c37, Option.bind_some, List.append_assoc]
    have s32 : v1.1 0 32 + a.1 + 1 = v1.1 0 32 + (a.1 + 1) := Int32.add_assoc _ _ _
    rcases h with ⟨c1, rfl⟩ | ⟨c1, h3, rfl⟩
    · refine ⟨A3, ⟨y29, y30⟩, by rw [y32, i32]; exact s32, _, TB, Or.inr ⟨c1, ?_⟩⟩
      rw [X1, if_neg (fun g => i2.mpr (e37.mpr (by rw [y47]; exact g)) c1)]
      show _ = some ((a.1 + (1 : Int32)).toInt, _, Y.1 0 47)
      rw [ea, y47]
    · have q37 := e37.mp (i2.mp c1)
      have T := (rTake (g := g00) h3 A3 (by show 2 ≤ (e.1 (Y.1 0 47)).toInt; omega)).jj
      have AZ : WAi K Y (wA Y 0 47 ((u153.1 0 47) + (1 : Int32))) [] := WAi.w0
      refine ⟨T, ⟨y29, y30⟩, by show Y.1 0 32 = _; rw [y32, i32]; exact s32, _, TB.nt AZ, Or.inl ⟨c1, f0, ?_, ?_⟩⟩
      · show (1501 : Int) ≤ f0 + ((u153.1 0 47) + (1 : Int32)).toInt
        have zz := J.2.2.2.1.2.1
        have : ((u153.1 0 47) + (1 : Int32)).toInt = (u153.1 0 47).toInt + 1 := add_z rfl (by decide) (by omega) (by omega)
        omega
      · rw [X1, if_pos (by rw [← y47]; exact q37)]
        show _ = (gArgs E f0 (a.1 + (1 : Int32)).toInt e (knM K v1) (Y.1 0 32) (u153.1 0 47 + 1)).bind _
        rw [ea, y32]
  rcases h with ⟨c8, r138, u137, h1, k1, u153, h2, k2, r160, h160, r163, h163, r172, h3, -, h⟩ | ⟨c8, r138, u137, h1, k1, u153, h2, k2, r160, h160, r163, h163, r172, h3, -, h⟩
  · have e138 := slM (K := K) h1
    rw [knM_of (K := K) i29 i30] at e138
    subst e138
    obtain rfl := eSlot h160
    obtain rfl := eSw h163
    refine main (w0 := u137) (rSlots (g := g00) (k := 0) h1 J).2.1 (WAi.fg k1.1) ⟨k1.1.2.2 29 (by decide), k1.1.2.1 30 (by decide), k1.1.2.1 32 (by decide), k1.1.2.1 47 (by decide)⟩ h2 k2 h3 ?_
    rcases h with h | ⟨q, h4, -, h5⟩
    · exact Or.inl h
    · exact Or.inr ⟨q, h4, h5⟩
  · have e138 : r138 = gsl (knM K v1) (a.2.2.1 0 32) := (slM (K := K) h1).trans (congrArg (fun z => gsl z (a.2.2.1 0 32)) (knM_of (K := K) (u := wA a.2.2 0 49 (a.2.2.1 0 47)) i29 i30))
    subst e138
    obtain rfl := eSlot h160
    obtain rfl := eSw h163
    refine main (w0 := u137) (rDue (g := g00) (Or.inr ⟨c8, _, h1⟩) hn J).2 ((WAi.w0 (K := K) (j := 49) (x9 := a.2.2.1 0 47)).nt (WAi.fg k1.1)) ⟨(k1.1.2.2 29 (by decide)).trans rfl, (k1.1.2.1 30 (by decide)).trans rfl, (k1.1.2.1 32 (by decide)).trans rfl, (k1.1.2.1 47 (by decide)).trans rfl⟩ h2 k2 h3 ?_
    rcases h with h | ⟨q, h4, -, h5⟩
    · exact Or.inl h
    · exact Or.inr ⟨q, h4, h5⟩
end ZWT
