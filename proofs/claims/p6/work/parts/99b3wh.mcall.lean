/-! the reference's orders: calls -/
section WHC
variable {n : Int} {K : TK} {e : PE} {v v1 u w x y : MS} {a b d : List EV} {q : EV} {r pa pb pd nm sl na t9 : Int32} {m nn : Int} {c : RM1} {E : EvE} {Es : FE} {f : Nat}
/-- a call's own: its order at the end -/
theorem OA.call (x39 : v1.1 0 39 = v.1 0 39 + 1) (hb : 0 ≤ (v.1 0 39).toInt ∧ (v.1 0 39).toInt ≤ 100000) (x35 : v1.1 35 = upd (v.1 35) (v.1 0 39).toNatClampNeg t9) (x15 : v1.1 0 15 = v.1 0 15) (xa : v1.1 13 = v.1 13 ∧ v1.1 14 = v.1 14 ∧ v1.1 38 = v.1 38 ∧ v1.1 25 = v.1 25) (x27 : v1.1 0 27 = v.1 0 27) (A : OA K v1 w d) (h0 : 0 ≤ (v.1 0 15).toInt) (hw : (w.1 0 15).toInt ≤ 100000) (u13 : u.1 13 = upd (w.1 13) (w.1 0 15).toNatClampNeg 14) (u14 : u.1 14 = upd (w.1 14) (w.1 0 15).toNatClampNeg 0) (u15 : u.1 0 15 = w.1 0 15 + 1) (u38 : u.1 38 = upd (w.1 38) (v.1 0 39).toNatClampNeg (w.1 0 15)) (u35 : u.1 35 = w.1 35) (u39 : u.1 0 39 = w.1 0 39) (u27 : u.1 0 27 = w.1 0 27) (u25 : u.1 25 = w.1 25) (hn : K.2.1 t9 = nm) : OA K v u (d ++ [(21, nm, sl, nn, 0, 0)]) := by
  obtain ⟨a1, a2, a3, a4⟩ := A
  have i39 : (v1.1 0 39).toInt = (v.1 0 39).toInt + 1 := by rw [x39]; exact add_z rfl (by decide) (by omega) (by omega)
  rw [x15] at a1
  have w15 := a2.1.1
  rw [x15] at w15
  have w39 := a2.2.1.1
  have i15 : (u.1 0 15).toInt = (w.1 0 15).toInt + 1 := by rw [u15]; exact add_z rfl (by decide) (by omega) (by omega)
  have n39 := natI hb.1
  have nw := natI (a := w.1 0 15) (by omega)
  have n0 := natI h0
  have o13 : ∀ j : Nat, (j : Int) < (w.1 0 15).toInt → u.1 13 j = w.1 13 j ∧ u.1 14 j = w.1 14 j := fun j hj => by
    have : j ≠ (w.1 0 15).toNatClampNeg := by omega
    exact ⟨by rw [u13]; exact updN_ this, by rw [u14]; exact updN_ this⟩
  have o38 : ∀ c : Nat, (c : Int) ≠ (v.1 0 39).toInt → u.1 38 c = w.1 38 c := fun c hc => by rw [u38]; exact updN_ (by omega)
  have s38 : u.1 38 (v.1 0 39).toNatClampNeg = w.1 0 15 := by rw [u38]; exact updS
  have p35 : w.1 35 (v.1 0 39).toNatClampNeg = t9 := by rw [(a2.2.1.2 _ (by omega)).1, x35]; exact updS
  refine ⟨by rw [loL_app, show loL [(21, nm, sl, nn, 0, 0)] = 1 from rfl]; omega, ⟨⟨by omega, fun j hj => ?_⟩, ⟨by rw [u39]; omega, fun c hc => ⟨?_, ?_⟩⟩, by rw [u27, a2.2.2.1, x27], by rw [u25, a2.2.2.2, xa.2.2.2]⟩, ⟨fun c c1 c2 => ?_, fun c d c1 c2 d1 d2 ee => ?_⟩, MOq.app (fun x9 q9 y9 e9 => ?_) (MOq.one ⟨?_, Or.inr ⟨?_, ?_⟩⟩)⟩
  · have := o13 j (by omega)
    have k := a2.1.2 j (by rw [x15]; exact hj)
    rw [xa.1, xa.2.1] at k
    exact ⟨this.1.trans k.1, this.2.trans k.2⟩
  · rw [u35, (a2.2.1.2 c (by omega)).1, x35]
    exact updN_ (by omega)
  · rw [o38 c (by omega), (a2.2.1.2 c (by omega)).2, xa.2.2.1]
  · rw [u39] at c2
    by_cases g : (c : Int) = (v.1 0 39).toInt
    · rw [show c = (v.1 0 39).toNatClampNeg by omega, s38]
      exact ⟨by omega, by omega, by rw [u13]; exact updS⟩
    · have k := a3.1 c (by omega) c2
      rw [o38 c g]
      rw [x15] at k
      have nk := natI k.2.1
      exact ⟨by omega, k.2.1, by rw [(o13 _ (by omega)).1]; exact k.2.2⟩
  · rw [u39] at c2 d2
    by_cases g : (c : Int) = (v.1 0 39).toInt
    · by_cases g2 : (d : Int) = (v.1 0 39).toInt
      · omega
      · have k := a3.1 d (by omega) d2
        rw [show c = (v.1 0 39).toNatClampNeg by omega, s38, o38 d g2] at ee
        rw [← ee] at k
        omega
    · by_cases g2 : (d : Int) = (v.1 0 39).toInt
      · have k := a3.1 c (by omega) c2
        rw [show d = (v.1 0 39).toNatClampNeg by omega, s38, o38 c g] at ee
        rw [ee] at k
        omega
      · rw [o38 c g, o38 d g2] at ee
        exact a3.2 c d (by omega) c2 (by omega) d2 ee
  · have M := a4 x9 q9 y9 e9
    rw [x15] at M
    obtain ⟨m1, m2⟩ := M
    refine ⟨by omega, ?_⟩
    by_cases z : loE q9 = 0
    · exact Or.inl z
    rcases m2 with m2 | m2
    · exact absurd m2 z
    have k := o13 _ (show (((v.1 0 15).toNatClampNeg + loL x9 : Nat) : Int) < (w.1 0 15).toInt by omega)
    refine Or.inr ⟨by rw [k.1]; exact m2.1, ?_⟩
    have m3 := m2.2
    unfold moA at m3 ⊢
    rw [k.2, u27, u25, u39, u35]
    by_cases g1 : q9.1 = 16 ∨ q9.1 = 17 ∨ q9.1 = 18 ∨ q9.1 = 19
    · rw [if_pos g1] at m3 ⊢; exact m3
    rw [if_neg g1] at m3 ⊢
    by_cases g2 : q9.1 = 5 ∨ q9.1 = 6
    · rw [if_pos g2] at m3 ⊢; exact m3
    rw [if_neg g2] at m3 ⊢
    by_cases g3 : q9.1 = 20
    · rw [if_pos g3] at m3 ⊢; exact m3
    rw [if_neg g3] at m3 ⊢
    by_cases g4 : q9.1 = 21
    · rw [if_pos g4] at m3 ⊢
      obtain ⟨c, r1, r2, r3, r4⟩ := m3
      exact ⟨c, by omega, r2, by rw [o38 c (by omega)]; exact r3, r4⟩
    rw [if_neg g4] at m3 ⊢
    exact m3
  · show (((v.1 0 15).toNatClampNeg + loL d : Nat) : Int) + ((1 : Nat) : Int) ≤ _
    omega
  · show u.1 13 ((v.1 0 15).toNatClampNeg + loL d) = 14
    rw [show (v.1 0 15).toNatClampNeg + loL d = (w.1 0 15).toNatClampNeg by omega, u13]
    exact updS
  · show ∃ c : Nat, (v.1 0 39).toInt ≤ c ∧ (c : Int) < (u.1 0 39).toInt ∧ (u.1 38 c).toInt = ((v.1 0 15).toNatClampNeg + loL d : Nat) ∧ K.2.1 (u.1 35 c) = nm
    refine ⟨(v.1 0 39).toNatClampNeg, by omega, by rw [u39]; omega, by rw [s38]; omega, by rw [u35, p35]; exact hn⟩
/-- arguments one after the other -/
def OAI (n : Int) (K : TK) (e : PE) (E : EvE) (v1 : MS) (X : Option (Int × List EV × Int32)) (y : Int32 × Int32 × MS) : Prop := JM n K e y.2.2 ∧ (y.2.2.1 29 = v1.1 29 ∧ y.2.2.1 0 30 = v1.1 0 30) ∧ y.2.2.1 0 32 = v1.1 0 32 + y.1 ∧ ∃ d, OA K v1 y.2.2 d ∧ ((y.2.1.toInt ≠ 0 ∧ ∃ f : Nat, (1501 : Int) ≤ f + (y.2.2.1 0 47).toInt ∧ X = (gArgs E f y.1.toInt e (knM K v1) (y.2.2.1 0 32) (y.2.2.1 0 47)).bind fun r => some (r.1, d ++ r.2.1, r.2.2)) ∨ (y.2.1.toInt = 0 ∧ X = some (y.1.toInt, d, y.2.2.1 0 47)))
set_option maxHeartbeats 800000 in
theorem oArgL {X : Option (Int × List EV × Int32)} {a b : Int32 × Int32 × MS} (hX : XMe n K c E) (h15 : 0 ≤ (v1.1 0 15).toInt) (h : Q_m_call_L0 c v a b) (I : OAI n K e E v1 X a) : OAI n K e E v1 X b := by
  obtain ⟨J, ⟨i29, i30⟩, i32, d, A, I⟩ := I
  obtain ⟨-, hn, h47, -, -, g15, -, -, -, -, c0, h⟩ := h
  obtain ⟨f, hm, hf⟩ : ∃ f : Nat, (1501 : Int) ≤ f + (a.2.2.1 0 47).toInt ∧ X = (gArgs E f a.1.toInt e (knM K v1) (a.2.2.1 0 32) (a.2.2.1 0 47)).bind fun r => some (r.1, d ++ r.2.1, r.2.2) := by
    rcases I with ⟨-, q⟩ | ⟨q, -⟩
    · exact q
    · exact absurd q c0
  obtain ⟨f0, rfl⟩ : ∃ f0, f = f0 + 1 := ⟨f - 1, by omega⟩
  have ea : (a.1 + (1 : Int32)).toInt = a.1.toInt + 1 := add_z rfl (by decide) (by omega) (by omega)
  have a15 := A.1
  have main : ∀ {w0 u137 u153 : MS} {r163 r172 : Int32}, JM n K e u137 → OA K a.2.2 u137 [] → (u137.1 29 = a.2.2.1 29 ∧ u137.1 0 30 = a.2.2.1 0 30 ∧ u137.1 0 32 = a.2.2.1 0 32 ∧ u137.1 0 47 = a.2.2.1 0 47) → c u137 false u153 → K_m_expression u137 u153 → Q_m_is (wA (wA (wA u153 11 ((u153.1 0 12).toNatClampNeg) r163) 0 12 ((u153.1 0 12) + (1 : Int32))) 0 32 ((u153.1 0 32) + (1 : Int32))) 44 r172 → ((r172.toInt = 0 ∧ b = ((a.1 + (1 : Int32)), r172, (wA (wA (wA u153 11 ((u153.1 0 12).toNatClampNeg) r163) 0 12 ((u153.1 0 12) + (1 : Int32))) 0 32 ((u153.1 0 32) + (1 : Int32))))) ∨ (r172.toInt ≠ 0 ∧ Q_m_take (wA (wA (wA u153 11 ((u153.1 0 12).toNatClampNeg) r163) 0 12 ((u153.1 0 12) + (1 : Int32))) 0 32 ((u153.1 0 32) + (1 : Int32))) false (wA (wA (wA (wA u153 11 ((u153.1 0 12).toNatClampNeg) r163) 0 12 ((u153.1 0 12) + (1 : Int32))) 0 32 ((u153.1 0 32) + (1 : Int32))) 0 47 ((u153.1 0 47) + (1 : Int32))) ∧ b = ((a.1 + (1 : Int32)), r172, (wA (wA (wA (wA u153 11 ((u153.1 0 12).toNatClampNeg) r163) 0 12 ((u153.1 0 12) + (1 : Int32))) 0 32 ((u153.1 0 32) + (1 : Int32))) 0 47 ((u153.1 0 47) + (1 : Int32)))))) → OAI n K e E v1 X b := by
    intro w0 u137 u153 r163 r172 J1 A1 ⟨g29, g30, g32, g47⟩ h1 k1 h2 h
    have b15 := A1.1
    rw [loL_nil] at b15
    obtain ⟨q, x1, x2⟩ := hX e u137 u153 h1 k1 J1 (by omega)
    have e1 : EMS 1 u153 (wA (wA u153 11 ((u153.1 0 12).toNatClampNeg) r163) 0 12 ((u153.1 0 12) + (1 : Int32))) := EMS.o1 (EMS.wa EMS.rf (by decide)) rfl
    obtain ⟨Y, hY⟩ : ∃ Y, Y = wA (wA (wA u153 11 ((u153.1 0 12).toNatClampNeg) r163) 0 12 ((u153.1 0 12) + (1 : Int32))) 0 32 ((u153.1 0 32) + (1 : Int32)) := ⟨_, rfl⟩
    rw [← hY] at h2 h
    have A3 : JM n K e Y := by rw [hY]; exact (e1.j x2.1).w (by decide)
    have i2 := rIs (g := g00) h2 A3 (q := (44, 37)) (by decide) rfl
    have y47 : Y.1 0 47 = u153.1 0 47 := by rw [hY]; rfl
    have y32 : Y.1 0 32 = a.2.2.1 0 32 + 1 := by
      rw [hY]
      show u153.1 0 32 + 1 = _
      rw [x2.2.2.2.2, g32]
    have y29 : Y.1 29 = v1.1 29 := by
      rw [hY]
      show u153.1 29 = _
      rw [x2.2.2.1, g29, i29]
    have y30 : Y.1 0 30 = v1.1 0 30 := by
      rw [hY]
      show u153.1 0 30 = _
      rw [x2.2.2.2.1, g30, i30]
    have e37 : e.1 (Y.1 0 47) = 37 ↔ (e.1 (Y.1 0 47)).toInt = 37 := ⟨fun q => by rw [q]; decide, fun q => Int32.toInt_inj.mp (q.trans (by decide))⟩
    have i2 : r172.toInt ≠ 0 ↔ e.1 (Y.1 0 47) = 37 := i2
    have p47 := k1.2.1
    rw [g47] at p47
    have kn : knM K u137 = knM K v1 := knM_of (g29.trans i29) (g30.trans i30)
    rw [kn, g32, g47] at x1
    have AY : OA K u153 Y [] := by rw [hY]; exact OA.sm rfl rfl rfl rfl rfl rfl rfl rfl
    have T0 := ((A.nt A1 h15).tr x2.2.1 h15)
    have t15 := T0.1
    have TB := (T0.tr (OA.no (K := K) (q := evx 4 (gsl (knM K v1) (a.2.2.1 0 32)) 0) rfl (by omega)) h15).nt AY h15
    have X1 : X = (if (e.1 (u153.1 0 47)).toInt = 37 then (gArgs E f0 (a.1.toInt + 1) e (knM K v1) (a.2.2.1 0 32 + 1) (u153.1 0 47 + 1)).bind fun r => some (r.1, d ++ q ++ [evx 4 (gsl (knM K v1) (a.2.2.1 0 32)) 0] ++ r.2.1, r.2.2) else some (a.1.toInt + 1, d ++ q ++ [evx 4 (gsl (knM K v1) (a.2.2.1 0 32)) 0], u153.1 0 47)) := by
      rw [hf]
      show ((E true e (knM K v1) (a.2.2.1 0 32) (a.2.2.1 0 47)).bind _).bind _ = _
      rw [x1, Option.bind_some]
      by_cases c37 : (e.1 (u153.1 0 47)).toInt = 37
      · rw [if_pos c37]
        show ((gArgs E f0 (a.1.toInt + 1) e (knM K v1) (a.2.2.1 0 32 + 1) (u153.1 0 47 + 1)).bind fun r => some (r.1, q ++ [evx 4 (gsl (knM K v1) (a.2.2.1 0 32)) 0] ++ r.2.1, r.2.2)).bind _ = _
        rw [if_pos c37]
        cases gArgs E f0 (a.1.toInt + 1) e (knM K v1) (a.2.2.1 0 32 + 1) (u153.1 0 47 + 1) with
        | none => rfl
        | some z =>
          show some (z.1, d ++ (q ++ [evx 4 (gsl (knM K v1) (a.2.2.1 0 32)) 0] ++ z.2.1), z.2.2) = some (z.1, d ++ q ++ [evx 4 (gsl (knM K v1) (a.2.2.1 0 32)) 0] ++ z.2.1, z.2.2)
          simp only [List.append_assoc]
      · rw [if_neg c37]
        show (some (a.1.toInt + 1, q ++ [evx 4 (gsl (knM K v1) (a.2.2.1 0 32)) 0], u153.1 0 47)).bind _ = _
        rw [if_neg c37, Option.bind_some, List.append_assoc]
    have s32 : v1.1 0 32 + a.1 + 1 = v1.1 0 32 + (a.1 + 1) := Int32.add_assoc _ _ _
    rcases h with ⟨c1, rfl⟩ | ⟨c1, h3, rfl⟩
    · refine ⟨A3, ⟨y29, y30⟩, by rw [y32, i32]; exact s32, _, TB, Or.inr ⟨c1, ?_⟩⟩
      rw [X1, if_neg (fun g => i2.mpr (e37.mpr (by rw [y47]; exact g)) c1)]
      show _ = some ((a.1 + (1 : Int32)).toInt, _, Y.1 0 47)
      rw [ea, y47]
    · have q37 := e37.mp (i2.mp c1)
      have T := (rTake (g := g00) h3 A3 (by show 2 ≤ (e.1 (Y.1 0 47)).toInt; omega)).jj
      have AZ : OA K Y (wA Y 0 47 ((u153.1 0 47) + (1 : Int32))) [] := OA.w0
      refine ⟨T, ⟨y29, y30⟩, by show Y.1 0 32 = _; rw [y32, i32]; exact s32, _, TB.nt AZ h15, Or.inl ⟨c1, f0, ?_, ?_⟩⟩
      · show (1501 : Int) ≤ f0 + ((u153.1 0 47) + (1 : Int32)).toInt
        have zz := J.2.2.2.1.2.1
        have : ((u153.1 0 47) + (1 : Int32)).toInt = (u153.1 0 47).toInt + 1 := add_z rfl (by decide) (by omega) (by omega)
        omega
      · rw [X1, if_pos (by rw [← y47]; exact q37)]
        show _ = (gArgs E f0 (a.1 + (1 : Int32)).toInt e (knM K v1) (Y.1 0 32) (u153.1 0 47 + 1)).bind _
        rw [ea, y32]
  rcases h with ⟨c8, r138, u137, h1, k1, u153, h2, k2, r160, -, r163, -, r172, h3, -, h⟩ | ⟨c8, r138, u137, h1, k1, u153, h2, k2, r160, -, r163, -, r172, h3, -, h⟩
  · refine main (w0 := u137) (rSlots (g := g00) (k := 0) h1 J).2.1 (OA.fg k1.1) ⟨k1.1.2.2 29 (by decide), k1.1.2.1 30 (by decide), k1.1.2.1 32 (by decide), k1.1.2.1 47 (by decide)⟩ h2 k2 h3 ?_
    rcases h with h | ⟨q, h4, -, h5⟩
    · exact Or.inl h
    · exact Or.inr ⟨q, h4, h5⟩
  · refine main (w0 := u137) (rDue (g := g00) (Or.inr ⟨c8, r138, h1⟩) hn J).2 ((OA.w0 (K := K) (j := 49) (x9 := a.2.2.1 0 47)).nt (OA.fg k1.1) (by omega)) ⟨(k1.1.2.2 29 (by decide)).trans rfl, (k1.1.2.1 30 (by decide)).trans rfl, (k1.1.2.1 32 (by decide)).trans rfl, (k1.1.2.1 47 (by decide)).trans rfl⟩ h2 k2 h3 ?_
    rcases h with h | ⟨q, h4, -, h5⟩
    · exact Or.inl h
    · exact Or.inr ⟨q, h4, h5⟩
end WHC
