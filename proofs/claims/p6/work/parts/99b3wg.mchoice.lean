/-! the reference's orders: choices -/
def XMc (n : Int) (K : TK) (c2 : RM2) (E : EvE) (O : EvO) : Prop := ∀ (e : PE) (v u : MS) (pa : Int32), c2 v pa false u → K_m_choice v pa u → JM n K e v → 0 ≤ (v.1 0 15).toInt → (pa = 1 → ∃ b, OS n K e v u b ∧ ∀ a0, ((gJ O 1502 1 e (knM K v) (v.1 0 32) a0 (v.1 0 47)).bind fun r => gQuest E e (knM K v) (v.1 0 32) r.1 r.2) = some (a0 ++ b, u.1 0 47)) ∧ (pa = 0 → ∃ b, gExpr E O false e (knM K v) (v.1 0 32) (v.1 0 47) = some (b, u.1 0 47) ∧ OS n K e v u b)
def XC0 (n : Int) (K : TK) (c1 : RM2) (E : EvE) : Prop := ∀ (e : PE) (v u : MS), c1 v 0 false u → K_m_choice v 0 u → JM n K e v → 0 ≤ (v.1 0 15).toInt → ∃ b, E false e (knM K v) (v.1 0 32) (v.1 0 47) = some (b, u.1 0 47) ∧ OS n K e v u b
section WGC
variable {n : Int} {K : TK} {e : PE} {v u w x y : MS} {a b : List EV} {q : EV} {r pa pb pd : Int32} {m : Int} {c oo : RM1} {c1 : RM2} {c3 cJ : RM3} {O : EvO} {E : EvE} {Os : FO} {Es : FE} {f : Nat}
set_option maxHeartbeats 800000 in
theorem oQuest (hX : XMe n K c E) (hC : XC0 n K c1 E) {u3 : MS} (J : JM n K e u3) {r8 : Int32} (h8 : Q_m_is u3 63 r8) (z15 : 0 ≤ (u3.1 0 15).toInt ∧ (u3.1 0 15).toInt ≤ 10 * (u3.1 0 47).toInt) (z47 : 0 ≤ (u3.1 0 47).toInt ∧ (u3.1 0 47).toInt ≤ 1500)
    (h : (r8.toInt ≠ 0 ∧ ((∃ u9, Q_m_opens u3 true u9 ∧ false = true ∧ u = u9) ∨ (Q_m_opens u3 false (wA (wA u3 0 47 ((u3.1 0 47) + (1 : Int32))) 0 48 ((u3.1 0 48) + (1 : Int32))) ∧ ∃ r18 u32, u32 = (wA (wA (wA (wA (wA (wA (wA (wA (wA u3 0 47 ((u3.1 0 47) + (1 : Int32))) 0 48 ((u3.1 0 48) + (1 : Int32))) 11 ((u3.1 0 12).toNatClampNeg) r18) 0 12 ((u3.1 0 12) + (1 : Int32))) 11 (((u3.1 0 12) + (1 : Int32)).toNatClampNeg) (-1 : Int32)) 0 12 (((u3.1 0 12) + (1 : Int32)) + (1 : Int32))) 13 ((u3.1 0 15).toNatClampNeg) (10 : Int32)) 14 ((u3.1 0 15).toNatClampNeg) (0 : Int32)) 0 15 ((u3.1 0 15) + (1 : Int32))) ∧ ((∃ u9, c u32 true u9 ∧ false = true ∧ u = u9) ∨ (∃ u50, c u32 false u50 ∧ K_m_expression u32 u50 ∧ ((∃ u9, Q_m_need u50 58 true u9 ∧ false = true ∧ u = u9) ∨ (Q_m_need u50 58 false (wA u50 0 47 ((u50.1 0 47) + (1 : Int32))) ∧ ∃ x71 u72, u72 = (wA (wA (wA (wA (wA (wA (wA u50 0 47 ((u50.1 0 47) + (1 : Int32))) 11 ((u50.1 0 12).toNatClampNeg) (-1 : Int32)) 0 12 ((u50.1 0 12) + (1 : Int32))) 13 ((u50.1 0 15).toNatClampNeg) (12 : Int32)) 14 ((u50.1 0 15).toNatClampNeg) (0 : Int32)) 0 15 ((u50.1 0 15) + (1 : Int32))) 11 (((u3.1 0 12) + (1 : Int32)).toNatClampNeg) x71) ∧ ((∃ u9, c1 (wA u72 14 ((u3.1 0 15).toNatClampNeg) (u72.1 0 15)) 0 true u9 ∧ false = true ∧ u = u9) ∨ (∃ u91, c1 (wA u72 14 ((u3.1 0 15).toNatClampNeg) (u72.1 0 15)) 0 false u91 ∧ K_m_choice (wA u72 14 ((u3.1 0 15).toNatClampNeg) (u72.1 0 15)) 0 u91 ∧ ∃ x99, false = false ∧ u = (wA (wA (wA u91 11 ((u50.1 0 12).toNatClampNeg) x99) 14 ((u50.1 0 15).toNatClampNeg) (u91.1 0 15)) 0 48 ((u91.1 0 48) - (1 : Int32)))))))))))) ∨ (r8.toInt = 0 ∧ false = false ∧ u = u3)) :
    ∃ b, OS n K e u3 u b ∧ ∀ a0, gQuest E e (knM K u3) (u3.1 0 32) a0 (u3.1 0 47) = some (a0 ++ b, u.1 0 47) := by
  have i8 := rIs (g := g00) h8 J (q := (63, 38)) (by decide) rfl
  have i8 : r8.toInt ≠ 0 ↔ e.1 (u3.1 0 47) = 38 := i8
  have e38 : e.1 (u3.1 0 47) = 38 ↔ (e.1 (u3.1 0 47)).toInt = 38 := ⟨fun q => by rw [q]; decide, fun q => Int32.toInt_inj.mp (q.trans (by decide))⟩
  unfold gQuest
  rcases h with ⟨c8, h⟩ | ⟨c8, -, eu⟩
  · have k38 := e38.mp (i8.mp c8)
    rcases h with ⟨u9, -, f9, -⟩ | ⟨h1, r18, u32, hu32, ⟨u9, -, f9, -⟩ | ⟨u50, h50, k50, ⟨u9, -, f9, -⟩ | ⟨h3, x71, u72, hu72, ⟨u9, -, f9, -⟩ | ⟨u91, h91, k91, x99, -, eu⟩⟩⟩⟩
    · cases f9
    · cases f9
    · cases f9
    · cases f9
    have JO := (rOpens (g := g00) h1 J (by show 2 ≤ (e.1 (u3.1 0 47)).toInt; omega)).jj
    have m1 : EMS (0 + 1 + 1) (wA (wA u3 0 47 ((u3.1 0 47) + (1 : Int32))) 0 48 ((u3.1 0 48) + (1 : Int32))) u32 := by
      rw [hu32]
      exact EMS.w0 (EMS.wa (EMS.wa (EMS.o1 (EMS.wa (EMS.o1 (EMS.wa EMS.rf (by decide)) rfl) (by decide)) rfl) (by decide)) (by decide)) (by decide)
    have q1 : ((u3.1 0 47) + (1 : Int32)).toInt = (u3.1 0 47).toInt + 1 := add_z rfl (by decide) (by omega) (by omega)
    have q15 : ((u3.1 0 15) + (1 : Int32)).toInt = (u3.1 0 15).toInt + 1 := add_z rfl (by decide) (by omega) (by omega)
    have f15 : u32.1 0 15 = u3.1 0 15 + 1 := by rw [hu32]; rfl
    have f47 : u32.1 0 47 = u3.1 0 47 + 1 := m1.2.2.1 47 (by decide)
    have f32 : u32.1 0 32 = u3.1 0 32 := m1.2.2.1 32 (by decide)
    have f29 : u32.1 29 = u3.1 29 := m1.2.1 29 (by decide)
    have f30 : u32.1 0 30 = u3.1 0 30 := m1.2.2.1 30 (by decide)
    obtain ⟨qa, x1, x2⟩ := hX e u32 u50 h50 k50 (m1.j JO) (by rw [f15, q15]; omega)
    have N := oNeed (q := (58, 39)) (m := 39) h3 x2.1 (by decide) rfl (by decide)
    have l50 := k50.2.2.2.2.1
    rw [f15, q15, f47, q1] at l50
    have l47 := k50.2.1
    rw [f47, q1] at l47
    have p15 : ((u50.1 0 15) + (1 : Int32)).toInt = (u50.1 0 15).toInt + 1 := add_z rfl (by decide) (by omega) (by omega)
    have c15 := x2.2.1.1
    rw [f15, q15] at c15
    have g15 : u72.1 0 15 = u50.1 0 15 + 1 := by rw [hu72]; rfl
    have m2 : EMS (0 + 1) (wA u50 0 47 ((u50.1 0 47) + (1 : Int32))) u72 := by
      rw [hu72]
      exact EMS.wa (EMS.w0 (EMS.wa (EMS.wa (EMS.o1 (EMS.wa EMS.rf (by decide)) rfl) (by decide)) (by decide)) (by decide)) (by decide)
    have m3 : EMS (0 + 1) (wA u50 0 47 ((u50.1 0 47) + (1 : Int32))) (wA u72 14 ((u3.1 0 15).toNatClampNeg) (u72.1 0 15)) := EMS.wa m2 (by decide)
    have n3 := natI z15.1
    have n5 := natI (a := u50.1 0 15) (by omega)
    -- what is passed on
    obtain ⟨W, hW⟩ : ∃ W, W = wA u72 14 ((u3.1 0 15).toNatClampNeg) (u72.1 0 15) := ⟨_, rfl⟩
    rw [← hW] at h91 k91 m3
    have w15 : W.1 0 15 = u50.1 0 15 + 1 := by rw [hW]; exact g15
    have w47 : W.1 0 47 = u50.1 0 47 + 1 := m3.2.2.1 47 (by decide)
    have w32 : W.1 0 32 = u50.1 0 32 := m3.2.2.1 32 (by decide)
    have w29 : W.1 29 = u50.1 29 := m3.2.1 29 (by decide)
    have w30 : W.1 0 30 = u50.1 0 30 := m3.2.2.1 30 (by decide)
    obtain ⟨ra, y1, y2⟩ := hC e W u91 h91 k91 (m3.j N.1) (by rw [w15, p15]; omega)
    obtain ⟨Y, hY⟩ : ∃ Y, Y = wA u50 14 ((u3.1 0 15).toNatClampNeg) (u72.1 0 15) := ⟨_, rfl⟩
    have T1 : OA K u3 Y ([fwE 16 0 (qa ++ [fwE 19 0 ra])] ++ qa) := OA.pj (o := 10) (zv := 0) (zn := u72.1 0 15) (by rw [hu32]; rfl) (by rw [hu32]; rfl) f15 ⟨z15.1, by omega⟩ (by rw [hu32]; rfl) (by rw [hu32]; rfl) (by rw [hu32]; exact ⟨rfl, rfl, rfl⟩) x2.2.1 (by rw [hY]; rfl) (by rw [hY]; rfl) (by rw [hY]; rfl) (by rw [hY]; rfl) (by rw [hY]; rfl) (by rw [hY]; exact ⟨rfl, rfl, rfl⟩) (Or.inl rfl) rfl (by
      rw [g15, p15]
      show _ = _ + ((1 : Int) + (loL (qa ++ [fwE 19 0 ra]) : Int))
      rw [loL_app, show loL [fwE 19 0 ra] = 1 from rfl]
      omega)
    have y15 : Y.1 0 15 = u50.1 0 15 := by rw [hY]; rfl
    have d15 := y2.2.1.1
    rw [w15, p15] at d15
    obtain ⟨Z, hZ⟩ : ∃ Z, Z = wA (wA u91 11 ((u50.1 0 12).toNatClampNeg) x99) 14 ((u50.1 0 15).toNatClampNeg) (u91.1 0 15) := ⟨_, rfl⟩
    have T2 : OA K Y Z ([fwE 19 0 ra] ++ ra) := OA.pj (x := W) (o := 12) (zv := 0) (zn := u91.1 0 15) (by rw [hW, hY, hu72]; rfl) (by
      rw [hW, hY, g15]
      show upd (u72.1 14) _ _ = upd (upd (u50.1 14) _ _) (u50.1 0 15).toNatClampNeg 0
      rw [hu72]
      show upd (upd (u50.1 14) _ _) _ _ = _
      exact upd_comm (by omega)) (by rw [w15, y15]) ⟨by rw [y15]; omega, by rw [y15]; omega⟩ (by rw [hW, hY, hu72]; rfl) (by rw [hW, hY, hu72]; rfl) (by rw [hW, hY, hu72]; exact ⟨rfl, rfl, rfl⟩) y2.2.1 (by rw [hZ]; rfl) (by rw [hZ, hY]; rfl) (by rw [hZ]; rfl) (by rw [hZ]; rfl) (by rw [hZ]; rfl) (by rw [hZ]; exact ⟨rfl, rfl, rfl⟩) (Or.inr (Or.inr (Or.inr rfl))) rfl (by
      rw [y15]
      show _ = _ + ((1 : Int) + (loL ra : Int))
      omega)
    have eu' : u = wA Z 0 48 ((u91.1 0 48) - (1 : Int32)) := by rw [eu, hZ]
    have T := (T1.tr T2 z15.1).nt (OA.w0 (K := K) (j := 48) (x9 := (u91.1 0 48) - (1 : Int32))) z15.1
    rw [← eu'] at T
    have mZ : EMS 0 u91 Z := by
      rw [hZ]
      exact EMS.wa (EMS.wa EMS.rf (by decide)) (by decide)
    refine ⟨_, ⟨?_, T, ?_, ?_, ?_⟩, fun a0 => ?_⟩
    · rw [eu']
      exact (mZ.j y2.1).w (by decide)
    · rw [eu']
      show Z.1 29 = _
      rw [mZ.2.1 29 (by decide), y2.2.2.1, w29, x2.2.2.1, f29]
    · rw [eu']
      show Z.1 0 30 = _
      rw [mZ.2.2.1 30 (by decide), y2.2.2.2.1, w30, x2.2.2.2.1, f30]
    · rw [eu']
      show Z.1 0 32 = _
      rw [mZ.2.2.1 32 (by decide), y2.2.2.2.2, w32, x2.2.2.2.2, f32]
    · have kn32 : knM K u32 = knM K u3 := knM_of f29 f30
      have kn50 : knM K u50 = knM K u3 := x2.kn.trans kn32
      have knW : knM K W = knM K u3 := (knM_of w29 w30).trans kn50
      rw [kn32, f32, f47] at x1
      rw [knW, w32, x2.2.2.2.2, f32, w47] at y1
      have e47 : u.1 0 47 = u91.1 0 47 := by
        rw [eu']
        show Z.1 0 47 = _
        exact mZ.2.2.1 47 (by decide)
      rw [if_pos k38, x1, Option.bind_some]
      show (gTok e 39 (u50.1 0 47)).bind _ = _
      rw [gTok_of N.2, Option.bind_some, y1, Option.bind_some, e47]
      simp only [List.append_assoc]
  · rw [eu]
    refine ⟨[], OS.rf J, fun a0 => ?_⟩
    rw [if_neg (fun q => i8.mpr (e38.mpr q) c8), List.append_nil]
theorem oChoice (hX : XMe n K c E) (hC : XC0 n K c1 E) (hJ : ∀ (e : PE) (v u : MS) (pa pb : Int32) (f : Nat), cJ v pa pb false u → JM n K e v → (1501 : Int) ≤ f + (v.1 0 47).toInt → (pb.toInt ≠ 0 → ∃ r, OS n K e v u r ∧ ∀ a0, gJ O f pa.toInt e (knM K v) (v.1 0 32) a0 (v.1 0 47) = some (a0 ++ r, u.1 0 47)) ∧ (pb.toInt = 0 → ∃ q r, q.1 = false ∧ O false e (knM K v) (v.1 0 32) (v.1 0 47) = some q ∧ gJ O f pa.toInt e (knM K v) (v.1 0 32) q.2.1 q.2.2 = some (r, u.1 0 47) ∧ OS n K e v u r)) (h : Q_m_choice c c1 cJ v pa false u) (J : JM n K e v) : (pa = 1 → ∃ b, OS n K e v u b ∧ ∀ a0, ((gJ O 1502 1 e (knM K v) (v.1 0 32) a0 (v.1 0 47)).bind fun r => gQuest E e (knM K v) (v.1 0 32) r.1 r.2) = some (a0 ++ b, u.1 0 47)) ∧ (pa = 0 → ∃ b, gExpr E O false e (knM K v) (v.1 0 32) (v.1 0 47) = some (b, u.1 0 47) ∧ OS n K e v u b) := by
  obtain ⟨z1, z2, z3, z4, z5, z6, z15, z8, z9, z10, h⟩ := h
  rcases h with ⟨u9, -, f9, -⟩ | ⟨u3, h3, k3, r8, h8, k8, h⟩
  · cases f9
  have A := hJ e v u3 1 pa 1502 h3 J (by have := z1.1; omega)
  have k15 := k3.2.2.2.2.1
  have k47 := k3.2.1
  have Q : ∀ {r : List EV}, OS n K e v u3 r → ∃ b, OS n K e u3 u b ∧ ∀ a0, gQuest E e (knM K u3) (u3.1 0 32) a0 (u3.1 0 47) = some (a0 ++ b, u.1 0 47) := fun S => by
    refine oQuest hX hC S.1 h8 ⟨by omega, by omega⟩ ⟨by omega, k47.2⟩ ?_
    rcases h with ⟨c8, h⟩ | h
    · refine Or.inl ⟨c8, ?_⟩
      rcases h with h | ⟨h1, k1, r18, -, u32, hu32, h⟩
      · exact Or.inl h
      refine Or.inr ⟨h1, r18, u32, hu32, ?_⟩
      rcases h with h | ⟨u50, h50, k50, h⟩
      · exact Or.inl h
      refine Or.inr ⟨u50, h50, k50, ?_⟩
      rcases h with h | ⟨h3, -, x71, -, u72, hu72, h⟩
      · exact Or.inl h
      refine Or.inr ⟨h3, x71, u72, hu72, ?_⟩
      rcases h with h | ⟨u91, h91, k91, x99, -, h⟩
      · exact Or.inl h
      · exact Or.inr ⟨u91, h91, k91, x99, h⟩
    · exact Or.inr h
  refine ⟨fun p1 => ?_, fun p0 => ?_⟩
  · obtain ⟨r, S, X⟩ := A.1 (by rw [p1]; decide)
    obtain ⟨b, S2, X2⟩ := Q S
    refine ⟨_, S.tr S2 z15.1, fun a0 => ?_⟩
    have X := X a0
    have X : gJ O 1502 1 e (knM K v) (v.1 0 32) a0 (v.1 0 47) = some (a0 ++ r, u3.1 0 47) := X
    have X2 := X2 (a0 ++ r)
    rw [S.kn, S.2.2.2.2] at X2
    rw [X, Option.bind_some]
    show gQuest E e (knM K v) (v.1 0 32) (a0 ++ r) (u3.1 0 47) = _
    rw [X2, List.append_assoc]
  · obtain ⟨q, r, qf, X1, X, S⟩ := A.2 (by rw [p0]; decide)
    obtain ⟨b, S2, X2⟩ := Q S
    have X : gJ O 1502 1 e (knM K v) (v.1 0 32) q.2.1 q.2.2 = some (r, u3.1 0 47) := X
    have X2 := X2 r
    rw [S.kn, S.2.2.2.2] at X2
    refine ⟨_, ?_, S.tr S2 z15.1⟩
    unfold gExpr
    rw [X1, Option.bind_some, qf, if_neg Bool.false_ne_true, X, Option.bind_some]
    exact X2
end WGC
