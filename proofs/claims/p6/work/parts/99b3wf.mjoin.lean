/-! the reference's orders: signs one after the other, choices -/
section WFJ
variable {n : Int} {K : TK} {e : PE} {v u w x y : MS} {a b c : List EV} {q : EV} {o zv zn r pa pb pd by9 : Int32} {m : Int} {c3 : RM3} {O : EvO} {E : EvE} {Os : FO} {Es : FE} {f : Nat}
theorem OS.rf (J : JM n K e v) : OS n K e v v [] := ⟨J, OA.rf, rfl, rfl, rfl⟩
theorem OS.tr (h : OS n K e v u a) (k : OS n K e u w b) (h0 : 0 ≤ (v.1 0 15).toInt) : OS n K e v w (a ++ b) := ⟨k.1, h.2.1.tr k.2.1 h0, k.2.2.1.trans h.2.2.1, k.2.2.2.1.trans h.2.2.2.1, k.2.2.2.2.trans h.2.2.2.2⟩
theorem OS.kn (h : OS n K e v u a) : knM K u = knM K v := knM_of h.2.2.1 h.2.2.2.1
set_option maxHeartbeats 800000 in
theorem oRound {y : Int32 × MS} (hJ : XMj n K c3 O) (hH : HMJ n K c3 Os) (hs : Q_m_strength w by9) (J : JM n K e w) (l5 : 0 ≤ (w.1 0 47).toInt ∧ (w.1 0 47).toInt ≤ 1500) (l15 : 0 ≤ (w.1 0 15).toInt ∧ (w.1 0 15).toInt ≤ 10 * (w.1 0 47).toInt) (h0 : 0 < by9.toInt) (hf : (1501 : Int) ≤ f + (w.1 0 47).toInt + 1) (h : JRnd c3 w by9 y) : ∃ q r, O false e (knM K w) (gpb (e.1 (w.1 0 47)) (w.1 0 32)) (w.1 0 47 + 1) = some q ∧ gJ O f ((stg (e.1 (w.1 0 47))).toInt + 1) e (knM K w) (gpb (e.1 (w.1 0 47)) (w.1 0 32)) q.2.1 q.2.2 = some (r, y.2.1 0 47) ∧ OS n K e w y.2 (gSg (e.1 (w.1 0 47)) (gsl (knM K w) (w.1 0 32)) r) ∧ Q_m_strength y.2 y.1 ∧ (w.1 0 47).toInt + 1 ≤ (y.2.1 0 47).toInt := by
  obtain ⟨RR, q7, q8⟩ := jRound (g := g00) (f := f) hH hs J og00 l5.2 h0 hf h
  obtain ⟨z, hz, hv, hkd, hb⟩ := sg_of (g := g00) hs J h0
  have hkd : e.1 (w.1 0 47) = z.2 := hkd
  have at4 : ((w.1 0 47) + (1 : Int32)).toInt = (w.1 0 47).toInt + 1 := add_z rfl (by decide) (by omega) (by omega)
  have ss := stg_SC z hz
  have sb : (by9 + (1 : Int32)).toInt = by9.toInt + 1 := by
    have := ss.2.2.2
    rw [← hb] at this
    exact add_z rfl (by decide) (by omega) (by omega)
  rw [hkd]
  rcases h with ⟨h3, r19, u18, h1, k1, u22, h2, k2, h4, -, r33, -, r36, -, u65, h5, k5, r74, -, r77, -, u83, h6, k6, r93, h7, -, rfl⟩ | ⟨h3, h1, k1, h⟩
  · have s3 := ss.2.2.1 (by rw [← hb]; exact h3)
    have p22 : u22.1 0 47 = w.1 0 47 := (k2.2.1 47 (by decide)).trans (k1.1.2.1 47 (by decide))
    have a22 : u22.1 0 32 = w.1 0 32 := (k2.2.1 32 (by decide)).trans (k1.1.2.1 32 (by decide))
    have a30 : u22.1 0 30 = w.1 0 30 := (k2.2.1 30 (by decide)).trans (k1.1.2.1 30 (by decide))
    have a29 : u22.1 29 = w.1 29 := (k2.2.2 29 (by decide)).trans (k1.1.2.2 29 (by decide))
    have a15 : u22.1 0 15 = w.1 0 15 := (k2.2.1 15 (by decide)).trans (k1.1.2.1 15 (by decide))
    have J22 := (rRem (g := g00) h2 (rSlots (g := g00) (k := 0) h1 J).2.1).2
    have k53 := s3.2.2.1
    have J23 : JM n K e (wA u22 0 47 ((u22.1 0 47) + (1 : Int32))) := (rTake (g := g00) h4 J22 (by show 2 ≤ (e.1 (u22.1 0 47)).toInt; rw [p22, hkd]; omega)).jj
    have m1 : EMS (0 + 1) (wA u22 0 47 ((u22.1 0 47) + (1 : Int32))) (wA (wA (wA u22 0 47 ((u22.1 0 47) + (1 : Int32))) 11 ((u22.1 0 12).toNatClampNeg) r36) 0 12 ((u22.1 0 12) + (1 : Int32))) := EMS.o1 (EMS.wa EMS.rf (by decide)) rfl
    have J24 : JM n K e (wA (wA (wA (wA u22 0 47 ((u22.1 0 47) + (1 : Int32))) 11 ((u22.1 0 12).toNatClampNeg) r36) 0 12 ((u22.1 0 12) + (1 : Int32))) 0 32 ((u22.1 0 32) + (1 : Int32))) := (m1.j J23).w (by decide)
    obtain ⟨q, r, x1, x2, x3⟩ := hJ e _ u65 _ f h5 k5 J24 (by show 0 ≤ (u22.1 0 15).toInt; rw [a15]; exact l15.1) (by
      show (1501 : Int) ≤ f + ((u22.1 0 47) + (1 : Int32)).toInt
      rw [p22, at4]
      omega)
    have gp : gpb z.2 (w.1 0 32) = w.1 0 32 + 1 := by unfold gpb; rw [if_neg (fun t => t.elim s3.1 s3.2.1)]
    have kn : knM K (wA (wA (wA (wA u22 0 47 ((u22.1 0 47) + (1 : Int32))) 11 ((u22.1 0 12).toNatClampNeg) r36) 0 12 ((u22.1 0 12) + (1 : Int32))) 0 32 ((u22.1 0 32) + (1 : Int32))) = knM K w := knM_of a29 a30
    rw [kn] at x1 x2
    have x1 : O false e (knM K w) (u22.1 0 32 + 1) (u22.1 0 47 + 1) = some q := x1
    have x2 : gJ O f (by9 + (1 : Int32)).toInt e (knM K w) (u22.1 0 32 + 1) q.2.1 q.2.2 = some (r, u65.1 0 47) := x2
    rw [a22, p22] at x1
    rw [a22, sb, hb] at x2
    have A0 : OA K w u22 [] := (OA.fg (K := K) k1.1).nt (OA.fg (K := K) k2) l15.1
    have A1 : OA K u22 (wA (wA (wA (wA u22 0 47 ((u22.1 0 47) + (1 : Int32))) 11 ((u22.1 0 12).toNatClampNeg) r36) 0 12 ((u22.1 0 12) + (1 : Int32))) 0 32 ((u22.1 0 32) + (1 : Int32))) [] := OA.sm rfl rfl rfl rfl rfl rfl rfl rfl
    have A2 : OA K u65 (wA (wA (wA u65 0 32 ((u65.1 0 32) - (1 : Int32))) 11 ((u65.1 0 12).toNatClampNeg) r77) 0 12 ((u65.1 0 12) + (1 : Int32))) [] := OA.sm rfl rfl rfl rfl rfl rfl rfl rfl
    have B := (((((OA.no (K := K) (q := evx 4 (gsl (knM K w) (w.1 0 32)) 0) rfl l15.1).nt A0 l15.1).nt A1 l15.1).tr x3.2.1 l15.1).nt A2 l15.1).tr (oOper (K := K) (s := gsl (knM K w) (w.1 0 32)) hz hv.symm h6) l15.1
    have p83 : u83.1 0 47 = u65.1 0 47 := (k6.1.2.1 47 (by decide)).trans rfl
    refine ⟨q, r, by rw [gp]; exact x1, by rw [gp, x2, p83], ⟨RR.jj, ?_, ?_, ?_, ?_⟩, q7, q8⟩
    · unfold gSg
      rw [if_neg s3.1, if_neg s3.2.1]
      exact B
    · rw [k6.1.2.2 29 (by decide)]
      show u65.1 29 = _
      rw [x3.2.2.1]
      exact a29
    · rw [k6.1.2.1 30 (by decide)]
      show u65.1 0 30 = _
      rw [x3.2.2.2.1]
      exact a30
    · rw [k6.1.2.1 32 (by decide)]
      show u65.1 0 32 - 1 = _
      rw [x3.2.2.2.2]
      show u22.1 0 32 + 1 - 1 = _
      rw [a22, Int32.add_sub_cancel]
  · have s := s_12 hz hb h0 h3
    have kk : 2 ≤ (e.1 (w.1 0 47)).toInt := by
      rw [hkd]
      by_cases t : by9.toInt = 1
      · rw [s.2 t]; decide
      · rw [s.1 t]; decide
    have JT : JM n K e (wA w 0 47 ((w.1 0 47) + (1 : Int32))) := (rTake (g := g00) h1 J kk).jj
    have A0 : OA K w (wA w 0 47 ((w.1 0 47) + (1 : Int32))) [] := OA.w0
    have gp : gpb z.2 (w.1 0 32) = w.1 0 32 := by
      unfold gpb
      by_cases t : by9.toInt = 1
      · rw [if_pos (Or.inr (by rw [s.2 t]; decide))]
      · rw [if_pos (Or.inl (by rw [s.1 t]; decide))]
    rcases h with ⟨c1, u110, h2, k2, r116, h7, -, rfl⟩ | ⟨c1, u124, h2, k2, r130, h7, -, rfl⟩
    · obtain ⟨q, r, x1, x2, x3⟩ := oBoth (f := f) hJ h2 JT (by show (1501 : Int) ≤ f + ((w.1 0 47) + (1 : Int32)).toInt; rw [at4]; omega)
      have x1 : O false e (knM K w) (w.1 0 32) (w.1 0 47 + 1) = some q := x1
      have x2 : gJ O f (by9 + (1 : Int32)).toInt e (knM K w) (w.1 0 32) q.2.1 q.2.2 = some (r, u110.1 0 47) := x2
      rw [sb, hb] at x2
      refine ⟨q, r, by rw [gp]; exact x1, by rw [gp]; exact x2, ⟨RR.jj, ?_, x3.2.2.1, x3.2.2.2.1, x3.2.2.2.2⟩, q7, q8⟩
      have T := A0.tn x3.2.1 l15.1
      rw [if_pos (by decide)] at T
      unfold gSg
      rw [if_pos (by rw [s.1 c1]; decide)]
      exact T
    · obtain ⟨q, r, x1, x2, x3⟩ := oBoth (f := f) hJ h2 JT (by show (1501 : Int) ≤ f + ((w.1 0 47) + (1 : Int32)).toInt; rw [at4]; omega)
      have x1 : O false e (knM K w) (w.1 0 32) (w.1 0 47 + 1) = some q := x1
      have x2 : gJ O f (by9 + (1 : Int32)).toInt e (knM K w) (w.1 0 32) q.2.1 q.2.2 = some (r, u124.1 0 47) := x2
      rw [sb, hb] at x2
      refine ⟨q, r, by rw [gp]; exact x1, by rw [gp]; exact x2, ⟨RR.jj, ?_, x3.2.2.1, x3.2.2.2.1, x3.2.2.2.2⟩, q7, q8⟩
      have T := A0.tn x3.2.1 l15.1
      rw [if_neg (by decide)] at T
      unfold gSg
      rw [if_neg (by rw [s.2 c1]; decide), if_pos (by rw [s.2 c1]; decide)]
      exact T
/-- the loop, from a state on -/
def OJI (n : Int) (K : TK) (e : PE) (O : EvO) (m : Int) (F : Nat) (v : MS) (y : Int32 × MS) : Prop := Q_m_strength y.2 y.1 ∧ ∃ a, OS n K e v y.2 a ∧ ∃ f : Nat, (1501 : Int) ≤ f + (y.2.1 0 47).toInt ∧ ∀ a0, gJ O F m e (knM K v) (v.1 0 32) a0 (v.1 0 47) = gJ O f m e (knM K v) (v.1 0 32) (a0 ++ a) (y.2.1 0 47)
theorem oStep {F : Nat} {a y : Int32 × MS} (hJ : XMj n K c3 O) (hH : HMJ n K c3 Os) (I : OJI n K e O m F v a) (h15 : 0 ≤ (v.1 0 15).toInt) (l5 : 0 ≤ (a.2.1 0 47).toInt ∧ (a.2.1 0 47).toInt ≤ 1500) (l15 : 0 ≤ (a.2.1 0 15).toInt ∧ (a.2.1 0 15).toInt ≤ 10 * (a.2.1 0 47).toInt) (hm : m ≤ a.1.toInt) (h0 : 0 < a.1.toInt) (h : JRnd c3 a.2 a.1 y) : OJI n K e O m F v y := by
  obtain ⟨hs, b, S, f, hf, hX⟩ := I
  obtain ⟨f0, rfl⟩ : ∃ f0, f = f0 + 1 := ⟨f - 1, by omega⟩
  have es := rStr (g := g00) hs S.1
  have es : a.1 = stg (e.1 (a.2.1 0 47)) := es
  obtain ⟨q, r, x1, x2, x3, x4, x5⟩ := oRound (f := f0) hJ hH hs S.1 l5 l15 h0 (by omega) h
  refine ⟨x4, _, S.tr x3 h15, f0, by omega, fun a0 => ?_⟩
  rw [hX a0]
  show (if (stg (e.1 (a.2.1 0 47))).toInt < m ∨ (stg (e.1 (a.2.1 0 47))).toInt ≤ 0 then _ else (O false e (knM K v) (gpb (e.1 (a.2.1 0 47)) (v.1 0 32)) (a.2.1 0 47 + 1)).bind _) = _
  rw [if_neg (by rw [← es]; omega)]
  rw [S.kn, S.2.2.2.2] at x1 x2 x3
  rw [x1, Option.bind_some]
  show (gJ O f0 ((stg (e.1 (a.2.1 0 47))).toInt + 1) e (knM K v) (gpb (e.1 (a.2.1 0 47)) (v.1 0 32)) q.2.1 q.2.2).bind _ = _
  rw [x2, Option.bind_some, gSign_e, S.kn, S.2.2.2.2, List.append_assoc]
theorem oEndJ {F : Nat} (I : OJI n K e O m F v (by9, w)) (hq : by9.toInt < m) (l5 : (w.1 0 47).toInt ≤ 1500) : ∃ r, OS n K e v w r ∧ ∀ a0, gJ O F m e (knM K v) (v.1 0 32) a0 (v.1 0 47) = some (a0 ++ r, w.1 0 47) := by
  obtain ⟨hs, b, S, f, hf, hX⟩ := I
  have hf : (1501 : Int) ≤ f + (w.1 0 47).toInt := hf
  have S : OS n K e v w b := S
  obtain ⟨f0, rfl⟩ : ∃ f0, f = f0 + 1 := ⟨f - 1, by omega⟩
  have es := rStr (g := g00) hs S.1
  have es : by9 = stg (e.1 (w.1 0 47)) := es
  refine ⟨b, S, fun a0 => ?_⟩
  rw [hX a0]
  show (if (stg (e.1 (w.1 0 47))).toInt < m ∨ (stg (e.1 (w.1 0 47))).toInt ≤ 0 then some (a0 ++ b, w.1 0 47) else _) = _
  rw [if_pos (Or.inl (by rw [← es]; exact hq))]
def XMo9 (n : Int) (K : TK) (c : RM1) (O : EvO) : Prop := ∀ (e : PE) (v u : MS), c v false u → K_m_operand v u → JM n K e v → 0 ≤ (v.1 0 15).toInt → ∃ a, O false e (knM K v) (v.1 0 32) (v.1 0 47) = some (false, a, u.1 0 47) ∧ OS n K e v u a
variable {oo : RM1}
set_option maxHeartbeats 800000 in
theorem oJoined (hO : XMo9 n K oo O) (hJ : XMj n K c3 O) (hH : HMJ n K c3 Os) (h : Q_m_joined oo c3 v pa pb false u) (J : JM n K e v) (hf : (1501 : Int) ≤ f + (v.1 0 47).toInt) : (pb.toInt ≠ 0 → ∃ r, OS n K e v u r ∧ ∀ a0, gJ O f pa.toInt e (knM K v) (v.1 0 32) a0 (v.1 0 47) = some (a0 ++ r, u.1 0 47)) ∧ (pb.toInt = 0 → ∃ q r, q.1 = false ∧ O false e (knM K v) (v.1 0 32) (v.1 0 47) = some q ∧ gJ O f pa.toInt e (knM K v) (v.1 0 32) q.2.1 q.2.2 = some (r, u.1 0 47) ∧ OS n K e v u r) := by
  obtain ⟨z1, z2, z3, z4, z5, z6, z15, z8, z9, z10, h⟩ := h
  rcases h with ⟨cb, r6, h6, -, by9, w13, hr, -, -, h47, -, -, g15, -, h39, -, -, h⟩ | ⟨cb, h⟩
  · refine ⟨fun _ => ?_, fun q => absurd q cb⟩
    have inv : OJI n K e O pa.toInt f v (by9, w13) := by
      refine RT.ind (OJI n K e O pa.toInt f v) hr ⟨h6, [], OS.rf J, f, hf, fun a0 => by rw [List.append_nil]⟩ ?_
      intro a y _ I hy
      obtain ⟨-, -, y47, -, -, y15, -, y39, -, -, q1, q2, hy⟩ := hy
      exact oStep hJ hH I z15.1 ⟨by omega, y47.2⟩ ⟨by omega, by omega⟩ q1 q2 hy
    rcases h with ⟨q, -, eu⟩ | ⟨q1, q2, h⟩
    · rw [eu]
      exact oEndJ inv q h47.2
    · exfalso
      rcases h with ⟨-, r19, u18, -, -, u22, -, -, ⟨u9, -, f9, -⟩ | ⟨-, -, r33, -, r36, -, u9, -, f9, -⟩⟩ | ⟨-, ⟨u9, -, f9, -⟩ | ⟨-, -, ⟨-, u9, -, f9, -⟩ | ⟨-, u9, -, f9, -⟩⟩⟩ <;> cases f9
  · refine ⟨fun q => absurd cb q, fun _ => ?_⟩
    rcases h with ⟨u9, -, f9, -⟩ | ⟨u133, h1, k1, r139, h6, -, by9, w13, hr, -, -, h47, -, -, g15, -, h39, -, -, h⟩
    · cases f9
    obtain ⟨a1, x1, x2⟩ := hO e v u133 h1 k1 J z15.1
    have p47 := k1.2.1.1
    have p15 := k1.2.2.2.2.1
    have inv : OJI n K e O pa.toInt f u133 (by9, w13) := by
      refine RT.ind (OJI n K e O pa.toInt f u133) hr ⟨h6, [], OS.rf x2.1, f, by show (1501 : Int) ≤ f + (u133.1 0 47).toInt; omega, fun a0 => by rw [List.append_nil]⟩ ?_
      intro a y _ I hy
      obtain ⟨-, -, y47, -, -, y15, -, y39, -, -, q1, q2, hy⟩ := hy
      exact oStep hJ hH I (by omega) ⟨by omega, y47.2⟩ ⟨by omega, by omega⟩ q1 q2 hy
    rcases h with ⟨q, -, eu⟩ | ⟨q1, q2, h⟩
    · rw [eu]
      obtain ⟨r, y1, y2⟩ := oEndJ inv q h47.2
      have y3 := y2 a1
      rw [x2.kn, x2.2.2.2.2] at y3
      exact ⟨(false, a1, u133.1 0 47), a1 ++ r, rfl, x1, y3, x2.tr y1 z15.1⟩
    · exfalso
      rcases h with ⟨-, r19, u18, -, -, u22, -, -, ⟨u9, -, f9, -⟩ | ⟨-, -, r33, -, r36, -, u9, -, f9, -⟩⟩ | ⟨-, ⟨u9, -, f9, -⟩ | ⟨-, -, ⟨-, u9, -, f9, -⟩ | ⟨-, u9, -, f9, -⟩⟩⟩ <;> cases f9
end WFJ
