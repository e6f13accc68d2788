/-! the reference: a call -/
section MCC
variable {g : GM} {n : Int} {K : TK} {e : PE} {v u w x S : MS} {t st : Bool} {r pa pb na : Int32} {c : RM1} {E : FE}
theorem pAt_aR (g : GM) (K : TK) (w : MS) : pAt (aR g K w) = w.1 0 47 := rfl
theorem kd_aR {g' : GM} (h : w.1 0 47 = v.1 0 47) : kd e (aR g' K w) = kd e (aR g K v) := by unfold kd; rw [pAt_aR, pAt_aR, h]
theorem kb_aR {g' : GM} (h : w.1 0 47 = v.1 0 47 + 1) : kd e (aR g' K w) = kb e (aR g K v) := by unfold kd kb; rw [pAt_aR, pAt_aR, h]
theorem gfd_nm (h30 : (kb e (aR g K v)).toInt = 30) (h : 0 ≤ fnd (pKn (aR g K v)) (vl e (aR g K v)) ∨ gfd e (vl e (aR g K v)) ≠ none) : tNamed E st e (aR g K v) = .error (3, pl e (aR g K v)) := by
  unfold tNamed
  rw [if_pos h30]
  by_cases q : 0 ≤ fnd (pKn (aR g K v)) (vl e (aR g K v))
  · exact if_pos (Or.inl (decide_eq_true q))
  · refine if_pos (Or.inr ?_)
    rw [if_neg (by rw [decide_eq_false q]; decide)]
    exact h.resolve_left q
theorem call_nm (h30 : (kb e (aR g K v)).toInt = 30) (h1 : ¬ 0 ≤ fnd (pKn (aR g K v)) (vl e (aR g K v))) (h2 : gfd e (vl e (aR g K v)) = none) : tNamed E st e (aR g K v) = bd (tCall E e (aR g K v)) fun s => .ok (false, s) := by
  unfold tNamed
  rw [if_pos h30]
  refine if_neg ?_
  rintro (q | q)
  · exact h1 (of_decide_eq_true q)
  · rw [if_neg (by rw [decide_eq_false h1]; decide)] at q
    exact q h2
set_option maxHeartbeats 800000 in
theorem rFin1 {c0 i1 i2 i3 : Nat} {x1 x2 x3 x4 x5 x6 y1 y2 : Int32} (hc : ovM S = true ∨ (c0 < (S.1 0 39).toNatClampNeg ∧ c0 ∉ g.2)) (JS : JM n K e S) (h0 : na = 0) (hy1 : y1 = S.1 0 32 - na) (hy2 : y2 = S.1 0 12 + 1) (hu : u = wA (wA (wA (wA (wA (wA (wA (wA (wA S 0 32 y1) 36 c0 na) 11 i1 x1) 0 12 y2) 37 c0 x2) 13 i2 x3) 14 i3 x4) 0 15 x5) 38 c0 x6) : aR g K u = tEndCall c0 na (sPb (aR (gQ g c0) K S) (S.1 0 32 - na)) ∧ JM n K e u := by
  constructor
  · refine rEnd hc ?_ ?_ ?_ ?_ ?_ ?_ ?_ ?_ ?_ ?_ ?_ ?_ ?_ ?_ <;> rw [hu]
    all_goals first | rfl | exact hy1 | (show y2 = _; rw [hy2, h0]; rfl)
  · have J4 := JS.2.2.2.1
    rw [hu]
    refine JS.of rfl (fun a ha => ?_) rfl rfl ⟨J4.1, J4.2.1, J4.2.2.1⟩
    have hn : ∀ b ∈ [3, 6, 7, 8, 10, 23, 26, 29, 35], b ≠ 0 ∧ b ≠ 36 ∧ b ≠ 11 ∧ b ≠ 37 ∧ b ≠ 13 ∧ b ≠ 14 ∧ b ≠ 38 := by decide
    have q := hn a ha
    exact (if_neg q.2.2.2.2.2.2).trans ((if_neg q.1).trans ((if_neg q.2.2.2.2.2.1).trans ((if_neg q.2.2.2.2.1).trans ((if_neg q.2.2.2.1).trans ((if_neg q.1).trans ((if_neg q.2.2.1).trans ((if_neg q.2.1).trans (if_neg q.1))))))))
set_option maxHeartbeats 800000 in
theorem rFin2 {c0 i1 i4 i2 i3 : Nat} {x1 x2 x3 x4 x5 x6 x7 y1 y2 y3 : Int32} (hc : ovM S = true ∨ (c0 < (S.1 0 39).toNatClampNeg ∧ c0 ∉ g.2)) (JS : JM n K e S) (h0 : na ≠ 0) (hy1 : y1 = S.1 0 32 - na) (hy3 : y3 = S.1 0 12 + 1 + 1) (hu : u = wA (wA (wA (wA (wA (wA (wA (wA (wA (wA (wA S 0 32 y1) 36 c0 na) 11 i1 x1) 0 12 y2) 11 i4 x7) 0 12 y3) 37 c0 x2) 13 i2 x3) 14 i3 x4) 0 15 x5) 38 c0 x6) : aR g K u = tEndCall c0 na (sPb (aR (gQ g c0) K S) (S.1 0 32 - na)) ∧ JM n K e u := by
  constructor
  · refine rEnd hc ?_ ?_ ?_ ?_ ?_ ?_ ?_ ?_ ?_ ?_ ?_ ?_ ?_ ?_ <;> rw [hu]
    all_goals first | rfl | exact hy1 | (show y3 = _; rw [hy3, if_neg h0, Int32.add_assoc]; rfl)
  · have J4 := JS.2.2.2.1
    rw [hu]
    refine JS.of rfl (fun a ha => ?_) rfl rfl ⟨J4.1, J4.2.1, J4.2.2.1⟩
    have hn : ∀ b ∈ [3, 6, 7, 8, 10, 23, 26, 29, 35], b ≠ 0 ∧ b ≠ 36 ∧ b ≠ 11 ∧ b ≠ 37 ∧ b ≠ 13 ∧ b ≠ 14 ∧ b ≠ 38 := by decide
    have q := hn a ha
    exact (if_neg q.2.2.2.2.2.2).trans ((if_neg q.1).trans ((if_neg q.2.2.2.2.2.1).trans ((if_neg q.2.2.2.2.1).trans ((if_neg q.2.2.2.1).trans ((if_neg q.1).trans ((if_neg q.2.2.1).trans ((if_neg q.1).trans ((if_neg q.2.2.1).trans ((if_neg q.2.1).trans (if_neg q.1))))))))))
set_option maxHeartbeats 1600000 in
theorem rCall (hE : HME n K c E) (h : Q_m_call c v t u) (J : JM n K e v) (og : OGM g v) (hk : kd e (aR g K v) = 2) (h30 : (kb e (aR g K v)).toInt = 30) : OKP g n K e (tNamed E st e) v t u := by
  obtain ⟨z47, -, -, -, -, z12, z15, z43, z39, z27, r3, h3, -, h⟩ := h
  have hk2 : 2 ≤ (kd e (aR g K v)).toInt := by rw [hk]; decide
  have L := rLocal (g := g) h3 J (rNT J hk)
  rw [← rVl (g := g) J] at L
  unfold OKP
  rcases h with ⟨c3, rfl, rfl⟩ | ⟨c3, r12, h12, -, h⟩
  · rw [gfd_nm h30 (Or.inl (by rw [← L]; exact c3)), fl_er J]
    exact Or.inr ⟨rfl, rfl⟩
  have G := rGlobal h12 J (rNT J hk)
  rw [← rVl (g := g) J] at G
  rcases h with ⟨c12, h⟩ | ⟨c12, rfl, rfl⟩
  · have G2 : gfd e (vl e (aR g K v)) = none := by
      rcases G with ⟨-, q⟩ | ⟨q, -⟩
      · exact q
      · omega
    rw [call_nm h30 (by rw [← L]; omega) G2]
    unfold tCall
    have A := rAddCall (g := g) J ⟨z39.1, by omega⟩
    rw [← A]
    have nz := natI z39.1
    have e39 : (v.1 0 39 + 1).toInt = (v.1 0 39).toInt + 1 := add_z rfl (by decide) (by omega) (by omega)
    have J1 : JM n K e (wA (wA v 0 39 ((v.1 0 39) + (1 : Int32))) 35 ((v.1 0 39).toNatClampNeg) (v.1 0 47)) := by
      have J9 := J
      obtain ⟨T, he, nd, J4, J5, J6, J7⟩ := J9
      refine ⟨T.of rfl rfl rfl rfl rfl rfl, he, nd, J4, J5, J6, fun k hk9 => ?_⟩
      have hk9 : (k : Int) < (v.1 0 39 + 1).toInt := hk9
      show NT n K (upd (v.1 35) (v.1 0 39).toNatClampNeg (v.1 0 47) k)
      by_cases q : k = (v.1 0 39).toNatClampNeg
      · rw [q, updS]; exact rNT J hk
      · rw [updN_ q]; exact J7 k (by omega)
    have og1 : OGM (gQ g (v.1 0 39).toNatClampNeg) (wA (wA v 0 39 ((v.1 0 39) + (1 : Int32))) 35 ((v.1 0 39).toNatClampNeg) (v.1 0 47)) := by
      rcases og with o | o
      · exact Or.inl (decide_eq_true (by have := of_decide_eq_true o; show (501 : Int) ≤ (v.1 0 39 + 1).toInt; omega))
      · refine Or.inr (fun c hc => ?_)
        show (c : Int) < (v.1 0 39 + 1).toInt
        rcases List.mem_cons.mp hc with q | q
        · omega
        · have := o c q
          omega
    have cl : ∀ {w : MS} {na : Int32}, JM n K e w → (v.1 0 39).toInt ≤ (w.1 0 39).toInt → 0 ≤ na.toInt → ∀ {u : MS}, (Q_m_close w 41 true u → bd (bd (tExp 31 e (aR (gQ g (v.1 0 39).toNatClampNeg) K w)) fun s3 => (.ok (tEndCall (pCa (aR g K v)).length na (sPb (tClose s3) (pPb s3 - na))) : PX PS)) (fun s => (.ok (false, s) : PX (Bool × PS))) = .error (u.1 0 50, u.1 0 51)) ∧ (Q_m_close w 41 false (wA (wA w 0 47 ((w.1 0 47) + (1 : Int32))) 0 48 ((w.1 0 48) - (1 : Int32))) → (aR g K u = tEndCall (v.1 0 39).toNatClampNeg na (sPb (aR (gQ g (v.1 0 39).toNatClampNeg) K (wA (wA w 0 47 ((w.1 0 47) + (1 : Int32))) 0 48 ((w.1 0 48) - (1 : Int32)))) (w.1 0 32 - na))) → bd (bd (tExp 31 e (aR (gQ g (v.1 0 39).toNatClampNeg) K w)) fun s3 => (.ok (tEndCall (pCa (aR g K v)).length na (sPb (tClose s3) (pPb s3 - na))) : PX PS)) (fun s => (.ok (false, s) : PX (Bool × PS))) = .ok (false, aR g K u) ∧ JM n K e (wA (wA w 0 47 ((w.1 0 47) + (1 : Int32))) 0 48 ((w.1 0 48) - (1 : Int32)))) := by
      intro w na Jw l39 hna u
      have B : ∀ {t : Bool} {x : MS}, Q_m_close w 41 t x → OKR (gQ g (v.1 0 39).toNatClampNeg) n K e (fun s => bd (tExp 31 e s) fun s => .ok (tClose s)) w t x := fun hc => rClose (q := (41, 31)) (m := 31) hc Jw (by decide) rfl (by decide)
      constructor
      · intro hc
        have b := (B hc).er
        cases X : tExp 31 e (aR (gQ g (v.1 0 39).toNatClampNeg) K w) with
        | ok s =>
          have b' : (bd (tExp 31 e (aR (gQ g (v.1 0 39).toNatClampNeg) K w)) fun s => (.ok (tClose s) : PX PS)) = .error (u.1 0 50, u.1 0 51) := b
          rw [X, bd_ok] at b'
          cases b'
        | error k =>
          have b' : (bd (tExp 31 e (aR (gQ g (v.1 0 39).toNatClampNeg) K w)) fun s => (.ok (tClose s) : PX PS)) = .error (u.1 0 50, u.1 0 51) := b
          rw [X, bd_er] at b'
          injection b' with b'
          rw [bd_er, bd_er, b']
      · intro hc hu
        have b := (B hc).eo
        refine ⟨?_, (B hc).jj⟩
        have b' : (bd (tExp 31 e (aR (gQ g (v.1 0 39).toNatClampNeg) K w)) fun s => (.ok (tClose s) : PX PS)) = .ok (aR (gQ g (v.1 0 39).toNatClampNeg) K (wA (wA w 0 47 ((w.1 0 47) + (1 : Int32))) 0 48 ((w.1 0 48) - (1 : Int32)))) := b
        cases X : tExp 31 e (aR (gQ g (v.1 0 39).toNatClampNeg) K w) with
        | error k =>
          rw [X, bd_er] at b'
          cases b'
        | ok s =>
          rw [X, bd_ok] at b'
          injection b' with b'
          rw [bd_ok, bd_ok, hu, ← b']
          have ps : pPb s = w.1 0 32 := congrArg pPb b'
          rw [ps]
          by_cases o : ovM v = true
          · have oS : pOv (sPb (tClose s) (w.1 0 32 - na)) = true := by
              have q : pOv (tClose s) = ovM w := congrArg pOv b'
              show pOv (tClose s) = true
              rw [q]
              exact decide_eq_true (by have := of_decide_eq_true o; omega)
            unfold tEndCall
            rw [if_pos oS, if_pos oS]
          · have len : (pCa (aR g K v)).length = (v.1 0 39).toNatClampNeg := by
              show (caM g.2 K v).length = _
              rw [caM_cas, if_neg o, cas_len]
            rw [len]
    have hk3 : 2 ≤ (kd e (aR (gQ g (v.1 0 39).toNatClampNeg) K (wA (wA v 0 39 ((v.1 0 39) + (1 : Int32))) 35 ((v.1 0 39).toNatClampNeg) (v.1 0 47)))).toInt := by
      have q : kd e (aR (gQ g (v.1 0 39).toNatClampNeg) K (wA (wA v 0 39 ((v.1 0 39) + (1 : Int32))) 35 ((v.1 0 39).toNatClampNeg) (v.1 0 47))) = kd e (aR g K v) := kd_aR rfl
      rw [q]
      exact hk2
    rcases h with ⟨u9, h1, rfl, rfl⟩ | ⟨h1, k1, h⟩
    · exact Or.inr ⟨rfl, by rw [(rTake (g := gQ g (v.1 0 39).toNatClampNeg) h1 J1 hk3).er, bd_er, bd_er]⟩
    have a1 := rTake (g := gQ g (v.1 0 39).toNatClampNeg) h1 J1 hk3
    rw [a1.eo, bd_ok]
    have k30 : (kd e (aR (gQ g (v.1 0 39).toNatClampNeg) K (wA (wA (wA v 0 39 ((v.1 0 39) + (1 : Int32))) 35 ((v.1 0 39).toNatClampNeg) (v.1 0 47)) 0 47 ((v.1 0 47) + (1 : Int32))))).toInt = ((40, 30) : Int32 × Int32).2.toInt := by
      have q : kd e (aR (gQ g (v.1 0 39).toNatClampNeg) K (wA (wA (wA v 0 39 ((v.1 0 39) + (1 : Int32))) 35 ((v.1 0 39).toNatClampNeg) (v.1 0 47)) 0 47 ((v.1 0 47) + (1 : Int32)))) = kb e (aR g K v) := kb_aR rfl
      rw [q, h30]
      decide
    rcases h with ⟨u9, h2, rfl, rfl⟩ | ⟨h2, k2, r29, h29, -, h⟩
    · exact Or.inr ⟨rfl, by rw [(rOpenK (g := gQ g (v.1 0 39).toNatClampNeg) h2 a1.jj (by decide) rfl k30).er, bd_er, bd_er]⟩
    have a2 := rOpenK (g := gQ g (v.1 0 39).toNatClampNeg) h2 a1.jj (by decide) rfl k30
    rw [a2.eo, bd_ok]
    have i29 := rIs (g := gQ g (v.1 0 39).toNatClampNeg) h29 a2.jj (q := (41, 31)) (by decide) rfl
    have e31 : ∀ s : PS, kd e s = 31 ↔ (kd e s).toInt = 31 := fun s => ⟨fun q => by rw [q]; decide, fun q => Int32.toInt_inj.mp (q.trans (by decide))⟩
    have cO : ∀ {w : MS}, OGM (gQ g (v.1 0 39).toNatClampNeg) w → (v.1 0 39).toInt ≤ (w.1 0 39).toInt → ovM w = true ∨ ((v.1 0 39).toNatClampNeg < (w.1 0 39).toNatClampNeg ∧ (v.1 0 39).toNatClampNeg ∉ g.2) := by
      intro w ogw l39
      rcases og with o | o
      · exact Or.inl (decide_eq_true (by have := of_decide_eq_true o; omega))
      · rcases ogw with q | q
        · exact Or.inl q
        · have l := q (v.1 0 39).toNatClampNeg List.mem_cons_self
          refine Or.inr ⟨by have := natI (a := w.1 0 39) (by omega); omega, fun q => ?_⟩
          have := o _ q
          omega
    have og2 : OGM (gQ g (v.1 0 39).toNatClampNeg) (wA (wA (wA (wA (wA v 0 39 ((v.1 0 39) + (1 : Int32))) 35 ((v.1 0 39).toNatClampNeg) (v.1 0 47)) 0 47 ((v.1 0 47) + (1 : Int32))) 0 47 (((v.1 0 47) + (1 : Int32)) + (1 : Int32))) 0 48 ((v.1 0 48) + (1 : Int32))) := og1.of rfl
    rcases h with ⟨c29, h⟩ | ⟨c29, na, mo, w91, hr, -, hna, h91, -, hmo, -, -, h39, -, -, h⟩
    · rw [if_pos ((e31 _).mp (i29.mp c29)), bd_ok]
      rcases h with ⟨u9, h4, rfl, rfl⟩ | ⟨h4, k4, u37, hu37, u55, hu55, rfl, rfl⟩
      · exact Or.inr ⟨rfl, ((cl (na := 0) a2.jj (by show (v.1 0 39).toInt ≤ (v.1 0 39 + 1).toInt; omega) (by decide)).1 h4)⟩
      · have l39 : (v.1 0 39).toInt ≤ (v.1 0 39 + 1).toInt := by omega
        have JS := (cl (na := 0) (u := u) a2.jj l39 (by decide)).2 h4
        have J37 : JM n K e u37 := by
          rw [hu37]
          exact (rClose (g := gQ g (v.1 0 39).toNatClampNeg) (q := (41, 31)) (m := 31) h4 a2.jj (by decide) rfl (by decide)).jj
        have o37 : u37.1 0 39 = v.1 0 39 + 1 := by rw [hu37]; rfl
        have F := rFin1 (g := g) (K := K) (n := n) (e := e) (na := 0) (S := u37) (u := u) (c0 := (v.1 0 39).toNatClampNeg) (cO (w := u37) (og2.of o37) (by rw [o37]; exact l39)) J37 rfl rfl rfl hu55
        have s32 : u37.1 0 32 = v.1 0 32 := by rw [hu37]; rfl
        rw [hu37, show ((wA (wA (wA (wA (wA (wA (wA v 0 39 ((v.1 0 39) + (1 : Int32))) 35 ((v.1 0 39).toNatClampNeg) (v.1 0 47)) 0 47 ((v.1 0 47) + (1 : Int32))) 0 47 (((v.1 0 47) + (1 : Int32)) + (1 : Int32))) 0 48 ((v.1 0 48) + (1 : Int32))) 0 47 ((((v.1 0 47) + (1 : Int32)) + (1 : Int32)) + (1 : Int32))) 0 48 (((v.1 0 48) + (1 : Int32)) - (1 : Int32))).1 0 32) = v.1 0 32 from rfl] at F
        exact Or.inl ⟨rfl, (JS F.1).1, F.2⟩
    · rw [if_neg (fun q => i29.mpr ((e31 _).mpr q) c29)]
      have e47 : ((v.1 0 47) + (1 : Int32) + 1).toInt = (v.1 0 47).toInt + 2 := by
        have q1 : ((v.1 0 47) + (1 : Int32)).toInt = (v.1 0 47).toInt + 1 := add_z rfl (by decide) (by omega) (by omega)
        have q2 : ((v.1 0 47) + (1 : Int32) + 1).toInt = ((v.1 0 47) + (1 : Int32)).toInt + 1 := add_z rfl (by decide) (by omega) (by omega)
        omega
      have inv : AInv (gQ g (v.1 0 39).toNatClampNeg) n K e E (tArgs E 1502 0 e (aR (gQ g (v.1 0 39).toNatClampNeg) K (wA (wA (wA (wA (wA v 0 39 ((v.1 0 39) + (1 : Int32))) 35 ((v.1 0 39).toNatClampNeg) (v.1 0 47)) 0 47 ((v.1 0 47) + (1 : Int32))) 0 47 (((v.1 0 47) + (1 : Int32)) + (1 : Int32))) 0 48 ((v.1 0 48) + (1 : Int32))))) (na, mo, w91) := by
        refine RT.ind (AInv (gQ g (v.1 0 39).toNatClampNeg) n K e E _) hr ⟨a2.jj, og2, Or.inl ⟨show (1 : Int32).toInt ≠ 0 by decide, 1502, rfl, ?_⟩⟩ (fun a b _ I h => rArgL hE h I)
        show (1501 : Int) ≤ 1502 + ((v.1 0 47) + (1 : Int32) + 1).toInt
        omega
      obtain ⟨Jw, ogw, I⟩ := inv
      have Jw : JM n K e w91 := Jw
      have ogw : OGM (gQ g (v.1 0 39).toNatClampNeg) w91 := ogw
      rcases h with ⟨cm, h⟩ | ⟨cm, h⟩
      · have X1 : tArgs E 1502 0 e (aR (gQ g (v.1 0 39).toNatClampNeg) K (wA (wA (wA (wA (wA v 0 39 ((v.1 0 39) + (1 : Int32))) 35 ((v.1 0 39).toNatClampNeg) (v.1 0 47)) 0 47 ((v.1 0 47) + (1 : Int32))) 0 47 (((v.1 0 47) + (1 : Int32)) + (1 : Int32))) 0 48 ((v.1 0 48) + (1 : Int32)))) = .ok (na, aR (gQ g (v.1 0 39).toNatClampNeg) K w91) := by
          rcases I with ⟨q, -⟩ | ⟨-, q⟩
          · exact absurd cm q
          · exact q
        rw [X1, bd_ok]
        have CL := @cl w91 na Jw h39.1 hna.1 u
        rcases h with ⟨u9, h4, rfl, rfl⟩ | ⟨h4, k4, h⟩
        · exact Or.inr ⟨rfl, CL.1 h4⟩
        have JS : JM n K e (wA (wA w91 0 47 ((w91.1 0 47) + (1 : Int32))) 0 48 ((w91.1 0 48) - (1 : Int32))) := (rClose (g := gQ g (v.1 0 39).toNatClampNeg) (q := (41, 31)) (m := 31) h4 Jw (by decide) rfl (by decide)).jj
        have ogS : OGM (gQ g (v.1 0 39).toNatClampNeg) (wA (wA w91 0 47 ((w91.1 0 47) + (1 : Int32))) 0 48 ((w91.1 0 48) - (1 : Int32))) := ogw.of rfl
        rcases h with ⟨cn, u90, hu90, rfl, rfl⟩ | ⟨cn, r104, -, r107, -, u121, hu121, rfl, rfl⟩
        · have n0 : na = 0 := Int32.toInt_inj.mp (by have : (0 : Int32).toInt = 0 := (by decide); omega)
          have F := rFin1 (g := g) (K := K) (n := n) (e := e) (na := na) (S := (wA (wA w91 0 47 ((w91.1 0 47) + (1 : Int32))) 0 48 ((w91.1 0 48) - (1 : Int32)))) (u := u) (c0 := (v.1 0 39).toNatClampNeg) (cO ogS h39.1) JS n0 rfl rfl hu90
          exact Or.inl ⟨rfl, (CL.2 h4 F.1).1, F.2⟩
        · have n0 : na ≠ 0 := fun q => by rw [q] at cn; exact absurd cn (by decide)
          have F := rFin2 (g := g) (K := K) (n := n) (e := e) (na := na) (S := (wA (wA w91 0 47 ((w91.1 0 47) + (1 : Int32))) 0 48 ((w91.1 0 48) - (1 : Int32)))) (u := u) (c0 := (v.1 0 39).toNatClampNeg) (cO ogS h39.1) JS n0 rfl rfl hu121
          exact Or.inl ⟨rfl, (CL.2 h4 F.1).1, F.2⟩
      · obtain ⟨f, hf, hm⟩ : ∃ f : Nat, tArgs E 1502 0 e (aR (gQ g (v.1 0 39).toNatClampNeg) K (wA (wA (wA (wA (wA v 0 39 ((v.1 0 39) + (1 : Int32))) 35 ((v.1 0 39).toNatClampNeg) (v.1 0 47)) 0 47 ((v.1 0 47) + (1 : Int32))) 0 47 (((v.1 0 47) + (1 : Int32)) + (1 : Int32))) 0 48 ((v.1 0 48) + (1 : Int32)))) = tArgs E f na e (aR (gQ g (v.1 0 39).toNatClampNeg) K w91) ∧ (1501 : Int) ≤ f + (w91.1 0 47).toInt := by
          rcases I with ⟨-, q⟩ | ⟨q, -⟩
          · exact q
          · exact absurd q cm
        obtain ⟨f0, rfl⟩ : ∃ f0, f = f0 + 1 := ⟨f - 1, by omega⟩
        rw [hf]
        have ex : ∀ {u137 : MS}, ((na.toInt ≠ 8 ∧ ∃ r, Q_m_slots w91 1 r u137) ∨ (na.toInt = 8 ∧ ∃ r, Q_m_slots (wA w91 0 49 (w91.1 0 47)) 1 r u137)) → u137.1 0 39 = w91.1 0 39 → ((∃ u9, c u137 true u9 ∧ t = true ∧ u = u9) ∨ (∃ u153, c u137 false u153 ∧ K_m_expression u137 u153 ∧ ∃ r160, Q_m_slotAt r160 r160 = Q_m_slotAt r160 r160 ∧ ∃ r163 r172, Q_m_is (wA (wA (wA u153 11 ((u153.1 0 12).toNatClampNeg) r163) 0 12 ((u153.1 0 12) + (1 : Int32))) 0 32 ((u153.1 0 32) + (1 : Int32))) 44 r172 ∧ r172.toInt ≠ 0 ∧ ∃ u9, Q_m_take (wA (wA (wA u153 11 ((u153.1 0 12).toNatClampNeg) r163) 0 12 ((u153.1 0 12) + (1 : Int32))) 0 32 ((u153.1 0 32) + (1 : Int32))) true u9 ∧ t = true ∧ u = u9)) → t = true ∧ tArgs E (f0 + 1) na e (aR (gQ g (v.1 0 39).toNatClampNeg) K w91) = .error (u.1 0 50, u.1 0 51) := by
          intro u137 hs g39 h
          rcases h with ⟨u9, h4, rfl, rfl⟩ | ⟨u153, h4, k4, r160, -, r163, r172, h5, c5, u9, h6, rfl, rfl⟩
          · refine ⟨rfl, ?_⟩
            show bd (E true e (tDue na (aR (gQ g (v.1 0 39).toNatClampNeg) K w91))) _ = _
            rw [rArgX hE Jw ogw hna hs g39 h4, bd_er]
          · obtain ⟨A1, A2, A3, A4⟩ := rArg1 (r163 := r163) hE Jw ogw hna hs g39 h4 k4
            have i2 := rIs (g := gQ g (v.1 0 39).toNatClampNeg) h5 A3 (q := (44, 37)) (by decide) rfl
            have q37 : (kd e (aR (gQ g (v.1 0 39).toNatClampNeg) K (wA (wA (wA u153 11 ((u153.1 0 12).toNatClampNeg) r163) 0 12 ((u153.1 0 12) + (1 : Int32))) 0 32 ((u153.1 0 32) + (1 : Int32))))).toInt = 37 := by rw [i2.mp c5]; decide
            refine ⟨rfl, ?_⟩
            show bd (E true e (tDue na (aR (gQ g (v.1 0 39).toNatClampNeg) K w91))) _ = _
            rw [A1, bd_ok, A2]
            show (if _ then bd (tTake e _) _ else _) = _
            rw [if_pos q37, (rTake (g := gQ g (v.1 0 39).toNatClampNeg) h6 A3 (by rw [q37]; decide)).er, bd_er]
        have done : t = true ∧ tArgs E (f0 + 1) na e (aR (gQ g (v.1 0 39).toNatClampNeg) K w91) = .error (u.1 0 50, u.1 0 51) := by
          rcases h with ⟨c8, r138, u137, h1, k1, h⟩ | ⟨c8, r138, u137, h1, k1, h⟩
          · refine ex (Or.inl ⟨c8, r138, h1⟩) (k1.1.2.1 39 (by decide)) ?_
            rcases h with h | ⟨u153, h4, k4, r160, -, r163, -, r172, h5, -, c5, h6⟩
            · exact Or.inl h
            · exact Or.inr ⟨u153, h4, k4, r160, rfl, r163, r172, h5, c5, h6⟩
          · refine ex (Or.inr ⟨c8, r138, h1⟩) ((k1.1.2.1 39 (by decide)).trans rfl) ?_
            rcases h with h | ⟨u153, h4, k4, r160, -, r163, -, r172, h5, -, c5, h6⟩
            · exact Or.inl h
            · exact Or.inr ⟨u153, h4, k4, r160, rfl, r163, r172, h5, c5, h6⟩
        exact Or.inr ⟨done.1, by rw [done.2, bd_er, bd_er]⟩
  · rw [gfd_nm h30 (Or.inr (by
      rcases G with ⟨q, -⟩ | ⟨-, -, q⟩
      · omega
      · rw [q]; exact fun w => (nomatch w))), fl_er J]
    exact Or.inr ⟨rfl, rfl⟩
end MCC
