/-! the reference: calls, whole -/
section MCB
variable {g : GM} {n : Int} {K : TK} {e : PE} {v u w x S : MS} {t st : Bool} {r pa pb na : Int32} {c : RM1} {E : FE}
set_option maxHeartbeats 400000 in
theorem rEnd {c0 : Nat} (hc : ovM S = true ∨ (c0 < (S.1 0 39).toNatClampNeg ∧ c0 ∉ g.2)) (h47 : u.1 0 47 = S.1 0 47) (h48 : u.1 0 48 = S.1 0 48) (h49 : u.1 0 49 = S.1 0 49) (h31 : u.1 0 31 = S.1 0 31) (h33 : u.1 0 33 = S.1 0 33) (h44 : u.1 0 44 = S.1 0 44) (h45 : u.1 0 45 = S.1 0 45) (h39 : u.1 0 39 = S.1 0 39) (h30 : u.1 0 30 = S.1 0 30) (h29 : u.1 29 = S.1 29) (h35 : u.1 35 = S.1 35) (h32 : u.1 0 32 = S.1 0 32 - na) (h36 : u.1 36 = upd (S.1 36) c0 na) (h12 : u.1 0 12 = S.1 0 12 + (if na = 0 then 1 else 2)) : aR g K u = tEndCall c0 na (sPb (aR (gQ g c0) K S) (S.1 0 32 - na)) := by
  have ov : ovM u = ovM S := by unfold ovM; rw [h39]
  have kn : knM K u = knM K S := by unfold knM; rw [h30, h29]
  unfold tEndCall
  show _ = if ovM S = true then _ else _
  by_cases o : ovM S = true
  · rw [if_pos o]
    have o2 : ovM u = true := ov.trans o
    refine aR_eq h47 h48 ?_ h31 h32 ?_ ?_ ?_ rfl (ov.trans rfl) ?_ h30 kn ?_
    · rw [h49, h47]; rfl
    · rw [h49, h47, h33]; rfl
    · rw [h44]; rfl
    · rw [h45]; rfl
    · rw [if_pos o2]
      exact (if_pos o).symm
    · rw [caM_cas, if_pos o2]
      exact (if_pos o).symm
  · rw [if_neg o]
    have o2 : ¬ ovM u = true := by rw [ov]; exact o
    have of : ovM S = false := by
      cases q : ovM S with
      | false => rfl
      | true => exact absurd q o
    obtain ⟨q1, q2⟩ := hc.resolve_left o
    refine aR_eq h47 h48 ?_ h31 h32 ?_ ?_ ?_ rfl (ov.trans of) ?_ h30 kn ?_
    · rw [h49, h47]; rfl
    · rw [h49, h47, h33]; rfl
    · rw [h44]; rfl
    · rw [h45]; rfl
    · rw [if_neg o2, h12]
      show _ = (if ovM S = true then 0 else S.1 0 12) + _
      rw [if_neg o]
    · show caM g.2 K u = setA (caM (c0 :: g.2) K S) c0 na
      rw [caM_cas, caM_cas, if_neg o2, if_neg o, h39, h35, h36]
      rw [← cas_out (O := g.2) (f := fun c => K.2.1 (S.1 35 c)) (g := fun c => K.2.2 (S.1 35 c)) (h := upd (S.1 36) c0 na) (n := na) q2 updS _ q1]
      congr 1
      exact cas_cg (fun j hj => ⟨rfl, rfl, Iff.rfl, fun w => updN_ (fun q => w (by rw [q]; exact List.mem_cons_self))⟩)
/-- one argument: what it does -/
theorem rArg1 {u137 u153 : MS} {r163 : Int32} (hE : HME n K c E) (J : JM n K e w) (og : OGM g w) (hn : 0 ≤ na.toInt ∧ na.toInt ≤ 8) (hs : (na.toInt ≠ 8 ∧ ∃ r, Q_m_slots w 1 r u137) ∨ (na.toInt = 8 ∧ ∃ r, Q_m_slots (wA w 0 49 (w.1 0 47)) 1 r u137)) (g39 : u137.1 0 39 = w.1 0 39) (h : c u137 false u153) (k : K_m_expression u137 u153) : E true e (tDue na (aR g K w)) = .ok (aR g K u153) ∧ sPb (em 1 (aR g K u153)) (pPb (aR g K u153) + 1) = aR g K (wA (wA (wA u153 11 ((u153.1 0 12).toNatClampNeg) r163) 0 12 ((u153.1 0 12) + (1 : Int32))) 0 32 ((u153.1 0 32) + (1 : Int32))) ∧ JM n K e (wA (wA (wA u153 11 ((u153.1 0 12).toNatClampNeg) r163) 0 12 ((u153.1 0 12) + (1 : Int32))) 0 32 ((u153.1 0 32) + (1 : Int32))) ∧ OGM g u153 := by
  have D := rDue (g := g) hs hn J
  have a := hE g e u137 false u153 h (fun _ => k) D.2 (og.of g39)
  have e1 : EMS 1 u153 (wA (wA u153 11 ((u153.1 0 12).toNatClampNeg) r163) 0 12 ((u153.1 0 12) + (1 : Int32))) := EMS.o1 (EMS.wa EMS.rf (by decide)) rfl
  refine ⟨by rw [← D.1]; exact a.eo, ?_, (e1.j a.jj).w (by decide), (og.of g39).le k.2.2.2.2.2.2.1.1⟩
  rw [aR_pb, e1.a]
  rfl
theorem rArgX {u137 : MS} (hE : HME n K c E) (J : JM n K e w) (og : OGM g w) (hn : 0 ≤ na.toInt ∧ na.toInt ≤ 8) (hs : (na.toInt ≠ 8 ∧ ∃ r, Q_m_slots w 1 r u137) ∨ (na.toInt = 8 ∧ ∃ r, Q_m_slots (wA w 0 49 (w.1 0 47)) 1 r u137)) (g39 : u137.1 0 39 = w.1 0 39) (h : c u137 true u) : E true e (tDue na (aR g K w)) = .error (u.1 0 50, u.1 0 51) := by
  have D := rDue (g := g) hs hn J
  rw [← D.1]
  exact (hE g e u137 true u h nom D.2 (og.of g39)).er
/-- arguments one after the other -/
def AInv (g : GM) (n : Int) (K : TK) (e : PE) (E : FE) (X : PX (Int32 × PS)) (y : Int32 × Int32 × MS) : Prop := JM n K e y.2.2 ∧ OGM g y.2.2 ∧ ((y.2.1.toInt ≠ 0 ∧ ∃ f : Nat, X = tArgs E f y.1 e (aR g K y.2.2) ∧ (1501 : Int) ≤ f + (y.2.2.1 0 47).toInt) ∨ (y.2.1.toInt = 0 ∧ X = .ok (y.1, aR g K y.2.2)))
set_option maxHeartbeats 800000 in
theorem rArgL {X : PX (Int32 × PS)} {a b : Int32 × Int32 × MS} (hE : HME n K c E) (h : Q_m_call_L0 c v a b) (I : AInv g n K e E X a) : AInv g n K e E X b := by
  obtain ⟨J, og, I⟩ := I
  obtain ⟨-, hn, h47, -, -, -, -, -, -, -, c0, h⟩ := h
  obtain ⟨f, hf, hm⟩ : ∃ f : Nat, X = tArgs E f a.1 e (aR g K a.2.2) ∧ (1501 : Int) ≤ f + (a.2.2.1 0 47).toInt := by
    rcases I with ⟨-, q⟩ | ⟨q, -⟩
    · exact q
    · exact absurd q c0
  obtain ⟨f0, rfl⟩ : ∃ f0, f = f0 + 1 := ⟨f - 1, by omega⟩
  have ea : (a.1 + (1 : Int32)).toInt = a.1.toInt + 1 := add_z rfl (by decide) (by omega) (by omega)
  have main : ∀ {u137 u153 : MS} {r163 r172 : Int32}, ((a.1.toInt ≠ 8 ∧ ∃ r, Q_m_slots a.2.2 1 r u137) ∨ (a.1.toInt = 8 ∧ ∃ r, Q_m_slots (wA a.2.2 0 49 (a.2.2.1 0 47)) 1 r u137)) → u137.1 0 39 = a.2.2.1 0 39 → u137.1 0 47 = a.2.2.1 0 47 → c u137 false u153 → K_m_expression u137 u153 → Q_m_is (wA (wA (wA u153 11 ((u153.1 0 12).toNatClampNeg) r163) 0 12 ((u153.1 0 12) + (1 : Int32))) 0 32 ((u153.1 0 32) + (1 : Int32))) 44 r172 → ((r172.toInt = 0 ∧ b = ((a.1 + (1 : Int32)), r172, (wA (wA (wA u153 11 ((u153.1 0 12).toNatClampNeg) r163) 0 12 ((u153.1 0 12) + (1 : Int32))) 0 32 ((u153.1 0 32) + (1 : Int32))))) ∨ (r172.toInt ≠ 0 ∧ Q_m_take (wA (wA (wA u153 11 ((u153.1 0 12).toNatClampNeg) r163) 0 12 ((u153.1 0 12) + (1 : Int32))) 0 32 ((u153.1 0 32) + (1 : Int32))) false (wA (wA (wA (wA u153 11 ((u153.1 0 12).toNatClampNeg) r163) 0 12 ((u153.1 0 12) + (1 : Int32))) 0 32 ((u153.1 0 32) + (1 : Int32))) 0 47 ((u153.1 0 47) + (1 : Int32))) ∧ b = ((a.1 + (1 : Int32)), r172, (wA (wA (wA (wA u153 11 ((u153.1 0 12).toNatClampNeg) r163) 0 12 ((u153.1 0 12) + (1 : Int32))) 0 32 ((u153.1 0 32) + (1 : Int32))) 0 47 ((u153.1 0 47) + (1 : Int32)))))) → AInv g n K e E X b := by
    intro u137 u153 r163 r172 hs g39 g47 h1 k1 h2 h
    obtain ⟨A1, A2, A3, A4⟩ := rArg1 (r163 := r163) hE J og hn hs g39 h1 k1
    have i2 := rIs (g := g) h2 A3 (q := (44, 37)) (by decide) rfl
    have e37 : kd e (aR g K (wA (wA (wA u153 11 ((u153.1 0 12).toNatClampNeg) r163) 0 12 ((u153.1 0 12) + (1 : Int32))) 0 32 ((u153.1 0 32) + (1 : Int32)))) = 37 ↔ (kd e (aR g K (wA (wA (wA u153 11 ((u153.1 0 12).toNatClampNeg) r163) 0 12 ((u153.1 0 12) + (1 : Int32))) 0 32 ((u153.1 0 32) + (1 : Int32))))).toInt = 37 := ⟨fun q => by rw [q]; decide, fun q => Int32.toInt_inj.mp (q.trans (by decide))⟩
    have p47 := k1.2.1
    rw [g47] at p47
    have X1 : X = (fun s => if (kd e s).toInt = 37 then bd (tTake e s) (tArgs E f0 (a.1 + 1) e) else .ok (a.1 + 1, s)) (aR g K (wA (wA (wA u153 11 ((u153.1 0 12).toNatClampNeg) r163) 0 12 ((u153.1 0 12) + (1 : Int32))) 0 32 ((u153.1 0 32) + (1 : Int32)))) := by
      rw [hf]
      show bd (E true e (tDue a.1 (aR g K a.2.2))) _ = _
      rw [A1, bd_ok, A2]
    rcases h with ⟨c1, rfl⟩ | ⟨c1, h3, rfl⟩
    · refine ⟨A3, A4.of rfl, Or.inr ⟨c1, ?_⟩⟩
      rw [X1]
      exact if_neg (fun q => i2.mpr (e37.mpr q) c1)
    · have q37 := e37.mp (i2.mp c1)
      have T := rTake (g := g) h3 A3 (by rw [q37]; decide)
      refine ⟨T.jj, A4.of rfl, Or.inl ⟨c1, f0, ?_, ?_⟩⟩
      · rw [X1]
        show (if _ then bd (tTake e _) _ else _) = _
        rw [if_pos q37, T.eo, bd_ok]
      · show (1501 : Int) ≤ f0 + ((u153.1 0 47) + (1 : Int32)).toInt
        have zz := J.2.2.2.1.2.1
        have : ((u153.1 0 47) + (1 : Int32)).toInt = (u153.1 0 47).toInt + 1 := add_z rfl (by decide) (by omega) (by omega)
        omega
  rcases h with ⟨c8, r138, u137, h1, k1, u153, h2, k2, r160, -, r163, -, r172, h3, -, h⟩ | ⟨c8, r138, u137, h1, k1, u153, h2, k2, r160, -, r163, -, r172, h3, -, h⟩
  · refine main (Or.inl ⟨c8, r138, h1⟩) (FG.q39 k1.1 (by decide)) (k1.1.2.1 47 (by decide)) h2 k2 h3 ?_
    rcases h with h | ⟨q, h4, -, h5⟩
    · exact Or.inl h
    · exact Or.inr ⟨q, h4, h5⟩
  · refine main (Or.inr ⟨c8, r138, h1⟩) ((k1.1.2.1 39 (by decide)).trans rfl) ((k1.1.2.1 47 (by decide)).trans rfl) h2 k2 h3 ?_
    rcases h with h | ⟨q, h4, -, h5⟩
    · exact Or.inl h
    · exact Or.inr ⟨q, h4, h5⟩
end MCB
