/-! the reference: while, do -/
section MWH
variable {g : GM} {n : Int} {K : TK} {e : PE} {v u w x : MS} {t : Bool} {r pa pb : Int32} {c : RM1} {E : FE} {S : FS} {f : PS → PX PS} {k k' N cc : Nat} {m : Int}
theorem lpEnd {w1 w2 w3 : MS} (B : OKL g n K e f v false w1) (e1 : EMS cc w1 w2) (q52 : w2.1 0 52 = w1.1 0 52) (k1 : K_m_ends w2 w3) : aR g K w3 = em (Int32.ofNat cc) (aR g K w1) ∧ JM n K e w3 ∧ ZS v w3 ∧ ND w3 := by
  obtain ⟨J, Z, N⟩ := B.jj
  have e2 := (rEnds k1).1
  have e3 := e1.tr e2
  refine ⟨e3.a, e3.j J, ⟨?_, ?_, ?_⟩, nd_e e3 N⟩
  · rw [e3.2.2.1 30 (by decide)]
    exact Z.1
  · refine Int32.toInt_inj.mp ?_
    have := (rEnds k1).2
    rw [q52] at this
    omega
  · rw [e3.2.2.1 39 (by decide)]
    exact Z.2.2
theorem z52_b (h : Q_m_body k c v pa pb t u) : 0 ≤ (v.1 0 52).toInt ∧ (v.1 0 52).toInt ≤ 1000 := by
  obtain ⟨-, z48, -, -, -, -, -, -, -, -, -, -, z52, -, -⟩ := h
  omega
set_option maxHeartbeats 800000 in
theorem rWhile (hE : HME n K (QME k) E) (hS : HMS n K c S) (h : Q_m_rounds k c v t u) (J : JM n K e v) (g2 : g.2 = []) (hk : 2 ≤ (kd e (aR g K v)).toInt) : OKZ g n K e (tLoop 13 E S e) v t u := by
  obtain ⟨-, -, -, -, -, -, -, -, -, -, -, -, -, -, h⟩ := h
  unfold OKZ tLoop
  rcases h with ⟨u9, h1, rfl, rfl⟩ | ⟨h1, k1, h⟩
  · exact Or.inr ⟨rfl, by rw [(rOpens (g := g) h1 J hk).er, bd_er]⟩
  have a1 := rOpens (g := g) h1 J hk
  rw [a1.eo, bd_ok, if_pos rfl]
  unfold tWhile
  have e1 : EMS 0 (wA (wA v 0 47 ((v.1 0 47) + (1 : Int32))) 0 48 ((v.1 0 48) + (1 : Int32))) (wA (wA (wA (wA (wA v 0 47 ((v.1 0 47) + (1 : Int32))) 0 48 ((v.1 0 48) + (1 : Int32))) 13 ((v.1 0 15).toNatClampNeg) (13 : Int32)) 14 ((v.1 0 15).toNatClampNeg) (0 : Int32)) 0 15 ((v.1 0 15) + (1 : Int32))) := EMS.w0 (EMS.wa (EMS.wa EMS.rf (by decide)) (by decide)) (by decide)
  have q1 : aR g K (wA (wA v 0 47 ((v.1 0 47) + (1 : Int32))) 0 48 ((v.1 0 48) + (1 : Int32))) = aR g K (wA (wA (wA (wA (wA v 0 47 ((v.1 0 47) + (1 : Int32))) 0 48 ((v.1 0 48) + (1 : Int32))) 13 ((v.1 0 15).toNatClampNeg) (13 : Int32)) 14 ((v.1 0 15).toNatClampNeg) (0 : Int32)) 0 15 ((v.1 0 15) + (1 : Int32))) := by
    rw [e1.a]
    exact em_0.symm
  rw [q1]
  rcases h with ⟨u9, h2, rfl, rfl⟩ | ⟨r18, u17, h2, k2, h⟩
  · exact Or.inr ⟨rfl, by rw [rCondX (g := g) hE h2 (e1.j a1.jj) g2, bd_er, bd_er]⟩
  obtain ⟨s', c1, c2, J2, Z2, N2⟩ := rCondO (g := g) hE h2 (e1.j a1.jj) g2
  rw [c1, bd_ok, c2]
  rcases h with ⟨u9, h3, rfl, rfl⟩ | ⟨u33, h3, k3, x51, -, x70, -, u85, h4, k4, rfl, rfl⟩
  · exact Or.inr ⟨rfl, by rw [(rBody (g := g) hS h3 nom (z52_b h3) J2 g2 N2).er, bd_er, bd_er]⟩
  have B := rBody (g := g) hS h3 (fun _ => k3) (z52_b h3) J2 g2 N2
  rw [B.eo, bd_ok, bd_ok]
  have e2 : EMS 1 u33 (wA (wA (wA (wA (wA (wA (wA (wA u33 11 ((u33.1 0 12).toNatClampNeg) (0 : Int32)) 0 12 ((u33.1 0 12) + (1 : Int32))) 11 ((u33.1 0 12).toNatClampNeg) x51) 13 ((u33.1 0 15).toNatClampNeg) (12 : Int32)) 14 ((u33.1 0 15).toNatClampNeg) (v.1 0 15)) 0 15 ((u33.1 0 15) + (1 : Int32))) 11 r18.toNatClampNeg x70) 14 ((u17.1 0 60).toNatClampNeg) ((u33.1 0 15) + (1 : Int32))) := EMS.wa (EMS.wa (EMS.w0 (EMS.wa (EMS.wa (EMS.wa (EMS.o1 (EMS.wa EMS.rf (by decide)) rfl) (by decide)) (by decide)) (by decide)) (by decide)) (by decide)) (by decide)
  obtain ⟨q3, J3, Z3, N3⟩ := lpEnd B e2 rfl k4
  refine Or.inl ⟨rfl, ?_, J3.w (by decide), ?_, ndw N3⟩
  · rw [aR_cl, q3]
    rfl
  · exact ((ZS.of rfl rfl rfl : ZS v (wA (wA (wA (wA (wA v 0 47 ((v.1 0 47) + (1 : Int32))) 0 48 ((v.1 0 48) + (1 : Int32))) 13 ((v.1 0 15).toNatClampNeg) (13 : Int32)) 14 ((v.1 0 15).toNatClampNeg) (0 : Int32)) 0 15 ((v.1 0 15) + (1 : Int32)))).tr (Z2.tr Z3)).tr (ZS.of rfl rfl rfl)
set_option maxHeartbeats 1600000 in
theorem rDo (hE : HME n K (QME k) E) (hS : HMS n K c S) (h : Q_m_doing k c v t u) (J : JM n K e v) (g2 : g.2 = []) (hk : 2 ≤ (kd e (aR g K v)).toInt) : OKZ g n K e (tLoop 14 E S e) v t u := by
  obtain ⟨-, -, -, -, -, -, -, -, -, -, -, -, -, -, h⟩ := h
  unfold OKZ tLoop
  rcases h with ⟨u9, h1, rfl, rfl⟩ | ⟨h1, k1, h⟩
  · exact Or.inr ⟨rfl, by rw [(rOpens (g := g) h1 J hk).er, bd_er]⟩
  have a1 := rOpens (g := g) h1 J hk
  rw [a1.eo, bd_ok, if_neg (by decide), if_pos rfl]
  unfold tDo
  have e1 : EMS 0 (wA (wA v 0 47 ((v.1 0 47) + (1 : Int32))) 0 48 ((v.1 0 48) + (1 : Int32))) (wA (wA (wA (wA (wA v 0 47 ((v.1 0 47) + (1 : Int32))) 0 48 ((v.1 0 48) + (1 : Int32))) 13 ((v.1 0 15).toNatClampNeg) (13 : Int32)) 14 ((v.1 0 15).toNatClampNeg) (0 : Int32)) 0 15 ((v.1 0 15) + (1 : Int32))) := EMS.w0 (EMS.wa (EMS.wa EMS.rf (by decide)) (by decide)) (by decide)
  have q1 : aR g K (wA (wA v 0 47 ((v.1 0 47) + (1 : Int32))) 0 48 ((v.1 0 48) + (1 : Int32))) = aR g K (wA (wA (wA (wA (wA v 0 47 ((v.1 0 47) + (1 : Int32))) 0 48 ((v.1 0 48) + (1 : Int32))) 13 ((v.1 0 15).toNatClampNeg) (13 : Int32)) 14 ((v.1 0 15).toNatClampNeg) (0 : Int32)) 0 15 ((v.1 0 15) + (1 : Int32))) := by
    rw [e1.a]
    exact em_0.symm
  rw [q1]
  have N1 : ND (wA (wA (wA (wA (wA v 0 47 ((v.1 0 47) + (1 : Int32))) 0 48 ((v.1 0 48) + (1 : Int32))) 13 ((v.1 0 15).toNatClampNeg) (13 : Int32)) 14 ((v.1 0 15).toNatClampNeg) (0 : Int32)) 0 15 ((v.1 0 15) + (1 : Int32))) := nd_e e1 (ndO J k1.1)
  rcases h with ⟨u9, h3, rfl, rfl⟩ | ⟨u19, h3, k3, u28, h4, k4, u42, h5, k5, r50, h50, -, h⟩
  · exact Or.inr ⟨rfl, by rw [(rBody (g := g) hS h3 nom (z52_b h3) (e1.j a1.jj) g2 N1).er, bd_er, bd_er]⟩
  have B := rBody (g := g) hS h3 (fun _ => k3) (z52_b h3) (e1.j a1.jj) g2 N1
  obtain ⟨JB, ZB, NB⟩ := B.jj
  have e2 : EMS 0 u19 u42 := (EMS.fg k4 (by decide) (by decide)).tr (EMS.fg k5 (by decide) (by decide))
  have q2 : aR g K u19 = aR g K u42 := by
    rw [e2.a]
    exact em_0.symm
  rw [B.eo, bd_ok, q2]
  have J2 := e2.j JB
  have i50 := rIsKey (g := g) h50 J2 (by decide)
  have e13 : kd e (aR g K u42) = 10 + 3 ↔ (kd e (aR g K u42)).toInt = 13 := ⟨fun q => by rw [q]; decide, fun q => Int32.toInt_inj.mp (q.trans (by decide))⟩
  rcases h with ⟨c50, h⟩ | ⟨c50, u156, h156, -, rfl, rfl⟩
  · have k13 := e13.mp (i50.mp c50)
    have qx : tExp 13 e (aR g K u42) = tTake e (aR g K u42) := by
      unfold tExp tNeed
      rw [if_pos k13, bd_ok]
    rw [qx]
    rcases h with ⟨u9, h6, rfl, rfl⟩ | ⟨h6, k6, h⟩
    · exact Or.inr ⟨rfl, by rw [(rTake (g := g) h6 J2 (by omega)).er, bd_er, bd_er]⟩
    have a6 := rTake (g := g) h6 J2 (by omega)
    rw [a6.eo, bd_ok]
    have qc : ∀ (s : PS) (F : PS → PX PS), bd (tCond E e s) F = bd (bd (tNeed 30 e s) (tOpen e)) fun s => bd (E true e s) fun s => bd (bd (tExp 31 e s) fun s => .ok (tClose s)) F := fun s F => by
      unfold tCond
      simp only [bd_as, bd_ok]
    rw [qc]
    rcases h with ⟨u9, h7, rfl, rfl⟩ | ⟨h7, k7, h⟩
    · exact Or.inr ⟨rfl, by rw [(rOpen (g := g) (q := (40, 30)) (m := 30) h7 a6.jj (by decide) rfl (by decide)).er, bd_er, bd_er]⟩
    have a7 := rOpen (g := g) (q := (40, 30)) (m := 30) h7 a6.jj (by decide) rfl (by decide)
    rw [a7.eo, bd_ok]
    rcases h with ⟨u9, h8, rfl, rfl⟩ | ⟨u80, h8, k8, h⟩
    · exact Or.inr ⟨rfl, by rw [(hE g e _ _ _ h8 nom a7.jj (og0 g2)).er, bd_er, bd_er]⟩
    have a8 := hE g e _ _ _ h8 (fun _ => k8) a7.jj (og0 g2)
    rw [a8.eo, bd_ok]
    rcases h with ⟨u9, h9, rfl, rfl⟩ | ⟨h9, k9, r99, -, x111, -, h⟩
    · exact Or.inr ⟨rfl, by rw [(rClose (g := g) (q := (41, 31)) (m := 31) h9 a8.jj (by decide) rfl (by decide)).er, bd_er, bd_er]⟩
    have a9 := rClose (g := g) (q := (41, 31)) (m := 31) h9 a8.jj (by decide) rfl (by decide)
    rw [a9.eo, bd_ok]
    have e3 : EMS 2 (wA (wA u80 0 47 ((u80.1 0 47) + (1 : Int32))) 0 48 ((u80.1 0 48) - (1 : Int32))) (wA (wA (wA (wA (wA (wA (wA (wA (wA (wA u80 0 47 ((u80.1 0 47) + (1 : Int32))) 0 48 ((u80.1 0 48) - (1 : Int32))) 11 ((u80.1 0 12).toNatClampNeg) r99) 0 12 ((u80.1 0 12) + (1 : Int32))) 11 (((u80.1 0 12) + (1 : Int32)).toNatClampNeg) (0 : Int32)) 0 12 (((u80.1 0 12) + (1 : Int32)) + (1 : Int32))) 11 (((u80.1 0 12) + (1 : Int32)).toNatClampNeg) x111) 13 ((u80.1 0 15).toNatClampNeg) (11 : Int32)) 14 ((u80.1 0 15).toNatClampNeg) (v.1 0 15)) 0 15 ((u80.1 0 15) + (1 : Int32))) := EMS.w0 (EMS.wa (EMS.wa (EMS.wa (EMS.o1 (EMS.wa (EMS.o1 (EMS.wa EMS.rf (by decide)) rfl) (by decide)) rfl) (by decide)) (by decide)) (by decide)) (by decide)
    rw [show em 2 (aR g K (wA (wA u80 0 47 ((u80.1 0 47) + (1 : Int32))) 0 48 ((u80.1 0 48) - (1 : Int32)))) = aR g K (wA (wA (wA (wA (wA (wA (wA (wA (wA (wA u80 0 47 ((u80.1 0 47) + (1 : Int32))) 0 48 ((u80.1 0 48) - (1 : Int32))) 11 ((u80.1 0 12).toNatClampNeg) r99) 0 12 ((u80.1 0 12) + (1 : Int32))) 11 (((u80.1 0 12) + (1 : Int32)).toNatClampNeg) (0 : Int32)) 0 12 (((u80.1 0 12) + (1 : Int32)) + (1 : Int32))) 11 (((u80.1 0 12) + (1 : Int32)).toNatClampNeg) x111) 13 ((u80.1 0 15).toNatClampNeg) (11 : Int32)) 14 ((u80.1 0 15).toNatClampNeg) (v.1 0 15)) 0 15 ((u80.1 0 15) + (1 : Int32))) from e3.a.symm]
    rcases h with ⟨u9, h10, rfl, rfl⟩ | ⟨h10, k10, u136, h11, k11, rfl, rfl⟩
    · exact Or.inr ⟨rfl, by rw [(rNeed (g := g) (q := (59, 36)) (m := 36) h10 (e3.j a9.jj) (by decide) rfl (by decide)).er, bd_er]⟩
    have a10 := rNeed (g := g) (q := (59, 36)) (m := 36) h10 (e3.j a9.jj) (by decide) rfl (by decide)
    rw [a10.eo, bd_ok]
    have e4 := (rEnds k11).1
    have f52 := (rEnds k11).2
    have p52 : u80.1 0 52 = u42.1 0 52 := (k8.1.2.1 52 (by decide)).trans rfl
    have g52 : u42.1 0 52 = u19.1 0 52 := (k5.2.1 52 (by decide)).trans (k4.2.1 52 (by decide))
    have p30 : u80.1 0 30 = u42.1 0 30 := (k8.1.2.1 30 (by decide)).trans rfl
    have p39 : (u42.1 0 39).toInt ≤ (u80.1 0 39).toInt := k8.2.2.2.2.2.2.1.1
    have N10 := ndT (e3.j a9.jj) k10.1
    refine Or.inl ⟨rfl, ?_, (e4.j a10.jj).w (by decide), ⟨?_, ?_, ?_⟩, ndw (nd_e e4 N10)⟩
    · rw [aR_cl, e4.a]
      exact congrArg (fun s => Except.ok (tClose s)) em_0.symm
    · show (v.1 0 30).toInt ≤ (u136.1 0 30).toInt
      rw [e4.2.2.1 30 (by decide)]
      show (v.1 0 30).toInt ≤ (u80.1 0 30).toInt
      rw [p30, e2.2.2.1 30 (by decide)]
      exact ZB.1
    · refine Int32.toInt_inj.mp ?_
      show (u136.1 0 52).toInt = (v.1 0 52).toInt
      have f52 : (u136.1 0 52).toInt = (u80.1 0 52).toInt - 1 := f52
      rw [p52, g52] at f52
      have zb : (u19.1 0 52).toInt = (v.1 0 52).toInt + 1 := ZB.2.1
      omega
    · show (v.1 0 39).toInt ≤ (u136.1 0 39).toInt
      rw [e4.2.2.1 39 (by decide)]
      show (v.1 0 39).toInt ≤ (u80.1 0 39).toInt
      rw [e2.2.2.1 39 (by decide)] at p39
      exact Int.le_trans ZB.2.2 p39
  · have qx : (tExp 13 e (aR g K u42) : PX PS) = .error (u.1 0 50, u.1 0 51) := by
      unfold tExp tNeed
      rw [if_neg (fun q => i50.mpr (e13.mpr q) c50), rBad (g := g) h156 J2]
      rfl
    exact Or.inr ⟨rfl, by rw [qx, bd_er, bd_er]⟩
end MWH
