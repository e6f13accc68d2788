/-! the reference: choices, loops -/
section MLP
variable {g : GM} {n : Int} {K : TK} {e : PE} {v u w x : MS} {t : Bool} {r pa pb : Int32} {c : RM1} {E : FE} {S : FS} {f : PS → PX PS} {k k' N : Nat} {m : Int}
theorem ndw {z : MS} {y : Int32} (h : ND z) : ND (wA z 0 48 y) := h
theorem rCondO (hE : HME n K (QME k) E) (h : Q_m_condition k v false r u) (J : JM n K e v) (g2 : g.2 = []) : ∃ s', tCond E e (aR g K v) = .ok s' ∧ em 2 s' = aR g K u ∧ JM n K e u ∧ ZS v u ∧ ND u := by
  have R := rCond (g := g) hE h J g2
  obtain ⟨s', h1, h2⟩ := bd_inv R.eo
  injection h2 with h2
  exact ⟨s', h1, h2, R.jj⟩
theorem rCondX (hE : HME n K (QME k) E) (h : Q_m_condition k v true r u) (J : JM n K e v) (g2 : g.2 = []) : tCond E e (aR g K v) = .error (u.1 0 50, u.1 0 51) := by
  have R := (rCond (g := g) hE h J g2).er
  cases X : tCond E e (aR g K v) with
  | ok s =>
    have R' : (bd (tCond E e (aR g K v)) fun s => (.ok (em 2 s) : PX PS)) = .error (u.1 0 50, u.1 0 51) := R
    rw [X] at R'
    cases R'
  | error q =>
    have R' : (bd (tCond E e (aR g K v)) fun s => (.ok (em 2 s) : PX PS)) = .error (u.1 0 50, u.1 0 51) := R
    rw [X] at R'
    exact R'
theorem aR_c {y : Int32} {z : MS} (h : EMS 0 v z) (hy : y = v.1 0 48 - 1) : aR g K (wA z 0 48 y) = tClose (aR g K v) := by
  have q : aR g K z = aR g K v := by
    rw [h.a]
    exact em_0
  have q48 : v.1 0 48 = z.1 0 48 := (h.2.2.1 48 (by decide)).symm
  rw [hy, q48, aR_cl, q]
set_option maxHeartbeats 800000 in
theorem rIf (hE : HME n K (QME k) E) (hS : HMS n K c S) (h : Q_m_choices k c v t u) (J : JM n K e v) (g2 : g.2 = []) (lo : g.1 = true ↔ (v.1 0 52).toInt ≠ 0) (hk : 2 ≤ (kd e (aR g K v)).toInt) : OKZ g n K e (tIf E S e) v t u := by
  obtain ⟨-, -, -, -, -, -, -, -, -, -, -, -, -, -, h⟩ := h
  unfold OKZ tIf
  rcases h with ⟨u9, h1, rfl, rfl⟩ | ⟨h1, k1, h⟩
  · exact Or.inr ⟨rfl, by rw [(rOpens (g := g) h1 J hk).er, bd_er]⟩
  have a1 := rOpens (g := g) h1 J hk
  rw [a1.eo, bd_ok]
  have Z1 : ZS v (wA (wA v 0 47 ((v.1 0 47) + (1 : Int32))) 0 48 ((v.1 0 48) + (1 : Int32))) := ZS.of rfl rfl rfl
  rcases h with ⟨u9, h2, rfl, rfl⟩ | ⟨r11, u10, h2, k2, h⟩
  · exact Or.inr ⟨rfl, by rw [rCondX (g := g) hE h2 a1.jj g2, bd_er]⟩
  obtain ⟨s', c1, c2, J2, Z2, N2⟩ := rCondO (g := g) hE h2 a1.jj g2
  rw [c1, bd_ok, c2]
  have lo2 : g.1 = true ↔ (u10.1 0 52).toInt ≠ 0 := by rw [(Z1.tr Z2).2.1]; exact lo
  rcases h with ⟨u9, h3, rfl, rfl⟩ | ⟨u23, h3, k3, r33, h33, -, h⟩
  · exact Or.inr ⟨rfl, by rw [(rPart (g := g) hS h3 J2 g2 lo2 N2).er, bd_er]⟩
  have a3 := rPart (g := g) hS h3 J2 g2 lo2 N2
  rw [a3.eo, bd_ok]
  have Z3 := (Z1.tr Z2).tr a3.jj.2.1
  have i33 := rIsKey (g := g) h33 a3.jj.1 (by decide)
  have e12 : kd e (aR g K u23) = 10 + 2 ↔ (kd e (aR g K u23)).toInt = 12 := ⟨fun q => by rw [q]; decide, fun q => Int32.toInt_inj.mp (q.trans (by decide))⟩
  rcases h with ⟨c33, x39, -, rfl, rfl⟩ | ⟨c33, h⟩
  · rw [if_neg (fun q => i33.mpr (e12.mpr q) c33)]
    have e1 : EMS 0 u23 (wA (wA u23 11 r11.toNatClampNeg x39) 14 ((u10.1 0 60).toNatClampNeg) (u23.1 0 15)) := EMS.wa (EMS.wa EMS.rf (by decide)) (by decide)
    exact Or.inl ⟨rfl, by rw [aR_c e1 rfl], (e1.j a3.jj.1).w (by decide), Z3.tr (ZS.of rfl rfl rfl), ndw (nd_e e1 a3.jj.2.2)⟩
  · have k12 := e12.mp (i33.mp c33)
    rw [if_pos k12]
    rcases h with ⟨u9, h4, rfl, rfl⟩ | ⟨h4, k4, x76, -, h⟩
    · exact Or.inr ⟨rfl, by rw [(rTake (g := g) h4 a3.jj.1 (by omega)).er, bd_er]⟩
    have a4 := rTake (g := g) h4 a3.jj.1 (by omega)
    rw [a4.eo, bd_ok]
    have e1 : EMS 1 (wA u23 0 47 ((u23.1 0 47) + (1 : Int32))) (wA (wA (wA (wA (wA (wA (wA (wA u23 0 47 ((u23.1 0 47) + (1 : Int32))) 11 ((u23.1 0 12).toNatClampNeg) (-1 : Int32)) 0 12 ((u23.1 0 12) + (1 : Int32))) 13 ((u23.1 0 15).toNatClampNeg) (12 : Int32)) 14 ((u23.1 0 15).toNatClampNeg) (0 : Int32)) 0 15 ((u23.1 0 15) + (1 : Int32))) 11 r11.toNatClampNeg x76) 14 ((u10.1 0 60).toNatClampNeg) ((u23.1 0 15) + (1 : Int32))) := EMS.wa (EMS.wa (EMS.w0 (EMS.wa (EMS.wa (EMS.o1 (EMS.wa EMS.rf (by decide)) rfl) (by decide)) (by decide)) (by decide)) (by decide)) (by decide)
    rw [show em 1 (aR g K (wA u23 0 47 ((u23.1 0 47) + (1 : Int32)))) = aR g K (wA (wA (wA (wA (wA (wA (wA (wA u23 0 47 ((u23.1 0 47) + (1 : Int32))) 11 ((u23.1 0 12).toNatClampNeg) (-1 : Int32)) 0 12 ((u23.1 0 12) + (1 : Int32))) 13 ((u23.1 0 15).toNatClampNeg) (12 : Int32)) 14 ((u23.1 0 15).toNatClampNeg) (0 : Int32)) 0 15 ((u23.1 0 15) + (1 : Int32))) 11 r11.toNatClampNeg x76) 14 ((u10.1 0 60).toNatClampNeg) ((u23.1 0 15) + (1 : Int32))) from e1.a.symm]
    have lo4 : g.1 = true ↔ (u23.1 0 52).toInt ≠ 0 := by rw [Z3.2.1]; exact lo
    have N4 := nd_e e1 (ndT a3.jj.1 k4.1)
    rcases h with ⟨u9, h5, rfl, rfl⟩ | ⟨u91, h5, k5, x105, -, rfl, rfl⟩
    · exact Or.inr ⟨rfl, by rw [(rPart (g := g) hS h5 (e1.j a4.jj) g2 lo4 N4).er, bd_er]⟩
    have a5 := rPart (g := g) hS h5 (e1.j a4.jj) g2 lo4 N4
    rw [a5.eo, bd_ok]
    have e2 : EMS 0 u91 (wA (wA u91 11 ((u23.1 0 12).toNatClampNeg) x105) 14 ((u23.1 0 15).toNatClampNeg) (u91.1 0 15)) := EMS.wa (EMS.wa EMS.rf (by decide)) (by decide)
    refine Or.inl ⟨rfl, by rw [aR_c e2 rfl], (e2.j a5.jj.1).w (by decide), ?_, ndw (nd_e e2 a5.jj.2.2)⟩
    exact (Z3.tr ((ZS.of rfl rfl rfl : ZS u23 (wA (wA (wA (wA (wA (wA (wA (wA u23 0 47 ((u23.1 0 47) + (1 : Int32))) 11 ((u23.1 0 12).toNatClampNeg) (-1 : Int32)) 0 12 ((u23.1 0 12) + (1 : Int32))) 13 ((u23.1 0 15).toNatClampNeg) (12 : Int32)) 14 ((u23.1 0 15).toNatClampNeg) (0 : Int32)) 0 15 ((u23.1 0 15) + (1 : Int32))) 11 r11.toNatClampNeg x76) 14 ((u10.1 0 60).toNatClampNeg) ((u23.1 0 15) + (1 : Int32)))).tr a5.jj.2.1)).tr (ZS.of rfl rfl rfl)
/-- the inside of a loop: one loop more -/
def OKL (g : GM) (n : Int) (K : TK) (e : PE) (f : PS → PX PS) (v : MS) (t : Bool) (u : MS) : Prop := (t = false ∧ f (aR g K v) = .ok (aR g K u) ∧ JM n K e u ∧ ((v.1 0 30).toInt ≤ (u.1 0 30).toInt ∧ (u.1 0 52).toInt = (v.1 0 52).toInt + 1 ∧ (v.1 0 39).toInt ≤ (u.1 0 39).toInt) ∧ ND u) ∨ (t = true ∧ f (aR g K v) = .error (u.1 0 50, u.1 0 51))
set_option maxHeartbeats 800000 in
theorem rBody (hS : HMS n K c S) (h : Q_m_body k c v pa pb t u) (kb' : t = false → K_m_body v pa pb u) (z52 : 0 ≤ (v.1 0 52).toInt ∧ (v.1 0 52).toInt ≤ 1000) (J : JM n K e v) (g2 : g.2 = []) (nd : ND v) : OKL g n K e (tLp S e) v t u := by
  obtain ⟨-, -, -, -, -, -, -, -, -, -, -, -, -, -, h⟩ := h
  unfold OKL tLp
  have e52 : (v.1 0 52 + 1).toInt = (v.1 0 52).toInt + 1 := add_z rfl (by decide) (by omega) (by omega)
  have e1 : EMS 0 v (wA (wA (wA (wA (wA (wA (wA (wA (wA (wA (wA (wA (wA v 61 ((v.1 0 52).toNatClampNeg) (v.1 0 53)) 62 ((v.1 0 52).toNatClampNeg) (v.1 0 54)) 63 ((v.1 0 52).toNatClampNeg) (v.1 0 55)) 64 ((v.1 0 52).toNatClampNeg) (v.1 0 56)) 65 ((v.1 0 52).toNatClampNeg) (v.1 0 57)) 66 ((v.1 0 52).toNatClampNeg) (v.1 0 58)) 0 52 ((v.1 0 52) + (1 : Int32))) 0 53 (-1 : Int32)) 0 54 (-1 : Int32)) 0 55 pa) 0 56 pb) 0 57 (-1 : Int32)) 0 58 (-1 : Int32)) := EMS.w0 (EMS.w0 (EMS.w0 (EMS.w0 (EMS.w0 (EMS.w0 (EMS.w0 (EMS.wa (EMS.wa (EMS.wa (EMS.wa (EMS.wa (EMS.wa EMS.rf (by decide)) (by decide)) (by decide)) (by decide)) (by decide)) (by decide)) (by decide)) (by decide)) (by decide)) (by decide)) (by decide)) (by decide)) (by decide)
  have q1 : sLo (aR g K v) true = aR (true, g.2) K (wA (wA (wA (wA (wA (wA (wA (wA (wA (wA (wA (wA (wA v 61 ((v.1 0 52).toNatClampNeg) (v.1 0 53)) 62 ((v.1 0 52).toNatClampNeg) (v.1 0 54)) 63 ((v.1 0 52).toNatClampNeg) (v.1 0 55)) 64 ((v.1 0 52).toNatClampNeg) (v.1 0 56)) 65 ((v.1 0 52).toNatClampNeg) (v.1 0 57)) 66 ((v.1 0 52).toNatClampNeg) (v.1 0 58)) 0 52 ((v.1 0 52) + (1 : Int32))) 0 53 (-1 : Int32)) 0 54 (-1 : Int32)) 0 55 pa) 0 56 pb) 0 57 (-1 : Int32)) 0 58 (-1 : Int32)) := by
    rw [e1.a]
    refine Eq.trans ?_ em_0.symm
    rfl
  rw [q1]
  have lo2 : (((true, g.2) : GM).1 = true ↔ ((v.1 0 52) + (1 : Int32)).toInt ≠ 0) := ⟨fun _ => by omega, fun _ => rfl⟩
  have back : ∀ w : MS, sLo (aR (true, g.2) K w) (pLo (aR g K v)) = aR g K w := fun w => rfl
  rcases h with ⟨u9, h1, rfl, rfl⟩ | ⟨u5, h1, -, rfl, rfl⟩
  · exact Or.inr ⟨rfl, by rw [(rPart (g := (true, g.2)) hS h1 (e1.j J) g2 lo2 (nd_e e1 nd)).er, bd_er]⟩
  · have a := rPart (g := (true, g.2)) hS h1 (e1.j J) g2 lo2 (nd_e e1 nd)
    have kk := kb' rfl
    rw [a.eo, bd_ok, back]
    exact Or.inl ⟨rfl, rfl, a.jj.1, ⟨a.jj.2.1.1, kk.2.2.2.2.2.2.2.2.1.2.1, a.jj.2.1.2.2⟩, a.jj.2.2⟩
theorem OKL.eo (h : OKL g n K e f v false u) : f (aR g K v) = .ok (aR g K u) := by
  rcases h with h | ⟨h, _⟩
  · exact h.2.1
  · cases h
theorem OKL.er (h : OKL g n K e f v true u) : f (aR g K v) = .error (u.1 0 50, u.1 0 51) := by
  rcases h with ⟨h, _⟩ | h
  · cases h
  · exact h.2
theorem OKL.jj (h : OKL g n K e f v false u) : JM n K e u ∧ ((v.1 0 30).toInt ≤ (u.1 0 30).toInt ∧ (u.1 0 52).toInt = (v.1 0 52).toInt + 1 ∧ (v.1 0 39).toInt ≤ (u.1 0 39).toInt) ∧ ND u := by
  rcases h with h | ⟨h, _⟩
  · exact h.2.2
  · cases h
theorem rEnds (k : K_m_ends v u) : EMS 0 v u ∧ (u.1 0 52).toInt = (v.1 0 52).toInt - 1 := ⟨EMS.fg k.1 (by decide) (by decide), k.2⟩
end MLP
