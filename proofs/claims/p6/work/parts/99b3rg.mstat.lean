/-! the reference: statements -/
def ZS (v u : MS) : Prop := (v.1 0 30).toInt ≤ (u.1 0 30).toInt ∧ u.1 0 52 = v.1 0 52 ∧ (v.1 0 39).toInt ≤ (u.1 0 39).toInt
def ND (v : MS) : Prop := (v.1 0 49).toInt < (v.1 0 47).toInt
def OKZ (g : GM) (n : Int) (K : TK) (e : PE) (f : PS → PX PS) (v : MS) (t : Bool) (u : MS) : Prop := (t = false ∧ f (aR g K v) = .ok (aR g K u) ∧ JM n K e u ∧ ZS v u ∧ ND u) ∨ (t = true ∧ f (aR g K v) = .error (u.1 0 50, u.1 0 51))
def HMS (n : Int) (K : TK) (c : RM1) (S : FS) : Prop := ∀ (g : GM) (e : PE) (v : MS) (t : Bool) (u : MS), c v t u → (t = false → K_m_statement v u) → JM n K e v → g.2 = [] → (g.1 = true ↔ (v.1 0 52).toInt ≠ 0) → ND v → OKZ g n K e (S e) v t u
section MSA
variable {g : GM} {n : Int} {K : TK} {e : PE} {v u w x : MS} {t : Bool} {r pa pb : Int32} {c : RM1} {E : FE} {S : FS} {f : PS → PX PS} {k N : Nat} {m : Int}
theorem ZS.rf : ZS v v := ⟨Int.le_refl _, rfl, Int.le_refl _⟩
theorem ZS.tr (h : ZS v u) (k : ZS u x) : ZS v x := ⟨Int.le_trans h.1 k.1, k.2.1.trans h.2.1, Int.le_trans h.2.2 k.2.2⟩
theorem ZS.of (h1 : u.1 0 30 = v.1 0 30) (h2 : u.1 0 52 = v.1 0 52) (h3 : u.1 0 39 = v.1 0 39) : ZS v u := ⟨by rw [h1]; exact Int.le_refl _, h2, by rw [h3]; exact Int.le_refl _⟩
theorem ZS.fg {fl al : List Nat} (h : FG fl al v u) (k : 30 ∉ fl ∧ 52 ∉ fl) (h3 : (v.1 0 39).toInt ≤ (u.1 0 39).toInt) : ZS v u := ⟨by rw [h.2.1 30 k.1]; exact Int.le_refl _, h.2.1 52 k.2, h3⟩
theorem OKZ.eo (h : OKZ g n K e f v false u) : f (aR g K v) = .ok (aR g K u) := by
  rcases h with h | ⟨h, _⟩
  · exact h.2.1
  · cases h
theorem OKZ.er (h : OKZ g n K e f v true u) : f (aR g K v) = .error (u.1 0 50, u.1 0 51) := by
  rcases h with ⟨h, _⟩ | h
  · cases h
  · exact h.2
theorem OKZ.jj (h : OKZ g n K e f v false u) : JM n K e u ∧ ZS v u ∧ ND u := by
  rcases h with h | ⟨h, _⟩
  · exact h.2.2
  · cases h
theorem og0 (h : g.2 = []) : OGM g v := Or.inr (by rw [h]; exact fun _ q => nomatch q)
theorem ndT (J : JM n K e v) (k : (v.1 0 47).toInt < 1500) : ND (wA v 0 47 (v.1 0 47 + 1)) := by
  have J4 := J.2.2.2.1
  show (v.1 0 49).toInt < (v.1 0 47 + 1).toInt
  have : (v.1 0 47 + 1).toInt = (v.1 0 47).toInt + 1 := add_z rfl (by decide) (by omega) (by omega)
  omega
theorem ndO (J : JM n K e v) (k : (v.1 0 47).toInt < 1500) {y : Int32} : ND (wA (wA v 0 47 (v.1 0 47 + 1)) 0 48 y) := ndT J k
/-- a condition, with its two words -/
theorem rCond (hE : HME n K (QME k) E) (h : Q_m_condition k v t r u) (J : JM n K e v) (g2 : g.2 = []) : OKZ g n K e (fun s => bd (tCond E e s) fun s => .ok (em 2 s)) v t u := by
  obtain ⟨-, -, -, -, -, -, -, -, -, -, -, h⟩ := h
  unfold OKZ
  have q : ∀ s : PS, (bd (tCond E e s) fun s => (.ok (em 2 s) : PX PS)) = bd (bd (tNeed 30 e s) (tOpen e)) fun s => bd (E true e s) fun s => bd (bd (tExp 31 e s) fun s => .ok (tClose s)) fun s => .ok (em 2 s) := fun s => by
    unfold tCond
    simp only [bd_as, bd_ok]
  show (t = false ∧ (bd (tCond E e (aR g K v)) fun s => (.ok (em 2 s) : PX PS)) = _ ∧ _) ∨ (t = true ∧ (bd (tCond E e (aR g K v)) fun s => (.ok (em 2 s) : PX PS)) = _)
  rw [q]
  rcases h with ⟨u9, h1, rfl, rfl, rfl⟩ | ⟨h1, k1, h⟩
  · exact Or.inr ⟨rfl, by rw [(rOpen (g := g) (q := (40, 30)) (m := 30) h1 J (by decide) rfl (by decide)).er, bd_er]⟩
  have a1 := rOpen (g := g) (q := (40, 30)) (m := 30) h1 J (by decide) rfl (by decide)
  rw [a1.eo, bd_ok]
  rcases h with ⟨u9, h2, rfl, rfl, rfl⟩ | ⟨u7, h2, k2, h⟩
  · exact Or.inr ⟨rfl, by rw [(hE g e _ _ _ h2 nom a1.jj (og0 g2)).er, bd_er]⟩
  have a2 := hE g e _ _ _ h2 (fun _ => k2) a1.jj (og0 g2)
  rw [a2.eo, bd_ok]
  rcases h with ⟨u9, h3, rfl, rfl, rfl⟩ | ⟨h3, k3, x23, r22, h4, -, rfl, rfl, rfl⟩
  · exact Or.inr ⟨rfl, by rw [(rClose (g := g) (q := (41, 31)) (m := 31) h3 a2.jj (by decide) rfl (by decide)).er, bd_er]⟩
  have a3 := rClose (g := g) (q := (41, 31)) (m := 31) h3 a2.jj (by decide) rfl (by decide)
  rw [a3.eo, bd_ok]
  have e1 : EMS 2 (wA (wA u7 0 47 ((u7.1 0 47) + (1 : Int32))) 0 48 ((u7.1 0 48) - (1 : Int32))) (wA (wA (wA (wA (wA (wA (wA (wA (wA (wA u7 0 47 ((u7.1 0 47) + (1 : Int32))) 0 48 ((u7.1 0 48) - (1 : Int32))) 11 ((u7.1 0 12).toNatClampNeg) x23) 0 12 ((u7.1 0 12) + (1 : Int32))) 11 (((u7.1 0 12) + (1 : Int32)).toNatClampNeg) (-1 : Int32)) 0 12 (((u7.1 0 12) + (1 : Int32)) + (1 : Int32))) 13 ((u7.1 0 15).toNatClampNeg) 10) 14 ((u7.1 0 15).toNatClampNeg) 0) 0 15 ((u7.1 0 15) + (1 : Int32))) 0 60 (u7.1 0 15)) := EMS.w0 (EMS.w0 (EMS.wa (EMS.wa (EMS.o1 (EMS.wa (EMS.o1 (EMS.wa EMS.rf (by decide)) rfl) (by decide)) rfl) (by decide)) (by decide)) (by decide)) (by decide)
  refine Or.inl ⟨rfl, by rw [e1.a]; rfl, e1.j a3.jj, ?_, ?_⟩
  · exact ((ZS.of rfl rfl rfl : ZS v (wA (wA v 0 47 ((v.1 0 47) + (1 : Int32))) 0 48 ((v.1 0 48) + (1 : Int32)))).tr (ZS.fg k2.1 (by decide) k2.2.2.2.2.2.2.1.1)).tr (ZS.of rfl rfl rfl)
  · exact ndT a2.jj k3.1
theorem exp_em {k : Int32} {s : PS} : tExp m e (em k s) = bd (tExp m e s) fun s => .ok (em k s) := by
  unfold tExp
  show bd (if (kd e (em k s)).toInt = m then .ok (em k s) else tBad e (em k s)) (tTake e) = bd (bd (if (kd e s).toInt = m then .ok s else tBad e s) (tTake e)) _
  have q : kd e (em k s) = kd e s := by unfold kd; rw [pAt_em]
  have b : (tBad e (em k s) : PX PS) = tBad e s := by unfold tBad pl; rw [q, pAt_em]
  rw [q, b]
  by_cases w : (kd e s).toInt = m
  · rw [if_pos w, if_pos w, bd_ok, bd_ok, take_em]
  · rw [if_neg w, if_neg w]
    rfl
/-- a plain statement -/
theorem rPlain (hE : HME n K (QME k) E) (h : Q_m_plain k v t u) (J : JM n K e v) (g2 : g.2 = []) : OKZ g n K e (fun s => bd (E true e s) (tExp 36 e)) v t u := by
  obtain ⟨-, -, -, -, -, -, -, -, -, -, -, -, -, -, h⟩ := h
  unfold OKZ
  show (t = false ∧ bd (E true e (aR g K v)) _ = _ ∧ _) ∨ (t = true ∧ bd (E true e (aR g K v)) _ = _)
  rcases h with ⟨u9, h1, rfl, rfl⟩ | ⟨u2, h1, k1, h⟩
  · exact Or.inr ⟨rfl, by rw [(hE g e _ _ _ h1 nom J (og0 g2)).er, bd_er]⟩
  have a1 := hE g e _ _ _ h1 (fun _ => k1) J (og0 g2)
  rw [a1.eo, bd_ok]
  rcases h with ⟨u9, h2, rfl, rfl⟩ | ⟨h2, k2, rfl, rfl⟩
  · exact Or.inr ⟨rfl, (rNeed (g := g) (q := (59, 36)) (m := 36) h2 a1.jj (by decide) rfl (by decide)).er⟩
  have a2 := rNeed (g := g) (q := (59, 36)) (m := 36) h2 a1.jj (by decide) rfl (by decide)
  have e1 : EMS 0 (wA u2 0 47 ((u2.1 0 47) + (1 : Int32))) (wA (wA (wA (wA u2 0 47 ((u2.1 0 47) + (1 : Int32))) 13 ((u2.1 0 15).toNatClampNeg) (9 : Int32)) 14 ((u2.1 0 15).toNatClampNeg) (0 : Int32)) 0 15 ((u2.1 0 15) + (1 : Int32))) := EMS.w0 (EMS.wa (EMS.wa EMS.rf (by decide)) (by decide)) (by decide)
  refine Or.inl ⟨rfl, ?_, e1.j a2.jj, (ZS.fg k1.1 (by decide) k1.2.2.2.2.2.2.1.1).tr (ZS.of rfl rfl rfl), ndT a1.jj k2.1⟩
  rw [a2.eo, e1.a]
  exact congrArg Except.ok em_0.symm
/-- break, continue -/
theorem rLeave (h : Q_m_leaving k v t u) (J : JM n K e v) (lo : g.1 = true ↔ (v.1 0 52).toInt ≠ 0) (nd : ND v) (hk : 2 ≤ (kd e (aR g K v)).toInt) : OKZ g n K e (tJump e) v t u := by
  obtain ⟨z47, -, -, -, -, -, -, -, -, -, -, -, -, -, r3, h3, -, h⟩ := h
  unfold OKZ tJump
  rcases h with ⟨c52, h⟩ | ⟨c52, h⟩
  · have l1 : pLo (aR g K v) = true := lo.mpr c52
    rcases h with ⟨u9, h1, rfl, rfl⟩ | ⟨h1, k1, h⟩
    · exact Or.inr ⟨rfl, by rw [(rTake (g := g) h1 J hk).er, bd_er]⟩
    have a1 := rTake (g := g) h1 J hk
    rw [a1.eo, bd_ok, if_pos l1, exp_em]
    rcases h with ⟨u9, h2, rfl, rfl⟩ | ⟨h2, k2, h⟩
    · exact Or.inr ⟨rfl, by rw [(rNeed (g := g) (q := (59, 36)) (m := 36) h2 a1.jj (by decide) rfl (by decide)).er, bd_er]⟩
    have a2 := rNeed (g := g) (q := (59, 36)) (m := 36) h2 a1.jj (by decide) rfl (by decide)
    rw [a2.eo, bd_ok]
    have fin : ∀ {y : MS}, EMS 1 (wA (wA v 0 47 ((v.1 0 47) + (1 : Int32))) 0 47 (((v.1 0 47) + (1 : Int32)) + (1 : Int32))) y → y.1 0 52 = v.1 0 52 → t = false → u = y → ((t = false ∧ Except.ok (em 1 (aR g K (wA (wA v 0 47 ((v.1 0 47) + (1 : Int32))) 0 47 (((v.1 0 47) + (1 : Int32)) + (1 : Int32))))) = (.ok (aR g K u) : PX PS) ∧ JM n K e u ∧ ZS v u ∧ ND u) ∨ (t = true ∧ Except.ok (em 1 (aR g K (wA (wA v 0 47 ((v.1 0 47) + (1 : Int32))) 0 47 (((v.1 0 47) + (1 : Int32)) + (1 : Int32))))) = (.error (u.1 0 50, u.1 0 51) : PX PS))) := by
      intro y e1 q52 ht hu
      subst hu
      refine Or.inl ⟨ht, by rw [e1.a]; rfl, e1.j a2.jj, ZS.of (e1.2.2.1 30 (by decide)) q52 (e1.2.2.1 39 (by decide)), ?_⟩
      have nn := ndT a1.jj k2.1
      unfold ND at nn ⊢
      rw [e1.2.2.1 49 (by decide), e1.2.2.1 47 (by decide)]
      exact nn
    rcases h with ⟨-, ⟨-, x25, -, ht, hu⟩ | ⟨-, ht, hu⟩⟩ | ⟨-, ht, hu⟩
    · exact fin (EMS.w0 (EMS.wa (EMS.wa (EMS.wa (EMS.o1 (EMS.wa EMS.rf (by decide)) rfl) (by decide)) (by decide)) (by decide)) (by decide)) rfl ht hu
    · exact fin (EMS.w0 (EMS.w0 (EMS.wa (EMS.wa (EMS.w0 (EMS.o1 (EMS.wa EMS.rf (by decide)) rfl) (by decide)) (by decide)) (by decide)) (by decide)) (by decide)) rfl ht hu
    · exact fin (EMS.w0 (EMS.w0 (EMS.wa (EMS.wa (EMS.w0 (EMS.o1 (EMS.wa EMS.rf (by decide)) rfl) (by decide)) (by decide)) (by decide)) (by decide)) (by decide)) rfl ht hu
  · have l0 : ¬ pLo (aR g K v) = true := fun q => lo.mp q c52
    rcases h with ⟨c15, h⟩ | ⟨c15, rfl, rfl⟩
    · rcases h with ⟨u9, h1, rfl, rfl⟩ | ⟨h1, k1, -⟩
      · exact Or.inr ⟨rfl, by rw [(rTake (g := g) h1 J hk).er, bd_er]⟩
      · have := k1.1
        omega
    · have tk : tTake e (aR g K v) = .ok (sAt (sDu (aR g K v) false) (pAt (aR g K v) + 1)) := by
        unfold tTake
        refine if_neg ?_
        rintro (q | q)
        · have q : (1500 : Int) ≤ (v.1 0 47).toInt := q
          omega
        · have q := of_decide_eq_true q
          unfold ND at nd
          rw [q] at nd
          omega
      rw [tk, bd_ok, if_neg l0, rPl J]
      exact Or.inr ⟨rfl, rfl⟩
end MSA
