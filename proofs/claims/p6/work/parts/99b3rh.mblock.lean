/-! the reference: returns, blocks -/
section MBL
variable {g : GM} {n : Int} {K : TK} {e : PE} {v u w x : MS} {t : Bool} {r pa pb : Int32} {c : RM1} {E : FE} {S : FS} {f : PS → PX PS} {k N : Nat} {m : Int}
theorem nd_e {cc : Nat} (h : EMS cc v u) (k : ND v) : ND u := by
  unfold ND at *
  rw [h.2.2.1 49 (by decide), h.2.2.1 47 (by decide)]
  exact k
theorem zs_e {cc : Nat} (h : EMS cc v u) (k : u.1 0 52 = v.1 0 52) : ZS v u := ZS.of (h.2.2.1 30 (by decide)) k (h.2.2.1 39 (by decide))
theorem rRet (hE : HME n K (QME k) E) (h : Q_m_returning k v t u) (J : JM n K e v) (g2 : g.2 = []) (hk : 2 ≤ (kd e (aR g K v)).toInt) : OKZ g n K e (tRet E e) v t u := by
  obtain ⟨-, -, -, -, -, -, -, -, -, -, -, -, -, -, h⟩ := h
  unfold OKZ tRet
  rcases h with ⟨u9, h1, rfl, rfl⟩ | ⟨h1, k1, r7, h7, -, h⟩
  · exact Or.inr ⟨rfl, by rw [(rTake (g := g) h1 J hk).er, bd_er]⟩
  have a1 := rTake (g := g) h1 J hk
  rw [a1.eo, bd_ok]
  have i7 := rIs (g := g) h7 a1.jj (q := (59, 36)) (by decide) rfl
  have e36 : kd e (aR g K (wA v 0 47 ((v.1 0 47) + (1 : Int32)))) = 36 ↔ (kd e (aR g K (wA v 0 47 ((v.1 0 47) + (1 : Int32))))).toInt = 36 := ⟨fun q => by rw [q]; decide, fun q => Int32.toInt_inj.mp (q.trans (by decide))⟩
  rcases h with ⟨c7, h⟩ | ⟨c7, r44, -, h⟩
  · rw [if_neg (fun q => i7.mpr (e36.mpr q) c7)]
    rcases h with ⟨u9, h2, rfl, rfl⟩ | ⟨u11, h2, k2, h⟩
    · exact Or.inr ⟨rfl, by rw [(hE g e _ _ _ h2 nom a1.jj (og0 g2)).er, bd_er]⟩
    have a2 := hE g e _ _ _ h2 (fun _ => k2) a1.jj (og0 g2)
    rw [a2.eo, bd_ok, exp_em]
    rcases h with ⟨u9, h3, rfl, rfl⟩ | ⟨h3, k3, rfl, rfl⟩
    · exact Or.inr ⟨rfl, by rw [(rNeed (g := g) (q := (59, 36)) (m := 36) h3 a2.jj (by decide) rfl (by decide)).er, bd_er]⟩
    have a3 := rNeed (g := g) (q := (59, 36)) (m := 36) h3 a2.jj (by decide) rfl (by decide)
    rw [a3.eo, bd_ok]
    have e1 : EMS 1 (wA u11 0 47 ((u11.1 0 47) + (1 : Int32))) (wA (wA (wA (wA (wA (wA (wA u11 0 47 ((u11.1 0 47) + (1 : Int32))) 11 ((u11.1 0 12).toNatClampNeg) (u11.1 0 59)) 0 12 ((u11.1 0 12) + (1 : Int32))) 0 59 (u11.1 0 12)) 13 ((u11.1 0 15).toNatClampNeg) (15 : Int32)) 14 ((u11.1 0 15).toNatClampNeg) (0 : Int32)) 0 15 ((u11.1 0 15) + (1 : Int32))) := EMS.w0 (EMS.wa (EMS.wa (EMS.w0 (EMS.o1 (EMS.wa EMS.rf (by decide)) rfl) (by decide)) (by decide)) (by decide)) (by decide)
    exact Or.inl ⟨rfl, by rw [e1.a]; rfl, e1.j a3.jj, ((ZS.of rfl rfl rfl : ZS v (wA v 0 47 ((v.1 0 47) + (1 : Int32)))).tr (ZS.fg k2.1 (by decide) k2.2.2.2.2.2.2.1.1)).tr (ZS.of rfl rfl rfl), nd_e e1 (ndT a2.jj k3.1)⟩
  · rw [if_pos (e36.mp (i7.mp c7)), bd_ok]
    have e1 : EMS 1 (wA v 0 47 ((v.1 0 47) + (1 : Int32))) (wA (wA (wA (wA (wA (wA v 0 47 ((v.1 0 47) + (1 : Int32))) 11 ((v.1 0 12).toNatClampNeg) r44) 0 12 ((v.1 0 12) + (1 : Int32))) 13 ((v.1 0 15).toNatClampNeg) (0 : Int32)) 14 ((v.1 0 15).toNatClampNeg) (0 : Int32)) 0 15 ((v.1 0 15) + (1 : Int32))) := EMS.w0 (EMS.wa (EMS.wa (EMS.o1 (EMS.wa EMS.rf (by decide)) rfl) (by decide)) (by decide)) (by decide)
    rw [show em 1 (aR g K (wA v 0 47 ((v.1 0 47) + (1 : Int32)))) = aR g K (wA (wA (wA (wA (wA (wA v 0 47 ((v.1 0 47) + (1 : Int32))) 11 ((v.1 0 12).toNatClampNeg) r44) 0 12 ((v.1 0 12) + (1 : Int32))) 13 ((v.1 0 15).toNatClampNeg) (0 : Int32)) 14 ((v.1 0 15).toNatClampNeg) (0 : Int32)) 0 15 ((v.1 0 15) + (1 : Int32))) from e1.a.symm, exp_em]
    rcases h with ⟨u9, h3, rfl, rfl⟩ | ⟨h3, k3, rfl, rfl⟩
    · exact Or.inr ⟨rfl, by rw [(rNeed (g := g) (q := (59, 36)) (m := 36) h3 (e1.j a1.jj) (by decide) rfl (by decide)).er, bd_er]⟩
    have a3 := rNeed (g := g) (q := (59, 36)) (m := 36) h3 (e1.j a1.jj) (by decide) rfl (by decide)
    rw [a3.eo, bd_ok]
    have e2 := EMS.w0 (EMS.wa (EMS.wa (EMS.w0 (EMS.o1 (EMS.wa (EMS.rf (v := (wA (wA (wA (wA (wA (wA (wA v 0 47 ((v.1 0 47) + (1 : Int32))) 11 ((v.1 0 12).toNatClampNeg) r44) 0 12 ((v.1 0 12) + (1 : Int32))) 13 ((v.1 0 15).toNatClampNeg) (0 : Int32)) 14 ((v.1 0 15).toNatClampNeg) (0 : Int32)) 0 15 ((v.1 0 15) + (1 : Int32))) 0 47 (((v.1 0 47) + (1 : Int32)) + (1 : Int32))))) (a := 11) (i := ((v.1 0 12) + (1 : Int32)).toNatClampNeg) (y := v.1 0 59) (by decide)) (y := ((v.1 0 12) + (1 : Int32)) + (1 : Int32)) rfl) (i := 59) (y := (v.1 0 12) + (1 : Int32)) (by decide)) (a := 13) (i := ((v.1 0 15) + (1 : Int32)).toNatClampNeg) (y := (15 : Int32)) (by decide)) (a := 14) (i := ((v.1 0 15) + (1 : Int32)).toNatClampNeg) (y := (0 : Int32)) (by decide)) (i := 15) (y := ((v.1 0 15) + (1 : Int32)) + (1 : Int32)) (by decide)
    exact Or.inl ⟨rfl, by rw [e2.a]; rfl, e2.j a3.jj, ZS.of rfl rfl rfl, nd_e e2 (ndT (e1.j a1.jj) k3.1)⟩
theorem knM_take (h : (v.1 0 30).toInt ≤ (u.1 0 30).toInt) : (knM K u).take (v.1 0 30).toNatClampNeg = (List.range (v.1 0 30).toNatClampNeg).map (fun k => K.2.1 (u.1 29 k)) := by
  unfold knM
  rw [← List.map_take, List.take_range, Nat.min_eq_left (by unfold Int32.toNatClampNeg; omega)]
theorem rBk (h : (v.1 0 30).toInt ≤ (u.1 0 30).toInt) : tBack (aR g K v) (aR g K u) = aR g K (wA (wA u 0 30 (v.1 0 30)) 0 31 (v.1 0 31)) := by
  have q : (pKn (aR g K u)).take (pKc (aR g K v)).toNatClampNeg = (List.range (v.1 0 30).toNatClampNeg).map (fun k => K.2.1 (u.1 29 k)) := knM_take h
  unfold tBack
  rw [q]
  rfl
theorem JG.bk (J : JM n K e u) (h : (v.1 0 30).toInt ≤ (u.1 0 30).toInt) {y : Int32} : JM n K e (wA (wA u 0 30 (v.1 0 30)) 0 31 y) := by
  obtain ⟨T, he, nd, J4, J5, J6⟩ := J
  refine ⟨T.of rfl rfl rfl rfl rfl rfl, he, nd, J4, fun k hk => J5 k ?_, J6⟩
  have hk : (k : Int) < (v.1 0 30).toInt := hk
  show (k : Int) < (u.1 0 30).toInt
  omega
theorem rPart (hS : HMS n K c S) (h : Q_m_part k c v t u) (J : JM n K e v) (g2 : g.2 = []) (lo : g.1 = true ↔ (v.1 0 52).toInt ≠ 0) (nd : ND v) : OKZ g n K e (tInner S e) v t u := by
  obtain ⟨-, -, -, -, -, -, -, -, -, -, -, -, -, -, h⟩ := h
  unfold OKZ tInner
  have J1 : JM n K e (wA v 0 31 (v.1 0 30)) := J.w (by decide)
  have q1 : sBl (aR g K v) (pKc (aR g K v)) = aR g K (wA v 0 31 (v.1 0 30)) := rfl
  rw [q1]
  rcases h with ⟨u9, h1, rfl, rfl⟩ | ⟨u5, h1, k1, rfl, rfl⟩
  · exact Or.inr ⟨rfl, by rw [(hS g e _ _ _ h1 nom J1 g2 lo nd).er, bd_er]⟩
  have a := hS g e _ _ _ h1 (fun _ => k1) J1 g2 lo nd
  have z : (v.1 0 30).toInt ≤ (u5.1 0 30).toInt := a.jj.2.1.1
  rw [a.eo, bd_ok, rBk (v := v) z]
  exact Or.inl ⟨rfl, rfl, a.jj.1.bk z, ⟨Int.le_refl _, a.jj.2.1.2.1, a.jj.2.1.2.2⟩, a.jj.2.2⟩
theorem open_bl {s : PS} {y : Int32} : tOpen e (sBl s y) = bd (tOpen e s) fun s => .ok (sBl s y) := by
  show (if (40 : Int) ≤ (pOp s).toInt then _ else bd (if (1500 : Int) ≤ (pAt s).toInt ∨ pDu s = true then _ else _) _) = bd (if (40 : Int) ≤ (pOp s).toInt then _ else bd (if (1500 : Int) ≤ (pAt s).toInt ∨ pDu s = true then _ else _) _) _
  by_cases a : (40 : Int) ≤ (pOp s).toInt
  · rw [if_pos a, if_pos a]
    rfl
  · rw [if_neg a, if_neg a]
    by_cases b : (1500 : Int) ≤ (pAt s).toInt ∨ pDu s = true
    · rw [if_pos b, if_pos b]
      rfl
    · rw [if_neg b, if_neg b]
      rfl
set_option maxHeartbeats 800000 in
theorem rBlock (hS : HMS n K c S) (h : Q_m_block k c v t u) (J : JM n K e v) (g2 : g.2 = []) (lo : g.1 = true ↔ (v.1 0 52).toInt ≠ 0) (hk : (kd e (aR g K v)).toInt = 32) : OKZ g n K e (tBlock S e) v t u := by
  obtain ⟨-, -, -, -, -, -, -, -, -, -, -, -, -, -, h⟩ := h
  unfold OKZ tBlock
  rw [open_bl]
  have k32 : (kd e (aR g K v)).toInt = ((123, 32) : Int32 × Int32).2.toInt := hk.trans (by decide)
  rcases h with ⟨u9, h1, rfl, rfl⟩ | ⟨h1, k1, w24, hr, -, h47, -, -, -, h39, -, -, h30, -, -, r11, h11, -, h⟩
  · exact Or.inr ⟨rfl, by rw [(rOpenK (g := g) h1 J (by decide) rfl k32).er, bd_er, bd_er]⟩
  have a1 := rOpenK (g := g) h1 J (by decide) rfl k32
  rw [a1.eo, bd_ok, bd_ok]
  have q1 : sBl (aR g K (wA (wA v 0 47 ((v.1 0 47) + (1 : Int32))) 0 48 ((v.1 0 48) + (1 : Int32)))) (pKc (aR g K v)) = aR g K (wA (wA (wA v 0 47 ((v.1 0 47) + (1 : Int32))) 0 48 ((v.1 0 48) + (1 : Int32))) 0 31 (v.1 0 30)) := rfl
  rw [q1]
  have J1 : JM n K e (wA (wA (wA v 0 47 ((v.1 0 47) + (1 : Int32))) 0 48 ((v.1 0 48) + (1 : Int32))) 0 31 (v.1 0 30)) := a1.jj.w (by decide)
  have J4 := J.2.2.2.1
  have e47 : ((v.1 0 47) + (1 : Int32)).toInt = (v.1 0 47).toInt + 1 := add_z rfl (by decide) (by omega) (by have := k1.1; omega)
  have e33 : ∀ s : PS, kd e s = 33 ↔ (kd e s).toInt = 33 := fun s => ⟨fun q => by rw [q]; decide, fun q => Int32.toInt_inj.mp (q.trans (by decide))⟩
  have inv : JM n K e w24 ∧ ZS v w24 ∧ ND w24 ∧ ∃ f : Nat, tStats S 1502 e (aR g K (wA (wA (wA v 0 47 ((v.1 0 47) + (1 : Int32))) 0 48 ((v.1 0 48) + (1 : Int32))) 0 31 (v.1 0 30))) = tStats S f e (aR g K w24) ∧ (1501 : Int) ≤ f + (w24.1 0 47).toInt := by
    refine RT.ind (fun (y : MS) => JM n K e y ∧ ZS v y ∧ ND y ∧ ∃ f : Nat, tStats S 1502 e (aR g K (wA (wA (wA v 0 47 ((v.1 0 47) + (1 : Int32))) 0 48 ((v.1 0 48) + (1 : Int32))) 0 31 (v.1 0 30))) = tStats S f e (aR g K y) ∧ (1501 : Int) ≤ f + (y.1 0 47).toInt) hr ⟨J1, ZS.of rfl rfl rfl, ndT J k1.1, 1502, rfl, ?_⟩ ?_
    · show (1501 : Int) ≤ 1502 + ((v.1 0 47) + (1 : Int32)).toInt
      omega
    · intro a b _ I hb
      obtain ⟨Ja, Za, Na, f, hf, hm⟩ := I
      obtain ⟨-, a47, -, -, -, -, -, -, -, -, -, r11, h11, -, c11, u27, h27, k27, rfl⟩ := hb
      have i11 := rIs (g := g) h11 Ja (q := (125, 33)) (by decide) rfl
      have lo2 : g.1 = true ↔ (a.1 0 52).toInt ≠ 0 := by rw [Za.2.1]; exact lo
      have R := hS g e _ _ _ h27 (fun _ => k27) Ja g2 lo2 Na
      obtain ⟨f0, rfl⟩ : ∃ f0, f = f0 + 1 := ⟨f - 1, by omega⟩
      have p47 := k27.2.1.1
      refine ⟨R.jj.1, Za.tr R.jj.2.1, R.jj.2.2, f0, ?_, by omega⟩
      rw [hf]
      show (if (kd e (aR g K a)).toInt = 33 then _ else _) = _
      rw [if_neg (fun q => i11.mpr ((e33 _).mpr q) c11), R.eo, bd_ok]
  obtain ⟨Jw, Zw, Nw, f, hf, hm⟩ := inv
  obtain ⟨f0, rfl⟩ : ∃ f0, f = f0 + 1 := ⟨f - 1, by omega⟩
  have i11 := rIs (g := g) h11 Jw (q := (125, 33)) (by decide) rfl
  have lo2 : g.1 = true ↔ (w24.1 0 52).toInt ≠ 0 := by rw [Zw.2.1]; exact lo
  have hf2 : tStats S 1502 e (aR g K (wA (wA (wA v 0 47 ((v.1 0 47) + (1 : Int32))) 0 48 ((v.1 0 48) + (1 : Int32))) 0 31 (v.1 0 30))) = if (kd e (aR g K w24)).toInt = 33 then .ok (aR g K w24) else bd (S e (aR g K w24)) (tStats S f0 e) := hf
  rw [hf2]
  rcases h with ⟨c11, h⟩ | ⟨c11, u9, h2, rfl, rfl⟩
  · rw [if_pos ((e33 _).mp (i11.mp c11)), bd_ok]
    have two : ∀ s : PS, (bd (tExp 33 e s) fun s1 => (.ok (tBack (aR g K v) (tClose s1)) : PX PS)) = bd (bd (tExp 33 e s) fun s1 => .ok (tClose s1)) fun s1 => .ok (tBack (aR g K v) s1) := fun s => by rw [bd_as]; rfl
    rw [two]
    rcases h with ⟨u9, h3, rfl, rfl⟩ | ⟨h3, k3, rfl, rfl⟩
    · exact Or.inr ⟨rfl, by rw [(rClose (g := g) (q := (125, 33)) (m := 33) h3 Jw (by decide) rfl (by decide)).er, bd_er]⟩
    have a3 := rClose (g := g) (q := (125, 33)) (m := 33) h3 Jw (by decide) rfl (by decide)
    have z : (v.1 0 30).toInt ≤ ((wA (wA w24 0 47 ((w24.1 0 47) + (1 : Int32))) 0 48 ((w24.1 0 48) - (1 : Int32))).1 0 30).toInt := Zw.1
    rw [a3.eo, bd_ok, rBk (v := v) z]
    exact Or.inl ⟨rfl, rfl, a3.jj.bk z, ⟨Int.le_refl _, Zw.2.1, Zw.2.2⟩, ndT Jw k3.1⟩
  · rw [if_neg (fun q => i11.mpr ((e33 _).mpr q) c11)]
    exact Or.inr ⟨rfl, by rw [(hS g e _ _ _ h2 nom Jw g2 lo2 Nw).er, bd_er, bd_er]⟩
end MBL
