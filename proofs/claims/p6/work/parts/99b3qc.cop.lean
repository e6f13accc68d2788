/-! the class: operands -/
set_option maxHeartbeats 400000 in
theorem take_em {e : PE} {k : Int32} {s : PS} : tTake e (em k s) = bd (tTake e s) (fun s => .ok (em k s)) := by
  unfold tTake pl
  rw [pAt_em, pDu_em]
  by_cases h : (1500 : Int) ≤ (pAt s).toInt ∨ pDu s = true
  · rw [if_pos h, if_pos h, bd_er]
  · rw [if_neg h, if_neg h, bd_ok]
    unfold em
    by_cases o : pOv s = true
    · rw [if_pos o, if_pos (show pOv (sAt (sDu s false) (pAt s + 1)) = true from o)]
    · rw [if_neg o, if_neg (show ¬ pOv (sAt (sDu s false) (pAt s + 1)) = true from o)]; rfl
section COP
variable {G : GH} {L1 L2 : List Nat} {e : PE} {v u w x : MS} {t : Bool} {r r9 r7 pa pb pc1 pd z : Int32} {c : RE1} {o : RO1} {E : FE} {O : FO} {f : PS → PX PS} {g : PS → PX (Bool × PS)} {b row sl : Bool}
set_option maxHeartbeats 400000 in
theorem ne_i {k : Int32} {m : Int} (h : ¬ r = k) (hk : k.toInt = m) : r.toInt ≠ m := fun q => h (Int32.toInt_inj.mp (q.trans hk.symm))
set_option maxHeartbeats 400000 in
theorem cNumber (hv : Q_x_X9_value L1 L2 v pa) (h : Q_x_X1_add L1 L2 v 2 pa 0 w) (k : K_x_X1_add v 2 pa 0 w) (J : JC L2 e v) (h2 : (∃ u9, Q_x_X9_take L1 L2 w true u9 ∧ t = true ∧ r = 0 ∧ u = u9) ∨ (∃ u19, Q_x_X9_take L1 L2 w false u19 ∧ K_x_X9_take w u19 ∧ t = false ∧ r = 0 ∧ u = u19)) : OKB G L2 e (fun s => bd (tTake e s) fun s1 => .ok (false, em (nsz (vl e s)) s1)) v t r u := by
  have hv := cValue (G := G) hv J
  have a := cAddk (G := G) (k := nsz pa) h k (by decide) rfl J
  have T : bd (tTake e (aC G w)) (fun s1 => (.ok (false, s1) : PX (Bool × PS))) = bd (tTake e (aC G v)) fun s1 => .ok (false, em (nsz (vl e (aC G v))) s1) := by
    rw [a.1, take_em, bd_as, ← hv]
    rfl
  rcases h2 with ⟨u9, h2, rfl, rfl, rfl⟩ | ⟨u19, h2, k2, rfl, rfl, rfl⟩
  · have b := cTake (G := G) h2 nom a.2.1
    exact Or.inr ⟨rfl, T.symm.trans (by rw [b.ex, bd_er])⟩
  · have b := cTake (G := G) h2 (fun _ => k2) a.2.1
    exact Or.inl ⟨rfl, T.symm.trans (by rw [b.eo, bd_ok]; rfl), b.jj, a.2.2.tr b.kk⟩
set_option maxHeartbeats 400000 in
theorem cUn1 {d : Int32} (hO : HO L2 o O) (hd : d ≠ 20 ∧ dsz d 0 = 1) (h21 : d ≠ 21 ∧ d ≠ 0 ∧ 1 ≤ d.toInt ∧ d.toInt ≤ 24) (J : JC L2 e v) (og : OG G v) (tp : TPO v) (h : (∃ u9, Q_x_X2_unary L1 L2 o v d true u9 ∧ t = true ∧ r = 0 ∧ u = u9) ∨ (∃ u1, Q_x_X2_unary L1 L2 o v d false u1 ∧ K_x_X2_unary v d u1 ∧ t = false ∧ r = 0 ∧ u = u1)) : OKB G L2 e (fun s => bd (tOpen e s) fun s => bd (O false e s) fun q => .ok (false, em 1 (tClose q.2))) v t r u := by
  have T : ∀ s : PS, (bd (bd (tOpen e s) fun s => bd (O false e s) fun q => .ok (em 1 (tClose q.2))) fun s => (.ok (false, s) : PX (Bool × PS))) = bd (tOpen e s) fun s => bd (O false e s) fun q => .ok (false, em 1 (tClose q.2)) := by
    intro s
    simp only [bd_as, bd_ok]
  rcases h with ⟨u9, h, rfl, rfl, rfl⟩ | ⟨u1, h, k, rfl, rfl, rfl⟩
  · exact OKB.cg (T _).symm (OKC.b (b := false) (cUnary hO h hd h21 J og tp) nom)
  · exact OKB.cg (T _).symm (OKC.b (b := false) (cUnary hO h hd h21 J og tp) (fun _ => by decide))
set_option maxHeartbeats 400000 in
theorem cOperand (hE : HE L2 c E) (hO : HO L2 o O) (h : Q_x_X2_operand L1 L2 c o v pa t r u) (J : JC L2 e v) (og : OG G v) (tp : TPO v) (hb : b = decide (pa.toInt ≠ 0)) : OKB G L2 e (tOperand E O b e) v t r u := by
  obtain ⟨-, -, -, -, -, -, -, -, -, -, r3, hk, h⟩ := h
  have hk := cKind (G := G) hk J
  rcases h with ⟨a, h⟩ | ⟨n2, h⟩
  · refine OKB.cg (f' := tNamed E b e) (by unfold tOperand; rw [← hk, a]; rfl) ?_
    rcases h with ⟨u9, h1, rfl, rfl, rfl⟩ | ⟨r7, u6, h1, -, rfl, rfl, rfl⟩
    · exact cNamed hE h1 J og tp hb
    · exact cNamed hE h1 J og tp hb
  rcases h with ⟨a, r11, hv, u13, h1, k1, h⟩ | ⟨n3, h⟩
  · exact OKB.cg (f' := fun s => bd (tTake e s) fun s1 => .ok (false, em (nsz (vl e s)) s1)) (by unfold tOperand; rw [← hk, a]; rfl) (cNumber hv h1 k1 J h)
  rcases h with ⟨a, r33, h2, u9, h3, rfl, rfl, rfl⟩ | ⟨n4, h⟩
  · refine Or.inr ⟨rfl, ?_⟩
    rw [← cErr (G := G) h2 h3 J]
    unfold tOperand
    rw [← hk, a]
    rfl
  rcases h with ⟨a, r11, hv, u13, h1, k1, h⟩ | ⟨n5, h⟩
  · exact OKB.cg (f' := fun s => bd (tTake e s) fun s1 => .ok (false, em (nsz (vl e s)) s1)) (by unfold tOperand; rw [← hk, a]; rfl) (cNumber hv h1 k1 J h)
  rcases h with ⟨a, h⟩ | ⟨n20, h⟩
  · refine OKB.cg (f' := fun s => bd (tTake e s) fun s => bd (tNeed 30 e s) fun s => bd (tOpen e s) fun s => bd (tExp 31 e s) fun s => .ok (false, em 2 (tClose s))) (by unfold tOperand; rw [← hk, a]; rfl) ?_
    rcases h with ⟨u9, h1, rfl, rfl, rfl⟩ | ⟨u61, h1, k1, h⟩
    · exact OKC.bBx (cTake h1 nom J)
    have a1 := cTake (G := G) h1 (fun _ => k1) J
    refine OKC.bB a1 ?_
    rcases h with ⟨u9, h2, rfl, rfl, rfl⟩ | ⟨u66, h2, k2, h⟩
    · exact OKC.bBx (cNeedm (by decide) h2 a1.jj)
    have a2 := cNeedm (G := G) (m := 30) (by decide) h2 a1.jj
    refine OKC.bB a2 ?_
    rcases h with ⟨u9, h3, rfl, rfl, rfl⟩ | ⟨u74, h3, k3, h⟩
    · exact OKC.bBx (cOpen h3 nom a2.jj)
    have a3 := cOpen (G := G) h3 (fun _ => k3) a2.jj
    refine OKC.bB a3 ?_
    rcases h with ⟨u9, h4, rfl, rfl, rfl⟩ | ⟨u79, h4, k4, u83, h5, k5, u91, h6, k6, rfl, rfl, rfl⟩
    · exact OKC.bBx (cExpm (by decide) h4 nom a3.jj)
    have a4 := cExpm (G := G) (m := 31) (by decide) h4 (fun _ => k4) a3.jj
    refine OKC.bB a4 ?_
    have a5 := cClose (G := G) h5 k5 a4.jj
    have a6 := cAddk (G := G) (k := 2) h6 k6 (by decide) rfl a5.2.1
    exact Or.inl ⟨rfl, by rw [a6.1, a5.1]; rfl, a6.2.1, a5.2.2.tr a6.2.2⟩
  rcases h with ⟨a, h⟩ | ⟨n30, h⟩
  · refine OKB.cg (f' := fun s => bd (tOpen e s) fun s => bd (E true e s) fun s => bd (tExp 31 e s) fun s => .ok (false, tClose s)) (by unfold tOperand; rw [← hk, a]; rfl) ?_
    rcases h with ⟨u9, h1, rfl, rfl, rfl⟩ | ⟨u116, h1, k1, h⟩
    · exact OKC.bBx (cOpen h1 nom J)
    have a1 := cOpen (G := G) h1 (fun _ => k1) J
    refine OKC.bB a1 ?_
    have og1 := og.kp a1.kk
    rcases h with ⟨u9, h2, rfl, rfl, rfl⟩ | ⟨u128, h2, k2, h⟩
    · exact OKC.bBx (hE G e u116 1 true true _ (by decide) h2 nom a1.jj og1 (tp_open k1 tp))
    have a2 := hE G e u116 1 true false _ (by decide) h2 (fun _ => k2) a1.jj og1 (tp_open k1 tp)
    refine OKC.bB a2 ?_
    rcases h with ⟨u9, h4, rfl, rfl, rfl⟩ | ⟨u133, h4, k4, u137, h5, k5, rfl, rfl, rfl⟩
    · exact OKC.bBx (cExpm (by decide) h4 nom a2.jj)
    have a4 := cExpm (G := G) (m := 31) (by decide) h4 (fun _ => k4) a2.jj
    refine OKC.bB a4 ?_
    have a5 := cClose (G := G) h5 k5 a4.jj
    exact Or.inl ⟨rfl, by rw [a5.1]; rfl, a5.2.1, a5.2.2⟩
  have un : ∀ d : Int32, d ≠ 20 ∧ dsz d 0 = 1 ∧ d ≠ 21 ∧ d ≠ 0 ∧ 1 ≤ d.toInt ∧ d.toInt ≤ 24 → (r3.toInt = 54 ∨ r3.toInt = 40 ∨ r3.toInt = 41) → ((∃ u9, Q_x_X2_unary L1 L2 o v d true u9 ∧ t = true ∧ r = 0 ∧ u = u9) ∨ (∃ u1, Q_x_X2_unary L1 L2 o v d false u1 ∧ K_x_X2_unary v d u1 ∧ t = false ∧ r = 0 ∧ u = u1)) → OKB G L2 e (tOperand E O b e) v t r u := by
    intro d hd h3 hu
    exact OKB.cg (f' := fun s => bd (tOpen e s) fun s => bd (O false e s) fun q => .ok (false, em 1 (tClose q.2))) (by unfold tOperand; rw [← hk, if_pos h3]) (cUn1 hO ⟨hd.1, hd.2.1⟩ hd.2.2 J og tp hu)
  rcases h with ⟨a, h⟩ | ⟨n40, h⟩
  · exact un 13 (by decide) (by rw [a]; decide) h
  rcases h with ⟨a, h⟩ | ⟨n41, h⟩
  · exact un 14 (by decide) (by rw [a]; decide) h
  rcases h with ⟨a, h⟩ | ⟨n54, u9, h1, rfl, rfl, rfl⟩
  · exact un 12 (by decide) (by rw [a]; decide) h
  · refine Or.inr ⟨rfl, ?_⟩
    rw [← (cMisfit (G := G) (α := Bool × PS) h1 J).2]
    unfold tOperand
    rw [← hk, if_neg (fun q => q.elim (ne_i n54 (by decide)) (fun q => q.elim (ne_i n40 (by decide)) (ne_i n41 (by decide)))), if_neg (fun q => q.elim (ne_i n3 (by decide)) (ne_i n5 (by decide))), if_neg (ne_i n4 (by decide)), if_neg (ne_i n20 (by decide)), if_neg (ne_i n30 (by decide)), if_neg (ne_i n2 (by decide))]
end COP
