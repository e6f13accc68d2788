/-! the class: names, operands -/
def tNm2 (E : FE) (st row sl : Bool) (e : PE) (s : PS) : PX (Bool × PS) := if st = true ∧ (42 : Int) ≤ (kd e s).toInt ∧ (kd e s).toInt ≤ 52 then bd (tChange E row sl e s) fun s => .ok (true, s) else .ok (false, em (if row = true then 1 else vsz sl) s)
section TNM
variable {E : FE} {st : Bool} {e : PE} {s : PS}
set_option maxHeartbeats 400000 in
theorem tNamed_s (h : 0 ≤ fnd (pKn s) (vl e s)) : tNamed E st e s = if (kb e s).toInt = 30 then .error (3, pl e s) else if (kb e s).toInt = 34 then .error (3, pl e s) else bd (tTake e s) (tNm2 E st false true e) := by
  unfold tNamed
  rw [decide_eq_true h]
  by_cases a : (kb e s).toInt = 30
  · rw [if_pos a, if_pos a]; rfl
  · rw [if_neg a, if_neg a]
    by_cases b : (kb e s).toInt = 34
    · rw [if_pos b, decide_eq_true b]; rfl
    · rw [if_neg b, decide_eq_false b]; rfl
set_option maxHeartbeats 400000 in
theorem tNamed_n (h : ¬ 0 ≤ fnd (pKn s) (vl e s)) (g : gfd e (vl e s) = none) : tNamed E st e s = if (kb e s).toInt = 30 then bd (tCall E e s) fun s => .ok (false, s) else .error (3, pl e s) := by
  unfold tNamed
  rw [decide_eq_false h, g]
  by_cases a : (kb e s).toInt = 30
  · rw [if_pos a, if_pos a]; rfl
  · rw [if_neg a, if_neg a]; rfl
set_option maxHeartbeats 400000 in
theorem tNamed_g {x : Int32} (h : ¬ 0 ≤ fnd (pKn s) (vl e s)) (g : gfd e (vl e s) = some x) : tNamed E st e s = if (kb e s).toInt = 30 then .error (3, pl e s) else if x = 1 then (if (kb e s).toInt = 34 then bd (tTake e s) fun s => bd (tIndex E e s) (tNm2 E st true false e) else .error (3, pl e s)) else (if (kb e s).toInt = 34 then .error (3, pl e s) else bd (tTake e s) (tNm2 E st false false e)) := by
  unfold tNamed
  rw [decide_eq_false h, g]
  by_cases a : (kb e s).toInt = 30
  · rw [if_pos a, if_pos a]
    exact if_pos (Or.inr (fun w => nomatch w))
  · rw [if_neg a, if_neg a]
    by_cases c : x = 1
    · rw [if_pos c, c]
      by_cases b : (kb e s).toInt = 34
      · rw [if_pos b, decide_eq_true b]; rfl
      · rw [if_neg b, decide_eq_false b]; rfl
    · have d : decide ((if false = true then none else some x) = some (1 : Int32)) = false := decide_eq_false (fun w => c (Option.some.inj w))
      rw [if_neg c, d]
      by_cases b : (kb e s).toInt = 34
      · rw [if_pos b, decide_eq_true b]; rfl
      · rw [if_neg b, decide_eq_false b]; rfl
end TNM
section CNM
variable {G : GH} {L1 L2 : List Nat} {e : PE} {v u w x : MS} {t : Bool} {r r9 r7 pa pb pc1 pd z : Int32} {c : RE1} {o : RO1} {E : FE} {O : FO} {f : PS → PX PS} {g : PS → PX (Bool × PS)} {b row sl : Bool}
set_option maxHeartbeats 400000 in
theorem OKC.bB (h : OKC G L2 e f v false u) (k : OKB G L2 e g u t r x) : OKB G L2 e (fun s => bd (f s) g) v t r x := by
  rcases h with ⟨_, h, _, p⟩ | ⟨h, _⟩
  · rcases k with ⟨k0, k, j, q⟩ | ⟨k0, k⟩
    · exact Or.inl ⟨k0, by simp only [h, bd_ok]; exact k, j, p.tr q⟩
    · exact Or.inr ⟨k0, by simp only [h, bd_ok]; exact k⟩
  · cases h
set_option maxHeartbeats 400000 in
theorem OKC.bBx (h : OKC G L2 e f v true u) : OKB G L2 e (fun s => bd (f s) g) v true r u := by
  rcases h with ⟨h, _⟩ | ⟨_, h⟩
  · cases h
  · exact Or.inr ⟨rfl, by simp only [h, bd_er]⟩
set_option maxHeartbeats 400000 in
theorem cNm2 {Rq Rk : MS → Prop} (hR : ∀ y, Rq y → Rk y → aC G y = em z (aC G w) ∧ JC L2 e y ∧ KP w y) (hE : HE L2 c E) (J : JC L2 e w) (og : OG G w) (tp : TPO w) (hz : z = if row = true then 1 else vsz sl) (hrow : row = decide (pc1.toInt ≠ 0)) (hsl : sl = decide (r9.toInt ≠ -1)) (hb : b = decide (pa.toInt ≠ 0))
    (h : (pa.toInt = 0 ∧ ∃ y, Rq y ∧ Rk y ∧ t = false ∧ r = 0 ∧ u = y) ∨ (pa.toInt ≠ 0 ∧ ∃ r1, Q_x_X9_kind L1 L2 w r1 ∧ ∃ r2, Q_x_X9_isSet r1 r2 ∧ K_x_X9_isSet r1 r2 ∧ ((r2.toInt = 0 ∧ ∃ y, Rq y ∧ Rk y ∧ t = false ∧ r = 0 ∧ u = y) ∨ (r2.toInt ≠ 0 ∧ ((∃ y, Q_x_X2_change L1 L2 c w r9 r7 pc1 true y ∧ t = true ∧ r = 0 ∧ u = y) ∨ (∃ y, Q_x_X2_change L1 L2 c w r9 r7 pc1 false y ∧ K_x_X2_change w r9 r7 pc1 y ∧ t = false ∧ r = 1 ∧ u = y)))))) : OKB G L2 e (tNm2 E b row sl e) w t r u := by
  have rd : ∀ y, Rq y → Rk y → ¬ (b = true ∧ (42 : Int) ≤ (kd e (aC G w)).toInt ∧ (kd e (aC G w)).toInt ≤ 52) → OKB G L2 e (tNm2 E b row sl e) w false 0 y := by
    intro y h1 h2 h3
    have a := hR y h1 h2
    refine Or.inl ⟨rfl, ?_, a.2.1, a.2.2⟩
    unfold tNm2
    rw [if_neg h3, a.1, hz]
    rfl
  rcases h with ⟨a, y, h1, h2, rfl, rfl, rfl⟩ | ⟨a, r1, hk, r2, hs, -, h⟩
  · exact rd _ h1 h2 (fun q => by rw [hb] at q; exact of_decide_eq_true q.1 a)
  have hk := cKind (G := G) hk J
  have btq : b = true := by rw [hb]; exact decide_eq_true a
  have hs2 : r2.toInt ≠ 0 ↔ (42 : Int) ≤ r1.toInt ∧ r1.toInt ≤ 52 := by
    rcases hs with ⟨q, rfl⟩ | ⟨q, ⟨q2, rfl⟩ | ⟨q2, rfl⟩⟩
    · exact ⟨fun k => absurd rfl k, fun k => by omega⟩
    · exact ⟨fun k => absurd rfl k, fun k => by omega⟩
    · exact ⟨fun _ => ⟨q, q2⟩, fun _ => by decide⟩
  rcases h with ⟨q, y, h1, h2, rfl, rfl, rfl⟩ | ⟨q, h⟩
  · exact rd _ h1 h2 (fun k => hs2.mpr (by rw [hk]; exact k.2) q)
  · refine OKB.cg (f' := fun s => bd (tChange E row sl e s) fun s => .ok (true, s)) ?_ ?_
    · unfold tNm2
      exact if_pos ⟨btq, by rw [← hk]; exact hs2.mp q⟩
    · rcases h with ⟨y, h1, rfl, rfl, rfl⟩ | ⟨y, h1, k1, rfl, rfl, rfl⟩
      · exact OKC.b (cChange hE h1 J og tp hrow hsl (by rw [← hk]; exact hs2.mp q)) nom
      · exact OKC.b (cChange hE h1 J og tp hrow hsl (by rw [← hk]; exact hs2.mp q)) (fun _ => by decide)
set_option maxHeartbeats 400000 in
theorem cErr (h2 : Q_x_X9_place L1 L2 v pa) (h3 : Q_x_X9_refuse L1 L2 v pb pa true x) (J : JC L2 e v) : (.error (pb, pl e (aC G v)) : PX (Bool × PS)) = .error (x.1 0 308, x.1 0 309) := by
  obtain ⟨-, e1, e2⟩ := cRef h3
  rw [e1, e2, cPlace (G := G) h2 J]
set_option maxHeartbeats 400000 in
theorem cNamed (hE : HE L2 c E) (h : Q_x_X2_named L1 L2 c v pa t r u) (J : JC L2 e v) (og : OG G v) (tp : TPO v) (hb : b = decide (pa.toInt ≠ 0)) : OKB G L2 e (tNamed E b e) v t r u := by
  obtain ⟨-, -, -, -, -, -, -, -, -, -, r3, h1, r6, h2, r9, h3, k3, h⟩ := h
  have hkb := cKindB (G := G) h1 J
  have hv := cValue (G := G) h2 J
  have hf := cSlot (G := G) h3
  rw [hv] at hf
  have k3 : -1 ≤ r9.toInt := k3
  rcases h with ⟨q9, -, h⟩ | ⟨q9, r164, h4, r167, h5, -, h⟩
  · have hs : 0 ≤ fnd (pKn (aC G v)) (vl e (aC G v)) := by omega
    have T := tNamed_s (E := E) (st := b) (e := e) (s := aC G v) hs
    rw [← hkb] at T
    rcases h with ⟨a, r18, h6, -, h⟩ | ⟨a, r84, h7, u9, h8, rfl, rfl, rfl⟩
    · rw [if_neg a] at T
      have g1 := cGFn h6 (by decide)
      rcases h with ⟨-, h⟩ | ⟨q, -⟩
      · rcases h with ⟨a4, h⟩ | ⟨a4, r84, h7, u9, h8, rfl, rfl, rfl⟩
        · rw [if_neg a4] at T
          refine OKB.cg (f' := fun s => bd (tTake e s) (tNm2 E b false true e)) T ?_
          rcases h with ⟨u9, h7, rfl, rfl, rfl⟩ | ⟨u26, h7, k7, h⟩
          · exact OKC.bBx (cTake h7 nom J)
          have b7 := cTake (G := G) h7 (fun _ => k7) J
          exact OKC.bB b7 (cNm2 (z := 1) (Rq := fun y => Q_x_X2_read L1 L2 u26 r9 (-1) y) (Rk := fun y => K_x_X2_read u26 r9 (-1) y) (fun y y1 _ => by
            have a9 := cRead (G := G) y1 b7.jj
            rw [decide_eq_true q9] at a9
            exact a9) hE b7.jj (og.kp b7.kk) (tpo_fr k7.1 (by decide) tp) (r9 := r9) rfl (by decide) (decide_eq_true q9).symm hb h)
        · rw [if_pos a4] at T
          exact Or.inr ⟨rfl, T.trans (cErr h7 h8 J)⟩
      · rw [g1] at q
        exact absurd q (by decide)
    · rw [if_pos a] at T
      exact Or.inr ⟨rfl, T.trans (cErr h7 h8 J)⟩
  · have hs : ¬ 0 ≤ fnd (pKn (aC G v)) (vl e (aC G v)) := by omega
    have hv2 := cValue (G := G) h4 J
    have hg := cGlob h5 J
    rw [hv2] at hg
    rcases h with ⟨q7, h⟩ | ⟨q7, h⟩
    · have g0 : gfd e (vl e (aC G v)) = none := by
        rcases hg with hg | hg
        · exact hg.2
        · omega
      have T := tNamed_n (E := E) (st := b) (e := e) (s := aC G v) hs g0
      rw [← hkb] at T
      rcases h with ⟨a, r18, h6, -, h⟩ | ⟨a, h⟩
      · rw [if_neg a] at T
        rcases h with ⟨-, r84, h7, u9, h8, rfl, rfl, rfl⟩ | ⟨-, r84, h7, u9, h8, rfl, rfl, rfl⟩
        · exact Or.inr ⟨rfl, T.trans (cErr h7 h8 J)⟩
        · exact Or.inr ⟨rfl, T.trans (cErr h7 h8 J)⟩
      · rw [if_pos a] at T
        refine OKB.cg (f' := fun s => bd (tCall E e s) fun s => .ok (false, s)) T ?_
        rcases h with ⟨u9, h7, rfl, rfl, rfl⟩ | ⟨u198, h7, k7, rfl, rfl, rfl⟩
        · exact OKC.b (cCall hE h7 J og tp) nom
        · exact OKC.b (cCall hE h7 J og tp) (fun _ => by decide)
    · have g0 : 0 ≤ r167.toInt ∧ r167.toInt < (v.1 0 377).toInt ∧ gfd e (vl e (aC G v)) = some (v.1 (5000 + rowA L2 r167.toNatClampNeg) 2) := by
        rcases hg with hg | hg
        · exact absurd hg.1 q7
        · exact hg
      have T := tNamed_g (E := E) (st := b) (e := e) (s := aC G v) hs g0.2.2
      rw [← hkb] at T
      rcases h with ⟨a, r18, h6, -, h⟩ | ⟨a, r84, h7, u9, h8, rfl, rfl, rfl⟩
      · rw [if_neg a] at T
        have g1 : r18 = v.1 (5000 + rowA L2 r167.toNatClampNeg) 2 := cGF4 h6 g0.1 g0.2.1 J.2.2.2 (by decide)
        rw [← g1] at T
        rcases h with ⟨q, h⟩ | ⟨q, h⟩
        · rw [if_neg (fun y => q (by rw [y]; decide))] at T
          rcases h with ⟨a4, h⟩ | ⟨a4, r84, h7, u9, h8, rfl, rfl, rfl⟩
          · rw [if_neg a4] at T
            refine OKB.cg (f' := fun s => bd (tTake e s) (tNm2 E b false false e)) T ?_
            rcases h with ⟨u9, h7, rfl, rfl, rfl⟩ | ⟨u26, h7, k7, h⟩
            · exact OKC.bBx (cTake h7 nom J)
            have b7 := cTake (G := G) h7 (fun _ => k7) J
            exact OKC.bB b7 (cNm2 (z := 2) (Rq := fun y => Q_x_X2_read L1 L2 u26 r9 r167 y) (Rk := fun y => K_x_X2_read u26 r9 r167 y) (fun y y1 _ => by
              have a9 := cRead (G := G) y1 b7.jj
              rw [decide_eq_false (fun y => y q9)] at a9
              exact a9) hE b7.jj (og.kp b7.kk) (tpo_fr k7.1 (by decide) tp) (r9 := r9) rfl (by decide) (decide_eq_false (fun y => y q9)).symm hb h)
          · rw [if_pos a4] at T
            exact Or.inr ⟨rfl, T.trans (cErr h7 h8 J)⟩
        · rw [if_pos (Int32.toInt_inj.mp (by rw [q]; decide))] at T
          rcases h with ⟨a4, r84, h7, u9, h8, rfl, rfl, rfl⟩ | ⟨a4, h⟩
          · rw [if_neg a4] at T
            exact Or.inr ⟨rfl, T.trans (cErr h7 h8 J)⟩
          · rw [if_pos a4] at T
            refine OKB.cg (f' := fun s => bd (tTake e s) fun s => bd (tIndex E e s) (tNm2 E b true false e)) T ?_
            rcases h with ⟨u9, h7, rfl, rfl, rfl⟩ | ⟨u26, h7, k7, h⟩
            · exact OKC.bBx (cTake h7 nom J)
            have b7 := cTake (G := G) h7 (fun _ => k7) J
            have tp7 := tpo_fr k7.1 (by decide) tp
            refine OKC.bB b7 ?_
            rcases h with ⟨u9, h8, rfl, rfl, rfl⟩ | ⟨u301, h8, k8, h⟩
            · exact OKC.bBx (cIndex hE h8 b7.jj (og.kp b7.kk) tp7)
            have b8 := cIndex (G := G) hE h8 b7.jj (og.kp b7.kk) tp7
            have tp8 : TPO u301 := tpo_k b8.kk k8.2.2.2.2.2.2.2.2.2.1 tp7
            exact OKC.bB b8 (cNm2 (z := 1) (Rq := fun y => Q_x_X1_add L1 L2 u301 8 r167 0 y) (Rk := fun y => K_x_X1_add u301 8 r167 0 y) (fun y y1 y2 => cAddk (G := G) (k := 1) y1 y2 (by decide) rfl b8.jj) hE b8.jj ((og.kp b7.kk).kp b8.kk) tp8 (r9 := r9) rfl (by decide) (decide_eq_false (fun y => y q9)).symm hb h)
      · rw [if_pos a] at T
        exact Or.inr ⟨rfl, T.trans (cErr h7 h8 J)⟩
end CNM
