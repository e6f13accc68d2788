/-! the class: arguments, calls -/
def tArg (E : FE) (k : Int32) (e : PE) (s : PS) : PX PS := bd (E true e (tDue k s)) fun s => .ok (sPb (em 1 s) (pPb s + 1))
def tMore (E : FE) (f : Nat) (k : Int32) (e : PE) (s : PS) : PX (Int32 × PS) := if (kd e s).toInt = 37 then bd (tTake e s) (tArgs E f k e) else .ok (k, s)
theorem tArgs_eq {E : FE} {f : Nat} {k : Int32} {e : PE} {s : PS} : tArgs E (f + 1) k e s = bd (tArg E k e s) (tMore E f (k + 1) e) := by
  unfold tArg
  rw [bd_as]
  rfl
/-- stack and other calls are kept -/
def KB (b : Nat) (v u : MS) : Prop := u.1 0 326 = v.1 0 326 ∧ (∀ j : Nat, (j : Int) < (v.1 0 326).toInt → u.1 324 j = v.1 324 j ∧ u.1 325 j = v.1 325 j) ∧ (v.1 0 321).toInt ≤ (u.1 0 321).toInt ∧ ∀ c : Nat, c < 500 → (c : Int) < (v.1 0 321).toInt → c ≠ b → u.1 320 c = v.1 320 c
theorem KP.b {v u : MS} (b : Nat) (h : KP v u) : KB b v u := ⟨h.1, h.2.1, h.2.2.1, fun c h1 h2 _ => h.2.2.2 c h1 h2⟩
theorem KB.tr {b : Nat} {v u x : MS} (a : KB b v u) (c : KB b u x) : KB b v x :=
  ⟨c.1.trans a.1, fun j h => ⟨((c.2.1 j (by rw [a.1]; exact h)).1).trans (a.2.1 j h).1, ((c.2.1 j (by rw [a.1]; exact h)).2).trans (a.2.1 j h).2⟩, Int.le_trans a.2.2.1 c.2.2.1, fun k h1 h2 h3 => (c.2.2.2 k h1 (Int.lt_of_lt_of_le h2 a.2.2.1) h3).trans (a.2.2.2 k h1 h2 h3)⟩
section CC3
variable {G : GH} {L1 L2 : List Nat} {e : PE} {v u x : MS} {t : Bool} {r pa pb pc1 pd : Int32} {c : RE1} {o : RO1} {E : FE} {O : FO} {f g : PS → PX PS}
theorem cDue (h : Q_x_X9_makeDue L1 L2 v u) (k : K_x_X9_makeDue v u) (J : JC L2 e v) : aC G u = sDu (sMo (aC G v) 0) true ∧ JC L2 e u ∧ KP v u := by
  obtain ⟨-, rfl⟩ := h
  refine ⟨?_, J.fr k.1 k.2 (by decide) (by decide) (Int.le_refl _), KP.fr k.1 (by decide) (by decide)⟩
  refine aC_eq rfl rfl ?_ rfl rfl ?_ rfl rfl rfl rfl rfl rfl rfl rfl
  · exact decide_eq_true rfl
  · exact if_pos rfl
theorem cAddArg (h : Q_x_X1_addArgument L1 L2 v pa u) (k : K_x_X1_addArgument v pa u) (J : JC L2 e v) (h0 : 0 ≤ pa.toInt ∧ pa.toInt ≤ 500) (hc : ovC v = true ∨ pa.toNatClampNeg ∈ G.2.2.2.2) : aC G u = aC G v ∧ JC L2 e u ∧ KB pa.toNatClampNeg v u ∧ u.1 320 pa.toNatClampNeg = v.1 320 pa.toNatClampNeg + 1 := by
  rcases h with ⟨a, -⟩ | ⟨-, ⟨a, -⟩ | ⟨a, rfl⟩⟩
  · omega
  · omega
  have hn : ∀ j, j ≠ pa.toNatClampNeg → (wA v 320 pa.toNatClampNeg ((v.1 320) pa.toNatClampNeg + 1)).1 320 j = v.1 320 j := fun j hj => updN_ hj
  refine ⟨?_, J.fr k.1 k.2 (by decide) (by decide) J.2.1, ⟨rfl, fun _ _ => ⟨rfl, rfl⟩, Int.le_refl _, fun j _ _ hj => hn j hj⟩, updS⟩
  refine aC_eq rfl rfl rfl rfl rfl rfl rfl rfl rfl rfl ?_ rfl rfl ?_
  · show wdC G _ = wdC G v
    unfold wdC
    show (if ovC v = true then 0 else _) = (if ovC v = true then 0 else _)
    rcases hc with hc | hc
    · rw [if_pos hc, if_pos hc]
    · congr 2
      exact csum_cg _ (fun j _ => ⟨Iff.rfl, fun w => hn j (fun q => w (q ▸ hc))⟩)
  · show caC G _ = caC G v
    unfold caC
    show (if ovC v = true then [] else _) = (if ovC v = true then [] else _)
    rcases hc with hc | hc
    · rw [if_pos hc, if_pos hc]
    · congr 1
      exact cas_cg (fun j _ => ⟨rfl, rfl, Iff.rfl, fun w => hn j (fun q => w (q ▸ hc))⟩)
theorem cArg (hE : HE L2 c E) (h : Q_x_X2_argument L1 L2 c v pa pb t u) (J : JC L2 e v) (og : OG G v) (tp : TPE v) (h0 : 0 ≤ pa.toInt ∧ pa.toInt ≤ 500) (hc : ovC v = true ∨ pa.toNatClampNeg ∈ G.2.2.2.2) : (t = false → tArg E pb e (aC G v) = .ok (aC G u) ∧ JC L2 e u ∧ KB pa.toNatClampNeg v u ∧ (pa.toNatClampNeg < 500 → (pa.toNatClampNeg : Int) < (v.1 0 321).toInt → u.1 320 pa.toNatClampNeg = v.1 320 pa.toNatClampNeg + 1)) ∧ (t = true → tArg E pb e (aC G v) = .error (u.1 0 308, u.1 0 309)) := by
  have main : ∀ w w2 : MS, aC G w = tDue pb (aC G v) → JC L2 e w → KP v w → TPE w → Q_x_X1_addArgument L1 L2 w pa w2 → K_x_X1_addArgument w pa w2 → ((∃ u9, c w2 1 true u9 ∧ t = true ∧ u = u9) ∨ (∃ u40, c w2 1 false u40 ∧ K_x_X2_expression w2 1 u40 ∧ ∃ r45, Q_x_X1_nextSlot L1 L2 u40 r45 ∧ ∃ u47, Q_x_X1_add L1 L2 u40 4 r45 0 u47 ∧ K_x_X1_add u40 4 r45 0 u47 ∧ t = false ∧ u = wA u47 0 314 (u47.1 0 314 + 1))) → ((t = false → tArg E pb e (aC G v) = .ok (aC G u) ∧ JC L2 e u ∧ KB pa.toNatClampNeg v u ∧ (pa.toNatClampNeg < 500 → (pa.toNatClampNeg : Int) < (v.1 0 321).toInt → u.1 320 pa.toNatClampNeg = v.1 320 pa.toNatClampNeg + 1)) ∧ (t = true → tArg E pb e (aC G v) = .error (u.1 0 308, u.1 0 309))) := by
    intro w w2 ha jw kw tw h1 k1 h
    have hov : ovC w = true ∨ pa.toNatClampNeg ∈ G.2.2.2.2 := hc.imp (ov_le kw.2.2.1) id
    have a1 := cAddArg (G := G) h1 k1 jw h0 hov
    have og1 : OG G w2 := (og.kp kw).le a1.2.2.1.2.2.1
    have tp1 : TPE w2 := tpe_fr k1.1 (by decide) tw
    unfold tArg
    rw [← ha, ← a1.1]
    rcases h with ⟨u9, h2, rfl, rfl⟩ | ⟨u40, h2, k2, r45, -, u47, h3, k3, rfl, rfl⟩
    · have a2 := hE G e w2 1 true true _ (by decide) h2 nom a1.2.1 og1 tp1
      refine ⟨nom, fun _ => ?_⟩
      rw [a2.ex, bd_er]
    · have a2 := hE G e w2 1 true false _ (by decide) h2 (fun _ => k2) a1.2.1 og1 tp1
      have a3 := cAddk (G := G) (k := 1) h3 k3 (by decide) rfl a2.jj
      have kk : KB pa.toNatClampNeg v (wA u47 0 314 (u47.1 0 314 + 1)) := (kw.b _).tr (a1.2.2.1.tr (((a2.kk.tr a3.2.2).tr kPb).b _))
      refine ⟨fun _ => ⟨?_, jPb a3.2.1, kk, fun q1 q2 => ?_⟩, (fun q => nomatch q)⟩
      · rw [a2.eo, bd_ok, aPb, a3.1]
        have : u47.1 0 314 = pPb (aC G u40) := by
          have q : pPb (aC G u47) = pPb (aC G u40) := by rw [a3.1, pPb_em]
          exact q
        rw [this]
      · have e1 : (wA u47 0 314 (u47.1 0 314 + 1)).1 320 pa.toNatClampNeg = w2.1 320 pa.toNatClampNeg := ((a2.kk.tr a3.2.2).tr kPb).2.2.2 _ q1 (Int.lt_of_lt_of_le q2 (Int.le_trans kw.2.2.1 a1.2.2.1.2.2.1))
        rw [e1, a1.2.2.2, kw.2.2.2 _ q1 q2]
  obtain ⟨-, -, -, -, -, -, -, -, -, -, r3, u2, h1, k1, h⟩ := h
  have a1 := cWant (G := G) h1 k1 J
  have tp2 : TPE u2 := tpe_fr k1.1 (by decide) tp
  rcases h with ⟨a, u8, h2, k2, u11, h3, k3, h⟩ | ⟨a, ⟨b, u11, h3, k3, h⟩ | ⟨b, u8, h2, k2, u11, h3, k3, h⟩⟩
  · have a2 := cDue (G := G) h2 k2 a1.2.2.1
    refine main u8 u11 ?_ a2.2.1 (a1.2.2.2.1.tr a2.2.2) (tpe_fr k2.1 (by decide) tp2) h3 k3 h
    unfold tDue
    rw [if_pos (Or.inl (by have := (not_congr a1.2.1).mp (fun w => w a); omega)), a2.1, a1.1]
    unfold sMm
    split <;> rfl
  · refine main u2 u11 ?_ a1.2.2.1 a1.2.2.2.1 tp2 h3 k3 h
    unfold tDue
    rw [if_neg (fun w => by have := a1.2.1.mp a; omega), a1.1]
  · have a2 := cDue (G := G) h2 k2 a1.2.2.1
    refine main u8 u11 ?_ a2.2.1 (a1.2.2.2.1.tr a2.2.2) (tpe_fr k2.1 (by decide) tp2) h3 k3 h
    unfold tDue
    rw [if_pos (Or.inr b), a2.1, a1.1]
    unfold sMm
    split <;> rfl
end CC3
