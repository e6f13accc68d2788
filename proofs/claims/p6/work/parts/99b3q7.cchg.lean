/-! the class: a place is set -/
def OKX (G G2 : GH) (L2 : List Nat) (e : PE) (f : PS → PX PS) (v : MS) (t : Bool) (u : MS) : Prop := (t = false ∧ f (aC G v) = .ok (aC G2 u) ∧ JC L2 e u ∧ KP v u) ∨ (t = true ∧ f (aC G v) = .error (u.1 0 308, u.1 0 309))
def gM (G : GH) (k : Int32) : GH := (G.1 || isT k, G.2.1 || isD k, G.2.2.1, G.2.2.2.1, G.2.2.2.2)
theorem em_em {a b : Int32} {s : PS} : em b (em a s) = em (a + b) s := by
  unfold em
  by_cases h : pOv s = true
  · rw [if_pos h, if_pos h, if_pos h]
  · rw [if_neg h, if_neg (show ¬ pOv (sWd s (pWd s + a)) = true from h), if_neg h]
    show sWd (sWd s (pWd s + a)) (pWd s + a + b) = _
    rw [Int32.add_assoc]
    rfl
theorem em_z {s : PS} : em 0 s = s := by
  unfold em
  split
  · rfl
  · rw [Int32.add_zero]; rfl
theorem em_pb {k x : Int32} {s : PS} : em k (sPb s x) = sPb (em k s) x := by
  unfold em
  by_cases h : pOv s = true
  · rw [if_pos h, if_pos (show pOv (sPb s x) = true from h)]
  · rw [if_neg h, if_neg (show ¬ pOv (sPb s x) = true from h)]; rfl
theorem em_rem {k x : Int32} {s : PS} : em k (tRem x s) = tRem x (em k s) := by
  unfold em
  by_cases h : pOv s = true
  · rw [if_pos h, if_pos (show pOv (tRem x s) = true from h)]
  · rw [if_neg h, if_neg (show ¬ pOv (tRem x s) = true from h)]; rfl
section CCH
variable {G G2 G3 : GH} {L1 L2 : List Nat} {e : PE} {v u x : MS} {t : Bool} {r pa pb pc1 pd : Int32} {c : RE1} {o : RO1} {E : FE} {O : FO} {f g : PS → PX PS}
theorem OKX.bx (h : OKX G G3 L2 e f v true u) : OKX G G2 L2 e (fun s => bd (f s) g) v true u := by
  rcases h with ⟨h, _⟩ | ⟨_, h⟩
  · cases h
  · exact Or.inr ⟨rfl, by simp only [h, bd_er]⟩
theorem OKX.bo (h : OKX G G2 L2 e f v false u) (k : OKX G2 G3 L2 e g u t x) : OKX G G3 L2 e (fun s => bd (f s) g) v t x := by
  rcases h with ⟨_, h, _, p⟩ | ⟨h, _⟩
  · rcases k with ⟨k0, k, j, q⟩ | ⟨k0, k⟩
    · exact Or.inl ⟨k0, by simp only [h, bd_ok]; exact k, j, p.tr q⟩
    · exact Or.inr ⟨k0, by simp only [h, bd_ok]; exact k⟩
  · cases h
theorem OKX.st {q : PS → PS} (ha : aC G2 u = q (aC G v)) (hk : KP v u) (k : OKX G2 G3 L2 e f u t x) : OKX G G3 L2 e (fun s => f (q s)) v t x := by
  rcases k with ⟨k0, k, j, p⟩ | ⟨k0, k⟩
  · exact Or.inl ⟨k0, by simp only [← ha]; exact k, j, hk.tr p⟩
  · exact Or.inr ⟨k0, by simp only [← ha]; exact k⟩
theorem OKX.rt {q : PS → PS} (ha : aC G2 u = q (aC G v)) (hk : KP v u) (j : JC L2 e u) : OKX G G2 L2 e (fun s => .ok (q s)) v false u := Or.inl ⟨rfl, by simp only [ha], j, hk⟩
theorem OKX.cg {f' : PS → PX PS} (h : f (aC G v) = f' (aC G v)) (k : OKX G G2 L2 e f' v t u) : OKX G G2 L2 e f v t u := by
  unfold OKX at k ⊢
  rw [h]
  exact k
theorem aC_gM (k : Int32) (v : MS) : aC (gM G k) v = tRem k (aC G v) := by
  refine aC_eq rfl rfl rfl rfl rfl rfl ?_ ?_ rfl rfl rfl rfl rfl rfl
  · show (G.1 || isT k || _) = ((G.1 || _) || isT k)
    rw [Bool.or_assoc, Bool.or_comm (isT k), ← Bool.or_assoc]
  · show (G.2.1 || isD k || _) = ((G.2.1 || _) || isD k)
    rw [Bool.or_assoc, Bool.or_comm (isD k), ← Bool.or_assoc]
theorem cBin (h : Q_x_X1_add L1 L2 v 20 pa pb u) (k : K_x_X1_add v 20 pa pb u) (J : JC L2 e v) (h53 : 53 ≤ pa.toInt ∧ pa.toInt ≤ 68) : aC G u = em (1 + opz pa) (aC (gM G pa) v) ∧ JC L2 e u ∧ KP v u := by
  have a := cAdd (G := G) h k J (by decide) (Or.inr h53)
  refine ⟨?_, a.2.1, a.2.2⟩
  rw [a.1, aC_gM, em_rem]
  show sMu (em (1 + opz pa) (aC G v)) (pMu (aC G v) || isT pa) (pDi (aC G v) || isD pa) = sMu (em (1 + opz pa) (aC G v)) (pMu (em (1 + opz pa) (aC G v)) || isT pa) (pDi (em (1 + opz pa) (aC G v)) || isD pa)
  rw [pMu_em, pDi_em]
theorem cAddk {d k : Int32} (h : Q_x_X1_add L1 L2 v d pa pb u) (kk : K_x_X1_add v d pa pb u) (hd : d ≠ 20) (hk : dsz d pa = k) (J : JC L2 e v) (h21 : d ≠ 21 ∧ d ≠ 0 ∧ 1 ≤ d.toInt ∧ d.toInt ≤ 24 := by decide) : aC G u = em k (aC G v) ∧ JC L2 e u ∧ KP v u := by
  have a := cAdd (G := G) h kk J h21 (Or.inl hd)
  exact ⟨a.1.trans (tAdd_em hd hk), a.2.1, a.2.2⟩
theorem cRead (h : Q_x_X2_read L1 L2 v pa pb u) (J : JC L2 e v) : aC G u = em (vsz (decide (pa.toInt ≠ -1))) (aC G v) ∧ JC L2 e u ∧ KP v u := by
  obtain ⟨-, -, -, -, h⟩ := h
  rcases h with ⟨a, u4, h1, k1, rfl⟩ | ⟨a, u4, h1, k1, rfl⟩
  · rw [decide_eq_false (fun w => w a)]
    exact cAddk h1 k1 (by decide) rfl J
  · rw [decide_eq_true a]
    exact cAddk h1 k1 (by decide) rfl J
theorem cWantO (h : Q_x_X1_wantSlots L1 L2 v pa r u) (k : K_x_X1_wantSlots v pa r u) (J : JC L2 e v) (hr : r.toInt ≠ 0) : OKC G L2 e (tWant pa e) v false u := by
  have a := cWant (G := G) h k J
  refine Or.inl ⟨rfl, ?_, a.2.2.1, a.2.2.2.1⟩
  unfold tWant
  rw [if_neg (by have := a.2.1.mp hr; omega), a.1]
theorem cWantX (h : Q_x_X1_wantSlots L1 L2 v pa r u) (k : K_x_X1_wantSlots v pa r u) (J : JC L2 e v) (hr : r.toInt = 0) (h2 : Q_x_X9_place L1 L2 u pb) (h3 : Q_x_X9_refuse L1 L2 u 5 pb true x) : OKC G L2 e (tWant pa e) v true x := by
  have a := cWant (G := G) h k J
  obtain ⟨-, e1, e2⟩ := cRef h3
  refine Or.inr ⟨rfl, ?_⟩
  unfold tWant
  have q : pl e (aC G u) = pl e (aC G v) := by
    show e.2.2.1 (u.1 0 305) = e.2.2.1 (v.1 0 305)
    rw [a.2.2.2.2.1]
  rw [if_pos (by have := (not_congr a.2.1).mp (fun w => w hr); omega), e1, e2, cPlace (G := G) h2 a.2.2.1, q]
theorem aPb (v : MS) (y : Int32) : aC G (wA v 0 314 y) = sPb (aC G v) y := rfl
theorem jPb {y : Int32} (J : JC L2 e v) : JC L2 e (wA v 0 314 y) := ⟨(eC_of (v := v) (u := wA v 0 314 y) rfl rfl rfl rfl rfl rfl (RS.w0 RS.rf (by decide))).trans J.1, J.2.1, J.2.2⟩
theorem kPb {y : Int32} : KP v (wA v 0 314 y) := KP.of rfl rfl rfl rfl rfl
def tBy (E : FE) (z k : Int32) (e : PE) (s : PS) : PX PS := bd (E true e (sPb (em z s) (pPb s + 1))) fun s => .ok (em (1 + opz k) (sPb s (pPb s - 1)))
theorem cBy (hE : HE L2 c E) (h : Q_x_X2_changeBy L1 L2 c v pa pb pc1 pd t u) (J : JC L2 e v) (og : OG G v) (tp : TPE v) {z : Int32} (hz : z = (if pd.toInt = 0 then vsz (decide (pb.toInt ≠ -1)) else 1) + 1) (h53 : 53 ≤ pa.toInt ∧ pa.toInt ≤ 68) : OKX (gM G pa) G L2 e (tBy E z pa e) v t u := by
  have main : ∀ (w u13 : MS) (y : Int32) (r9 : Int32), aC (gM G pa) w = em y (aC (gM G pa) v) → JC L2 e w → KP v w → TPE w → z = y + 1 → Q_x_X1_add L1 L2 w 4 r9 0 u13 → K_x_X1_add w 4 r9 0 u13 → ((∃ u9, c (wA u13 0 314 (u13.1 0 314 + 1)) 1 true u9 ∧ t = true ∧ u = u9) ∨ (∃ u29, c (wA u13 0 314 (u13.1 0 314 + 1)) 1 false u29 ∧ K_x_X2_expression (wA u13 0 314 (u13.1 0 314 + 1)) 1 u29 ∧ ∃ u32, Q_x_X1_add L1 L2 (wA u29 0 314 (u29.1 0 314 - 1)) 20 pa r9 u32 ∧ K_x_X1_add (wA u29 0 314 (u29.1 0 314 - 1)) 20 pa r9 u32 ∧ t = false ∧ u = u32)) → OKX (gM G pa) G L2 e (tBy E z pa e) v t u := by
    intro w u13 y r9 ha jw kw tw hzy h1 k1 h
    have a1 := cAddk (G := gM G pa) (k := 1) h1 k1 (by decide) rfl jw
    have og1 : OG (gM G pa) u13 := ((og.kp kw).kp a1.2.2 : OG G u13)
    have tp1 : TPE (wA u13 0 314 (u13.1 0 314 + 1)) := (tpe_fr k1.1 (by decide) tw : TPE u13)
    have ha2 : aC (gM G pa) (wA u13 0 314 (u13.1 0 314 + 1)) = sPb (em z (aC (gM G pa) v)) (pPb (aC (gM G pa) v) + 1) := by
      rw [aPb, a1.1, ha, em_em, ← hzy]
      have : u13.1 0 314 = pPb (aC (gM G pa) v) := by
        have q : pPb (aC (gM G pa) u13) = pPb (aC (gM G pa) v) := by rw [a1.1, pPb_em, ha, pPb_em]
        exact q
      rw [this]
    refine OKX.st (q := fun s => sPb (em z s) (pPb s + 1)) (f := fun s => bd (E true e s) fun s => .ok (em (1 + opz pa) (sPb s (pPb s - 1)))) ha2 ((kw.tr a1.2.2).tr kPb) ?_
    rcases h with ⟨u9, h2, rfl, rfl⟩ | ⟨u29, h2, k2, u32, h3, k3, rfl, rfl⟩
    · exact OKX.bx (G3 := gM G pa) (hE (gM G pa) e _ 1 true true _ (by decide) h2 nom (jPb a1.2.1) og1 tp1)
    · have a2 := hE (gM G pa) e _ 1 true false _ (by decide) h2 (fun _ => k2) (jPb a1.2.1) og1 tp1
      refine OKX.bo a2 ?_
      have a3 := cBin (G := G) h3 k3 (jPb a2.jj) h53
      exact OKX.rt (q := fun s => em (1 + opz pa) (sPb s (pPb s - 1))) (by rw [a3.1]; rfl) (kPb.tr a3.2.2) a3.2.1
  obtain ⟨-, -, -, -, -, -, -, -, -, -, h⟩ := h
  rcases h with ⟨a, u4, h1, k1, r9, -, u13, h2, k2, h⟩ | ⟨a, u4, h1, k1, r9, -, u13, h2, k2, h⟩
  · have a1 := cRead (G := gM G pa) h1 J
    exact main u4 u13 _ r9 a1.1 a1.2.1 a1.2.2 (tpe_fr k1.1 (by decide) tp) (by rw [hz, if_pos a]) h2 k2 h
  · have a1 := cAddk (G := gM G pa) (k := 1) h1 k1 (by decide) rfl J
    exact main u4 u13 1 r9 a1.1 a1.2.1 a1.2.2 (tpe_fr k1.1 (by decide) tp) (by rw [hz, if_neg a]) h2 k2 h
end CCH
