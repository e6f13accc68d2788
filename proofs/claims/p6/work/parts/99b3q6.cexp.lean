/-! the class's expressions -/
def TPE (v : MS) : Prop := (v.1 0 326).toInt ≤ 10 * (v.1 0 306).toInt
def TPO (v : MS) : Prop := (v.1 0 326).toInt ≤ 10 * (v.1 0 306).toInt + 10
abbrev RE1 : Type := MS → Int32 → Bool → MS → Prop
abbrev RO1 : Type := MS → Int32 → Bool → Int32 → MS → Prop
def HE (L2 : List Nat) (c : RE1) (E : FE) : Prop := ∀ (G : GH) (e : PE) (v : MS) (pa : Int32) (b t : Bool) (u : MS), b = decide (pa.toInt ≠ 0) → c v pa t u → (t = false → K_x_X2_expression v pa u) → JC L2 e v → OG G v → TPE v → OKC G L2 e (E b e) v t u
def HO (L2 : List Nat) (c : RO1) (O : FO) : Prop := ∀ (G : GH) (e : PE) (v : MS) (pa : Int32) (b t : Bool) (r : Int32) (u : MS), b = decide (pa.toInt ≠ 0) → c v pa t r u → (t = false → K_x_X2_operand v pa r u) → JC L2 e v → OG G v → TPO v → OKB G L2 e (O b e) v t r u
theorem nom {P : Prop} : true = false → P := fun h => nomatch h
section CEX
variable {G : GH} {L1 L2 : List Nat} {e : PE} {v u x : MS} {t : Bool} {r pa pb pc1 pd : Int32} {c : RE1} {o : RO1} {E : FE} {O : FO}
theorem tp_open (k : K_x_X9_open v u) (h : TPO v) : TPE u := by
  unfold TPE TPO at *
  rw [k.1.2.1 326 (by decide)]
  have := k.2.2.2.1
  omega
theorem tpo_fr {fl al : List Nat} (f : FC fl al v u) (h1 : 326 ∉ fl ∧ 306 ∉ fl) (h : TPO v) : TPO u := by
  unfold TPO at *
  rw [f.2.1 326 h1.1, f.2.1 306 h1.2]
  exact h
theorem tpe_fr {fl al : List Nat} (f : FC fl al v u) (h1 : 326 ∉ fl ∧ 306 ∉ fl) (h : TPE v) : TPE u := by
  unfold TPE at *
  rw [f.2.1 326 h1.1, f.2.1 306 h1.2]
  exact h
theorem tpo_e (h : TPE v) : TPO v := by unfold TPE TPO at *; omega
theorem tpe_k (k : KP v u) (h6 : (u.1 0 306).toInt = (v.1 0 306).toInt) (h : TPE v) : TPE u := by unfold TPE at *; rw [k.1]; omega
theorem tpo_k (k : KP v u) (h6 : (u.1 0 306).toInt = (v.1 0 306).toInt) (h : TPO v) : TPO u := by unfold TPO at *; rw [k.1]; omega
theorem OKC.sw {f g : PS → PX PS} (h : OKC G L2 e f v t u) (k : f = g) : OKC G L2 e g v t u := k ▸ h
theorem cExpm {m : Int} (hm : pa.toInt = m) (h : Q_x_X9_expect L1 L2 v pa t u) (k : t = false → K_x_X9_expect v pa u) (J : JC L2 e v) : OKC G L2 e (tExp m e) v t u := hm ▸ cExp h k J
theorem cNeedm {m : Int} (hm : pa.toInt = m) (h : Q_x_X9_need L1 L2 v pa t u) (J : JC L2 e v) : OKC G L2 e (tNeed m e) v t u := hm ▸ cNeed h J
theorem cIndex (hE : HE L2 c E) (h : Q_x_X2_index L1 L2 c v pa t u) (J : JC L2 e v) (og : OG G v) (tp : TPO v) : OKC G L2 e (tIndex E e) v t u := by
  obtain ⟨-, -, -, -, -, -, -, -, -, -, h⟩ := h
  rcases h with ⟨u9, h1, rfl, rfl⟩ | ⟨u2, h1, k1, h⟩
  · exact OKC.bx (cOpen h1 nom J)
  have a1 := cOpen (G := G) h1 (fun _ => k1) J
  refine OKC.bo a1 ?_
  have og1 := og.kp a1.kk
  rcases h with ⟨u9, h2, rfl, rfl⟩ | ⟨u14, h2, k2, h⟩
  · exact OKC.bx (hE G e u2 1 true true _ (by decide) h2 nom a1.jj og1 (tp_open k1 tp))
  have a2 := hE G e u2 1 true false _ (by decide) h2 (fun _ => k2) a1.jj og1 (tp_open k1 tp)
  refine OKC.bo a2 ?_
  rcases h with ⟨u9, h3, rfl, rfl⟩ | ⟨u19, h3, k3, h⟩
  · exact OKC.bx (cExpm (by decide) h3 nom a2.jj)
  have a3 := cExpm (G := G) (m := 35) (by decide) h3 (fun _ => k3) a2.jj
  refine OKC.bo a3 ?_
  obtain ⟨u23, h4, k4, u28, h5, k5, rfl, rfl⟩ := h
  have a4 := cClose (G := G) h4 k4 a3.jj
  have a5 := cAdd (G := G) h5 k5 a4.2.1
  exact OKC.rt (q := fun s => em 8 (tClose s)) (by rw [a5.1, a4.1]; exact tAdd_em (by decide) rfl) (a4.2.2.tr a5.2.2) a5.2.1
theorem OKB.bx {f : PS → PX (Bool × PS)} {g : Bool × PS → PX PS} (h : OKB G L2 e f v true r u) : OKC G L2 e (fun s => bd (f s) g) v true u := by
  rcases h with ⟨h, _⟩ | ⟨_, h⟩
  · cases h
  · exact Or.inr ⟨rfl, by simp only [h, bd_er]⟩
theorem OKB.bo {f : PS → PX (Bool × PS)} {g : Bool × PS → PX PS} (h : OKB G L2 e f v false r u) (k : OKC G L2 e (fun s => g (decide (r.toInt ≠ 0), s)) u t x) : OKC G L2 e (fun s => bd (f s) g) v t x := by
  rcases h with ⟨_, h, _, p⟩ | ⟨h, _⟩
  · rcases k with ⟨k0, k, j, q⟩ | ⟨k0, k⟩
    · exact Or.inl ⟨k0, by simp only [h, bd_ok]; exact k, j, p.tr q⟩
    · exact Or.inr ⟨k0, by simp only [h, bd_ok]; exact k⟩
  · cases h
theorem OKB.jj {f : PS → PX (Bool × PS)} (h : OKB G L2 e f v false r u) : JC L2 e u := by
  rcases h with h | ⟨h, _⟩
  · exact h.2.2.1
  · cases h
theorem OKB.kk {f : PS → PX (Bool × PS)} (h : OKB G L2 e f v false r u) : KP v u := by
  rcases h with h | ⟨h, _⟩
  · exact h.2.2.2
  · cases h
/-- a step that ends with b -/
theorem OKC.b {f : PS → PX PS} {b : Bool} (h : OKC G L2 e f v t u) (hb : t = false → b = decide (r.toInt ≠ 0)) : OKB G L2 e (fun s => bd (f s) (fun s => .ok (b, s))) v t r u := by
  rcases h with ⟨h0, h, j, p⟩ | ⟨h0, h⟩
  · exact Or.inl ⟨h0, by simp only [h, bd_ok]; rw [hb h0], j, p⟩
  · exact Or.inr ⟨h0, by simp only [h, bd_er]⟩
theorem OKB.cg {f f' : PS → PX (Bool × PS)} (h : f (aC G v) = f' (aC G v)) (k : OKB G L2 e f' v t r u) : OKB G L2 e f v t r u := by
  unfold OKB at k ⊢
  rw [h]
  exact k
theorem cUnary (hO : HO L2 o O) (h : Q_x_X2_unary L1 L2 o v pa t u) (hd : pa ≠ 20 ∧ dsz pa 0 = 1) (h21 : pa ≠ 21 ∧ pa ≠ 0 ∧ 1 ≤ pa.toInt ∧ pa.toInt ≤ 24) (J : JC L2 e v) (og : OG G v) (tp : TPO v) : OKC G L2 e (fun s => bd (tOpen e s) fun s => bd (O false e s) fun q => .ok (em 1 (tClose q.2))) v t u := by
  obtain ⟨-, -, -, -, -, -, -, -, -, -, h⟩ := h
  rcases h with ⟨u9, h1, rfl, rfl⟩ | ⟨u2, h1, k1, h⟩
  · exact OKC.bx (cOpen h1 nom J)
  have a1 := cOpen (G := G) h1 (fun _ => k1) J
  refine OKC.bo a1 ?_
  have og1 := og.kp a1.kk
  rcases h with ⟨u9, h2, rfl, rfl⟩ | ⟨r14, u14, h2, k2, h⟩
  · exact OKB.bx (hO G e u2 0 false true _ _ (by decide) h2 nom a1.jj og1 (tpo_e (tp_open k1 tp)))
  have a2 := hO G e u2 0 false false _ _ (by decide) h2 (fun _ => k2) a1.jj og1 (tpo_e (tp_open k1 tp))
  refine OKB.bo a2 ?_
  obtain ⟨u23, h4, k4, u28, h5, k5, rfl, rfl⟩ := h
  have a4 := cClose (G := G) h4 k4 a2.jj
  have a5 := cAdd (G := G) h5 k5 a4.2.1 h21 (Or.inl hd.1)
  exact OKC.rt (q := fun s => em 1 (tClose s)) (by rw [a5.1, a4.1]; exact tAdd_em hd.1 hd.2) (a4.2.2.tr a5.2.2) a5.2.1
theorem cQuest (hE : HE L2 c E) (h : Q_x_X2_choice L1 L2 c v t u) (J : JC L2 e v) (og : OG G v) (tp : TPE v) : OKC G L2 e (fun s => bd (tOpen e s) fun s => bd (E true e (em 2 s)) fun s => bd (tExp 39 e s) fun s => bd (E false e (em 1 s)) fun s => .ok (tClose s)) v t u := by
  obtain ⟨-, -, -, -, -, -, -, -, -, -, r3, u2, h1, k1, r6, u5, h2, k2, h⟩ := h
  have a1 := cLab (G := G) h1 k1 J
  have a2 := cLab (G := G) h2 k2 a1.2.1
  have kp2 := a1.2.2.tr a2.2.2
  have tp2 : TPE u5 := tpe_fr k2.1 (by decide) (tpe_fr k1.1 (by decide) tp)
  refine OKC.st (q := fun s => s) (f := fun s => bd (tOpen e s) fun s => bd (E true e (em 2 s)) fun s => bd (tExp 39 e s) fun s => bd (E false e (em 1 s)) fun s => .ok (tClose s)) (a2.1.trans a1.1) kp2 ?_
  rcases h with ⟨u9, h3, rfl, rfl⟩ | ⟨u14, h3, k3, h⟩
  · exact OKC.bx (cOpen h3 nom a2.2.1)
  have a3 := cOpen (G := G) h3 (fun _ => k3) a2.2.1
  refine OKC.bo a3 ?_
  obtain ⟨u20, h4, k4, h⟩ := h
  have a4 := cAdd (G := G) h4 k4 a3.jj
  have og4 := ((og.kp kp2).kp a3.kk).kp a4.2.2
  have tp4 : TPE u20 := tpe_fr k4.1 (by decide) (tp_open k3 (tpo_e tp2))
  refine OKC.st (q := fun s => em 2 s) (f := fun s => bd (E true e s) fun s => bd (tExp 39 e s) fun s => bd (E false e (em 1 s)) fun s => .ok (tClose s)) (a4.1.trans (tAdd_em (by decide) rfl)) a4.2.2 ?_
  rcases h with ⟨u9, h5, rfl, rfl⟩ | ⟨u42, h5, k5, h⟩
  · exact OKC.bx (hE G e u20 1 true true _ (by decide) h5 nom a4.2.1 og4 tp4)
  have a5 := hE G e u20 1 true false _ (by decide) h5 (fun _ => k5) a4.2.1 og4 tp4
  refine OKC.bo a5 ?_
  rcases h with ⟨u9, h6, rfl, rfl⟩ | ⟨u47, h6, k6, h⟩
  · exact OKC.bx (cExpm (by decide) h6 nom a5.jj)
  have a6 := cExpm (G := G) (m := 39) (by decide) h6 (fun _ => k6) a5.jj
  refine OKC.bo a6 ?_
  obtain ⟨u51, h7, k7, u54, h8, k8, h⟩ := h
  have a7 := cAdd (G := G) h7 k7 a6.jj
  have a8 := cSet (G := G) h8 k8 a7.2.1
  have og8 := (((og4.kp a5.kk).kp a6.kk).kp a7.2.2).kp a8.2.2
  have tp8 : TPE u54 := tpe_fr k8.1 (by decide) (tpe_fr k7.1 (by decide) (tpe_fr k6.1 (by decide) (tpe_k a5.kk k5.2.2.2.2.2.2.2.2.2.1 tp4)))
  refine OKC.st (q := fun s => em 1 s) (f := fun s => bd (E false e s) fun s => .ok (tClose s)) ((a8.1.trans a7.1).trans (tAdd_em (by decide) rfl)) (a7.2.2.tr a8.2.2) ?_
  rcases h with ⟨u9, h9, rfl, rfl⟩ | ⟨u79, h9, k9, h⟩
  · exact OKC.bx (hE G e u54 0 false true _ (by decide) h9 nom a8.2.1 og8 tp8)
  have a9 := hE G e u54 0 false false _ (by decide) h9 (fun _ => k9) a8.2.1 og8 tp8
  refine OKC.bo a9 ?_
  obtain ⟨u82, h10, k10, u86, h11, k11, rfl, rfl⟩ := h
  have a10 := cSet (G := G) h10 k10 a9.jj
  have a11 := cClose (G := G) h11 k11 a10.2.1
  exact OKC.rt (q := tClose) (a11.1.trans (by rw [a10.1])) (a10.2.2.tr a11.2.2) a11.2.1
end CEX
