/-! the reference's words: said under bounds -/
def BDw (v : MS) (n : Nat) : Prop := 0 ≤ (v.1 0 12).toInt ∧ (v.1 0 12).toInt + n ≤ 1000000 ∧ 0 ≤ (v.1 0 43).toInt
def WAi (K : TK) (v u : MS) (a : List EV) : Prop := BDw v (lwL a) → WAq K v u a
def EMi (v u : MS) (ws : List Int32) (l : List (Nat × Int32 × Int32)) : Prop := BDw v ws.length → EMg v u ws l
/-- all that counts but the words -/
def SMw (v u : MS) : Prop := (u.1 24 = v.1 24 ∧ u.1 35 = v.1 35 ∧ u.1 37 = v.1 37 ∧ u.1 40 = v.1 40 ∧ u.1 41 = v.1 41 ∧ u.1 42 = v.1 42) ∧ u.1 0 39 = v.1 0 39 ∧ u.1 0 43 = v.1 0 43
section ZWO
variable {K : TK} {v u w x y V : MS} {q : EV} {p pa pb pc1 r t z0 r1 r2 r3 r4 : Int32} {a b : List Int32} {l m : List (Nat × Int32 × Int32)} {c d : List EV} {k : Nat} {n : Int32} {jj : Int}
theorem ad1 (h : 0 ≤ n.toInt) (h2 : n.toInt ≤ 1000000) : (n + 1).toInt = n.toInt + 1 := add_z rfl (by decide) (by omega) (by omega)
theorem ad2 (h : 0 ≤ n.toInt) (h2 : n.toInt ≤ 1000000) : (n + 1 + 1).toInt = n.toInt + 2 := by
  rw [add_z (ad1 h h2) (show (1 : Int32).toInt = 1 by decide) (by omega) (by omega)]
  omega
theorem ad3 (h : 0 ≤ n.toInt) (h2 : n.toInt ≤ 1000000) : (n + 1 + 1 + 1).toInt = n.toInt + 3 := by
  rw [add_z (ad2 h h2) (show (1 : Int32).toInt = 1 by decide) (by omega) (by omega)]
  omega
theorem SMw.rf : SMw v v := ⟨⟨rfl, rfl, rfl, rfl, rfl, rfl⟩, rfl, rfl⟩
theorem SMw.tr (h : SMw v u) (g : SMw u w) : SMw v w := by
  obtain ⟨⟨a1, a2, a3, a4, a5, a6⟩, a7, a8⟩ := h
  obtain ⟨⟨b1, b2, b3, b4, b5, b6⟩, b7, b8⟩ := g
  exact ⟨⟨b1.trans a1, b2.trans a2, b3.trans a3, b4.trans a4, b5.trans a5, b6.trans a6⟩, b7.trans a7, b8.trans a8⟩
theorem EMm.of (h : 0 ≤ (v.1 0 12).toInt) (h12 : (u.1 0 12).toInt = (v.1 0 12).toInt + a.length) (hw : Seg u (v.1 0 12).toNatClampNeg a) (ho : ∀ j : Nat, (j : Int) < (v.1 0 12).toInt → u.1 11 j = v.1 11 j) (hs : SMw v u) : EMm v u a := by
  obtain ⟨⟨a1, a2, a3, a4, a5, a6⟩, a7, a8⟩ := hs
  refine ⟨⟨h12, h⟩, hw, ho, fun i hi => ?_, a7, a8⟩
  simp only [List.mem_cons, List.not_mem_nil, or_false] at hi
  rcases hi with rfl | rfl | rfl | rfl | rfl | rfl
  · exact a1
  · exact a2
  · exact a3
  · exact a4
  · exact a5
  · exact a6
theorem EMi.tr (h : EMi v u a l) (g : EMi u w b m) : EMi v w (a ++ b) (l ++ m) := by
  intro B
  obtain ⟨b1, b2, b3⟩ := B
  rw [List.length_append] at b2
  have H := h ⟨b1, by omega, b3⟩
  have h1 := H.1.1.1
  have h2 := H.2.2.2.1.1.1
  exact H.tr (g ⟨by omega, by omega, by omega⟩)
theorem EMi.rf : EMi v v [] [] := fun B => EMm.g (EMm.of B.1 (Int.add_zero _).symm (fun i z hz => by simp at hz) (fun _ _ => rfl) SMw.rf) B.2.2
/-- nothing that counts -/
theorem EMi.sm (h11 : u.1 11 = v.1 11) (h12 : u.1 0 12 = v.1 0 12) (hs : SMw v u := by exact ⟨⟨rfl, rfl, rfl, rfl, rfl, rfl⟩, rfl, rfl⟩) : EMi v u [] [] := fun B => EMm.g (EMm.of B.1 (by rw [h12]; exact (Int.add_zero _).symm) (fun i z hz => by simp at hz) (fun _ _ => by rw [h11]) hs) B.2.2
/-- one word -/
theorem EMi.w1 (h11 : u.1 11 = upd (v.1 11) (v.1 0 12).toNatClampNeg r) (h12 : u.1 0 12 = v.1 0 12 + 1) (hs : SMw v u := by exact ⟨⟨rfl, rfl, rfl, rfl, rfl, rfl⟩, rfl, rfl⟩) : EMi v u [r] [] := fun B => by
  have n1 := natI B.1
  have b2 := B.2.1
  refine EMm.g (EMm.of B.1 ?_ (fun i z hz => ?_) (fun j hj => ?_) hs) B.2.2
  · rw [h12]
    exact ad1 B.1 (by omega)
  · match i, hz with
    | 0, hz =>
      rw [h11, Nat.add_zero, updS]
      exact Option.some.inj hz
    | i + 1, hz => simp at hz
  · rw [h11, updN_ (by omega)]
theorem EMi.one : EMi v (wA (wA v 11 (v.1 0 12).toNatClampNeg r) 0 12 (v.1 0 12 + 1)) [r] [] := EMi.w1 rfl rfl
theorem EMi.nil (h : EMi v u a l) (g : EMi u w [] []) : EMi v w a l := by
  have := h.tr g
  rw [List.append_nil, List.append_nil] at this
  exact this
theorem EMi.snc (h : EMi v u a l) (h11 : w.1 11 = upd (u.1 11) (u.1 0 12).toNatClampNeg r) (h12 : w.1 0 12 = u.1 0 12 + 1) (hs : SMw u w := by exact ⟨⟨rfl, rfl, rfl, rfl, rfl, rfl⟩, rfl, rfl⟩) : EMi v w (a ++ [r]) l := by
  have := h.tr (EMi.w1 h11 h12 hs)
  rw [List.append_nil] at this
  exact this
theorem EMi.w2 (h11 : u.1 11 = upd (upd (v.1 11) (v.1 0 12).toNatClampNeg r1) (v.1 0 12 + 1).toNatClampNeg r2) (h12 : u.1 0 12 = v.1 0 12 + 1 + 1) (hs : SMw v u := by exact ⟨⟨rfl, rfl, rfl, rfl, rfl, rfl⟩, rfl, rfl⟩) : EMi v u [r1, r2] [] := (EMi.one (v := v) (r := r1)).snc (w := u) h11 h12 hs
theorem EMi.w3 (h11 : u.1 11 = upd (upd (upd (v.1 11) (v.1 0 12).toNatClampNeg r1) (v.1 0 12 + 1).toNatClampNeg r2) (v.1 0 12 + 1 + 1).toNatClampNeg r3) (h12 : u.1 0 12 = v.1 0 12 + 1 + 1 + 1) (hs : SMw v u := by exact ⟨⟨rfl, rfl, rfl, rfl, rfl, rfl⟩, rfl, rfl⟩) : EMi v u [r1, r2, r3] [] := ((EMi.one (v := v) (r := r1)).tr (EMi.one (r := r2))).snc (w := u) h11 h12 hs
theorem EMi.w4 (h11 : u.1 11 = upd (upd (upd (upd (v.1 11) (v.1 0 12).toNatClampNeg r1) (v.1 0 12 + 1).toNatClampNeg r2) (v.1 0 12 + 1 + 1).toNatClampNeg r3) (v.1 0 12 + 1 + 1 + 1).toNatClampNeg r4) (h12 : u.1 0 12 = v.1 0 12 + 1 + 1 + 1 + 1) (hs : SMw v u := by exact ⟨⟨rfl, rfl, rfl, rfl, rfl, rfl⟩, rfl, rfl⟩) : EMi v u [r1, r2, r3, r4] [] := (((EMi.one (v := v) (r := r1)).tr (EMi.one (r := r2))).tr (EMi.one (r := r3))).snc (w := u) h11 h12 hs
/-- an address is wanted, k words behind the beginning -/
theorem EMi.fx (A : EMi v w a l) (h : Q_m_fix w pa pb pc1 u) (e : 0 ≤ (v.1 0 12).toInt → (v.1 0 12).toInt ≤ 1000000 → pa.toInt = (v.1 0 12).toInt + k) : EMi v u a (l ++ [((v.1 0 12).toNatClampNeg + k, pb, pc1)]) := fun B => by
  have H := A B
  have h1 := H.1.1.1
  have b2 := B.2.1
  have b1 := B.1
  have ep := e B.1 (by omega)
  have n1 := natI B.1
  have n2 := natI (a := pa) (by omega)
  have F := wFix (by omega) h
  rw [show pa.toNatClampNeg = (v.1 0 12).toNatClampNeg + k by omega] at F
  have T := H.tr F
  rw [List.append_nil] at T
  exact T
/-- an event -/
theorem EMi.ev (h : EMi v u (rwE (v.1 24) q) ((fxE q).map (fun e => ((v.1 0 12).toNatClampNeg + e.1, e.2)))) (hl : (rwE (v.1 24) q).length = lwE q) (hq : decide (q.1 = 21) = false := by rfl) : WAi K v u [q] := fun B => by
  obtain ⟨b1, b2, b3⟩ := B
  rw [lwL_cons, lwL_nil] at b2
  refine EMg.ev ?_ hl (of_decide_eq_false hq)
  show EMg v u (rwE (v.1 24) q) ((fxE q).map (fun e => ((v.1 0 12).toNatClampNeg + e.1, e.2)) ++ [])
  rw [List.append_nil]
  exact h ⟨b1, by rw [hl]; omega, b3⟩
theorem WAi.rf : WAi K v v [] := fun _ => WAq.rf
theorem WAi.tr {P : Prop} (h : WAi K v u c) (g : WAi K u w d) (_h0 : P := by exact True.intro) : WAi K v w (c ++ d) := fun B => by
  obtain ⟨b1, b2, b3⟩ := B
  rw [lwL_app] at b2
  have H := h ⟨b1, by omega, b3⟩
  have h1 := H.1
  have h2 := H.2.1.2.1.1
  exact H.tr (g ⟨by omega, by omega, by omega⟩) b1 b3
theorem WAi.nt {P : Prop} (h : WAi K v u c) (g : WAi K u w []) (_h0 : P := by exact True.intro) : WAi K v w c := by
  have T := h.tr g
  rw [List.append_nil] at T
  exact T
theorem WAi.tn {P : Prop} (h : WAi K v u []) (g : WAi K u w c) (_h0 : P := by exact True.intro) : WAi K v w c := h.tr g
theorem WAi.sm (h11 : u.1 11 = v.1 11) (h12 : u.1 0 12 = v.1 0 12) (hs : SMw v u := by exact ⟨⟨rfl, rfl, rfl, rfl, rfl, rfl⟩, rfl, rfl⟩) : WAi K v u [] := fun _ => by
  obtain ⟨⟨a1, a2, a3, a4, a5, a6⟩, a7, a8⟩ := hs
  refine ⟨by rw [lwL_nil, h12]; omega, ⟨⟨by rw [h12]; exact Int.le_refl _, fun j _ => by rw [h11]⟩, ⟨by rw [a8]; exact Int.le_refl _, fun j _ => ⟨by rw [a4], by rw [a5], by rw [a6]⟩⟩, ⟨by rw [a7]; exact Int.le_refl _, fun j _ => ⟨by rw [a2], by rw [a3]⟩⟩, a1⟩, ⟨fun c c1 c2 => by rw [a7] at c2; omega, fun c d c1 c2 => by rw [a7] at c2; omega⟩, WOq.nil, ?_⟩
  exact ⟨by rw [a8]; show _ = _ + ((0 : Nat) : Int); omega, fun k e h => by simp [fxL] at h⟩
theorem WAi.fg {fl al : List Nat} (f : FG fl al v u) (h1 : 12 ∉ fl ∧ 39 ∉ fl ∧ 43 ∉ fl := by decide) (h2 : 11 ∉ al ∧ 24 ∉ al ∧ 35 ∉ al ∧ 37 ∉ al ∧ 40 ∉ al ∧ 41 ∉ al ∧ 42 ∉ al := by decide) : WAi K v u [] := by
  have A : ∀ {a : Nat}, a ∉ al → u.1 a = v.1 a := fun h => f.2.2 _ h
  exact WAi.sm (A h2.1) (f.2.1 12 h1.1) ⟨⟨A h2.2.1, A h2.2.2.1, A h2.2.2.2.1, A h2.2.2.2.2.1, A h2.2.2.2.2.2.1, A h2.2.2.2.2.2.2⟩, f.2.1 39 h1.2.1, f.2.1 43 h1.2.2⟩
theorem WAi.wa {i j : Nat} {x9 : Int32} (h : i ∉ [0, 11, 24, 35, 37, 40, 41, 42] := by decide) : WAi K v (wA v i j x9) [] := by
  have A : ∀ {b : Nat}, b ∈ [0, 11, 24, 35, 37, 40, 41, 42] → (wA v i j x9).1 b = v.1 b := fun hb => if_neg (fun q => h (by rw [← q]; exact hb))
  exact WAi.sm (A (by decide)) (by rw [A (by decide)]) ⟨⟨A (by decide), A (by decide), A (by decide), A (by decide), A (by decide), A (by decide)⟩, by rw [A (by decide)], by rw [A (by decide)]⟩
theorem WAi.w0 {j : Nat} {x9 : Int32} (h : j ∉ [12, 39, 43] := by decide) : WAi K v (wA v 0 j x9) [] := by
  have e0 : ∀ k, k ∈ [12, 39, 43] → (wA v 0 j x9).1 0 k = v.1 0 k := fun k hk => show upd (v.1 0) j x9 k = _ from updN_ (fun q => h (by rw [← q]; exact hk))
  exact WAi.sm rfl (e0 12 (by decide)) ⟨⟨rfl, rfl, rfl, rfl, rfl, rfl⟩, e0 39 (by decide), e0 43 (by decide)⟩
/-- an event without words -/
theorem WAi.no (l0 : lwE q = 0) (r0 : ∀ gm, rwE gm q = []) (f0 : fxE q = []) (hq : decide (q.1 = 21) = false := by rfl) : WAi K v v [q] := EMi.ev (by rw [r0, f0]; exact EMi.rf) (by rw [r0, l0]; rfl) hq
/-- how far a jump leads -/
theorem jrE {x y : Int32} {d k : Int} (h : x.toInt - y.toInt = d - k) : (4 : Int32) * (x - y) = jr d k := by
  unfold jr
  rw [← h, Int32.ofInt_mul, Int32.ofInt_sub, Int32.ofInt_toInt, Int32.ofInt_toInt]
  rfl
/-- a word is changed elsewhere -/
theorem woE.pt {cl : Int} {i : Nat} (h : woE K w cl q i) (ho : ∀ j : Nat, i ≤ j → j < i + lwE q → u.1 11 j = w.1 11 j) (h12 : u.1 0 12 = w.1 0 12) (hs : SMw w u) : woE K u cl q i := by
  obtain ⟨⟨a1, a1'⟩, a2, a3⟩ := h
  obtain ⟨⟨s1, s2, s3, s4, s5, s6⟩, s7, s8⟩ := hs
  refine ⟨⟨by rw [h12]; exact a1, by rw [s1]; exact a1'⟩, fun j z hz => ?_, fun e => ?_⟩
  · rw [s1] at hz
    have l := getl hz
    rw [ho _ (by omega) (by omega)]
    exact a2 j z hz
  · rw [s7, s3, s2]
    exact a3 e
theorem WOq.pt {cl : Int} {i : Nat} (h : WOq K w cl i c) (ho : ∀ j : Nat, i ≤ j → j < i + lwL c → u.1 11 j = w.1 11 j) (h12 : u.1 0 12 = w.1 0 12) (hs : SMw w u) : WOq K u cl i c := fun x q y e => (h x q y e).pt (fun j g1 g2 => ho j (by omega) (by
  have l := congrArg lwL e
  rw [lwL_app, lwL_cons] at l
  omega)) h12 hs
/-- a jump over a part: its word is written at the part's end -/
theorem WAi.pj (E : EMi v x (a ++ [z0]) []) (C : WAi K x w c) (u11 : u.1 11 = upd (w.1 11) p.toNatClampNeg (jW 0 ((4 : Int32) * (t - p)))) (u12 : u.1 0 12 = w.1 0 12) (hs : SMw w u) (hp : 0 ≤ (v.1 0 12).toInt → (v.1 0 12).toInt ≤ 1000000 → p.toInt = (v.1 0 12).toInt + a.length) (ht : 0 ≤ (w.1 0 12).toInt → (w.1 0 12).toInt ≤ 1000000 → t.toInt = (w.1 0 12).toInt + jj) (hd : q.2.2.2.2.2 = (a.length : Int) + 1 + lwL c + jj) (hw : ∀ gm, rwE gm q = a ++ [jW 0 (jr q.2.2.2.2.2 a.length)]) (hl : lwE q = a.length + 1) (hf : fxE q = []) (hq : decide (q.1 = 21) = false := by rfl) : WAi K v u ([q] ++ c) := fun B => by
  obtain ⟨b1, b2, b3⟩ := B
  rw [lwL_app, lwL_cons, lwL_nil, hl] at b2
  have H := E ⟨b1, by rw [List.length_append]; show _ + ((a.length + 1 : Nat) : Int) ≤ _; omega, b3⟩
  obtain ⟨⟨⟨h1, -⟩, h3, h4⟩, h5, h6, ⟨h7, -⟩, h9⟩ := H
  have h1 : (x.1 0 12).toInt = (v.1 0 12).toInt + ((a.length + 1 : Nat) : Int) := by rw [h1, List.length_append]; rfl
  have f1 := h7.1
  have f1 : (x.1 0 43).toInt = (v.1 0 43).toInt + ((0 : Nat) : Int) := f1
  obtain ⟨c1, c2, c3, c4, c5⟩ := C ⟨by omega, by omega, by omega⟩
  have ep := hp b1 (by omega)
  have et := ht (by omega) (by omega)
  have n0 := natI b1
  have np := natI (a := p) (by omega)
  have nx := natI (a := x.1 0 12) (by omega)
  have ej : (4 : Int32) * (t - p) = jr q.2.2.2.2.2 a.length := jrE (by omega)
  rw [ej] at u11
  have x24 : x.1 24 = v.1 24 := h5 24 (by decide)
  have F0 : WFq v x := ⟨⟨by omega, h4⟩, ⟨by omega, h9⟩, ⟨by rw [h6]; exact Int.le_refl _, fun c _ => ⟨by rw [h5 35 (by decide)], by rw [h5 37 (by decide)]⟩⟩, x24⟩
  have C0 : CWq v x := ⟨fun c g1 g2 => by rw [h6] at g2; omega, fun c d g1 g2 => by rw [h6] at g2; omega⟩
  have F1 := F0.tr c2
  have C1 := C0.tr c3 F0 c2
  have hs' := hs
  obtain ⟨⟨s1, s2, s3, s4, s5, s6⟩, s7, s8⟩ := hs'
  have F2 : WFq v u := ⟨⟨by rw [u12]; exact F1.1.1, fun j hj => by rw [u11, updN_ (by omega)]; exact F1.1.2 j hj⟩, ⟨by rw [s8]; exact F1.2.1.1, fun c hc => by rw [s4, s5, s6]; exact F1.2.1.2 c hc⟩, ⟨by rw [s7]; exact F1.2.2.1.1, fun c hc => by rw [s2, s3]; exact F1.2.2.1.2 c hc⟩, s1.trans F1.2.2.2⟩
  have C2 : CWq v u := by
    unfold CWq
    rw [s7, u12, s3]
    exact C1
  have g12 : (u.1 0 12).toInt = (w.1 0 12).toInt := by rw [u12]
  have M : WOq K u (v.1 0 39).toInt ((v.1 0 12).toNatClampNeg + (a.length + 1)) c := by
    have M0 : WOq K w (v.1 0 39).toInt ((v.1 0 12).toNatClampNeg + (a.length + 1)) c := by
      rw [show (v.1 0 12).toNatClampNeg + (a.length + 1) = (x.1 0 12).toNatClampNeg by omega, ← h6]
      exact c4
    exact M0.pt (fun j g1 g2 => by rw [u11, updN_ (by omega)]) u12 hs
  refine ⟨by rw [lwL_app, lwL_cons, lwL_nil, hl, g12]; omega, F2, C2, WOq.app (WOq.one ⟨⟨by rw [hl, g12]; omega, by rw [hw, hl, List.length_append]; rfl⟩, fun i z hz => ?_, fun e => absurd e (of_decide_eq_false hq)⟩) ?_, ?_⟩
  · rw [hw] at hz
    by_cases g : i < a.length
    · rw [List.getElem?_append_left g] at hz
      rw [u11, updN_ (by omega), c2.1.2 _ (by omega)]
      exact h3 i z (by rw [List.getElem?_append_left g]; exact hz)
    · rw [List.getElem?_append_right (by omega)] at hz
      have l := getl hz
      have l : i - a.length < 1 := l
      have e0 : i - a.length = 0 := by omega
      rw [e0] at hz
      rw [u11, show (v.1 0 12).toNatClampNeg + i = p.toNatClampNeg by omega, updS]
      exact Option.some.inj hz
  · rw [lwL_cons, lwL_nil, hl]
    exact M
  · rw [fxL_app]
    show FQq v u (((fxE q).map (fun e => ((v.1 0 12).toNatClampNeg + e.1, e.2)) ++ []) ++ fxL ((v.1 0 12).toNatClampNeg + lwL [q]) c)
    rw [hf, lwL_cons, lwL_nil, hl, show (v.1 0 12).toNatClampNeg + (a.length + 1 + 0) = (x.1 0 12).toNatClampNeg by omega]
    have n43 := natI b3
    have n43x := natI (a := x.1 0 43) (by omega)
    refine ⟨by rw [s8]; have := c5.1; show _ = _ + ((fxL (x.1 0 12).toNatClampNeg c).length : Int); omega, fun k e he => ?_⟩
    rw [s4, s5, s6, show (v.1 0 43).toNatClampNeg = (x.1 0 43).toNatClampNeg by omega]
    exact c5.2 k e he
end ZWO
