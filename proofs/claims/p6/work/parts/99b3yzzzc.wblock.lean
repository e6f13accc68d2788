/-! the reference's words: blocks, if -/
section ZZC
variable {n : Int} {K : TK} {e : PE} {v u w x y : MS} {a b d a0 cc : List EV} {q : EV} {r pa pb pd o zv zn : Int32} {c : RM1} {E : EvE} {S : EvS} {Es : FE} {Ss : FS} {k : Nat}
def kpW (v u : MS) : Prop := (u.1 0 52 = v.1 0 52 ∧ u.1 0 53 = v.1 0 53 ∧ u.1 0 55 = v.1 0 55 ∧ u.1 0 57 = v.1 0 57 ∧ u.1 0 59 = v.1 0 59) ∧ u.1 61 = v.1 61 ∧ u.1 63 = v.1 63 ∧ u.1 65 = v.1 65
theorem kpW.tr (h : kpW v u) (k : kpW u w) : kpW v w := ⟨⟨k.1.1.trans h.1.1, k.1.2.1.trans h.1.2.1, k.1.2.2.1.trans h.1.2.2.1, k.1.2.2.2.1.trans h.1.2.2.2.1, k.1.2.2.2.2.trans h.1.2.2.2.2⟩, k.2.1.trans h.2.1, k.2.2.1.trans h.2.2.1, k.2.2.2.trans h.2.2.2⟩
theorem kpW.fg {fl al : List Nat} (f : FG fl al v u) (g1 : 52 ∉ fl ∧ 53 ∉ fl ∧ 55 ∉ fl ∧ 57 ∉ fl ∧ 59 ∉ fl := by decide) (g2 : 61 ∉ al ∧ 63 ∉ al ∧ 65 ∉ al := by decide) : kpW v u := ⟨⟨f.2.1 52 g1.1, f.2.1 53 g1.2.1, f.2.1 55 g1.2.2.1, f.2.1 57 g1.2.2.2.1, f.2.1 59 g1.2.2.2.2⟩, f.2.2 61 g2.1, f.2.2 63 g2.2.1, f.2.2 65 g2.2.2⟩
theorem SAw.kp (A : WAi K v u a) (k : kpW v u) : SAw K v u a := SAw.oa A k.1.1 k.1.2.1 k.1.2.2.1 k.1.2.2.2.1 k.1.2.2.2.2 k.2.1 k.2.2.1 k.2.2.2
/-- a jump over statements -/
theorem SAw.pj {ws : List Int32} {z0 p t : Int32} {jj : Int} (E9 : EMi v x (ws ++ [z0]) []) (xs : kpW v x) (C : SAw K x w cc) (u11 : u.1 11 = upd (w.1 11) p.toNatClampNeg (jW 0 ((4 : Int32) * (t - p)))) (u12 : u.1 0 12 = w.1 0 12) (hs : SMw w u) (us : kpW w u) (hp : 0 ≤ (v.1 0 12).toInt → (v.1 0 12).toInt ≤ 1000000 → p.toInt = (v.1 0 12).toInt + ws.length) (ht : 0 ≤ (w.1 0 12).toInt → (w.1 0 12).toInt ≤ 1000000 → t.toInt = (w.1 0 12).toInt + jj) (hd : q.2.2.2.2.2 = (ws.length : Int) + 1 + lwL cc + jj) (hw : ∀ gm, rwE gm q = ws ++ [jW 0 (jr q.2.2.2.2.2 ws.length)]) (hl : lwE q = ws.length + 1) (hf : fxE q = []) (hq : decide (q.1 = 21) = false := by rfl) : SAw K v u ([q] ++ cc) := by
  obtain ⟨C, ⟨c7, c8⟩, c10⟩ := C
  refine ⟨fun B => ?_, ⟨by rw [us.1.1, c7, xs.1.1], by rw [us.1.2.2.1, c8, xs.1.2.2.1]⟩, fun B hB j hj => ?_⟩
  · obtain ⟨b1, b2, b3⟩ := B
    rw [lwL_app, lwL_cons, lwL_nil, hl] at b2
    have H := E9 ⟨b1, by rw [List.length_append]; show _ + ((ws.length + 1 : Nat) : Int) ≤ _; omega, b3⟩
    obtain ⟨⟨⟨h1, -⟩, h3, h4⟩, h5, h6, ⟨h7, -⟩, h9⟩ := H
    have h1 : (x.1 0 12).toInt = (v.1 0 12).toInt + ((ws.length + 1 : Nat) : Int) := by rw [h1, List.length_append]; rfl
    have f1 := h7.1
    have f1 : (x.1 0 43).toInt = (v.1 0 43).toInt + ((0 : Nat) : Int) := f1
    obtain ⟨⟨c1, c2, c3, c4, cf⟩, c5, c6, cr⟩ := C ⟨by omega, by omega, by omega⟩
    have ep := hp b1 (by omega)
    have et := ht (by omega) (by omega)
    have n0 := natI b1
    have np := natI (a := p) (by omega)
    have nx := natI (a := x.1 0 12) (by omega)
    have ej : (4 : Int32) * (t - p) = jr q.2.2.2.2.2 ws.length := jrE (by omega)
    rw [ej] at u11
    have x24 : x.1 24 = v.1 24 := h5 24 (by decide)
    have F0 : WFq v x := ⟨⟨by omega, h4⟩, ⟨by omega, h9⟩, ⟨by rw [h6]; exact Int.le_refl _, fun c _ => ⟨by rw [h5 35 (by decide)], by rw [h5 37 (by decide)]⟩⟩, x24⟩
    have C0 : CWq v x := ⟨fun c g1 g2 => by rw [h6] at g2; omega, fun c d g1 g2 => by rw [h6] at g2; omega⟩
    have F1 := F0.tr c2
    have C1 := C0.tr c3 F0 c2
    have hs' := hs
    obtain ⟨⟨s1, s2, s3, s4, s5, s6⟩, s7, s8⟩ := hs'
    have F2 : WFq v u := ⟨⟨by rw [u12]; exact F1.1.1, fun j hj => by rw [u11, updN_ (by omega)]; exact F1.1.2 j hj⟩, ⟨by rw [s8]; exact F1.2.1.1, fun c hc => by rw [s4, s5, s6]; exact F1.2.1.2 c hc⟩, ⟨by rw [s7]; exact F1.2.2.1.1, fun c hc => by rw [s2, s3]; exact F1.2.2.1.2 c hc⟩, s1.trans F1.2.2.2⟩
    have C2 : CWq v u := by
      unfold CWq
      rw [s7, u12, s3]
      exact C1
    have g12 : (u.1 0 12).toInt = (w.1 0 12).toInt := by rw [u12]
    have exp : (x.1 0 12).toNatClampNeg = (v.1 0 12).toNatClampNeg + lwE q := by omega
    have egx : gWw x = gWw v := by unfold gWw; rw [xs.1.1, xs.1.2.2.1]
    have wo : woE K u (v.1 0 39).toInt q (v.1 0 12).toNatClampNeg := by
      refine ⟨⟨by rw [hl, g12]; omega, by rw [hw, hl, List.length_append]; rfl⟩, fun i z hz => ?_, fun e => absurd e (of_decide_eq_false hq)⟩
      rw [hw] at hz
      by_cases g : i < ws.length
      · rw [List.getElem?_append_left g] at hz
        rw [u11, updN_ (by omega), c2.1.2 _ (by omega)]
        exact h3 i z (by rw [List.getElem?_append_left g]; exact hz)
      · rw [List.getElem?_append_right (by omega)] at hz
        have l := getl hz
        have l : i - ws.length < 1 := l
        have e0 : i - ws.length = 0 := by omega
        rw [e0] at hz
        rw [u11, show (v.1 0 12).toNatClampNeg + i = p.toNatClampNeg by omega, updS]
        exact Option.some.inj hz
    have nq := wo.n3
    have M0 : MWq K w (v.1 0 39).toInt (gWw v) ((v.1 0 12).toNatClampNeg + lwE q) (v.1 0 53) (v.1 0 57) (v.1 0 59) cc := by
      rw [exp, egx, h6, xs.1.2.1, xs.1.2.2.2.1, xs.1.2.2.2.2] at c4
      exact c4
    have M1 := MWq.pt (u := u) u12 hs cc (fun j g1 g2 => by rw [u11, updN_ (by omega)]) M0
    refine ⟨⟨by rw [lwL_app, lwL_cons, lwL_nil, hl, g12]; omega, F2, C2, ⟨?_, ?_⟩, ?_⟩, ?_, fun t9 => ?_, ?_⟩
    · unfold mwE
      rw [if_neg nq.1, if_neg nq.2.1, if_neg nq.2.2]
      exact wo
    · rw [if_neg nq.1, if_neg nq.2.1, if_neg nq.2.2]
      exact M1
    · rw [fxL_app]
      show FQq v u (((fxE q).map (fun e => ((v.1 0 12).toNatClampNeg + e.1, e.2)) ++ []) ++ fxL ((v.1 0 12).toNatClampNeg + lwL [q]) cc)
      rw [hf, lwL_cons, lwL_nil, show (v.1 0 12).toNatClampNeg + (lwE q + 0) = (x.1 0 12).toNatClampNeg by omega]
      have n43 := natI b3
      have n43x := natI (a := x.1 0 43) (by omega)
      refine ⟨by rw [s8]; have := cf.1; show _ = _ + ((fxL (x.1 0 12).toNatClampNeg cc).length : Int); omega, fun k e he => ?_⟩
      rw [s4, s5, s6, show (v.1 0 43).toNatClampNeg = (x.1 0 43).toNatClampNeg by omega]
      exact cf.2 k e he
    · show u.1 0 53 = chw 30 (if q.1 = 30 then _ else v.1 0 53) ((v.1 0 12).toNatClampNeg + lwE q) cc
      rw [if_neg nq.1, us.1.2.1, c5, xs.1.2.1, exp]
    · show u.1 0 57 = chw 31 (if q.1 = 31 then _ else v.1 0 57) ((v.1 0 12).toNatClampNeg + lwE q) cc
      rw [if_neg nq.2.1, us.1.2.2.2.1, c6 (by rw [xs.1.2.2.1]; exact t9), xs.1.2.2.2.1, exp]
    · show u.1 0 59 = chw 32 (if q.1 = 32 then _ else v.1 0 59) ((v.1 0 12).toNatClampNeg + lwE q) cc
      rw [if_neg nq.2.2, us.1.2.2.2.2, cr, xs.1.2.2.2.2, exp]
  · have := c10 B hB j (by rw [xs.1.1]; exact hj)
    simp only [List.mem_cons, List.not_mem_nil, or_false] at hB
    rcases hB with rfl | rfl | rfl
    · rw [us.2.1, this, xs.2.1]
    · rw [us.2.2.1, this, xs.2.2.1]
    · rw [us.2.2.2, this, xs.2.2.2]
set_option maxHeartbeats 800000 in
theorem oBlockW (hS : XWs n K c S) (hSs : HMS n K c Ss) (h : Q_m_block k c v false u) (J : JM n K e v) (hk : (e.1 (v.1 0 47)).toInt = 32) : ∃ a, gBlock S e (knM K v) (v.1 0 32) (v.1 0 47) = some (a, knM K u, u.1 0 47) ∧ SOw n K e v u a := by
  have JU := (rBlock (g := gLq v) hSs h J rfl (gLq_lo v) hk).jj
  obtain ⟨z1, z2, z3, z4, z5, z6, z15, z8, z9, z10, z11, z12, z13, z14, h⟩ := h
  rcases h with ⟨u9, -, f9, -⟩ | ⟨h1, k1, w24, hr, -, h47, -, h15, -, h39, -, -, h30, -, -, r11, h11, -, h⟩
  · cases f9
  have k32 : (kd e (aR g00 K v)).toInt = ((123, 32) : Int32 × Int32).2.toInt := hk.trans (by decide)
  have JO := (rOpenK (g := g00) h1 J (by decide) rfl k32).jj
  have e47 : ((v.1 0 47) + (1 : Int32)).toInt = (v.1 0 47).toInt + 1 := add_z rfl (by decide) (by omega) (by have := k1.1; omega)
  obtain ⟨V, hV⟩ : ∃ V, V = (wA (wA (wA v 0 47 ((v.1 0 47) + (1 : Int32))) 0 48 ((v.1 0 48) + (1 : Int32))) 0 31 (v.1 0 30)) := ⟨_, rfl⟩
  rw [← hV] at hr
  have JV : JM n K e V := by rw [hV]; exact JO.w (by decide)
  have NV : ND V := by rw [hV]; exact ndT J k1.1
  have v47 : V.1 0 47 = v.1 0 47 + 1 := by rw [hV]; rfl
  have AV : SAw K v V [] := by rw [hV]; exact SAw.oa (WAi.sm rfl rfl) rfl rfl rfl rfl rfl rfl rfl rfl
  have v29 : V.1 29 = v.1 29 := by rw [hV]; rfl
  have v30 : V.1 0 30 = v.1 0 30 := by rw [hV]; rfl
  have v32 : V.1 0 32 = v.1 0 32 := by rw [hV]; rfl
  have e33 : ∀ {i : Int32}, e.1 i = 33 ↔ (e.1 i).toInt = 33 := ⟨fun q => by rw [q]; decide, fun q => Int32.toInt_inj.mp (q.trans (by decide))⟩
  have inv : ∃ a f, SOw n K e V w24 a ∧ (1501 : Int) ≤ ((f : Nat) : Int) + (w24.1 0 47).toInt ∧ gStats S 1502 e (knM K V) (V.1 0 32) (V.1 0 47) = (gStats S f e (knM K w24) (V.1 0 32) (w24.1 0 47)).bind fun r => some (a ++ r.1, r.2) := by
    refine RT.ind (fun (y : MS) => ∃ a f, SOw n K e V y a ∧ (1501 : Int) ≤ ((f : Nat) : Int) + (y.1 0 47).toInt ∧ gStats S 1502 e (knM K V) (V.1 0 32) (V.1 0 47) = (gStats S f e (knM K y) (V.1 0 32) (y.1 0 47)).bind fun r => some (a ++ r.1, r.2)) hr ⟨[], 1502, ⟨⟨JV, NV⟩, SAw.rf, rfl, Int.le_refl _, fun _ _ => rfl⟩, by show (1501 : Int) ≤ 1502 + (V.1 0 47).toInt; rw [v47]; omega, ?_⟩ ?_
    · cases gStats S 1502 e (knM K V) (V.1 0 32) (V.1 0 47) with
      | none => rfl
      | some q => rfl
    · intro w1 y _ I hb
      obtain ⟨a, f, S1, hm, hf⟩ := I
      obtain ⟨-, a47, -, a15, -, -, -, -, -, -, -, r11, h11, -, c11, u27, h27, k27, rfl⟩ := hb
      have i11 : r11.toInt ≠ 0 ↔ e.1 (w1.1 0 47) = 33 := rIs (g := g00) h11 S1.1.1 (q := (125, 33)) (by decide) rfl
      obtain ⟨b, y1, y2⟩ := hS e w1 y h27 k27 S1.1.1 S1.1.2
      obtain ⟨f0, rfl⟩ : ∃ f0, f = f0 + 1 := ⟨f - 1, by omega⟩
      have p47 := k27.2.1.1
      refine ⟨a ++ b, f0, S1.tr y2, by omega, ?_⟩
      rw [hf]
      show (if (e.1 (w1.1 0 47)).toInt = 33 then _ else (S e (knM K w1) (V.1 0 32) (w1.1 0 47)).bind _ : Option (List EV × List Int32 × Int32)).bind _ = _
      rw [if_neg (fun q => i11.mpr (e33.mpr q) c11)]
      rw [S1.2.2.1] at y1
      rw [y1, Option.bind_some]
      show ((gStats S f0 e (knM K y) (V.1 0 32) (y.1 0 47)).bind _).bind _ = _
      cases gStats S f0 e (knM K y) (V.1 0 32) (y.1 0 47) with
      | none => rfl
      | some q =>
        show some (a ++ (b ++ q.1), q.2) = some ((a ++ b) ++ q.1, q.2)
        rw [List.append_assoc]
  obtain ⟨a, f, S1, hm, hf⟩ := inv
  obtain ⟨f0, rfl⟩ : ∃ f0, f = f0 + 1 := ⟨f - 1, by omega⟩
  have i11 : r11.toInt ≠ 0 ↔ e.1 (w24.1 0 47) = 33 := rIs (g := g00) h11 S1.1.1 (q := (125, 33)) (by decide) rfl
  rcases h with ⟨c11, ⟨u9, -, f9, -⟩ | ⟨h3, k3, -, eu⟩⟩ | ⟨-, u9, -, f9, -⟩
  · cases f9
  · have k33 := e33.mp (i11.mp c11)
    have A3 : SAw K w24 u [] := by rw [eu]; exact SAw.oa (WAi.sm rfl rfl) rfl rfl rfl rfl rfl rfl rfl rfl
    have g30 : u.1 0 30 = v.1 0 30 := by rw [eu]; rfl
    have lo : ∀ j : Nat, (j : Int) < (v.1 0 30).toInt → u.1 29 j = v.1 29 j := fun j hj => by
      rw [eu]
      show w24.1 29 j = _
      rw [S1.2.2.2.2 j (by rw [v30]; exact hj), v29]
    have kn : knM K u = knM K v := by
      unfold knM
      rw [g30]
      refine List.map_congr_left (fun j hj => ?_)
      have := List.mem_range.mp hj
      have := natI z3.1
      rw [lo j (by omega)]
    have hg : gStats S 1502 e (knM K v) (v.1 0 32) (v.1 0 47 + 1) = some (a, knM K w24, w24.1 0 47) := by
      rw [← knM_of v29 v30, ← v32, ← v47, hf]
      show (if (e.1 (w24.1 0 47)).toInt = 33 then some ([], knM K w24, w24.1 0 47) else _ : Option (List EV × List Int32 × Int32)).bind _ = _
      rw [if_pos k33, Option.bind_some, List.append_nil]
    refine ⟨a, ?_, ⟨JU.1, JU.2.2⟩, (AV.tn S1.2.1).nt A3, ?_, by rw [g30]; exact Int.le_refl _, lo⟩
    · unfold gBlock
      rw [hg, Option.bind_some]
      show (gTok e 33 (w24.1 0 47)).bind _ = _
      rw [gTok_of k33, Option.bind_some, kn, eu]
      rfl
    · rw [eu]
      show w24.1 0 32 = _
      rw [S1.2.2.1, v32]
  · cases f9
/-- a question and its words -/
def CDw (n : Int) (K : TK) (e : PE) (v w u : MS) (r : Int32) : Prop := (JM n K e u ∧ ND u) ∧ (EMi w u ([bW 4195 10 0 8] ++ [-1]) [] ∧ r = w.1 0 12 + 1 ∧ u.1 0 12 = w.1 0 12 + 1 + 1 ∧ 0 ≤ (w.1 0 12).toInt ∧ (w.1 0 12).toInt ≤ 23980) ∧ (u.1 29 = v.1 29 ∧ u.1 0 30 = v.1 0 30 ∧ u.1 0 32 = v.1 0 32) ∧ kpW v w ∧ kpW w u ∧ ((v.1 0 47).toInt + 1 ≤ (u.1 0 47).toInt ∧ (u.1 0 47).toInt ≤ 1500)
theorem eUn {x9 : Int32} (h : Q_m_unlessTrue2 v r (wA (wA (wA (wA (wA (wA (wA (wA v 11 ((v.1 0 12).toNatClampNeg) x9) 0 12 ((v.1 0 12) + (1 : Int32))) 11 (((v.1 0 12) + (1 : Int32)).toNatClampNeg) (-1)) 0 12 (((v.1 0 12) + (1 : Int32)) + (1 : Int32))) 13 ((v.1 0 15).toNatClampNeg) 10) 14 ((v.1 0 15).toNatClampNeg) 0) 0 15 ((v.1 0 15) + (1 : Int32))) 0 60 (v.1 0 15))) : x9 = bW 4195 10 0 8 ∧ r = v.1 0 12 + 1 ∧ 0 ≤ (v.1 0 12).toInt ∧ (v.1 0 12).toInt ≤ 23980 := by
  obtain ⟨z12, -, r3, h3, er, e⟩ := h
  refine ⟨?_, er, z12⟩
  have n1 := natI z12.1
  have a1 := ad1 (n := v.1 0 12) z12.1 (by omega)
  have n2 := natI (a := v.1 0 12 + 1) (by omega)
  have ne : (v.1 0 12).toNatClampNeg ≠ (v.1 0 12 + 1).toNatClampNeg := by omega
  have e1 := congrArg (fun z : MS => z.1 11 (v.1 0 12).toNatClampNeg) e
  have e1 : upd (upd (v.1 11) (v.1 0 12).toNatClampNeg x9) (v.1 0 12 + 1).toNatClampNeg (-1) (v.1 0 12).toNatClampNeg = upd (upd (v.1 11) (v.1 0 12).toNatClampNeg r3) (v.1 0 12 + 1).toNatClampNeg (-1) (v.1 0 12).toNatClampNeg := e1
  rw [updN_ ne, updN_ ne, updS, updS] at e1
  rw [e1]
  exact eB h3 (by decide)
theorem oCondMW (hX : XWe n K (QME k) E) (hE : HME n K (QME k) Es) (h : Q_m_condition k v false r u) (kq : K_m_condition v r u) (J : JM n K e v) : ∃ w a, gCond E e (knM K v) (v.1 0 32) (v.1 0 47) = some (a, u.1 0 47) ∧ WAi K v w a ∧ CDw n K e v w u r := by
  obtain ⟨s', -, -, JU, -, ndu⟩ := rCondO (g := g00) hE h J rfl
  obtain ⟨z1, z2, z3, z4, z5, z6, z15, z8, z9, z10, z11, h⟩ := h
  rcases h with ⟨u9, -, f9, -⟩ | ⟨h1, k1, ⟨u9, -, f9, -⟩ | ⟨u7, h7, k7, ⟨u9, -, f9, -⟩ | ⟨h3, k3, x23, r22, h22, -, -, er, eu⟩⟩⟩
  · cases f9
  · cases f9
  · cases f9
  have O1 := oOpen (q := (40, 30)) (m := 30) h1 J (by decide) rfl (by decide)
  obtain ⟨a, x1, x2⟩ := hX e _ u7 h7 k7 O1.1
  have x1 : E true e (knM K v) (v.1 0 32) (v.1 0 47 + 1) = some (a, u7.1 0 47) := x1
  have C1 := oClose (q := (41, 31)) (m := 31) h3 x2.1 (by decide) rfl (by decide)
  have A0 : WAi K v (wA (wA v 0 47 ((v.1 0 47) + (1 : Int32))) 0 48 ((v.1 0 48) + (1 : Int32))) [] := WAi.sm rfl rfl
  obtain ⟨W, hW⟩ : ∃ W, W = (wA (wA u7 0 47 ((u7.1 0 47) + (1 : Int32))) 0 48 ((u7.1 0 48) - (1 : Int32))) := ⟨_, rfl⟩
  rw [← hW] at h22
  have U := eUn (v := W) (x9 := x23) (r := r22) (by rw [hW] at h22 ⊢; exact h22)
  obtain ⟨rfl, rfl, z12⟩ := U
  have AW : WAi K u7 W [] := by rw [hW]; exact WAi.sm rfl rfl
  have i1 : ((v.1 0 47) + (1 : Int32)).toInt = (v.1 0 47).toInt + 1 := add_z rfl (by decide) (by omega) (by have := k1.1; omega)
  have l47 := k7.2.1
  have l47 : ((v.1 0 47) + (1 : Int32)).toInt + 1 ≤ (u7.1 0 47).toInt ∧ (u7.1 0 47).toInt ≤ 1500 := l47
  have e47 : u.1 0 47 = u7.1 0 47 + 1 := by rw [eu]; rfl
  have l7 : (u7.1 0 47).toInt < 1500 := by have := k3.1; omega
  have i7 : ((u7.1 0 47) + (1 : Int32)).toInt = (u7.1 0 47).toInt + 1 := add_z rfl (by decide) (by omega) (by omega)
  have k7' : kpW v u7 := (kpW.fg k7.1 : kpW (wA (wA v 0 47 ((v.1 0 47) + (1 : Int32))) 0 48 ((v.1 0 48) + (1 : Int32))) u7)
  refine ⟨W, a, ?_, ((A0.tn x2.2.1).nt AW), ⟨JU, ndu⟩, ⟨?_, er, by rw [eu, hW]; rfl, z12⟩, ⟨?_, ?_, ?_⟩, ?_, ?_, ?_, ?_⟩
  · unfold gCond
    rw [gTok_of O1.2, Option.bind_some, x1, Option.bind_some]
    show (gTok e 31 (u7.1 0 47)).bind _ = _
    rw [gTok_of C1.2, Option.bind_some, e47]
  · have W12 : W.1 0 12 = u7.1 0 12 := by rw [hW]; rfl
    have W11 : W.1 11 = u7.1 11 := by rw [hW]; rfl
    exact EMi.w2 (by rw [W11, W12, eu]; rfl) (by rw [W12, eu]; rfl) (by rw [eu, hW]; exact ⟨⟨rfl, rfl, rfl, rfl, rfl, rfl⟩, rfl, rfl⟩)
  · rw [eu]; exact x2.2.2.1
  · rw [eu]; exact x2.2.2.2.1
  · rw [eu]; exact x2.2.2.2.2
  · rw [hW]; exact k7'
  · rw [eu, hW]; exact ⟨⟨rfl, rfl, rfl, rfl, rfl⟩, rfl, rfl, rfl⟩
  · rw [e47, i7]; omega
  · rw [e47, i7]; omega
end ZZC
