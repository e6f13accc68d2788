/-! the reference's orders: a function's body, its parameters' names -/
section WYB
variable {n : Int} {K : TK} {e : PE} {v u w x y u2 : MS} {a b d a0 cc : List EV} {q : EV} {r pa pb pd o zv zn i : Int32} {c : RM1} {E : EvE} {S : EvS} {Es : FE} {Ss : FS} {k : Nat}
set_option maxHeartbeats 800000 in
theorem oBody0 (hS : XMs9 n K (QMS k) S) (h : Q_m_body0 k v false u) (J : JM n K e v) : ∃ b kn' j, gTok e 32 (v.1 0 47) = some (v.1 0 47 + 1) ∧ gStats S 1502 e (knM K v) (v.1 0 32) (v.1 0 47 + 1) = some (b, kn', j) ∧ gTok e 33 j = some (u.1 0 47) ∧ SAq K v u b := by
  obtain ⟨z1, z2, z3, z4, z5, z6, z15, z8, z9, z10, z11, z12, z13, z14, h⟩ := h
  rcases h with ⟨u9, -, f9, -⟩ | ⟨h1, k1, w24, hr, -, h47, -, h15, -, h39, -, -, h30, -, -, r11, h11, -, h⟩
  · cases f9
  have O1 := oOpen (q := (123, 32)) (m := 32) h1 J (by decide) rfl (by decide)
  have e47 : ((v.1 0 47) + (1 : Int32)).toInt = (v.1 0 47).toInt + 1 := add_z rfl (by decide) (by omega) (by have := k1.1; omega)
  obtain ⟨V, hV⟩ : ∃ V, V = (wA (wA v 0 47 ((v.1 0 47) + (1 : Int32))) 0 48 ((v.1 0 48) + (1 : Int32))) := ⟨_, rfl⟩
  rw [← hV] at hr O1
  have NV : ND V := by rw [hV]; exact ndT J k1.1
  have v47 : V.1 0 47 = v.1 0 47 + 1 := by rw [hV]; rfl
  have v15 : V.1 0 15 = v.1 0 15 := by rw [hV]; rfl
  have AV : SAq K v V [] := by rw [hV]; exact SAq.oa (OA.sm rfl rfl rfl rfl rfl rfl rfl rfl) rfl rfl rfl rfl rfl rfl rfl rfl rfl
  have v29 : V.1 29 = v.1 29 := by rw [hV]; rfl
  have v30 : V.1 0 30 = v.1 0 30 := by rw [hV]; rfl
  have v32 : V.1 0 32 = v.1 0 32 := by rw [hV]; rfl
  have e33 : ∀ {i : Int32}, e.1 i = 33 ↔ (e.1 i).toInt = 33 := ⟨fun q => by rw [q]; decide, fun q => Int32.toInt_inj.mp (q.trans (by decide))⟩
  have inv : ∃ a f, SOq n K e V w24 a ∧ (1501 : Int) ≤ ((f : Nat) : Int) + (w24.1 0 47).toInt ∧ gStats S 1502 e (knM K V) (V.1 0 32) (V.1 0 47) = (gStats S f e (knM K w24) (V.1 0 32) (w24.1 0 47)).bind fun r => some (a ++ r.1, r.2) := by
    refine RT.ind (fun (y : MS) => ∃ a f, SOq n K e V y a ∧ (1501 : Int) ≤ ((f : Nat) : Int) + (y.1 0 47).toInt ∧ gStats S 1502 e (knM K V) (V.1 0 32) (V.1 0 47) = (gStats S f e (knM K y) (V.1 0 32) (y.1 0 47)).bind fun r => some (a ++ r.1, r.2)) hr ⟨[], 1502, ⟨⟨O1.1, NV⟩, SAq.rf, rfl, Int.le_refl _, fun _ _ => rfl⟩, by show (1501 : Int) ≤ 1502 + (V.1 0 47).toInt; rw [v47]; omega, ?_⟩ ?_
    · cases gStats S 1502 e (knM K V) (V.1 0 32) (V.1 0 47) with
      | none => rfl
      | some q => rfl
    · intro w1 y _ I hb
      obtain ⟨a, f, S1, hm, hf⟩ := I
      obtain ⟨-, a47, -, -, -, -, -, -, -, -, -, r11, h11, -, c11, u27, h27, k27, rfl⟩ := hb
      have i11 : r11.toInt ≠ 0 ↔ e.1 (w1.1 0 47) = 33 := rIs (g := g00) h11 S1.1.1 (q := (125, 33)) (by decide) rfl
      have s15 := S1.2.1.1.1
      obtain ⟨b, y1, y2⟩ := hS e w1 y h27 k27 S1.1.1 S1.1.2 (by rw [v15] at s15; omega)
      obtain ⟨f0, rfl⟩ : ∃ f0, f = f0 + 1 := ⟨f - 1, by omega⟩
      have p47 := k27.2.1.1
      refine ⟨a ++ b, f0, S1.tr y2 (by rw [v15]; exact z15.1), by omega, ?_⟩
      rw [hf]
      show (if (e.1 (w1.1 0 47)).toInt = 33 then _ else (S e (knM K w1) (V.1 0 32) (w1.1 0 47)).bind _ : Option (List EV × List Int32 × Int32)).bind _ = _
      rw [if_neg (fun q => i11.mpr (e33.mpr q) c11)]
      rw [S1.2.2.1] at y1
      rw [y1, Option.bind_some]
      show ((gStats S f0 e (knM K y) (V.1 0 32) (y.1 0 47)).bind _).bind _ = _
      cases gStats S f0 e (knM K y) (V.1 0 32) (y.1 0 47) with
      | none => rfl
      | some q =>
        show some (a ++ (b ++ q.1), q.2) = some ((a ++ b) ++ q.1, q.2)
        rw [List.append_assoc]
  obtain ⟨a, f, S1, hm, hf⟩ := inv
  obtain ⟨f0, rfl⟩ : ∃ f0, f = f0 + 1 := ⟨f - 1, by omega⟩
  have i11 : r11.toInt ≠ 0 ↔ e.1 (w24.1 0 47) = 33 := rIs (g := g00) h11 S1.1.1 (q := (125, 33)) (by decide) rfl
  rcases h with ⟨c11, ⟨u9, -, f9, -⟩ | ⟨h3, k3, -, eu⟩⟩ | ⟨-, u9, -, f9, -⟩
  · cases f9
  · have k33 := e33.mp (i11.mp c11)
    have A3 : SAq K w24 u [] := by rw [eu]; exact SAq.oa (OA.sm rfl rfl rfl rfl rfl rfl rfl rfl) rfl rfl rfl rfl rfl rfl rfl rfl rfl
    refine ⟨a, knM K w24, w24.1 0 47, if_pos O1.2, ?_, ?_, (AV.tn S1.2.1 z15.1).nt A3 z15.1⟩
    · rw [← knM_of v29 v30, ← v32, ← v47, hf]
      show (if (e.1 (w24.1 0 47)).toInt = 33 then some ([], knM K w24, w24.1 0 47) else _ : Option (List EV × List Int32 × Int32)).bind _ = _
      rw [if_pos k33, Option.bind_some, List.append_nil]
    · rw [gTok_of k33, eu]
      rfl
  · cases f9
/-- no loop: nothing waits -/
theorem MSq.om {cl : Int} {g : Bool × Int32 × Bool} (hg : g.2.2 = false) : ∀ (a : List EV) {p : Nat} {b c : Int32}, MSq K u cl g p b c a → MOq K u cl p a
  | [], _, _, _, _ => MOq.nil
  | q :: l, p, b, c, h => by
    refine MOq.cons ?_ (MSq.om hg l h.2)
    have h1 := h.1
    unfold msE at h1
    rw [hg] at h1
    by_cases c1 : q.1 = 30
    · rw [if_pos c1] at h1
      exact absurd h1.2.2.2 Bool.false_ne_true
    rw [if_neg c1] at h1
    by_cases c2 : q.1 = 31
    · rw [if_pos c2] at h1
      exact absurd h1.2.2.2 Bool.false_ne_true
    rw [if_neg c2] at h1
    exact h1
theorem loL_rsr : ∀ (a : List EV) (R : D3), loL (rsr R a) = loL a
  | [], _ => rfl
  | q :: l, R => by
    show loL ((if q.1 = 32 then _ else q) :: rsr _ l) = _
    rw [loL_cons, loL_cons, loL_rsr l]
    by_cases c1 : q.1 = 32
    · rw [if_pos c1]
      obtain ⟨t, r⟩ := q
      have c1 : t = 32 := c1
      subst c1
      rfl
    · rw [if_neg c1]
/-- return: the order is the same -/
theorem MOq.rt3 {cl : Int} : ∀ (a : List EV) (R : D3) {p : Nat}, MOq K u cl p a → MOq K u cl p (rsr R a)
  | [], _, _, _ => MOq.nil
  | q :: l, R, p, h => by
    have H := h.hd
    have T := MOq.rt3 l (d3s R q) H.2
    show MOq K u cl p ((if q.1 = 32 then (33, 0, 0, R.1, R.2.1, R.2.2) else q) :: rsr (d3s R q) l)
    by_cases c1 : q.1 = 32
    · rw [if_pos c1]
      obtain ⟨t, r⟩ := q
      have c1 : t = 32 := c1
      subst c1
      obtain ⟨m1, m2⟩ := H.1
      refine MOq.cons ⟨m1, m2.imp id (fun k => ⟨k.1, ?_⟩)⟩ T
      exact (show u.1 14 p = 0 from k.2)
    · rw [if_neg c1]
      exact MOq.cons H.1 T
/-- the parameters' names -/
def OPq (n : Int) (K : TK) (e : PE) (i : Int32) (y : Int32 × MS) : Prop := JM n K e y.2 ∧ ((y.1.toInt ≠ 0 ∧ ∃ f : Nat, gPars 1502 e [] i = gPars f e (knM K y.2) (y.2.1 0 47) ∧ (1501 : Int) ≤ f + (y.2.1 0 47).toInt) ∨ (y.1.toInt = 0 ∧ gPars 1502 e [] i = some (knM K y.2, y.2.1 0 47)))
set_option maxHeartbeats 1600000 in
theorem oPStep {a y : Int32 × MS} (h : Q_m_function0_L3 u2 a y) (h31 : (a.2.1 0 31).toInt = 0) (I : OPq n K e i a) : OPq n K e i y := by
  obtain ⟨J, I⟩ := I
  obtain ⟨-, h47, h30, c0, r225, h225, -, c225, h1, k1, c6, r236, h236, -, c236, h⟩ := h
  obtain ⟨f, hX, hf⟩ : ∃ f : Nat, gPars 1502 e [] i = gPars f e (knM K a.2) (a.2.1 0 47) ∧ (1501 : Int) ≤ f + (a.2.1 0 47).toInt := by
    rcases I with ⟨-, q⟩ | ⟨q, -⟩
    · exact q
    · exact absurd q c0
  obtain ⟨f0, rfl⟩ : ∃ f0, f = f0 + 1 := ⟨f - 1, by omega⟩
  have J4 := J.2.2.2.1
  have e47 : ((a.2.1 0 47) + (1 : Int32)).toInt = (a.2.1 0 47).toInt + 1 := add_z rfl (by decide) (by omega) (by omega)
  have i225 : r225.toInt ≠ 0 ↔ e.1 (a.2.1 0 47) = 10 := rIsKey (g := g00) h225 J (by decide)
  have k10 : (e.1 (a.2.1 0 47)).toInt = 10 := by rw [i225.mp c225]; decide
  have a1 := rTake (g := g00) h1 J (by show 2 ≤ (e.1 (a.2.1 0 47)).toInt; omega)
  have e2 : kd e (aR g00 K (wA a.2 0 47 ((a.2.1 0 47) + (1 : Int32)))) = 2 ↔ a.2.1 6 ((a.2.1 0 47) + (1 : Int32)).toNatClampNeg = 2 := by
    rw [rKd a1.jj]
    exact kM_2 (rTV a1.jj)
  have k2 := e2.mpr (Int32.toInt_inj.mp (c6.trans (by decide)))
  have ev : e.2.1 ((a.2.1 0 47) + (1 : Int32)) = K.2.1 ((a.2.1 0 47) + (1 : Int32)) := rVl (g := g00) a1.jj
  have main : ∀ {u244 : MS} {r255 : Int32}, (((a.2.1 0 30).toInt ≠ 8 ∧ ∃ r, Q_m_slots (wA a.2 0 47 ((a.2.1 0 47) + (1 : Int32))) 1 r u244 ∧ K_m_slots (wA a.2 0 47 ((a.2.1 0 47) + (1 : Int32))) 1 r u244) ∨ ((a.2.1 0 30).toInt = 8 ∧ ∃ r, Q_m_slots (wA (wA a.2 0 47 ((a.2.1 0 47) + (1 : Int32))) 0 49 ((a.2.1 0 47) + (1 : Int32))) 1 r u244 ∧ K_m_slots (wA (wA a.2 0 47 ((a.2.1 0 47) + (1 : Int32))) 0 49 ((a.2.1 0 47) + (1 : Int32))) 1 r u244)) → u244.1 0 47 = (a.2.1 0 47) + (1 : Int32) → u244.1 0 30 = a.2.1 0 30 → u244.1 29 = a.2.1 29 → Q_m_take (wA u244 29 ((u244.1 0 30).toNatClampNeg) (u244.1 0 47)) false (wA (wA u244 29 ((u244.1 0 30).toNatClampNeg) (u244.1 0 47)) 0 47 ((u244.1 0 47) + (1 : Int32))) → (u244.1 0 47).toInt < 1500 → Q_m_is (wA (wA (wA u244 29 ((u244.1 0 30).toNatClampNeg) (u244.1 0 47)) 0 47 ((u244.1 0 47) + (1 : Int32))) 0 30 ((u244.1 0 30) + (1 : Int32))) 44 r255 → ((r255.toInt = 0 ∧ y = (r255, (wA (wA (wA u244 29 ((u244.1 0 30).toNatClampNeg) (u244.1 0 47)) 0 47 ((u244.1 0 47) + (1 : Int32))) 0 30 ((u244.1 0 30) + (1 : Int32))))) ∨ (r255.toInt ≠ 0 ∧ Q_m_take (wA (wA (wA u244 29 ((u244.1 0 30).toNatClampNeg) (u244.1 0 47)) 0 47 ((u244.1 0 47) + (1 : Int32))) 0 30 ((u244.1 0 30) + (1 : Int32))) false (wA (wA (wA (wA u244 29 ((u244.1 0 30).toNatClampNeg) (u244.1 0 47)) 0 47 ((u244.1 0 47) + (1 : Int32))) 0 30 ((u244.1 0 30) + (1 : Int32))) 0 47 (((u244.1 0 47) + (1 : Int32)) + (1 : Int32))) ∧ ((u244.1 0 47) + (1 : Int32)).toInt < 1500 ∧ y = (r255, (wA (wA (wA (wA u244 29 ((u244.1 0 30).toNatClampNeg) (u244.1 0 47)) 0 47 ((u244.1 0 47) + (1 : Int32))) 0 30 ((u244.1 0 30) + (1 : Int32))) 0 47 (((u244.1 0 47) + (1 : Int32)) + (1 : Int32)))))) → OPq n K e i y := by
    intro u244 r255 hs f47 f30 f29 ht l15 h8 hh
    have R := (parRest (g := g00) J a1.jj k2 ⟨h30.1, h30.2.1⟩ hs ht).2 rfl rfl
    have i8 := (rIs (g := g00) h8 R.2 (q := (44, 37)) (by decide) rfl).trans (kd_m (m := 37) (by decide))
    obtain ⟨Y, hY⟩ : ∃ Y, Y = (wA (wA (wA u244 29 ((u244.1 0 30).toNatClampNeg) (u244.1 0 47)) 0 47 ((u244.1 0 47) + (1 : Int32))) 0 30 ((u244.1 0 30) + (1 : Int32))) := ⟨_, rfl⟩
    have JY : JM n K e Y := by rw [hY]; exact R.2
    have y47 : Y.1 0 47 = (a.2.1 0 47) + (1 : Int32) + 1 := by rw [hY]; show u244.1 0 47 + 1 = _; rw [f47]
    have i8 : r255.toInt ≠ 0 ↔ (e.1 ((a.2.1 0 47) + (1 : Int32) + 1)).toInt = 37 := by
      rw [← y47, hY]
      exact i8
    have nz := natI h30.1
    have kn : knM K Y = knM K a.2 ++ [K.2.1 ((a.2.1 0 47) + (1 : Int32))] := by
      refine knM_snoc ⟨h30.1, by omega⟩ (fun j hj => ?_) ?_ ?_
      · rw [hY]
        show upd (u244.1 29) (u244.1 0 30).toNatClampNeg (u244.1 0 47) j = _
        rw [f29, f30]
        exact updN_ (by omega)
      · rw [hY]
        show upd (u244.1 29) (u244.1 0 30).toNatClampNeg (u244.1 0 47) (a.2.1 0 30).toNatClampNeg = _
        rw [f30, f47]
        exact updS
      · rw [hY]
        show u244.1 0 30 + 1 = _
        rw [f30]
    have j1 : ((a.2.1 0 47) + (1 : Int32) + 1).toInt = (a.2.1 0 47).toInt + 1 + 1 := by
      rw [← e47]
      rw [f47] at l15
      exact add_z rfl (by decide) (by omega) (by omega)
    have gp : gPars 1502 e [] i = if (e.1 ((a.2.1 0 47) + (1 : Int32) + 1)).toInt = 37 then gPars f0 e (knM K Y) ((a.2.1 0 47) + (1 : Int32) + 1 + 1) else some (knM K Y, (a.2.1 0 47) + (1 : Int32) + 1) := by
      rw [hX]
      show (gTok e 10 (a.2.1 0 47)).bind _ = _
      have : gTok e 10 (a.2.1 0 47) = some (a.2.1 0 47 + 1) := if_pos k10
      rw [this, Option.bind_some, ev, kn]
    rw [← hY] at hh
    rcases hh with ⟨c8, ey⟩ | ⟨c8, h9, l9, ey⟩
    · rw [ey]
      refine ⟨JY, Or.inr ⟨c8, ?_⟩⟩
      show gPars 1502 e [] i = some (knM K Y, Y.1 0 47)
      rw [gp, if_neg (fun q => i8.mpr q c8), y47]
    · have T := rTake (g := g00) h9 JY (by
        show 2 ≤ (e.1 (Y.1 0 47)).toInt
        rw [y47, i8.mp c8]
        decide)
      rw [ey]
      refine ⟨T.jj, Or.inl ⟨c8, f0, ?_, ?_⟩⟩
      · show gPars 1502 e [] i = gPars f0 e (knM K Y) (u244.1 0 47 + 1 + 1)
        rw [gp, if_pos (i8.mp c8), f47]
      · show (1501 : Int) ≤ f0 + (u244.1 0 47 + 1 + 1).toInt
        rw [f47] at l9 ⊢
        have : ((a.2.1 0 47) + (1 : Int32) + 1 + 1).toInt = ((a.2.1 0 47) + (1 : Int32) + 1).toInt + 1 := add_z rfl (by decide) (by omega) (by omega)
        omega
  rcases h with ⟨c8, r245, u244, h2, k2', h3, k3, r255, h4, -, h⟩ | ⟨c8, r245, u244, h2, k2', h3, k3, r255, h4, -, h⟩
  · refine main (Or.inl ⟨c8, r245, h2, k2'⟩) ((k2'.1.2.1 47 (by decide)).trans rfl) ((k2'.1.2.1 30 (by decide)).trans rfl) ((k2'.1.2.2 29 (by decide)).trans rfl) h3 k3.1 h4 ?_
    rcases h with h | ⟨q, h5, k5, h6⟩
    · exact Or.inl h
    · exact Or.inr ⟨q, h5, k5.1, h6⟩
  · refine main (Or.inr ⟨c8, r245, h2, k2'⟩) ((k2'.1.2.1 47 (by decide)).trans rfl) ((k2'.1.2.1 30 (by decide)).trans rfl) ((k2'.1.2.2 29 (by decide)).trans rfl) h3 k3.1 h4 ?_
    rcases h with h | ⟨q, h5, k5, h6⟩
    · exact Or.inl h
    · exact Or.inr ⟨q, h5, k5.1, h6⟩
/-- C: behind the parenthesis, nothing known -/
theorem oParJ {C : MS} (hC : C = (wA (wA (wA (wA u2 0 52 0) 0 59 (-1)) 0 47 ((u2.1 0 47) + (1 : Int32))) 0 48 ((u2.1 0 48) + (1 : Int32)))) (h : Q_m_function0_J0 u2 w) (h31 : (u2.1 0 31).toInt = 0) (h30 : u2.1 0 30 = 0) (J : JM n K e C) : (if (e.1 (C.1 0 47)).toInt = 31 then some ([], C.1 0 47) else gPars 1502 e [] (C.1 0 47)) = some (knM K w, w.1 0 47) ∧ JM n K e w := by
  obtain ⟨r212, h1, -, h⟩ := h
  rw [← hC] at h1
  have i1 : r212.toInt ≠ 0 ↔ (e.1 (C.1 0 47)).toInt = 31 := (rIs (g := g00) h1 J (q := (41, 31)) (by decide) rfl).trans (kd_m (m := 31) (by decide))
  have k0 : knM K C = [] := by
    unfold knM
    rw [show C.1 0 30 = 0 from by rw [hC]; exact h30]
    rfl
  rcases h with ⟨c1, ew⟩ | ⟨c1, mo9, w74, hr, fr, h47, h30', c9, ew⟩
  · rw [← hC] at ew
    rw [if_pos (i1.mp c1), ew, k0]
    exact ⟨rfl, J⟩
  · rw [if_neg (fun q => i1.mpr q c1)]
    rw [← hC] at hr
    have I : OPq n K e (C.1 0 47) (mo9, w74) := by
      refine RT.ind (OPq n K e (C.1 0 47)) hr ⟨J, Or.inl ⟨show (1 : Int32).toInt ≠ 0 by decide, 1502, by rw [k0], ?_⟩⟩ ?_
      · have := J.2.2.2.1.2.1
        show (1501 : Int) ≤ 1502 + (C.1 0 47).toInt
        omega
      · intro a b _ I hb
        exact oPStep hb (by rw [hb.1.2.1 31 (by decide)]; exact h31) I
    rw [ew]
    rcases I with ⟨J2, ⟨q, -⟩ | ⟨-, q⟩⟩
    · exact absurd c9 q
    · exact ⟨q, J2⟩
end WYB
