/-! the reference's orders: blocks, if -/
section WQB
variable {n : Int} {K : TK} {e : PE} {v u w x y : MS} {a b d a0 cc : List EV} {q : EV} {r pa pb pd o zv zn : Int32} {c : RM1} {E : EvE} {S : EvS} {Es : FE} {Ss : FS} {k : Nat}
def kpS (v u : MS) : Prop := (u.1 0 52 = v.1 0 52 ∧ u.1 0 54 = v.1 0 54 ∧ u.1 0 55 = v.1 0 55 ∧ u.1 0 56 = v.1 0 56 ∧ u.1 0 58 = v.1 0 58) ∧ u.1 62 = v.1 62 ∧ u.1 63 = v.1 63 ∧ u.1 64 = v.1 64 ∧ u.1 66 = v.1 66
theorem kpS.tr (h : kpS v u) (k : kpS u w) : kpS v w := ⟨⟨k.1.1.trans h.1.1, k.1.2.1.trans h.1.2.1, k.1.2.2.1.trans h.1.2.2.1, k.1.2.2.2.1.trans h.1.2.2.2.1, k.1.2.2.2.2.trans h.1.2.2.2.2⟩, k.2.1.trans h.2.1, k.2.2.1.trans h.2.2.1, k.2.2.2.1.trans h.2.2.2.1, k.2.2.2.2.trans h.2.2.2.2⟩
theorem kpS.fg {fl al : List Nat} (f : FG fl al v u) (g1 : 52 ∉ fl ∧ 54 ∉ fl ∧ 55 ∉ fl ∧ 56 ∉ fl ∧ 58 ∉ fl := by decide) (g2 : 62 ∉ al ∧ 63 ∉ al ∧ 64 ∉ al ∧ 66 ∉ al := by decide) : kpS v u := ⟨⟨f.2.1 52 g1.1, f.2.1 54 g1.2.1, f.2.1 55 g1.2.2.1, f.2.1 56 g1.2.2.2.1, f.2.1 58 g1.2.2.2.2⟩, f.2.2 62 g2.1, f.2.2 63 g2.2.1, f.2.2 64 g2.2.2.1, f.2.2 66 g2.2.2.2⟩
theorem SAq.kp (A : OA K v u a) (k : kpS v u) : SAq K v u a := SAq.oa A k.1.1 k.1.2.1 k.1.2.2.1 k.1.2.2.2.1 k.1.2.2.2.2 k.2.1 k.2.2.1 k.2.2.2.1 k.2.2.2.2
/-- an order that leads over statements -/
theorem SAq.pj (x13 : x.1 13 = upd (v.1 13) (v.1 0 15).toNatClampNeg o) (x14 : x.1 14 = upd (v.1 14) (v.1 0 15).toNatClampNeg zv) (x15 : x.1 0 15 = v.1 0 15 + 1) (hb : 0 ≤ (v.1 0 15).toInt ∧ (v.1 0 15).toInt ≤ 100000) (x39 : x.1 0 39 = v.1 0 39) (x27 : x.1 0 27 = v.1 0 27) (xa : x.1 35 = v.1 35 ∧ x.1 38 = v.1 38 ∧ x.1 25 = v.1 25) (xs : kpS v x) (C : SAq K x w cc) (u13 : u.1 13 = w.1 13) (u14 : u.1 14 = upd (w.1 14) (v.1 0 15).toNatClampNeg zn) (u15 : u.1 0 15 = w.1 0 15) (u39 : u.1 0 39 = w.1 0 39) (u27 : u.1 0 27 = w.1 0 27) (ua : u.1 35 = w.1 35 ∧ u.1 38 = w.1 38 ∧ u.1 25 = w.1 25) (us : kpS w u) (ht : q.1 = 16 ∨ q.1 = 17 ∨ q.1 = 18 ∨ q.1 = 19) (ho : oEv q = o) (hz : zn.toInt = (v.1 0 15).toInt + q.2.2.2.2.1) : SAq K v u ([q] ++ cc) := by
  obtain ⟨⟨c1, c2, c3, c4⟩, ⟨c5, c6⟩, ⟨c7, c8, c9⟩, c10⟩ := C
  have i15 : (x.1 0 15).toInt = (v.1 0 15).toInt + 1 := by rw [x15]; exact add_z rfl (by decide) (by omega) (by omega)
  have n0 := natI hb.1
  have nx := natI (a := x.1 0 15) (by omega)
  have F0 : OF v x := ⟨⟨by omega, fun j hj => by
    have : j ≠ (v.1 0 15).toNatClampNeg := by omega
    exact ⟨by rw [x13]; exact updN_ this, by rw [x14]; exact updN_ this⟩⟩, ⟨by rw [x39]; exact Int.le_refl _, fun c _ => ⟨by rw [xa.1], by rw [xa.2.1]⟩⟩, x27, xa.2.2⟩
  have C0 : CJ v x := ⟨fun c g1 g2 => by rw [x39] at g2; omega, fun c d g1 g2 => by rw [x39] at g2; omega⟩
  have F1 := F0.tr c2
  have C1 := C0.tr c3 F0 c2
  have l1 : loE q = 1 := by
    obtain ⟨t, r⟩ := q
    rcases ht with h | h | h | h <;> (have h : t = _ := h; subst h; exact loE1)
  have nq : q.1 ≠ 30 ∧ q.1 ≠ 31 := by rcases ht with h | h | h | h <;> (rw [h]; decide)
  have w13 : w.1 13 (v.1 0 15).toNatClampNeg = o := by rw [(c2.1.2 _ (by omega)).1, x13]; exact updS
  have g15 : (u.1 0 15).toInt = (w.1 0 15).toInt := by rw [u15]
  have F2 : OF v u := ⟨⟨by rw [u15]; exact F1.1.1, fun j hj => ⟨by rw [u13]; exact (F1.1.2 j hj).1, by rw [u14, ← (F1.1.2 j hj).2]; exact updN_ (by omega)⟩⟩, ⟨by rw [u39]; exact F1.2.1.1, fun c hc => by rw [ua.1, ua.2.1]; exact F1.2.1.2 c hc⟩, u27.trans F1.2.2.1, ua.2.2.trans F1.2.2.2⟩
  have C2 : CJ v u := by
    unfold CJ
    rw [u39, u15, ua.2.1, u13]
    exact C1
  have ep : (x.1 0 15).toNatClampNeg = (v.1 0 15).toNatClampNeg + 1 := by omega
  have egx : gWq x = gWq v := by unfold gWq; rw [xs.1.1, xs.1.2.2.1, xs.1.2.2.2.1]
  have M0 : MSq K w (v.1 0 39).toInt (gWq v) ((v.1 0 15).toNatClampNeg + 1) (v.1 0 54) (v.1 0 58) cc := by
    rw [ep, egx, x39, xs.1.2.1, xs.1.2.2.2.2] at c4
    exact c4
  have M1 := MSq.pt (m := (v.1 0 15).toNatClampNeg) (z := zn) cc (Or.inl (by omega)) M0
  have same : ∀ (l : List EV) {p : Nat} {b c : Int32}, MSq K (wA w 14 (v.1 0 15).toNatClampNeg zn) (v.1 0 39).toInt (gWq v) p b c l → MSq K u (v.1 0 39).toInt (gWq v) p b c l := by
    intro l
    induction l with
    | nil => exact fun _ => trivial
    | cons q9 l ih =>
      intro p b c h
      have g14 : u.1 14 = (wA w 14 (v.1 0 15).toNatClampNeg zn).1 14 := u14
      refine ⟨?_, ih h.2⟩
      have h1 := h.1
      unfold msE at h1 ⊢
      have s13 : (wA w 14 (v.1 0 15).toNatClampNeg zn).1 13 = u.1 13 := u13.symm
      have s15 : (wA w 14 (v.1 0 15).toNatClampNeg zn).1 0 15 = u.1 0 15 := u15.symm
      rw [s13, s15, ← g14] at h1
      by_cases e1 : q9.1 = 30
      · rw [if_pos e1] at h1 ⊢; exact h1
      rw [if_neg e1] at h1 ⊢
      by_cases e2 : q9.1 = 31
      · rw [if_pos e2] at h1 ⊢; exact h1
      rw [if_neg e2] at h1 ⊢
      obtain ⟨m1, m2⟩ := h1
      refine ⟨by rw [u15]; exact m1, m2.imp id (fun k => ⟨by rw [u13]; exact k.1, ?_⟩)⟩
      have k2 := k.2
      unfold moA at k2 ⊢
      rw [g14, u27, ua.2.2, u39, ua.2.1, ua.1]
      exact k2
  refine ⟨⟨by rw [loL_app, loL_cons, l1, loL_nil, g15]; omega, F2, C2, ?_, ?_⟩, ⟨?_, fun t => ?_⟩, ⟨?_, ?_, ?_⟩, fun B hB j hj => ?_⟩
  · unfold msE
    rw [if_neg nq.1, if_neg nq.2]
    refine ⟨by rw [l1, g15]; omega, Or.inr ⟨by rw [u13, w13, ho], ?_⟩⟩
    unfold moA
    rw [if_pos ht, u14, updS, hz]
    omega
  · rw [if_neg nq.1, if_neg nq.2, l1]
    exact same cc M1
  · show u.1 0 54 = chn 30 (if q.1 = 30 then _ else v.1 0 54) ((v.1 0 15).toNatClampNeg + loE q) cc
    rw [if_neg nq.1, l1, us.1.2.1, c5, xs.1.2.1, ep]
  · show u.1 0 58 = chn 31 (if q.1 = 31 then _ else v.1 0 58) ((v.1 0 15).toNatClampNeg + loE q) cc
    rw [if_neg nq.2, l1, us.1.2.2.2.2, c6 (by rw [xs.1.2.2.1]; exact t), xs.1.2.2.2.2, ep]
  · rw [us.1.1, c7, xs.1.1]
  · rw [us.1.2.2.1, c8, xs.1.2.2.1]
  · rw [us.1.2.2.2.1, c9, xs.1.2.2.2.1]
  · have := c10 B hB j (by rw [xs.1.1]; exact hj)
    simp only [List.mem_cons, List.not_mem_nil, or_false] at hB
    rcases hB with rfl | rfl | rfl | rfl
    · rw [us.2.1, this, xs.2.1]
    · rw [us.2.2.2.1, this, xs.2.2.2.1]
    · rw [us.2.2.2.2, this, xs.2.2.2.2]
    · rw [us.2.2.1, this, xs.2.2.1]
set_option maxHeartbeats 800000 in
theorem oBlock (hS : XMs9 n K c S) (hSs : HMS n K c Ss) (h : Q_m_block k c v false u) (J : JM n K e v) (hk : (e.1 (v.1 0 47)).toInt = 32) : ∃ a, gBlock S e (knM K v) (v.1 0 32) (v.1 0 47) = some (a, knM K u, u.1 0 47) ∧ SOq n K e v u a := by
  have JU := (rBlock (g := gLq v) hSs h J rfl (gLq_lo v) hk).jj
  obtain ⟨z1, z2, z3, z4, z5, z6, z15, z8, z9, z10, z11, z12, z13, z14, h⟩ := h
  rcases h with ⟨u9, -, f9, -⟩ | ⟨h1, k1, w24, hr, -, h47, -, h15, -, h39, -, -, h30, -, -, r11, h11, -, h⟩
  · cases f9
  have k32 : (kd e (aR g00 K v)).toInt = ((123, 32) : Int32 × Int32).2.toInt := hk.trans (by decide)
  have JO := (rOpenK (g := g00) h1 J (by decide) rfl k32).jj
  have e47 : ((v.1 0 47) + (1 : Int32)).toInt = (v.1 0 47).toInt + 1 := add_z rfl (by decide) (by omega) (by have := k1.1; omega)
  obtain ⟨V, hV⟩ : ∃ V, V = (wA (wA (wA v 0 47 ((v.1 0 47) + (1 : Int32))) 0 48 ((v.1 0 48) + (1 : Int32))) 0 31 (v.1 0 30)) := ⟨_, rfl⟩
  rw [← hV] at hr
  have JV : JM n K e V := by rw [hV]; exact JO.w (by decide)
  have NV : ND V := by rw [hV]; exact ndT J k1.1
  have v47 : V.1 0 47 = v.1 0 47 + 1 := by rw [hV]; rfl
  have v15 : V.1 0 15 = v.1 0 15 := by rw [hV]; rfl
  have AV : SAq K v V [] := by rw [hV]; exact SAq.oa (OA.sm rfl rfl rfl rfl rfl rfl rfl rfl) rfl rfl rfl rfl rfl rfl rfl rfl rfl
  have v29 : V.1 29 = v.1 29 := by rw [hV]; rfl
  have v30 : V.1 0 30 = v.1 0 30 := by rw [hV]; rfl
  have v32 : V.1 0 32 = v.1 0 32 := by rw [hV]; rfl
  have e33 : ∀ {i : Int32}, e.1 i = 33 ↔ (e.1 i).toInt = 33 := ⟨fun q => by rw [q]; decide, fun q => Int32.toInt_inj.mp (q.trans (by decide))⟩
  have inv : ∃ a f, SOq n K e V w24 a ∧ (1501 : Int) ≤ ((f : Nat) : Int) + (w24.1 0 47).toInt ∧ gStats S 1502 e (knM K V) (V.1 0 32) (V.1 0 47) = (gStats S f e (knM K w24) (V.1 0 32) (w24.1 0 47)).bind fun r => some (a ++ r.1, r.2) := by
    refine RT.ind (fun (y : MS) => ∃ a f, SOq n K e V y a ∧ (1501 : Int) ≤ ((f : Nat) : Int) + (y.1 0 47).toInt ∧ gStats S 1502 e (knM K V) (V.1 0 32) (V.1 0 47) = (gStats S f e (knM K y) (V.1 0 32) (y.1 0 47)).bind fun r => some (a ++ r.1, r.2)) hr ⟨[], 1502, ⟨⟨JV, NV⟩, SAq.rf, rfl, Int.le_refl _, fun _ _ => rfl⟩, by show (1501 : Int) ≤ 1502 + (V.1 0 47).toInt; rw [v47]; omega, ?_⟩ ?_
    · cases gStats S 1502 e (knM K V) (V.1 0 32) (V.1 0 47) with
      | none => rfl
      | some q => rfl
    · intro w1 y _ I hb
      obtain ⟨a, f, S1, hm, hf⟩ := I
      obtain ⟨-, a47, -, a15, -, -, -, -, -, -, -, r11, h11, -, c11, u27, h27, k27, rfl⟩ := hb
      have i11 : r11.toInt ≠ 0 ↔ e.1 (w1.1 0 47) = 33 := rIs (g := g00) h11 S1.1.1 (q := (125, 33)) (by decide) rfl
      obtain ⟨b, y1, y2⟩ := hS e w1 y h27 k27 S1.1.1 S1.1.2 (by omega)
      obtain ⟨f0, rfl⟩ : ∃ f0, f = f0 + 1 := ⟨f - 1, by omega⟩
      have p47 := k27.2.1.1
      refine ⟨a ++ b, f0, S1.tr y2 (by rw [v15]; exact z15.1), by omega, ?_⟩
      rw [hf]
      show (if (e.1 (w1.1 0 47)).toInt = 33 then _ else (S e (knM K w1) (V.1 0 32) (w1.1 0 47)).bind _ : Option (List EV × List Int32 × Int32)).bind _ = _
      rw [if_neg (fun q => i11.mpr (e33.mpr q) c11)]
      rw [S1.2.2.1] at y1
      rw [y1, Option.bind_some]
      show ((gStats S f0 e (knM K y) (V.1 0 32) (y.1 0 47)).bind _).bind _ = _
      cases gStats S f0 e (knM K y) (V.1 0 32) (y.1 0 47) with
      | none => rfl
      | some q =>
        show some (a ++ (b ++ q.1), q.2) = some ((a ++ b) ++ q.1, q.2)
        rw [List.append_assoc]
  obtain ⟨a, f, S1, hm, hf⟩ := inv
  obtain ⟨f0, rfl⟩ : ∃ f0, f = f0 + 1 := ⟨f - 1, by omega⟩
  have i11 : r11.toInt ≠ 0 ↔ e.1 (w24.1 0 47) = 33 := rIs (g := g00) h11 S1.1.1 (q := (125, 33)) (by decide) rfl
  rcases h with ⟨c11, ⟨u9, -, f9, -⟩ | ⟨h3, k3, -, eu⟩⟩ | ⟨-, u9, -, f9, -⟩
  · cases f9
  · have k33 := e33.mp (i11.mp c11)
    have A3 : SAq K w24 u [] := by rw [eu]; exact SAq.oa (OA.sm rfl rfl rfl rfl rfl rfl rfl rfl) rfl rfl rfl rfl rfl rfl rfl rfl rfl
    have g30 : u.1 0 30 = v.1 0 30 := by rw [eu]; rfl
    have lo : ∀ j : Nat, (j : Int) < (v.1 0 30).toInt → u.1 29 j = v.1 29 j := fun j hj => by
      rw [eu]
      show w24.1 29 j = _
      rw [S1.2.2.2.2 j (by rw [v30]; exact hj), v29]
    have kn : knM K u = knM K v := by
      unfold knM
      rw [g30]
      refine List.map_congr_left (fun j hj => ?_)
      have := List.mem_range.mp hj
      have := natI z3.1
      rw [lo j (by omega)]
    have hg : gStats S 1502 e (knM K v) (v.1 0 32) (v.1 0 47 + 1) = some (a, knM K w24, w24.1 0 47) := by
      rw [← knM_of v29 v30, ← v32, ← v47, hf]
      show (if (e.1 (w24.1 0 47)).toInt = 33 then some ([], knM K w24, w24.1 0 47) else _ : Option (List EV × List Int32 × Int32)).bind _ = _
      rw [if_pos k33, Option.bind_some, List.append_nil]
    refine ⟨a, ?_, ⟨JU.1, JU.2.2⟩, (AV.tn S1.2.1 z15.1).nt A3 z15.1, ?_, by rw [g30]; exact Int.le_refl _, lo⟩
    · unfold gBlock
      rw [hg, Option.bind_some]
      show (gTok e 33 (w24.1 0 47)).bind _ = _
      rw [gTok_of k33, Option.bind_some, kn, eu]
      rfl
    · rw [eu]
      show w24.1 0 32 = _
      rw [S1.2.2.1, v32]
  · cases f9
/-- a question and its order -/
def CDq (n : Int) (K : TK) (e : PE) (v w u : MS) : Prop := (JM n K e u ∧ ND u) ∧ (u.1 13 = upd (w.1 13) (w.1 0 15).toNatClampNeg 10 ∧ u.1 14 = upd (w.1 14) (w.1 0 15).toNatClampNeg 0 ∧ u.1 0 15 = w.1 0 15 + 1 ∧ u.1 0 60 = w.1 0 15) ∧ (u.1 0 39 = w.1 0 39 ∧ u.1 0 27 = w.1 0 27 ∧ u.1 35 = w.1 35 ∧ u.1 38 = w.1 38 ∧ u.1 25 = w.1 25) ∧ (u.1 29 = v.1 29 ∧ u.1 0 30 = v.1 0 30 ∧ u.1 0 32 = v.1 0 32) ∧ kpS v w ∧ kpS w u ∧ ((w.1 0 15).toInt ≤ 10 * (u.1 0 47).toInt ∧ (v.1 0 47).toInt + 1 ≤ (u.1 0 47).toInt ∧ (u.1 0 47).toInt ≤ 1500)
theorem oCondM (hX : XMe n K (QME k) E) (hE : HME n K (QME k) Es) (h : Q_m_condition k v false r u) (kq : K_m_condition v r u) (J : JM n K e v) : ∃ w a, gCond E e (knM K v) (v.1 0 32) (v.1 0 47) = some (a, u.1 0 47) ∧ OA K v w a ∧ CDq n K e v w u := by
  obtain ⟨s', -, -, JU, -, ndu⟩ := rCondO (g := g00) hE h J rfl
  obtain ⟨z1, z2, z3, z4, z5, z6, z15, z8, z9, z10, z11, h⟩ := h
  have p0 := z15.1
  rcases h with ⟨u9, -, f9, -⟩ | ⟨h1, k1, ⟨u9, -, f9, -⟩ | ⟨u7, h7, k7, ⟨u9, -, f9, -⟩ | ⟨h3, k3, x23, r22, -, -, -, -, eu⟩⟩⟩
  · cases f9
  · cases f9
  · cases f9
  have O1 := oOpen (q := (40, 30)) (m := 30) h1 J (by decide) rfl (by decide)
  obtain ⟨a, x1, x2⟩ := hX e _ u7 h7 k7 O1.1 p0
  have x1 : E true e (knM K v) (v.1 0 32) (v.1 0 47 + 1) = some (a, u7.1 0 47) := x1
  have C1 := oClose (q := (41, 31)) (m := 31) h3 x2.1 (by decide) rfl (by decide)
  have A0 : OA K v (wA (wA v 0 47 ((v.1 0 47) + (1 : Int32))) 0 48 ((v.1 0 48) + (1 : Int32))) [] := OA.sm rfl rfl rfl rfl rfl rfl rfl rfl
  obtain ⟨W, hW⟩ : ∃ W, W = (wA (wA u7 0 47 ((u7.1 0 47) + (1 : Int32))) 0 48 ((u7.1 0 48) - (1 : Int32))) := ⟨_, rfl⟩
  have AW : OA K u7 W [] := by rw [hW]; exact OA.sm rfl rfl rfl rfl rfl rfl rfl rfl
  have i1 : ((v.1 0 47) + (1 : Int32)).toInt = (v.1 0 47).toInt + 1 := add_z rfl (by decide) (by omega) (by have := k1.1; omega)
  have l15 := k7.2.2.2.2.1
  have l15 : (v.1 0 15).toInt ≤ (u7.1 0 15).toInt ∧ (u7.1 0 15).toInt - 10 * (u7.1 0 47).toInt ≤ (v.1 0 15).toInt - 10 * ((v.1 0 47) + (1 : Int32)).toInt := l15
  have l47 := k7.2.1
  have l47 : ((v.1 0 47) + (1 : Int32)).toInt + 1 ≤ (u7.1 0 47).toInt ∧ (u7.1 0 47).toInt ≤ 1500 := l47
  have e47 : u.1 0 47 = u7.1 0 47 + 1 := by rw [eu]; rfl
  have l7 : (u7.1 0 47).toInt < 1500 := by have := k3.1; omega
  have i7 : ((u7.1 0 47) + (1 : Int32)).toInt = (u7.1 0 47).toInt + 1 := add_z rfl (by decide) (by omega) (by omega)
  have k7' : kpS v u7 := (kpS.fg k7.1 : kpS (wA (wA v 0 47 ((v.1 0 47) + (1 : Int32))) 0 48 ((v.1 0 48) + (1 : Int32))) u7)
  refine ⟨W, a, ?_, ((A0.tn x2.2.1 p0).nt AW p0), ⟨JU, ndu⟩, ⟨?_, ?_, ?_, ?_⟩, ⟨?_, ?_, ?_, ?_, ?_⟩, ⟨?_, ?_, ?_⟩, ?_, ?_, ?_, ?_, ?_⟩
  · unfold gCond
    rw [gTok_of O1.2, Option.bind_some, x1, Option.bind_some]
    show (gTok e 31 (u7.1 0 47)).bind _ = _
    rw [gTok_of C1.2, Option.bind_some, e47]
  · rw [eu, hW]; rfl
  · rw [eu, hW]; rfl
  · rw [eu, hW]; rfl
  · rw [eu, hW]; rfl
  · rw [eu, hW]; rfl
  · rw [eu, hW]; rfl
  · rw [eu, hW]; rfl
  · rw [eu, hW]; rfl
  · rw [eu, hW]; rfl
  · rw [eu]; exact x2.2.2.1
  · rw [eu]; exact x2.2.2.2.1
  · rw [eu]; exact x2.2.2.2.2
  · rw [hW]; exact k7'
  · rw [eu, hW]; exact ⟨⟨rfl, rfl, rfl, rfl, rfl⟩, rfl, rfl, rfl, rfl⟩
  · rw [hW, e47, i7]
    show (u7.1 0 15).toInt ≤ _
    have := z15.2
    omega
  · rw [e47, i7]; omega
  · rw [e47, i7]; omega
end WQB
