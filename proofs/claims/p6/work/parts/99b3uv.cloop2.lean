/-! the class's deeds: all signs that bind as strongly are done -/
section UVL
variable {L1 L2 : List Nat} {P : Int32 × Int32 × Int32} {s v u w w1 x z : MS} {a b c : List EV} {e : PE} {pa pb pc1 pd r m : Int32} {k : Int32} {O : EvO} {X : Option (List EV × Int32)} {kn : List Int32}
theorem eFinS (h0 : 0 ≤ (v.1 0 326).toInt) {l : List FQ} {f : Nat} (S : SLQ L2 e P O X v l f b w) (h : Q_x_X2_finishSigns L1 L2 w (v.1 0 326) pb u) (hb : ∀ k : Int, pb.toInt ≤ k → ((stg (e.1 (w.1 0 305))).toInt < k + 1 ∨ (stg (e.1 (w.1 0 305))).toInt ≤ 0)) : ∃ l2 f2 b2, SLQ L2 e P O X v l2 f2 b2 u ∧ u.1 0 305 = w.1 0 305 ∧ (l2 = [] ∨ lvQ l2 ≤ pb.toInt) := by
  obtain ⟨-, -, -, -, ka, w7, hr, fc, i6, -, hk, e6, rs, -, h⟩ := h
  have inv : ∃ l2 f2 b2, SLQ L2 e P O X v l2 f2 b2 w7 ∧ w7.1 0 305 = w.1 0 305 := by
    refine RT.ind (fun (q : Int32 × MS) => ∃ l2 f2 b2, SLQ L2 e P O X v l2 f2 b2 q.2 ∧ q.2.1 0 305 = w.1 0 305) hr ⟨l, f, b, S, rfl⟩ ?_
    rintro ⟨k1, w1⟩ y - ⟨l1, f1, b1, S1, q5⟩ hy
    obtain ⟨-, -, -, hk1, e61, -, -, g1, g2, r11, hs, -, g3, hy⟩ := hy
    have g1 : (v.1 0 326).toInt ≤ k1.toInt := g1
    have g2 : 0 ≤ k1.toInt := g2
    have e61 : (w1.1 0 326).toInt = k1.toInt + 1 := e61
    have q5 : w1.1 0 305 = w.1 0 305 := q5
    have S1 : SLQ L2 e P O X v l1 f1 b1 w1 := S1
    have hs := stg_s hs
    have C1 := S1.2.2.2.2.1
    cases l1 with
    | nil =>
      have : (w1.1 0 326).toInt = (v.1 0 326).toInt := C1
      omega
    | cons q l1 =>
      have n2 := C1.2.1
      have ek : ((w1.1 0 326).toInt - 1).toNat = k1.toNatClampNeg := by
        have := natI g2
        omega
      rw [ek] at n2
      have n2 : w1.1 324 k1.toNatClampNeg = q.1 := n2
      have hq : (stg (e.1 (w1.1 0 305))).toInt < (stg q.1).toInt + 1 ∨ (stg (e.1 (w1.1 0 305))).toInt ≤ 0 := by
        have := hb (stg q.1).toInt (by rw [← n2, ← hs]; exact g3)
        rw [← q5] at this
        exact this
      have go : ∀ {u1 : MS}, (SLQ L2 e P O X v l1 q.2.1 (gSign q.1 (gsl (knC v) q.2.2.2.1) q.2.2.2.2.1 b1) u1 ∧ u1.1 0 305 = w1.1 0 305 ∧ u1.1 0 326 = k1) → ∃ l2 f2 b2, SLQ L2 e P O X v l2 f2 b2 u1 ∧ u1.1 0 305 = w.1 0 305 := fun g => ⟨l1, _, _, g.1, g.2.1.trans q5⟩
      rcases hy with ⟨g4, u19, h1, k1', u22, h2, k2, rfl⟩ | ⟨g4, ⟨g5, u35, h1, k1', rfl⟩ | ⟨g5, u19, h1, k1', u22, h2, k2, rfl⟩⟩
      · have e25 : u19.1 325 = w1.1 325 := by rw [k1'.1.2.2 325 (by decide)]; rfl
        have h2 : Q_x_X1_setLabel L1 L2 u19 (u19.1 325 k1.toNatClampNeg) u22 := h2
        have k2 : K_x_X1_setLabel u19 (u19.1 325 k1.toNatClampNeg) u22 := k2
        rw [e25] at h2 k2
        exact go (eFin1 (L1 := L1) h0 S1 hq k1 e61.symm (Or.inl ⟨Or.inl (by rw [← n2]; exact g4), u19, h1, k1', h2, k2⟩))
      · have h1 : Q_x_X1_add L1 L2 (wA (wA w1 0 326 k1) 0 314 ((w1.1 0 314) - 1)) 20 (w1.1 324 k1.toNatClampNeg) (w1.1 325 k1.toNatClampNeg) u35 := h1
        have k1' : K_x_X1_add (wA (wA w1 0 326 k1) 0 314 ((w1.1 0 314) - 1)) 20 (w1.1 324 k1.toNatClampNeg) (w1.1 325 k1.toNatClampNeg) u35 := k1'
        rw [n2] at h1 k1'
        exact go (eFin1 (L1 := L1) h0 S1 hq k1 e61.symm (Or.inr ⟨fun y => y.elim (fun y => g4 (by rw [← y, ← n2])) (fun y => g5 (by rw [← y, ← n2])), h1, k1'⟩))
      · have e25 : u19.1 325 = w1.1 325 := by rw [k1'.1.2.2 325 (by decide)]; rfl
        have h2 : Q_x_X1_setLabel L1 L2 u19 (u19.1 325 k1.toNatClampNeg) u22 := h2
        have k2 : K_x_X1_setLabel u19 (u19.1 325 k1.toNatClampNeg) u22 := k2
        rw [e25] at h2 k2
        exact go (eFin1 (L1 := L1) h0 S1 hq k1 e61.symm (Or.inl ⟨Or.inr (by rw [← n2]; exact g5), u19, h1, k1', h2, k2⟩))
  obtain ⟨l2, f2, b2, S2, q5⟩ := inv
  have K2 := S2.2.2.2.2.1
  rcases h with ⟨a, rfl⟩ | ⟨a, ⟨b1, rfl⟩ | ⟨b1, r11, hs, -, b2', rfl⟩⟩
  · refine ⟨l2, f2, b2, S2, q5, Or.inl ?_⟩
    cases l2 with
    | nil => rfl
    | cons q l2 => have := K2.1; omega
  · omega
  · refine ⟨l2, f2, b2, S2, q5, ?_⟩
    cases l2 with
    | nil => exact Or.inl rfl
    | cons q l2 =>
      have n2 := K2.2.1
      have ek : ((u.1 0 326).toInt - 1).toNat = ka.toNatClampNeg := by
        have := natI b1
        omega
      rw [ek] at n2
      have hs := stg_s hs
      rw [n2] at hs
      refine Or.inr ?_
      show (stg q.1).toInt + 1 ≤ pb.toInt
      rw [← hs]
      omega
/-- a sign is begun and taken -/
theorem eBeg (h0 : 0 ≤ (v.1 0 326).toInt) {l : List FQ} {f : Nat} (S : SLQ L2 e P O X v l (f + 1) b w) (tp : TPE v) (h40 : (v.1 0 306).toInt ≤ 40) (hk : k = e.1 (w.1 0 305)) (hp : 0 < (stg k).toInt ∧ (stg k).toInt ≤ 10 ∧ lvQ l ≤ (stg k).toInt) (h : Q_x_X2_beginSign L1 L2 w k false u) (kb : K_x_X2_beginSign w k u) (h2 : Q_x_X9_take L1 L2 u false z) (k2 : K_x_X9_take u z) (f5 : 1500 - (w.1 0 305).toInt < f + 1) :
    ∃ q : FQ, q.1 = k ∧ q.2.1 = f ∧ tQ q = z ∧ CHq P (knC v) v z (q :: l) (z.1 0 326).toInt ∧ JC L2 e z ∧ LBe z ∧ knC z = knC v ∧ z.1 0 312 = v.1 0 312 ∧ z.1 0 305 = w.1 0 305 + 1 ∧ z.1 0 314 = gpb k (w.1 0 314) ∧ (∀ j : Nat, (j : Int) < (v.1 0 326).toInt → z.1 324 j = v.1 324 j ∧ z.1 325 j = v.1 325 j) ∧ X = gK O e (knC v) (q :: l) ((O false e (knC v) (gpb k (w.1 0 314)) (w.1 0 305 + 1)).bind fun r => gJ O f (lvQ (q :: l)) e (knC v) (gpb k (w.1 0 314)) r.2.1 r.2.2) := by
  obtain ⟨⟨J, B, ekn, e12⟩, A, e14, Bt, C, wf, hf, hX, hkk⟩ := S
  have len := CHq.len l _ C
  have t26 : (w.1 0 326).toInt < 420 := by
    have := len.2
    have := len.1
    unfold TPE at tp
    omega
  have b17 := B.1.1
  have b5 := B.1.2
  have a5 := B.2.1
  have z5 : z.1 0 305 = u.1 0 305 + 1 := by
    obtain ⟨-, -, -, r3, -, -, h2⟩ := h2
    rcases h2 with ⟨-, -, e9⟩ | ⟨-, r11, -, u9, -, q, -⟩
    · rw [e9]; rfl
    · cases q
  have u5 : u.1 0 305 = w.1 0 305 := kb.1.2.1 305 (by decide)
  have i5 : (z.1 0 305).toInt = (w.1 0 305).toInt + 1 := by rw [k2.2.2.1, u5]
  have Ju : JC L2 e u := J.fr kb.1 kb.2.2.2.2.2 (by decide) (by decide) (by rw [u5, kb.1.2.1 307 (by decide)]; exact J.2.1)
  have Jz := (eTake (P := P) h2 k2 Ju).1
  have kz : knC z = knC w := (knC_fr k2.1).trans (knC_fr kb.1)
  have z12 : z.1 0 312 = w.1 0 312 := (k2.1.2.1 312 (by decide)).trans (kb.1.2.1 312 (by decide))
  have hJ : gJ O (f + 1) (lvQ l) e (knC v) (w.1 0 314) b (w.1 0 305) = (O false e (knC v) (gpb k (w.1 0 314)) (w.1 0 305 + 1)).bind fun q => (gJ O f ((stg k).toInt + 1) e (knC v) (gpb k (w.1 0 314)) q.2.1 q.2.2).bind fun r => gJ O f (lvQ l) e (knC v) (w.1 0 314) (gSign k (gsl (knC v) (w.1 0 314)) b r.1) r.2 := by
    rw [hk]
    exact if_neg (by rw [← hk]; omega)
  have main : ∀ {m : Int32}, SBq k m w z → z.1 324 (w.1 0 326).toNatClampNeg = k → z.1 325 (w.1 0 326).toNatClampNeg = m → (∀ j : Nat, (j : Int) < (w.1 0 326).toInt → z.1 324 j = w.1 324 j ∧ z.1 325 j = w.1 325 j) → (z.1 0 326).toInt = (w.1 0 326).toInt + 1 → z.1 0 314 = gpb k (w.1 0 314) → ∃ q : FQ, q.1 = k ∧ q.2.1 = f ∧ tQ q = z ∧ CHq P (knC v) v z (q :: l) (z.1 0 326).toInt ∧ JC L2 e z ∧ LBe z ∧ knC z = knC v ∧ z.1 0 312 = v.1 0 312 ∧ z.1 0 305 = w.1 0 305 + 1 ∧ z.1 0 314 = gpb k (w.1 0 314) ∧ (∀ j : Nat, (j : Int) < (v.1 0 326).toInt → z.1 324 j = v.1 324 j ∧ z.1 325 j = v.1 325 j) ∧ X = gK O e (knC v) (q :: l) ((O false e (knC v) (gpb k (w.1 0 314)) (w.1 0 305 + 1)).bind fun r => gJ O f (lvQ (q :: l)) e (knC v) (gpb k (w.1 0 314)) r.2.1 r.2.2) := by
    intro m S t4 t5 tk t6 t14
    have n26 := natI (a := w.1 0 326) (by omega)
    have en : ((z.1 0 326).toInt - 1).toNat = (w.1 0 326).toNatClampNeg := by omega
    have Sm := S.2.2.1
    have S17 := S.1.2.2.1
    have S21 := S.1.2.2.2.2.1
    have Bz : LBe z := ⟨⟨by omega, by omega⟩, by have := k2.2.1; omega, by rw [z12]; exact B.2.2.1, by have := S.2.1; have := B.2.2.2.1; omega, by have := B.2.2.2.2; omega⟩
    refine ⟨(k, f, lvQ l, w.1 0 314, b, hdQ v l, w, z), rfl, rfl, rfl, ⟨by omega, by rw [en]; exact t4, by rw [en, t5]; exact S, rfl, A, Bt.1, B, Bz, rfl, e14.symm, by rw [← ekn]; exact gslC B.2.2.1, rfl, ⟨hp.2.2, ?_⟩, ?_⟩, Jz, Bz, kz.trans ekn, z12.trans e12, by rw [z5, u5], t14, fun j hj => ?_, ?_⟩
    · exact Bt.2
    · rw [t6, show (w.1 0 326).toInt + 1 - 1 = (w.1 0 326).toInt by omega]
      exact CHq.cg h0 l _ tk C
    · have y := tk j (by omega)
      have y' := hkk j hj
      exact ⟨y.1.trans y'.1, y.2.trans y'.2⟩
    · rw [hX, hJ]
      show gK O e (knC v) l _ = gK O e (knC v) l _
      congr 1
      cases O false e (knC v) (gpb k (w.1 0 314)) (w.1 0 305 + 1) with
      | none => rfl
      | some q => rfl
  have psh : ∀ {x : MS} {m : Int32}, x.1 0 326 = w.1 0 326 → x.1 324 = w.1 324 → x.1 325 = w.1 325 → Q_x_X2_push L1 L2 x k m u → z.1 324 (w.1 0 326).toNatClampNeg = k ∧ z.1 325 (w.1 0 326).toNatClampNeg = m ∧ (∀ j : Nat, (j : Int) < (w.1 0 326).toInt → z.1 324 j = w.1 324 j ∧ z.1 325 j = w.1 325 j) ∧ (z.1 0 326).toInt = (w.1 0 326).toInt + 1 := fun {x m} y1 y2 y3 hq => by
    obtain ⟨-, q0, hq⟩ := hq
    have n26 := natI (a := w.1 0 326) (by rw [← y1]; exact q0)
    rw [k2.1.2.2 324 (by decide), k2.1.2.2 325 (by decide), k2.1.2.1 326 (by decide)]
    rcases hq with ⟨q, -⟩ | ⟨q, e9⟩
    · rw [y1] at q
      omega
    · rw [e9]
      refine ⟨?_, ?_, fun j hj => ⟨?_, ?_⟩, ?_⟩
      · show upd (x.1 324) (x.1 0 326).toNatClampNeg k _ = k
        rw [y1, updS]
      · show upd (x.1 325) (x.1 0 326).toNatClampNeg m _ = m
        rw [y1, updS]
      · show upd (x.1 324) (x.1 0 326).toNatClampNeg k j = _
        rw [y1, updN_ (by omega), y2]
      · show upd (x.1 325) (x.1 0 326).toNatClampNeg m j = _
        rw [y1, updN_ (by omega), y3]
      · show ((x.1 0 326) + (1 : Int32)).toInt = _
        rw [y1]
        exact add_z rfl (by decide) (by omega) (by omega)
  have jmp : ∀ {t r5 : Int32} {u4 u12 : MS}, (k.toInt = 69 ∨ k.toInt = 70) → t = (if k.toInt = 69 then 16 else 18) → Q_x_X1_newLabel L1 L2 w r5 u4 → K_x_X1_newLabel w r5 u4 → Q_x_X1_add L1 L2 u4 t r5 0 u12 → K_x_X1_add u4 t r5 0 u12 → Q_x_X2_push L1 L2 u12 k r5 u → K_x_X2_push u12 k r5 u → ∃ m, SBq k m w z ∧ z.1 324 (w.1 0 326).toNatClampNeg = k ∧ z.1 325 (w.1 0 326).toNatClampNeg = m ∧ (∀ j : Nat, (j : Int) < (w.1 0 326).toInt → z.1 324 j = w.1 324 j ∧ z.1 325 j = w.1 325 j) ∧ (z.1 0 326).toInt = (w.1 0 326).toInt + 1 ∧ z.1 0 314 = gpb k (w.1 0 314) := fun {t r5 u4 u12} hk9 ht h4 k4 h12 k12 h17 k17 => by
    have F4 := EF.lab (lo := (w.1 0 317).toInt) (lc := (w.1 0 321).toInt) h4 ⟨b17, by omega⟩
    have F12 := EF.add (lo := (w.1 0 317).toInt) (lc := (w.1 0 321).toInt) h12
    have f81 : u4.1 0 381 = w.1 0 381 := k4.1.2.1 381 (by decide)
    rw [f81] at F12
    have g : ∀ a9, a9 = 378 ∨ a9 = 379 ∨ a9 = 380 → z.1 a9 = u12.1 a9 := fun a9 ha => by rcases ha with rfl | rfl | rfl <;> exact (k2.1.2.2 _ (by decide)).trans (k17.1.2.2 _ (by decide))
    have z17 : z.1 0 317 = u4.1 0 317 := (k2.1.2.1 317 (by decide)).trans ((k17.1.2.1 317 (by decide)).trans (k12.1.2.1 317 (by decide)))
    have z81 : z.1 0 381 = u12.1 0 381 := (k2.1.2.1 381 (by decide)).trans (k17.1.2.1 381 (by decide))
    have p := psh (x := u12) ((k12.1.2.1 326 (by decide)).trans (k4.1.2.1 326 (by decide))) ((k12.1.2.2 324 (by decide)).trans (k4.1.2.2 324 (by decide))) ((k12.1.2.2 325 (by decide)).trans (k4.1.2.2 325 (by decide))) h17
    refine ⟨r5, ⟨EF.tr (EF.tr (EF.tr F4.1 F12.1 (Int.le_refl _) (Int.le_refl _)) (EF.fc (lo := (w.1 0 317).toInt) (lc := (w.1 0 321).toInt) k17.1 (by decide) (by decide)) (Int.le_refl _) (Int.le_refl _)) (EF.fc (lo := (w.1 0 317).toInt) (lc := (w.1 0 321).toInt) k2.1 (by decide) (by decide)) (Int.le_refl _) (Int.le_refl _), ?_, ?_, ?_, ?_, Or.inl ⟨hk9, ?_, ?_, ?_, ?_⟩⟩, p.1, p.2.1, p.2.2.1, p.2.2.2, ?_⟩
    · rw [z81]; exact F12.2.1
    · rw [z17, F4.2.1]; omega
    · rw [g 380 (by decide)]; exact F12.2.2.2.2.1
    · rw [g 379 (by decide)]; exact F12.2.2.2.1
    · rw [g 378 (by decide), F12.2.2.1]; exact ht
    · exact F4.2.2
    · rw [z17]; exact F4.2.1
    · rw [k2.1.2.1 314 (by decide), k17.1.2.1 314 (by decide), k12.1.2.1 314 (by decide), k4.1.2.1 314 (by decide)]
    · unfold gpb
      rw [if_pos hk9, k2.1.2.1 314 (by decide), k17.1.2.1 314 (by decide), k12.1.2.1 314 (by decide), k4.1.2.1 314 (by decide)]
  obtain ⟨-, -, -, -, -, -, -, -, h⟩ := h
  rcases h with ⟨c69, r5, u4, h4, k4, -, u12, h12, k12, u17, h17, k17, -, eu⟩ | ⟨c69, ⟨c70, r30, h30, r33, u32, h32, k32, ⟨-, u38, h38, k38, u43, h43, k43, -, eu⟩ | ⟨-, r89, -, u9, -, f9, -⟩⟩ | ⟨c70, r65, u64, h64, k64, -, u70, h70, k70, u75, h75, k75, -, eu⟩⟩
  · rw [← eu] at h17 k17
    obtain ⟨m, y⟩ := jmp (Or.inl c69) (by rw [if_pos c69]) h4 k4 h12 k12 h17 k17
    exact main y.1 y.2.1 y.2.2.1 y.2.2.2.1 y.2.2.2.2.1 y.2.2.2.2.2
  · rw [← eu] at h43 k43
    have nk : ¬ (k.toInt = 69 ∨ k.toInt = 70) := fun y => y.elim c69 c70
    have F38 := EF.add (lo := (w.1 0 317).toInt) (lc := (w.1 0 321).toInt) h38
    have f81 : u32.1 0 381 = w.1 0 381 := k32.1.2.1 381 (by decide)
    rw [f81] at F38
    have g : ∀ a9, a9 = 378 ∨ a9 = 379 ∨ a9 = 380 → z.1 a9 = u38.1 a9 := fun a9 ha => by rcases ha with rfl | rfl | rfl <;> exact (k2.1.2.2 _ (by decide)).trans (k43.1.2.2 _ (by decide))
    have z17 : z.1 0 317 = w.1 0 317 := (k2.1.2.1 317 (by decide)).trans ((k43.1.2.1 317 (by decide)).trans ((k38.1.2.1 317 (by decide)).trans (k32.1.2.1 317 (by decide))))
    have z81 : z.1 0 381 = u38.1 0 381 := (k2.1.2.1 381 (by decide)).trans (k43.1.2.1 381 (by decide))
    have z14 : z.1 0 314 = w.1 0 314 + 1 := by
      rw [k2.1.2.1 314 (by decide), k43.1.2.1 314 (by decide)]
      show u38.1 0 314 + 1 = _
      rw [k38.1.2.1 314 (by decide), k32.1.2.1 314 (by decide)]
    have p := psh (x := wA u38 0 314 (u38.1 0 314 + 1)) ((k38.1.2.1 326 (by decide)).trans (k32.1.2.1 326 (by decide))) ((k38.1.2.2 324 (by decide)).trans (k32.1.2.2 324 (by decide))) ((k38.1.2.2 325 (by decide)).trans (k32.1.2.2 325 (by decide))) h43
    have F43 : EF (w.1 0 317).toInt (w.1 0 321).toInt u38 u := EF.tr (EA.wr (P := P) (v := u38) 314 (u38.1 0 314 + 1)).2.1 (EF.fc (lo := (u38.1 0 317).toInt) (lc := (u38.1 0 321).toInt) k43.1 (by decide) (by decide)) (Int.le_refl _) (Int.le_refl _) |> fun y => ⟨y.1, y.2.1, y.2.2.1, fun l hl => y.2.2.2.1 l (by rw [k38.1.2.1 317 (by decide), k32.1.2.1 317 (by decide)]; exact hl), y.2.2.2.2.1, fun c hc h9 => y.2.2.2.2.2 c (by rw [k38.1.2.1 321 (by decide), k32.1.2.1 321 (by decide)]; exact hc) h9⟩
    refine main (m := r30) ⟨EF.tr (EF.tr (EF.tr (EF.fc (lo := (w.1 0 317).toInt) (lc := (w.1 0 321).toInt) k32.1 (by decide) (by decide)) F38.1 (Int.le_refl _) (Int.le_refl _)) F43 (Int.le_refl _) (Int.le_refl _)) (EF.fc (lo := (w.1 0 317).toInt) (lc := (w.1 0 321).toInt) k2.1 (by decide) (by decide)) (Int.le_refl _) (Int.le_refl _), ?_, ?_, ?_, ?_, Or.inr ⟨nk, ?_, ?_, ?_, z14⟩⟩ p.1 p.2.1 p.2.2.1 p.2.2.2 (by unfold gpb; rw [if_neg nk]; exact z14)
    · rw [z81]; exact F38.2.1
    · rw [z17]; omega
    · rw [g 380 (by decide)]; exact F38.2.2.2.2.1
    · rw [g 379 (by decide)]; exact F38.2.2.2.1
    · rw [g 378 (by decide)]; exact F38.2.2.1
    · exact h30.2
    · rw [z17]
  · cases f9
  · rw [← eu] at h75 k75
    obtain ⟨m, y⟩ := jmp (Or.inr c70) (by rw [if_neg c69]) h64 k64 h70 k70 h75 k75
    exact main y.1 y.2.1 y.2.2.1 y.2.2.2.1 y.2.2.2.2.1 y.2.2.2.2.2
end UVL
