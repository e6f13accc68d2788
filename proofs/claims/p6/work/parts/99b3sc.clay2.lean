/-! the class: words of signs, places, entries, deeds -/
def plz (d : Int32) : Int32 := if d = 5 ∨ d = 6 ∨ d = 9 ∨ d = 11 then 2 else if d = 7 then 8 else if d = 8 ∨ d = 10 then 1 else 0
def sgz (x : Int32) : Int32 := if 53 ≤ x.toInt ∧ x.toInt ≤ 68 then opz x else 0
def lw (L1 : List Nat) (v : MS) (d x : Int32) : Int32 := if d = 21 then 1 + (if 0 < (ff L1 v x).toInt then 1 else 0) else if d = 0 then 9 + 2 * (if 0 < (ff L1 v x).toInt then ff L1 v x else 0) else if dvd d x = true then dsz d x else dsz d x + (-1)
def EN9 (L1 L2 : List Nat) (v : MS) (pa : Int32) (u : MS) : Prop := ∃ u6, Q_x_X7_changeFunction L1 L2 v pa 1 (4 * v.1 0 337) u6 ∧ RS0 u6 u
def LZ9 (L1 L2 : List Nat) (v : MS) (d x : Int32) (u : MS) : Prop := u.1 0 337 = v.1 0 337 + lw L1 v d x ∧ u.1 0 339 = (if d = 20 ∧ isT x = true then 1 else v.1 0 339) ∧ u.1 0 340 = (if d = 20 ∧ isD x = true then 1 else v.1 0 340) ∧ ((d = 0 ∧ EN9 L1 L2 v x u) ∨ (d ≠ 0 ∧ RS0 v u))
section CLZ
variable {L1 L2 : List Nat} {N : Nat} {v u w x z : MS} {pa pb pc1 pd r k l d y : Int32} {p : Int → Int32}
theorem zPlace (h : Q_x_X0_layPlace L1 L2 N v pa pb pc1 u) : SZ9 (plz pa) v u := by
  obtain ⟨-, r3, -, h⟩ := h
  rcases h with ⟨rfl, u6, -, k1, r11, -, u13, -, k2, rfl⟩ | ⟨a, ⟨rfl, u6, -, k1, r11, -, u13, -, k2, rfl⟩ | ⟨b, ⟨rfl, r28, -, -, u30, -, k1, rfl⟩ | ⟨c, ⟨rfl, r35, -, u37, -, k1, rfl⟩ | ⟨d, ⟨rfl, r42, -, u44, -, k1, u47, -, k2, rfl⟩ | ⟨e, ⟨rfl, u51, -, k1, rfl⟩ | ⟨f, ⟨rfl, u55, -, k1, u58, -, k2, rfl⟩ | ⟨g, rfl⟩⟩⟩⟩⟩⟩⟩
  · exact (SZ9.of (k := 1) k1 (by decide)).t2 (SZ9.of (k := 1) k2 (by decide)) (by decide)
  · exact (SZ9.of (k := 1) k1 (by decide)).t2 (SZ9.of (k := 1) k2 (by decide)) (by decide)
  · exact SZ9.of (k := 8) k1 (by decide)
  · exact SZ9.of (k := 1) k1 (by decide)
  · exact (SZ9.of (k := 1) k1 (by decide)).t2 (SZ9.of (k := 1) k2 (by decide)) (by decide)
  · exact SZ9.of (k := 1) k1 (by decide)
  · exact (SZ9.of (k := 1) k1 (by decide)).t2 (SZ9.of (k := 1) k2 (by decide)) (by decide)
  · unfold plz
    rw [if_neg (fun q => by rcases q with q | q | q | q; exact a q; exact b q; exact e q; exact g q), if_neg c, if_neg (fun q => by rcases q with q | q; exact d q; exact f q)]
    exact SZ9.rf
theorem SG9.w339 (h : SZ9 k (wA v 0 339 1) u) (hp : isT pa = true ∧ isD pa = false) : SG9 k pa v u := ⟨h.1, by rw [hp.1]; exact h.2.1, by rw [hp.2]; exact h.2.2.1, (RS0.rf.w (by decide)).tr h.2.2.2⟩
theorem SG9.w340 (h : SZ9 k (wA v 0 340 1) u) (hp : isT pa = false ∧ isD pa = true) : SG9 k pa v u := ⟨h.1, by rw [hp.1]; exact h.2.1, by rw [hp.2]; exact h.2.2.1, (RS0.rf.w (by decide)).tr h.2.2.2⟩
theorem sgz_c (h : pa ≠ 53 ∧ pa ≠ 54 ∧ pa ≠ 55 ∧ pa ≠ 56 ∧ pa ≠ 57 ∧ pa ≠ 58 ∧ pa ≠ 59 ∧ pa ≠ 60 ∧ pa ≠ 61 ∧ pa ≠ 62) : sgz pa = (if pa = 63 ∨ pa = 64 ∨ pa = 66 ∨ pa = 68 then 2 else if pa = 65 ∨ pa = 67 then 1 else 0) := by
  by_cases q3 : pa = 63
  · subst q3; decide
  by_cases q4 : pa = 64
  · subst q4; decide
  by_cases q5 : pa = 65
  · subst q5; decide
  by_cases q6 : pa = 66
  · subst q6; decide
  by_cases q7 : pa = 67
  · subst q7; decide
  by_cases q8 : pa = 68
  · subst q8; decide
  rw [if_neg (fun q => by rcases q with q | q | q | q; exact q3 q; exact q4 q; exact q6 q; exact q8 q), if_neg (fun q => by rcases q with q | q; exact q5 q; exact q7 q)]
  have t : ∀ {m : Int32}, pa ≠ m → pa.toInt ≠ m.toInt := fun k q => k (Int32.toInt_inj.mp q)
  have e3 : pa.toInt ≠ 53 := t h.1
  have e4 : pa.toInt ≠ 54 := t h.2.1
  have e5 : pa.toInt ≠ 55 := t h.2.2.1
  have e6 : pa.toInt ≠ 56 := t h.2.2.2.1
  have e7 : pa.toInt ≠ 57 := t h.2.2.2.2.1
  have e8 : pa.toInt ≠ 58 := t h.2.2.2.2.2.1
  have e9 : pa.toInt ≠ 59 := t h.2.2.2.2.2.2.1
  have f0 : pa.toInt ≠ 60 := t h.2.2.2.2.2.2.2.1
  have f1 : pa.toInt ≠ 61 := t h.2.2.2.2.2.2.2.2.1
  have f2 : pa.toInt ≠ 62 := t h.2.2.2.2.2.2.2.2.2
  have f3 : pa.toInt ≠ 63 := t q3
  have f4 : pa.toInt ≠ 64 := t q4
  have f5 : pa.toInt ≠ 65 := t q5
  have f6 : pa.toInt ≠ 66 := t q6
  have f7 : pa.toInt ≠ 67 := t q7
  have f8 : pa.toInt ≠ 68 := t q8
  unfold sgz
  rw [if_neg (by omega)]
theorem zSign (h : Q_x_X0_laySign L1 L2 N v pa u) : SG9 (sgz pa) pa v u := by
  obtain ⟨-, h⟩ := h
  rcases h with ⟨rfl, u3, -, k1, rfl⟩ | ⟨a3, ⟨rfl, u3, -, k1, rfl⟩ | ⟨a4, ⟨rfl, u3, -, k1, rfl⟩ | ⟨a5, ⟨rfl, u3, -, k1, rfl⟩ | ⟨a6, ⟨rfl, u3, -, k1, u22, -, k2, rfl⟩ | ⟨a7, ⟨rfl, u3, -, k1, rfl⟩ | ⟨a8, ⟨rfl, u3, -, k1, rfl⟩ | ⟨a9, ⟨rfl, u3, -, k1, rfl⟩ | ⟨b0, ⟨rfl, u3, -, k1, rfl⟩ | ⟨b1, ⟨rfl, u3, -, k1, rfl⟩ | ⟨b2, u45, hc, -, rfl⟩⟩⟩⟩⟩⟩⟩⟩⟩⟩
  · exact SG9.of (SZ9.of (k := 1) k1 (by decide)) (by decide)
  · exact SG9.of (SZ9.of (k := 1) k1 (by decide)) (by decide)
  · exact SG9.w339 (SZ9.of (k := 1) k1 (by decide)) (by decide)
  · exact SG9.w340 (SZ9.of (k := 1) k1 (by decide)) (by decide)
  · exact SG9.w340 ((SZ9.of (k := 1) k1 (by decide)).t2 (SZ9.of (k := 1) k2 (by decide)) (by decide)) (by decide)
  · exact SG9.of (SZ9.of (k := 1) k1 (by decide)) (by decide)
  · exact SG9.of (SZ9.of (k := 1) k1 (by decide)) (by decide)
  · exact SG9.of (SZ9.of (k := 1) k1 (by decide)) (by decide)
  · exact SG9.of (SZ9.of (k := 1) k1 (by decide)) (by decide)
  · exact SG9.of (SZ9.of (k := 1) k1 (by decide)) (by decide)
  · have q := zCmp hc
    rw [← sgz_c ⟨a3, a4, a5, a6, a7, a8, a9, b0, b1, b2⟩] at q
    exact SG9.of q ⟨decide_eq_false a5, decide_eq_false (fun w => w.elim a6 a7)⟩
theorem row_c {i : Nat} (h : Q_x_X7_changeFunction L1 L2 v pa 1 y u) (hi : i ≠ 1) : ∀ a, u.1 a i = v.1 a i := by
  obtain ⟨-, h⟩ := h
  intro a
  rcases h with ⟨-, rfl⟩ | ⟨-, ⟨-, rfl⟩ | ⟨-, ⟨q, rfl⟩ | ⟨-, ⟨q, rfl⟩ | ⟨-, rfl⟩⟩⟩⟩
  · rfl
  · rfl
  · rfl
  · rfl
  · show (if a = _ then upd (v.1 _) 1 y else v.1 a) i = _
    by_cases e : a = 5000 + rowA L1 pa.toNatClampNeg
    · rw [if_pos e, e]
      exact pk_un hi
    · rw [if_neg e]
theorem chg_lo (h : Q_x_X7_changeFunction L1 L2 v pa 1 y u) : ∀ a, a < 5000 → u.1 a = v.1 a := by
  obtain ⟨-, h⟩ := h
  intro a ha
  rcases h with ⟨-, rfl⟩ | ⟨-, ⟨-, rfl⟩ | ⟨-, ⟨q, rfl⟩ | ⟨-, ⟨q, rfl⟩ | ⟨-, rfl⟩⟩⟩⟩
  · rfl
  · rfl
  · rfl
  · rfl
  · exact if_neg (by omega)
theorem ff_cg (h5 : u.1 0 375 = v.1 0 375) (hr : ∀ a, 5000 ≤ a → u.1 a 0 = v.1 a 0) : ff L1 u pa = ff L1 v pa := by
  unfold ff rF
  rw [h5, hr _ (by omega)]
set_option maxHeartbeats 800000 in
theorem zEnter (h : Q_x_X0_layEnter L1 L2 N v pa u) : u.1 0 337 = v.1 0 337 + (9 + 2 * (if 0 < (ff L1 v pa).toInt then ff L1 v pa else 0)) ∧ u.1 0 339 = v.1 0 339 ∧ u.1 0 340 = v.1 0 340 ∧ EN9 L1 L2 v pa u := by
  obtain ⟨-, r3, -, -, u6, h6, -, u10, -, k1, u13, -, k2, r17, -, u19, -, k3, u22, -, k4, u25, -, k5, u28, -, k6, u31, -, k7, u34, -, k8, ka, w, hr, fc, hka, hsz, r38, h38, -, c38, rfl⟩ := h
  have e0 : RS0 u6 u34 := k1.2.2.1.tr (k2.2.2.1.tr (k3.2.2.1.tr (k4.2.2.1.tr (k5.2.2.1.tr (k6.2.2.1.tr (k7.2.2.1.tr k8.2.2.1))))))
  have fv : ∀ {z : MS}, z.1 0 375 = v.1 0 375 → RS0 u6 z → ff L1 z pa = ff L1 v pa := fun h5 hz => ff_cg h5 (fun a ha => by rw [hz a ha]; exact row_c h6 (by decide) a)
  have inv : RS0 u6 u ∧ (ka.toInt ≤ 0 ∨ ka.toInt ≤ (ff L1 v pa).toInt) := by
    refine RT.ind (fun (y : Int32 × MS) => RS0 u6 y.2 ∧ (y.1.toInt ≤ 0 ∨ y.1.toInt ≤ (ff L1 v pa).toInt)) hr ⟨e0, Or.inl (show (0 : Int32).toInt ≤ 0 by decide)⟩ ?_
    intro a b _ ha hb
    obtain ⟨f1, b1, -, r9, h9, -, c9, u44, -, q1, r48, -, u50, -, q2, rfl⟩ := hb
    have e9 := zFact h9
    rw [fv (f1.2.1 375 (by decide)) ha.1] at e9
    have ea : (a.1 + (1 : Int32)).toInt = a.1.toInt + 1 := add_z rfl (by decide) (by omega) (by omega)
    refine ⟨ha.1.tr (q1.2.2.1.tr q2.2.2.1), Or.inr ?_⟩
    show (a.1 + (1 : Int32)).toInt ≤ _
    rw [← e9]
    omega
  have e38 := zFact h38
  rw [fv (fc.2.1 375 (by decide)) inv.1] at e38
  rw [e38] at c38
  refine ⟨?_, fc.2.1 339 (by decide), fc.2.1 340 (by decide), u6, h6, inv.1⟩
  have kk : ka = if 0 < (ff L1 v pa).toInt then ff L1 v pa else 0 := by
    refine Int32.toInt_inj.mp ?_
    by_cases q : 0 < (ff L1 v pa).toInt
    · rw [if_pos q]
      omega
    · rw [if_neg q]
      have : (0 : Int32).toInt = 0 := by decide
      omega
  rw [← kk]
  have e2 : (2 * ka).toInt = 2 * ka.toInt := mul_z (by decide) rfl (by omega) (by omega)
  have e9 : (9 + 2 * ka).toInt = 9 + 2 * ka.toInt := add_z (by decide) e2 (by omega) (by omega)
  exact i32_of (k := 9 + 2 * ka.toInt) (by omega) e9
theorem LZ9.sz (h : SZ9 (lw L1 v d y) v u) (h0 : d ≠ 0) (h20 : d ≠ 20) : LZ9 L1 L2 v d y u := ⟨h.1, by rw [if_neg (fun q => h20 q.1)]; exact h.2.1, by rw [if_neg (fun q => h20 q.1)]; exact h.2.2.1, Or.inr ⟨h0, h.2.2.2⟩⟩
theorem lw_d (h21 : d ≠ 21) (h0 : d ≠ 0) (hv : 1 ≤ d.toInt ∧ d.toInt ≤ 24) (h20 : d ≠ 20) : lw L1 v d y = dsz d y := by
  unfold lw
  rw [if_neg h21, if_neg h0, if_pos (dvd_t hv (Or.inl h20))]
set_option maxHeartbeats 1600000 in
theorem zLay (h : Q_x_X0_lay L1 L2 N v pa pb pc1 u) : LZ9 L1 L2 v pa pb u := by
  obtain ⟨-, h⟩ := h
  have lit : ∀ {k : Int32}, SZ9 k v u → pa ≠ 21 → pa ≠ 0 → pa ≠ 20 → (1 ≤ pa.toInt ∧ pa.toInt ≤ 24) → dsz pa pb = k → LZ9 L1 L2 v pa pb u := fun hs a b c e f => LZ9.sz (by rw [lw_d a b e c, f]; exact hs) b c
  rcases h with ⟨rfl, u4, hq, -, rfl⟩ | ⟨a0, h⟩
  · have q := zEnter hq
    exact ⟨q.1, q.2.1, q.2.2.1, Or.inl ⟨rfl, q.2.2.2⟩⟩
  rcases h with ⟨rfl, u4, -, k1, rfl⟩ | ⟨a1, h⟩
  · exact lit (SZ9.of (k := 4) k1 (by decide)) (by decide) (by decide) (by decide) (by decide) rfl
  rcases h with ⟨rfl, u4, hq, -, rfl⟩ | ⟨a2, h⟩
  · exact lit (zNum hq) (by decide) (by decide) (by decide) (by decide) rfl
  rcases h with ⟨rfl, u4, -, k1, rfl⟩ | ⟨a3, h⟩
  · exact lit (SZ9.of (k := 1) k1 (by decide)) (by decide) (by decide) (by decide) (by decide) rfl
  rcases h with ⟨rfl, u4, -, k1, rfl⟩ | ⟨a4, h⟩
  · exact lit (SZ9.of (k := 1) k1 (by decide)) (by decide) (by decide) (by decide) (by decide) rfl
  rcases h with ⟨rfl, -, u4, hq, -, rfl⟩ | ⟨a5, h⟩
  · exact lit (zPlace hq) (by decide) (by decide) (by decide) (by decide) rfl
  rcases h with ⟨rfl, -, u4, hq, -, rfl⟩ | ⟨a6, h⟩
  · exact lit (zPlace hq) (by decide) (by decide) (by decide) (by decide) rfl
  rcases h with ⟨rfl, -, u4, hq, -, rfl⟩ | ⟨a7, h⟩
  · exact lit (zPlace hq) (by decide) (by decide) (by decide) (by decide) rfl
  rcases h with ⟨rfl, -, u4, hq, -, rfl⟩ | ⟨a8, h⟩
  · exact lit (zPlace hq) (by decide) (by decide) (by decide) (by decide) rfl
  rcases h with ⟨rfl, -, u4, hq, -, rfl⟩ | ⟨a9, h⟩
  · exact lit (zPlace hq) (by decide) (by decide) (by decide) (by decide) rfl
  rcases h with ⟨rfl, -, u4, hq, -, rfl⟩ | ⟨b0, h⟩
  · exact lit (zPlace hq) (by decide) (by decide) (by decide) (by decide) rfl
  rcases h with ⟨rfl, -, u4, hq, -, rfl⟩ | ⟨b1, h⟩
  · exact lit (zPlace hq) (by decide) (by decide) (by decide) (by decide) rfl
  rcases h with ⟨rfl, u4, -, k1, rfl⟩ | ⟨b2, h⟩
  · exact lit (SZ9.of (k := 1) k1 (by decide)) (by decide) (by decide) (by decide) (by decide) rfl
  rcases h with ⟨rfl, u4, -, k1, rfl⟩ | ⟨b3, h⟩
  · exact lit (SZ9.of (k := 1) k1 (by decide)) (by decide) (by decide) (by decide) (by decide) rfl
  rcases h with ⟨rfl, u4, -, k1, rfl⟩ | ⟨b4, h⟩
  · exact lit (SZ9.of (k := 1) k1 (by decide)) (by decide) (by decide) (by decide) (by decide) rfl
  rcases h with ⟨rfl, u4, -, k1, rfl⟩ | ⟨b5, h⟩
  · exact lit (SZ9.of (k := 1) k1 (by decide)) (by decide) (by decide) (by decide) (by decide) rfl
  rcases h with ⟨rfl, -, -, u4, hq, -, rfl⟩ | ⟨b6, h⟩
  · exact lit (zJump hq) (by decide) (by decide) (by decide) (by decide) rfl
  rcases h with ⟨rfl, -, -, u4, hq, -, rfl⟩ | ⟨b7, h⟩
  · exact lit (zJump hq) (by decide) (by decide) (by decide) (by decide) rfl
  rcases h with ⟨rfl, -, -, u4, hq, -, rfl⟩ | ⟨b8, h⟩
  · exact lit (zJump hq) (by decide) (by decide) (by decide) (by decide) rfl
  rcases h with ⟨rfl, -, -, u4, hq, -, rfl⟩ | ⟨b9, h⟩
  · exact lit (zJump hq) (by decide) (by decide) (by decide) (by decide) rfl
  rcases h with ⟨rfl, u169, -, k1, u172, hq, -, rfl⟩ | ⟨c0, h⟩
  · have s1 := SZ9.of (k := 1) k1 (by decide)
    have s2 := zSign hq
    have lz : lw L1 v 20 pb = 1 + sgz pb := by
      unfold lw sgz
      rw [if_neg (by decide), if_neg (by decide)]
      by_cases q : 53 ≤ pb.toInt ∧ pb.toInt ≤ 68
      · rw [if_pos (dvd_t (by decide) (Or.inr q)), if_pos q]
        rfl
      · have nd : ¬ dvd 20 pb = true := fun w => by
          unfold dvd at w
          simp only [Bool.and_eq_true, Bool.or_eq_true, decide_eq_true_eq] at w
          rcases w.2 with z | z
          · exact z rfl
          · exact q z
        rw [if_neg nd, if_neg q]
        have o : opz pb = 1 := by
          unfold opz
          refine if_neg (fun z => q ?_)
          rcases z with rfl | rfl | rfl | rfl | rfl <;> decide
        show 1 + opz pb + (-1) = 1 + 0
        rw [o]
        decide
    refine ⟨by rw [lz, s2.1, s1.1, Int32.add_assoc], ?_, ?_, Or.inr ⟨by decide, s1.2.2.2.tr s2.2.2.2⟩⟩
    · rw [s2.2.1, s1.2.1]
      by_cases q : isT pb = true
      · rw [if_pos q, if_pos ⟨rfl, q⟩]
      · rw [if_neg q, if_neg (fun z => q z.2)]
    · rw [s2.2.2.1, s1.2.2.1]
      by_cases q : isD pb = true
      · rw [if_pos q, if_pos ⟨rfl, q⟩]
      · rw [if_neg q, if_neg (fun z => q z.2)]
  rcases h with ⟨rfl, u4, hq, -, rfl⟩ | ⟨c1, h⟩
  · exact LZ9.sz (zCall hq) (by decide) (by decide)
  rcases h with ⟨rfl, u4, -, k1, rfl⟩ | ⟨c2, h⟩
  · exact lit (SZ9.of (k := 2) k1 (by decide)) (by decide) (by decide) (by decide) (by decide) rfl
  rcases h with ⟨rfl, u4, -, k1, rfl⟩ | ⟨c3, h⟩
  · exact lit (SZ9.of (k := 2) k1 (by decide)) (by decide) (by decide) (by decide) (by decide) rfl
  rcases h with ⟨rfl, rfl⟩ | ⟨c4, h⟩
  · exact lit SZ9.rf (by decide) (by decide) (by decide) (by decide) rfl
  have t : ∀ {m : Int32}, ¬ pa = m → pa.toInt ≠ m.toInt := fun k q => k (Int32.toInt_inj.mp q)
  have out : ¬ (0 ≤ pa.toInt ∧ pa.toInt ≤ 24) := by
    have e0 : pa.toInt ≠ 0 := t a0
    have e1 : pa.toInt ≠ 1 := t a1
    have e2 : pa.toInt ≠ 2 := t a2
    have e3 : pa.toInt ≠ 3 := t a3
    have e4 : pa.toInt ≠ 4 := t a4
    have e5 : pa.toInt ≠ 5 := t a5
    have e6 : pa.toInt ≠ 6 := t a6
    have e7 : pa.toInt ≠ 7 := t a7
    have e8 : pa.toInt ≠ 8 := t a8
    have e9 : pa.toInt ≠ 9 := t a9
    have f0 : pa.toInt ≠ 10 := t b0
    have f1 : pa.toInt ≠ 11 := t b1
    have f2 : pa.toInt ≠ 12 := t b2
    have f3 : pa.toInt ≠ 13 := t b3
    have f4 : pa.toInt ≠ 14 := t b4
    have f5 : pa.toInt ≠ 15 := t b5
    have f6 : pa.toInt ≠ 16 := t b6
    have f7 : pa.toInt ≠ 17 := t b7
    have f8 : pa.toInt ≠ 18 := t b8
    have f9 : pa.toInt ≠ 19 := t b9
    have g0 : pa.toInt ≠ 20 := t c0
    have g1 : pa.toInt ≠ 21 := t c1
    have g2 : pa.toInt ≠ 22 := t c2
    have g3 : pa.toInt ≠ 23 := t c3
    have g4 : pa.toInt ≠ 24 := t c4
    omega
  have hq : ∃ u4, Q_x_X0_layPlace L1 L2 N v pa pb pc1 u4 ∧ u = u4 := by
    rcases h with ⟨-, u4, hq, -, e⟩ | ⟨-, -, u4, hq, -, e⟩
    · exact ⟨u4, hq, e⟩
    · exact ⟨u4, hq, e⟩
  obtain ⟨u4, hq, rfl⟩ := hq
  have s := zPlace hq
  have l0 : lw L1 v pa pb = plz pa := by
    unfold lw plz
    have nd : ¬ dvd pa pb = true := fun w => by
      unfold dvd at w
      simp only [Bool.and_eq_true, decide_eq_true_eq] at w
      omega
    have dz : dsz pa pb = 1 := by
      unfold dsz
      rw [if_neg a0, if_neg a1, if_neg a2, if_neg (fun z => by rcases z with z | z | z | z | z | z | z | z; exact a5 z; exact a6 z; exact a9 z; exact b1 z; exact b6 z; exact b7 z; exact c2 z; exact c3 z), if_neg a7, if_neg b8, if_neg c0, if_neg c4]
    rw [if_neg c1, if_neg a0, if_neg nd, dz, if_neg (fun z => by rcases z with z | z | z | z; exact a5 z; exact a6 z; exact a9 z; exact b1 z), if_neg a7, if_neg (fun z => by rcases z with z | z; exact a8 z; exact b0 z)]
    decide
  exact LZ9.sz (by rw [l0]; exact s) a0 c0
end CLZ
