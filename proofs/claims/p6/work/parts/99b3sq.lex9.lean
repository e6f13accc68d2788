/-! texts: both read every token alike -/
section LX9
variable {L1 L2 : List Nat} {T : Nat → Int32} {L p q n : Nat} {v u w u' : MS} {pa pb pc1 r rq r' dig unt : Int32} {val : Int64}
theorem KL_in {x : Int32} {k : Nat} (h : x.toInt = k) (hk : k < 11) : x ∈ KL := by
  have e : x = Int32.ofNat k := Int32.toInt_inj.mp (by rw [Int32.toInt_ofNat_of_lt (by omega)]; exact h)
  rw [e]
  have : ∀ k, k < 11 → Int32.ofNat k ∈ KL := by decide
  exact this k hk
theorem ltr_nmp {c : Int} (h : ltr c) : nmp c := Or.inl h
theorem ltr_dgt {c : Int} (h : ltr c) : ¬ dgt c := by
  unfold ltr at h
  unfold dgt
  omega
/-- the place behind a name's bytes lies behind its beginning -/
theorem NLE_gt (h : nmp (btq T L p)) : p < NLE T L p ∧ NLE T L p ≤ L := by
  have lt := nmp_lt h
  rw [NLE_y lt h]
  have := NLE_le (T := T) (L := L) (p := p + 1) (by omega)
  omega
theorem nameJ (X : TXC T L v) (Y : TXM T L w) (hp : pa.toInt = p) (hq : pb.toInt = p) (hl : p < L) (hd : ltr (btq T L p)) (h4 : (v.1 0 304).toInt < 1503) {t : Nat} (ht : t = (w.1 0 5).toNatClampNeg) (hc : Q_x_X9_scanName L1 L2 v pa rq u) {to : Int32} (e0 : to.toInt = NLE T L p)
    (hm : ((to.toInt - pb.toInt ≤ 16) ∧ ∃ r59, Q_m_wordOf (wA (wA w 8 t (pb + 1)) 8 t to) pb (to - pb) r59 ∧ (((lg_cmp (vp_updL w.2 t r59.toInt64 t) 0).toInt < 0 ∧ r' = 2 ∧ u' = wL (wA (wA w 8 t (pb + 1)) 8 t to) t r59.toInt64) ∨ (0 ≤ (lg_cmp (vp_updL w.2 t r59.toInt64 t) 0).toInt ∧ r' = 3 ∧ u' = wL (wA (wA w 8 t (pb + 1)) 8 t to) t r59.toInt64))) ∨ (16 < to.toInt - pb.toInt ∧ r' = 1 ∧ u' = wA (wA w 8 t (pb + 1)) 8 t to)) :
    TKE L1 L2 T L v pa p rq u r' (u'.2 t) (u'.1 10 t) (u'.1 8 t) ∧ FTk w u' t := by
  obtain ⟨-, -, r3, h3, hc⟩ := hc
  have e3 := xNameLen X hp (by omega) h3
  have x4 := X.2.1
  have gt := NLE_gt (ltr_nmp hd)
  have Y2 : TXM T L (wA (wA w 8 t (pb + 1)) 8 t to) := Y.of rfl rfl
  have eto : (to - pb).toInt = ((NLE T L p - p : Nat) : Int) := by
    have : (to - pb).toInt = to.toInt - pb.toInt := sub_z rfl rfl (by omega) (by omega)
    omega
  have adn : ∀ {len : Int32}, len.toInt = ((NLE T L p - p : Nat) : Int) → (pa + len).toInt = ((NLE T L p : Nat) : Int) := by
    intro len hlen
    have := incn hp hlen (by omega)
    omega
  have fr : ∀ {y : Int64}, FTk w (wL (wA (wA w 8 t (pb + 1)) 8 t to) t y) t := (FTk.rf.w8.w8).wl
  have un : ∀ {y : Int64}, (wL (wA (wA w 8 t (pb + 1)) 8 t to) t y).1 8 t = to := updS
  rcases hm with ⟨m16, r59, h59, hm⟩ | ⟨m16, e1, e2⟩
  rotate_left
  · rcases hc with ⟨a, -⟩ | ⟨-, r31, u30, hA, -, e5, e6⟩
    · omega
    · rw [e1, e2, e6]
      exact ⟨te_bad (xBad hA h4 hp e5), FTk.rf.w8.w8⟩
  rcases hc with ⟨-, ka, hr, -, hc⟩ | ⟨a, -⟩
  rotate_left
  · omega
  obtain ⟨k, f1, f2⟩ := xKey X hp (by omega) e3 (by omega) hr
  have le9 : p + (NLE T L p - p) ≤ L := by omega
  have v59 : vp_updL w.2 t r59.toInt64 t = r59.toInt64 := updL_s
  rw [v59] at hm
  have z64 : (0 : Int64).toInt = 0 := by decide
  have sg : (lg_cmp r59.toInt64 0).toInt < 0 ↔ r59.toInt < 0 := by
    have p1 := lg_pos (a := r59.toInt64) (b := 0)
    have p2 := lg0 (a := r59.toInt64) (b := 0)
    rw [z64, Int32.toInt_toInt64] at p1
    constructor
    · intro q
      have n1 : ¬ 0 < r59.toInt := fun z => by have := p1.mpr z; omega
      have n2 : r59.toInt ≠ 0 := fun z => by
        have : r59.toInt64 = 0 := Int64.toInt_inj.mp (by rw [Int32.toInt_toInt64, z64]; exact z)
        have := p2.mpr this
        omega
      omega
    · intro q
      have n1 : ¬ 0 < (lg_cmp r59.toInt64 0).toInt := fun z => by have := p1.mp z; omega
      have n2 : (lg_cmp r59.toInt64 0).toInt ≠ 0 := fun z => by
        have := congrArg Int64.toInt (p2.mp z)
        rw [Int32.toInt_toInt64, z64] at this
        omega
      omega
  rcases hc with ⟨a, r12, h12, r15, u14, hA, -, e5, e6⟩ | ⟨a, r19, h19, c19, r27, u26, hA, -, e5, e6⟩
  · have k11 : 11 ≤ k := by omega
    have no : r59.toInt = -1 := by
      rcases mKey Y2 hq eto le9 h59 with ⟨z, -⟩ | ⟨m, m11, -, z, -⟩
      · exact z
      · exact absurd z (f2 m (Nat.lt_of_lt_of_le m11 k11)).2
    have A := xAdd hA h4
    rcases hm with ⟨-, e1, e2⟩ | ⟨b, -⟩
    rotate_left
    · have := sg.mpr (by omega)
      omega
    rw [e1, e2]
    refine ⟨⟨2, r12, NLE T L p, by rw [e6]; exact A.2, by rw [e5, A.1]; exact adn e3, rfl, ⟨by decide, fun q => absurd q (by decide), fun q => absurd q (by decide)⟩, fun q => q.elim (fun q => absurd q (by decide)) (fun q => absurd q (by decide)), fun q => absurd q (by decide), fun _ => ⟨?_, gt.1, gt.2⟩, fun _ => ⟨hd, rfl, r3, e3, h12⟩, by decide⟩, fr⟩
    rw [un]
    exact e0
  · have mk := xKeyY X hp (by omega) e3 (by omega) f1 (by omega) h19 c19
    have A := xAdd hA h4
    have kl : k < 11 := by omega
    have e59 : r59 = ka := by
      rcases mKey Y2 hq eto le9 h59 with ⟨-, z⟩ | ⟨m, m11, z1, z2, z3⟩
      · exact absurd mk (z k kl)
      · have : m = k := by
          by_cases g : m < k
          · exact absurd z2 (f2 m g).2
          · by_cases g2 : k < m
            · exact absurd mk (z3 k g2)
            · omega
        exact Int32.toInt_inj.mp (by omega)
    rcases hm with ⟨b, -⟩ | ⟨-, e1, e2⟩
    · have := sg.mp b
      rw [e59] at this
      omega
    rw [e1, e2]
    have v2 : ∀ {y : Int64}, (wL (wA (wA w 8 t (pb + 1)) 8 t to) t y).2 t = y := updL_s
    have kc : (10 + ka : Int32).toInt = 10 + ka.toInt := add_z (by decide) rfl (by omega) (by omega)
    refine ⟨⟨10 + ka, 0, NLE T L p, by rw [e6]; exact A.2, by rw [e5, A.1]; exact adn e3, ?_, ?_, fun q => q.elim (fun q => absurd q (by decide)) (fun q => absurd q (by decide)), fun q => absurd q (by decide), fun _ => ⟨by rw [un]; exact e0, gt.1, gt.2⟩, fun q => ?_, fun q => ?_⟩, fr⟩
    · rw [v2, e59]
      unfold kM
      rw [if_pos rfl, i64_32]
    · rw [v2, e59]
      exact ⟨by decide, fun _ => ⟨ka, KL_in f1 (by omega), rfl⟩, fun q => absurd q (by decide)⟩
    · have := congrArg Int32.toInt q
      rw [kc] at this
      have : (2 : Int32).toInt = 2 := by decide
      omega
    · have := congrArg Int32.toInt q
      rw [kc] at this
      have : (0 : Int32).toInt = 0 := by decide
      omega
theorem charJ (X : TXC T L v) (Y : TXM T L w) (hp : pa.toInt = p) (hq : pb.toInt = p) (hl : p < L) (h4 : (v.1 0 304).toInt < 1503) {t : Nat} (hc : Q_x_X9_scanCharacter L1 L2 v pa rq u) {w1 : MS} (hw1 : w1 = wA w 8 t (pb + 1)) {r21 : Int32} (h21 : Q_m_at2 w1 (pb + 1) r21)
    (hm : (r21.toInt < 32 ∧ r' = 1 ∧ u' = w1) ∨ (32 ≤ r21.toInt ∧ ((126 < r21.toInt ∧ r' = 1 ∧ u' = w1) ∨ (r21.toInt ≤ 126 ∧ ((r21.toInt = 39 ∧ r' = 1 ∧ u' = w1) ∨ (r21.toInt ≠ 39 ∧ ∃ r34, Q_m_at2 w1 (pb + 2) r34 ∧ K_m_at2 w1 (pb + 2) r34 ∧ ((r34.toInt ≠ 39 ∧ r' = 1 ∧ u' = w1) ∨ (r34.toInt = 39 ∧ (((pb.toInt + 2 < (w.1 0 4).toInt) ∧ r' = 6 ∧ u' = wL (wA w1 8 t (pb + 3)) t r21.toInt64) ∨ ((w.1 0 4).toInt ≤ pb.toInt + 2 ∧ r' = 1 ∧ u' = w1)))))))))) :
    TKE L1 L2 T L v pa p rq u r' (u'.2 t) (u'.1 10 t) (u'.1 8 t) ∧ FTk w u' t := by
  obtain ⟨-, -, r3, h3, hc⟩ := hc
  have x4 := X.2.1
  have Y1 : TXM T L w1 := by rw [hw1]; exact Y.of rfl rfl
  have f1 : FTk w w1 t := by rw [hw1]; exact FTk.rf.w8
  have e3 := xByte h3 X (inc1 hp (by omega))
  have e21 := mAt h21 Y1 (inc1 hq (by omega))
  have p2 : (pa + (2 : Int32)).toInt = ((p + 2 : Nat) : Int) := by
    have : (pa + (2 : Int32)).toInt = pa.toInt + 2 := add_z rfl (by decide) (by omega) (by omega)
    omega
  have q2 : (pb + (2 : Int32)).toInt = ((p + 2 : Nat) : Int) := by
    have : (pb + (2 : Int32)).toInt = pb.toInt + 2 := add_z rfl (by decide) (by omega) (by omega)
    omega
  have q3 : (pb + (3 : Int32)).toInt = ((p + 3 : Nat) : Int) := by
    have : (pb + (3 : Int32)).toInt = pb.toInt + 3 := add_z rfl (by decide) (by omega) (by omega)
    omega
  have p3 : (pa + (3 : Int32)).toInt = ((p + 3 : Nat) : Int) := by
    have : (pa + (3 : Int32)).toInt = pa.toInt + 3 := add_z rfl (by decide) (by omega) (by omega)
    omega
  have xl := X.1
  have yl := Y.1
  have inr : 32 ≤ r3.toInt → p + 1 < L := fun z => by
    by_cases g : p + 1 < L
    · exact g
    · rw [bt_ge (by omega)] at e3
      omega
  have same : 32 ≤ r3.toInt ∨ 32 ≤ r21.toInt → r3 = r21 ∧ p + 1 < L := fun z => by
    have lt : p + 1 < L := by
      by_cases g : p + 1 < L
      · exact g
      · rw [bt_ge (by omega)] at e3
        rw [b0_ge (by omega)] at e21
        omega
    exact ⟨Int32.toInt_inj.mp (by rw [e3, e21, bt_lt lt, b0_lt lt]), lt⟩
  have bad : (∃ r9 u8, Q_x_X9_add L1 L2 v 1 pa 0 0 r9 u8 ∧ K_x_X9_add v 1 pa 0 0 r9 u8 ∧ rq = r9 ∧ u = u8) → r' = 1 → u' = w1 → TKE L1 L2 T L v pa p rq u r' (u'.2 t) (u'.1 10 t) (u'.1 8 t) ∧ FTk w u' t := by
    rintro ⟨r9, u8, hA, -, e5, e6⟩ e1 e2
    rw [e1, e2, e6]
    exact ⟨te_bad (xBad hA h4 hp e5), f1⟩
  have t39 : ∀ {r27 r34 : Int32}, Q_x_X7_byteAt L1 L2 v (pa + 2) r27 → Q_m_at2 w1 (pb + 2) r34 → (r27.toInt = 39 ↔ r34.toInt = 39) := by
    intro r27 r34 a b
    rw [xByte a X p2, mAt b Y1 q2]
    exact (b0_47 (by decide)).symm
  rcases hc with ⟨a, hc⟩ | ⟨a, hc⟩
  · have n21 : r21.toInt < 32 := by
      by_cases g : 32 ≤ r21.toInt
      · have := (same (Or.inr g)).1
        rw [this] at a
        omega
      · omega
    rcases hm with ⟨-, e1, e2⟩ | ⟨b, -⟩
    · exact bad hc e1 e2
    · omega
  have S := same (Or.inl a)
  rw [S.1] at a hc
  rcases hm with ⟨b, -⟩ | ⟨-, hm⟩
  · omega
  rcases hc with ⟨c, hc⟩ | ⟨c, hc⟩
  · rcases hm with ⟨-, e1, e2⟩ | ⟨b, -⟩
    · exact bad hc e1 e2
    · omega
  rcases hm with ⟨b, -⟩ | ⟨-, hm⟩
  · omega
  rcases hc with ⟨d, hc⟩ | ⟨d, r27, h27, hc⟩
  · rcases hm with ⟨-, e1, e2⟩ | ⟨b, -⟩
    · exact bad hc e1 e2
    · exact absurd d b
  rcases hm with ⟨b, -⟩ | ⟨-, r34, h34, -, hm⟩
  · exact absurd b d
  have E := t39 h27 h34
  rcases hc with ⟨e, hc⟩ | ⟨e, r38, u37, hA, -, e5, e6⟩
  · rcases hm with ⟨-, e1, e2⟩ | ⟨b, -⟩
    · exact bad hc e1 e2
    · exact absurd (E.mpr b) e
  · have lt2 : p + 2 < L := by
      by_cases g : p + 2 < L
      · exact g
      · have := xByte h27 X p2
        rw [bt_ge (by omega)] at this
        omega
    rcases hm with ⟨b, -⟩ | ⟨-, ⟨-, e1, e2⟩ | ⟨b, -⟩⟩
    · exact absurd (E.mp e) b
    · have A := xAdd hA h4
      rw [e1, e2]
      have v2 : (wL (wA w1 8 t (pb + 3)) t r21.toInt64).2 t = r21.toInt64 := updL_s
      have un : (wL (wA w1 8 t (pb + 3)) t r21.toInt64).1 8 t = pb + 3 := updS
      rw [v2, un]
      refine ⟨⟨5, r21, p + 3, by rw [e6]; exact A.2, by rw [e5, A.1]; exact p3, rfl, ⟨by decide, fun q => absurd q (by decide), fun q => absurd q (by decide)⟩, fun _ => (i64_32 r21).symm, fun q => absurd q (by decide), fun _ => ⟨q3, by omega, by omega⟩, fun q => absurd q (by decide), by decide⟩, f1.w8.wl⟩
    · omega
theorem signJ (X : TXC T L v) (Y : TXM T L w) (hp : pa.toInt = p) (hq : pb.toInt = p) (hl : p < L) (h4 : (v.1 0 304).toInt < 1503) {t : Nat} (ht : t = (w.1 0 5).toNatClampNeg) (hc : Q_x_X9_scanSign L1 L2 v pa rq u) (hm : Q_m_sign w pb r' u') : TKE L1 L2 T L v pa p rq u r' (u'.2 t) (u'.1 10 t) (u'.1 8 t) ∧ FTk w u' t := by
  obtain ⟨-, -, kd, mo, ka, hr, -, hx, r7, u6, hA, -, e5, e6⟩ := hc
  have x4 := X.2.1
  have C := xSign X hp (by omega) hr hx
  have M := mSign Y hq hl hm
  have A := xAdd hA h4
  rcases C with ⟨c1, c2, c3⟩ | ⟨k, k41, c1, c2, c3, c4⟩
  · rcases M with ⟨m1, m2, -⟩ | ⟨i, ja, ia, i41, -, -, -, m, -⟩
    · rw [m1, m2]
      refine ⟨te_bad ⟨?_, ?_⟩, FTk.rf⟩
      · rw [e5, A.1, c2, Int32.add_zero]
        exact hp
      · rw [e6, A.2, c1]
    · exact absurd m (c3 _ (ron_41 i i41))
  · rcases M with ⟨-, -, m3⟩ | ⟨i, ja, ia, i41, m1, m2, m3, m4, m5⟩
    · exact absurd c3 (m3 k k41)
    · have ek := sgEq k41 i41 c3 c4 m4 m5
      rw [← ek] at m2 m3
      rw [← ht] at m2
      rw [m1, m2]
      have s3 := sln_3 k k41
      have v2 : ∀ {a : Int32} {y : Int64}, (wL (wA w 8 t a) t y).2 t = y := updL_s
      have un : ∀ {a : Int32} {y : Int64}, (wL (wA w 8 t a) t y).1 8 t = a := updS
      rw [v2, un]
      have SCm := pk_SC k k41
      have last : p + (sln k - 1) < L := by
        have z := c3 (sln k - 1) (by omega)
        by_cases g : p + (sln k - 1) < L
        · exact g
        · rw [bt_ge (by omega)] at z
          omega
      have k30 : 30 ≤ kd.toInt := by
        rw [c1]
        have : ∀ k, k < 41 → 30 ≤ (30 + Int32.ofNat k).toInt := by decide
        exact this k k41
      refine ⟨⟨kd, 0, p + sln k, by rw [e6]; exact A.2, by rw [e5, A.1]; exact incn hp c2 (by omega), ?_, ⟨by decide, fun q => absurd q (by decide), fun _ => ⟨_, SCm, rfl⟩⟩, fun q => q.elim (fun q => absurd q (by decide)) (fun q => absurd q (by decide)), fun q => absurd q (by decide), fun _ => ⟨m3, by omega, by omega⟩, fun q => ?_, fun q => ?_⟩, FTk.rf.w8.wl⟩
      · rw [c1]
        unfold kM
        rw [if_neg (by decide), if_neg (by decide), if_pos rfl, i64_32]
        exact (sgk_SC _ SCm).1.symm
      · rw [q] at k30
        exact absurd k30 (by decide)
      · rw [q] at k30
        exact absurd k30 (by decide)
end LX9
