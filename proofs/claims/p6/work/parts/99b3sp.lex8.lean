/-! texts: a token in both -/
section LX8
variable {L1 L2 : List Nat} {T : Nat → Int32} {L p q n : Nat} {v u w u' : MS} {pa pb pc1 r rq r' dig unt : Int32} {val : Int64}
/-- what the reference's token leaves alone -/
def FTk (w u : MS) (t : Nat) : Prop := u.1 0 = w.1 0 ∧ u.1 3 = w.1 3 ∧ u.1 6 = w.1 6 ∧ u.1 7 = w.1 7 ∧ (∀ i, i ≠ t → u.1 8 i = w.1 8 i ∧ u.1 10 i = w.1 10 i ∧ u.2 i = w.2 i)
theorem updL_s {f : Nat → Int64} {i : Nat} {x : Int64} : vp_updL f i x i = x := if_pos rfl
theorem updL_n {f : Nat → Int64} {i j : Nat} {x : Int64} (h : j ≠ i) : vp_updL f i x j = f j := if_neg h
theorem FTk.rf {t : Nat} : FTk w w t := ⟨rfl, rfl, rfl, rfl, fun _ _ => ⟨rfl, rfl, rfl⟩⟩
theorem FTk.w8 {t : Nat} {y : Int32} (h : FTk w u t) : FTk w (wA u 8 t y) t := ⟨h.1, h.2.1, h.2.2.1, h.2.2.2.1, fun i hi => ⟨(show upd (u.1 8) t y i = u.1 8 i from updN_ hi).trans (h.2.2.2.2 i hi).1, (h.2.2.2.2 i hi).2⟩⟩
theorem FTk.w10 {t : Nat} {y : Int32} (h : FTk w u t) : FTk w (wA u 10 t y) t := ⟨h.1, h.2.1, h.2.2.1, h.2.2.2.1, fun i hi => ⟨(h.2.2.2.2 i hi).1, (show upd (u.1 10) t y i = u.1 10 i from updN_ hi).trans (h.2.2.2.2 i hi).2.1, (h.2.2.2.2 i hi).2.2⟩⟩
theorem FTk.wl {t : Nat} {y : Int64} (h : FTk w u t) : FTk w (wL u t y) t := ⟨h.1, h.2.1, h.2.2.1, h.2.2.2.1, fun i hi => ⟨(h.2.2.2.2 i hi).1, (h.2.2.2.2 i hi).2.1, (updL_n hi).trans (h.2.2.2.2 i hi).2.2⟩⟩
theorem TXM.of (X : TXM T L w) (h3 : u.1 3 = w.1 3) (h4 : u.1 0 4 = w.1 0 4) : TXM T L u := ⟨by rw [h4]; exact X.1, X.2.1, by rw [h3]; exact X.2.2.1, X.2.2.2⟩
/-- numbers in the reference -/
theorem mNum (X : TXM T L w) (hp : pa.toInt = p) (hl : p < L) (h : Q_m_number w pa r u) :
    (¬ (btq T L p = 48 ∧ btq T L (p + 1) = 120) ∧ ∃ k, k ≤ 11 ∧ (∀ j, j < k → dgt (btq T L (p + j))) ∧ (k = 11 ∨ ¬ dgt (btq T L (p + k))) ∧ (((k = 11 ∨ nmp (btq T L (p + k))) ∧ r = 1 ∧ u = w) ∨ (k ≤ 10 ∧ ¬ nmp (btq T L (p + k)) ∧ r = 4 ∧ ∃ tn : Int32, tn.toInt = ((p + k : Nat) : Int) ∧ u = wA (wL (wA w 10 ((w.1 0 5).toNatClampNeg) 1) ((w.1 0 5).toNatClampNeg) (dvl T p k)) 8 ((w.1 0 5).toNatClampNeg) tn))) ∨
    ((btq T L p = 48 ∧ btq T L (p + 1) = 120) ∧ ∃ k, k ≤ 9 ∧ (∀ j, j < k → hex9 (btq T L (p + 2 + j))) ∧ (k = 9 ∨ ¬ hex9 (btq T L (p + 2 + k))) ∧ (((k = 0 ∨ k = 9 ∨ nmp (btq T L (p + 2 + k))) ∧ r = 1 ∧ u = w) ∨ (1 ≤ k ∧ k ≤ 8 ∧ ¬ nmp (btq T L (p + 2 + k)) ∧ r = 4 ∧ ∃ tn : Int32, tn.toInt = ((p + 2 + k : Nat) : Int) ∧ u = wA (wL (wA w 10 ((w.1 0 5).toNatClampNeg) 0) ((w.1 0 5).toNatClampNeg) ((hvl T (p + 2) k).toInt32).toInt64) 8 ((w.1 0 5).toNatClampNeg) tn))) := by
  obtain ⟨-, -, -, -, h⟩ := h
  have x4 := X.2.1
  have e3 := mText X hp hl
  have n0 : vp_nar .boolean (0 : Int32) = 0 := by decide
  rw [e3, nar1, n0] at h
  have dec : ∀ {tn : Int32} {lb : Int64}, RT (Q_m_number_L0 w pa) (pa, 0) (tn, lb) → (∃ r5, Q_m_at2 w tn r5 ∧ K_m_at2 w tn r5 ∧ ∃ r8, Q_m_isDigit2 r5 r8 ∧ K_m_isDigit2 r5 r8 ∧ ((r8.toInt = 0 ∧ ((10 < tn.toInt - pa.toInt ∧ r = 1 ∧ u = w) ∨ (tn.toInt - pa.toInt ≤ 10 ∧ ∃ r17, Q_m_at2 w tn r17 ∧ K_m_at2 w tn r17 ∧ ∃ r20, Q_m_isOfName2 r17 r20 ∧ K_m_isOfName2 r17 r20 ∧ ((r20.toInt = 0 ∧ r = 4 ∧ u = wA (wL (wA w 10 ((w.1 0 5).toNatClampNeg) 1) ((w.1 0 5).toNatClampNeg) lb) 8 ((w.1 0 5).toNatClampNeg) tn) ∨ (r20.toInt ≠ 0 ∧ r = 1 ∧ u = w))))) ∨ (r8.toInt ≠ 0 ∧ 11 ≤ tn.toInt - pa.toInt ∧ 10 < tn.toInt - pa.toInt ∧ r = 1 ∧ u = w))) → ∃ k, k ≤ 11 ∧ (∀ j, j < k → dgt (btq T L (p + j))) ∧ (k = 11 ∨ ¬ dgt (btq T L (p + k))) ∧ (((k = 11 ∨ nmp (btq T L (p + k))) ∧ r = 1 ∧ u = w) ∨ (k ≤ 10 ∧ ¬ nmp (btq T L (p + k)) ∧ r = 4 ∧ ∃ tn : Int32, tn.toInt = ((p + k : Nat) : Int) ∧ u = wA (wL (wA w 10 ((w.1 0 5).toNatClampNeg) 1) ((w.1 0 5).toNatClampNeg) (dvl T p k)) 8 ((w.1 0 5).toNatClampNeg) tn)) := by
    rintro tn lb hr ⟨r5, h5, -, r8, -, k8, h⟩
    obtain ⟨k, k11, f1, f3, f4⟩ := mDigs X hp (by omega) hr
    have D := mDigit k8
    rw [mAt h5 X f1, dgt_b0] at D
    rcases h with ⟨a, h⟩ | ⟨a, b, -, e1, e2⟩
    · refine ⟨k, k11, f4, Or.inr (fun q => D.mpr q a), ?_⟩
      rcases h with ⟨b, e1, e2⟩ | ⟨b, r17, h17, -, r20, -, k20, h⟩
      · exact Or.inl ⟨Or.inl (by omega), e1, e2⟩
      · have Nm := mName k20
        rw [mAt h17 X f1, nmp_b0] at Nm
        rcases h with ⟨c, e1, e2⟩ | ⟨c, e1, e2⟩
        · exact Or.inr ⟨by omega, fun q => Nm.mpr q c, e1, tn, f1, by rw [e2, f3]⟩
        · exact Or.inl ⟨Or.inr (Nm.mp c), e1, e2⟩
    · exact ⟨k, k11, f4, Or.inl (by omega), Or.inl ⟨Or.inl (by omega), e1, e2⟩⟩
  rcases h with ⟨a, tn, lb, hr, -, -, h⟩ | ⟨a, r42, h42, -, h⟩
  · exact Or.inl ⟨fun q => a q.1, dec hr h⟩
  have e42 := mAt h42 X (inc1 hp (by omega))
  have e42' : r42.toInt = 120 ↔ btq T L (p + 1) = 120 := by rw [e42]; exact b0_47 (by decide)
  rcases h with ⟨b, tn, lb, hr, -, -, h⟩ | ⟨b, tn, lb, hr, -, r84, h84, -, r87, h87, -, h⟩
  · exact Or.inl ⟨fun q => b (e42'.mpr q.2), dec hr h⟩
  · refine Or.inr ⟨⟨a, e42'.mp b⟩, ?_⟩
    obtain ⟨k, k9, f1, f3, f4⟩ := mHexs X hp (by omega) hr
    have Hx : 0 ≤ r87.toInt ↔ hex9 (btq T L (p + 2 + k)) := by
      rw [← hex9_b0, ← mAt h84 X f1, mHex h87]
      constructor
      · intro q
        by_cases z : hex9 r84.toInt
        · exact z
        · rw [hxv_n z] at q
          exact absurd q (by decide)
      · exact hxv_y
    rcases h with ⟨c, h⟩ | ⟨c, d, -, -, e1, e2⟩
    · refine ⟨k, k9, f4, Or.inr (fun q => by have := Hx.mpr q; omega), ?_⟩
      rcases h with ⟨d, e1, e2⟩ | ⟨d, ⟨e, e1, e2⟩ | ⟨e, r100, h100, -, r103, -, k103, h⟩⟩
      · exact Or.inl ⟨Or.inl (by omega), e1, e2⟩
      · exact Or.inl ⟨Or.inr (Or.inl (by omega)), e1, e2⟩
      · have Nm := mName k103
        rw [mAt h100 X f1, nmp_b0] at Nm
        rcases h with ⟨g, e1, e2⟩ | ⟨g, e1, e2⟩
        · exact Or.inr ⟨by omega, by omega, fun q => Nm.mpr q g, e1, tn, f1, by rw [e2, f3]⟩
        · exact Or.inl ⟨Or.inr (Or.inr (Nm.mp g)), e1, e2⟩
    · exact ⟨k, k9, f4, Or.inl (by omega), Or.inl ⟨Or.inr (Or.inl (by omega)), e1, e2⟩⟩
theorem dgt_nmp {c : Int} (h : dgt c) : nmp c := Or.inr h
theorem hex_nmp {c : Int} (h : hex9 c) : nmp c := by
  unfold hex9 at h
  unfold nmp ltr dgt
  omega
theorem km41 {x : Int64} : kM 4 x 1 = if (2147483647 : Int) < x.toInt then 4 else 3 := by
  unfold kM
  rw [if_neg (by decide), if_pos rfl]
  by_cases g : (2147483647 : Int) < x.toInt
  · rw [if_pos ⟨by decide, g⟩, if_pos g]
  · rw [if_neg (fun z => g z.2), if_neg g]
theorem km40 {x : Int64} : kM 4 x 0 = 3 := by
  unfold kM
  rw [if_neg (by decide), if_pos rfl, if_neg (fun z => z.1 rfl)]
/-- both read a number alike -/
theorem numJ (X : TXC T L v) (Y : TXM T L w) (hp : pa.toInt = p) (hq : pb.toInt = p) (hl : p < L) (hd : dgt (btq T L p)) (h4 : (v.1 0 304).toInt < 1503) (hc : Q_x_X9_scanNumber L1 L2 v pa rq u) (hm : Q_m_number w pb r' u') : TKE L1 L2 T L v pa p rq u r' (u'.2 (w.1 0 5).toNatClampNeg) (u'.1 10 (w.1 0 5).toNatClampNeg) (u'.1 8 (w.1 0 5).toNatClampNeg) ∧ FTk w u' (w.1 0 5).toNatClampNeg := by
  have C := xNum X hp (by omega) h4 hc
  have M := mNum Y hq hl hm
  rcases C with ⟨nx, k, k10, ck, ce, C⟩ | ⟨hx, k, k8, ck, ce, C⟩
  · rcases M with ⟨-, m, m11, mk, me, M⟩ | ⟨mx, -⟩
    rotate_left
    · exact absurd mx nx
    have k0 : k ≠ 0 := fun q => by
      rcases ce with z | z
      · omega
      · rw [q] at z
        exact z hd
    have km : (k = m ∧ m ≤ 10) ∨ (m = 11 ∧ k = 10) := by
      by_cases e11 : m = 11
      · refine Or.inr ⟨e11, ?_⟩
        rcases ce with y | y
        · exact y
        · by_cases g : k = 10
          · exact g
          · exact absurd (mk k (by omega)) y
      · have z : ¬ dgt (btq T L (p + m)) := me.elim (fun q => absurd q e11) id
        have ge : k ≤ m := by
          by_cases g : k ≤ m
          · exact g
          · exact absurd (ck m (by omega)) z
        have le : m ≤ k := by
          by_cases g : m ≤ k
          · exact g
          · rcases ce with y | y
            · omega
            · exact absurd (mk k (by omega)) y
        exact Or.inl ⟨by omega, by omega⟩
    rcases km with ⟨rfl, k10⟩ | ⟨rfl, rfl⟩
    · rcases C with ⟨ca, cb⟩ | ⟨ca, cb, cc, cd⟩
      · have nm : nmp (btq T L (p + k)) := ca.elim (fun q => absurd q k0) id
        rcases M with ⟨-, m1, m2⟩ | ⟨-, mb, -⟩
        · rw [m1, m2]
          exact ⟨te_bad cb, FTk.rf⟩
        · exact absurd nm mb
      · rcases M with ⟨ma, -⟩ | ⟨-, -, m1, tn, t1, m2⟩
        · rcases ma with z | z
          · omega
          · exact absurd z cb
        · have B := dvl_b (T := T) (L := L) (p := p) k (by omega) ck
          have lim : (10 : Int) ^ k ≤ 10 ^ 10 := by
            have : ∀ k, k < 11 → (10 : Int) ^ k ≤ 10 ^ 10 := by decide
            exact this k (by omega)
          have last := dgt_lt (ck (k - 1) (by omega))
          rw [m1, m2]
          refine ⟨⟨_, _, p + k, cd, cc, ?_, ?_, ?_, ?_, ?_, ?_, ?_⟩, ((FTk.rf.w10).wl).w8⟩
          · show _ = kM 4 (vp_updL w.2 _ (dvl T p k) _) (upd (w.1 10) _ 1 _)
            rw [updL_s, updS, km41]
          · exact ⟨by decide, fun q => absurd q (by decide), fun q => absurd q (by decide)⟩
          · intro _
            show _ = (vp_updL w.2 _ (dvl T p k) _).toInt32
            rw [updL_s]
          · intro _
            show -2147483648 ≤ (vp_updL w.2 _ (dvl T p k) _).toInt ∧ (upd (w.1 10) _ 1 _ = 0 → _)
            rw [updL_s, updS]
            exact ⟨by omega, fun q => absurd q (by decide)⟩
          · intro _
            refine ⟨(congrArg Int32.toInt (show upd (w.1 8) _ tn _ = tn from updS)).trans t1, by omega, by omega⟩
          · intro q
            split at q
            · exact absurd q (by decide)
            · exact absurd q (by decide)
          · split <;> decide
    · have nm : nmp (btq T L (p + 10)) := dgt_nmp (mk 10 (by omega))
      rcases C with ⟨-, cb⟩ | ⟨-, cb, -⟩
      · rcases M with ⟨-, m1, m2⟩ | ⟨z, -⟩
        · rw [m1, m2]
          exact ⟨te_bad cb, FTk.rf⟩
        · omega
      · exact absurd nm cb
  · rcases M with ⟨mx, -⟩ | ⟨-, m, m9, mk, me, M⟩
    · exact absurd hx mx
    have km : (k = m ∧ m ≤ 8) ∨ (m = 9 ∧ k = 8) := by
      by_cases e9 : m = 9
      · refine Or.inr ⟨e9, ?_⟩
        rcases ce with y | y
        · exact y
        · by_cases g : k = 8
          · exact g
          · exact absurd (mk k (by omega)) y
      · have z : ¬ hex9 (btq T L (p + 2 + m)) := me.elim (fun q => absurd q e9) id
        have ge : k ≤ m := by
          by_cases g : k ≤ m
          · exact g
          · exact absurd (ck m (by omega)) z
        have le : m ≤ k := by
          by_cases g : m ≤ k
          · exact g
          · rcases ce with y | y
            · omega
            · exact absurd (mk k (by omega)) y
        exact Or.inl ⟨by omega, by omega⟩
    rcases km with ⟨rfl, k8⟩ | ⟨rfl, rfl⟩
    · rcases C with ⟨ca, cb⟩ | ⟨ca, cb, cc, cd⟩
      · rcases M with ⟨-, m1, m2⟩ | ⟨ma, -, mb, -⟩
        · rw [m1, m2]
          exact ⟨te_bad cb, FTk.rf⟩
        · rcases ca with z | z
          · omega
          · exact absurd z mb
      · rcases M with ⟨ma, -⟩ | ⟨-, -, -, m1, tn, t1, m2⟩
        · rcases ma with z | z | z
          · omega
          · omega
          · exact absurd z cb
        · have last := hex9_lt (ck (k - 1) (by omega))
          rw [m1, m2]
          refine ⟨⟨3, _, p + 2 + k, cd, cc, ?_, ?_, ?_, ?_, ?_, ?_, by decide⟩, ((FTk.rf.w10).wl).w8⟩
          · show _ = kM 4 (vp_updL w.2 _ _ _) (upd (w.1 10) _ 0 _)
            rw [updL_s, updS, km40]
          · exact ⟨by decide, fun q => absurd q (by decide), fun q => absurd q (by decide)⟩
          · intro _
            show _ = (vp_updL w.2 _ _ _).toInt32
            rw [updL_s, i64_32]
          · intro _
            show -2147483648 ≤ (vp_updL w.2 _ _ _).toInt ∧ (upd (w.1 10) _ 0 _ = 0 → (vp_updL w.2 _ _ _).toInt ≤ _)
            rw [updL_s, Int32.toInt_toInt64]
            have l1 := Int32.toInt_lt (hvl T (p + 2) k).toInt32
            have l2 := Int32.le_toInt (hvl T (p + 2) k).toInt32
            exact ⟨by omega, fun _ => by omega⟩
          · intro _
            refine ⟨(congrArg Int32.toInt (show upd (w.1 8) _ tn _ = tn from updS)).trans t1, by omega, by omega⟩
          · intro q
            exact absurd q (by decide)
    · have nm : nmp (btq T L (p + 2 + 8)) := hex_nmp (mk 8 (by omega))
      rcases C with ⟨-, cb⟩ | ⟨-, cb, -⟩
      · rcases M with ⟨-, m1, m2⟩ | ⟨-, z, -⟩
        · rw [m1, m2]
          exact ⟨te_bad cb, FTk.rf⟩
        · omega
      · exact absurd nm cb
end LX8
