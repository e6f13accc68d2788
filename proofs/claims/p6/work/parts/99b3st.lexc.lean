/-! texts: a round of both lexers, joined -/
section LXC
variable {L1 L2 : List Nat} {T : Nat → Int32} {L p q n : Nat} {v u w V u' : MS} {pa pb pc1 r rq r' dig unt pl kx : Int32} {val : Int64}
theorem plc_ol {k x : Int32} {j : Nat} (h : (v.1 0 304).toInt = n) (hj : j ≠ n) : plc (tokAdd v k pa x) j = plc v j := by
  unfold plc
  rw [(tok_ol h hj).2.1]
theorem plc_at {k x : Int32} (h : (v.1 0 304).toInt = n) (hq : pa.toInt = q) : plc (tokAdd v k pa x) n = q := by
  unfold plc
  rw [(tok_at h).2.1]
  have := natI (a := pa) (by omega)
  omega
theorem nvStep (X : TXC T L v) (h4 : (v.1 0 304).toInt = n) (NV : NVE T L n v) (pls : ∀ j, j < n → v.1 301 j = 2 → 0 ≤ (v.1 302 j).toInt ∧ plc v j < L) (hq : pa.toInt = q) {kc xc : Int32} (hn : kc = 2 → q < L ∧ ltr (btq T L q) ∧ ∃ r3 : Int32, r3.toInt = ((NLE T L q - q : Nat) : Int) ∧ Q_x_X9_firstAlike L1 L2 v pa r3 xc) : NVE T L (n + 1) (tokAdd v kc pa xc) := by
  have at9 := tok_at (k := kc) (x := xc) (pa := pa) h4
  have ol := fun j (hj : j ≠ n) => tok_ol (k := kc) (x := xc) (pa := pa) h4 hj
  have pn : plc (tokAdd v kc pa xc) n = q := plc_at h4 hq
  have po := fun j (hj : j ≠ n) => plc_ol (k := kc) (x := xc) (pa := pa) h4 hj
  have old : ∀ j, j < n → NVj T L (tokAdd v kc pa xc) j := by
    intro j hj h2
    rw [(ol j (by omega)).1] at h2
    obtain ⟨x, x1, x2, x3, x4, x5⟩ := NV.1 j hj h2
    exact ⟨x, x1, by rw [(ol j (by omega)).2.2]; exact x2, by rw [(ol x (by omega)).1]; exact x3, by rw [(ol x (by omega)).2.2]; exact x4, by rw [po x (by omega), po j (by omega)]; exact x5⟩
  by_cases e2 : kc = 2
  · obtain ⟨ql, lq, r3, h3, hf⟩ := hn e2
    have F := xFirst X h4 hq ql lq h3 pls hf
    have key : ∀ j, j < n → v.1 301 j = 2 → (NEQ T L (plc v j) q ↔ v.1 303 j = xc) := by
      intro j hj h2
      obtain ⟨x, x1, x2, x3, x4, x5⟩ := NV.1 j hj h2
      rcases F with ⟨f1, f2⟩ | ⟨k, k1, k2, k3, k4, k5⟩
      · constructor
        · intro z
          exact absurd (x5.tr z) (f2 x (by omega) x3 x4)
        · intro z
          have := congrArg Int32.toInt z
          omega
      · have e := NV.2 j k hj k1 h2 k3
        have ek : v.1 303 k = xc := Int32.toInt_inj.mp (by omega)
        rw [ek] at e
        constructor
        · intro z
          exact e.mp (z.tr k5.sy)
        · intro z
          exact (e.mpr z).tr k5
    refine ⟨fun j hj => ?_, fun i j hi hj h1 h2 => ?_⟩
    · by_cases g : j = n
      · intro _
        rw [g]
        rcases F with ⟨f1, f2⟩ | ⟨k, k1, k2, k3, k4, k5⟩
        · exact ⟨n, Nat.le_refl _, by rw [at9.2.2]; exact f1, by rw [at9.1]; exact e2, by rw [at9.2.2]; exact f1, ⟨rfl, fun _ _ => rfl⟩⟩
        · exact ⟨k, by omega, by rw [at9.2.2]; exact k2, by rw [(ol k (by omega)).1]; exact k3, by rw [(ol k (by omega)).2.2]; exact k4, by rw [po k (by omega), pn]; exact k5⟩
      · exact old j (by omega)
    · by_cases gi : i = n
      · by_cases gj : j = n
        · rw [gi, gj]
          exact ⟨fun _ => rfl, fun _ => ⟨rfl, fun _ _ => rfl⟩⟩
        · rw [(ol j gj).1] at h2
          rw [gi, pn, po j gj, at9.2.2, (ol j gj).2.2]
          have K := key j (by omega) h2
          exact ⟨fun z => (K.mp z.sy).symm, fun z => (K.mpr z.symm).sy⟩
      · rw [(ol i gi).1] at h1
        by_cases gj : j = n
        · rw [gj, pn, po i gi, at9.2.2, (ol i gi).2.2]
          exact key i (by omega) h1
        · rw [(ol j gj).1] at h2
          rw [po i gi, po j gj, (ol i gi).2.2, (ol j gj).2.2]
          exact NV.2 i j (by omega) (by omega) h1 h2
  · refine ⟨fun j hj => ?_, fun i j hi hj h1 h2 => ?_⟩
    · by_cases g : j = n
      · intro h2
        rw [g, at9.1] at h2
        exact absurd h2 e2
      · exact old j (by omega)
    · have gi : i ≠ n := fun g => by
        rw [g, at9.1] at h1
        exact e2 h1
      have gj : j ≠ n := fun g => by
        rw [g, at9.1] at h2
        exact e2 h2
      rw [(ol i gi).1] at h1
      rw [(ol j gj).1] at h2
      rw [po i gi, po j gj, (ol i gi).2.2, (ol j gj).2.2]
      exact NV.2 i j (by omega) (by omega) h1 h2
/-- what holds between rounds -/
def RLX (T : Nat → Int32) (L n : Nat) (v w : MS) : Prop := TXC T L v ∧ TXM T L w ∧ (∀ j, j < n → TAj T L v w j) ∧ NVE T L n v ∧ (v.1 0 304).toInt = n ∧ (w.1 0 5).toInt = n
set_option maxHeartbeats 1600000 in
theorem rndJ (R : RLX T L n v w) (hV : (V.1 0 4).toInt = L) (n3 : n < 1503) (hp : pl.toInt = p) (hk : kx.toInt = p) (hl : p ≤ L) {r7 r11 ka bl : Int32} (hb : Q_x_X9_behindBlanks L1 L2 v pl r7) (ho : Q_x_X9_scanOne L1 L2 v r7 r11 u) (hc : RT (Q_m_cut_L1 V kx w) (kx, 1) (ka, bl)) (hbl : bl.toInt = 0) {yq : Int32 × Int32 × MS}
    (hm : ((ka.toInt < (w.1 0 4).toInt) ∧ ∃ r' u10, Q_m_token (wA w 7 (w.1 0 5).toNatClampNeg ka) ka r' u10 ∧ K_m_token (wA w 7 (w.1 0 5).toNatClampNeg ka) ka r' u10 ∧ ((((upd (u10.1 6) (w.1 0 5).toNatClampNeg r') (u10.1 0 5).toNatClampNeg).toInt ≤ 1 ∧ yq = (u10.1 8 (u10.1 0 5).toNatClampNeg, 0, wA (wA u10 6 (w.1 0 5).toNatClampNeg r') 0 5 (u10.1 0 5 + 1))) ∨ (1 < ((upd (u10.1 6) (w.1 0 5).toNatClampNeg r') (u10.1 0 5).toNatClampNeg).toInt ∧ yq = (u10.1 8 (u10.1 0 5).toNatClampNeg, 1, wA (wA u10 6 (w.1 0 5).toNatClampNeg r') 0 5 (u10.1 0 5 + 1))))) ∨ ((w.1 0 4).toInt ≤ ka.toInt ∧ ((upd (w.1 6) (w.1 0 5).toNatClampNeg 0) (w.1 0 5).toNatClampNeg).toInt ≤ 1 ∧ yq = (w.1 8 (w.1 0 5).toNatClampNeg, 0, wA (wA (wA w 7 (w.1 0 5).toNatClampNeg ka) 6 (w.1 0 5).toNatClampNeg 0) 0 5 (w.1 0 5 + 1)))) :
    RLX T L (n + 1) u yq.2.2 ∧ ((u.1 301 n).toInt ≤ 1 → yq.2.1.toInt = 0) ∧ (2 ≤ (u.1 301 n).toInt → yq.2.1.toInt = 1 ∧ ∃ q, q ≤ L ∧ r11.toInt = (q : Nat) ∧ yq.1.toInt = (q : Nat)) ∧ (0 ≤ (u.1 301 n).toInt) := by
  obtain ⟨X, Y, A, NV, h304, h5⟩ := R
  have x4 := X.2.1
  have S := xSkip X hp hl hb
  have sm := mSkip Y hV hk hl hc hbl
  have e7 : r7 = ka := Int32.toInt_inj.mp (by rw [S.1, sm])
  have t5 : (w.1 0 5).toNatClampNeg = n := by have := natI (a := w.1 0 5) (by omega); omega
  have pls : ∀ j, j < n → v.1 301 j = 2 → 0 ≤ (v.1 302 j).toInt ∧ plc v j < L := fun j hj h2 => ⟨((A j hj).2.2.2.2.2.1 h2).1, ((A j hj).2.2.2.2.2.1 h2).2.1⟩
  rw [t5, Y.1] at hm
  have n304 : ∀ {k x : Int32}, ((tokAdd v k r7 x).1 0 304).toInt = ((n + 1 : Nat) : Int) := by
    intro k x
    show (v.1 0 304 + 1).toInt = _
    have : (v.1 0 304 + 1).toInt = (v.1 0 304).toInt + 1 := add_z rfl (by decide) (by omega) (by omega)
    omega
  have in5 : ∀ {y : MS}, y.1 0 = w.1 0 → (y.1 0 5 + 1).toInt = ((n + 1 : Nat) : Int) := by
    intro y hy
    rw [hy]
    have : (w.1 0 5 + 1).toInt = (w.1 0 5).toInt + 1 := add_z rfl (by decide) (by omega) (by omega)
    omega
  have oldT : ∀ {k x : Int32} {z : MS}, (∀ i, i ≠ n → z.1 6 i = w.1 6 i ∧ z.1 7 i = w.1 7 i ∧ z.1 8 i = w.1 8 i ∧ z.1 10 i = w.1 10 i ∧ z.2 i = w.2 i) → ∀ j, j < n → TAj T L (tokAdd v k r7 x) z j := by
    intro k x z hz j hj
    have Z := hz j (by omega)
    have O := tok_ol (k := k) (x := x) (pa := r7) h304 (j := j) (by omega)
    have P := plc_ol (k := k) (x := x) (pa := r7) h304 (j := j) (by omega)
    unfold TAj
    rw [Z.1, Z.2.1, Z.2.2.1, Z.2.2.2.1, Z.2.2.2.2, O.1, O.2.1, O.2.2, P]
    exact A j hj
  rcases hm with ⟨c, r', u10, hm, -, hy⟩ | ⟨c, -, rfl⟩
  · have sl : SKP T L false p < L := by omega
    have W7 : TXM T L (wA w 7 n ka) := Y.of rfl rfl
    have J := tokJ (L1 := L1) (L2 := L2) X W7 S.1 sm sl (by omega) ho hm
    have t5' : ((wA w 7 n ka).1 0 5).toNatClampNeg = n := t5
    rw [t5'] at J
    obtain ⟨⟨kc, xc, q, j1, j2, j3, j4, j5, j6, j7, j8, j9⟩, F⟩ := J
    have u0 : u10.1 0 = w.1 0 := F.1
    have e5 : (u10.1 0 5).toNatClampNeg = n := by rw [u0]; exact t5
    rw [e5, updS] at hy
    have at9 := tok_at (k := kc) (x := xc) (pa := r7) h304
    have yy : yq.2.2 = wA (wA u10 6 n r') 0 5 (u10.1 0 5 + 1) := by
      rcases hy with ⟨-, rfl⟩ | ⟨-, rfl⟩ <;> rfl
    have y1 : yq.1 = u10.1 8 n := by
      rcases hy with ⟨-, rfl⟩ | ⟨-, rfl⟩ <;> rfl
    have z6 : ∀ i, (wA (wA u10 6 n r') 0 5 (u10.1 0 5 + 1)).1 6 i = if i = n then r' else w.1 6 i := by
      intro i
      show upd (u10.1 6) n r' i = _
      by_cases g : i = n
      · rw [g, updS, if_pos rfl]
      · rw [updN_ g, if_neg g, F.2.2.1]
        rfl
    have z7 : ∀ i, (wA (wA u10 6 n r') 0 5 (u10.1 0 5 + 1)).1 7 i = if i = n then ka else w.1 7 i := by
      intro i
      show u10.1 7 i = _
      rw [F.2.2.2.1]
      show upd (w.1 7) n ka i = _
      by_cases g : i = n
      · rw [g, updS, if_pos rfl]
      · rw [updN_ g, if_neg g]
    have TAn : TAj T L (tokAdd v kc r7 xc) (wA (wA u10 6 n r') 0 5 (u10.1 0 5 + 1)) n := by
      unfold TAj
      rw [z6, if_pos rfl, z7, if_pos rfl, at9.1, at9.2.1, at9.2.2, plc_at h304 S.1]
      refine ⟨j3, e7, j5, j4, j6, fun h2 => ?_, fun h2 => absurd h2 j9⟩
      obtain ⟨k1, k2, -⟩ := j8 h2
      have k7 := j7 (by rw [h2]; decide)
      exact ⟨by rw [S.1]; omega, sl, k1, by rw [← k2]; exact k7.1⟩
    have RL : RLX T L (n + 1) u yq.2.2 := by
      rw [yy, j1]
      refine ⟨X.tok, ⟨?_, Y.2.1, ?_, Y.2.2.2⟩, fun j hj => ?_, ?_, n304, in5 u0⟩
      · show (u10.1 0 4).toInt = L
        rw [u0]
        exact Y.1
      · show ∀ p, p < L → u10.1 3 p = T p
        rw [F.2.1]
        exact Y.2.2.1
      · by_cases g : j = n
        · rw [g]; exact TAn
        · refine oldT (fun i hi => ?_) j (by omega)
          have Fi := F.2.2.2.2 i hi
          exact ⟨by rw [z6, if_neg hi], by rw [z7, if_neg hi], Fi.1, Fi.2.1, Fi.2.2⟩
      · refine nvStep (L1 := L1) (L2 := L2) X h304 NV pls S.1 (fun h2 => ?_)
        obtain ⟨k1, k2, r3, k3, k4⟩ := j8 h2
        exact ⟨sl, k1, r3, by rw [k3, k2], k4⟩
    have u9 : u.1 301 n = kc := by rw [j1]; exact at9.1
    have K1 := kM_1 (d := u10.1 10 n) j4
    rw [← j3] at K1
    rw [u9]
    refine ⟨RL, fun z => ?_, fun z => ?_, ?_⟩
    · have := K1.mp z
      rcases hy with ⟨-, rfl⟩ | ⟨d, -⟩
      · rfl
      · omega
    · have k7 := j7 z
      rcases hy with ⟨d, -⟩ | ⟨-, rfl⟩
      · have := K1.mpr d
        omega
      · refine ⟨rfl, q, k7.2.2, j2, ?_⟩
        rw [y1]
        exact k7.1
    · by_cases g : kc.toInt ≤ 1
      · have q1 := K1.mp g
        have mem := j4.1
        simp only [List.mem_cons, List.not_mem_nil, or_false] at mem
        rcases mem with rfl | rfl | rfl | rfl | rfl | rfl | rfl
        · rw [j3]; show 0 ≤ (0 : Int32).toInt; decide
        · rw [j3]; show 0 ≤ (1 : Int32).toInt; decide
        · exact absurd q1 (by decide)
        · exact absurd q1 (by decide)
        · exact absurd q1 (by decide)
        · exact absurd q1 (by decide)
        · exact absurd q1 (by decide)
      · omega
  · have sl : SKP T L false p = L := by omega
    obtain ⟨-, -, r3, h3, ho⟩ := ho
    have e3 := xByte h3 X S.1
    rw [sl, bt_ge (Nat.le_refl _)] at e3
    rcases ho with ⟨z, -⟩ | ⟨-, r36, u35, hA, -, e5, e6⟩
    · exact absurd e3 z
    have A9 := xAdd hA (by omega)
    have at9 := tok_at (k := 0) (x := 0) (pa := r7) h304
    have u9 : u = tokAdd v 0 r7 0 := by rw [e6]; exact A9.2
    have z6 : ∀ i, (wA (wA (wA w 7 n ka) 6 n 0) 0 5 (w.1 0 5 + 1)).1 6 i = if i = n then 0 else w.1 6 i := by
      intro i
      show upd (w.1 6) n 0 i = _
      by_cases g : i = n
      · rw [g, updS, if_pos rfl]
      · rw [updN_ g, if_neg g]
    have z7 : ∀ i, (wA (wA (wA w 7 n ka) 6 n 0) 0 5 (w.1 0 5 + 1)).1 7 i = if i = n then ka else w.1 7 i := by
      intro i
      show upd (w.1 7) n ka i = _
      by_cases g : i = n
      · rw [g, updS, if_pos rfl]
      · rw [updN_ g, if_neg g]
    have u3 : u.1 301 n = 0 := by rw [u9]; exact at9.1
    rw [u3]
    refine ⟨?_, fun _ => rfl, fun z => absurd z (by decide), by decide⟩
    rw [u9]
    refine ⟨X.tok, Y.of rfl rfl, fun j hj => ?_, ?_, n304, in5 rfl⟩
    · by_cases g : j = n
      · rw [g]
        unfold TAj
        rw [z6, if_pos rfl, z7, if_pos rfl, at9.1, at9.2.1]
        exact ⟨rfl, e7, fun q => q.elim (fun q => absurd q (by decide)) (fun q => absurd q (by decide)), ⟨by decide, fun q => absurd q (by decide), fun q => absurd q (by decide)⟩, fun q => absurd q (by decide), fun q => absurd q (by decide), fun _ => by rw [S.1, sl]⟩
      · refine oldT (fun i hi => ?_) j (by omega)
        exact ⟨by rw [z6, if_neg hi], by rw [z7, if_neg hi], rfl, rfl, rfl⟩
    · exact nvStep (L1 := L1) (L2 := L2) X h304 NV pls S.1 (fun h2 => absurd h2 (by decide))
end LXC
