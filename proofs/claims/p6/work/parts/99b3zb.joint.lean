/-! both snapshots side by side -/
section ZBT
variable {g : GC} {N : Nat} {ng lim gz tz x x' : Int} {z : ZG} {L1 L2 L3 L4 : List Nat} {K : TK} {fn : Nat → Int32} {v u w v' w' u' v2 um : MS} {c c9 : MS × List Nat × List Nat} {m m9 : MS} {q : EV} {p f i : Nat} {pa pb pc1 pd ps r r' rm fa fp : Int32} {y : Int64}
theorem rF_kp {LL : List Nat} (h : KPz v u) : rF LL u = rF LL v := funext (fun f => funext (fun j => by unfold rF; exact congrFun (h.2.2 _ (by omega)) j))
theorem EVP.kp (h : EVP g L1 K fn v w f i q) (k : KPz v v') (n : MPz w w') : EVP g L1 K fn v' w' f i q := by
  unfold EVP DTq mxA at h ⊢
  rw [k.1 381 (by decide), k.1 375 (by decide), k.2.1 378 (by decide), k.2.1 379 (by decide), k.2.1 380 (by decide), rF_kp k, n.1 74 (by decide), n.1 75 (by decide), n.2 71 (by decide), n.2 72 (by decide), n.2 86 (by decide)]
  exact h
theorem PG0.kp (h : PG0 g N ng lim L1 L2 K fn v w) (k : KPz v v') (n : MPz w w') : PG0 g N ng lim L1 L2 K fn v' w' := by
  obtain ⟨h1, h2, h3, h4, h5, h6⟩ := h
  refine ⟨fun f i ok => ?_, ?_, ?_, ?_, ?_, ?_⟩
  · obtain ⟨a, q, b⟩ := h1 f i ok
    rw [n.1 74 (by decide)]
    exact ⟨a, q, b.kp k n⟩
  · unfold FUN at h2 ⊢
    rw [k.1 381 (by decide), k.1 375 (by decide), k.2.1 378 (by decide), rF_kp k, n.1 74 (by decide), n.2 78 (by decide), n.2 79 (by decide), n.2 81 (by decide), n.2 82 (by decide)]
    exact h2
  · unfold NAM at h3 ⊢
    rw [rF_kp k, n.1 74 (by decide)]
    exact h3
  · unfold GLB at h4 ⊢
    rw [k.1 377 (by decide), k.1 383 (by decide), rF_kp k, n.1 75 (by decide), n.1 76 (by decide), n.2 85 (by decide), n.2 86 (by decide)]
    exact h4
  · rw [k.1 384 (by decide), n.1 77 (by decide)]
    exact h5
  · rw [k.1 381 (by decide)]
    exact h6
theorem PG0.pgf (h : PG0 g N ng lim L1 L2 K fn v w) (hN : N ≤ 4096) (gf : GIF v w) (h57 : (v.1 0 357).toInt = 4 * (N : Int)) (h67 : v.1 0 367 = w.1 0 114) : PGF g N ng lim L1 L2 K fn v w := by
  obtain ⟨h1, h2, h3, h4, ⟨h5, h5', h5''⟩, h6⟩ := h
  exact ⟨h1, h2, h3, h4, gf, ⟨hN, h5''⟩, ⟨h57, h5, h5', h67⟩, h6⟩
/-- the two snapshots: no program, or one; worked by neither or by both alike -/
def GJ0 (N : Nat) (d : DT) (c : MS × List Nat × List Nat) (m : MS) : Prop := (dnf d = 0 ∧ c.1.1 0 361 = 0 ∧ m.1 0 123 = 0) ∨ ((∃ g K fn, PG0 g N (m.1 0 76).toInt (m.1 0 77).toInt c.2.1 c.2.2 K fn c.1 m) ∧ ((c.1.1 0 361 = 0 ∧ m.1 0 123 = 0) ∨ (c.1.1 0 361 = 1 ∧ WRES (m.1 0 76).toInt c.1 m)))
/-- the same words in both -/
def WJz (N : Nat) (c : MS × List Nat × List Nat) (m : MS) : Prop := c.1.1 0 383 = m.1 0 73 ∧ (m.1 0 73).toInt ≤ (N : Int) ∧ ∀ p : Nat, (p : Int) < (m.1 0 73).toInt → c.1.1 382 p = m.1 70 p
def GJz (N : Nat) (d : DT) (c : MS × List Nat × List Nat) (m : MS) : Prop := GJ0 N d c m ∧ WJz N c m
theorem WJz.bg (hN1 : 256 ≤ N) (hN : N ≤ 4096) (h : ∃ (x8 : MS) (p8 r8 : Int32), RD c.2.1 c.2.2 ∧ (x8.1 0 381).toInt = 0 ∧ (x8.1 0 377).toInt = 0 ∧ (x8.1 0 335).toInt = 4 * N ∧ Q_x_X0_assemble c.2.1 c.2.2 N x8 p8 r8 c.1) (k : ∃ x8 y8 : MS, Q_m_walk0 x8 N y8 ∧ Q_m_accept y8 m) : WJz N c m := by
  obtain ⟨x8, p8, r8, rd, h1, h2, h3, h4⟩ := h
  obtain ⟨x9, y9, k1, k2⟩ := k
  obtain ⟨a1, a2, a3⟩ := asm0 rd hN hN1 h1 h2 h3 h4
  obtain ⟨b1, b2, b3⟩ := walk0W k1 k2
  have z2 : (2 : Int32).toInt = 2 := by decide
  refine ⟨by rw [a1, b1], by rw [b1, z2]; omega, fun p hp => ?_⟩
  rw [b1, z2] at hp
  by_cases q : p = 0
  · rw [q, a2, b2]
  · rw [show p = 1 by omega, a3, b3]
theorem WJz.kp (h : WJz N c m) (k : KPz c.1 c9.1) (n : MPz m m9) : WJz N c9 m9 := by
  unfold WJz
  rw [k.1 383 (by decide), k.2.1 382 (by decide), n.1 73 (by decide), n.2 70 (by decide)]
  exact h
/-! load -/
def ZLC (N : Nat) (tz : Int) (z : ZG) (r : Int32) (K : ZG → Prop) : Prop := ∃ (L1 L2 : List Nat) (v u : MS) (ps : Int32), RD L1 L2 ∧ (0 ≤ (v.1 0 391).toInt ∧ (v.1 0 391).toInt ≤ 4000) ∧ (v.1 0 391).toInt = tz ∧ v.1 299 = z.tb ∧ (∀ p, 0 ≤ (z.tb p).toInt) ∧ (v.1 0 335).toInt = 4 * N ∧ Q_x_X11_load L1 L2 N v ps r u ∧ DG z.dt ∧ ∀ m : MS, DG (ldC z tz L1 L2 u r m).dt → K (ldC z tz L1 L2 u r m)
def ZLM (N : Nat) (tz : Int) (z : ZG) (r : Int32) (M : ZG → Prop) : Prop := ∃ (w u : MS), (w.1 0 2).toInt = tz ∧ (∀ p : Nat, (p : Int) < tz → w.1 1 p = z.tb p) ∧ Q_m_load w N r u ∧ (BG u ∧ BF u) ∧ ∀ c : MS × List Nat × List Nat, DG (ldM z tz u r c).dt → (r.toInt = 0 → ∀ p, p < tz.toNat → u.1 90 p = z.tb p) → M (ldM z tz u r c)
theorem load361 (hr : r.toInt = 0) (hc : Q_x_X11_load L1 L2 N v ps r u) : u.1 0 361 = 0 := by
  obtain ⟨u2, h2, k2, hc⟩ := hc
  rcases hc with ⟨u9, h9, c1, -, e1, e5⟩ | ⟨u5, h5, k5, c1, r21, u20, h20, k20, hc⟩
  · rw [e1] at hr
    exact absurd hr c1
  · rcases hc with ⟨z, -, u30, f30, k30, e1, e5⟩ | ⟨-, e1, -⟩
    · have e30 : u30 = wA (wA (wA u20 0 392 (u20.1 0 393)) 0 393 (u20.1 0 392)) 0 361 0 := f30
      rw [e5, e30]
      rfl
    · rw [e1] at hr
      exact absurd hr (by decide)
theorem acc123 (h : Q_m_accept v u) : u.1 0 123 = 0 := by
  obtain ⟨-, -, -, -, -, ka, w42, hr0, f0, b0, c0, kb, w70, hr1, f1, b1, c1, kc, w110, hr2, f2, b2, c2, kd, w222, hr3, f3, b3, c3, ke, w308, hr4, f4, b4, c4, rfl⟩ := h
  rfl
theorem loadZ {K M : ZG → Prop} (hN : N ≤ 4096) (hJ : GJz N z.dt z.cs z.ms) (hc : ZLC N tz z r K) (hm : ZLM N tz z r' M) : r = r' ∧ ∃ z2, K z2 ∧ M z2 ∧ GJz N z2.dt z2.cs z2.ms := by
  obtain ⟨L1, L2, v, u, ps, rd, h0, h1, h2, h3, h4, hq, hg, hK⟩ := hc
  obtain ⟨w, u', k1, k2, kq, ⟨bg, bf⟩, hM⟩ := hm
  have T : ∀ p, p < tz.toNat → v.1 299 p = z.tb p ∧ w.1 1 p = z.tb p ∧ 0 ≤ (z.tb p).toInt := fun p hp => ⟨congrFun h2 p, k2 p (by omega), h3 p⟩
  obtain ⟨er, e91, e92, -, hS⟩ := loadJ (T := z.tb) (L := tz.toNat) rd hN (by omega) (by omega) (by omega) T h4 hq kq
  subst er
  have D : (if r.toInt = 0 then dC L1 L2 z.tb tz.toNat u else z.dt) = (if r.toInt = 0 then dM z.tb tz.toNat u' else z.dt) ∧ DG (if r.toInt = 0 then dM z.tb tz.toNat u' else z.dt) ∧ (r.toInt = 0 → ∀ p, p < tz.toNat → u'.1 90 p = z.tb p) := by
    by_cases q : r.toInt = 0
    · rw [if_pos q, if_pos q]
      have E := dEq (hS q) (by omega) (fun p _ => h3 p)
      exact ⟨E.1, E.2.1, fun _ => E.2.2⟩
    · rw [if_neg q, if_neg q]
      exact ⟨rfl, hg, fun z => absurd z q⟩
  have ez : ldM z tz u' r (if r.toInt = 0 then (u, L1, L2) else z.cs) = ldC z tz L1 L2 u r (if r.toInt = 0 then u' else z.ms) := by
    unfold ldC ldM
    rw [D.1, e91, e92]
  have g : DG (ldM z tz u' r (if r.toInt = 0 then (u, L1, L2) else z.cs)).dt := D.2.1
  refine ⟨rfl, _, hK (if r.toInt = 0 then u' else z.ms) (by rw [← ez]; exact g), by rw [← ez]; exact hM _ g D.2.2, ?_⟩
  show GJz N (if r.toInt = 0 then dC L1 L2 z.tb tz.toNat u else z.dt) (if r.toInt = 0 then (u, L1, L2) else z.cs) (if r.toInt = 0 then u' else z.ms)
  by_cases q : r.toInt = 0
  · rw [if_pos q, if_pos q, if_pos q]
    obtain ⟨g, K9, fn, P⟩ := loadP (T := z.tb) (L := tz.toNat) rd hN (by omega) (by omega) (by omega) T h4 hq kq q bg bf
    obtain ⟨u20, x, e, -, ha, -⟩ := hS q
    exact ⟨Or.inr ⟨⟨g, K9, fn, P⟩, Or.inl ⟨load361 q hq, acc123 ha⟩⟩, loadW (T := z.tb) (L := tz.toNat) rd hN (by omega) (by omega) (by omega) T h4 hq kq q⟩
  · rw [if_neg q, if_neg q, if_neg q]
    exact hJ
theorem KD.ok (hr : r.toInt = 0) (h0 : 0 ≤ (v.1 0 391).toInt ∧ (v.1 0 391).toInt ≤ 4000) (h1 : (v.1 0 391).toInt = tz) (h2 : v.1 299 = z.tb) (hq : Q_x_X11_load L1 L2 N v ps r u) (g : DG (ldC z tz L1 L2 u r m).dt) : KD L1 L2 (ldC z tz L1 L2 u r m).fa (ldC z tz L1 L2 u r m).fp (ldC z tz L1 L2 u r m).dt u := by
  have X := loadT (T := z.tb) (L := tz.toNat) hr (by omega) (by omega) (fun p _ => congrFun h2 p) hq
  have e : (ldC z tz L1 L2 u r m).dt = dC L1 L2 z.tb tz.toNat u := if_pos hr
  rw [e] at g ⊢
  exact KD.ld rfl rfl X.1 X.2 g
theorem KD.no (hr : r.toInt ≠ 0) (hk : KD L1 L2 fa fp z.dt v) (e1 : v2.1 0 396 = u.1 0 396) (e2 : v2.1 0 397 = u.1 0 397) (e : ∀ k ∈ [375, 377, 373], v2.1 0 k = v.1 0 k) (e3 : v2.1 372 = v.1 372) (rs : RS0 v v2) : KD L1 L2 (ldC z tz L3 L4 u r m).fa (ldC z tz L3 L4 u r m).fp (ldC z tz L3 L4 u r m).dt v2 := by
  have ed : (ldC z tz L3 L4 u r m).dt = z.dt := if_neg hr
  rw [ed]
  obtain ⟨⟨h1, h2⟩, ⟨h3, h4⟩, h5, h6, h7, h8, h9⟩ := hk
  refine ⟨⟨e1, e2⟩, ⟨?_, ?_⟩, fun f j hf hj => ?_, fun g j hg hj => ?_, ?_, fun p hp => ?_, h9⟩
  · rw [e 375 (by decide)]; exact h3
  · rw [e 377 (by decide)]; exact h4
  · exact (congrFun (rs _ (Nat.le_add_right _ _)) j).trans (h5 f j hf hj)
  · exact (congrFun (rs _ (Nat.le_add_right _ _)) j).trans (h6 g j hg hj)
  · rw [e 373 (by decide)]; exact h7
  · exact (congrFun e3 p).trans (h8 p hp)
theorem MD.go (hk : MD fa fp z.dt w) (hq : Q_m_load w N r u) (g : DG (ldM z tz u r c).dt) (ht : r.toInt = 0 → ∀ p, p < tz.toNat → u.1 90 p = z.tb p) : MD (ldM z tz u r c).fa (ldM z tz u r c).fp (ldM z tz u r c).dt u := by
  by_cases hr : r.toInt = 0
  · have e : (ldM z tz u r c).dt = dM z.tb tz.toNat u := if_pos hr
    rw [e] at g ⊢
    exact MD.ld rfl rfl (ht hr) g
  · have e : (ldM z tz u r c).dt = z.dt := if_neg hr
    rw [e]
    obtain ⟨TB, TF⟩ := mNo hr hq
    obtain ⟨-, h3⟩ := hk
    refine ⟨⟨rfl, rfl⟩, ?_⟩
    rw [TF 73 (by decide), TF 74 (by decide), TF 75 (by decide), TB 78 (by decide), TB 79 (by decide), TB 80 (by decide), TB 83 (by decide), TB 84 (by decide), TB 85 (by decide), TB 86 (by decide), TB 87 (by decide), TB 88 (by decide), TB 89 (by decide), TB 90 (by decide)]
    exact h3
theorem KEz.ok (h : KEz N gz z L1 L2 v) (hr : r.toInt = 0) (e : u.1 0 357 = v.1 0 357) (e2 : u.1 343 = v.1 343) : KEz N gz (ldC z tz L3 L4 u r m) L3 L4 u := by
  have ec : (ldC z tz L3 L4 u r m).cs = (u, L3, L4) := if_pos hr
  refine ⟨by rw [ec]; exact KAz.rf, by rw [e]; exact h.2.1, fun j hj => by rw [e2]; exact h.2.2 j hj⟩
theorem KEz.no (h : KEz N gz z L1 L2 v) (hr : r.toInt ≠ 0) (e1 : ∀ k ∈ [375, 377, 381, 383, 384], v2.1 0 k = v.1 0 k) (e2 : ∀ k ∈ [357, 362, 363, 368, 369, 370, 371], v2.1 0 k = v.1 0 k) (e3 : v2.1 0 361 = v.1 0 361) (a1 : ∀ a ∈ [378, 379, 380, 382], v2.1 a = v.1 a) (a2 : ∀ a ∈ [343, 359, 360], v2.1 a = v.1 a) (rs : RS0 v v2) : KEz N gz (ldC z tz L3 L4 u r m) L1 L2 v2 := by
  have ec : (ldC z tz L3 L4 u r m).cs = z.cs := if_neg hr
  obtain ⟨⟨h1, h2, h3, h4⟩, h5, h6⟩ := h
  refine ⟨?_, by rw [e2 357 (by decide)]; exact h5, fun j hj => by rw [a2 343 (by decide)]; exact h6 j hj⟩
  rw [ec]
  refine ⟨h1, h2.tr ⟨e1, a1, rs⟩, fun k hk => ?_, fun a ha => (a2 a (by revert a; decide)).trans (h4 a ha)⟩
  by_cases q : k = 361
  · rw [q, e3]
    exact h3 361 (by decide)
  · exact (e2 k (by revert k; decide)).trans (h3 k hk)
/-- the reference, if the load is refused -/
theorem mNo2 (hr : r.toInt ≠ 0) (hm : Q_m_load w N r u) : (∀ a ∈ [70, 71, 72, 78, 79, 81, 82, 85, 86, 117, 118], u.1 a = w.1 a) ∧ ∀ k ∈ [73, 74, 75, 76, 77, 113, 116, 119, 120, 121, 122, 123], u.1 0 k = w.1 0 k := by
  obtain ⟨-, ka, w20, hr0, fr, hk, cx, u11, hc, kc, h⟩ := hm
  have TB : ∀ a ∈ [70, 71, 72, 78, 79, 81, 82, 85, 86, 117, 118], u11.1 a = w.1 a := fun a ha => (kc.2.2 a (by revert a; decide)).trans ((show (wA (wA w20 0 91 0) 0 92 (-1)).1 a = w20.1 a by
    have : a ≠ 0 := by revert a; decide
    show (if a = 0 then _ else if a = 0 then _ else w20.1 a) = w20.1 a
    rw [if_neg this, if_neg this]).trans ((fr.2.2 a (by revert a; decide)).trans (by
    have : a ≠ 0 := by revert a; decide
    show (if a = 0 then _ else if a = 0 then _ else if a = 0 then _ else w.1 a) = w.1 a
    rw [if_neg this, if_neg this, if_neg this])))
  have TF : ∀ k ∈ [73, 74, 75, 76, 77, 113, 116, 119, 120, 121, 122, 123], u11.1 0 k = w.1 0 k := fun k hk => (kc.2.1 k (by revert k; decide)).trans ((show (wA (wA w20 0 91 0) 0 92 (-1)).1 0 k = w20.1 0 k from (pk_un (by revert k; decide)).trans (pk_un (by revert k; decide))).trans ((fr.2.1 k (fun q => nomatch q)).trans ((pk_un (by revert k; decide)).trans ((pk_un (by revert k; decide)).trans (pk_un (by revert k; decide))))))
  have f91 : u11.1 0 91 = 0 := (kc.2.1 91 (by decide)).trans rfl
  rcases h with ⟨x, hw, kx, e1, e2⟩ | ⟨x, hw, kw, u37, ha, kA, e1, e2⟩
  · refine ⟨fun a ha => ?_, fun k hk => ?_⟩
    · rw [e2]
      refine Eq.trans ?_ ((kx.2.2 a (by revert a; decide)).trans (TB a ha))
      have : a ≠ 0 := by revert a; decide
      show (if a = 0 then _ else if a = 0 then _ else x.1 a) = x.1 a
      rw [if_neg this, if_neg this]
    · rw [e2]
      exact ((pk_un (by revert k; decide)).trans (pk_un (by revert k; decide))).trans ((kx.2.1 k (by revert k; decide)).trans (TF k hk))
  · have x91 : x.1 0 91 = 0 := (kw.2.1 91 (by decide)).trans f91
    have u91 : u37.1 0 91 = 0 := (kA.1.2.1 91 (by decide)).trans x91
    rw [e1, u91] at hr
    exact absurd (by decide) hr
theorem MEz.go (h : MEz gz z w) (hm : Q_m_load w N r u) (e : u.1 93 = w.1 93) : MEz gz (ldM z tz u r c) u := by
  refine ⟨?_, fun j hj => by rw [e]; exact h.2 j hj⟩
  by_cases hr : r.toInt = 0
  · have em : (ldM z tz u r c).ms = u := if_pos hr
    rw [em]
    exact MAz.rf
  · have em : (ldM z tz u r c).ms = z.ms := if_neg hr
    rw [em]
    obtain ⟨TB, TF⟩ := mNo2 hr hm
    obtain ⟨⟨h2, h3, h4⟩, -⟩ := h
    exact ⟨h2.tr ⟨fun k hk => TF k (by revert k; decide), fun a ha => TB a (by revert a; decide)⟩, fun k hk => (TF k (by revert k; decide)).trans (h3 k hk), fun a ha => (TB a (by revert a; decide)).trans (h4 a ha)⟩
end ZBT
