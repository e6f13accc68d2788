/-! texts: both lexers give one stream of tokens -/
theorem RTn.head {α : Type} {R : α → α → Prop} : ∀ (k : Nat) {a b : α}, RTn R (k + 1) a b → ∃ c, R a c ∧ RTn R k c b
  | 0, a, b, h => by
    obtain ⟨c, hc, hr⟩ := h
    have hc : a = c := hc
    rw [← hc] at hr
    exact ⟨b, hr, rfl⟩
  | k + 1, a, b, h => by
    obtain ⟨c, hc, hr⟩ := h
    obtain ⟨d, h1, h2⟩ := RTn.head k hc
    exact ⟨d, h1, c, h2, hr⟩
section LXD
variable {L1 L2 : List Nat} {T : Nat → Int32} {L p q n : Nat} {v u w V u' : MS} {pa pb pc1 r rq r' dig unt pl kx : Int32} {val : Int64}
def REL (T : Nat → Int32) (L n : Nat) (s d : Int32 × Int32 × MS) : Prop := RLX T L n s.2.2 d.2.2 ∧ s.2.1.toInt = n ∧ (∃ p : Nat, p ≤ L ∧ s.1.toInt = p ∧ d.1.toInt = p) ∧ d.2.1.toInt ≠ 0 ∧ ∀ j, j < n → 2 ≤ (s.2.2.1 301 j).toInt
theorem REL.step {s d d' : Int32 × Int32 × MS} {r7 r11 : Int32} {u10 : MS} (R : REL T L n s d) (hV : (V.1 0 4).toInt = L) (n3 : n < 1503) (hb : Q_x_X9_behindBlanks L1 L2 s.2.2 s.1 r7) (ho : Q_x_X9_scanOne L1 L2 s.2.2 r7 r11 u10) (hm : Q_m_cut_L0 V d d') : RLX T L (n + 1) u10 d'.2.2 ∧ ((u10.1 301 n).toInt ≤ 1 → d'.2.1.toInt = 0) ∧ (2 ≤ (u10.1 301 n).toInt → d'.2.1.toInt = 1 ∧ ∃ q, q ≤ L ∧ r11.toInt = (q : Nat) ∧ d'.1.toInt = (q : Nat)) ∧ 0 ≤ (u10.1 301 n).toInt := by
  obtain ⟨R1, R2, ⟨p, p1, p2, p3⟩, R4, -⟩ := R
  obtain ⟨-, -, -, -, ka, bl, hc, -, hbl, hm⟩ := hm
  exact rndJ R1 hV n3 p2 p3 p1 hb ho hc hbl hm
/-- the class keeps its earlier tokens -/
theorem xKeep {s1 d1 r7 r11 : Int32} {u10 : MS} {j : Nat} (R : RLX T L n v w) (hp : ∃ p : Nat, p ≤ L ∧ s1.toInt = p ∧ d1.toInt = p) (n3 : n < 1503) (h7 : Q_x_X9_behindBlanks L1 L2 v s1 r7) (h10 : Q_x_X9_scanOne L1 L2 v r7 r11 u10) (g : j ≠ n) : u10.1 301 j = v.1 301 j := by
  obtain ⟨-, -, r3, h3, ho⟩ := h10
  have h304 := R.2.2.2.2.1
  have P := R.1
  obtain ⟨p, p1, p2, p3⟩ := hp
  have sk := xSkip P p2 p1 h7
  have keep : ∀ {k pa x len r : Int32} {y : MS}, Q_x_X9_add L1 L2 v k pa x len r y → y.1 301 j = v.1 301 j := by
    intro k pa x len r y hA
    rw [(xAdd hA (by omega)).2]
    exact (tok_ol h304 g).1
  rcases ho with ⟨-, r8, -, -, ⟨-, r13, -, -, ⟨-, ⟨-, r20, u19, hs, -, -, rfl⟩ | ⟨-, r24, u23, hs, -, -, rfl⟩⟩ | ⟨-, r28, u27, hs, -, -, rfl⟩⟩ | ⟨-, r32, u31, hs, -, -, rfl⟩⟩ | ⟨-, r36, u35, hA, -, -, rfl⟩
  · obtain ⟨-, -, kd, mo, ka, -, -, -, r7, u6, hA, -, -, rfl⟩ := hs
    exact keep hA
  · obtain ⟨-, -, r3, -, hs⟩ := hs
    rcases hs with ⟨-, _, _, hA, -, -, rfl⟩ | ⟨-, ⟨-, _, _, hA, -, -, rfl⟩ | ⟨-, ⟨-, _, _, hA, -, -, rfl⟩ | ⟨-, r27, -, ⟨-, _, _, hA, -, -, rfl⟩ | ⟨-, _, _, hA, -, -, rfl⟩⟩⟩⟩ <;> exact keep hA
  · rcases xNum P sk.1 sk.2.2 (by omega) hs with ⟨-, k, -, -, -, ⟨-, -, e9⟩ | ⟨-, -, -, e9⟩⟩ | ⟨-, k, -, -, -, ⟨-, -, e9⟩ | ⟨-, -, -, e9⟩⟩ <;> (rw [e9]; exact (tok_ol h304 g).1)
  · obtain ⟨-, -, r3, -, hs⟩ := hs
    rcases hs with ⟨-, ka, -, -, ⟨-, r12, -, _, _, hA, -, -, rfl⟩ | ⟨-, r19, -, -, _, _, hA, -, -, rfl⟩⟩ | ⟨-, _, _, hA, -, -, rfl⟩ <;> exact keep hA
  · exact keep hA
theorem runJ {s0 sN t0 tM : Int32 × Int32 × MS} (hV : (V.1 0 4).toInt = L) (h0 : REL T L 0 s0 t0) (hend : tM.2.1.toInt = 0) {m : Nat} (hm : RTn (Q_m_cut_L0 V) m t0 tM) : ∀ (n : Nat) (s : Int32 × Int32 × MS), RTn (Q_x_X9_scan_L0 L1 L2 v) n s0 s → ∃ d k, REL T L n s d ∧ RTn (Q_m_cut_L0 V) k d tM := by
  intro n
  induction n with
  | zero =>
    intro s hs
    have hs : s0 = s := hs
    rw [← hs]
    exact ⟨t0, m, h0, hm⟩
  | succ n ih =>
    intro s hs
    obtain ⟨c, hc, hr⟩ := hs
    obtain ⟨d, k, R, hk⟩ := ih c hc
    obtain ⟨-, -, -, -, -, -, -, c3, r7, h7, r11, u10, h10, -, z0, z1, rfl⟩ := hr
    obtain ⟨k0, rfl⟩ : ∃ k0, k = k0 + 1 := by
      cases k with
      | zero =>
        have hk : d = tM := hk
        rw [hk] at R
        exact absurd hend R.2.2.2.1
      | succ k => exact ⟨k, rfl⟩
    obtain ⟨d', s1, s2⟩ := RTn.head k0 hk
    have cn := R.2.1
    have n3 : n < 1503 := by omega
    have S := R.step hV n3 h7 h10 s1
    have nx : c.2.1.toNatClampNeg = n := by have := natI (a := c.2.1) (by omega); omega
    rw [nx] at z0 z1
    have ge2 : 2 ≤ (u10.1 301 n).toInt := by have := S.2.2.2; omega
    obtain ⟨m1, q, q1, q2, q3⟩ := S.2.2.1 ge2
    refine ⟨d', k0, ⟨S.1, ?_, ⟨q, q1, q2, q3⟩, by rw [m1]; decide, fun j hj => ?_⟩, s2⟩
    · show (c.2.1 + (1 : Int32)).toInt = _
      have : (c.2.1 + (1 : Int32)).toInt = c.2.1.toInt + 1 := add_z rfl (by decide) (by omega) (by omega)
      omega
    · by_cases g : j = n
      · rw [g]; exact ge2
      · show 2 ≤ (u10.1 301 j).toInt
        have o := R.2.2.2.2 j (by omega)
        have kp := xKeep R.1 R.2.2.1 (by omega) h7 h10 g
        rw [kp]
        exact o
/-- tokens that stand are kept -/
theorem stab {d tM : Int32 × Int32 × MS} : ∀ (k : Nat), RTn (Q_m_cut_L0 V) k d tM → ∀ n : Nat, (n : Int) ≤ (d.2.2.1 0 5).toInt → (n : Int) ≤ (tM.2.2.1 0 5).toInt ∧ tM.2.2.1 3 = d.2.2.1 3 ∧ tM.2.2.1 0 4 = d.2.2.1 0 4 ∧ ∀ j, j < n → tM.2.2.1 6 j = d.2.2.1 6 j ∧ tM.2.2.1 7 j = d.2.2.1 7 j ∧ tM.2.2.1 8 j = d.2.2.1 8 j ∧ tM.2.2.1 10 j = d.2.2.1 10 j ∧ tM.2.2.2 j = d.2.2.2 j := by
  intro k
  induction k generalizing tM with
  | zero =>
    intro h n hn
    have h : d = tM := h
    rw [← h]
    exact ⟨hn, rfl, rfl, fun _ _ => ⟨rfl, rfl, rfl, rfl, rfl⟩⟩
  | succ k ih =>
    intro h n hn
    obtain ⟨c, hc, hr⟩ := h
    obtain ⟨i1, i3, i4, i2⟩ := ih hc n hn
    obtain ⟨-, b5, -, -, ka, bl, -, -, -, hm⟩ := hr
    have n5 := natI (a := c.2.2.1 0 5) (by omega)
    have e1 : (c.2.2.1 0 5 + 1).toInt = (c.2.2.1 0 5).toInt + 1 := add_z rfl (by decide) (by omega) (by omega)
    rcases hm with ⟨-, r', u10, hm, -, hy⟩ | ⟨-, -, rfl⟩
    · have F := tokFr hm
      have yy : tM.2.2 = wA (wA u10 6 (c.2.2.1 0 5).toNatClampNeg r') 0 5 (u10.1 0 5 + 1) := by
        rcases hy with ⟨-, rfl⟩ | ⟨-, rfl⟩ <;> rfl
      have f0 : u10.1 0 = c.2.2.1 0 := F.1
      rw [yy]
      refine ⟨?_, F.2.1.trans i3, ?_, fun j hj => ?_⟩
      · show (n : Int) ≤ (u10.1 0 5 + 1).toInt
        rw [f0]
        omega
      · show u10.1 0 4 = _
        rw [f0]
        exact i4
      · have I := i2 j hj
        have jn : j ≠ (c.2.2.1 0 5).toNatClampNeg := by omega
        have Fj := F.2.2.2.2 j jn
        refine ⟨?_, ?_, Fj.1.trans I.2.2.1, Fj.2.1.trans I.2.2.2.1, Fj.2.2.trans I.2.2.2.2⟩
        · show upd (u10.1 6) _ r' j = _
          rw [updN_ jn, F.2.2.1]
          exact I.1
        · show u10.1 7 j = _
          rw [F.2.2.2.1]
          show upd (c.2.2.1 7) _ ka j = _
          rw [updN_ jn]
          exact I.2.1
    · refine ⟨?_, i3, i4, fun j hj => ?_⟩
      · show (n : Int) ≤ (c.2.2.1 0 5 + 1).toInt
        omega
      · have I := i2 j hj
        have jn : j ≠ (c.2.2.1 0 5).toNatClampNeg := by omega
        refine ⟨?_, ?_, I.2.2.1, I.2.2.2.1, I.2.2.2.2⟩
        · show upd (c.2.2.1 6) _ 0 j = _
          rw [updN_ jn]
          exact I.1
        · show upd (c.2.2.1 7) _ ka j = _
          rw [updN_ jn]
          exact I.2.1
/-- what both leave -/
def LEX (T : Nat → Int32) (L n : Nat) (v w : MS) : Prop := TXC T L v ∧ TXM T L w ∧ (∀ j, j < n → TAj T L v w j) ∧ NVE T L n v ∧ (v.1 0 304).toInt = n ∧ 1 ≤ n ∧ n ≤ 1503 ∧ (∀ j, j + 1 < n → 2 ≤ (v.1 301 j).toInt) ∧ (n < 1503 → (v.1 301 (n - 1)).toInt ≤ 1)
set_option maxHeartbeats 1600000 in
theorem lexJ {ps : Int32} (X : TXC T L v) (Y : TXM T L w) (hc : Q_x_X9_scan L1 L2 v ps u) (hm : Q_m_cut w u') : ∃ n, LEX T L n u u' := by
  obtain ⟨-, pl, ka, w39, hr, -, -, -, -, kb, -, -, hc⟩ := hc
  obtain ⟨-, kx, mo, w9, hr2, -, -, -, hmo, rfl⟩ := hm
  obtain ⟨n, hn⟩ := hr
  obtain ⟨m, hm⟩ := hr2
  have h0 : REL T L 0 (0, 0, (wA (wA (wA (wA (wA (wA (wA v 0 300 ps) 0 304 0) 0 305 0) 0 306 0) 0 307 (-1)) 0 308 0) 0 309 (-1))) (0, 1, wA w 0 5 0) := by
    refine ⟨⟨⟨X.1, X.2.1, X.2.2.1, X.2.2.2⟩, Y.of rfl rfl, fun j hj => by omega, ⟨fun j hj => by omega, fun i j hi => by omega⟩, by show (0 : Int32).toInt = _; decide, by show (0 : Int32).toInt = _; decide⟩, by show (0 : Int32).toInt = _; decide, ⟨0, by omega, by show (0 : Int32).toInt = _; decide, by show (0 : Int32).toInt = _; decide⟩, by show (1 : Int32).toInt ≠ 0; decide, fun j hj => by omega⟩
  obtain ⟨d, k, R, hk⟩ := runJ (L1 := L1) (L2 := L2) (v := v) (sN := (pl, ka, w39)) Y.1 h0 hmo hm n _ hn
  have kn : ka.toInt = n := R.2.1
  rcases hc with ⟨a, rfl⟩ | ⟨a, r7, h7, r11, u10, h10, -, hc⟩
  · have n3 : n = 1503 := by omega
    have S := stab k hk n (by have := R.1.2.2.2.2.2; omega)
    refine ⟨n, R.1.1, R.1.2.1.of S.2.1 S.2.2.1, fun j hj => ?_, R.1.2.2.2.1, R.1.2.2.2.2.1, by omega, by omega, fun j hj => R.2.2.2.2 j (by omega), fun z => by omega⟩
    have A := R.1.2.2.1 j hj
    have Sj := S.2.2.2 j hj
    unfold TAj at A ⊢
    have s6 : u'.1 6 j = d.2.2.1 6 j := Sj.1
    have s7 : u'.1 7 j = d.2.2.1 7 j := Sj.2.1
    have s8 : u'.1 8 j = d.2.2.1 8 j := Sj.2.2.1
    have s10 : u'.1 10 j = d.2.2.1 10 j := Sj.2.2.2.1
    have s2 : u'.2 j = d.2.2.2 j := Sj.2.2.2.2
    rw [s6, s7, s8, s10, s2]
    exact A
  · obtain ⟨k0, rfl⟩ : ∃ k0, k = k0 + 1 := by
      cases k with
      | zero =>
        have hk : d = (kx, mo, u') := hk
        rw [hk] at R
        exact absurd hmo R.2.2.2.1
      | succ k => exact ⟨k, rfl⟩
    obtain ⟨d', s1, s2⟩ := RTn.head k0 hk
    have S := R.step Y.1 (by omega) h7 h10 s1
    have nx : ka.toNatClampNeg = n := by have := natI (a := ka) (by omega); omega
    rw [nx] at hc
    have le1 : (u10.1 301 n).toInt ≤ 1 ∧ u = u10 := by
      rcases hc with ⟨z, e⟩ | ⟨-, z, e⟩
      · exact ⟨by omega, e⟩
      · exact ⟨by omega, e⟩
    have z0 := S.2.1 le1.1
    have ed : d' = (kx, mo, u') := by
      cases k0 with
      | zero => exact s2
      | succ k0 =>
        obtain ⟨d2, q1, -⟩ := RTn.head k0 s2
        exact absurd z0 q1.2.2.2.1
    rw [ed] at S
    rw [le1.2]
    obtain ⟨A1, A2, A3, A4, A5, A6⟩ := S.1
    refine ⟨n + 1, A1, A2, A3, A4, A5, by omega, by omega, fun j hj => ?_, fun _ => le1.1⟩
    have o := R.2.2.2.2 j (by omega)
    rw [xKeep R.1 R.2.2.1 (by omega) h7 h10 (show j ≠ n by omega)]
    exact o
end LXD
