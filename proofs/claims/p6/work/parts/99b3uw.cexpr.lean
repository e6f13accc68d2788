/-! the class's deeds: a whole expression -/
section UWE
variable {L1 L2 : List Nat} {P : Int32 × Int32 × Int32} {s v u w w1 x z : MS} {a b c : List EV} {e : PE} {pa pb pc1 pd r m : Int32} {k : Int32} {R : RE1} {o : RO1} {E : EvE} {O : EvO} {X : Option (List EV × Int32)} {kn : List Int32}
/-- one round: signs that bind as strongly are done, a sign is begun, its right side is read -/
theorem eRound (hO : XO L2 o O) (hKo : XKo o) (h0 : 0 ≤ (v.1 0 326).toInt) (tp : TPE v) (h40 : (v.1 0 306).toInt ≤ 40) {l1 : List FQ} {f1 : Nat} (S1 : SLQ L2 e P O X v l1 f1 b w1) (h61 : (w1.1 0 306).toInt = (v.1 0 306).toInt) {r71 r74 r109 : Int32} {u76 u86 u92 u108 : MS} (hk : Q_x_X9_kind L1 L2 w1 r71) (hs : Q_x_X9_strength r71 r74) (hp : 0 < r74.toInt) (hf : Q_x_X2_finishSigns L1 L2 w1 (v.1 0 326) r74 u76) (kf : K_x_X2_finishSigns w1 (v.1 0 326) r74 u76) (hb1 : Q_x_X2_beginSign L1 L2 u76 r71 false u86) (kb1 : K_x_X2_beginSign u76 r71 u86) (ht1 : Q_x_X9_take L1 L2 u86 false u92) (kt1 : K_x_X9_take u86 u92) (ho1 : o u92 0 false r109 u108) (ko1 : K_x_X2_operand u92 0 r109 u108) (cu : (u108.1 0 321).toInt ≤ 500) :
    ∃ l f b2, SLQ L2 e P O X v l f b2 u108 ∧ (w1.1 0 305).toInt + 2 ≤ (u108.1 0 305).toInt := by
  have ek : r71 = e.1 (w1.1 0 305) := kdC hk S1.1.1
  have es := stg_s hs
  obtain ⟨l2, f2, b2, S2, q5, hl⟩ := eFinS h0 S1 hf (fun k hk => Or.inl (by rw [← ek, ← es]; omega))
  have B2 := S2.1.2.1
  have F2 := S2.2.2.2.2.2.2.1
  have wf2 := S2.2.2.2.2.2.1
  have a5 := B2.2.1
  obtain ⟨f0, hf0⟩ : ∃ f0, f2 = f0 + 1 := ⟨f2 - 1, by omega⟩
  subst hf0
  have hl2 : lvQ l2 ≤ (stg r71).toInt := by
    rw [← es]
    rcases hl with hl | hl
    · rw [hl]; show (1 : Int) ≤ _; omega
    · exact hl
  have s10 := stg_10 r71
  obtain ⟨q, q1, q2, q3, C, Jz, Bz, knz, z12, z5, z14, zk, hX⟩ := eBeg (k := r71) h0 S2 tp h40 (by rw [q5]; exact ek) ⟨by rw [← es]; exact hp, s10.2, hl2⟩ hb1 kb1 ht1 kt1 F2
  have len := CHq.len (q :: l2) _ C
  have tz : TPO u92 := by
    unfold TPO
    unfold TPE at tp
    have e6 : u92.1 0 306 = w1.1 0 306 := (kt1.1.2.1 306 (by decide)).trans ((kb1.1.2.1 306 (by decide)).trans (kf.1.2.1 306 (by decide)))
    have n1 := len.1
    have n2 : ((q :: l2).length : Int) + 1 ≤ (stg q.1).toInt + 1 := len.2
    rw [q1] at n2
    rw [e6, h61]
    omega
  obtain ⟨a, hOa, ⟨J8, A8, B8, kn8, e814, e812⟩, D8⟩ := hO u92 u108 0 r109 e P ho1 ko1 Jz Bz tz cu
  have KT8 := hKo u92 0 r109 u108 ho1
  have at8 : (u92.1 0 305).toInt + 1 ≤ (u108.1 0 305).toInt := ko1.2.2.2.2.2.2.2.1
  have atz : (u92.1 0 305).toInt = (u76.1 0 305).toInt + 1 := by rw [kt1.2.2.1, kb1.1.2.1 305 (by decide)]
  have z26 : 0 ≤ (u92.1 0 326).toInt := by have := len.1; omega
  have d0 : decide ((0 : Int32).toInt ≠ 0) = false := by decide
  rw [d0, knz, z14, z5] at hOa
  refine ⟨q :: l2, f0, a, ⟨⟨J8, B8, kn8.trans knz, e812.trans z12⟩, ?_, ?_, ?_, ?_, ?_, ?_, ?_, ?_⟩, ?_⟩
  · show EA P (tQ q) u108 a
    rw [q3]
    exact A8
  · show u108.1 0 314 = (tQ q).1 0 314
    rw [q3]
    exact e814
  · show LBe (tQ q) ∧ (tQ q).1 0 312 = v.1 0 312
    rw [q3]
    exact ⟨Bz, z12⟩
  · rw [KT8.1]
    exact CHq.cg h0 (q :: l2) _ (fun j hj => KT8.2 j hj) C
  · intro y hy
    rcases List.mem_cons.mp hy with rfl | hy
    · rw [q2]
      omega
    · have := wf2 y hy
      omega
  · omega
  · rw [hX, hOa, e814, z14]
    rfl
  · intro j hj
    have y := KT8.2 j (by have := len.1; omega)
    have y' := zk j hj
    exact ⟨y.1.trans y'.1, y.2.trans y'.2⟩
  · rw [← q5]
    omega
theorem eExpr (hE : XE L2 R E) (hM : XM R) (hK : XK R) (hO : XO L2 o O) (hMo : XMo o) (hKo : XKo o) (h : Q_x_X2_expression L1 L2 R o v pa false u) (J : JC L2 e v) (B : LBe v) (tp : TPE v) (cu : (u.1 0 321).toInt ≤ 500) : ∃ a, gExpr E O (decide (pa.toInt ≠ 0)) e (knC v) (v.1 0 314) (v.1 0 305) = some (a, u.1 0 305) ∧ JC L2 e u ∧ EA P v u a ∧ u.1 0 314 = v.1 0 314 := by
  obtain ⟨z4, z5, z6, z12, z21, z26, z73, z81, zd, zl, h⟩ := h
  have h0 : 0 ≤ (v.1 0 326).toInt := z26.1
  have tpo : TPO v := by unfold TPO; unfold TPE at tp; omega
  rcases h with ⟨u9, -, q, -⟩ | ⟨r3, u2, h1, k1, h⟩
  · cases q
  rcases h with ⟨q3, ka, w, hr, -, i5, -, -, i26, -, hka, -, -, -, -, h6, h⟩ | ⟨q3, -, eu⟩
  · have main : ∀ {y : MS} {l : List FQ} {f : Nat} {b a0 : List EV}, O (decide (pa.toInt ≠ 0)) e (knC v) (v.1 0 314) (v.1 0 305) = some (decide (r3.toInt ≠ 0), a0, u2.1 0 305) → SLQ L2 e P O (gJ O 1502 1 e (knC v) (v.1 0 314) a0 (u2.1 0 305)) v l f b y → (y.1 0 306).toInt = (v.1 0 306).toInt → (stg (e.1 (y.1 0 305))).toInt ≤ 0 → ∀ {y2 : MS} {r51 : Int32}, Q_x_X2_finishSigns L1 L2 y (v.1 0 326) 0 y2 → K_x_X2_finishSigns y (v.1 0 326) 0 y2 → Q_x_X9_kind L1 L2 y2 r51 → ((r51.toInt ≠ 38 ∧ u = y2) ∨ (r51.toInt = 38 ∧ Q_x_X2_choice L1 L2 R y2 false u)) → ∃ a, gExpr E O (decide (pa.toInt ≠ 0)) e (knC v) (v.1 0 314) (v.1 0 305) = some (a, u.1 0 305) ∧ JC L2 e u ∧ EA P v u a ∧ u.1 0 314 = v.1 0 314 := by
      intro y l f b a0 hOa S g6 gs y2 r51 hf kf hk2 hc
      obtain ⟨l2, f2, b2, S2, q5, hl⟩ := eFinS h0 S hf (fun k _ => Or.inr gs)
      have len := CHq.len l2 _ S2.2.2.2.2.1
      have l0 : l2 = [] := by
        rcases hl with hl | hl
        · exact hl
        · have t0 : (0 : Int32).toInt = 0 := by decide
          have := len.2
          omega
      subst l0
      obtain ⟨⟨J2, B2, kn2, e12⟩, A2, e14, -, C2, -, F2, X2, -⟩ := S2
      have e14 : y2.1 0 314 = v.1 0 314 := e14
      have C2 : (y2.1 0 326).toInt = (v.1 0 326).toInt := C2
      have A2 : EA P v y2 b2 := A2
      have X3 : gJ O 1502 1 e (knC v) (v.1 0 314) a0 (u2.1 0 305) = some (b2, y2.1 0 305) := by
        rw [X2]
        show gJ O f2 1 e (knC v) (y2.1 0 314) b2 (y2.1 0 305) = _
        have a5 := B2.2.1
        exact gJ_stop (Or.inr (by rw [q5]; exact gs)) (by omega)
      have ge : gExpr E O (decide (pa.toInt ≠ 0)) e (knC v) (v.1 0 314) (v.1 0 305) = gQuest E e (knC v) (v.1 0 314) b2 (y2.1 0 305) := by
        unfold gExpr
        rw [hOa, Option.bind_some]
        show (if decide (r3.toInt ≠ 0) = true then _ else (gJ O 1502 1 e (knC v) (v.1 0 314) a0 (u2.1 0 305)).bind _) = _
        rw [decide_eq_false (fun y => y q3), if_neg (by decide), X3, Option.bind_some]
      have ek : r51 = e.1 (y2.1 0 305) := kdC hk2 J2
      rw [ge]
      unfold gQuest
      rw [← ek]
      rcases hc with ⟨n38, eu⟩ | ⟨n38, hc⟩
      · rw [if_neg n38, eu]
        exact ⟨b2, rfl, J2, A2, e14⟩
      · rw [if_pos n38]
        have t2 : TPO y2 := by
          unfold TPO
          unfold TPE at tp
          rw [kf.1.2.1 306 (by decide)]
          omega
        obtain ⟨q1, r1, j1, j2, x1, x2, x3, ⟨J3, A3, -, -, e314, -⟩⟩ := eChoice (P := P) hE hM hK hc J2 B2 t2 cu
        rw [kn2, e14] at x1 x3
        rw [x1, Option.bind_some, x2, Option.bind_some, x3, Option.bind_some]
        refine ⟨_, rfl, J3, ?_, e314.trans e14⟩
        have T := A2.tr A3 ⟨B.2.2.2.1, B.2.2.2.2⟩
        simp only [List.append_assoc] at T ⊢
        exact T
    have inv : 2 * ka.toInt ≤ (w.1 0 305).toInt ∧ ((w.1 0 321).toInt ≤ 500 → ∃ a0 l f b, O (decide (pa.toInt ≠ 0)) e (knC v) (v.1 0 314) (v.1 0 305) = some (decide (r3.toInt ≠ 0), a0, u2.1 0 305) ∧ SLQ L2 e P O (gJ O 1502 1 e (knC v) (v.1 0 314) a0 (u2.1 0 305)) v l f b w) := by
      refine RT.ind (fun (q : Int32 × MS) => 2 * q.1.toInt ≤ (q.2.1 0 305).toInt ∧ ((q.2.1 0 321).toInt ≤ 500 → ∃ a0 l f b, O (decide (pa.toInt ≠ 0)) e (knC v) (v.1 0 314) (v.1 0 305) = some (decide (r3.toInt ≠ 0), a0, u2.1 0 305) ∧ SLQ L2 e P O (gJ O 1502 1 e (knC v) (v.1 0 314) a0 (u2.1 0 305)) v l f b q.2)) hr ⟨?_, fun c2 => ?_⟩ ?_
      · have t0 : (0 : Int32).toInt = 0 := by decide
        have := k1.2.1.1
        show 2 * (0 : Int32).toInt ≤ (u2.1 0 305).toInt
        omega
      · have c2 : (u2.1 0 321).toInt ≤ 500 := c2
        obtain ⟨a, hOa, ⟨J8, A8, B8, kn8, e814, e812⟩, D8⟩ := hO v u2 pa r3 e P h1 k1 J B tpo c2
        have KT8 := hKo v pa r3 u2 h1
        have i2 := k1.2.1.1
        refine ⟨a, [], 1502, a, hOa, ⟨⟨J8, B8, kn8, e812⟩, A8, e814, ⟨B, rfl⟩, ?_, fun y hy => absurd hy List.not_mem_nil, ?_, ?_, KT8.2⟩⟩
        · show (u2.1 0 326).toInt = (v.1 0 326).toInt
          rw [KT8.1]
        · show 1500 - (u2.1 0 305).toInt < 1502
          omega
        · show _ = gJ O 1502 1 e (knC v) (u2.1 0 314) a (u2.1 0 305)
          rw [e814]
      · rintro ⟨k9, w1⟩ y - ⟨g2, I1⟩ hy
        obtain ⟨-, i5, -, -, -, -, hk9, -, -, -, -, h61, lt, r38, hk1, r41, hs1, -, hp, r71, hk2, r74, hs2, -, u76, hf, kf, u86, hb1, kb1, u92, ht1, kt1, r109, u108, ho1, ko1, rfl⟩ := hy
        have g2 : 2 * k9.toInt ≤ (w1.1 0 305).toInt := g2
        have lt : k9.toInt < 1500 := lt
        have hk9 : 0 ≤ k9.toInt ∧ k9.toInt ≤ 1500 := hk9
        have h61 : (w1.1 0 306).toInt = (v.1 0 306).toInt := by
          have q : (w1.1 0 306).toInt = (v.1 0 306).toInt + 0 := h61
          omega
        have at8 : (u92.1 0 305).toInt + 1 ≤ (u108.1 0 305).toInt := ko1.2.2.2.2.2.2.2.1
        have atz : (u92.1 0 305).toInt = (w1.1 0 305).toInt + 1 := by
          rw [kt1.2.2.1, kb1.1.2.1 305 (by decide), kf.1.2.1 305 (by decide)]
        refine ⟨?_, fun c8 => ?_⟩
        · show 2 * (k9 + (1 : Int32)).toInt ≤ (u108.1 0 305).toInt
          have ke : (k9 + (1 : Int32)).toInt = k9.toInt + 1 := add_z rfl (by decide) (by omega) (by omega)
          omega
        · have c8 : (u108.1 0 321).toInt ≤ 500 := c8
          have m8 := hMo u92 0 r109 u108 ho1
          have e21 : u92.1 0 321 = w1.1 0 321 := (kt1.1.2.1 321 (by decide)).trans ((kb1.1.2.1 321 (by decide)).trans (kf.1.2.1 321 (by decide)))
          obtain ⟨a0, l1, f1, b1, hOa, S1⟩ := I1 (by show (w1.1 0 321).toInt ≤ 500; rw [← e21]; omega)
          have S1 : SLQ L2 e P O (gJ O 1502 1 e (knC v) (v.1 0 314) a0 (u2.1 0 305)) v l1 f1 b1 w1 := S1
          have hp2 : 0 < r74.toInt := by
            rw [stg_s hs2, (kdC hk2 S1.1.1).trans (kdC hk1 S1.1.1).symm, ← stg_s hs1]
            exact hp
          obtain ⟨l, f, b2, S8, -⟩ := eRound hO hKo h0 tp z6.2 S1 h61 hk2 hs2 hp2 hf kf hb1 kb1 ht1 kt1 ho1 ko1 c8
          exact ⟨a0, l, f, b2, hOa, S8⟩
    obtain ⟨g2, I1⟩ := inv
    have h61 : (w.1 0 306).toInt = (v.1 0 306).toInt := by omega
    rcases h with ⟨q5, -⟩ | ⟨-, r38, hk1, r41, hs1, -, h⟩
    · have t0 : (1500 : Int32).toInt = 1500 := by decide
      omega
    rcases h with ⟨hp, u45, hf, kf, r51, hk2, h⟩ | ⟨hp, r71, hk2, r74, hs2, -, u76, hf, kf, h⟩
    · have e21 : u45.1 0 321 = w.1 0 321 := kf.1.2.1 321 (by decide)
      have c4 : (w.1 0 321).toInt ≤ 500 ∧ ((r51.toInt ≠ 38 ∧ u = u45) ∨ (r51.toInt = 38 ∧ Q_x_X2_choice L1 L2 R u45 false u)) := by
        rw [← e21]
        rcases h with ⟨n38, -, eu⟩ | ⟨n38, ⟨u9, -, q, -⟩ | ⟨u66, hc, -, -, eu⟩⟩
        · exact ⟨by rw [← eu]; exact cu, Or.inl ⟨n38, eu⟩⟩
        · cases q
        · rw [← eu] at hc
          exact ⟨Int.le_trans (mChoiceM hM hc) cu, Or.inr ⟨n38, hc⟩⟩
      obtain ⟨a0, l, f, b, hOa, S⟩ := I1 c4.1
      exact main hOa S h61 (by rw [← kdC hk1 S.1.1, ← stg_s hs1]; exact hp) hf kf hk2 c4.2
    · rcases h with ⟨u9, -, q, -⟩ | ⟨u86, hb1, kb1, ⟨u9, -, q, -⟩ | ⟨u92, ht1, kt1, u9, -, q, -⟩⟩ <;> cases q
  · subst eu
    obtain ⟨a, hOa, ⟨J8, A8, -, -, e814, -⟩, -⟩ := hO v u pa r3 e P h1 k1 J B tpo cu
    refine ⟨a, ?_, J8, A8, e814⟩
    unfold gExpr
    rw [hOa, Option.bind_some]
    show (if decide (r3.toInt ≠ 0) = true then some (a, u.1 0 305) else _) = _
    rw [decide_eq_true q3, if_pos rfl]
end UWE
