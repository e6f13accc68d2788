/-! the class's deeds: a call, whole -/
theorem tpK {v u : MS} (k : KT v u) (h6 : (u.1 0 306).toInt = (v.1 0 306).toInt) (h : TPE v) : TPE u := by unfold TPE at *; rw [k.1]; omega
theorem tpKo {v u : MS} (k : KT v u) (h6 : (u.1 0 306).toInt = (v.1 0 306).toInt) (h : TPO v) : TPO u := by unfold TPO at *; rw [k.1]; omega
section UKC
variable {L1 L2 : List Nat} {P : Int32 × Int32 × Int32} {v u w x z : MS} {a b : List EV} {e : PE} {pa pb pc1 pd r : Int32} {t : Bool} {E : EvE} {R : MS → Int32 → Bool → MS → Prop}
theorem a11 (x : Int32) : x + 1 + 1 = x + 2 := by rw [Int32.add_assoc]; rfl
theorem a12 (x : Int32) : x + 2 + 1 = x + 3 := by rw [Int32.add_assoc]; rfl
theorem subAdd {x y m : Int32} {n : Nat} (h : x = y + nI n) (hm : m.toInt = n) (hn : n < 2147483648) : x - m = y := by
  have : m = nI n := Int32.toInt_inj.mp (by rw [hm, nI_Z hn])
  rw [h, this]
  exact Int32.add_sub_cancel y (nI n)
set_option maxHeartbeats 1600000 in
theorem eCall (hE : XE L2 R E) (hM : XM R) (hK : XK R) (h : Q_x_X2_callFunction L1 L2 R v false u) (J : JC L2 e v) (B : LBe v) (tp : TPO v) (cu : (u.1 0 321).toInt ≤ 500) : ∃ a, gCall E e (knC v) (v.1 0 314) (v.1 0 305) = some (a, u.1 0 305) ∧ ES L2 e P v u a ∧ DS v u 1 := by
  have mono := mCallM hM h
  obtain ⟨-, -, -, -, -, -, -, -, -, -, r3, h3, r6, h6, r9, u8, h8, k8, r13, h13, h⟩ := h
  have gs := gslC (v := v) B.2.2.1
  have e3 := vlC h3 J
  have c0 := B.2.2.2.2
  obtain ⟨c, hc⟩ : ∃ c : Nat, (v.1 0 321).toInt = c := ⟨(v.1 0 321).toNatClampNeg, (natI c0).symm⟩
  have nv : (v.1 0 321).toNatClampNeg = c := natC hc
  have A8 : EA P v u8 [] ∧ r9.toInt = c ∧ (u8.1 0 321).toInt = c + 1 ∧ u8.1 318 c = r3 ∧ u8.1 320 c = 0 := by
    obtain ⟨-, h8⟩ := h8
    rcases h8 with ⟨q, -⟩ | ⟨q, er, rfl⟩
    · omega
    · have e1 := incq (x := v.1 0 321) (y := 501) (by have : (501 : Int32).toInt = 501 := (by decide); omega)
      refine ⟨⟨by rw [ldL_nil]; exact (Int.add_zero _).symm, ⟨Int.le_refl _, fun _ _ => ⟨rfl, rfl, rfl⟩, Int.le_refl _, fun _ _ => rfl, ?_, fun d hd _ => ⟨updN_ (by omega), updN_ (by omega)⟩⟩, Int.le_refl _, MTq.nil⟩, by rw [er]; exact hc, ?_, ?_, ?_⟩
      · show _ ≤ ((v.1 0 321) + (1 : Int32)).toInt
        omega
      · show ((v.1 0 321) + (1 : Int32)).toInt = _
        omega
      · show upd (v.1 318) (v.1 0 321).toNatClampNeg r3 c = r3
        rw [nv, updS]
      · show upd (v.1 320) (v.1 0 321).toNatClampNeg 0 c = 0
        rw [nv, updS]
  have u85 : u8.1 0 305 = v.1 0 305 := k8.1.2.1 305 (by decide)
  have B8 : LBe u8 := B.tr A8.1 (by rw [u85]; exact B.2.1) (k8.1.2.1 312 (by decide))
  have J8 : JC L2 e u8 := J.fr k8.1 k8.2.2 (by decide) (by decide) (by rw [u85, k8.1.2.1 307 (by decide)]; exact J.2.1)
  have e13 : r13 = gsl (knC v) (v.1 0 314) := by rw [gs, ← k8.1.2.1 312 (by decide), ← k8.1.2.1 314 (by decide)]; exact h13.2
  rcases h with ⟨u9, -, q, -⟩ | ⟨u18, h18, k18, ⟨u9, -, q, -⟩ | ⟨u25, h25, k25, r30, h30, h⟩⟩
  · cases q
  · cases q
  have T18 := ES.take (P := P) h18 k18 J8 B8
  have T25 := ES.opn (P := P) h25 k25 T18.1.1 T18.1.2.2.1
  have e25 : u25.1 0 305 = v.1 0 305 + 2 := by rw [T25.2, T18.2, u85]; exact a11 _
  have S8 := T18.1.tr T25.1 B8
  have A25 : EA P v u25 [] := EA.tr A8.1 S8.2.1 B.2.2.2
  have k25' : knC u25 = knC v := S8.2.2.2.1.trans (knC_fr k8.1)
  have u14 : u25.1 0 314 = v.1 0 314 := S8.2.2.2.2.1.trans (k8.1.2.1 314 (by decide))
  have u12 : u25.1 0 312 = v.1 0 312 := S8.2.2.2.2.2.trans (k8.1.2.1 312 (by decide))
  have c25 : (u25.1 0 321).toInt = c + 1 := by
    have := fc21 k18.1
    have := fc21 k25.1
    omega
  have q18 : u25.1 318 c = r3 := by rw [k25.1.2.2 318 (by decide), k18.1.2.2 318 (by decide)]; exact A8.2.2.2.1
  have q20 : (u25.1 320 c).toInt = 0 := by rw [k25.1.2.2 320 (by decide), k18.1.2.2 320 (by decide), A8.2.2.2.2]; decide
  have dx : DS v u25 1 := by
    have a1 := A8.1.2.2.1
    have a2 := T18.1.2.1.2.2.1
    have a3 : (u25.1 0 305).toInt = (u18.1 0 305).toInt + 1 := k25.2.2.2.2.1
    have a4 : (u25.1 0 317).toInt = (u18.1 0 317).toInt := congrArg Int32.toInt (k25.1.2.1 317 (by decide))
    unfold DS
    omega
  have tp25 : TPE u25 := tp_open k25 (tpo_fr k18.1 (by decide) (tpo_fr k8.1 (by decide) tp))
  have ek := kdC h30 T25.1.1
  unfold gCall
  rw [← e25, ← ek]
  rcases h with ⟨c31, ⟨u9, -, q, -⟩ | ⟨u35, h35, k35, u39, h39, k39, u47, h47, k47, -, e9⟩⟩ | ⟨c31, ⟨u9, -, q, -⟩ | ⟨u87, h87, k87, ar, ka, w70, hr, f70, b1, b2, b3, b4, b5, b6, b7, b8, b9, b10, b11, h⟩⟩
  · cases q
  · rw [if_pos c31, Option.bind_some]
    have S0 : AGx L2 e P c u25 u25 [] := ⟨T25.1.1, ⟨by rw [ldL_nil]; exact (Int.add_zero _).symm, EFx.rf, Int.le_refl _, MTq.nil⟩, T25.1.2.2.1, rfl, rfl, rfl⟩
    have F := eCallEnd (P := P) A8.2.1 S0 A25 B hc q18 q20 (by omega) k25' u12 h35 k35 h39 k39 h47 k47 (by rw [u14]; exact Int32.sub_zero _)
    rw [e9]
    dsimp only
    rw [F.1, Option.bind_some]
    refine ⟨_, rfl, ?_, F.2.2 dx⟩
    rw [← e3, ← e13]
    exact F.2.1
  · cases q
  · rw [if_neg c31]
    have main : (w70.1 0 321).toInt ≤ 500 → ∃ (n : Nat) (acc : List EV), ar.toInt = n ∧ ka.toInt = n ∧ AGx L2 e P c u25 w70 acc ∧ w70.1 0 314 = u25.1 0 314 + nI n ∧ (w70.1 320 c).toInt = n ∧ (1 ≤ n ∧ n ≤ 1500) ∧ TPE w70 ∧ gArgs E 1502 0 e (knC v) (v.1 0 314) (u25.1 0 305) = gRest E (1502 - n) n e (knC v) (w70.1 0 314) acc (w70.1 0 305) := by
      refine RT.ind (fun (y : Int32 × Int32 × MS) => (y.2.2.1 0 321).toInt ≤ 500 → ∃ (n : Nat) (acc : List EV), y.1.toInt = n ∧ y.2.1.toInt = n ∧ AGx L2 e P c u25 y.2.2 acc ∧ y.2.2.1 0 314 = u25.1 0 314 + nI n ∧ (y.2.2.1 320 c).toInt = n ∧ (1 ≤ n ∧ n ≤ 1500) ∧ TPE y.2.2 ∧ gArgs E 1502 0 e (knC v) (v.1 0 314) (u25.1 0 305) = gRest E (1502 - n) n e (knC v) (y.2.2.1 0 314) acc (y.2.2.1 0 305)) hr ?_ ?_
      · intro cy
        obtain ⟨a, x1, x2, x3, x4⟩ := eArg (P := P) (c := c) hE h87 T25.1.1 T25.1.2.2.1 tp25 cy A8.2.1 (by omega) (by omega) (by omega)
        refine ⟨1, _, show (1 : Int32).toInt = 1 by decide, show (1 : Int32).toInt = 1 by decide, x2, ?_, by rw [x4, q20]; rfl, ⟨by omega, by omega⟩, tpK (kArgK hK h87) k87.2.2.2.2.2.2.2.2.2.1 tp25, ?_⟩
        · exact x3
        · rw [k25', u14] at x1
          rw [gArgs_s (f := 1501) x1]
          show gRest E 1501 (0 + 1) e (knC v) (v.1 0 314 + 1) _ _ = gRest E 1501 1 e (knC v) (u87.1 0 314) _ _
          rw [x3, u14, k25']
          rfl
      · intro y y' _ g hb cb
        obtain ⟨-, -, -, -, -, -, -, -, -, -, -, -, d1, r121, hk, d2, u152, h152, k152, u166, h166, k166, rfl⟩ := hb
        have cb : (u166.1 0 321).toInt ≤ 500 := cb
        have m1 := mArgM hM h166
        have m2 := fc21 k152.1
        obtain ⟨n, acc, g1, g2, g3, g4, g5, g6, g8, g7⟩ := g (by omega)
        have cy := g3.2.1.cm
        have T := ES.take (P := P) h152 k152 g3.1 g3.2.2.1
        have s20 : u152.1 320 c = y.2.2.1 320 c := congrFun (k152.1.2.2 320 (by decide)) c
        obtain ⟨a, x1, x2, x3, x4⟩ := eArg (P := P) (c := c) hE h166 T.1.1 T.1.2.2.1 (tpe_fr k152.1 (by decide) g8) cb A8.2.1 (by omega) (by rw [s20]; omega) (by rw [s20]; omega)
        have X : AGx L2 e P c y.2.2 u166 (a ++ [evx 4 (gsl (knC u152) (u152.1 0 314)) 0]) := by
          have := AGx.tr (P := P) (c := c) (v := y.2.2) (u := u152) (w := u166) (a := []) (L2 := L2) (e := e) ⟨T.1.1, ⟨T.1.2.1.1, EF.ex T.1.2.1.2.1, T.1.2.1.2.2.1, T.1.2.1.2.2.2⟩, T.1.2.2.1, T.1.2.2.2.1, T.1.2.2.2.2.2, congrFun (k152.1.2.2 318 (by decide)) c⟩ x2 g3.2.2.1 (by omega)
          rw [List.nil_append] at this
          exact this
        have k1 := hk
        have ek1 := kdC hk g3.1
        have i1 : (y.1 + (1 : Int32)).toInt = y.1.toInt + 1 := add_z rfl (by decide) (by omega) (by omega)
        have i2 : (y.2.1 + (1 : Int32)).toInt = y.2.1.toInt + 1 := add_z rfl (by decide) (by omega) (by omega)
        have kk : knC u152 = knC v := T.1.2.2.2.1.trans (g3.2.2.2.1.trans k25')
        refine ⟨n + 1, _, by show (y.1 + (1 : Int32)).toInt = _; omega, by show (y.2.1 + (1 : Int32)).toInt = _; omega, g3.tr X T25.1.2.2.1 (by omega), ?_, ?_, ⟨by omega, by omega⟩, tpK (kArgK hK h166) k166.2.2.2.2.2.2.2.2.2.1 (tpe_fr k152.1 (by decide) g8), ?_⟩
        · show u166.1 0 314 = _
          rw [x3, T.1.2.2.2.2.1, g4, Int32.add_assoc]
          congr 1
          exact Int32.toInt_inj.mp (by rw [nI_Z (by omega), add_z (nI_Z (n := n) (by omega)) (show (1 : Int32).toInt = 1 by decide) (by omega) (by omega)]; omega)
        · show (u166.1 320 c).toInt = _
          rw [x4, s20]
          omega
        · show _ = gRest E (1502 - (n + 1)) _ e (knC v) (u166.1 0 314) _ (u166.1 0 305)
          rw [kk, T.1.2.2.2.2.1, T.2] at x1
          rw [g7, show 1502 - n = (1502 - (n + 1)) + 1 by omega, gRest_s (by rw [← ek1]; exact d2) x1, x3, kk, T.1.2.2.2.2.1]
          rfl
    have fin : ∀ {y y2 : MS}, (w70.1 0 321).toInt ≤ 500 → Q_x_X9_expect L1 L2 w70 31 false y → K_x_X9_expect w70 31 y → Q_x_X9_close L1 L2 y y2 → K_x_X9_close y y2 → Q_x_X1_add L1 L2 (wA y2 0 314 (y2.1 0 314 - ar)) 21 r9 r13 u → K_x_X1_add (wA y2 0 314 (y2.1 0 314 - ar)) 21 r9 r13 u → ∃ a, ((gArgs E 1502 0 e (knC v) (v.1 0 314) (u25.1 0 305)).bind fun r => (gTok e 31 r.2.2).bind fun j => some (r.2.1 ++ [(21, e.2.1 (v.1 0 305), gsl (knC v) (v.1 0 314), r.1, 0, 0)], j)) = some (a, u.1 0 305) ∧ ES L2 e P v u a ∧ DS v u 1 := by
      intro y y2 cw h1 k1 h2 k2 h3 k3
      obtain ⟨n, acc, g1, g2, g3, g4, g5, g6, -, g7⟩ := main cw
      have F := eCallEnd (P := P) A8.2.1 g3 A25 B hc (g3.2.2.2.2.2.trans q18) g5 (by have := g3.2.1.cm; omega) k25' u12 h1 k1 h2 k2 h3 k3 (by rw [← u14]; exact subAdd g4 g1 (by omega))
      have e31 : (e.1 (w70.1 0 305)).toInt = 31 := by
        have := F.1
        unfold gTok at this
        by_cases q : (e.1 (w70.1 0 305)).toInt = 31
        · exact q
        · rw [if_neg q] at this
          cases this
      rw [g7]
      unfold gRest
      rw [if_neg (by omega), Option.bind_some]
      dsimp only
      rw [F.1, Option.bind_some]
      refine ⟨_, rfl, ?_, F.2.2 dx⟩
      rw [← e3, ← e13]
      exact F.2.1
    rcases h with ⟨-, ⟨u9, -, q, -⟩ | ⟨u94, h94, k94, u98, h98, k98, u103, h103, k103, -, e9⟩⟩ | ⟨-, r121, -, ⟨-, ⟨u9, -, q, -⟩ | ⟨u94, h94, k94, u98, h98, k98, u103, h103, k103, -, e9⟩⟩ | ⟨-, ⟨u9, -, q, -⟩ | ⟨u152, -, -, u9, -, q, -⟩⟩⟩
    · cases q
    · rw [← e9] at h103 k103
      have f3 := fc21 k103.1
      have f3 : (u.1 0 321).toInt = (u98.1 0 321).toInt := f3
      have := fc21 k94.1
      have := fc21 k98.1
      exact fin (by omega) h94 k94 h98 k98 h103 k103
    · cases q
    · rw [← e9] at h103 k103
      have f3 := fc21 k103.1
      have f3 : (u.1 0 321).toInt = (u98.1 0 321).toInt := f3
      have := fc21 k94.1
      have := fc21 k98.1
      exact fin (by omega) h94 k94 h98 k98 h103 k103
    · cases q
    · cases q
end UKC
