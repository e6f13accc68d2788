/-! both meanings side by side: a call -/
theorem AG.fc {v0 v u : MS} {fl al : List Nat} (A : AG v0 v) (h : FC fl al v u) (r : RS0 v u) (hf : ∀ k, k ∈ fl → k ∈ [362, 363, 364, 365, 366, 368, 369, 370, 371]) (ha : ∀ a, a ∈ al → a ∈ [0, 358, 359, 360]) : AG v0 u := by
  refine ⟨fun k hk => (h.2.1 k (fun z => hk (hf k z))).trans (A.1 k hk), fun a hk => ?_⟩
  by_cases c : a < 5000
  · exact (h.2.2 a ⟨c, fun z => hk (ha a z)⟩).trans (A.2 a hk)
  · exact (r a (by omega)).trans (A.2 a hk)
theorem AGM.at {w0 w : MS} (A : AGM w0 w) {x : Int32} : AGM w0 (wA w 0 112 x) := by
  refine ⟨fun k9 hk => ?_, fun a9 ha => ?_⟩
  · have : k9 ≠ 112 := fun z => hk (by rw [z]; decide)
    show upd (w.1 0) 112 x k9 = _
    rw [updN_ this]
    exact A.1 k9 hk
  · have : a9 ≠ 0 := fun z => ha (by rw [z]; decide)
    show (if a9 = 0 then _ else w.1 a9) = _
    rw [if_neg this]
    exact A.2 a9 ha
def NAM (L1 : List Nat) (K : TK) (fn : Nat → Int32) (v0 w0 : MS) : Prop := ∀ c d : Nat, (c : Int) < (w0.1 0 74).toInt → (d : Int) < (w0.1 0 74).toInt → rF L1 v0 c 4 = K.2.1 (fn d) → c = d
/-- at a function's beginning -/
def ENTs (g : GC) (N : Nat) (ng lim ka : Int) (p : Int) (v0 w u y : MS) : Prop := ∃ c k B b, zOk g c 0 ∧ STA g N ng lim (ka + 1) u y c k B b p (zTy g c 0) ∧ ((u.1 0 364).toInt + 1 = zPd g c 0 ∧ (y.1 0 112).toInt = zPo g c 0) ∧ (0 ≤ (u.1 0 364).toInt ∧ (u.1 0 364).toInt < (v0.1 0 381).toInt ∧ v0.1 378 (u.1 0 364).toNatClampNeg = 0) ∧ (y.1 0 113).toInt = (w.1 0 113).toInt + 1
section YJC
variable {g : GC} {N : Nat} {ng lim : Int} {L1 L2 : List Nat} {K : TK} {fn : Nat → Int32} {v0 w0 : MS} {ka : Int} {v w u u2 u5 : MS} {f k B b i' c T n sl : Nat} {p : Int} {P PO : Nat} {q : EV} {kc pb hh : Nat} {r r3 pa : Int32} {s : ST3}
/-- the arguments go over -/
theorem cArgs {ka9 : Int32} {w8 : MS} (A : AG v0 v) (G : FUN g L1 v0 w0) (hN : N ≤ 4096) (h0 : pa.toInt = c) (h1 : (c : Int) < (w0.1 0 74).toInt) (hn : (w0.1 78 c).toInt = n) (e3 : r3.toInt = ((B + 2 + sl : Nat) : Int)) (hs : B + 2 + sl + n ≤ T) (hT : (u5.1 0 365).toInt = T) (hTn : T + 2 + n ≤ N) (hr : RT (Q_x_X10_callFunction_L0 L1 L2 N v pa r3) (0, u5) (ka9, w8)) : (∀ k9, w8.1 0 k9 = u5.1 0 k9) ∧ (∀ a9, a9 ≠ 0 → a9 ≠ 358 → w8.1 a9 = u5.1 a9) ∧ (∀ j, j < T + 2 → w8.1 358 j = u5.1 358 j) ∧ 0 ≤ ka9.toInt ∧ ka9.toInt ≤ n ∧ ∀ j : Nat, (j : Int) < ka9.toInt → w8.1 358 (T + 2 + j) = u5.1 358 (B + 2 + sl + j) := by
  refine RT.ind (fun (y : Int32 × MS) => (∀ k9, y.2.1 0 k9 = u5.1 0 k9) ∧ (∀ a9, a9 ≠ 0 → a9 ≠ 358 → y.2.1 a9 = u5.1 a9) ∧ (∀ j, j < T + 2 → y.2.1 358 j = u5.1 358 j) ∧ 0 ≤ y.1.toInt ∧ y.1.toInt ≤ n ∧ ∀ j : Nat, (j : Int) < y.1.toInt → y.2.1 358 (T + 2 + j) = u5.1 358 (B + 2 + sl + j)) hr ⟨fun _ => rfl, fun _ _ _ => rfl, fun _ _ => rfl, by show 0 ≤ (0 : Int32).toInt; decide, by have : (0 : Int32).toInt = 0 := (by decide); show (0 : Int32).toInt ≤ n; omega, fun j hj => absurd (show (j : Int) < (0 : Int32).toInt from hj) (by have : (0 : Int32).toInt = 0 := (by decide); omega)⟩ ?_
  rintro ⟨a1, a2⟩ b9 _ ⟨g1, g2, g3, g4, g5, g6⟩ hb
  obtain ⟨fc, -, rs, r9, f9, -, c9, -, r8, f8, u20, f20, -, rfl⟩ := hb
  have g4 : 0 ≤ a1.toInt := g4
  have g5 : a1.toInt ≤ n := g5
  have A2 : AG v0 a2 := A.fc fc rs (by decide) (by decide)
  have f9 := ffR A2 G h0 h1 (by decide) f9
  obtain ⟨-, ⟨g7, -⟩, -⟩ := G.2 c h1
  have f9 : r9 = w0.1 78 c := f9.trans g7
  have c9 : a1.toInt < r9.toInt := c9
  rw [f9, hn] at c9
  have na := natI g4
  have e4 : (r3 + a1).toInt = ((B + 2 + sl + a1.toNatClampNeg : Nat) : Int) := (add_z e3 rfl (by omega) (by omega) : (r3 + a1).toInt = ((B + 2 + sl : Nat) : Int) + a1.toInt).trans (by omega)
  have f8 := fwR hN e4 (by omega) f8
  have f8 : r8 = u5.1 358 (B + 2 + sl + a1.toNatClampNeg) := f8.trans (g3 _ (by omega))
  have f20 := slW (B := T) (sl := a1.toNatClampNeg) (by rw [g1]; exact hT) na.symm hN (by omega) f20
  have ea : (a1 + 1).toInt = a1.toInt + 1 := add_z rfl (by decide) (by omega) (by omega)
  rw [f20]
  refine ⟨g1, fun a9 h0 h5 => ?_, fun j hj => ?_, by show 0 ≤ (a1 + 1).toInt; omega, by show (a1 + 1).toInt ≤ n; omega, fun j hj => ?_⟩
  · show (if a9 = 358 then _ else a2.1 a9) = _
    rw [if_neg h5]
    exact g2 a9 h0 h5
  · show upd (a2.1 358) _ _ j = _
    rw [updN_ (by omega)]
    exact g3 j hj
  · have hj : (j : Int) < (a1 + 1).toInt := hj
    show upd (a2.1 358) (T + 2 + a1.toNatClampNeg) r8 (T + 2 + j) = _
    by_cases e : j = a1.toNatClampNeg
    · rw [e, updS, f8]
    · rw [updN_ (by omega)]
      exact g6 j (by show (j : Int) < a1.toInt; omega)
/-- no argument goes over where it has ended -/
theorem cArg0 {ka9 : Int32} {w8 : MS} (h : (u5.1 0 362).toInt ≠ -1) (hr : RT (Q_x_X10_callFunction_L0 L1 L2 N v pa r3) (0, u5) (ka9, w8)) : w8 = u5 := by
  have : (ka9, w8) = ((0, u5) : Int32 × MS) := RT.ind (fun (y : Int32 × MS) => y = (0, u5)) hr rfl (fun a b _ ha hb => by
    obtain ⟨-, -, -, r9, -, -, -, c, -⟩ := hb
    rw [ha] at c
    exact absurd c h)
  exact congrArg Prod.snd this
set_option maxHeartbeats 2000000 in
theorem evCall (ht : q.1 = 21) (C : CTX g N ng lim L1 K fn v0 w0 ka v w f k B b p P PO q (kc, pb, hh)) (G : FUN g L1 v0 w0) (hNm : NAM L1 K fn v0 w0) (h57 : (v0.1 0 357).toInt = 4 * (N : Int)) (h84 : (v0.1 0 384).toInt = lim) (h77 : (w0.1 0 77).toInt = lim) (hl6 : lim ≤ 16384) (h67 : v0.1 0 367 = w0.1 0 114) (hL : ∀ f i, zOk g f i → zLo g f ≤ zMm g f) (ok : zOk g f i') (pd : zPd g f i' = P + 1) (po : zPo g f i' = PO + 1) (le : le3 (postT q (kc, pb, hh)) (zTy g f i')) (Q1 : Q_x_X10_doDeed L1 L2 N v u) (Q2 : Q_m_obey w N r u2) : ENTs g N ng lim ka (p + zRk g f i') v0 w u (wA u2 0 121 r) ∨ FIN ng (ka + 1) u (wA u2 0 121 r) := by
  obtain ⟨A, Am, S, hp, ho, d, m, pr, ⟨h9, hN, hl, hka⟩, T9, E9, h9', mi⟩ := C
  obtain ⟨⟨a1, a2⟩, a3, a4, a5, a6⟩ := clP A hp d (by rw [ht]; decide) h9
  obtain ⟨o1, o2, o3, o4⟩ := moP Am ho m (loE_1 (by rw [ht]; decide)) mi
  rw [oE_21 ht] at o1
  have b8 := mi.lin
  obtain ⟨d1, d2, ⟨d3, d3'⟩, d4, d5⟩ : v0.1 378 P = 21 ∧ v0.1 380 P = q.2.2.1 ∧ (0 ≤ (v0.1 379 P).toInt ∧ (v0.1 379 P).toInt < (v0.1 0 375).toInt) ∧ rF L1 v0 (v0.1 379 P).toNatClampNeg 4 = q.2.1 ∧ (rF L1 v0 (v0.1 379 P).toNatClampNeg 0).toInt = q.2.2.2.1 := by
    have d2 := d.2
    rw [if_neg (by rw [ht]; decide), if_neg (by rw [ht]; decide), if_neg (by rw [ht]; decide), if_pos ht] at d2
    exact d2
  have D : v.1 378 (v.1 0 364).toNatClampNeg = 21 := by rw [a4, d1]
  have mx9 : 0 ≤ (w0.1 72 PO).toInt ∧ (w0.1 72 PO).toInt < (w0.1 0 74).toInt ∧ K.2.1 (fn (w0.1 72 PO).toNatClampNeg) = q.2.1 := by
    have z := o3
    unfold mxA at z
    rw [ht] at z
    exact z
  have pz : hh ≠ 1 ∧ 0 ≤ q.2.2.2.1 ∧ q.2.2.2.1.toNat ≤ pb ∧ 0 ≤ q.2.2.1.toInt ∧ q.2.2.1.toNatClampNeg + q.2.2.2.1.toNat = kc + pb := by
    have z := pr
    unfold preT at z
    rw [ht] at z
    exact z
  have po9 : postT q (kc, pb, hh) = (kc, pb - q.2.2.2.1.toNat, 1) := by
    unfold postT
    rw [ht]
    rfl
  rw [po9] at le
  obtain ⟨pz1, pz2, pz3, pz4, pz5⟩ := pz
  obtain ⟨n, hn⟩ : ∃ n, n = q.2.2.2.1.toNat := ⟨_, rfl⟩
  rw [← hn] at pz3 pz5 le
  obtain ⟨c, hc⟩ : ∃ c, c = (v0.1 379 P).toNatClampNeg := ⟨_, rfl⟩
  have nc := natI d3
  have nm := natI mx9.1
  rw [← hc] at nc d4 d5
  have e75 : (v0.1 0 375).toInt = (w0.1 0 74).toInt := by rw [G.1.1]
  have cl : (c : Int) < (w0.1 0 74).toInt := by omega
  have cd : c = (w0.1 72 PO).toNatClampNeg := hNm c _ cl (by omega) (by rw [d4]; exact mx9.2.2.symm)
  obtain ⟨y1, ⟨y2, y2'⟩, ⟨y3, y3'⟩, ⟨y4, y4', y4'', y4t⟩, ⟨y5, y5', y5'', y5t, y5q⟩, y6⟩ := G.2 c cl
  rw [y2] at d5
  have n78 : (w0.1 78 c).toInt = n := by omega
  obtain ⟨pi1, pi2⟩ := S.pi0 pz1
  have cc := S.cor
  have cM : kc + pb ≤ zMm g f := cc.2.2.1.1
  have cL : kc ≤ zLo g f := cc.2.2.1.2
  have lM := hL f i' ok
  have S0 := S
  obtain ⟨⟨s1, s1'⟩, ⟨s2, s2'⟩, ⟨s3, s3'⟩, ⟨s4, s4', s4''⟩, s5, s6, s7, s8⟩ := S
  obtain ⟨sl, hsl⟩ : ∃ sl, sl = q.2.2.1.toNatClampNeg := ⟨_, rfl⟩
  have nsl := natI pz4
  rw [← hsl] at pz5 nsl
  obtain ⟨T, hT⟩ : ∃ T, T = B + 2 + zMm g f := ⟨_, rfl⟩
  -- the class
  obtain ⟨u9, e0, -, e1⟩ := dD_21 Q1 a1 a2 D
  obtain ⟨r3, f3, u5, f5, -, k9, w8, hr, fc8, -, rs8, r9, f9, -, e0⟩ := e0
  rw [a5] at f5 hr f9
  rw [a6, d2] at f3
  have f3 := slA (L1 := L1) (L2 := L2) (v := wA v 0 364 (v.1 0 364 + 1)) (sl := sl) s2 nsl.symm hN (by omega) f3
  have E := cEnter (T := T) A.at G hN h57 h84 ⟨hl, hl6⟩ nc.symm cl (show (v.1 0 366).toInt = T by omega) (by omega) s1 f5
  have e08 : u9 = w8 := by
    rcases e0 with ⟨-, e0⟩ | ⟨-, -, e0⟩
    · exact e0
    · exact e0
  -- the reference
  obtain ⟨r8, u8, m0, -, e2, e3⟩ := dO_14 Q2 o1
  rw [o2] at m0
  have M := mEnter (T := T) Am.at G hN h77 ⟨hl, hl6⟩ (show (w0.1 72 PO).toInt = c by omega) cl (show (w.1 0 115).toInt = 4 * (T : Int) by omega) (by omega) (show 0 ≤ (w.1 0 106).toInt ∧ (w.1 0 106).toInt ≤ 16384 by omega) (show 0 ≤ (w.1 0 113).toInt ∧ (w.1 0 113).toInt ≤ (w.1 0 114).toInt ∧ (w.1 0 114).toInt ≤ 20000 by omega) m0
  have c68 : v.1 0 368 = w.1 0 113 := s8.1.1
  have c67 : v.1 0 367 = w.1 0 114 := by rw [A.1 367 (by decide), Am.1 114 (by decide)]; exact h67
  rw [e2, e3, e1, e08]
  rcases E with ⟨q1, E⟩ | ⟨q1, ⟨q2, E⟩ | ⟨q2, z, t, hz, ht9, E⟩⟩
  · rcases M with ⟨-, M1, M2⟩ | ⟨q3, -⟩
    · right
      rw [cArg0 (by rw [E]; show ¬ (1 : Int32).toInt = -1; decide) hr, E, M1, M2]
      exact ⟨⟨rfl, by show (1 : Int32) ≠ -1; decide⟩, S0.cnt.sm (by omega) ⟨rfl, rfl, rfl, rfl, rfl, rfl⟩ ⟨rfl, rfl, rfl, rfl, rfl, rfl⟩, fun z => absurd z (show ¬ (1 : Int32) = 0 by decide)⟩
    · omega
  · have q2 : (v.1 0 367).toInt ≤ (v.1 0 368).toInt := q2
    rw [c68, c67] at q2
    rcases M with ⟨q3, -⟩ | ⟨-, ⟨q3, M1, M2⟩ | ⟨q3, -⟩⟩
    · omega
    · right
      rw [cArg0 (by rw [E]; show ¬ (4 : Int32).toInt = -1; decide) hr, E, M1, M2]
      exact ⟨⟨rfl, by show (4 : Int32) ≠ -1; decide⟩, S0.cnt.sm (by omega) ⟨rfl, rfl, rfl, rfl, rfl, rfl⟩ ⟨rfl, rfl, rfl, rfl, rfl, rfl⟩, fun z => absurd z (show ¬ (4 : Int32) = 0 by decide)⟩
    · have q3 : (w.1 0 113).toInt < (w.1 0 114).toInt := q3
      omega
  · have q2 : (v.1 0 368).toInt < (v.1 0 367).toInt := q2
    rw [c68, c67] at q2
    rcases M with ⟨q3, -⟩ | ⟨-, ⟨q3, -⟩ | ⟨-, M1, mz, mt, hmz, hmt, M⟩⟩
    · omega
    · have q3 : (w.1 0 114).toInt ≤ (w.1 0 113).toInt := q3
      omega
    · left
      have u62 : u5.1 0 362 = -1 := by rw [E]; exact s1
      have u65 : u5.1 0 365 = v.1 0 366 := by rw [E]; rfl
      obtain ⟨x1, x2, x3, x4, x5, x6⟩ := cArgs (B := B) (sl := sl) (T := T) (n := n) A.at G hN nc.symm cl n78 f3 (by omega) (by rw [u65]; omega) (by omega) hr
      have A8 : AG v0 w8 := A.at.fc fc8 rs8 (by decide) (by decide)
      have f9 := ffR A8 G nc.symm cl (by decide) f9
      have f9 : r9 = w0.1 78 c := f9.trans y2
      have kn : k9.toInt = n := by
        rcases e0 with ⟨z9, -⟩ | ⟨-, z9, -⟩
        · rw [f9, n78] at z9; omega
        · rw [x1, u62] at z9; exact absurd (by decide) z9
      have F5 : u5.1 358 = upd (upd (v.1 358) T (v.1 0 364 + 1)) (T + 1) (v.1 0 365) := by rw [E]; rfl
      obtain ⟨⟨n1, n2⟩, ⟨n3, n4, n5⟩, ⟨n6, n7⟩, n8, n9, ⟨n10, n11⟩, ⟨n12', n13, n14, n15, n16⟩⟩ := M
      have n3 : u8.1 107 = upd (w.1 107) (w.1 0 110).toNatClampNeg (w.1 0 112 + 1) := n3
      have n4 : u8.1 108 = upd (w.1 108) (w.1 0 110).toNatClampNeg (w.1 0 111) := n4
      have n5 : u8.1 109 = upd (w.1 109) (w.1 0 110).toNatClampNeg (w0.1 72 PO) := n5
      have nk : (w.1 0 110).toNatClampNeg = k + 1 := natC (by omega)
      rw [nk] at n3 n4 n5
      have n6 : u8.1 0 110 = w.1 0 110 + 1 := n6
      have n7 : u8.1 0 111 = w.1 0 106 - w0.1 78 c := n7
      have n8 : (u8.1 0 106).toInt = (w.1 0 106).toInt + zLo g c - (w0.1 78 c).toInt := n8
      have n9 : ∀ j : Nat, (j : Int) < (w.1 0 106).toInt → u8.1 105 j = w.1 105 j := n9
      have b1 : (w.1 0 106 - w0.1 78 c).toInt = ((b + (zLo g f + (pb - n)) : Nat) : Int) := (sub_z rfl n78 (by omega) (by omega) : (w.1 0 106 - w0.1 78 c).toInt = (w.1 0 106).toInt - (n : Int)).trans (by omega)
      have k1 : (w.1 0 110 + 1).toInt = (k : Int) + 1 + 1 := add_z s3' (by decide) (by omega) (by omega)
      have t13 : (w.1 0 113 + 1).toInt = (w.1 0 113).toInt + 1 := add_z rfl (by decide) (by omega) (by omega)
      have u64 : u5.1 0 364 = rF L1 v0 c 5 := by rw [E]; rfl
      have w64 : w8.1 0 364 = rF L1 v0 c 5 := by rw [x1, u64]
      have Flo : ∀ j, j < T → w8.1 358 j = v.1 358 j := fun j hj => by rw [x3 j (by omega), F5, updN_ (by omega), updN_ (by omega)]
      have FT : w8.1 358 T = v.1 0 364 + 1 := by rw [x3 T (by omega), F5, updN_ (by omega), updS]
      have FT1 : w8.1 358 (T + 1) = v.1 0 365 := by rw [x3 (T + 1) (by omega), F5, updS]
      refine ⟨c, k + 1, T, b + (zLo g f + (pb - n)), y1, STA.le (s := (n, 0, 0)) ?_ (by rw [natC n78] at y6; exact y6), ⟨by rw [w64]; exact y5, by show (u8.1 0 112).toInt = _; rw [n10]; exact y5q⟩, ⟨by rw [w64]; exact y5'', by rw [w64]; exact y5t, by rw [w64]; exact y5'⟩, by show (u8.1 0 113).toInt = _; rw [n11]; exact t13⟩
      refine ⟨⟨by rw [x1]; exact u62, M1⟩, ⟨by rw [x1, u65]; omega, by rw [x1, show u5.1 0 366 = z by rw [E]; rfl]; omega⟩, ⟨by show (u8.1 0 111).toInt = _; rw [n7]; exact b1, by show (u8.1 0 110).toInt = _; rw [n6, k1]; omega⟩, ⟨by omega, by omega, by omega⟩, by show (u8.1 0 115).toInt = _; rw [n1]; exact hmz, ?_, ?_, ?_⟩
      · show SKf g (w8.1 358) (u8.1 105) (u8.1 107) (u8.1 108) (u8.1 109) (k + 1) c T (b + (zLo g f + (pb - n))) (p + zRk g f i')
        refine ⟨by rw [n5, updS]; omega, f, i', B, b, kc, pb - n, p, ?_, rfl, ok, ⟨hT, rfl⟩, ⟨by rw [n3, updS, o4, po]; omega, by rw [n4, updS]; exact s3⟩, ⟨by rw [FT, a3, pd]; omega, by rw [FT1]; exact s2⟩, ⟨by omega, cL⟩, le, fun j hj => ?_, fun j hj => ?_⟩
        · refine SKf.keep k f B b p s6 (fun j hj => Flo j (by omega)) (fun j hj => n9 j (by omega)) (fun j hj => ⟨?_, ?_, ?_⟩)
          · rw [n3, updN_ (by omega)]
          · rw [n4, updN_ (by omega)]
          · rw [n5, updN_ (by omega)]
        · rw [Flo _ (by omega), n9 _ (by omega)]
          exact cc.1 j hj
        · rw [Flo _ (by omega), n9 _ (by omega)]
          exact cc.2.1 j (by show j < pb; omega)
      · show COR (w8.1 358) (u8.1 105) (w8.1 0 363) T (b + (zLo g f + (pb - n))) (zMm g c) (zLo g c) (n, 0, 0) (u8.1 0 106).toInt
        refine ⟨fun j hj => ?_, fun j hj => absurd hj (Nat.not_lt_zero _), ⟨by show n + 0 ≤ zMm g c; omega, by show n ≤ zLo g c; omega⟩, ?_, fun e => absurd e (by show ¬ (0 : Nat) = 1; decide), fun e => absurd e (by show ¬ (0 : Nat) = 2; decide)⟩
        · have hj : j < n := hj
          have X := x6 j (by omega)
          rw [X, ← x3 _ (by omega), Flo _ (by omega), n9 _ (by omega)]
          have Y := cc.2.1 (pb - n + j) (by show pb - n + j < pb; omega)
          have Y : v.1 358 (B + 2 + (kc + (pb - n + j))) = w.1 105 (b + (zLo g f + (pb - n + j))) := Y
          rw [show B + 2 + sl + j = B + 2 + (kc + (pb - n + j)) by omega, Y, show b + (zLo g f + (pb - n + j)) = b + (zLo g f + (pb - n)) + j by omega]
        · show (u8.1 0 106).toInt = ((b + (zLo g f + (pb - n)) : Nat) : Int) + zLo g c + 0 + 0
          omega
      · obtain ⟨⟨z1, z2, z3, z4⟩, z5, z6, z7⟩ := S0.cnt.up (show ka ≤ ka + 1 by omega)
        have w59 : w8.1 359 = v.1 359 := by rw [x2 359 (by decide) (by decide), E]; rfl
        have w60 : w8.1 360 = v.1 360 := by rw [x2 360 (by decide) (by decide), E]; rfl
        have w70 : w8.1 0 370 = v.1 0 370 := by rw [x1, E]; rfl
        have w71 : w8.1 0 371 = v.1 0 371 := by rw [x1, E]; rfl
        have w68 : w8.1 0 368 = v.1 0 368 + 1 := by rw [x1, E]; rfl
        have w69 : w8.1 0 369 = t := by rw [x1, E]; rfl
        refine ⟨⟨?_, ?_, ?_, ?_⟩, ?_, fun j hj => ?_, fun j hj h2 => ?_⟩
        · show w8.1 0 368 = u8.1 0 113
          rw [w68, n11, c68]
          rfl
        · show w8.1 0 369 = u8.1 0 116
          rw [w69, n2, ht9, hmt]
          show (if (v.1 0 369).toInt < _ then (4 : Int32) * z else v.1 0 369) = (if (w.1 0 116).toInt < _ then mz else w.1 0 116)
          rw [z2]
          have ez : (4 : Int32) * z = mz := Int32.toInt_inj.mp ((mul_z (by decide) hz (by omega) (by omega) : ((4 : Int32) * z).toInt = 4 * ((T : Int) + 2 + zMm g c)).trans hmz.symm)
          rw [ez]
        · show w8.1 0 370 = u8.1 0 119
          rw [w70, n14]; exact z3
        · show w8.1 0 371 = u8.1 0 120
          rw [w71, n15]; exact z4
        · show 0 ≤ (u8.1 0 119).toInt ∧ (u8.1 0 119).toInt ≤ ka + 1 ∧ 0 ≤ (u8.1 0 120).toInt ∧ (u8.1 0 120).toInt ≤ ka + 1
          rw [n14, n15]; exact z5
        · show w8.1 359 j = u8.1 117 j
          rw [w59, n12']; exact z6 j hj
        · show w8.1 360 j = u8.1 118 j
          have hj : (j : Int) < (u8.1 0 119).toInt := hj
          rw [n14] at hj
          rw [w60, n13]; exact z7 j hj h2
end YJC
