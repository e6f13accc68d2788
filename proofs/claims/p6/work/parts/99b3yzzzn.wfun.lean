/-! the reference's words: a function -/
section ZZN
variable {n : Int} {K : TK} {e : PE} {v u w x y s s' : MS} {a b : List EV} {q : EV} {i : Int32} {ws : List Int32} {l : List (Nat × Int32 × Int32)} {c : RM1} {S : EvS} {bz : Bool} {pa : Int32}
theorem EMg.wf (h : EMg s s' ws l) : WFq s s' ∧ CWq s s' := by
  obtain ⟨⟨⟨h1, -⟩, -, h4⟩, h5, h6, ⟨h7, -⟩, h9⟩ := h
  have := h7.1
  exact ⟨⟨⟨by omega, h4⟩, ⟨by omega, h9⟩, ⟨by rw [h6]; exact Int.le_refl _, fun c _ => ⟨by rw [h5 35 (by decide)], by rw [h5 37 (by decide)]⟩⟩, h5 24 (by decide)⟩, ⟨fun c c1 c2 => by rw [h6] at c2; omega, fun c d c1 c2 => by rw [h6] at c2; omega⟩⟩
/-- a function at the word p: its beginning, parameters, inside and end -/
def FNw (K : TK) (u : MS) (cl : Int) (p : Nat) (fr : Int32) (np : Nat) (b : List EV) : Prop := (∀ (i : Nat) (z : Int32), (enR fr)[i]? = some z → u.1 11 (p + i) = z) ∧ Seg u (p + 9) (paL np) ∧ WOq K u cl (p + 9 + 2 * np) (fnT b)
def FUq (K : TK) (v u : MS) (fr : Int32) (np : Nat) (b : List EV) : Prop := (u.1 0 12).toInt = (v.1 0 12).toInt + ((9 + 2 * np + lwL (fnT b) : Nat) : Int) ∧ WFq v u ∧ CWq v u ∧ FNw K u (v.1 0 39).toInt (v.1 0 12).toNatClampNeg fr np b ∧ FQq v u (fxL ((v.1 0 12).toNatClampNeg + 9 + 2 * np) (fnT b))
theorem ini {k : Int32} {m : Nat} (hk : k.toInt = m) (h : 0 ≤ i.toInt) (h2 : i.toInt ≤ 1000000) (h3 : m ≤ 8) : (i + k).toInt = i.toInt + m := add_z rfl hk (by omega) (by omega)
theorem up4 {f G : Nat → Int32} {P : Nat} {r0 r1 r2 r3 : Int32} (h : G = upd (upd (upd (upd f P r0) (P + 1) r1) (P + 2) r2) (P + 3) r3) : (∀ j : Nat, j < P → G j = f j) ∧ ∀ (i : Nat) (z : Int32), ([r0, r1, r2, r3] : List Int32)[i]? = some z → G (P + i) = z := by
  refine ⟨fun j hj => by rw [h, updN_ (by omega), updN_ (by omega), updN_ (by omega), updN_ (by omega)], fun i z hz => ?_⟩
  match i, hz with
  | 0, hz =>
    rw [Nat.add_zero, h, updN_ (by omega), updN_ (by omega), updN_ (by omega), updS]
    exact Option.some.inj hz
  | 1, hz =>
    rw [h, updN_ (by omega), updN_ (by omega), updS]
    exact Option.some.inj hz
  | 2, hz =>
    rw [h, updN_ (by omega), updS]
    exact Option.some.inj hz
  | 3, hz =>
    rw [h, updS]
    exact Option.some.inj hz
  | i + 4, hz => simp at hz
theorem up7 {f G : Nat → Int32} {P : Nat} {fr : Int32} (h : G = upd (upd (upd (upd (upd (upd (upd f P (iW 19 2 2 (-fr))) (P + 3) (bW 20579 2 6 12)) (P + 4) (iW 19 17 0 1)) (P + 5) 1048691) (P + 6) (sW 1 (fr - (4 : Int32)) 2)) (P + 7) (sW 8 (fr - (8 : Int32)) 2)) (P + 8) (iW 19 8 2 fr)) : (∀ j : Nat, (j < P ∨ P + 9 ≤ j) → G j = f j) ∧ (f (P + 1) = 0 → f (P + 2) = 0 → ∀ (i : Nat) (z : Int32), (enR fr)[i]? = some z → G (P + i) = z) := by
  refine ⟨fun j hj => by rw [h, updN_ (by omega), updN_ (by omega), updN_ (by omega), updN_ (by omega), updN_ (by omega), updN_ (by omega), updN_ (by omega)], fun f1 f2 i z hz => ?_⟩
  unfold enR at hz
  match i, hz with
  | 0, hz =>
    rw [Nat.add_zero, h, updN_ (by omega), updN_ (by omega), updN_ (by omega), updN_ (by omega), updN_ (by omega), updN_ (by omega), updS]
    exact Option.some.inj hz
  | 1, hz =>
    rw [h, updN_ (by omega), updN_ (by omega), updN_ (by omega), updN_ (by omega), updN_ (by omega), updN_ (by omega), updN_ (by omega), f1]
    exact Option.some.inj hz
  | 2, hz =>
    rw [h, updN_ (by omega), updN_ (by omega), updN_ (by omega), updN_ (by omega), updN_ (by omega), updN_ (by omega), updN_ (by omega), f2]
    exact Option.some.inj hz
  | 3, hz =>
    rw [h, updN_ (by omega), updN_ (by omega), updN_ (by omega), updN_ (by omega), updN_ (by omega), updS]
    exact Option.some.inj hz
  | 4, hz =>
    rw [h, updN_ (by omega), updN_ (by omega), updN_ (by omega), updN_ (by omega), updS]
    exact Option.some.inj hz
  | 5, hz =>
    rw [h, updN_ (by omega), updN_ (by omega), updN_ (by omega), updS]
    exact Option.some.inj hz
  | 6, hz =>
    rw [h, updN_ (by omega), updN_ (by omega), updS]
    exact Option.some.inj hz
  | 7, hz =>
    rw [h, updN_ (by omega), updS]
    exact Option.some.inj hz
  | 8, hz =>
    rw [h, updS]
    exact Option.some.inj hz
  | i + 9, hz => simp at hz
theorem inN {k : Int32} {m : Nat} (hk : k.toInt = m) (h : 0 ≤ i.toInt) (h2 : i.toInt ≤ 1000000) (h3 : m ≤ 8) : (i + k).toNatClampNeg = i.toNatClampNeg + m := by
  have e := ini hk h h2 h3
  have n1 := natI h
  have n2 := natI (a := i + k) (by omega)
  omega
theorem ad12 (h : 0 ≤ i.toInt) (h2 : i.toInt ≤ 1000000) : (i + 1).toNatClampNeg = i.toNatClampNeg + 1 ∧ (i + 1 + 1).toNatClampNeg = i.toNatClampNeg + 2 ∧ (i + 1 + 1 + 1).toNatClampNeg = i.toNatClampNeg + 3 ∧ (i + 1 + 1 + 1 + 1).toInt = i.toInt + 4 := by
  have e1 := ad1 h h2
  have e2 := ad2 h h2
  have e3 := ad3 h h2
  have n := natI h
  have n1 := natI (a := i + 1) (by omega)
  have n2 := natI (a := i + 1 + 1) (by omega)
  have n3 := natI (a := i + 1 + 1 + 1) (by omega)
  refine ⟨by omega, by omega, by omega, ?_⟩
  rw [add_z e3 (show (1 : Int32).toInt = 1 by decide) (by omega) (by omega)]
  omega
set_option maxHeartbeats 1600000 in
theorem funQ {Z w252 w274 u60 N u74 M U : MS} {fr : Int32} {np : Nat} (z11 : Z.1 11 = v.1 11) (z12 : Z.1 0 12 = v.1 0 12) (zS : SMw v Z) (E1 : EMi Z w252 (List.replicate 9 0) []) (E2 : EMi w252 w274 (paL np) []) (y4 : SAw K w274 u60 b) (x52 : (w274.1 0 52).toInt = 0) (x59 : w274.1 0 59 = -1) (hN : N = wA (wA u60 11 ((u60.1 0 12).toNatClampNeg) (iW 19 10 0 0)) 0 12 ((u60.1 0 12) + (1 : Int32))) (hl : Q_m_land N (u60.1 0 59) ((u60.1 0 12) + (1 : Int32)) u74) (kl : FG [] [11] N u74) (m11 : M.1 11 = upd (upd (upd (upd (u74.1 11) (u74.1 0 12).toNatClampNeg (iW 8195 1 8 (-4))) (u74.1 0 12 + 1).toNatClampNeg (iW 19 2 8 0)) (u74.1 0 12 + 1 + 1).toNatClampNeg (iW 8195 8 8 (-8))) (u74.1 0 12 + 1 + 1 + 1).toNatClampNeg (iW 103 0 1 0)) (m12 : M.1 0 12 = u74.1 0 12 + 1 + 1 + 1 + 1) (mS : SMw u74 M) (U11 : U.1 11 = upd (upd (upd (upd (upd (upd (upd (M.1 11) (v.1 0 12).toNatClampNeg (iW 19 2 2 (-fr))) (v.1 0 12 + 3).toNatClampNeg (bW 20579 2 6 12)) (v.1 0 12 + 4).toNatClampNeg (iW 19 17 0 1)) (v.1 0 12 + 5).toNatClampNeg 1048691) (v.1 0 12 + 6).toNatClampNeg (sW 1 (fr - (4 : Int32)) 2)) (v.1 0 12 + 7).toNatClampNeg (sW 8 (fr - (8 : Int32)) 2)) (v.1 0 12 + 8).toNatClampNeg (iW 19 8 2 fr)) (U12 : U.1 0 12 = M.1 0 12) (US : SMw M U) : BDw v (9 + 2 * np + lwL (fnT b)) → FUq K v U fr np b := by
  intro B
  obtain ⟨q1, q2, q3⟩ := B
  have lt : lwL (fnT b) = lwL b + 5 := by
    unfold fnT
    rw [lwL_app, lwL_app, lwL_rsr, show lwL [evx 2 0 0] = 1 from rfl, show lwL [evx 1 0 0] = 4 from rfl]
  rw [lt] at q2
  have H1 := E1 ⟨by rw [z12]; exact q1, by rw [z12, List.length_replicate]; omega, by rw [zS.2.2]; exact q3⟩
  have h12 := H1.1.1.1
  rw [z12, List.length_replicate] at h12
  have f43 := H1.2.2.2.1.1.1
  rw [zS.2.2] at f43
  have f43 : (w252.1 0 43).toInt = (v.1 0 43).toInt + ((0 : Nat) : Int) := f43
  have lp := paL_len np
  have H2 := E2 ⟨by omega, by rw [lp]; omega, by omega⟩
  have p12 := H2.1.1.1
  rw [lp] at p12
  have g43 : (w274.1 0 43).toInt = (w252.1 0 43).toInt + ((0 : Nat) : Int) := H2.2.2.2.1.1.1
  obtain ⟨⟨a1, a2, a3, a4, af⟩, -, -, ar⟩ := y4.1 ⟨by omega, by omega, by omega⟩
  rw [x59] at a4 ar
  have nv := natI q1
  have nx := natI (a := w274.1 0 12) (by omega)
  have n60 := natI (a := u60.1 0 12) (by omega)
  have i61 := ad1 (n := u60.1 0 12) (by omega) (by omega)
  have N12 : N.1 0 12 = u60.1 0 12 + 1 := by rw [hN]; rfl
  have N11 : N.1 11 = upd (u60.1 11) (u60.1 0 12).toNatClampNeg (iW 19 10 0 0) := by rw [hN]; rfl
  have NS : SMw u60 N := by rw [hN]; exact ⟨⟨rfl, rfl, rfl, rfl, rfl, rfl⟩, rfl, rfl⟩
  have e74 : u74.1 0 12 = u60.1 0 12 + 1 := (kl.2.1 12 (fun q => nomatch q)).trans N12
  have S74 : SMw u60 u74 := NS.tr ⟨⟨kl.2.2 24 (by decide), kl.2.2 35 (by decide), kl.2.2 37 (by decide), kl.2.2 40 (by decide), kl.2.2 41 (by decide), kl.2.2 42 (by decide)⟩, kl.2.1 39 (fun q => nomatch q), kl.2.1 43 (fun q => nomatch q)⟩
  have i74 : (u74.1 0 12).toInt = (u60.1 0 12).toInt + 1 := by rw [e74]; exact i61
  have n74 := natI (a := u74.1 0 12) (by omega)
  obtain ⟨k1, k2, k3, j4⟩ := ad12 (i := u74.1 0 12) (by omega) (by omega)
  rw [k1, k2, k3] at m11
  have q1' : (v.1 0 12).toInt ≤ 1000000 := by omega
  rw [inN (k := 3) (m := 3) (by decide) q1 q1' (by decide), inN (k := 4) (m := 4) (by decide) q1 q1' (by decide), inN (k := 5) (m := 5) (by decide) q1 q1' (by decide), inN (k := 6) (m := 6) (by decide) q1 q1' (by decide), inN (k := 7) (m := 7) (by decide) q1 q1' (by decide), inN (k := 8) (m := 8) (by decide) q1 q1' (by decide)] at U11
  obtain ⟨FM0, FE⟩ := up7 U11
  obtain ⟨M7, ME⟩ := up4 m11
  have rg : ∀ j, j ∈ bpw 32 (w274.1 0 12).toNatClampNeg b → (w274.1 0 12).toNatClampNeg ≤ j ∧ j < (w274.1 0 12).toNatClampNeg + lwL b := fun j hj => bpw_rng (Or.inr (Or.inr rfl)) b hj
  have ch := CHr.rw b a4
  rw [← ar] at ch
  have ch2 := CHr.cg (f' := N.1 11) _ (fun j hj => by rw [N11]; exact updN_ (by have := rg j hj; omega)) ch
  obtain ⟨n1, n2⟩ := landC hl ch2 (bpw_dec (Or.inr (Or.inr rfl)) b) (fun j hj => by have := rg j hj; omega)
  obtain ⟨F, hF⟩ : ∃ F, F = U.1 11 := ⟨_, rfl⟩
  have FM : ∀ j : Nat, (j < (v.1 0 12).toNatClampNeg ∨ (v.1 0 12).toNatClampNeg + 9 ≤ j) → F j = M.1 11 j := fun j hj => by
    rw [hF]
    exact FM0 j hj
  have low : ∀ j : Nat, j < (w274.1 0 12).toNatClampNeg → M.1 11 j = w274.1 11 j := fun j hj => by
    rw [M7 j (by omega), n2 j (fun z => by have := rg j z; omega), N11, updN_ (by omega), a2.1.2 j (by omega)]
  have M1 : WOq K (wR u60 F) (w274.1 0 39).toInt (w274.1 0 12).toNatClampNeg (rsr (d3p (b ++ [evx 2 0 0])) b) := by
    refine rtW (T := u60.1 0 12 + 1) (decide_eq_false (fun q => q x52)) b _ a4 (by omega) (fun j g1 g2 => ⟨fun h => ?_, fun h => ?_⟩) ?_
    · rw [FM j (by omega), M7 j (by omega), n2 j h, N11]
      exact updN_ (by omega)
    · rw [FM j (by omega), M7 j (by omega)]
      exact n1 j h
    · show _ = _ + ((lwL (b ++ [evx 2 0 0]) : Nat) : Int)
      rw [lwL_app, show lwL [evx 2 0 0] = 1 from rfl]
      omega
  have A1 : WAq K (wR w274 F) (wR u60 F) (rsr (d3p (b ++ [evx 2 0 0])) b) := ⟨by rw [lwL_rsr]; exact a1, a2.wR, a3.wR, M1, by rw [fxL_rsr]; exact af.wR⟩
  have A2 : WAq K (wR u60 F) (wR u74 F) [evx 2 0 0] := by
    refine wdA i74 S74 (by omega) (fun i z hz => ?_) rfl rfl
    rw [rw2, nu0] at hz
    refine j1w ?_ hz
    rw [FM _ (by omega), M7 _ (by omega), n2 _ (fun z => by have := rg _ z; omega), N11]
    exact updS
  have A3 : WAq K (wR u74 F) (wR M F) [evx 1 0 0] := by
    refine wdA (by rw [m12]; exact j4) mS (by omega) (fun i z hz => ?_) rfl rfl
    rw [FM _ (by omega)]
    exact ME i z hz
  have x0 : 0 ≤ ((wR w274 F).1 0 12).toInt := by show 0 ≤ (w274.1 0 12).toInt; omega
  have x3 : 0 ≤ ((wR w274 F).1 0 43).toInt := by show 0 ≤ (w274.1 0 43).toInt; omega
  have A := (A1.tr A2 x0 x3).tr A3 x0 x3
  have A : WAq K (wR w274 F) (wR M F) (fnT b) := A
  have W1 := H1.wf
  have W2 := H2.wf
  have WZ : WFq v Z ∧ CWq v Z := by
    have := WAi.sm (K := K) z11 z12 zS ⟨q1, by rw [lwL_nil]; omega, q3⟩
    exact ⟨this.2.1, this.2.2.1⟩
  have V1 : WFq v w274 := (WZ.1.tr W1.1).tr W2.1
  have C1 : CWq v w274 := (WZ.2.tr W1.2 WZ.1 W1.1).tr W2.2 (WZ.1.tr W1.1) W2.1
  have uS := US
  obtain ⟨⟨s1, s2, s3, s4, s5, s6⟩, s7, s8⟩ := US
  have K1 : WFq (wR M F) U := ⟨⟨by rw [U12]; exact Int.le_refl _, fun j _ => by rw [← hF]; rfl⟩, ⟨by rw [s8]; exact Int.le_refl _, fun c _ => by rw [s4, s5, s6]; exact ⟨rfl, rfl, rfl⟩⟩, ⟨by rw [s7]; exact Int.le_refl _, fun c _ => by rw [s2, s3]; exact ⟨rfl, rfl⟩⟩, s1⟩
  have V2 : WFq (wR v F) U := (V1.wR.tr A.2.1).tr K1
  have C2 : CWq (wR v F) (wR M F) := (C1.wR).tr A.2.2.1 V1.wR A.2.1
  have lowv : ∀ j : Nat, (j : Int) < (v.1 0 12).toInt → F j = v.1 11 j := fun j hj => by
    rw [FM j (by omega), low j (by omega), V1.1.2 j hj]
  have o39 : (v.1 0 39).toInt ≤ (w274.1 0 39).toInt := V1.2.2.1.1
  refine ⟨?_, ⟨⟨V2.1.1, fun j hj => by rw [← hF]; exact lowv j hj⟩, V2.2⟩, ?_, ⟨fun i z hz => ?_, fun i z hz => ?_, ?_⟩, ?_⟩
  · have m := A.1
    have m : (M.1 0 12).toInt = (w274.1 0 12).toInt + lwL (fnT b) := m
    rw [U12, m]
    omega
  · unfold CWq
    rw [s7, U12, s3]
    exact C2
  · rw [← hF]
    have h0 : ∀ i : Nat, i < 9 → w252.1 11 ((v.1 0 12).toNatClampNeg + i) = 0 := fun i hi => by
      have := H1.1.2.1 i 0 (by rw [List.getElem?_replicate, if_pos hi])
      rw [z12] at this
      exact this
    have w5 : ∀ j : Nat, j < (v.1 0 12).toNatClampNeg + 9 → w274.1 11 j = w252.1 11 j := fun j hj => H2.1.2.2 j (by omega)
    rw [hF]
    exact FE (by rw [low _ (by omega), w5 _ (by omega), h0 1 (by omega)]) (by rw [low _ (by omega), w5 _ (by omega), h0 2 (by omega)]) i z hz
  · rw [← hF]
    have l := getl hz
    rw [lp] at l
    have n252 := natI (a := w252.1 0 12) (by omega)
    rw [FM _ (by omega), low _ (by omega), show (v.1 0 12).toNatClampNeg + 9 + i = (w252.1 0 12).toNatClampNeg + i by omega]
    exact H2.1.2.1 i z hz
  · rw [show (v.1 0 12).toNatClampNeg + 9 + 2 * np = (w274.1 0 12).toNatClampNeg by omega]
    exact A.2.2.2.1.up K1 o39
  · rw [show (v.1 0 12).toNatClampNeg + 9 + 2 * np = (w274.1 0 12).toNatClampNeg by omega]
    have f := A.2.2.2.2
    have n43 := natI q3
    have n43' := natI (a := w274.1 0 43) (by omega)
    have f1 : (M.1 0 43).toInt = (w274.1 0 43).toInt + (fxL (w274.1 0 12).toNatClampNeg (fnT b)).length := f.1
    refine ⟨by rw [s8]; omega, fun k e he => ?_⟩
    rw [s4, s5, s6, show (v.1 0 43).toNatClampNeg = (w274.1 0 43).toNatClampNeg by omega]
    exact f.2 k e he
end ZZN
