/-! the reference's words: a text read to its end -/
def tlW (u : MS) : List Int32 := (if (u.1 0 44).toInt = 0 then [] else tmW) ++ (if (u.1 0 45).toInt = 0 then [] else ovW)
/-- what stands behind, and where -/
def FTx (K : TK) (u : MS) (d : List (List Int32 × List EV)) : Prop := FTw K u d (tlW u) ∧ ((u.1 0 44).toInt ≠ 0 → u.1 0 67 = nI (2 + lnX d)) ∧ ((u.1 0 45).toInt ≠ 0 → u.1 0 68 = nI (2 + lnX d + if (u.1 0 44).toInt = 0 then 0 else 10))
section ZZZB
variable {n : Int} {K : TK} {e : PE} {v u w y w0 w80 w171 z : MS} {q : EV} {r : Int32} {k p N : Nat} {bz : Bool} {x : IS} {W : Nat → Int32} {d : List (List Int32 × List EV)} {ka kb L : Int32}
theorem tlW_cg (h4 : u.1 0 44 = v.1 0 44) (h5 : u.1 0 45 = v.1 0 45) : tlW u = tlW v := by unfold tlW; rw [h4, h5]
theorem tmW_len : tmW.length = 10 := rfl
theorem ovW_len : ovW.length = 26 := rfl
/-- the tail, the four roads -/
def TLr (w z : MS) : Prop := EMg w z (tlW w) [] ∧ FG [12, 67, 68] [0, 11] w z ∧ ((w.1 0 44).toInt ≠ 0 → z.1 0 67 = w.1 0 12) ∧ ((w.1 0 45).toInt ≠ 0 → z.1 0 68 = if (w.1 0 44).toInt = 0 then w.1 0 12 else w.1 0 12 + 10)
theorem FGt {fl al : List Nat} {z z2 : MS} (F : FG [12, 67, 68] [0, 11] w171 z) (G : FG fl al z z2) (s1 : ∀ i ∈ fl, i ∈ [12, 67, 68]) (s2 : ∀ i ∈ al, i ∈ [0, 11]) : FG [12, 67, 68] [0, 11] w171 z2 := ⟨G.1.trans F.1, fun i hi => (G.2.1 i (fun q => hi (s1 i q))).trans (F.2.1 i hi), fun a ha => (G.2.2 a (fun q => ha (s2 a q))).trans (F.2.2 a ha)⟩
theorem FGr : FG [12, 67, 68] [0, 11] w171 w171 := ⟨rfl, fun _ _ => rfl, fun _ _ => rfl⟩
theorem TLr.nn (h0 : 0 ≤ (w.1 0 12).toInt) (h1 : 0 ≤ (w.1 0 43).toInt) (c4 : (w.1 0 44).toInt = 0) (c5 : (w.1 0 45).toInt = 0) : TLr w w := by
  unfold TLr tlW
  rw [if_pos c4, if_pos c5]
  exact ⟨EMi.nl h0 h1, FGr, fun h => absurd c4 h, fun h => absurd c5 h⟩
theorem TLr.nd (h0 : 0 ≤ (w.1 0 12).toInt) (hb : (w.1 0 12).toInt ≤ 990000) (h1 : 0 ≤ (w.1 0 43).toInt) (c4 : (w.1 0 44).toInt = 0) (c5 : (w.1 0 45).toInt ≠ 0) (hD : Q_m_dividing w z) (hK : FG [12, 67, 68] [0, 11] w z) : TLr w z := by
  unfold TLr tlW
  rw [if_pos c4, if_neg c5]
  have D := diviW hD
  exact ⟨D.1 ⟨h0, by rw [ovW_len]; omega, h1⟩, hK, fun h => absurd c4 h, fun _ => by rw [if_pos c4]; exact D.2.1⟩
theorem TLr.mn (h0 : 0 ≤ (w.1 0 12).toInt) (hb : (w.1 0 12).toInt ≤ 990000) (h1 : 0 ≤ (w.1 0 43).toInt) (c4 : (w.1 0 44).toInt ≠ 0) (c5 : (w.1 0 45).toInt = 0) (hM : Q_m_multiplying w z) (hK : FG [12, 67, 68] [0, 11] w z) : TLr w z := by
  unfold TLr tlW
  rw [if_neg c4, if_pos c5, List.append_nil]
  have M := multW hM
  exact ⟨M.1 ⟨h0, by rw [tmW_len]; omega, h1⟩, hK, fun _ => M.2, fun h => absurd c5 h⟩
theorem TLr.md (h0 : 0 ≤ (w.1 0 12).toInt) (hb : (w.1 0 12).toInt ≤ 990000) (h1 : 0 ≤ (w.1 0 43).toInt) (c4 : (w.1 0 44).toInt ≠ 0) (c5 : (w.1 0 45).toInt ≠ 0) (hM : Q_m_multiplying w y) (hD : Q_m_dividing y z) (hK : FG [12, 67, 68] [0, 11] w z) : TLr w z := by
  unfold TLr tlW
  rw [if_neg c4, if_neg c5]
  have M := multW hM
  have D := diviW hD
  have A := (M.1.tr D.1) ⟨h0, by rw [List.length_append, tmW_len, ovW_len]; omega, h1⟩
  have B := (M.1 ⟨h0, by rw [tmW_len]; omega, h1⟩).1.1.1
  rw [tmW_len] at B
  have e10 : (w.1 0 12 + 10).toInt = (w.1 0 12).toInt + 10 := add_z rfl (by decide) (by omega) (by omega)
  refine ⟨A, hK, fun _ => D.2.2.trans M.2, fun _ => ?_⟩
  rw [if_neg c4, D.2.1]
  exact Int32.toInt_inj.mp (by omega)
set_option maxHeartbeats 1600000 in
theorem oWalkW (hn : 0 < n ∧ n ≤ 4002) (T : TR n K v) (V : VB n v) (h : Q_m_walk v N false u) : ∃ evs, gItems EvSP SP K 1502 X0 = some evs ∧ (u.1 0 22 = nI evs.length ∧ evs.length ≤ 40 ∧ ∀ q ∈ evs, q.1.length ≤ 8) ∧ (lnX evs ≤ 900000 → FTx K u evs ∧ ∀ q ∈ evs, ∀ e ∈ fnT q.2, e.1 ≠ 0) ∧ u.1 0 69 = (4 : Int32) * (u.1 0 12 + u.1 0 28) := by
  obtain ⟨u1, h1, r5, h5, u11, h11, w80, hr, b47, b48, b12, b15, b43, b39, b27, b22, b28, h⟩ := h
  obtain ⟨w0, hw⟩ : ∃ w0, w0 = wZ v r5 := ⟨_, rfl⟩
  have e0 : (wA (wA u11 11 ((u11.1 0 12).toNatClampNeg) (1048691 : Int32)) 0 12 ((u11.1 0 12) + (1 : Int32))) = w0 := by rw [hw, h11, h1]; rfl
  rw [e0] at hr
  have I0 : RIq n K (fun _ => 0) w0 X0 := by rw [hw]; exact rW0 T hn V
  have f15 : w0.1 0 15 = 0 := by rw [hw]; rfl
  have f39 : w0.1 0 39 = 0 := by rw [hw]; rfl
  have f43 : w0.1 0 43 = 0 := by rw [hw]; rfl
  have f12 : w0.1 0 12 = 0 + 1 + 1 := by rw [hw]; rfl
  have f22 : w0.1 0 22 = 0 := by rw [hw]; rfl
  have f47 : w0.1 0 47 = 0 := by rw [hw]; rfl
  have f11 : w0.1 11 = upd (upd (v.1 11) 0 r5) 1 1048691 := by rw [hw]; rfl
  have z0 : (0 : Int32).toInt = 0 := by decide
  have z2 : ((0 : Int32) + 1 + 1).toInt = 2 := by decide
  obtain ⟨y8, W8, d8, f8, I8, ⟨-, hg8⟩, hm8, OA1, ⟨d228, -⟩, -⟩ := oItemsM I0 (by rw [f15]; exact z0) f22 (by rw [f47]; exact z0) hr
  obtain ⟨y, W1, d, f, I1, ⟨hf, hg⟩, hm, ⟨d22, d40, dn8⟩, TX⟩ := oItemsW I0 f22 (by rw [f47]; exact z0) hr
  obtain ⟨f0, rfl⟩ : ∃ f0, f = f0 + 1 := ⟨f - 1, by omega⟩
  obtain ⟨f80, rfl⟩ : ∃ f0, f8 = f0 + 1 := ⟨f8 - 1, by omega⟩
  rcases h with ⟨c0, ka, hk, bk, ⟨ck, kb, w171, hr2, fr, bkb, ckb, h⟩ | ⟨ck, r209, hg2, -, ⟨c9, c10, f9, -⟩ | ⟨c9, f9, -⟩⟩⟩ | ⟨c0, u9, hi, f9, -⟩
  rotate_left
  · cases f9
  · cases f9
  · cases f9
  have kd9 : (kd (mkE K y.2.2) y.1).toInt = 0 := by
    rw [I1.2.1, kdB]
    exact (kd0 I1.1).mpr c0
  have hg2 : gItems EvSP SP K 1502 X0 = some d := by
    rw [hg]
    show (if (kd (mkE K y.2.2) y.1).toInt = 0 then some [] else _ : Option (List (List Int32 × List EV))).bind _ = _
    rw [if_pos kd9, Option.bind_some, List.append_nil]
  have e39 : w171.1 0 39 = w80.1 0 39 := fr.2.1 39 (fun q => nomatch q)
  rw [e39] at ckb
  have k171 : ∀ i, w171.1 0 i = w80.1 0 i := fun i => fr.2.1 i (fun q => nomatch q)
  have main : ∃ z L, ((w171.1 0 12).toInt ≤ 990000 → TLr w171 z) ∧ FG [12, 67, 68] [0, 11] w171 z ∧ Q_m_addresses (wA z 0 69 L) u ∧ L = (4 : Int32) * (z.1 0 12 + z.1 0 28) := by
    have p12 : 0 ≤ (w171.1 0 12).toInt := by rw [k171 12]; exact b12.1
    have p43 : 0 ≤ (w171.1 0 43).toInt := by rw [k171 43]; exact b43.1
    rcases h with ⟨c44, ⟨c45, ⟨c, u53, q1, q2, -, eu⟩ | ⟨c, f9, -⟩⟩ | ⟨c45, u72, g2, k2, ⟨c, u53, q1, q2, -, eu⟩ | ⟨c, f9, -⟩⟩⟩ | ⟨c44, u110, g1, k1, ⟨c45, ⟨c, u53, q1, q2, -, eu⟩ | ⟨c, f9, -⟩⟩ | ⟨c45, u72, g2, k2, ⟨c, u53, q1, q2, -, eu⟩ | ⟨c, f9, -⟩⟩⟩
    · rw [← eu] at q1
      exact ⟨w171, _, fun _ => TLr.nn p12 p43 c44 c45, FGr, q1, rfl⟩
    · cases f9
    · rw [← eu] at q1
      have G := FGt FGr k2.1 (by decide) (by decide)
      exact ⟨u72, _, fun hb => TLr.nd p12 hb p43 c44 c45 g2 G, G, q1, rfl⟩
    · cases f9
    · rw [← eu] at q1
      have G := FGt FGr k1.1 (by decide) (by decide)
      rw [G.2.1 45 (by decide)] at c45
      exact ⟨u110, _, fun hb => TLr.mn p12 hb p43 c44 c45 g1 G, G, q1, rfl⟩
    · cases f9
    · rw [← eu] at q1
      have G := FGt FGr k1.1 (by decide) (by decide)
      have G2 := FGt G k2.1 (by decide) (by decide)
      rw [G.2.1 45 (by decide)] at c45
      exact ⟨u72, _, fun hb => TLr.md p12 hb p43 c44 c45 g1 g2 G2, G2, q1, rfl⟩
    · cases f9
  obtain ⟨z, L, TL, G, hA, eL⟩ := main
  have ku : ∀ i, i ≠ 69 → u.1 0 i = z.1 0 i := fun i hi => by
    obtain ⟨-, -, -, kc, w2, -, g0, -, -, kd, w161, -, g1, -, -, eu⟩ := hA
    rw [eu, g1.2.1 i (fun q => nomatch q), g0.2.1 i (fun q => nomatch q)]
    exact updN_ hi
  have k69 : u.1 0 69 = L := by
    obtain ⟨-, -, -, kc, w2, -, g0, -, -, kd, w161, -, g1, -, -, eu⟩ := hA
    rw [eu, g1.2.1 69 (fun q => nomatch q), g0.2.1 69 (fun q => nomatch q)]
    show upd (z.1 0) 69 L 69 = L
    exact updS
  have u44 : u.1 0 44 = w171.1 0 44 := (ku 44 (by decide)).trans (G.2.1 44 (by decide))
  have u45 : u.1 0 45 = w171.1 0 45 := (ku 45 (by decide)).trans (G.2.1 45 (by decide))
  have u22 : u.1 0 22 = w80.1 0 22 := (ku 22 (by decide)).trans ((G.2.1 22 (by decide)).trans (k171 22))
  refine ⟨d, hg2, ⟨by rw [u22, d22], d40, dn8⟩, fun bd => ?_, ?_⟩
  rotate_left
  · rw [k69, eL, ku 12 (by decide), ku 28 (by decide)]
  have TX := TX ⟨by rw [f12, z2]; omega, by rw [f12, z2]; omega, by rw [f43, z0]; omega⟩
  have t1 := TX.1
  rw [f12, z2] at t1
  have kd8 : (kd (mkE K y8.2.2) y8.1).toInt = 0 := by
    rw [I8.2.1, kdB]
    exact (kd0 I8.1).mpr c0
  have hg8 : gItems EvSP SP K 1502 X0 = some d8 := by
    rw [hg8]
    show (if (kd (mkE K y8.2.2) y8.1).toInt = 0 then some [] else _ : Option (List (List Int32 × List EV))).bind _ = _
    rw [if_pos kd8, Option.bind_some, List.append_nil]
  have ed : d8 = d := Option.some.inj (hg8.symm.trans hg2)
  rw [ed] at OA1
  have w12 : (w171.1 0 12).toInt = 2 + lnX d := by rw [k171 12]; exact t1
  obtain ⟨R1, R2, R3, R4⟩ := TL (by omega)
  have tb : (tlW w171).length ≤ 100 := by
    unfold tlW
    rw [List.length_append]
    split <;> split <;> simp [tmW_len, ovW_len]
  have F := finW TX (by rw [f12]; exact z2) (by rw [f39]; exact z0) (by rw [f43]; exact z0) (by rw [f15]; exact z0) ⟨by rw [f11, updN_ (by decide), updS]; exact eAddi h5, by rw [f11, updS]⟩ OA1 I1.1 I1.2.2.2.2.2.1 d22 d40 b39.1 hk ck hr2 ckb fr R1 R2 hA bd tb
  have n12 : w171.1 0 12 = nI (2 + lnX d) := by
    have e := nI_nat (x := w171.1 0 12) (by omega)
    rw [natC (k := w171.1 0 12) (n := 2 + lnX d) (by omega)] at e
    exact e.symm
  refine ⟨⟨?_, fun c => ?_, fun c => ?_⟩, TXw.ne0 d _ _ TX.2.2.2.1⟩
  · rw [tlW_cg u44 u45]
    exact F.1
  · rw [u44] at c
    rw [F.2.1, R3 c, n12]
  · rw [u45] at c
    rw [F.2.2, R4 c, u44]
    by_cases g : (w171.1 0 44).toInt = 0
    · rw [if_pos g, if_pos g, n12, Nat.add_zero]
    · rw [if_neg g, if_neg g]
      refine Int32.toInt_inj.mp ?_
      have e10 : (w171.1 0 12 + 10).toInt = (w171.1 0 12).toInt + 10 := add_z rfl (by decide) (by omega) (by omega)
      rw [e10, nI_Z (show 2 + lnX d + 10 < 2147483648 by omega)]
      omega
end ZZZB
