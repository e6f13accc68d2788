/-! the reference's words: the primitives -/
def fxS (s : Int32) (p : Nat) : List (Nat × Int32 × Int32) := if s = 55 then [(p, -1, 5)] else if s = 56 ∨ s = 57 then [(p, -2, 5)] else []
section ZWP
variable {K : TK} {v u w x y V : MS} {q : EV} {pa pb pc1 r s x9 y9 : Int32} {gm : Nat → Int32}
theorem rw4 : rwE gm (evx 4 x9 y9) = [sW 10 (fW x9) 8] := rfl
theorem rw6 : rwE gm (evx 6 x9 y9) = [uW 6 0, sW 10 (loW 0) 6] := rfl
theorem rw7 : rwE gm (evx 7 x9 y9) = inW (gm x9.toNatClampNeg) 0 := rfl
theorem rw8 : rwE gm (evx 8 x9 y9) = [iW 8195 10 10 (loW 0)] := rfl
theorem rw9 : rwE gm (evx 9 x9 y9) = [iW 19 10 10 (loW 0), sW 10 (fW y9) 8] := rfl
theorem rw10 : rwE gm (evx 10 x9 y9) = [iW 8195 10 10 0] := rfl
theorem rw11 : rwE gm (evx 11 x9 y9) = [iW 8195 6 8 (fW x9), sW 10 0 6] := rfl
theorem rw12 : rwE gm (evx 12 x9 y9) = [iW 1073741875 10 0 10] := rfl
theorem rw13 : rwE gm (evx 13 x9 y9) = [iW 12307 10 10 1] := rfl
theorem rw14 : rwE gm (evx 14 x9 y9) = [iW 16403 10 10 (-1)] := rfl
theorem rw15 : rwE gm (evx 15 x9 y9) = [iW 12339 10 0 10] := rfl
theorem rw20 : rwE gm (evx 20 x9 y9) = iW 8195 5 8 (fW y9) :: sgR x9 := rfl
theorem rw22 : rwE gm (evx 22 x9 y9) = [iW 19 17 0 1, 115] := rfl
theorem rw23 : rwE gm (evx 23 x9 y9) = [iW 19 17 0 2, 115] := rfl
theorem fx20 : fxE (evx 20 x9 y9) = if x9 = 55 then [(1, -1, 5)] else if x9 = 56 ∨ x9 = 57 then [(1, -2, 5)] else [] := rfl
theorem wLoads2 (h : Q_m_loads v pa u) : WAi K v u [evx 2 pa 0] := fun _ => wLoads h
theorem wFetch (h : Q_m_fetch v pa pb u) : WAi K v u [if 0 ≤ pa.toInt then evx 3 pa 0 else evx 5 pb 0] := by
  obtain ⟨z12, z15, z43, z27, h⟩ := h
  rcases h with ⟨c, r6, h6, u12, f12, k12, r17, h17, u24, f24, k24, rfl⟩ | ⟨c, r43, h43, r46, h46, rfl⟩
  · rw [if_neg (by omega)]
    obtain rfl := eLui h6 hw00
    obtain rfl := eLw h17
    have e12 : u12.1 0 12 = v.1 0 12 + 1 := (k12.1.2.1 12 (by decide)).trans rfl
    have A2 := (EMi.one (v := v)).fx (k := 0) f12 (fun _ _ => (Int.add_zero _).symm)
    have A3 := A2.snc (w := wA (wA u12 11 ((u12.1 0 12).toNatClampNeg) (iW 8195 10 6 0)) 0 12 ((u12.1 0 12) + (1 : Int32))) rfl rfl
    have A4 := A3.fx (k := 1) f24 (fun a b => by rw [e12]; exact ad1 a b)
    exact EMi.ev (by rw [rw5, ← lw00]; exact A4.nil (EMi.sm rfl rfl)) (by rw [rw5, lw5]; rfl)
  · rw [if_pos c]
    obtain rfl := eSlot h43
    obtain rfl := eLw h46
    exact EMi.ev (by rw [rw3]; exact EMi.w1 rfl rfl) (by rw [rw3, lw3]; rfl)
theorem wStore (h : Q_m_store v pa pb u) : WAi K v u [if 0 ≤ pa.toInt then evx 4 pa 1 else evx 6 pb 0] := by
  obtain ⟨z12, z15, z43, z27, h⟩ := h
  rcases h with ⟨c, r6, h6, u12, f12, k12, r17, h17, u24, f24, k24, rfl⟩ | ⟨c, r43, h43, r46, h46, rfl⟩
  · rw [if_neg (by omega)]
    obtain rfl := eLui h6 hw00
    obtain rfl := eSw h17
    have e12 : u12.1 0 12 = v.1 0 12 + 1 := (k12.1.2.1 12 (by decide)).trans rfl
    have A2 := (EMi.one (v := v)).fx (k := 0) f12 (fun _ _ => (Int.add_zero _).symm)
    have A3 := A2.snc (w := wA (wA u12 11 ((u12.1 0 12).toNatClampNeg) (sW 10 0 6)) 0 12 ((u12.1 0 12) + (1 : Int32))) rfl rfl
    have A4 := A3.fx (k := 1) f24 (fun a b => by rw [e12]; exact ad1 a b)
    exact EMi.ev (by rw [rw6, ← lw00]; exact A4.nil (EMi.sm rfl rfl)) rfl
  · rw [if_pos c]
    obtain rfl := eSlot h43
    obtain rfl := eSw h46
    exact EMi.ev (by rw [rw4]; exact EMi.w1 rfl rfl) rfl
set_option maxHeartbeats 800000 in
theorem wOper {zz : Int32 × Int32} (hz : zz ∈ SC) (h1 : zz.1 = pa) (hr : 53 ≤ zz.2.toInt ∧ zz.2.toInt ≤ 68) (h : Q_m_operate v pa u) : EMi v u (sgR zz.2) (fxS zz.2 (v.1 0 12).toNatClampNeg) := by
  obtain ⟨z12, z15, z43, h⟩ := h
  have S : ∀ {a b : Int32}, (∀ z ∈ SC, z.1 = a → z.2 = b) → pa = a → zz.2 = b := fun g e => g zz hz (h1.trans e)
  have L : ∀ z ∈ SC, (53 : Int) ≤ z.2.toInt ∧ z.2.toInt ≤ 68 → z.1 ≠ 38 → z.1 ≠ 42 → z.1 ≠ 43 → z.1 ≠ 45 → z.1 ≠ 60 → z.1 ≠ 62 → z.1 ≠ 94 → z.1 ≠ 124 → z.1 ≠ 15420 → z.1 ≠ 15649 → z.1 ≠ 15676 → z.1 ≠ 15677 → z.1 ≠ 15678 → z.1 ≠ 15934 → (z.2 = 56 ∧ z.1 = 47) ∨ (z.2 = 57 ∧ z.1 = 37) := by decide
  rcases h with ⟨a1, r11, g, rfl⟩ | ⟨a1, ⟨a2, u22, g, k22, rfl⟩ | ⟨a2, ⟨a3, r30, g, rfl⟩ | ⟨a3, ⟨a4, r38, g, rfl⟩ | ⟨a4, ⟨a5, r46, g, rfl⟩ | ⟨a5, ⟨a6, r54, g, rfl⟩ | ⟨a6, ⟨a7, r62, g, rfl⟩ | ⟨a7, ⟨a8, r70, g, rfl⟩ | ⟨a8, ⟨a9, r78, g, rfl⟩ | ⟨a9, ⟨a10, r86, g, r93, g2, rfl⟩ | ⟨a10, ⟨a11, r101, g, r108, g2, rfl⟩ | ⟨a11, ⟨a12, r116, g, r123, g2, rfl⟩ | ⟨a12, ⟨a13, r131, g, r138, g2, rfl⟩ | ⟨a13, ⟨a14, r146, g, rfl⟩ | ⟨a14, u156, g, k156, h⟩⟩⟩⟩⟩⟩⟩⟩⟩⟩⟩⟩⟩⟩
  · rw [S (b := 58) (by decide) a1]
    obtain rfl := eR g (f := 28723) (by decide)
    exact EMi.w1 rfl rfl
  · rw [S (b := 55) (by decide) a2]
    exact (EMi.w1 (v := v) (r := 0) (u := wA (wA (wA (wA (wA v 13 ((v.1 0 15).toNatClampNeg) (21 : Int32)) 14 ((v.1 0 15).toNatClampNeg) pa) 0 15 ((v.1 0 15) + (1 : Int32))) 11 ((v.1 0 12).toNatClampNeg) (0 : Int32)) 0 12 ((v.1 0 12) + (1 : Int32))) rfl rfl).fx (k := 0) g (fun _ _ => (Int.add_zero _).symm)
  · rw [S (b := 53) (by decide) a3]
    obtain rfl := eR g (f := 51) (by decide)
    exact EMi.w1 rfl rfl
  · rw [S (b := 54) (by decide) a4]
    obtain rfl := eR g (f := 1073741875) (by decide)
    exact EMi.w1 rfl rfl
  · rw [S (b := 65) (by decide) a5]
    obtain rfl := eR g (f := 8243) (by decide)
    exact EMi.w1 rfl rfl
  · rw [S (b := 67) (by decide) a6]
    obtain rfl := eR g (f := 8243) (by decide)
    exact EMi.w1 rfl rfl
  · rw [S (b := 60) (by decide) a7]
    obtain rfl := eR g (f := 16435) (by decide)
    exact EMi.w1 rfl rfl
  · rw [S (b := 59) (by decide) a8]
    obtain rfl := eR g (f := 24627) (by decide)
    exact EMi.w1 rfl rfl
  · rw [S (b := 61) (by decide) a9]
    obtain rfl := eR g (f := 4147) (by decide)
    exact EMi.w1 rfl rfl
  · rw [S (b := 64) (by decide) a10]
    obtain rfl := eR g (f := 1073741875) (by decide)
    obtain rfl := eR g2 (f := 12339) (by decide)
    exact EMi.w2 rfl rfl
  · rw [S (b := 66) (by decide) a11]
    obtain rfl := eR g (f := 8243) (by decide)
    obtain rfl := eI g2 (f := 16403) (by decide)
    exact EMi.w2 rfl rfl
  · rw [S (b := 63) (by decide) a12]
    obtain rfl := eR g (f := 1073741875) (by decide)
    obtain rfl := eI g2 (f := 12307) (by decide)
    exact EMi.w2 rfl rfl
  · rw [S (b := 68) (by decide) a13]
    obtain rfl := eR g (f := 8243) (by decide)
    obtain rfl := eI g2 (f := 16403) (by decide)
    exact EMi.w2 rfl rfl
  · rw [S (b := 62) (by decide) a14]
    obtain rfl := eR g (f := 1073762355) (by decide)
    exact EMi.w1 rfl rfl
  · have A := (EMi.w1 (v := v) (r := 0) (u := wA (wA (wA (wA (wA v 13 ((v.1 0 15).toNatClampNeg) (21 : Int32)) 14 ((v.1 0 15).toNatClampNeg) pa) 0 15 ((v.1 0 15) + (1 : Int32))) 11 ((v.1 0 12).toNatClampNeg) (0 : Int32)) 0 12 ((v.1 0 12) + (1 : Int32))) rfl rfl).fx (k := 0) g (fun _ _ => (Int.add_zero _).symm)
    have M := L zz hz hr (by rw [h1]; exact a1) (by rw [h1]; exact a2) (by rw [h1]; exact a3) (by rw [h1]; exact a4) (by rw [h1]; exact a5) (by rw [h1]; exact a6) (by rw [h1]; exact a7) (by rw [h1]; exact a8) (by rw [h1]; exact a9) (by rw [h1]; exact a10) (by rw [h1]; exact a11) (by rw [h1]; exact a12) (by rw [h1]; exact a13) (by rw [h1]; exact a14)
    rw [h1] at M
    rcases M with ⟨m1, m2⟩ | ⟨m1, m2⟩
    · rw [m1]
      rcases h with ⟨-, rfl⟩ | ⟨c, -⟩
      · exact A
      · rw [m2] at c
        exact absurd c (by decide)
    · rw [m1]
      rcases h with ⟨c, -⟩ | ⟨-, r166, g2, rfl⟩
      · rw [m2] at c
        exact absurd c (by decide)
      · obtain rfl := eAddi g2
        exact A.snc rfl rfl
/-- a sign, with what was put by -/
theorem wSgn {zz : Int32 × Int32} (hz : zz ∈ SC) (h1 : zz.1 = pa) (hr : 53 ≤ zz.2.toInt ∧ zz.2.toInt ≤ 68) (w11 : w.1 11 = upd (v.1 11) (v.1 0 12).toNatClampNeg (iW 8195 5 8 (fW s))) (w12 : w.1 0 12 = v.1 0 12 + 1) (h : Q_m_operate w pa u) (hs : SMw v w := by exact ⟨⟨rfl, rfl, rfl, rfl, rfl, rfl⟩, rfl, rfl⟩) : WAi K v u [evx 20 zz.2 s] := by
  have LL : ∀ z ∈ SC, (53 : Int) ≤ z.2.toInt ∧ z.2.toInt ≤ 68 → (sgR z.2).length + 1 = (1 + opz z.2).toNatClampNeg := by decide
  refine EMi.ev (fun B => ?_) (by rw [rw20]; exact LL zz hz hr)
  have T := ((EMi.w1 w11 w12 hs).tr (wOper hz h1 hr h)) (by rw [rw20] at B; exact B)
  have n1 := natI B.1
  have b1 := B.1
  have b2 := B.2.1
  have e := ad1 B.1 (by omega)
  rw [← w12] at e
  have n2 := natI (a := w.1 0 12) (by omega)
  rw [show (w.1 0 12).toNatClampNeg = (v.1 0 12).toNatClampNeg + 1 by omega] at T
  rw [rw20, fx20]
  unfold fxS at T
  by_cases c1 : zz.2 = 55
  · rw [if_pos c1] at T ⊢
    exact T
  · rw [if_neg c1] at T ⊢
    by_cases c2 : zz.2 = 56 ∨ zz.2 = 57
    · rw [if_pos c2] at T ⊢
      exact T
    · rw [if_neg c2] at T ⊢
      exact T
theorem slM (h : Q_m_slots v pa r u) : r = gsl (knM K v) (v.1 0 32) := by
  obtain ⟨z30, -, -, -, h⟩ := h
  have e : gsl (knM K v) (v.1 0 32) = v.1 0 30 + v.1 0 32 := by
    unfold gsl knM
    rw [List.length_map, List.length_range, nI_nat z30.1]
  rw [e]
  rcases h with ⟨-, ⟨-, e, -⟩ | ⟨-, e, -⟩⟩ | ⟨-, e, -⟩ <;> exact e
/-- a number is put by -/
theorem wKeep (h11 : u.1 11 = upd (v.1 11) (v.1 0 12).toNatClampNeg (sW 10 (fW s) 8)) (h12 : u.1 0 12 = v.1 0 12 + 1) (hs : SMw v u := by exact ⟨⟨rfl, rfl, rfl, rfl, rfl, rfl⟩, rfl, rfl⟩) : WAi K v u [evx 4 s y9] := EMi.ev (by rw [rw4]; exact EMi.w1 h11 h12 hs) rfl
/-- an address is put by -/
theorem wHold (f : Q_m_fix (wA (wA v 11 ((v.1 0 12).toNatClampNeg) (iW 19 10 10 0)) 0 12 ((v.1 0 12) + (1 : Int32))) (v.1 0 12) pb 3 w) (h11 : u.1 11 = upd (w.1 11) (w.1 0 12).toNatClampNeg (sW 10 (fW s) 8)) (h12 : u.1 0 12 = w.1 0 12 + 1) (hs : SMw w u := by exact ⟨⟨rfl, rfl, rfl, rfl, rfl, rfl⟩, rfl, rfl⟩) : WAi K v u [evx 9 pb s] := by
  have F := (EMi.one (v := v)).fx (k := 0) f (fun _ _ => (Int.add_zero _).symm)
  refine EMi.ev ?_ rfl
  rw [rw9, ← lw00]
  exact F.snc h11 h12 hs
theorem wDeref (h11 : u.1 11 = upd (v.1 11) (v.1 0 12).toNatClampNeg (iW 8195 10 10 0)) (h12 : u.1 0 12 = v.1 0 12 + 1) (hs : SMw v u := by exact ⟨⟨rfl, rfl, rfl, rfl, rfl, rfl⟩, rfl, rfl⟩) : WAi K v u [evx 10 0 0] := EMi.ev (by rw [rw10]; exact EMi.w1 h11 h12 hs) rfl
theorem wPutAt (h11 : u.1 11 = upd (upd (v.1 11) (v.1 0 12).toNatClampNeg (iW 8195 6 8 (fW s))) (v.1 0 12 + 1).toNatClampNeg (sW 10 0 6)) (h12 : u.1 0 12 = v.1 0 12 + 1 + 1) (hs : SMw v u := by exact ⟨⟨rfl, rfl, rfl, rfl, rfl, rfl⟩, rfl, rfl⟩) : WAi K v u [evx 11 s 0] := EMi.ev (by rw [rw11]; exact EMi.w2 h11 h12 hs) rfl
theorem wRow (f : Q_m_fix (wA (wA v 11 ((v.1 0 12).toNatClampNeg) (iW 8195 10 10 0)) 0 12 ((v.1 0 12) + (1 : Int32))) (v.1 0 12) pb 1 u) : WAi K v u [evx 8 pb 0] := by
  have F := (EMi.one (v := v)).fx (k := 0) f (fun _ _ => (Int.add_zero _).symm)
  refine EMi.ev ?_ rfl
  rw [rw8, ← lw00]
  exact F
end ZWP
