/-! the words of both: all of them -/
section ZZZI
variable {K : TK} {x u v w : MS} {a X Y : List EV} {q : EV} {P n p k np m M : Nat} {L R T O tl : List Int32} {L1 L2 : List Nat} {d : List (List Int32 × List EV)} {c : WC} {z s t y z2 : Int32} {gm : Nat → Int32}
theorem tm_ne : tmW ≠ [] := fun h => by
  have := congrArg List.length h
  rw [tmW_len] at this
  exact absurd this (by decide)
theorem ov_ne : ovW ≠ [] := fun h => by
  have := congrArg List.length h
  rw [ovW_len] at this
  exact absurd this (by decide)
set_option maxHeartbeats 1600000 in
theorem cmpAll (h : CMx L1 L2 K u x d) (FX : FTx K x d) (ne0 : ∀ q ∈ d, ∀ e ∈ fnT q.2, e.1 ≠ 0) (CW : CWD L1 L2 u m T O c) (hD : ∀ X q Y, txE 0 d = X ++ q :: Y → DTq L1 u q (ldL X)) (hm : m = ldL (txE 0 d)) (m3 : m ≤ 3008) (JS : JLs (txW 0 d)) (lb : lnX d ≤ 900000) (h5 : ∀ X q Y, txE 0 d = X ++ q :: Y → q.1 = 5 ∨ q.1 = 6 → (q.2.1.toNatClampNeg : Int) < (x.1 0 27).toInt) : ∀ p : Nat, (p : Int) < (x.1 0 12).toInt → u.1 382 p = x.1 11 p := by
  obtain ⟨F, F7, F8⟩ := FX
  have em := txE_map d 0 ne0
  have sp : ∀ X q Y, txW 0 d = X ++ q :: Y → txE 0 d = X.map z0E ++ z0E q :: Y.map z0E := fun X q Y e => by rw [em, e, List.map_append, List.map_cons]
  have hD' : ∀ X q Y, txW 0 d = X ++ q :: Y → DTq L1 u (z0E q) (ldL X) := fun X q Y e => by
    have := hD _ _ _ (sp X q Y e)
    rw [ldL_z0] at this
    exact this
  have hm' : m = ldL (txW 0 d) := by rw [hm, em, ldL_z0]
  have h5' : ∀ X q Y, txW 0 d = X ++ q :: Y → q.1 = 5 ∨ q.1 = 6 → (q.2.1.toNatClampNeg : Int) < (x.1 0 27).toInt := fun X q Y e c => by
    have n0 : q.1 ≠ 0 := by rcases c with c | c <;> (rw [c]; decide)
    have := h5 _ _ _ (sp X q Y e)
    rw [z0n n0] at this
    exact this c
  have hA : ∀ X Y, txW 0 d = X ++ Y → AA L1 u (ldL X) = 2 + lwL X := fun X Y e => by
    have := aaE (a := txW 0 d) (L1 := L1) (u := u) (fun X q Y e h1 => lenE h F (hD' X q Y e) e h1) (fun q => lwE25) X [] Y (by rw [List.nil_append]; exact e) (by rw [ldL_nil, lwL_nil]; rfl)
    rw [List.nil_append] at this
    exact this
  have lw := F.1.1
  have x12 := F.1.2
  have aM : AA L1 u m = 2 + lwL (txW 0 d) := by
    rw [hm']
    exact hA (txW 0 d) [] (by rw [List.append_nil])
  have CW' := CW
  obtain ⟨⟨t1, t2, t3⟩, -, ⟨⟨w0, w1⟩, -, w3⟩, fl⟩ := CW
  rw [aM] at t3 w3
  have e12 : (u.1 0 383).toInt = (x.1 0 12).toInt := by rw [h.2.2.1.1]
  obtain ⟨Tx, hTx⟩ : ∃ Tx, Tx = if (x.1 0 44).toInt = 0 then [] else tmW := ⟨_, rfl⟩
  obtain ⟨Ox, hOx⟩ : ∃ Ox, Ox = if (x.1 0 45).toInt = 0 then [] else ovW := ⟨_, rfl⟩
  have tlx : tlW x = Tx ++ Ox := by
    unfold tlW
    rw [← hTx, ← hOx]
  have tTx : Tx = [] ∨ Tx = tmW := by
    rw [hTx]
    split
    · exact Or.inl rfl
    · exact Or.inr rfl
  have tOx : Ox = [] ∨ Ox = ovW := by
    rw [hOx]
    split
    · exact Or.inl rfl
    · exact Or.inr rfl
  rw [tlx, List.length_append] at x12
  obtain ⟨eT, eO⟩ := tl_eq ⟨t1, t2⟩ ⟨tTx, tOx⟩ (by omega)
  have tb : T.length ≤ 10 := by
    rcases t1 with g | g
    · rw [g]; exact Nat.zero_le _
    · rw [g, tmW_len]; exact Nat.le_refl _
  have k44 : T = tmW → (x.1 0 44).toInt ≠ 0 := fun g c => by
    rw [if_pos c] at hTx
    exact tm_ne (g.symm.trans (eT.trans hTx))
  have k45 : O = ovW → (x.1 0 45).toInt ≠ 0 := fun g c => by
    rw [if_pos c] at hOx
    exact ov_ne (g.symm.trans (eO.trans hOx))
  have lT : T.length = if (x.1 0 44).toInt = 0 then 0 else 10 := by
    rw [eT, hTx]
    split
    · rfl
    · exact tmW_len
  intro p hp
  by_cases p2 : p < 2
  · by_cases p0 : p = 0
    · rw [p0, w0, F.2.1.1]
    · have p1 : p = 1 := by omega
      rw [p1, w1, F.2.1.2]
  by_cases pl : p < 2 + lwL (txW 0 d)
  · obtain ⟨X, q, Y, i, e1, e2, e3⟩ := at_lw (txW 0 d) (p - 2) (by omega)
    have h1 : ldE q = 1 := if_neg (fun c => by rw [lwE25 c] at e2; omega)
    have := cmpE h F CW' hD' hm' m3 JS hA (by omega) h5' (fun g => by rw [lw]; exact F7 (k44 (fl.1 g))) (fun g => by rw [lw, lT]; exact F8 (k45 (fl.2 g))) tb e1 h1 i e2
    rw [show p = 2 + lwL X + i by omega]
    exact this
  · have li : p - (2 + lwL (txW 0 d)) < (T ++ O).length := by
      rw [List.length_append, eT, eO]
      omega
    have g := List.getElem?_eq_getElem li
    have A := w3 _ _ g
    have B := F.2.2.1 (p - (2 + lwL (txW 0 d))) _ (by rw [tlx, ← eT, ← eO]; exact g)
    rw [← lw] at B
    rw [show 2 + lwL (txW 0 d) + (p - (2 + lwL (txW 0 d))) = p by omega] at A B
    rw [A, B]
end ZZZI
