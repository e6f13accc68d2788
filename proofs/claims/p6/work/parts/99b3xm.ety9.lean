/-! events' types: do, for -/
section XMT
variable {G G' Dl : List PL3} {K k : Nat} {a b c st : List EV} {q : EV} {s t u : ST3} {D : PL3}
theorem TYy.pc (h : TYy G Dl K a s t) (k : ∀ D ∈ G, D ∈ Dl ∨ D ∈ G') : TYy G' Dl K a s t := by
  obtain ⟨τ, a1, a2, a3, a4, a5⟩ := h
  refine ⟨τ, a1, a2, a3, fun i q hq => ?_, a5⟩
  obtain ⟨c1, c2, c3⟩ := a4 i q hq
  refine ⟨c1, c2, fun hl => ?_⟩
  rcases c3 hl with c3 | ⟨D, d1, d2, d3, d4⟩
  · exact Or.inl c3
  · rcases k D d1 with g | g
    · obtain ⟨j, j1, j2, j3, j4⟩ := a5 D g
      exact Or.inl ⟨j, j1, by omega, by omega, d4.tr j4⟩
    · exact Or.inr ⟨D, g, d2, d3, d4⟩
theorem tyDo (hb : TYe k b (k, 0, 0) (k, 0, 0)) (hc : TYe k c (k, 0, 0) (k, 0, 1)) : TYe k (gDoL b c) (k, 0, 0) (k, 0, 0) := by
  have l17 : ldL [evx 17 0 0] = 1 ∧ loL [evx 17 0 0] = 1 := ⟨rfl, rfl⟩
  have l24 : ldL [evx 24 0 0] = 1 ∧ loL [evx 24 0 0] = 1 := ⟨rfl, rfl⟩
  obtain ⟨Z, hZ⟩ : ∃ Z, Z = bwE 17 0 ([evx 24 0 0] ++ b ++ c) := ⟨_, rfl⟩
  have eZ : ldE Z = 1 ∧ loE Z = 1 := by rw [hZ]; exact ⟨rfl, rfl⟩
  have dZ : Z.2.2.2.1 = -((1 : Int) + ldL b + ldL c) ∧ Z.2.2.2.2.1 = -((1 : Int) + loL b + loL c) := by
    rw [hZ]
    refine ⟨?_, ?_⟩
    · show -((ldL ([evx 24 0 0] ++ b ++ c) : Nat) : Int) = _
      rw [ldL_app, ldL_app, l24.1]; omega
    · show -((loL ([evx 24 0 0] ++ b ++ c) : Nat) : Int) = _
      rw [loL_app, loL_app, l24.2]; omega
  obtain ⟨B, hB⟩ : ∃ B : D3, B = d3p (b ++ c ++ [evx 17 0 0]) := ⟨_, rfl⟩
  obtain ⟨C, hC⟩ : ∃ C : D3, C = d3p b := ⟨_, rfl⟩
  have dB : B.1 = (ldL b : Int) + ldL c + 1 ∧ B.2.1 = (loL b : Int) + loL c + 1 := by
    rw [hB]
    refine ⟨?_, ?_⟩
    · show ((ldL (b ++ c ++ [evx 17 0 0]) : Nat) : Int) = _
      rw [ldL_app, ldL_app, l17.1]; omega
    · show ((loL (b ++ c ++ [evx 17 0 0]) : Nat) : Int) = _
      rw [loL_app, loL_app, l17.2]; omega
  have dC : C.1 = ldL b ∧ C.2.1 = loL b := by rw [hC]; exact ⟨rfl, rfl⟩
  let G : List PL3 := [(0, 0, (k, 0, 0)), (1 + (ldL b : Int), 1 + (loL b : Int), (k, 0, 0)), (2 + (ldL b : Int) + ldL c, 2 + (loL b : Int) + loL c, (k, 0, 0))]
  have T1 : TYy G _ k [evx 24 0 0] (k, 0, 0) (k, 0, 0) := TYy.of tyTurn (Nat.le_refl _) (Nat.le_refl _)
  have T2 : TYy (G.map (shP [evx 24 0 0])) _ k (rsv B C b) (k, 0, 0) (k, 0, 0) := (TYy.rs (B := B) (C := C) hb (Nat.le_refl _) (Nat.le_refl _)).gw (fun D hD => by
    simp only [List.mem_cons, List.not_mem_nil, or_false] at hD
    rcases hD with rfl | rfl
    · refine List.mem_cons_of_mem _ (List.mem_cons_of_mem _ (List.mem_singleton.mpr (PLx ?_ ?_)))
      · show _ = 2 + (ldL b : Int) + ldL c - ldL [evx 24 0 0]
        rw [l24.1]; omega
      · show _ = 2 + (loL b : Int) + loL c - loL [evx 24 0 0]
        rw [l24.2]; omega
    · refine List.mem_cons_of_mem _ (List.mem_cons.mpr (Or.inl (PLx ?_ ?_)))
      · show _ = 1 + (ldL b : Int) - ldL [evx 24 0 0]
        rw [l24.1]; omega
      · show _ = 1 + (loL b : Int) - loL [evx 24 0 0]
        rw [l24.2]; omega)
  have T3 : TYy ((G.map (shP [evx 24 0 0])).map (shP (rsv B C b))) _ k c (k, 0, 0) (k, 0, 1) := TYy.of hc (Nat.le_refl _) (Nat.le_refl _)
  have pZ : preT Z (k, 0, 1) := by rw [hZ]; exact (show (1 : Nat) = 1 from rfl)
  have T4 : TYy (((G.map (shP [evx 24 0 0])).map (shP (rsv B C b))).map (shP c)) _ k [Z] (k, 0, 1) (k, 0, 0) := TYy.lp (D := shP c (shP (rsv B C b) (shP [evx 24 0 0] (0, 0, (k, 0, 0))))) pZ (Or.inr (by rw [hZ]; exact le3.rf)) List.mem_cons_self (by
      show (0 : Int) - ldL [evx 24 0 0] - ldL (rsv B C b) - ldL c = _
      rw [ldL_rsv, l24.1]; omega) (by
      show (0 : Int) - loL [evx 24 0 0] - loL (rsv B C b) - loL c = _
      rw [loL_rsv, l24.2]; omega) (by rw [hZ]; exact le3.rf) (Nat.le_refl _) (Nat.le_refl _)
  have T := T1.app (T2.app (T3.app T4))
  have e : gDoL b c = [evx 24 0 0] ++ (rsv B C b ++ (c ++ [Z])) := by
    unfold gDoL
    rw [hB, hC, hZ]
    simp only [List.append_assoc]
  rw [e]
  refine T.cl (fun D hD => ?_)
  simp only [G, List.mem_cons, List.not_mem_nil, or_false] at hD
  rcases hD with rfl | rfl | rfl
  · exact List.mem_append.mpr (Or.inl List.mem_cons_self)
  · refine List.mem_append.mpr (Or.inr (List.mem_map.mpr ⟨((ldL b : Int), (loL b : Int), (k, 0, 0)), List.mem_append.mpr (Or.inl List.mem_cons_self), PLx ?_ ?_⟩))
    · show (ldL b : Int) + ldL [evx 24 0 0] = _
      rw [l24.1]; omega
    · show (loL b : Int) + loL [evx 24 0 0] = _
      rw [l24.2]; omega
  · refine List.mem_append.mpr (Or.inr (List.mem_map.mpr ⟨unP (rsv B C b) (unP c ((ldE Z : Int), (loE Z : Int), (k, 0, 0))), List.mem_append.mpr (Or.inr (List.mem_map.mpr ⟨_, List.mem_append.mpr (Or.inr (List.mem_map.mpr ⟨_, List.mem_cons_of_mem _ List.mem_cons_self, rfl⟩)), rfl⟩)), PLx ?_ ?_⟩))
    · show (ldE Z : Int) + ldL c + ldL (rsv B C b) + ldL [evx 24 0 0] = _
      rw [ldL_rsv, l24.1, eZ.1]; omega
    · show (loE Z : Int) + loL c + loL (rsv B C b) + loL [evx 24 0 0] = _
      rw [loL_rsv, l24.2, eZ.2]; omega
/-- for, from the leap over the step on; h the part before, back to its beginning -/
theorem tyForW {h : List EV} (hs : TYe k st (k, 0, 0) (k, 0, 0)) (hb : TYe k b (k, 0, 0) (k, 0, 0)) : TYy [(-((ldL h : Nat) : Int), -((loL h : Nat) : Int), (k, 0, 0))] [(3 + (ldL st : Int) + ldL b, 3 + (loL st : Int) + loL b, (k, 0, 0))] k ([fwE 19 0 (st ++ [evx 19 0 0])] ++ (st ++ ([bwE 19 0 (h ++ [fwE 19 0 (st ++ [evx 19 0 0])] ++ st)] ++ (rsv (d3p (b ++ [evx 19 0 0])) (d3n (st ++ [evx 19 0 0])) b ++ [bwE 19 0 (st ++ [evx 19 0 0] ++ b)])))) (k, 0, 0) (k, 0, 0) := by
  have l19 : ldL [evx 19 0 0] = 1 ∧ loL [evx 19 0 0] = 1 := ⟨rfl, rfl⟩
  obtain ⟨J, hJ⟩ : ∃ J, J = fwE 19 0 (st ++ [evx 19 0 0]) := ⟨_, rfl⟩
  rw [← hJ]
  obtain ⟨Z1, hZ1⟩ : ∃ Z, Z = bwE 19 0 (h ++ [J] ++ st) := ⟨_, rfl⟩
  obtain ⟨Z2, hZ2⟩ : ∃ Z, Z = bwE 19 0 (st ++ [evx 19 0 0] ++ b) := ⟨_, rfl⟩
  obtain ⟨B, hB⟩ : ∃ B : D3, B = d3p (b ++ [evx 19 0 0]) := ⟨_, rfl⟩
  obtain ⟨C, hC⟩ : ∃ C : D3, C = d3n (st ++ [evx 19 0 0]) := ⟨_, rfl⟩
  rw [← hZ1, ← hZ2, ← hB, ← hC]
  have lJ : ldL [J] = 1 ∧ loL [J] = 1 := by rw [hJ]; exact ⟨rfl, rfl⟩
  have lZ : ldL [Z1] = 1 ∧ loL [Z1] = 1 := by rw [hZ1]; exact ⟨rfl, rfl⟩
  have eJ : ldE J = 1 ∧ loE J = 1 := by rw [hJ]; exact ⟨rfl, rfl⟩
  have eZ1 : ldE Z1 = 1 ∧ loE Z1 = 1 := by rw [hZ1]; exact ⟨rfl, rfl⟩
  have eZ2 : ldE Z2 = 1 ∧ loE Z2 = 1 := by rw [hZ2]; exact ⟨rfl, rfl⟩
  have dJ : J.2.2.2.1 = 2 + ldL st ∧ J.2.2.2.2.1 = 2 + loL st := by
    rw [hJ]
    refine ⟨?_, ?_⟩
    · show (1 : Int) + (ldL (st ++ [evx 19 0 0]) : Int) = _
      rw [ldL_app, l19.1]; omega
    · show (1 : Int) + (loL (st ++ [evx 19 0 0]) : Int) = _
      rw [loL_app, l19.2]; omega
  have dZ1 : Z1.2.2.2.1 = -((ldL h : Int) + 1 + ldL st) ∧ Z1.2.2.2.2.1 = -((loL h : Int) + 1 + loL st) := by
    rw [hZ1]
    refine ⟨?_, ?_⟩
    · show -((ldL (h ++ [J] ++ st) : Nat) : Int) = _
      rw [ldL_app, ldL_app, lJ.1]; omega
    · show -((loL (h ++ [J] ++ st) : Nat) : Int) = _
      rw [loL_app, loL_app, lJ.2]; omega
  have dZ2 : Z2.2.2.2.1 = -((ldL st : Int) + 1 + ldL b) ∧ Z2.2.2.2.2.1 = -((loL st : Int) + 1 + loL b) := by
    rw [hZ2]
    refine ⟨?_, ?_⟩
    · show -((ldL (st ++ [evx 19 0 0] ++ b) : Nat) : Int) = _
      rw [ldL_app, ldL_app, l19.1]; omega
    · show -((loL (st ++ [evx 19 0 0] ++ b) : Nat) : Int) = _
      rw [loL_app, loL_app, l19.2]; omega
  have dB : B.1 = ldL b + 1 ∧ B.2.1 = loL b + 1 := by
    rw [hB]
    refine ⟨?_, ?_⟩
    · show ((ldL (b ++ [evx 19 0 0]) : Nat) : Int) = _
      rw [ldL_app, l19.1]; omega
    · show ((loL (b ++ [evx 19 0 0]) : Nat) : Int) = _
      rw [loL_app, l19.2]; omega
  have dC : C.1 = -((ldL st : Int) + 1) ∧ C.2.1 = -((loL st : Int) + 1) := by
    rw [hC]
    refine ⟨?_, ?_⟩
    · show -((ldL (st ++ [evx 19 0 0]) : Nat) : Int) = _
      rw [ldL_app, l19.1]; omega
    · show -((loL (st ++ [evx 19 0 0]) : Nat) : Int) = _
      rw [loL_app, l19.2]; omega
  let P0 : PL3 := (-((ldL h : Nat) : Int), -((loL h : Nat) : Int), (k, 0, 0))
  let Ps : PL3 := (1, 1, (k, 0, 0))
  let Pb : PL3 := (2 + (ldL st : Int), 2 + (loL st : Int), (k, 0, 0))
  let Pe : PL3 := (3 + (ldL st : Int) + ldL b, 3 + (loL st : Int) + loL b, (k, 0, 0))
  have p19 : ∀ {q : EV}, q.1 = 19 → preT q (k, 0, 0) ∧ endT q ∧ leapT q (k, 0, 0) = (k, 0, 0) := fun {q} h9 => ⟨by unfold preT; rw [h9]; exact trivial, Or.inl h9, if_pos h9⟩
  have qJ := p19 (q := J) (by rw [hJ]; rfl)
  have q1 := p19 (q := Z1) (by rw [hZ1]; rfl)
  have q2 := p19 (q := Z2) (by rw [hZ2]; rfl)
  have T1 : TYy [P0, Ps, Pb, Pe] _ k [J] (k, 0, 0) (k, 0, 0) := TYy.lp (D := Pb) qJ.1 (Or.inl qJ.2.1) (List.mem_cons_of_mem _ (List.mem_cons_of_mem _ List.mem_cons_self)) (by show 2 + (ldL st : Int) = _; omega) (by show 2 + (loL st : Int) = _; omega) (by rw [qJ.2.2]; exact le3.rf) (Nat.le_refl _) (Nat.le_refl _)
  have T2 : TYy ([P0, Ps, Pb, Pe].map (shP [J])) _ k st (k, 0, 0) (k, 0, 0) := TYy.of hs (Nat.le_refl _) (Nat.le_refl _)
  have T3 : TYy (([P0, Ps, Pb, Pe].map (shP [J])).map (shP st)) _ k [Z1] (k, 0, 0) (k, 0, 0) := TYy.lp (D := shP st (shP [J] P0)) q1.1 (Or.inl q1.2.1) List.mem_cons_self (by
      show -((ldL h : Nat) : Int) - ldL [J] - ldL st = _
      rw [lJ.1]; omega) (by
      show -((loL h : Nat) : Int) - loL [J] - loL st = _
      rw [lJ.2]; omega) (by rw [q1.2.2]; exact le3.rf) (Nat.le_refl _) (Nat.le_refl _)
  have T4 : TYy ((([P0, Ps, Pb, Pe].map (shP [J])).map (shP st)).map (shP [Z1])) _ k (rsv B C b) (k, 0, 0) (k, 0, 0) := (TYy.rs (B := B) (C := C) hb (Nat.le_refl _) (Nat.le_refl _)).gw (fun D hD => by
    simp only [List.mem_cons, List.not_mem_nil, or_false] at hD
    rcases hD with rfl | rfl
    · refine List.mem_cons_of_mem _ (List.mem_cons_of_mem _ (List.mem_cons_of_mem _ (List.mem_singleton.mpr (PLx ?_ ?_))))
      · show _ = 3 + (ldL st : Int) + ldL b - ldL [J] - ldL st - ldL [Z1]
        rw [lJ.1, lZ.1]; omega
      · show _ = 3 + (loL st : Int) + loL b - loL [J] - loL st - loL [Z1]
        rw [lJ.2, lZ.2]; omega
    · refine List.mem_cons_of_mem _ (List.mem_cons.mpr (Or.inl (PLx ?_ ?_)))
      · show _ = (1 : Int) - ldL [J] - ldL st - ldL [Z1]
        rw [lJ.1, lZ.1]; omega
      · show _ = (1 : Int) - loL [J] - loL st - loL [Z1]
        rw [lJ.2, lZ.2]; omega)
  have T5 : TYy (((([P0, Ps, Pb, Pe].map (shP [J])).map (shP st)).map (shP [Z1])).map (shP (rsv B C b))) _ k [Z2] (k, 0, 0) (k, 0, 0) := TYy.lp (D := shP (rsv B C b) (shP [Z1] (shP st (shP [J] Ps)))) q2.1 (Or.inl q2.2.1) (List.mem_cons_of_mem _ List.mem_cons_self) (by
      show (1 : Int) - ldL [J] - ldL st - ldL [Z1] - ldL (rsv B C b) = _
      rw [ldL_rsv, lJ.1, lZ.1]; omega) (by
      show (1 : Int) - loL [J] - loL st - loL [Z1] - loL (rsv B C b) = _
      rw [loL_rsv, lJ.2, lZ.2]; omega) (by rw [q2.2.2]; exact le3.rf) (Nat.le_refl _) (Nat.le_refl _)
  have T := T1.app (T2.app (T3.app (T4.app T5)))
  have mPs : Ps = ((ldE J : Int), (loE J : Int), ((k, 0, 0) : ST3)) := PLx (by rw [eJ.1]; rfl) (by rw [eJ.2]; rfl)
  have mPb : unP [J] (unP st ((ldE Z1 : Int), (loE Z1 : Int), (k, 0, 0))) = Pb := PLx (by
      show (ldE Z1 : Int) + ldL st + ldL [J] = _
      rw [lJ.1, eZ1.1]; omega) (by
      show (loE Z1 : Int) + loL st + loL [J] = _
      rw [lJ.2, eZ1.2]; omega)
  have mPe : unP [J] (unP st (unP [Z1] (unP (rsv B C b) ((ldE Z2 : Int), (loE Z2 : Int), (k, 0, 0))))) = Pe := PLx (by
      show (ldE Z2 : Int) + ldL (rsv B C b) + ldL [Z1] + ldL st + ldL [J] = _
      rw [ldL_rsv, lJ.1, lZ.1, eZ2.1]; omega) (by
      show (loE Z2 : Int) + loL (rsv B C b) + loL [Z1] + loL st + loL [J] = _
      rw [loL_rsv, lJ.2, lZ.2, eZ2.2]; omega)
  obtain ⟨τ, a1, a2, a3, a4, a5⟩ := T.pc (G' := [P0]) (fun D hD => by
    simp only [List.mem_cons, List.not_mem_nil, or_false] at hD
    rcases hD with rfl | rfl | rfl | rfl
    · exact Or.inr List.mem_cons_self
    · exact Or.inl (List.mem_append.mpr (Or.inl (by rw [mPs]; exact List.mem_cons_of_mem _ List.mem_cons_self)))
    · exact Or.inl (List.mem_append.mpr (Or.inr (List.mem_map.mpr ⟨_, List.mem_append.mpr (Or.inr (List.mem_map.mpr ⟨_, List.mem_append.mpr (Or.inl (List.mem_cons_of_mem _ List.mem_cons_self)), rfl⟩)), mPb⟩)))
    · exact Or.inl (List.mem_append.mpr (Or.inr (List.mem_map.mpr ⟨_, List.mem_append.mpr (Or.inr (List.mem_map.mpr ⟨_, List.mem_append.mpr (Or.inr (List.mem_map.mpr ⟨_, List.mem_append.mpr (Or.inr (List.mem_map.mpr ⟨_, List.mem_cons_of_mem _ List.mem_cons_self, rfl⟩)), rfl⟩)), rfl⟩)), mPe⟩))))
  refine ⟨τ, a1, a2, a3, a4, fun D hD => ?_⟩
  have e := List.mem_singleton.mp hD
  rw [e]
  exact a5 _ (List.mem_append.mpr (Or.inr (List.mem_map.mpr ⟨_, List.mem_append.mpr (Or.inr (List.mem_map.mpr ⟨_, List.mem_append.mpr (Or.inr (List.mem_map.mpr ⟨_, List.mem_append.mpr (Or.inr (List.mem_map.mpr ⟨_, List.mem_cons_of_mem _ List.mem_cons_self, rfl⟩)), rfl⟩)), rfl⟩)), mPe⟩)))
end XMT
