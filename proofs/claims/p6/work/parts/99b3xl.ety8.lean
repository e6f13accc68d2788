/-! events' types: loops -/
section XLT
variable {G G' Dl : List PL3} {K k : Nat} {a b c : List EV} {q : EV} {s t u : ST3} {D : PL3}
theorem PLx {x x' y y' : Int} {t : ST3} (h : x = x') (k : y = y') : ((x, y, t) : PL3) = (x', y', t) := by rw [h, k]
theorem TYy.gw (h : TYy G Dl K a s t) (k : ∀ D ∈ G, D ∈ G') : TYy G' Dl K a s t := by
  obtain ⟨τ, a1, a2, a3, a4, a5⟩ := h
  refine ⟨τ, a1, a2, a3, fun i q hq => ?_, a5⟩
  obtain ⟨c1, c2, c3⟩ := a4 i q hq
  exact ⟨c1, c2, fun hl => (c3 hl).imp id (fun ⟨D, d1, d2⟩ => ⟨D, k D d1, d2⟩)⟩
theorem rsv_take : ∀ (b : List EV) (B C : D3) (j : Nat), (rsv B C b).take j = rsv B C (b.take j)
  | [], _, _, j => by rw [List.take_nil]; exact List.take_nil
  | q :: l, B, C, 0 => rfl
  | q :: l, B, C, j + 1 => by
    show ((if q.1 = 30 then _ else _) :: rsv (d3s B q) (d3s C q) l).take (j + 1) = rsv B C (q :: l.take j)
    rw [List.take_succ_cons, rsv_take l]
    rfl
theorem rsv_len : ∀ (b : List EV) (B C : D3), (rsv B C b).length = b.length
  | [], _, _ => rfl
  | q :: l, B, C => by
    show (rsv _ _ l).length + 1 = l.length + 1
    rw [rsv_len l]
theorem rsv_get : ∀ (b : List EV) (B C : D3) (i : Nat) (p : EV), (rsv B C b)[i]? = some p → ∃ q, b[i]? = some q ∧ ((q.1 = 30 ∧ p.1 = 19 ∧ p.2.2.2.1 = B.1 - ldL (b.take i) ∧ p.2.2.2.2.1 = B.2.1 - loL (b.take i)) ∨ (q.1 = 31 ∧ p.1 = 19 ∧ p.2.2.2.1 = C.1 - ldL (b.take i) ∧ p.2.2.2.2.1 = C.2.1 - loL (b.take i)) ∨ (q.1 ≠ 30 ∧ q.1 ≠ 31 ∧ p = q))
  | [], _, _, i, p, h => by cases h
  | q :: l, B, C, 0, p, h => by
    have e : (if q.1 = 30 then (19, 0, 0, B.1, B.2.1, B.2.2) else if q.1 = 31 then (19, 0, 0, C.1, C.2.1, C.2.2) else q) = p := Option.some.inj h
    refine ⟨q, rfl, ?_⟩
    by_cases c1 : q.1 = 30
    · rw [if_pos c1] at e
      rw [← e]
      exact Or.inl ⟨c1, rfl, by rw [List.take_zero, ldL_nil]; show B.1 = _; omega, by rw [List.take_zero, loL_nil]; show B.2.1 = _; omega⟩
    rw [if_neg c1] at e
    by_cases c2 : q.1 = 31
    · rw [if_pos c2] at e
      rw [← e]
      exact Or.inr (Or.inl ⟨c2, rfl, by rw [List.take_zero, ldL_nil]; show C.1 = _; omega, by rw [List.take_zero, loL_nil]; show C.2.1 = _; omega⟩)
    · rw [if_neg c2] at e
      exact Or.inr (Or.inr ⟨c1, c2, e.symm⟩)
  | q :: l, B, C, i + 1, p, h => by
    have h : (rsv (d3s B q) (d3s C q) l)[i]? = some p := h
    obtain ⟨q', h1, h2⟩ := rsv_get l (d3s B q) (d3s C q) i p h
    refine ⟨q', h1, ?_⟩
    rw [List.take_succ_cons, ldL_cons, loL_cons]
    rcases h2 with ⟨c1, c2, c3, c4⟩ | ⟨c1, c2, c3, c4⟩ | h2
    · have c3 : _ = B.1 - ldE q - _ := c3
      have c4 : _ = B.2.1 - loE q - _ := c4
      exact Or.inl ⟨c1, c2, by omega, by omega⟩
    · have c3 : _ = C.1 - ldE q - _ := c3
      have c4 : _ = C.2.1 - loE q - _ := c4
      exact Or.inr (Or.inl ⟨c1, c2, by omega, by omega⟩)
    · exact Or.inr (Or.inr h2)
/-- a loop's inside, its exits told -/
theorem TYy.rs {B C : D3} (h : TYe K b s t) (k1 : K ≤ t.1) (hk : k ≤ K) : TYy [(B.1, B.2.1, (k, 0, 0)), (C.1, C.2.1, (k, 0, 0))] [((ldL b : Int), (loL b : Int), t)] K (rsv B C b) s t := by
  obtain ⟨τ, a1, a2, a3, a4⟩ := h.ex k1
  refine ⟨τ, a1, by rw [rsv_len, a2]; exact le3.rf, fun i hi => a3 i (by rw [rsv_len] at hi; exact hi), fun i p hp => ?_, fun D hD => ?_⟩
  · obtain ⟨q, h1, h2⟩ := rsv_get b B C i p hp
    have li : i < b.length := (List.getElem?_eq_some_iff.mp h1).1
    have O := a4 i q h1
    have ld : ldL ((rsv B C b).take i) = ldL (b.take i) := by rw [rsv_take, ldL_rsv]
    have lo : loL ((rsv B C b).take i) = loL (b.take i) := by rw [rsv_take, loL_rsv]
    have ex : ∀ (D : PL3), D ∈ [(B.1, B.2.1, (k, 0, 0)), (C.1, C.2.1, ((k, 0, 0) : ST3))] → (q.1 = 30 ∨ q.1 = 31) → p.1 = 19 → D.2.2 = (k, 0, 0) → p.2.2.2.1 = D.1 - ldL (b.take i) → p.2.2.2.2.1 = D.2.1 - loL (b.take i) → evY [(B.1, B.2.1, (k, 0, 0)), (C.1, C.2.1, (k, 0, 0))] (rsv B C b) τ i p := by
      intro D hD hq p19 ht d1 d2
      have pr : (τ i).2.2 = 0 ∧ (τ i).2.1 = 0 := by
        have := O.1
        unfold preT at this
        rcases hq with c | c <;> (rw [c] at this; exact this)
      have pp : preT p (τ i) := by
        unfold preT
        rw [p19]
        exact trivial
      have lp : leapT p (τ i) = τ i := if_pos p19
      refine ⟨pp, Or.inl (Or.inl p19), fun _ => Or.inr ⟨D, hD, by rw [ld]; omega, by rw [lo]; omega, ?_⟩⟩
      rw [lp, ht]
      exact ⟨pr.2, Or.inr ⟨pr.2, Nat.le_trans hk (a3 i (by omega))⟩, Or.inl pr.1⟩
    rcases h2 with ⟨c1, c2, c3, c4⟩ | ⟨c1, c2, c3, c4⟩ | ⟨-, -, rfl⟩
    · exact ex (B.1, B.2.1, (k, 0, 0)) List.mem_cons_self (Or.inl c1) c2 rfl c3 c4
    · exact ex (C.1, C.2.1, (k, 0, 0)) (List.mem_cons_of_mem _ List.mem_cons_self) (Or.inr c1) c2 rfl c3 c4
    · refine ⟨O.1, O.2.1, fun hl => Or.inl ?_⟩
      obtain ⟨j, j1, j2, j3, j4⟩ := O.2.2 hl
      refine ⟨j, by rw [rsv_len]; exact j1, ?_, ?_, j4⟩
      · rw [ld, rsv_take, ldL_rsv]; exact j2
      · rw [lo, rsv_take, loL_rsv]; exact j3
  · have e := List.mem_singleton.mp hD
    rw [e]
    exact ⟨b.length, by rw [rsv_len]; exact Nat.le_refl _, by rw [rsv_take, ldL_rsv, List.take_length], by rw [rsv_take, loL_rsv, List.take_length], by rw [a2]; exact le3.rf⟩
theorem tyTurn : TYe k [evx 24 0 0] (k, 0, 0) (k, 0, 0) := TYe.one (show (0 : Nat) = 0 ∧ (0 : Nat) = 0 by decide) le3.rf nL (Nat.le_refl _) (Nat.le_refl _)
theorem tyWhile (hc : TYe k c (k, 0, 0) (k, 0, 1)) (hb : TYe k b (k, 0, 0) (k, 0, 0)) : TYe k (gWhileL c b) (k, 0, 0) (k, 0, 0) := by
  obtain ⟨h, hh⟩ : ∃ h, h = [evx 24 0 0] ++ c := ⟨_, rfl⟩
  have H : TYe k h (k, 0, 0) (k, 0, 1) := by rw [hh]; exact tyTurn.app hc
  have l19 : ldL [evx 19 0 0] = 1 ∧ loL [evx 19 0 0] = 1 := ⟨rfl, rfl⟩
  obtain ⟨U, hU⟩ : ∃ U, U = fwE 16 0 (b ++ [evx 19 0 0]) := ⟨_, rfl⟩
  obtain ⟨Z, hZ⟩ : ∃ Z, Z = bwE 19 0 (h ++ [U] ++ b) := ⟨_, rfl⟩
  have lU : ldL [U] = 1 ∧ loL [U] = 1 := by rw [hU]; exact ⟨rfl, rfl⟩
  have eU : ldE U = 1 ∧ loE U = 1 := by rw [hU]; exact ⟨rfl, rfl⟩
  have eZ : ldE Z = 1 ∧ loE Z = 1 := by rw [hZ]; exact ⟨rfl, rfl⟩
  have dU : U.2.2.2.1 = 2 + ldL b ∧ U.2.2.2.2.1 = 2 + loL b := by
    rw [hU]
    refine ⟨?_, ?_⟩
    · show (1 : Int) + (ldL (b ++ [evx 19 0 0]) : Int) = _
      rw [ldL_app, l19.1]; omega
    · show (1 : Int) + (loL (b ++ [evx 19 0 0]) : Int) = _
      rw [loL_app, l19.2]; omega
  have dZ : Z.2.2.2.1 = -((ldL h : Int) + 1 + ldL b) ∧ Z.2.2.2.2.1 = -((loL h : Int) + 1 + loL b) := by
    rw [hZ]
    refine ⟨?_, ?_⟩
    · show -((ldL (h ++ [U] ++ b) : Nat) : Int) = _
      rw [ldL_app, ldL_app, lU.1]; omega
    · show -((loL (h ++ [U] ++ b) : Nat) : Int) = _
      rw [loL_app, loL_app, lU.2]; omega
  let G : List PL3 := [(0, 0, (k, 0, 0)), ((ldL h : Int) + 2 + ldL b, (loL h : Int) + 2 + loL b, (k, 0, 0))]
  obtain ⟨B, hB⟩ : ∃ B : D3, B = d3p (b ++ [evx 19 0 0]) := ⟨_, rfl⟩
  obtain ⟨C, hC⟩ : ∃ C : D3, C = d3n (h ++ [U]) := ⟨_, rfl⟩
  have dB : B.1 = ldL b + 1 ∧ B.2.1 = loL b + 1 := by
    rw [hB]
    refine ⟨?_, ?_⟩
    · show ((ldL (b ++ [evx 19 0 0]) : Nat) : Int) = _
      rw [ldL_app, l19.1]; omega
    · show ((loL (b ++ [evx 19 0 0]) : Nat) : Int) = _
      rw [loL_app, l19.2]; omega
  have dC : C.1 = -((ldL h : Int) + 1) ∧ C.2.1 = -((loL h : Int) + 1) := by
    rw [hC]
    refine ⟨?_, ?_⟩
    · show -((ldL (h ++ [U]) : Nat) : Int) = _
      rw [ldL_app, lU.1]; omega
    · show -((loL (h ++ [U]) : Nat) : Int) = _
      rw [loL_app, lU.2]; omega
  have T1 : TYy G _ k h (k, 0, 0) (k, 0, 1) := TYy.of H (Nat.le_refl _) (Nat.le_refl _)
  have pU : preT U (k, 0, 1) := by rw [hU]; exact (show (1 : Nat) = 1 from rfl)
  have T2 : TYy (G.map (shP h)) _ k [U] (k, 0, 1) (k, 0, 0) := TYy.lp (D := shP h ((ldL h : Int) + 2 + ldL b, (loL h : Int) + 2 + loL b, (k, 0, 0))) pU (Or.inr (by rw [hU]; exact le3.rf)) (List.mem_map.mpr ⟨_, List.mem_cons_of_mem _ List.mem_cons_self, rfl⟩) (by show (ldL h : Int) + 2 + ldL b - ldL h = _; omega) (by show (loL h : Int) + 2 + loL b - loL h = _; omega) (by rw [hU]; exact le3.rf) (Nat.le_refl _) (Nat.le_refl _)
  have T3 : TYy ((G.map (shP h)).map (shP [U])) _ k (rsv B C b) (k, 0, 0) (k, 0, 0) := (TYy.rs (B := B) (C := C) hb (Nat.le_refl _) (Nat.le_refl _)).gw (fun D hD => by
    simp only [List.mem_cons, List.not_mem_nil, or_false] at hD
    rcases hD with rfl | rfl
    · refine List.mem_cons_of_mem _ (List.mem_singleton.mpr (PLx ?_ ?_))
      · show _ = (ldL h : Int) + 2 + ldL b - ldL h - ldL [U]
        rw [lU.1]; omega
      · show _ = (loL h : Int) + 2 + loL b - loL h - loL [U]
        rw [lU.2]; omega
    · refine List.mem_cons.mpr (Or.inl (PLx ?_ ?_))
      · show _ = (0 : Int) - ldL h - ldL [U]
        rw [lU.1]; omega
      · show _ = (0 : Int) - loL h - loL [U]
        rw [lU.2]; omega)
  have pZ : preT Z (k, 0, 0) := by rw [hZ]; exact trivial
  have T4 : TYy (((G.map (shP h)).map (shP [U])).map (shP (rsv B C b))) _ k [Z] (k, 0, 0) (k, 0, 0) := TYy.lp (D := shP (rsv B C b) (shP [U] (shP h (0, 0, (k, 0, 0))))) pZ (Or.inl (by rw [hZ]; exact Or.inl rfl)) List.mem_cons_self (by
      show (0 : Int) - ldL h - ldL [U] - ldL (rsv B C b) = _
      rw [ldL_rsv, lU.1]; omega) (by
      show (0 : Int) - loL h - loL [U] - loL (rsv B C b) = _
      rw [loL_rsv, lU.2]; omega) (by rw [hZ]; exact le3.rf) (Nat.le_refl _) (Nat.le_refl _)
  have T := T1.app (T2.app (T3.app T4))
  have e : gWhileL c b = h ++ ([U] ++ (rsv B C b ++ [Z])) := by
    unfold gWhileL
    rw [hB, hC, hZ, hU, hh]
    simp only [List.append_assoc]
  rw [e]
  refine T.cl (fun D hD => ?_)
  simp only [G, List.mem_cons, List.not_mem_nil, or_false] at hD
  rcases hD with rfl | rfl
  · exact List.mem_append.mpr (Or.inl List.mem_cons_self)
  · refine List.mem_append.mpr (Or.inr (List.mem_map.mpr ⟨unP [U] (unP (rsv B C b) ((ldE Z : Int), (loE Z : Int), (k, 0, 0))), List.mem_append.mpr (Or.inr (List.mem_map.mpr ⟨_, List.mem_append.mpr (Or.inr (List.mem_map.mpr ⟨_, List.mem_cons_of_mem _ List.mem_cons_self, rfl⟩)), rfl⟩)), PLx ?_ ?_⟩))
    · show (ldE Z : Int) + ldL (rsv B C b) + ldL [U] + ldL h = _
      rw [ldL_rsv, lU.1, eZ.1]; omega
    · show (loE Z : Int) + loL (rsv B C b) + loL [U] + loL h = _
      rw [loL_rsv, lU.2, eZ.2]; omega
end XLT
