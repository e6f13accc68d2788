/-! the class's small steps -/
section CPR
variable {G : GH} {L1 L2 : List Nat} {e : PE} {v u : MS} {t : Bool} {r pa pb pc1 : Int32}
theorem cKind (h : Q_x_X9_kind L1 L2 v r) (J : JC L2 e v) : r = kd e (aC G v) := by
  obtain ⟨z1, z2, -, h⟩ := h
  rw [← J.1]
  show r = if (v.1 0 305).toInt < (v.1 0 304).toInt then v.1 301 (v.1 0 305).toNatClampNeg else 0
  rcases h with ⟨a, rfl⟩ | ⟨a, rfl⟩
  · rw [if_neg (by omega)]
  · rw [if_pos a]
theorem cKindB (h : Q_x_X9_kindBehind L1 L2 v r) (J : JC L2 e v) : r = kb e (aC G v) := by
  obtain ⟨z1, z2, -, h⟩ := h
  rw [← J.1]
  show r = if (v.1 0 305 + 1).toInt < (v.1 0 304).toInt then v.1 301 (v.1 0 305 + 1).toNatClampNeg else 0
  have q : (v.1 0 305 + 1).toInt = (v.1 0 305).toInt + 1 := add_z rfl (by decide) (by omega) (by omega)
  rcases h with ⟨a, rfl⟩ | ⟨a, rfl⟩
  · rw [if_neg (by omega)]
  · rw [if_pos (by omega)]
theorem cValue (h : Q_x_X9_value L1 L2 v r) (J : JC L2 e v) : r = vl e (aC G v) := by
  obtain ⟨z1, z2, -, h⟩ := h
  rw [← J.1]
  show r = if (v.1 0 305).toInt < (v.1 0 304).toInt then v.1 303 (v.1 0 305).toNatClampNeg else 0
  rcases h with ⟨a, rfl⟩ | ⟨a, rfl⟩
  · rw [if_neg (by omega)]
  · rw [if_pos a]
theorem cPlace (h : Q_x_X9_place L1 L2 v r) (J : JC L2 e v) : r = pl e (aC G v) := by
  obtain ⟨z1, z2, z3, -, h⟩ := h
  rw [← J.1]
  show r = if (v.1 0 305).toInt < (v.1 0 304).toInt then v.1 302 (v.1 0 305).toNatClampNeg else v.1 0 373
  rcases h with ⟨a, rfl⟩ | ⟨a, rfl⟩
  · rw [if_neg (by omega)]
  · rw [if_pos a]
theorem cRef (h : Q_x_X9_refuse L1 L2 v pa pb t u) : t = true ∧ u.1 0 308 = pa ∧ u.1 0 309 = pb := by
  obtain ⟨-, rfl, rfl⟩ := h
  exact ⟨rfl, rfl, rfl⟩
theorem cMuch (h : Q_x_X9_isTooMuch L1 L2 v r) : r.toInt ≠ 0 ↔ ((1500 : Int) ≤ (pAt (aC G v)).toInt ∨ pDu (aC G v) = true) := by
  obtain ⟨z, h⟩ := h
  show _ ↔ ((1500 : Int) ≤ (v.1 0 305).toInt ∨ decide (v.1 0 307 = v.1 0 305) = true)
  rw [decide_eq_true_iff]
  rcases h with ⟨a, rfl⟩ | ⟨a, ⟨b, rfl⟩ | ⟨b, rfl⟩⟩
  · exact ⟨fun _ => Or.inl a, fun _ => by decide⟩
  · refine ⟨fun h => absurd rfl h, fun h => ?_⟩
    rcases h with h | h
    · omega
    · exact absurd (congrArg Int32.toInt h.symm) b
  · exact ⟨fun _ => Or.inr (Int32.toInt_inj.mp b.symm), fun _ => by decide⟩
theorem aAt (h : (v.1 0 307).toInt ≤ (v.1 0 305).toInt) (q : (v.1 0 305 + 1).toInt = (v.1 0 305).toInt + 1) (d : pDu (aC G v) = false) : aC G (wA v 0 305 (v.1 0 305 + 1)) = sAt (sDu (aC G v) false) (v.1 0 305 + 1) := by
  have d1 : ¬ (v.1 0 307 = v.1 0 305) := of_decide_eq_false d
  have d2 : ¬ (v.1 0 307 = v.1 0 305 + 1) := fun k => by rw [k] at h; omega
  show mkP (v.1 0 305 + 1) (v.1 0 306) (decide (v.1 0 307 = v.1 0 305 + 1)) (v.1 0 313) (v.1 0 314) (if v.1 0 307 = v.1 0 305 + 1 then 0 else v.1 0 315) _ _ _ _ _ _ _ _ = mkP (v.1 0 305 + 1) (v.1 0 306) false (v.1 0 313) (v.1 0 314) (if v.1 0 307 = v.1 0 305 then 0 else v.1 0 315) _ _ _ _ _ _ _ _
  rw [if_neg d1, if_neg d2, decide_eq_false d2]
  rfl
theorem cTake (h : Q_x_X9_take L1 L2 v t u) (k : t = false → K_x_X9_take v u) (J : JC L2 e v) : OKC G L2 e (tTake e) v t u := by
  obtain ⟨z1, z2, z3, r3, h1, -, h⟩ := h
  have c := cMuch (G := G) h1
  rcases h with ⟨a, rfl, rfl⟩ | ⟨a, r9, h2, u9, h3, rfl, rfl⟩
  · have k := k rfl
    have nd : ¬ ((1500 : Int) ≤ (pAt (aC G v)).toInt ∨ pDu (aC G v) = true) := fun q => c.mpr q a
    have q : (v.1 0 305 + 1).toInt = (v.1 0 305).toInt + 1 := k.2.2.1
    refine Or.inl ⟨rfl, ?_, J.fr k.1 k.2.2.2 (by decide) (by decide) ?_, KP.fr k.1 (by decide) (by decide)⟩
    · unfold tTake
      rw [if_neg nd, aAt J.2.1 q (by cases x : pDu (aC G v) with | false => rfl | true => exact absurd (Or.inr x) nd)]
      rfl
    · have e7 : (wA v 0 305 (v.1 0 305 + 1)).1 0 307 = v.1 0 307 := rfl
      rw [e7]
      have := J.2.1
      have q2 : ((wA v 0 305 (v.1 0 305 + 1)).1 0 305).toInt = (v.1 0 305).toInt + 1 := q
      omega
  · obtain ⟨-, e1, e2⟩ := cRef h3
    refine Or.inr ⟨rfl, ?_⟩
    unfold tTake
    rw [if_pos (c.mp a), e1, e2, cPlace (G := G) h2 J]
theorem cBad {α : Type} (h : Q_x_X9_kind L1 L2 v r) (J : JC L2 e v) (h2 : Q_x_X9_place L1 L2 v pa) (h3 : ∀ k : Int32, (k = if r.toInt = 1 then 1 else 2) → u.1 0 308 = k ∧ u.1 0 309 = pa) : (tBad e (aC G v) : PX α) = .error (u.1 0 308, u.1 0 309) := by
  unfold tBad
  rw [← cKind (G := G) h J, ← cPlace (G := G) h2 J, (h3 _ rfl).1, (h3 _ rfl).2]
theorem cMisfit {α : Type} (h : Q_x_X9_refuseMisfit L1 L2 v t u) (J : JC L2 e v) : t = true ∧ (tBad e (aC G v) : PX α) = .error (u.1 0 308, u.1 0 309) := by
  obtain ⟨-, -, -, r3, h1, h⟩ := h
  rcases h with ⟨a, r8, h2, u9, h3, rfl, rfl⟩ | ⟨a, r8, h2, u9, h3, rfl, rfl⟩
  · obtain ⟨-, e1, e2⟩ := cRef h3
    exact ⟨rfl, cBad h1 J h2 (fun k hk => by rw [hk, if_neg a]; exact ⟨e1, e2⟩)⟩
  · obtain ⟨-, e1, e2⟩ := cRef h3
    exact ⟨rfl, cBad h1 J h2 (fun k hk => by rw [hk, if_pos a]; exact ⟨e1, e2⟩)⟩
theorem cNeed (h : Q_x_X9_need L1 L2 v pa t u) (J : JC L2 e v) : OKC G L2 e (tNeed pa.toInt e) v t u := by
  obtain ⟨-, -, -, r3, h1, h⟩ := h
  have c := cKind (G := G) h1 J
  rcases h with ⟨a, rfl, rfl⟩ | ⟨a, r9, h4, h⟩
  · exact Or.inl ⟨rfl, by unfold tNeed; rw [if_pos (by rw [← c]; exact a)], J, KP.rf⟩
  · refine Or.inr ?_
    unfold tNeed
    rw [if_neg (by rw [← c]; exact a)]
    rcases h with ⟨b, r8, h2, u9, h3, rfl, rfl⟩ | ⟨b, r8, h2, u9, h3, rfl, rfl⟩
    · obtain ⟨-, e1, e2⟩ := cRef h3
      exact ⟨rfl, cBad h4 J h2 (fun k hk => by rw [hk, if_neg b]; exact ⟨e1, e2⟩)⟩
    · obtain ⟨-, e1, e2⟩ := cRef h3
      exact ⟨rfl, cBad h4 J h2 (fun k hk => by rw [hk, if_pos b]; exact ⟨e1, e2⟩)⟩
theorem cExp (h : Q_x_X9_expect L1 L2 v pa t u) (k : t = false → K_x_X9_expect v pa u) (J : JC L2 e v) : OKC G L2 e (tExp pa.toInt e) v t u := by
  obtain ⟨z1, z2, z3, r3, h1, h⟩ := h
  have c := cKind (G := G) h1 J
  rcases h with ⟨a, r8, h2, k8, h⟩ | ⟨a, r9, h4, h⟩
  · have T : Q_x_X9_take L1 L2 v t u := ⟨z1, z2, z3, r8, h2, k8, h⟩
    exact OKC.bo (OKC.cg (f' := fun s => .ok s) (by unfold tNeed; rw [if_pos (by rw [← c]; exact a)]) (OKC.id J)) (cTake T (fun q => k q) J)
  · refine Or.inr ?_
    unfold tExp tNeed
    rw [if_neg (by rw [← c]; exact a)]
    rcases h with ⟨b, r8, h2, u9, h3, rfl, rfl⟩ | ⟨b, r8, h2, u9, h3, rfl, rfl⟩
    · obtain ⟨-, e1, e2⟩ := cRef h3
      refine ⟨rfl, ?_⟩
      rw [cBad (α := PS) h4 J h2 (fun k hk => by rw [hk, if_neg b]; exact ⟨e1, e2⟩)]
      rfl
    · obtain ⟨-, e1, e2⟩ := cRef h3
      refine ⟨rfl, ?_⟩
      rw [cBad (α := PS) h4 J h2 (fun k hk => by rw [hk, if_pos b]; exact ⟨e1, e2⟩)]
      rfl
theorem cOpen (h : Q_x_X9_open L1 L2 v t u) (k : t = false → K_x_X9_open v u) (J : JC L2 e v) : OKC G L2 e (tOpen e) v t u := by
  obtain ⟨z1, z2, z4, z3, h⟩ := h
  rcases h with ⟨a, r5, h2, u9, h3, rfl, rfl⟩ | ⟨a, r12, h1, -, h⟩
  · obtain ⟨-, e1, e2⟩ := cRef h3
    refine Or.inr ⟨rfl, ?_⟩
    unfold tOpen
    rw [if_pos (show (40 : Int) ≤ (pOp (aC G v)).toInt from a), e1, e2, cPlace (G := G) h2 J]
  · have c := cMuch (G := G) h1
    have na : ¬ (40 : Int) ≤ (pOp (aC G v)).toInt := by show ¬ (40 : Int) ≤ (v.1 0 306).toInt; omega
    rcases h with ⟨b, rfl, rfl⟩ | ⟨b, r9, h2, u9, h3, rfl, rfl⟩
    · have k := k rfl
      have nd : ¬ ((1500 : Int) ≤ (pAt (aC G v)).toInt ∨ pDu (aC G v) = true) := fun q => c.mpr q b
      have q : (v.1 0 305 + 1).toInt = (v.1 0 305).toInt + 1 := k.2.2.2.2.1
      refine Or.inl ⟨rfl, ?_, J.fr k.1 k.2.2.2.2.2 (by decide) (by decide) ?_, KP.fr k.1 (by decide) (by decide)⟩
      · have A := aAt (G := G) (v := wA v 0 306 (v.1 0 306 + 1)) J.2.1 q (by cases x : pDu (aC G v) with | false => exact x | true => exact absurd (Or.inr x) nd)
        have A2 : aC G (wA (wA v 0 306 (v.1 0 306 + 1)) 0 305 (v.1 0 305 + 1)) = sAt (sDu (aC G (wA v 0 306 (v.1 0 306 + 1))) false) (v.1 0 305 + 1) := A
        unfold tOpen tTake
        rw [if_neg na, if_neg nd, A2]
        rfl
      · have := J.2.1
        have q2 : ((wA (wA v 0 306 (v.1 0 306 + 1)) 0 305 (v.1 0 305 + 1)).1 0 305).toInt = (v.1 0 305).toInt + 1 := q
        show (v.1 0 307).toInt ≤ _
        omega
    · obtain ⟨-, e1, e2⟩ := cRef h3
      refine Or.inr ⟨rfl, ?_⟩
      unfold tOpen tTake
      rw [if_neg na, if_pos (c.mp b), e1, e2, cPlace (G := G) h2 J]
      rfl
theorem cClose (h : Q_x_X9_close L1 L2 v u) (k : K_x_X9_close v u) (J : JC L2 e v) : aC G u = tClose (aC G v) ∧ JC L2 e u ∧ KP v u := by
  obtain ⟨-, -, rfl⟩ := h
  exact ⟨rfl, J.fr k.1 k.2.2.2 (by decide) (by decide) J.2.1, KP.fr k.1 (by decide) (by decide)⟩
end CPR
