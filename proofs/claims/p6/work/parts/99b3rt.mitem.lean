/-! the reference: an item -/
section MIU
variable {bz : Bool} {g : GM} {n : Int} {K : TK} {e : PE} {v u w A O Z T : MS} {t : Bool} {r pa pb nm sz rw9 c f9 : Int32} {S : FS} {k N cc : Nat} {m : Int} {x : IS} {W : Nat → Int32}
theorem RIq.mv (I : RIq n K W v x) (J : JG false n K (mkE K x.2.2) A) (h2 : A.2 = v.2) (ha : ∀ a ∈ [6, 10, 16, 17, 18, 19, 23, 24, 25, 26], A.1 a = v.1 a) (h0 : ∀ i ∈ [22, 27, 28, 39], A.1 0 i = v.1 0 i) (d : ND A) : RIq n K W A (tBegF (aR (false, []) K A), x.2) := by
  obtain ⟨-, -, hf, hg, hb, D, hw, -, V, h28, h25⟩ := I
  have f1 : nFm A = nFm v := by unfold nFm; rw [h0 22 (by decide)]
  have g1 : nGm A = nGm v := by unfold nGm; rw [h0 27 (by decide)]
  have o1 : ovM A = ovM v := by unfold ovM; rw [h0 39 (by decide)]
  refine ⟨J, rfl, ?_, ?_, ?_, ?_, ?_, d, ?_, ?_, ?_⟩
  · show x.2.1 = _
    rw [hf]
    unfold fsM
    rw [f1, ha 16 (by decide), ha 17 (by decide), ha 18 (by decide)]
  · show x.2.2 = _
    rw [hg]
    unfold gsM
    rw [g1, ha 23 (by decide), ha 24 (by decide), ha 26 (by decide)]
  · rw [h0 22 (by decide), h0 27 (by decide)]
    exact hb
  · unfold FD at D ⊢
    rw [f1, ha 16 (by decide)]
    exact D
  · rw [o1, f1, ha 19 (by decide)]
    exact hw
  · unfold VB at V ⊢
    rw [h2, ha 6 (by decide), ha 10 (by decide)]
    exact V
  · rw [h0 28 (by decide)]
    exact h28
  · rw [g1, ha 25 (by decide)]
    exact h25
def gW (Z : MS) (nm sz rw9 : Int32) : MS := wA (wA (wA (wA (wA (wA Z 23 (Z.1 0 27).toNatClampNeg nm) 24 (Z.1 0 27).toNatClampNeg sz) 26 (Z.1 0 27).toNatClampNeg rw9) 25 (Z.1 0 27).toNatClampNeg (Z.1 0 28)) 0 28 (Z.1 0 28 + sz)) 0 27 (Z.1 0 27 + 1)
theorem gto_snoc {l : List GN} {y : GN} : gto (l ++ [y]) = gto l + y.2.2.1 := by
  unfold gto
  rw [List.foldl_append]
  rfl
theorem gEnd (I : RIq n K W Z x) (h27 : (Z.1 0 27).toInt < 60) (hn : NT n K nm) (hg : gfd (mkE K x.2.2) (K.2.1 nm) = none) (hr : rw9 = 0 ∨ rw9 = 1) : RIq n K W (gW Z nm sz rw9) (x.1, x.2.1, x.2.2 ++ [(K.2.1 nm, K.2.2 nm, sz, rw9)]) := by
  have hno := gfd_no I.1 hg
  obtain ⟨J, hx, hf, hgs, hb, D, hw, d, V, h28, h25⟩ := I
  have e27 : (Z.1 0 27 + 1).toInt = (Z.1 0 27).toInt + 1 := add_z rfl (by decide) (by omega) (by omega)
  have nz := natI hb.2.1
  have ng : (Z.1 0 27 + 1).toNatClampNeg = (Z.1 0 27).toNatClampNeg + 1 := natS e27 hb.2.1
  have gs1 : gsM K (gW Z nm sz rw9) = gsM K Z ++ [(K.2.1 nm, K.2.2 nm, sz, rw9)] := by
    show (List.range (Z.1 0 27 + 1).toNatClampNeg).map (fun k => (K.2.1 (upd (Z.1 23) (Z.1 0 27).toNatClampNeg nm k), K.2.2 (upd (Z.1 23) (Z.1 0 27).toNatClampNeg nm k), upd (Z.1 24) (Z.1 0 27).toNatClampNeg sz k, upd (Z.1 26) (Z.1 0 27).toNatClampNeg rw9 k)) = (List.range (Z.1 0 27).toNatClampNeg).map _ ++ _
    rw [ng, List.range_succ, List.map_append]
    congr 1
    · refine List.map_congr_left (fun j hj => ?_)
      have hj := List.mem_range.mp hj
      have q : j ≠ (Z.1 0 27).toNatClampNeg := by omega
      rw [updN_ q, updN_ q, updN_ q]
    · show [(_, _, _, _)] = _
      rw [updS, updS, updS]
  have gl1 : ((x.2.2 ++ [(K.2.1 nm, K.2.2 nm, sz, rw9)]).map (fun g => (g.1, g.2.2.2))) = glM K (gW Z nm sz rw9) := by
    rw [hgs, ← gs1]
    unfold gsM glM nGm
    rw [List.map_map]
    rfl
  obtain ⟨T, he, nd, J4, J5, J6, J7⟩ := J
  refine ⟨⟨T.of rfl rfl rfl rfl rfl rfl, ?_, ?_, J4, J5, ?_, J7⟩, hx, hf, ?_, ?_, D, hw, d, V, ?_, ?_⟩
  · unfold mkE
    rw [gl1]
  · intro i j hij hj
    have hj : (j : Int) < (Z.1 0 27 + 1).toInt := hj
    show K.2.1 (upd (Z.1 23) (Z.1 0 27).toNatClampNeg nm i) ≠ K.2.1 (upd (Z.1 23) (Z.1 0 27).toNatClampNeg nm j)
    rw [updN_ (by omega)]
    by_cases q : j = (Z.1 0 27).toNatClampNeg
    · rw [q, updS]
      exact hno i (by omega)
    · rw [updN_ q]
      exact nd i j hij (by omega)
  · intro k hk
    have hk : (k : Int) < (Z.1 0 27 + 1).toInt := hk
    show NT n K (upd (Z.1 23) (Z.1 0 27).toNatClampNeg nm k) ∧ (upd (Z.1 26) (Z.1 0 27).toNatClampNeg rw9 k = 0 ∨ upd (Z.1 26) (Z.1 0 27).toNatClampNeg rw9 k = 1)
    by_cases q : k = (Z.1 0 27).toNatClampNeg
    · rw [q, updS, updS]
      exact ⟨hn, hr⟩
    · rw [updN_ q, updN_ q]
      exact J6 k (by omega)
  · show x.2.2 ++ _ = _
    rw [gs1, hgs]
  · refine ⟨hb.1, ?_⟩
    show 0 ≤ (Z.1 0 27 + 1).toInt ∧ (Z.1 0 27 + 1).toInt ≤ 60
    omega
  · show Z.1 0 28 + sz = gto (x.2.2 ++ _)
    rw [gto_snoc, ← h28]
  · intro k hk
    have hk : k < (Z.1 0 27 + 1).toNatClampNeg := hk
    have len : x.2.2.length = (Z.1 0 27).toNatClampNeg := by rw [hgs]; unfold gsM nGm; rw [List.length_map, List.length_range]
    show upd (Z.1 25) (Z.1 0 27).toNatClampNeg (Z.1 0 28) k = gto ((x.2.2 ++ [(K.2.1 nm, K.2.2 nm, sz, rw9)]).take k)
    rw [List.take_append_of_le_length (by omega)]
    by_cases q : k = (Z.1 0 27).toNatClampNeg
    · rw [q, updS, ← len, List.take_length]
      exact h28
    · rw [updN_ q]
      exact h25 k (by show k < (Z.1 0 27).toNatClampNeg; omega)
theorem fEnd (I : RIq n K W T x) (h22 : (T.1 0 22).toInt < 40) (hn : NT n K pa) (hnf : ∀ j : Nat, j < nFm T → K.2.1 (T.1 16 j) ≠ K.2.1 pa) (J : JG false n K (mkE K x.2.2) u) (d : ND u) (F : FNW T u pa c f9) (h2 : u.2 = T.2) (h6 : u.1 6 = T.1 6) (h10 : u.1 10 = T.1 10) : RIq n K (upW W (nFm T) (pWd (aR (false, []) K T))) u (tBegF (aR (false, []) K u), x.2.1 ++ [(K.2.1 pa, K.2.2 pa, c, f9, pWd (aR (false, []) K T))], x.2.2) := by
  obtain ⟨-, hx, hf, hgs, hb, D, hw, -, V, h28, h25⟩ := I
  obtain ⟨F1, F2, F3, F4, F5, F6, F7, F8⟩ := F
  have e22 : (T.1 0 22 + 1).toInt = (T.1 0 22).toInt + 1 := add_z rfl (by decide) (by omega) (by omega)
  have nz := natI hb.1.1
  have nf : nFm u = nFm T + 1 := by unfold nFm; rw [F5]; exact natS e22 hb.1.1
  have g1 : nGm u = nGm T := by unfold nGm; rw [F7 27 (by decide)]
  have fi : (T.1 0 22).toNatClampNeg = nFm T := rfl
  rw [fi] at F1 F2 F3 F4
  refine ⟨J, rfl, ?_, ?_, ?_, ?_, ?_, d, ?_, ?_, ?_⟩
  · show x.2.1 ++ _ = _
    rw [hf]
    unfold fsM
    rw [nf, List.range_succ, List.map_append, F1, F2, F3]
    congr 1
    · refine List.map_congr_left (fun j hj => ?_)
      have hj := List.mem_range.mp hj
      have q : j ≠ nFm T := by omega
      rw [updN_ q, updN_ q, updN_ q, upW_n q]
    · show _ = [(_, _, _, _, _)]
      rw [updS, updS, updS, upW_s]
  · show x.2.2 = _
    rw [hgs]
    unfold gsM
    rw [g1, F6 23 (by decide), F6 24 (by decide), F6 26 (by decide)]
  · rw [F5, F7 27 (by decide)]
    exact ⟨by omega, hb.2⟩
  · refine ⟨fun f hf => ?_, fun i j hij hj => ?_⟩
    · rw [F1]
      by_cases q : f = nFm T
      · rw [q, updS]; exact hn
      · rw [updN_ q]; exact D.1 f (by omega)
    · rw [F1, updN_ (by omega)]
      by_cases q : j = nFm T
      · rw [q, updS]; exact hnf i (by omega)
      · rw [updN_ q]; exact D.2 i j hij (by omega)
  · intro ov f hf
    have ov2 : ovM T = false := by
      unfold ovM at ov ⊢
      have := of_decide_eq_false ov
      exact decide_eq_false (by omega)
    rw [F4]
    by_cases q : f = nFm T
    · rw [q, updS, upW_s]
      show (if ovM T = true then 0 else T.1 0 12) = _
      rw [if_neg (by rw [ov2]; exact Bool.false_ne_true)]
    · rw [updN_ q, upW_n q]
      exact hw ov2 f (by omega)
  · unfold VB at V ⊢
    rw [h2, h6, h10]
    exact V
  · rw [F7 28 (by decide)]
    exact h28
  · rw [g1, F6 25 (by decide)]
    exact h25
end MIU
