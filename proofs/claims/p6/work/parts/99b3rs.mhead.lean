/-! the reference: items, their heads, rows, globals -/
def nFm (w : MS) : Nat := (w.1 0 22).toNatClampNeg
def nGm (w : MS) : Nat := (w.1 0 27).toNatClampNeg
def fsM (K : TK) (W : Nat → Int32) (w : MS) : List FN := (List.range (nFm w)).map fun f => (K.2.1 (w.1 16 f), K.2.2 (w.1 16 f), w.1 17 f, w.1 18 f, W f)
def gsM (K : TK) (w : MS) : List GN := (List.range (nGm w)).map fun k => (K.2.1 (w.1 23 k), K.2.2 (w.1 23 k), w.1 24 k, w.1 26 k)
def gto (gs : List GN) : Int32 := gs.foldl (fun a g => a + g.2.2.1) 0
def VB (n : Int) (w : MS) : Prop := ∀ i : Int32, 0 ≤ i.toInt → i.toInt < n → w.1 6 i.toNatClampNeg = 4 → -2147483648 ≤ (w.2 i.toNatClampNeg).toInt ∧ (w.1 10 i.toNatClampNeg = 0 → (w.2 i.toNatClampNeg).toInt ≤ 2147483647)
def FD (n : Int) (K : TK) (w : MS) : Prop := (∀ f : Nat, f < nFm w → NT n K (w.1 16 f)) ∧ (∀ i j : Nat, i < j → j < nFm w → K.2.1 (w.1 16 i) ≠ K.2.1 (w.1 16 j))
def RIq (n : Int) (K : TK) (W : Nat → Int32) (w : MS) (x : IS) : Prop := JG false n K (mkE K x.2.2) w ∧ x.1 = tBegF (aR (false, []) K w) ∧ x.2.1 = fsM K W w ∧ x.2.2 = gsM K w ∧ ((0 ≤ (w.1 0 22).toInt ∧ (w.1 0 22).toInt ≤ 40) ∧ 0 ≤ (w.1 0 27).toInt ∧ (w.1 0 27).toInt ≤ 60) ∧ FD n K w ∧ (ovM w = false → ∀ f : Nat, f < nFm w → W f = w.1 19 f) ∧ ND w ∧ VB n w ∧ (w.1 0 28 = gto x.2.2 ∧ ∀ k : Nat, k < nGm w → w.1 25 k = gto (x.2.2.take k))
section MIT
variable {bz : Bool} {g : GM} {n : Int} {K : TK} {e : PE} {v u w A O Z : MS} {t : Bool} {r pa pb nm : Int32} {S : FS} {k N cc : Nat} {m : Int} {x : IS} {W : Nat → Int32}
theorem sg2 (h : Q_m_isSign2 v pa pb r) : Q_m_isSign v pa pb r := h
theorem is2 (h : Q_m_is2 v pa r) : Q_m_is v pa r := by
  obtain ⟨z, r3, h, k, hr⟩ := h
  exact ⟨z, r3, h, ⟨k.1, k.2.1⟩, hr⟩
theorem ne2 (h : Q_m_need2 v pa t u) : Q_m_need v pa t u := by
  obtain ⟨z, r3, h, k, hr⟩ := h
  exact ⟨z, r3, is2 h, ⟨k.1, k.2.1⟩, hr⟩
theorem fo2 (h : Q_m_functionOf2 v pa r) : Q_m_functionOf v pa r := by
  obtain ⟨z1, z2, k, hr, hk, h⟩ := h
  refine ⟨z1, z2, k, ?_, hk, ?_⟩
  · refine RT.ind (fun y => RT (Q_m_functionOf_L0 v pa) ((v.1 0 22) - 1) y) hr RT.rf ?_
    intro x y _ hx hy
    obtain ⟨q1, q2, r7, h7, k7, c7, e7⟩ := hy
    exact RT.st hx ⟨q1, q2, r7, h7, ⟨k7.1, k7.2.1⟩, c7, e7⟩
  · rcases h with h | ⟨a, r7, h7, k7, c7, e7⟩
    · exact Or.inl h
    · exact Or.inr ⟨a, r7, h7, ⟨k7.1, k7.2.1⟩, c7, e7⟩
theorem rFunOf (h : Q_m_functionOf v pa r) (J : JG bz n K e v) (D : FD n K v) (hp : NT n K pa) : (r.toInt < 0 ∧ (∀ j : Nat, j < nFm v → K.2.1 (v.1 16 j) ≠ K.2.1 pa) ∧ fnm (fsM K W v) (K.2.1 pa) = none) ∨ (0 ≤ r.toInt ∧ r.toInt < (v.1 0 22).toInt ∧ fnm (fsM K W v) (K.2.1 pa) = some (K.2.1 (v.1 16 r.toNatClampNeg), K.2.2 (v.1 16 r.toNatClampNeg), v.1 17 r.toNatClampNeg, v.1 18 r.toNatClampNeg, W r.toNatClampNeg)) := by
  obtain ⟨-, z, k, hr, hk, h⟩ := h
  have n0 : ((nFm v : Nat) : Int) = (v.1 0 22).toInt := natI z.1
  have gi : ((v.1 0 22) - 1).toInt = (v.1 0 22).toInt - 1 := sub_z rfl (by decide) (by omega) (by omega)
  have inv : ∀ j : Nat, k.toInt < j → (j : Int) < (v.1 0 22).toInt → K.2.1 (v.1 16 j) ≠ K.2.1 pa := by
    refine RT.ind (fun (y : Int32) => ∀ j : Nat, y.toInt < j → (j : Int) < (v.1 0 22).toInt → K.2.1 (v.1 16 j) ≠ K.2.1 pa) hr (fun j a b => by omega) ?_
    intro x y _ hx hy
    obtain ⟨q1, q2, r7, h7, -, c7, rfl⟩ := hy
    have e1 : (x + (-1 : Int32)).toInt = x.toInt + (-1) := add_z rfl (by decide) (by omega) (by omega)
    intro j a b
    by_cases q : (j : Int) = x.toInt
    · have xj : x.toNatClampNeg = j := by have := natI (a := x) q2; omega
      rw [xj] at h7
      exact fun w => ((rNm J (D.1 j (by omega)) hp h7).mpr w) c7
    · exact hx j (by omega) b
  rcases h with ⟨a, rfl⟩ | ⟨a, r7, h7, -, c7, rfl⟩
  · refine Or.inl ⟨a, fun j hj => inv j (by omega) (by omega), ?_⟩
    exact find_l (p := fun f : FN => f.1 == K.2.1 pa) (F := fun f => (K.2.1 (v.1 16 f), K.2.2 (v.1 16 f), v.1 17 f, v.1 18 f, W f)) _ (fun j hj => beq_false_of_ne (inv j (by omega) (by omega)))
  · have kn := natI a
    have e7 := (rNm J (D.1 _ (by omega)) hp h7).mp c7
    refine Or.inr ⟨a, hk.2, ?_⟩
    exact find_s (p := fun f : FN => f.1 == K.2.1 pa) (F := fun f => (K.2.1 (v.1 16 f), K.2.2 (v.1 16 f), v.1 17 f, v.1 18 f, W f)) (k := r.toNatClampNeg) (by
      show (K.2.1 (v.1 16 r.toNatClampNeg) == K.2.1 pa) = true
      rw [beq_iff_eq]
      exact e7) (fun j hj => beq_false_of_ne (fun w => D.2 j r.toNatClampNeg hj (by omega) (w.trans e7.symm))) _ (by omega)
theorem gfd_no (J : JG bz n K e v) {y : Int32} (h : gfd e y = none) : ∀ j : Nat, (j : Int) < (v.1 0 27).toInt → K.2.1 (v.1 23 j) ≠ y := by
  intro j hj q
  have hg : gfd e y = ((glM K v).find? (fun g => g.1 == y)).map (fun g => g.2) := by rw [J.2.1]; rfl
  rw [h] at hg
  cases hf : (glM K v).find? (fun g => g.1 == y) with
  | some z => rw [hf] at hg; cases hg
  | none =>
    have := List.find?_eq_none.mp hf (K.2.1 (v.1 23 j), v.1 26 j) (List.mem_map.mpr ⟨j, List.mem_range.mpr (by have := natI (a := v.1 0 27) (by omega); omega), rfl⟩)
    exact this (by rw [beq_iff_eq]; exact q)
theorem hd_eq (hx : x.1 = tBegF (aR g K v)) : tHead K x = bd (tExp 10 (mkE K x.2.2) (aR g K v)) fun s => bd (tNeed 2 (mkE K x.2.2) s) fun s => if fnm x.2.1 (vl (mkE K x.2.2) s) ≠ none ∨ gfd (mkE K x.2.2) (vl (mkE K x.2.2) s) ≠ none then .error (3, pl (mkE K x.2.2) s) else .ok (tBegF s, x.2) := by
  unfold tHead
  rw [hx, nExp, bd_as]
  congr 1
  funext s
  rw [bd_ok, nNeed, bd_as]
  congr 1
theorem kM_34 {k : Int32} {y : Int64} {d : Int32} (h : TV k y) : ((kM k y d).toInt = 3 ∨ (kM k y d).toInt = 4) ↔ k = 4 := by
  constructor
  · intro q
    have hk := h.1
    simp only [List.mem_cons, List.not_mem_nil, or_false] at hk
    rcases hk with rfl | rfl | rfl | rfl | rfl | rfl | rfl
    · have e0 : kM 0 y d = 0 := rfl
      rw [e0] at q
      rcases q with q | q <;> exact absurd q (by decide)
    · have e0 : kM 1 y d = 1 := rfl
      rw [e0] at q
      rcases q with q | q <;> exact absurd q (by decide)
    · have e0 : kM 2 y d = 2 := rfl
      rw [e0] at q
      rcases q with q | q <;> exact absurd q (by decide)
    · obtain ⟨z, hz, rfl⟩ := h.2.1 rfl
      have e1 : kM 3 z.toInt64 d = 10 + z := by unfold kM; rw [if_pos rfl, i64_32]
      have : ∀ z ∈ KL, 10 ≤ (10 + z : Int32).toInt := by decide
      have := this z hz
      rw [e1] at q
      omega
    · rfl
    · obtain ⟨z, hz, rfl⟩ := h.2.2 rfl
      have e1 : kM 5 z.1.toInt64 d = z.2 := (kM_5 h hz).mpr ⟨rfl, rfl⟩
      have := (sgk_SC z hz).2
      rw [e1] at q
      omega
    · have e0 : kM 6 y d = 5 := rfl
      rw [e0] at q
      rcases q with q | q <;> exact absurd q (by decide)
  · rintro rfl
    unfold kM
    rw [if_neg (by decide), if_pos rfl]
    split
    · exact Or.inr (by decide)
    · exact Or.inl (by decide)
theorem rRowB (J : JG bz n K e O) (eo : tOpen e (aR g K A) = .ok (aR g K O)) (c : O.1 6 (O.1 0 47).toNatClampNeg ≠ 4) (hb : Q_m_bad O u) : tRowN e (aR g K A) = .error (u.1 0 50, u.1 0 51) := by
  have k := kM_34 (d := O.1 10 (O.1 0 47).toNatClampNeg) (rTV J)
  rw [← rKd (g := g) J] at k
  unfold tRowN
  rw [eo, bd_ok, if_neg (fun q => c (k.mp (Or.inr q)))]
  unfold tNeed
  rw [if_neg (fun q => c (k.mp (Or.inl q))), rBad (g := g) hb J, bd_er]
theorem rRowV (J : JG bz n K e O) (V : VB n O) (c : O.1 6 (O.1 0 47).toNatClampNeg = 4) : ((kd e (aR g K O)).toInt = 4 ∧ 2147483647 < (O.2 (O.1 0 47).toNatClampNeg).toInt) ∨ ((kd e (aR g K O)).toInt = 3 ∧ vl e (aR g K O) = (O.2 (O.1 0 47).toNatClampNeg).toInt32 ∧ (vl e (aR g K O)).toInt = (O.2 (O.1 0 47).toNatClampNeg).toInt) := by
  have J4 := J.2.2.2.1
  have V1 := V _ J4.2.1 J4.2.2.1 c
  have T := J.1.1 _ J4.2.1 J4.2.2.1
  have ev : vl e (aR g K O) = (O.2 (O.1 0 47).toNatClampNeg).toInt32 := by rw [rVl J]; exact T.2.2.1 (Or.inl c)
  have ek := rKd (g := g) J
  rw [c] at ek
  unfold kM at ek
  rw [if_neg (by decide), if_pos rfl] at ek
  by_cases q : O.1 10 (O.1 0 47).toNatClampNeg ≠ 0 ∧ (2147483647 : Int) < (O.2 (O.1 0 47).toNatClampNeg).toInt
  · rw [if_pos q] at ek
    exact Or.inl ⟨by rw [ek]; decide, q.2⟩
  · rw [if_neg q] at ek
    refine Or.inr ⟨by rw [ek]; decide, ev, ?_⟩
    have l : (O.2 (O.1 0 47).toNatClampNeg).toInt ≤ 2147483647 := by
      by_cases d : O.1 10 (O.1 0 47).toNatClampNeg = 0
      · exact V1.2 d
      · have : ¬ (2147483647 : Int) < (O.2 (O.1 0 47).toNatClampNeg).toInt := fun w => q ⟨d, w⟩
        omega
    rw [ev, Int64.toInt_toInt32]
    show Int.bmod _ 4294967296 = _
    unfold Int.bmod
    dsimp only
    split <;> omega
theorem rRowD (J : JG bz n K e O) (V : VB n O) (eo : tOpen e (aR g K A) = .ok (aR g K O)) (c : O.1 6 (O.1 0 47).toNatClampNeg = 4) (hv : (O.2 (O.1 0 47).toNatClampNeg).toInt < 1 ∨ 1000 < (O.2 (O.1 0 47).toNatClampNeg).toInt) : tRowN e (aR g K A) = .error (5, pl e (aR g K O)) := by
  unfold tRowN
  rw [eo, bd_ok]
  rcases rRowV (g := g) J V c with ⟨q, -⟩ | ⟨q, -, q2⟩
  · rw [if_pos q]
  · rw [if_neg (by omega)]
    unfold tNeed
    rw [if_pos q, bd_ok, if_pos (by rw [q2]; exact hv)]
theorem rDueT (J : JG bz n K e O) (hk : 2 ≤ (kd e (aR g K O)).toInt) (h : Q_m_take (wA O 0 49 (O.1 0 47)) t u) : t = true ∧ (5, pl e (aR g K O)) = (u.1 0 50, u.1 0 51) := by
  have J2 : JG bz n K e (wA O 0 49 (O.1 0 47)) := J.of rfl (fun a ha => if_neg (fun q => by rw [q] at ha; revert ha; decide)) rfl rfl ⟨Int.le_refl _, J.2.2.2.1.2.1, J.2.2.2.1.2.2.1⟩
  have ek : kd e (aR g K (wA O 0 49 (O.1 0 47))) = kd e (aR g K O) := kd_aR rfl
  have ep : pl e (aR g K (wA O 0 49 (O.1 0 47))) = pl e (aR g K O) := by unfold pl; rw [pAt_aR, pAt_aR]; rfl
  have T := rTake (g := g) h J2 (by rw [ek]; exact hk)
  have tk : tTake e (aR g K (wA O 0 49 (O.1 0 47))) = .error (5, pl e (aR g K O)) := by
    unfold tTake
    have pd : pDu (aR g K (wA O 0 49 (O.1 0 47))) = true := decide_eq_true rfl
    rw [if_pos (Or.inr pd), ep]
  cases t with
  | false =>
    have := T.eo
    rw [tk] at this
    cases this
  | true =>
    have := T.er
    rw [tk] at this
    injection this with this
    exact ⟨rfl, this⟩
theorem rRowG (J : JG bz n K e O) (V : VB n O) (eo : tOpen e (aR g K A) = .ok (aR g K O)) (c : O.1 6 (O.1 0 47).toNatClampNeg = 4) (hv : 1 ≤ (O.2 (O.1 0 47).toNatClampNeg).toInt ∧ (O.2 (O.1 0 47).toNatClampNeg).toInt ≤ 1000) : tRowN e (aR g K A) = bd (tTake e (aR g K O)) fun s2 => bd (tExp 35 e s2) fun s3 => .ok ((O.2 (O.1 0 47).toNatClampNeg).toInt32, tClose s3) := by
  unfold tRowN
  rw [eo, bd_ok]
  rcases rRowV (g := g) J V c with ⟨-, q⟩ | ⟨q, q1, q2⟩
  · omega
  · rw [if_neg (by omega)]
    unfold tNeed
    rw [if_pos q, bd_ok, if_neg (by rw [q2]; omega), q1]
end MIT
