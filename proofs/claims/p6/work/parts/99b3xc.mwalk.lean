/-! the reference's orders: a text read to its end -/
section XCW
variable {n : Int} {K : TK} {e : PE} {v u w y w0 w80 w171 z : MS} {q : EV} {r : Int32} {k p N : Nat} {bz : Bool} {x : IS} {W : Nat → Int32}
/-- the last steps change words alone -/
theorem MFq.fin {evs : List EV} (O : OAt K w0 w80 evs) (h15 : (w0.1 0 15).toInt = 0) (h39 : (w0.1 0 39).toInt = 0) (C : (∀ c : Nat, (c : Int) < (w80.1 0 39).toInt → 0 ≤ (w171.1 14 (w80.1 38 c).toNatClampNeg).toInt ∧ (w171.1 14 (w80.1 38 c).toNatClampNeg).toInt < (w80.1 0 22).toInt ∧ K.2.1 (w80.1 16 (w171.1 14 (w80.1 38 c).toNatClampNeg).toNatClampNeg) = K.2.1 (w80.1 35 c)) ∧ ∀ j : Nat, (∀ c : Nat, (c : Int) < (w80.1 0 39).toInt → (w80.1 38 c).toNatClampNeg ≠ j) → w171.1 14 j = w80.1 14 j) (u14 : u.1 14 = w171.1 14) (ua : u.1 13 = w80.1 13 ∧ u.1 16 = w80.1 16 ∧ u.1 25 = w80.1 25) (u0 : u.1 0 22 = w80.1 0 22 ∧ u.1 0 27 = w80.1 0 27) : MFq K u evs := by
  intro x q y e
  obtain ⟨-, -, O3, O4⟩ := O
  have n0 : (w0.1 0 15).toNatClampNeg = 0 := by have := natI (a := w0.1 0 15) (by omega); omega
  obtain ⟨m1, m2⟩ := O4 x q y e
  rw [n0, Nat.zero_add] at m1 m2
  rcases m2 with m2 | ⟨m2, m3⟩
  · exact Or.inl m2
  refine Or.inr ⟨by rw [ua.1]; exact m2, ?_⟩
  have oth : q.1 ≠ 21 → w171.1 14 (loL x) = w80.1 14 (loL x) := fun h => C.2 _ (fun c hc g => by
    have := (O3.1 c (by omega) hc).2.2
    rw [g, m2] at this
    exact h (oEv14 this))
  unfold moA at m3
  unfold mfA
  rw [u14, ua.2.1, ua.2.2, u0.1, u0.2]
  by_cases c4 : q.1 = 21
  · have n1 : ¬ (q.1 = 16 ∨ q.1 = 17 ∨ q.1 = 18 ∨ q.1 = 19) := by rw [c4]; decide
    have n2 : ¬ (q.1 = 5 ∨ q.1 = 6) := by rw [c4]; decide
    have n3 : ¬ q.1 = 20 := by rw [c4]; decide
    rw [if_neg n1, if_neg n2, if_neg n3, if_pos c4] at m3 ⊢
    obtain ⟨c, k1, k2, k3, k4⟩ := m3
    have P := C.1 c k2
    have pp : (w80.1 38 c).toNatClampNeg = loL x := natC k3
    rw [pp] at P
    exact ⟨P.1, P.2.1, P.2.2.trans k4⟩
  · rw [oth c4]
    by_cases c1 : q.1 = 16 ∨ q.1 = 17 ∨ q.1 = 18 ∨ q.1 = 19
    · rw [if_pos c1] at m3 ⊢; exact m3
    rw [if_neg c1] at m3 ⊢
    by_cases c2 : q.1 = 5 ∨ q.1 = 6
    · rw [if_pos c2] at m3 ⊢; exact m3
    rw [if_neg c2] at m3 ⊢
    by_cases c3 : q.1 = 20
    · rw [if_pos c3] at m3 ⊢; exact m3
    rw [if_neg c3, if_neg c4] at m3 ⊢
    exact m3
set_option maxHeartbeats 800000 in
theorem oWalkM (hn : 0 < n ∧ n ≤ 4002) (T : TR n K v) (V : VB n v) (h : Q_m_walk v N false u) : ∃ evs y W', (gItems EvSP SP K 1502 X0 = some evs ∧ tItems SP K 1502 X0 = .ok y) ∧ ((u.1 0 15).toInt = loL (txE 0 evs) ∧ u.1 0 22 = nI evs.length ∧ evs.length ≤ 40) ∧ (∀ f : Nat, f < evs.length → (u.1 20 f).toInt = loL (txE 0 (evs.take f))) ∧ MFq K u (txE 0 evs) ∧ (y.2.1 = fsM K W' u ∧ y.2.2 = gsM K u ∧ ∀ k : Nat, k < nGm u → u.1 25 k = gto (y.2.2.take k)) := by
  obtain ⟨u1, h1, r5, -, u11, h11, w80, hr, b47, b48, b12, b15, b43, b39, b27, b22, b28, h⟩ := h
  obtain ⟨w0, hw⟩ : ∃ w0, w0 = wZ v r5 := ⟨_, rfl⟩
  have e0 : (wA (wA u11 11 ((u11.1 0 12).toNatClampNeg) (1048691 : Int32)) 0 12 ((u11.1 0 12) + (1 : Int32))) = w0 := by rw [hw, h11, h1]; rfl
  rw [e0] at hr
  have I0 : RIq n K (fun _ => 0) w0 X0 := by rw [hw]; exact rW0 T hn V
  have f15 : w0.1 0 15 = 0 := by rw [hw]; rfl
  have f39 : w0.1 0 39 = 0 := by rw [hw]; rfl
  have f22 : w0.1 0 22 = 0 := by rw [hw]; rfl
  have f47 : w0.1 0 47 = 0 := by rw [hw]; rfl
  have z0 : (0 : Int32).toInt = 0 := by decide
  obtain ⟨y, W1, d, f, I1, ⟨hf, hg⟩, hm, OA1, ⟨d22, d40⟩, h20⟩ := oItemsM I0 (by rw [f15]; exact z0) f22 (by rw [f47]; exact z0) hr
  obtain ⟨f0, rfl⟩ : ∃ f0, f = f0 + 1 := ⟨f - 1, by omega⟩
  rcases h with ⟨c0, ka, hk, bk, ⟨ck, kb, w171, hr2, fr, bkb, ckb, h⟩ | ⟨ck, r209, hg2, -, ⟨c9, c10, f9, -⟩ | ⟨c9, f9, -⟩⟩⟩ | ⟨c0, u9, hi, f9, -⟩
  rotate_left
  · cases f9
  · cases f9
  · cases f9
  have kd9 : (kd (mkE K y.2.2) y.1).toInt = 0 := by
    rw [I1.2.1, kdB]
    exact (kd0 I1.1).mpr c0
  have hf2 : tItems SP K 1502 X0 = .ok y := by
    rw [hf]
    show (if (kd (mkE K y.2.2) y.1).toInt = 0 then _ else _) = _
    rw [if_pos kd9]
  have hg2 : gItems EvSP SP K 1502 X0 = some d := by
    rw [hg]
    show (if (kd (mkE K y.2.2) y.1).toInt = 0 then some [] else _ : Option (List (List Int32 × List EV))).bind _ = _
    rw [if_pos kd9, Option.bind_some, List.append_nil]
  have e39 : w171.1 0 39 = w80.1 0 39 := fr.2.1 39 (fun q => nomatch q)
  rw [e39] at ckb
  have C := oCallsM I1.1 I1.2.2.2.2.2.1 OA1.2.2.1 (by rw [f39]; exact z0) b39.1 b22.1 hk ck hr2 ckb
  have fin : ∀ {z : MS}, FG [12, 67, 68] [0, 11] w171 z → FG [] [11] (wA z 0 69 (4 * (z.1 0 12 + z.1 0 28))) u → (∀ i ∉ [12, 67, 68, 69], u.1 0 i = w80.1 0 i) ∧ ∀ a ∉ [0, 11], u.1 a = w171.1 a := by
    intro z F G
    refine ⟨fun i hi => ?_, fun a ha => ?_⟩
    · rw [G.2.1 i (fun q => nomatch q)]
      have i69 : i ≠ 69 := fun q => hi (by rw [q]; decide)
      have sb : ∀ i ∈ [12, 67, 68], i ∈ [12, 67, 68, 69] := by decide
      refine (updN_ i69).trans ?_
      rw [F.2.1 i (fun q => hi (sb i q))]
      exact fr.2.1 i (fun q => nomatch q)
    · have a0 : a ≠ 0 := fun q => ha (by rw [q]; decide)
      have sb : ∀ i ∈ [11], i ∈ [0, 11] := by decide
      rw [G.2.2 a (fun q => ha (sb a q))]
      exact (if_neg a0).trans (F.2.2 a ha)
  have Ft : ∀ {fl al : List Nat} {z z2 : MS}, FG [12, 67, 68] [0, 11] w171 z → FG fl al z z2 → (∀ i ∈ fl, i ∈ [12, 67, 68]) → (∀ i ∈ al, i ∈ [0, 11]) → FG [12, 67, 68] [0, 11] w171 z2 := fun F G s1 s2 => ⟨G.1.trans F.1, fun i hi => (G.2.1 i (fun q => hi (s1 i q))).trans (F.2.1 i hi), fun a ha => (G.2.2 a (fun q => ha (s2 a q))).trans (F.2.2 a ha)⟩
  have F0 : FG [12, 67, 68] [0, 11] w171 w171 := ⟨rfl, fun _ _ => rfl, fun _ _ => rfl⟩
  have U : (∀ i ∉ [12, 67, 68, 69], u.1 0 i = w80.1 0 i) ∧ ∀ a ∉ [0, 11], u.1 a = w171.1 a := by
    rcases h with ⟨c44, ⟨c45, ⟨c, u53, q1, q2, -, eu⟩ | ⟨c, f9, -⟩⟩ | ⟨c45, u72, -, k2, ⟨c, u53, q1, q2, -, eu⟩ | ⟨c, f9, -⟩⟩⟩ | ⟨c44, u110, -, k1, ⟨c45, ⟨c, u53, q1, q2, -, eu⟩ | ⟨c, f9, -⟩⟩ | ⟨c45, u72, -, k2, ⟨c, u53, q1, q2, -, eu⟩ | ⟨c, f9, -⟩⟩⟩
    · rw [← eu] at q2
      exact fin F0 q2
    · cases f9
    · rw [← eu] at q2
      exact fin (Ft F0 k2.1 (by decide) (by decide)) q2
    · cases f9
    · rw [← eu] at q2
      exact fin (Ft F0 k1.1 (by decide) (by decide)) q2
    · cases f9
    · rw [← eu] at q2
      exact fin (Ft (Ft F0 k1.1 (by decide) (by decide)) k2.1 (by decide) (by decide)) q2
    · cases f9
  have UA : ∀ a ∉ [0, 11, 14], u.1 a = w80.1 a := fun a ha => by
    have s1 : ∀ i ∈ [0, 11], i ∈ [0, 11, 14] := by decide
    have s2 : ∀ i ∈ [11, 14], i ∈ [0, 11, 14] := by decide
    rw [U.2 a (fun q => ha (s1 a q)), fr.2.2 a (fun q => ha (s2 a q))]
  have u15 := OA1.1
  rw [f15, z0] at u15
  refine ⟨d, y, W1, ⟨hg2, hf2⟩, ⟨?_, ?_, d40⟩, fun f hf => ?_, ?_, ?_, ?_, ?_⟩
  · rw [U.1 15 (by decide)]
    omega
  · rw [U.1 22 (by decide), d22]
  · rw [UA 20 (by decide)]
    exact h20 f hf
  · exact MFq.fin OA1 (by rw [f15]; exact z0) (by rw [f39]; exact z0) C (U.2 14 (by decide)) ⟨UA 13 (by decide), UA 16 (by decide), UA 25 (by decide)⟩ ⟨U.1 22 (by decide), U.1 27 (by decide)⟩
  · rw [I1.2.2.1]
    unfold fsM nFm
    rw [U.1 22 (by decide), UA 16 (by decide), UA 17 (by decide), UA 18 (by decide)]
  · rw [I1.2.2.2.1]
    unfold gsM nGm
    rw [U.1 27 (by decide), UA 23 (by decide), UA 24 (by decide), UA 26 (by decide)]
  · unfold nGm
    rw [U.1 27 (by decide), UA 25 (by decide)]
    exact I1.2.2.2.2.2.2.2.2.2.2
end XCW
