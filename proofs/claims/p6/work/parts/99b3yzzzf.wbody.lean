/-! the reference's words: the inside of a loop, its end -/
def BDb (n : Int) (K : TK) (e : PE) (v u : MS) (pa : Int32) (b : List EV) : Prop := (JM n K e u ∧ ND u) ∧ (BDw v (lwL b) → ((u.1 0 12).toInt = (v.1 0 12).toInt + lwL b ∧ WFq v u ∧ CWq v u ∧ MWq K u (v.1 0 39).toInt (decide (pa.toInt = -1), pa, true) (v.1 0 12).toNatClampNeg (-1) (-1) (v.1 0 59) b ∧ FQq v u (fxL (v.1 0 12).toNatClampNeg b)) ∧ (u.1 0 53 = chw 30 (-1) (v.1 0 12).toNatClampNeg b ∧ (pa.toInt = -1 → u.1 0 57 = chw 31 (-1) (v.1 0 12).toNatClampNeg b) ∧ u.1 0 59 = chw 32 (v.1 0 59) (v.1 0 12).toNatClampNeg b)) ∧ ((u.1 0 52 = v.1 0 52 + 1 ∧ (u.1 0 52).toInt = (v.1 0 52).toInt + 1) ∧ (u.1 61 (v.1 0 52).toNatClampNeg = v.1 0 53 ∧ u.1 63 (v.1 0 52).toNatClampNeg = v.1 0 55 ∧ u.1 65 (v.1 0 52).toNatClampNeg = v.1 0 57) ∧ ∀ b ∈ [61, 63, 65], ∀ j : Nat, (j : Int) < (v.1 0 52).toInt → u.1 b j = v.1 b j) ∧ (u.1 0 32 = v.1 0 32 ∧ u.1 0 30 = v.1 0 30 ∧ (∀ j : Nat, (j : Int) < (v.1 0 30).toInt → u.1 29 j = v.1 29 j) ∧ knM K u = knM K v)
/-- a loop ends -/
def ENw (v u : MS) : Prop := (u.1 0 12 = v.1 0 12 ∧ SMw v u) ∧ (u.1 29 = v.1 29 ∧ u.1 0 30 = v.1 0 30 ∧ u.1 0 32 = v.1 0 32 ∧ u.1 0 47 = v.1 0 47) ∧ (u.1 0 52 = v.1 0 52 - 1 ∧ u.1 0 53 = v.1 61 (v.1 0 52 - 1).toNatClampNeg ∧ u.1 0 55 = v.1 63 (v.1 0 52 - 1).toNatClampNeg ∧ u.1 0 57 = v.1 65 (v.1 0 52 - 1).toNatClampNeg ∧ u.1 0 59 = v.1 0 59) ∧ (u.1 61 = v.1 61 ∧ u.1 63 = v.1 63 ∧ u.1 65 = v.1 65)
section ZZF
variable {n : Int} {K : TK} {e : PE} {v u w x y X s s' : MS} {a b d a0 cc ca : List EV} {q : EV} {r pa pb pd o zv zn T A d0 : Int32} {c : RM1} {E : EvE} {S : EvS} {Es : FE} {Ss : FS} {k : Nat} {cl cl' : Int} {g : Bool × Int32 × Bool} {p : Nat} {F : Nat → Int32} {b0 c0 : Int32} {Bd Cd : D3}
theorem oBodyW (hS : XWs n K c S) (hSs : HMS n K c Ss) (h : Q_m_body k c v pa pb false u) (J : JM n K e v) (nd : ND v) : ∃ b, gInner S e (knM K v) (v.1 0 32) (v.1 0 47) = some (b, knM K v, u.1 0 47) ∧ BDb n K e v u pa b := by
  have z52 := z52_b h
  obtain ⟨-, -, -, -, -, -, -, -, -, -, -, -, -, -, h⟩ := h
  rcases h with ⟨u9, -, f9, -⟩ | ⟨u5, h1, k1, -, eu⟩
  · cases f9
  obtain ⟨W, hW⟩ : ∃ W, W = (wA (wA (wA (wA (wA (wA (wA (wA (wA (wA (wA (wA (wA v 61 ((v.1 0 52).toNatClampNeg) (v.1 0 53)) 62 ((v.1 0 52).toNatClampNeg) (v.1 0 54)) 63 ((v.1 0 52).toNatClampNeg) (v.1 0 55)) 64 ((v.1 0 52).toNatClampNeg) (v.1 0 56)) 65 ((v.1 0 52).toNatClampNeg) (v.1 0 57)) 66 ((v.1 0 52).toNatClampNeg) (v.1 0 58)) 0 52 ((v.1 0 52) + (1 : Int32))) 0 53 (-1 : Int32)) 0 54 (-1 : Int32)) 0 55 pa) 0 56 pb) 0 57 (-1 : Int32)) 0 58 (-1 : Int32)) := ⟨_, rfl⟩
  rw [← hW] at h1
  have e1 : EMS 0 v W := by
    rw [hW]
    exact EMS.w0 (EMS.w0 (EMS.w0 (EMS.w0 (EMS.w0 (EMS.w0 (EMS.w0 (EMS.wa (EMS.wa (EMS.wa (EMS.wa (EMS.wa (EMS.wa EMS.rf (by decide)) (by decide)) (by decide)) (by decide)) (by decide)) (by decide)) (by decide)) (by decide)) (by decide)) (by decide)) (by decide)) (by decide)) (by decide)
  have e52 : (v.1 0 52 + 1).toInt = (v.1 0 52).toInt + 1 := add_z rfl (by decide) (by omega) (by omega)
  have w52 : W.1 0 52 = v.1 0 52 + 1 := by rw [hW]; rfl
  have w53 : W.1 0 53 = -1 := by rw [hW]; rfl
  have w55 : W.1 0 55 = pa := by rw [hW]; rfl
  have w57 : W.1 0 57 = -1 := by rw [hW]; rfl
  have w59 : W.1 0 59 = v.1 0 59 := by rw [hW]; rfl
  have w61 : W.1 61 = upd (v.1 61) (v.1 0 52).toNatClampNeg (v.1 0 53) := by rw [hW]; rfl
  have w63 : W.1 63 = upd (v.1 63) (v.1 0 52).toNatClampNeg (v.1 0 55) := by rw [hW]; rfl
  have w65 : W.1 65 = upd (v.1 65) (v.1 0 52).toNatClampNeg (v.1 0 57) := by rw [hW]; rfl
  have w12 : W.1 0 12 = v.1 0 12 := by rw [hW]; rfl
  have w11 : W.1 11 = v.1 11 := by rw [hW]; rfl
  have wS : SMw v W := by rw [hW]; exact ⟨⟨rfl, rfl, rfl, rfl, rfl, rfl⟩, rfl, rfl⟩
  have w32 : W.1 0 32 = v.1 0 32 := by rw [hW]; rfl
  have w30 : W.1 0 30 = v.1 0 30 := by rw [hW]; rfl
  have w29 : W.1 29 = v.1 29 := by rw [hW]; rfl
  have w47 : W.1 0 47 = v.1 0 47 := by rw [hW]; rfl
  obtain ⟨b, y1, y2, y30, ykn⟩ := oPartW hS hSs h1 (e1.j J) (nd_e e1 nd)
  have knW : knM K W = knM K v := knM_of w29 w30
  rw [ykn, knW, w32, w47] at y1
  rw [eu]
  obtain ⟨JU, ⟨a0, ⟨a7, a8⟩, a10⟩, b1, b2, b3⟩ := y2
  have gW : gWw W = (decide (pa.toInt = -1), pa, true) := by
    unfold gWw
    rw [w55, w52, e52]
    rw [decide_eq_true (p := (v.1 0 52).toInt + 1 ≠ 0) (by omega)]
  have n52 := natI z52.1
  have up : ∀ B ∈ [61, 63, 65], u5.1 B (v.1 0 52).toNatClampNeg = W.1 B (v.1 0 52).toNatClampNeg := fun B hB => a10 B hB _ (by rw [w52, e52]; omega)
  refine ⟨b, y1, JU, fun B => ?_, ⟨⟨by rw [a7, w52], by rw [a7, w52, e52]⟩, ⟨?_, ?_, ?_⟩, fun B hB j hj => ?_⟩, by rw [b1, w32], by rw [y30, w30], fun j hj => by rw [b3 j (by rw [w30]; exact hj), w29], ykn.trans knW⟩
  · have AW : WAq K v W [] := WAi.sm w11 w12 wS ⟨B.1, by have := B.2.1; rw [lwL_nil]; omega, B.2.2⟩
    obtain ⟨⟨a1, a2, a3, a4, af⟩, a5, a6, ar⟩ := a0 ⟨by rw [w12]; exact B.1, by rw [w12]; exact B.2.1, by rw [wS.2.2]; exact B.2.2⟩
    rw [gW, wS.2.1, w12, w53, w57, w59] at a4
    rw [w53, w12] at a5
    rw [w55, w57, w12] at a6
    rw [w59, w12] at ar
    rw [w12] at a1 af
    refine ⟨⟨a1, AW.2.1.tr a2, AW.2.2.1.tr a3 AW.2.1 a2, a4, ?_⟩, a5, a6, ar⟩
    have T := AW.2.2.2.2.tr af a2 B.2.2
    exact T
  · rw [up 61 (by decide), w61]; exact updS
  · rw [up 63 (by decide), w63]; exact updS
  · rw [up 65 (by decide), w65]; exact updS
  · rw [a10 B hB j (by rw [w52, e52]; omega)]
    have nj : j ≠ (v.1 0 52).toNatClampNeg := by omega
    simp only [List.mem_cons, List.not_mem_nil, or_false] at hB
    rcases hB with rfl | rfl | rfl
    · rw [w61]; exact updN_ nj
    · rw [w63]; exact updN_ nj
    · rw [w65]; exact updN_ nj
theorem oEndsW (h : Q_m_ends v u) : ENw v u ∧ ∀ R : List Nat, CHr (v.1 11) (v.1 0 53) (-1) R → R.Pairwise (· > ·) → (∀ x ∈ R, x < 10000000) → (∀ j, j ∈ R → u.1 11 j = jW 0 ((4 : Int32) * (v.1 0 12 - nI j))) ∧ (∀ j, j ∉ R → u.1 11 j = v.1 11 j) := by
  obtain ⟨-, -, -, u2, h2, k2, u6, h6, k6, eu⟩ := h
  have F : ∀ i, u2.1 0 i = v.1 0 i := fun i => k2.2.1 i (List.not_mem_nil)
  have F6 : ∀ i, u6.1 0 i = v.1 0 i := fun i => (k6.2.1 i (List.not_mem_nil)).trans (F i)
  have A6 : ∀ i, i ∉ [11, 14] → u6.1 i = v.1 i := fun i hi => by
    simp only [List.mem_cons, List.not_mem_nil, or_false, not_or] at hi
    rw [k6.2.2 i (by simp only [List.mem_cons, List.not_mem_nil, or_false]; exact hi.2)]
    exact k2.2.2 i (by simp only [List.mem_cons, List.not_mem_nil, or_false]; exact hi.1)
  have e11 : u6.1 11 = u2.1 11 := k6.2.2 11 (by decide)
  refine ⟨?_, fun R hR hd hb => ?_⟩
  · rw [eu]
    refine ⟨⟨F6 12, ⟨⟨A6 24 (by decide), A6 35 (by decide), A6 37 (by decide), A6 40 (by decide), A6 41 (by decide), A6 42 (by decide)⟩, F6 39, F6 43⟩⟩, ⟨A6 29 (by decide), F6 30, F6 32, F6 47⟩, ⟨?_, ?_, ?_, ?_, F6 59⟩, A6 61 (by decide), A6 63 (by decide), A6 65 (by decide)⟩
    · show u6.1 0 52 - 1 = _
      rw [F6]
    · show u6.1 61 (u6.1 0 52 - 1).toNatClampNeg = _
      rw [F6, A6 61 (by decide)]
    · show u6.1 63 (u6.1 0 52 - 1).toNatClampNeg = _
      rw [F6, A6 63 (by decide)]
    · show u6.1 65 (u6.1 0 52 - 1).toNatClampNeg = _
      rw [F6, A6 65 (by decide)]
  · have C := landC h2 hR hd hb
    refine ⟨fun j hj => ?_, fun j hj => ?_⟩
    · rw [eu]
      show u6.1 11 j = _
      rw [e11]
      exact C.1 j hj
    · rw [eu]
      show u6.1 11 j = _
      rw [e11]
      exact C.2 j hj
theorem endsKW (B : BDb n K e x w pa b) (xs : kpW v x) (x52 : X.1 0 52 = w.1 0 52) (xa : X.1 61 = w.1 61 ∧ X.1 63 = w.1 63 ∧ X.1 65 = w.1 65) (N : ENw X u) : (u.1 0 52 = v.1 0 52 ∧ u.1 0 53 = v.1 0 53 ∧ u.1 0 55 = v.1 0 55 ∧ u.1 0 57 = v.1 0 57) ∧ ∀ b ∈ [61, 63, 65], ∀ j : Nat, (j : Int) < (v.1 0 52).toInt → u.1 b j = v.1 b j := by
  obtain ⟨-, -, ⟨⟨b1, -⟩, ⟨b2, b3, b4⟩, b6⟩, -⟩ := B
  obtain ⟨-, -, ⟨c1, c2, c3, c4, -⟩, d1, d2, d3⟩ := N
  obtain ⟨⟨s1, s2, s3, s4, -⟩, s6, s7, s8⟩ := xs
  have e52 : X.1 0 52 - 1 = x.1 0 52 := by rw [x52, b1]; exact Int32.add_sub_cancel _ _
  rw [e52] at c1 c2 c3 c4
  refine ⟨⟨c1.trans s1, by rw [c2, xa.1, b2, s2], by rw [c3, xa.2.1, b3, s3], by rw [c4, xa.2.2, b4, s4]⟩, fun B hB j hj => ?_⟩
  have := b6 B hB j (by rw [s1]; exact hj)
  simp only [List.mem_cons, List.not_mem_nil, or_false] at hB
  rcases hB with rfl | rfl | rfl
  · rw [d1, xa.1, this, s6]
  · rw [d2, xa.2.1, this, s7]
  · rw [d3, xa.2.2, this, s8]
/-- the inside with its places known -/
theorem LQw.rs (b1 : (w.1 0 12).toInt = (x.1 0 12).toInt + lwL b) (b2 : WFq x w) (b3 : CWq x w) (b4 : MWq K w (x.1 0 39).toInt g (x.1 0 12).toNatClampNeg b0 c0 d0 b) (b5 : FQq x w (fxL (x.1 0 12).toNatClampNeg b)) (h0 : 0 ≤ (x.1 0 12).toInt) (hl : (w.1 0 12).toInt ≤ 2000000) (hj : ∀ j : Nat, (x.1 0 12).toNatClampNeg ≤ j → j < (x.1 0 12).toNatClampNeg + lwL b → (j ∉ bpw 30 (x.1 0 12).toNatClampNeg b → j ∉ bpw 31 (x.1 0 12).toNatClampNeg b → F j = w.1 11 j) ∧ (j ∈ bpw 30 (x.1 0 12).toNatClampNeg b → F j = jW 0 ((4 : Int32) * (T - nI j))) ∧ (j ∈ bpw 31 (x.1 0 12).toNatClampNeg b → F j = jW 0 ((4 : Int32) * (A - nI j)))) (hT : T.toInt = (x.1 0 12).toInt + Bd.2.2) (hA : A.toInt = (x.1 0 12).toInt + Cd.2.2) : LQw K (wR x F) (wR w F) d0 (chw 32 d0 (x.1 0 12).toNatClampNeg b) (rsv Bd Cd b) := by
  have n := natI h0
  have M := rsW (F := F) (T := T) (A := A) b Bd Cd b4 (by omega) hj (by omega) (by omega)
  exact ⟨⟨by rw [lwL_rsv]; exact b1, b2.wR, b3.wR, M.1, by rw [fxL_rsv]; exact b5.wR⟩, M.2.symm⟩
/-- an event whose words are the final ones -/
theorem LQw.wd (h12 : (s'.1 0 12).toInt = (s.1 0 12).toInt + lwE q) (hs : SMw s s') (h0 : 0 ≤ (s.1 0 12).toInt) (hw : ∀ (i : Nat) (z : Int32), (rwE (s.1 24) q)[i]? = some z → F ((s.1 0 12).toNatClampNeg + i) = z) (hl : (rwE (s.1 24) q).length = lwE q) (hf : fxE q = []) (hq : decide (q.1 = 21) = false := by rfl) : LQw K (wR s F) (wR s' F) d0 d0 [q] := by
  have n := natI h0
  obtain ⟨⟨s1, s2, s3, s4, s5, s6⟩, s7, s8⟩ := hs
  refine LQw.wa ⟨by rw [lwL_cons, lwL_nil]; exact h12, ⟨⟨by show (s.1 0 12).toInt ≤ (s'.1 0 12).toInt; omega, fun _ _ => rfl⟩, ⟨by show (s.1 0 43).toInt ≤ (s'.1 0 43).toInt; rw [s8]; exact Int.le_refl _, fun c _ => by show s'.1 40 c = s.1 40 c ∧ s'.1 41 c = s.1 41 c ∧ s'.1 42 c = s.1 42 c; rw [s4, s5, s6]; exact ⟨rfl, rfl, rfl⟩⟩, ⟨by show (s.1 0 39).toInt ≤ (s'.1 0 39).toInt; rw [s7]; exact Int.le_refl _, fun c _ => by show s'.1 35 c = s.1 35 c ∧ s'.1 37 c = s.1 37 c; rw [s2, s3]; exact ⟨rfl, rfl⟩⟩, s1⟩, ⟨fun c c1 c2 => ?_, fun c d c1 c2 => ?_⟩, WOq.one ⟨⟨by show (((s.1 0 12).toNatClampNeg : Nat) : Int) + _ ≤ (s'.1 0 12).toInt; omega, by show (rwE (s'.1 24) q).length = _; rw [s1]; exact hl⟩, fun i z hz => ?_, fun e => absurd e (of_decide_eq_false hq)⟩, ?_⟩
  · have c1 : (s.1 0 39).toInt ≤ c := c1
    have c2 : (c : Int) < (s'.1 0 39).toInt := c2
    rw [s7] at c2
    omega
  · have c1 : (s.1 0 39).toInt ≤ c := c1
    have c2 : (c : Int) < (s'.1 0 39).toInt := c2
    rw [s7] at c2
    omega
  · have hz : (rwE (s'.1 24) q)[i]? = some z := hz
    rw [s1] at hz
    exact hw i z hz
  · show FQq s s' ((fxE q).map (fun e => ((s.1 0 12).toNatClampNeg + e.1, e.2)) ++ [])
    rw [hf]
    exact ⟨by rw [s8]; show _ = _ + ((0 : Nat) : Int); omega, fun k e h => by simp at h⟩
theorem LQw.we {ws : List Int32} (E9 : EMg s s' ws []) (hk : ws.length = lwE q) (hw : ∀ (i : Nat) (z : Int32), (rwE (s.1 24) q)[i]? = some z → F ((s.1 0 12).toNatClampNeg + i) = z) (hl : (rwE (s.1 24) q).length = lwE q) (hf : fxE q = []) (hq : decide (q.1 = 21) = false := by rfl) : LQw K (wR s F) (wR s' F) d0 d0 [q] := by
  obtain ⟨⟨⟨h1, h0⟩, -, -⟩, h5, h6, ⟨h7, h8⟩, h9⟩ := E9
  have n := natI h0
  have f43 : (s'.1 0 43).toInt = (s.1 0 43).toInt + ((0 : Nat) : Int) := h7.1
  have s1 := h5 24 (by decide)
  have s2 := h5 35 (by decide)
  have s3 := h5 37 (by decide)
  refine LQw.wa ⟨by rw [lwL_cons, lwL_nil, ← hk]; exact h1, ⟨⟨by show (s.1 0 12).toInt ≤ (s'.1 0 12).toInt; omega, fun _ _ => rfl⟩, ⟨by show (s.1 0 43).toInt ≤ (s'.1 0 43).toInt; omega, h9⟩, ⟨by show (s.1 0 39).toInt ≤ (s'.1 0 39).toInt; rw [h6]; exact Int.le_refl _, fun c _ => by show s'.1 35 c = s.1 35 c ∧ s'.1 37 c = s.1 37 c; rw [s2, s3]; exact ⟨rfl, rfl⟩⟩, s1⟩, ⟨fun c c1 c2 => ?_, fun c d c1 c2 => ?_⟩, WOq.one ⟨⟨by show (((s.1 0 12).toNatClampNeg : Nat) : Int) + _ ≤ (s'.1 0 12).toInt; omega, by show (rwE (s'.1 24) q).length = _; rw [s1]; exact hl⟩, fun i z hz => ?_, fun e => absurd e (of_decide_eq_false hq)⟩, ?_⟩
  · have c1 : (s.1 0 39).toInt ≤ c := c1
    have c2 : (c : Int) < (s'.1 0 39).toInt := c2
    rw [h6] at c2
    omega
  · have c1 : (s.1 0 39).toInt ≤ c := c1
    have c2 : (c : Int) < (s'.1 0 39).toInt := c2
    rw [h6] at c2
    omega
  · have hz : (rwE (s'.1 24) q)[i]? = some z := hz
    rw [s1] at hz
    exact hw i z hz
  · show FQq s s' ((fxE q).map (fun e => ((s.1 0 12).toNatClampNeg + e.1, e.2)) ++ [])
    rw [hf]
    exact h7
/-- nothing -/
theorem LQw.sm (h12 : s'.1 0 12 = s.1 0 12) (hs : SMw s s') (h11 : s'.1 11 = s.1 11) : LQw K s s' d0 d0 [] := LQw.wa (by
  have := (WAi.sm (K := K) h11 h12 hs)
  obtain ⟨⟨s1, s2, s3, s4, s5, s6⟩, s7, s8⟩ := hs
  refine ⟨by rw [h12, lwL_nil]; omega, ⟨⟨by rw [h12]; exact Int.le_refl _, fun j _ => by rw [h11]⟩, ⟨by rw [s8]; exact Int.le_refl _, fun c _ => by rw [s4, s5, s6]; exact ⟨rfl, rfl, rfl⟩⟩, ⟨by rw [s7]; exact Int.le_refl _, fun c _ => by rw [s2, s3]; exact ⟨rfl, rfl⟩⟩, s1⟩, ⟨fun c c1 c2 => by rw [s7] at c2; omega, fun c d c1 c2 => by rw [s7] at c2; omega⟩, WOq.nil, ⟨by rw [s8]; show _ = _ + ((0 : Nat) : Int); omega, fun k e h => by simp [fxL] at h⟩⟩)
theorem had_wW {i : Nat} {z : Int32} (h : ∀ b ∈ [61, 63, 65], ∀ j : Nat, (j : Int) < (v.1 0 52).toInt → w.1 b j = v.1 b j) : ∀ b ∈ [61, 63, 65], ∀ j : Nat, (j : Int) < (v.1 0 52).toInt → (wA w 0 i z).1 b j = v.1 b j := fun B hB j hj => by
  have := h B hB j hj
  simp only [List.mem_cons, List.not_mem_nil, or_false] at hB
  rcases hB with rfl | rfl | rfl <;> exact this
end ZZF
