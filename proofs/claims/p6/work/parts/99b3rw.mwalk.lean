/-! the reference: the whole text -/
def X0 : IS := (mkP 0 0 false 0 0 0 false false false false 2 0 [] [], [], [])
section MWK
variable {g : GM} {n : Int} {K : TK} {e : PE} {v u w : MS} {t : Bool} {r pa pb : Int32} {S : FS} {k N : Nat} {m : Int} {x : IS} {W : Nat → Int32} {bz : Bool}
theorem kM_0 {k : Int32} {y : Int64} {d : Int32} (h : TV k y) : (kM k y d).toInt = 0 ↔ k.toInt = 0 := by
  constructor
  · intro q
    have hk := h.1
    simp only [List.mem_cons, List.not_mem_nil, or_false] at hk
    rcases hk with rfl | rfl | rfl | rfl | rfl | rfl | rfl
    · decide
    · have e0 : kM 1 y d = 1 := rfl
      rw [e0] at q
      exact absurd q (by decide)
    · have e0 : kM 2 y d = 2 := rfl
      rw [e0] at q
      exact absurd q (by decide)
    · obtain ⟨z, hz, rfl⟩ := h.2.1 rfl
      have e1 : kM 3 z.toInt64 d = 10 + z := by unfold kM; rw [if_pos rfl, i64_32]
      have : ∀ z ∈ KL, 10 ≤ (10 + z : Int32).toInt := by decide
      have := this z hz
      rw [e1] at q
      omega
    · unfold kM at q
      rw [if_neg (by decide), if_pos rfl] at q
      split at q <;> exact absurd q (by decide)
    · obtain ⟨z, hz, rfl⟩ := h.2.2 rfl
      have e1 : kM 5 z.1.toInt64 d = z.2 := (kM_5 h hz).mpr ⟨rfl, rfl⟩
      have := (sgk_SC z hz).2
      rw [e1] at q
      omega
    · have e0 : kM 6 y d = 5 := rfl
      rw [e0] at q
      exact absurd q (by decide)
  · intro q
    rw [Int32.toInt_inj.mp (show k.toInt = (0 : Int32).toInt from q)]
    rfl
theorem kd0 (J : JG bz n K e v) : (kd e (aR g K v)).toInt = 0 ↔ (v.1 6 (v.1 0 47).toNatClampNeg).toInt = 0 := by rw [rKd J]; exact kM_0 (rTV J)
theorem kdB : kd e (tBegF (aR g K v)) = kd e (aR g K v) := by
  unfold kd
  rfl
def wZ (v : MS) (r5 : Int32) : MS := let u1 := wA (wA (wA (wA (wA (wA (wA v 0 47 0) 0 48 0) 0 49 (-1)) 0 12 0) 0 15 0) 0 22 0) 0 27 0; let u11 := (wA (wA (wA (wA (wA (wA (wA u1 0 28 0) 0 39 0) 0 43 0) 0 44 0) 0 45 0) 11 ((u1.1 0 12).toNatClampNeg) r5) 0 12 ((u1.1 0 12) + (1 : Int32))); (wA (wA u11 11 ((u11.1 0 12).toNatClampNeg) (1048691 : Int32)) 0 12 ((u11.1 0 12) + (1 : Int32)))
theorem rW0 (T : TR n K v) (hn : 0 < n ∧ n ≤ 4002) (V : VB n v) {r5 : Int32} : RIq n K W (wZ v r5) X0 := by
  have z0 : (0 : Int32).toInt = 0 := by decide
  have z1 : (-1 : Int32).toInt = -1 := by decide
  have zn : (0 : Int32).toNatClampNeg = 0 := by decide
  have h22 : (wZ v r5).1 0 22 = 0 := rfl
  have h27 : (wZ v r5).1 0 27 = 0 := rfl
  have h28 : (wZ v r5).1 0 28 = 0 := rfl
  have h39 : (wZ v r5).1 0 39 = 0 := rfl
  have h47 : (wZ v r5).1 0 47 = 0 := rfl
  have h49 : (wZ v r5).1 0 49 = -1 := rfl
  have nf : nFm (wZ v r5) = 0 := by unfold nFm; rw [h22, zn]
  have ng : nGm (wZ v r5) = 0 := by unfold nGm; rw [h27, zn]
  have ov : ovM (wZ v r5) = false := by
    unfold ovM
    rw [h39]
    decide
  refine ⟨⟨T.of rfl rfl rfl rfl rfl rfl, ?_, ?_, ?_, ?_, ?_, ?_⟩, ?_, ?_, ?_, ?_, ?_, ?_, ?_, ?_, ?_, ?_⟩
  · unfold glM mkE
    rw [h27, zn]
    rfl
  · intro i j _ q
    rw [h27] at q
    omega
  · rw [h49, h47]
    omega
  · intro k q
    have q : (k : Int) < 0 := q
    omega
  · intro k q
    rw [h27] at q
    omega
  · intro k q
    rw [h39] at q
    omega
  · rw [bgF]
    show mkP 0 0 false 0 0 0 false false false false 2 0 [] [] = mkP ((wZ v r5).1 0 47) ((wZ v r5).1 0 48) (decide ((wZ v r5).1 0 49 = (wZ v r5).1 0 47)) 0 0 0 (decide ((wZ v r5).1 0 44 ≠ 0)) (decide ((wZ v r5).1 0 45 ≠ 0)) false (ovM (wZ v r5)) (if ovM (wZ v r5) = true then 0 else (wZ v r5).1 0 12) 0 [] (caM [] K (wZ v r5))
    have ca : caM [] K (wZ v r5) = [] := by
      unfold caM
      rw [ov, h39, zn]
      rfl
    rw [ca, ov, h47, h49]
    rfl
  · unfold fsM
    rw [nf]
    rfl
  · unfold gsM
    rw [ng]
    rfl
  · rw [h22, h27]
    omega
  · refine ⟨fun f hf => ?_, fun i j hi hj => ?_⟩
    · rw [nf] at hf
      omega
    · rw [nf] at hj
      omega
  · intro _ f hf
    rw [nf] at hf
    omega
  · show ((wZ v r5).1 0 49).toInt < ((wZ v r5).1 0 47).toInt
    rw [h47, h49]
    omega
  · exact V
  · rw [h28]
    rfl
  · intro k hk
    rw [ng] at hk
    omega
/-- the calls -/
theorem rOne (J : JG bz n K e w) (D : FD n K w) (h0 : 0 ≤ pa.toInt ∧ pa.toInt < (w.1 0 39).toInt) (h : Q_m_functionOf2 w (w.1 35 pa.toNatClampNeg) r) : (r.toInt < 0 ∧ fnm (fsM K W w) (K.2.1 (w.1 35 pa.toNatClampNeg)) = none) ∨ (0 ≤ r.toInt ∧ ∃ f : FN, fnm (fsM K W w) (K.2.1 (w.1 35 pa.toNatClampNeg)) = some f ∧ f.2.2.1 = w.1 17 r.toNatClampNeg) := by
  have nz := natI h0.1
  rcases rFunOf (W := W) (fo2 h) J D (J.2.2.2.2.2.2 _ (by omega)) with ⟨a, -, b⟩ | ⟨a, -, b⟩
  · exact Or.inl ⟨a, b⟩
  · exact Or.inr ⟨a, _, b, rfl⟩
set_option maxHeartbeats 800000 in
theorem rChk (J : JG bz n K e w) (D : FD n K w) (z : 0 ≤ (w.1 0 39).toInt) {ka : Int32} (hr : RT (Q_m_walk_L1 w) 0 ka) : 0 ≤ ka.toInt ∧ tCalls (fsM K W w) (cas [] (fun c => K.2.1 (w.1 35 c)) (fun c => K.2.2 (w.1 35 c)) (w.1 36) (w.1 0 39).toNatClampNeg) = tCalls (fsM K W w) ((cas [] (fun c => K.2.1 (w.1 35 c)) (fun c => K.2.2 (w.1 35 c)) (w.1 36) (w.1 0 39).toNatClampNeg).drop ka.toNatClampNeg) := by
  have n2 := natI z
  refine RT.ind (fun (y : Int32) => 0 ≤ y.toInt ∧ tCalls (fsM K W w) (cas [] (fun c => K.2.1 (w.1 35 c)) (fun c => K.2.2 (w.1 35 c)) (w.1 36) (w.1 0 39).toNatClampNeg) = tCalls (fsM K W w) ((cas [] (fun c => K.2.1 (w.1 35 c)) (fun c => K.2.2 (w.1 35 c)) (w.1 36) (w.1 0 39).toNatClampNeg).drop y.toNatClampNeg)) hr ⟨(show 0 ≤ (0 : Int32).toInt by decide), rfl⟩ ?_
  intro a b _ ha hb
  obtain ⟨k0, e2⟩ := ha
  obtain ⟨-, c1, r7, h7, -, c7, c8, rfl⟩ := hb
  have lt9 := Int32.toInt_lt (w.1 0 39)
  have ea : (a + (1 : Int32)).toInt = a.toInt + 1 := add_z rfl (by decide) (by omega) (by omega)
  have na := natI k0
  have nb : (a + (1 : Int32)).toNatClampNeg = a.toNatClampNeg + 1 := natS ea k0
  refine ⟨by omega, ?_⟩
  rw [e2, nb, cas_drop (by omega)]
  rcases rOne (W := W) J D ⟨k0, c1⟩ h7 with ⟨q, -⟩ | ⟨-, f, q2, q3⟩
  · omega
  · show (match fnm (fsM K W w) (K.2.1 (w.1 35 a.toNatClampNeg)) with | none => _ | some f => _) = _
    rw [q2]
    show (if f.2.2.1 = w.1 36 a.toNatClampNeg then _ else _) = _
    rw [if_pos (q3.trans (Int32.toInt_inj.mp c8))]
def RT7 (w u : MS) (y : IS) (N : Nat) (t : Bool) (K : TK) : Prop :=
  (w.1 0 12).toInt + (if pMu y.1 = true then 10 else 0) + (if pDi y.1 = true then 26 else 0) = (u.1 0 12).toInt ∧ FG [12, 50, 51, 67, 68, 69] [0, 11, 14] w u ∧ ((0 ≤ (w.1 0 12).toInt ∧ (w.1 0 12).toInt ≤ 30000) ∧ 0 ≤ (w.1 0 28).toInt ∧ (w.1 0 28).toInt ≤ 60000) ∧ u.1 0 69 = 4 * (u.1 0 12 + u.1 0 28) ∧ ((t = false ∧ 4 * ((u.1 0 12).toInt + (u.1 0 28).toInt) + 64 ≤ 4 * (nI N).toInt) ∨ (t = true ∧ 4 * (nI N).toInt < 4 * ((u.1 0 12).toInt + (u.1 0 28).toInt) + 64 ∧ (u.1 0 50, u.1 0 51) = ((7 : Int32), pl (mkE K y.2.2) y.1)))
set_option maxHeartbeats 1600000 in
theorem rText (hS : HMS n K (QMS 40) S) (hn : 0 < n ∧ n ≤ 4002) (T : TR n K v) (V : VB n v) (nov : ∀ y, tItems S K 1502 X0 = .ok y → pOv y.1 = false) (h : Q_m_walk v N t u) :
    (∃ y W' w, tText S K X0 = .ok y ∧ RIq n K W' w y ∧ ovM w = false ∧ RT7 w u y N t K) ∨ (t = true ∧ tText S K X0 = .error (u.1 0 50, u.1 0 51)) := by
  obtain ⟨u1, h1, r5, -, u11, h11, w80, hr, b47, b48, b12, b15, b43, b39, b27, b22, b28, h⟩ := h
  have inv : ∃ y W', RIq n K W' w80 y ∧ (∃ f : Nat, tItems S K 1502 X0 = tItems S K f y ∧ (1501 : Int) ≤ f + (w80.1 0 47).toInt) := by
    refine RT.ind (fun (q : MS) => ∃ y W', RIq n K W' q y ∧ (∃ f : Nat, tItems S K 1502 X0 = tItems S K f y ∧ (1501 : Int) ≤ f + (q.1 0 47).toInt)) hr ⟨X0, fun _ => 0, ?_, 1502, rfl, ?_⟩ ?_
    · rw [h11, h1]
      exact rW0 T hn V
    · rw [h11, h1]
      show (1501 : Int) ≤ 1502 + (0 : Int32).toInt
      decide
    intro a b _ ha hb
    obtain ⟨y, W1, I1, f, hf, hm⟩ := ha
    obtain ⟨y47, -, -, -, -, -, -, -, -, c1, u225, hi, ki, rfl⟩ := hb
    obtain ⟨f0, rfl⟩ : ∃ f0, f = f0 + 1 := ⟨f - 1, by omega⟩
    rcases rItem hS hi I1 with ⟨-, W', y', q1, q2⟩ | ⟨q, -⟩
    · refine ⟨y', W', q2, f0, ?_, by have := ki.2.1.1; omega⟩
      rw [hf]
      show (if (kd (mkE K y.2.2) y.1).toInt = 0 then _ else _) = _
      rw [I1.2.1, kdB, if_neg (fun q => c1 ((kd0 I1.1).mp q)), q1, bd_ok]
    · cases q
  obtain ⟨y, W1, I1, f, hf, hm⟩ := inv
  obtain ⟨f0, rfl⟩ : ∃ f0, f = f0 + 1 := ⟨f - 1, by omega⟩
  have hf2 : tItems S K 1502 X0 = if (kd (mkE K y.2.2) y.1).toInt = 0 then .ok y else bd (tItem S K y) (tItems S K f0) := hf
  rw [I1.2.1, kdB] at hf2
  unfold tText
  rcases h with ⟨c0, h⟩ | ⟨c0, u9, hi, rfl, rfl⟩
  rotate_left
  · rw [if_neg (fun q => c0 ((kd0 I1.1).mp q))] at hf2
    rcases rItem hS hi I1 with ⟨q, -⟩ | ⟨-, q⟩
    · cases q
    · refine Or.inr ⟨rfl, ?_⟩
      rw [hf2, q, bd_er, bd_er]
  rw [if_pos ((kd0 I1.1).mpr c0)] at hf2
  have ov : ovM w80 = false := by
    have q := nov y hf2
    rw [I1.2.1] at q
    exact q
  have ca : pCa y.1 = cas [] (fun c => K.2.1 (w80.1 35 c)) (fun c => K.2.2 (w80.1 35 c)) (w80.1 36) (w80.1 0 39).toNatClampNeg := by
    rw [I1.2.1]
    show caM [] K w80 = _
    rw [caM_cas, ov]
    rfl
  have J := I1.1
  have D := I1.2.2.2.2.2.1
  have ef := I1.2.2.1
  obtain ⟨ka, hk, bk, h⟩ := h
  have C := rChk (W := W1) J D b39.1 hk
  rw [hf2, bd_ok, ca, ef, C.2]
  have n39 := natI b39.1
  have nk := natI C.1
  have e7 : ∀ i : Int32, 0 ≤ i.toInt → i.toInt < n → K.2.2 i = w80.1 7 i.toNatClampNeg := fun i a b => (J.1.1 i a b).2.1
  rcases h with ⟨ck, h⟩ | ⟨ck, r209, hg, -, h⟩
  rotate_left
  · rw [cas_drop (by omega)]
    have nt := J.2.2.2.2.2.2 ka.toNatClampNeg (by omega)
    rcases h with ⟨c9, c10, rfl, rfl⟩ | ⟨c9, rfl, rfl⟩
    · refine Or.inr ⟨rfl, ?_⟩
      rcases rOne (W := W1) J D ⟨C.1, ck⟩ hg with ⟨q, -⟩ | ⟨-, f, q2, q3⟩
      · omega
      have st : tCalls (fsM K W1 w80) ((K.2.1 (w80.1 35 ka.toNatClampNeg), K.2.2 (w80.1 35 ka.toNatClampNeg), w80.1 36 ka.toNatClampNeg) :: (cas [] (fun c => K.2.1 (w80.1 35 c)) (fun c => K.2.2 (w80.1 35 c)) (w80.1 36) (w80.1 0 39).toNatClampNeg).drop (ka.toNatClampNeg + 1)) = .error (4, K.2.2 (w80.1 35 ka.toNatClampNeg)) := by
        show (match fnm (fsM K W1 w80) (K.2.1 (w80.1 35 ka.toNatClampNeg)) with | none => _ | some f => _) = _
        rw [q2]
        show (if f.2.2.1 = w80.1 36 ka.toNatClampNeg then _ else _) = _
        rw [if_neg (fun q => c10 (congrArg Int32.toInt (q3.symm.trans q)))]
      rw [st, bd_er, e7 _ nt.1 nt.2.1]
      rfl
    · refine Or.inr ⟨rfl, ?_⟩
      rcases rOne (W := W1) J D ⟨C.1, ck⟩ hg with ⟨-, q2⟩ | ⟨q, -⟩
      · have st : tCalls (fsM K W1 w80) ((K.2.1 (w80.1 35 ka.toNatClampNeg), K.2.2 (w80.1 35 ka.toNatClampNeg), w80.1 36 ka.toNatClampNeg) :: (cas [] (fun c => K.2.1 (w80.1 35 c)) (fun c => K.2.2 (w80.1 35 c)) (w80.1 36) (w80.1 0 39).toNatClampNeg).drop (ka.toNatClampNeg + 1)) = .error (3, K.2.2 (w80.1 35 ka.toNatClampNeg)) := by
          show (match fnm (fsM K W1 w80) (K.2.1 (w80.1 35 ka.toNatClampNeg)) with | none => _ | some f => _) = _
          rw [q2]
        rw [st, bd_er, e7 _ nt.1 nt.2.1]
        rfl
      · omega
  obtain ⟨kb, w171, -, fr, -, -, h⟩ := h
  have dr : (cas [] (fun c => K.2.1 (w80.1 35 c)) (fun c => K.2.2 (w80.1 35 c)) (w80.1 36) (w80.1 0 39).toNatClampNeg).drop ka.toNatClampNeg = [] := List.drop_eq_nil_of_le (by rw [cas_len]; omega)
  rw [dr]
  refine Or.inl ⟨y, W1, w80, rfl, I1, ov, ?_⟩
  have mu : pMu y.1 = true ↔ (w80.1 0 44).toInt ≠ 0 := by
    rw [I1.2.1]
    show decide (w80.1 0 44 ≠ 0) = true ↔ _
    rw [decide_eq_true_iff]
    exact ⟨fun q z => q (Int32.toInt_inj.mp z), fun q z => q (by rw [z]; decide)⟩
  have di : pDi y.1 = true ↔ (w80.1 0 45).toInt ≠ 0 := by
    rw [I1.2.1]
    show decide (w80.1 0 45 ≠ 0) = true ↔ _
    rw [decide_eq_true_iff]
    exact ⟨fun q z => q (Int32.toInt_inj.mp z), fun q z => q (by rw [z]; decide)⟩
  have f44 : w171.1 0 44 = w80.1 0 44 := fr.2.1 44 (fun q => nomatch q)
  have f45 : w171.1 0 45 = w80.1 0 45 := fr.2.1 45 (fun q => nomatch q)
  have f12 : w171.1 0 12 = w80.1 0 12 := fr.2.1 12 (fun q => nomatch q)
  have bnd : (0 ≤ (w80.1 0 12).toInt ∧ (w80.1 0 12).toInt ≤ 30000) ∧ 0 ≤ (w80.1 0 28).toInt ∧ (w80.1 0 28).toInt ≤ 60000 := by omega
  have fin : ∀ {z : MS}, FG [12, 67, 68] [0, 11, 14] w80 z → (w80.1 0 12).toInt + (if pMu y.1 = true then 10 else 0) + (if pDi y.1 = true then 26 else 0) = (z.1 0 12).toInt → ((4 * ((z.1 0 12).toInt + (z.1 0 28).toInt) + 64 ≤ 4 * (nI N).toInt ∧ t = false ∧ Q_m_addresses (wA z 0 69 (4 * (z.1 0 12 + z.1 0 28))) u ∧ FG [] [11] (wA z 0 69 (4 * (z.1 0 12 + z.1 0 28))) u) ∨ (4 * (nI N).toInt < 4 * ((z.1 0 12).toInt + (z.1 0 28).toInt) + 64 ∧ t = true ∧ u = wA (wA (wA z 0 69 (4 * (z.1 0 12 + z.1 0 28))) 0 50 7) 0 51 (z.1 7 (z.1 0 47).toNatClampNeg))) → RT7 w80 u y N t K := by
    intro z F h12 hz
    have p7 : pl (mkE K y.2.2) y.1 = z.1 7 (z.1 0 47).toNatClampNeg := by
      rw [I1.2.1, plB, rPl J, F.2.2 7 (by decide), F.2.1 47 (by decide)]
    rcases hz with ⟨c, rfl, -, G⟩ | ⟨c, rfl, rfl⟩
    · have g12 : u.1 0 12 = z.1 0 12 := (G.2.1 12 (fun q => nomatch q)).trans rfl
      have g28 : u.1 0 28 = z.1 0 28 := (G.2.1 28 (fun q => nomatch q)).trans rfl
      refine ⟨by rw [g12]; exact h12, ⟨G.1.trans F.1, fun i hi => ?_, fun a ha => ?_⟩, bnd, ?_, Or.inl ⟨rfl, by rw [g12, g28]; exact c⟩⟩
      · rw [G.2.1 i (fun q => nomatch q)]
        have i69 : i ≠ 69 := fun q => hi (by rw [q]; decide)
        show upd (z.1 0) 69 _ i = _
        rw [updN_ i69]
        have sb : ∀ i ∈ [12, 67, 68], i ∈ [12, 50, 51, 67, 68, 69] := by decide
        exact F.2.1 i (fun q => hi (sb i q))
      · have a0 : a ≠ 0 := fun q => ha (by rw [q]; decide)
        have sb : ∀ i ∈ [11], i ∈ [0, 11, 14] := by decide
        rw [G.2.2 a (fun q => ha (sb a q))]
        exact (if_neg a0).trans (F.2.2 a ha)
      · rw [g12, g28, G.2.1 69 (fun q => nomatch q)]
        rfl
    · refine ⟨h12, ⟨F.1, fun i hi => ?_, fun a ha => ?_⟩, bnd, rfl, Or.inr ⟨rfl, c, by rw [p7]; rfl⟩⟩
      · have i69 : i ≠ 69 := fun q => hi (by rw [q]; decide)
        have i50 : i ≠ 50 := fun q => hi (by rw [q]; decide)
        have i51 : i ≠ 51 := fun q => hi (by rw [q]; decide)
        have sb : ∀ i ∈ [12, 67, 68], i ∈ [12, 50, 51, 67, 68, 69] := by decide
        exact (updN_ i51).trans ((updN_ i50).trans ((updN_ i69).trans (F.2.1 i (fun q => hi (sb i q)))))
      · have a0 : a ≠ 0 := fun q => ha (by rw [q]; decide)
        exact (if_neg a0).trans ((if_neg a0).trans ((if_neg a0).trans (F.2.2 a ha)))
  have F0 : FG [12, 67, 68] [0, 11, 14] w80 w171 := ⟨fr.1, fun i _ => fr.2.1 i (fun q => nomatch q), fun a ha => fr.2.2 a (fun q => ha ((by decide : ∀ i ∈ [11, 14], i ∈ [0, 11, 14]) a q))⟩
  have Ft : ∀ {fl al : List Nat} {z z2 : MS}, FG [12, 67, 68] [0, 11, 14] w80 z → FG fl al z z2 → (∀ i ∈ fl, i ∈ [12, 67, 68]) → (∀ i ∈ al, i ∈ [0, 11, 14]) → FG [12, 67, 68] [0, 11, 14] w80 z2 := fun F G s1 s2 => ⟨G.1.trans F.1, fun i hi => (G.2.1 i (fun q => hi (s1 i q))).trans (F.2.1 i hi), fun a ha => (G.2.2 a (fun q => ha (s2 a q))).trans (F.2.2 a ha)⟩
  rcases h with ⟨c44, h⟩ | ⟨c44, u110, -, k1, h⟩
  · have m0 : ¬ pMu y.1 = true := fun q => mu.mp q (by rw [← f44]; exact c44)
    rcases h with ⟨c45, h⟩ | ⟨c45, u72, -, k2, h⟩
    · have d0 : ¬ pDi y.1 = true := fun q => di.mp q (by rw [← f45]; exact c45)
      refine fin F0 (by rw [if_neg m0, if_neg d0, f12]; omega) ?_
      rcases h with ⟨c, u53, q1, q2, rfl, rfl⟩ | ⟨c, rfl, rfl⟩
      · exact Or.inl ⟨c, rfl, q1, q2⟩
      · exact Or.inr ⟨c, rfl, rfl⟩
    · have d0 : pDi y.1 = true := di.mpr (by rw [← f45]; exact c45)
      refine fin (Ft F0 k2.1 (by decide) (by decide)) (by rw [if_neg m0, if_pos d0, k2.2, f12]; omega) ?_
      rcases h with ⟨c, u53, q1, q2, rfl, rfl⟩ | ⟨c, rfl, rfl⟩
      · exact Or.inl ⟨c, rfl, q1, q2⟩
      · exact Or.inr ⟨c, rfl, rfl⟩
  · have m0 : pMu y.1 = true := mu.mpr (by rw [← f44]; exact c44)
    have g45 : u110.1 0 45 = w80.1 0 45 := (k1.1.2.1 45 (by decide)).trans f45
    rcases h with ⟨c45, h⟩ | ⟨c45, u72, -, k2, h⟩
    · have d0 : ¬ pDi y.1 = true := fun q => di.mp q (by rw [← g45]; exact c45)
      refine fin (Ft F0 k1.1 (by decide) (by decide)) (by rw [if_pos m0, if_neg d0, k1.2, f12]; omega) ?_
      rcases h with ⟨c, u53, q1, q2, rfl, rfl⟩ | ⟨c, rfl, rfl⟩
      · exact Or.inl ⟨c, rfl, q1, q2⟩
      · exact Or.inr ⟨c, rfl, rfl⟩
    · have d0 : pDi y.1 = true := di.mpr (by rw [← g45]; exact c45)
      refine fin (Ft (Ft F0 k1.1 (by decide) (by decide)) k2.1 (by decide) (by decide)) (by rw [if_pos m0, if_pos d0, k2.2, k1.2, f12]) ?_
      rcases h with ⟨c, u53, q1, q2, rfl, rfl⟩ | ⟨c, rfl, rfl⟩
      · exact Or.inl ⟨c, rfl, q1, q2⟩
      · exact Or.inr ⟨c, rfl, rfl⟩
end MWK
