/-! the reference's words: a whole text -/
/-- every word of a text that was read to its end; tl: what stands behind -/
def FTw (K : TK) (u : MS) (d : List (List Int32 × List EV)) (tl : List Int32) : Prop := (lwL (txW 0 d) = lnX d ∧ (u.1 0 12).toInt = ((2 + lnX d + tl.length : Nat) : Int)) ∧ (u.1 11 0 = iW 19 17 0 0 ∧ u.1 11 1 = 1048691) ∧ Seg u (2 + lnX d) tl ∧ ∀ x q y, txW 0 d = x ++ q :: y → if q.1 = 0 then ∃ k np : Nat, q = evx 0 (nI k) (nI np) ∧ (np ≤ 8 ∧ k < d.length) ∧ u.1 19 k = nI (2 + lwL x) ∧ u.1 17 k = nI np ∧ Seg u (2 + lwL x) (enW (u.1 18 k) (u.1 0 69) (nI np)) else if q.1 = 21 then ∃ f : Int32, (0 ≤ f.toInt ∧ f.toInt < (u.1 0 22).toInt) ∧ K.2.1 (u.1 16 f.toNatClampNeg) = q.2.1 ∧ Seg u (2 + lwL x) (clW q (jW 1 ((4 : Int32) * (u.1 19 f.toNatClampNeg - nI (2 + lwL x + lwE q - 1))))) else Seg u (2 + lwL x) (finE u q (2 + lwL x)) ∧ (rwE (u.1 24) q).length = lwE q ∧ ∃ Z : Nat, (Z : Int) ≤ (u.1 0 27).toInt ∧ P7 Z [q]
section ZZZA
variable {n : Int} {K : TK} {e : PE} {v u w w0 w80 w171 w2 w161 z V : MS} {a x y : List EV} {q : EV} {i j m : Nat} {cl : Int} {d : List (List Int32 × List EV)} {p k : Nat} {bz : Bool} {ka kb L : Int32} {tl : List Int32}
theorem TXw.ne0 : ∀ (d : List (List Int32 × List EV)) (p k : Nat), TXw K w cl p k d → ∀ q ∈ d, ∀ e ∈ fnT q.2, e.1 ≠ 0
  | [], _, _, _, _, h => nomatch h
  | q :: l, p, k, h, q', hq => by
    rcases List.mem_cons.mp hq with g | g
    · intro e he
      rw [g] at he
      obtain ⟨x, y, e1⟩ := List.append_of_mem he
      exact (h.1.1.2.2 x e y e1).ne0
    · exact TXw.ne0 l _ _ h.2 q' g
/-- all words, when the four steps are known -/
theorem ftOf (T : TPw K w80 0 2 a) (ea : lwL a = lnX d) (S : PSq a (w80.1 11) (w171.1 11) (z.1 11) (w2.1 11) (u.1 11)) (C : ∀ x q y, a = x ++ q :: y → q.1 = 21 → ∃ f : Int32, (0 ≤ f.toInt ∧ f.toInt < (w80.1 0 22).toInt) ∧ K.2.1 (w80.1 16 f.toNatClampNeg) = q.2.1 ∧ w171.1 11 (2 + lwL x + lwE q - 1) = jW 1 ((4 : Int32) * (w80.1 19 f.toNatClampNeg - nI (2 + lwL x + lwE q - 1)))) (F : ∀ x q y e0, a = x ++ q :: y → e0 ∈ fxE q → w2.1 11 (2 + lwL x + e0.1) = fixW u e0.2.1 e0.2.2 (nI (2 + lwL x + e0.1)) (z.1 11 (2 + lwL x + e0.1))) (B : ∀ (f P : Nat), (f : Int) < (w80.1 0 22).toInt → w80.1 19 f = nI P → P ≤ 1000000 → u.1 11 (P + 1) = uW 6 (u.1 0 69) ∧ u.1 11 (P + 2) = iW 19 6 6 (loW (u.1 0 69))) (bd : 2 + lwL a ≤ 1000000) (h16 : u.1 16 = w80.1 16) (h17 : u.1 17 = w80.1 17) (h18 : u.1 18 = w80.1 18) (h19 : u.1 19 = w80.1 19) (h24 : u.1 24 = w80.1 24) (h22 : u.1 0 22 = w80.1 0 22) (h27 : u.1 0 27 = w80.1 0 27) (d22 : (w80.1 0 22).toInt = d.length) (e : a = x ++ q :: y) : if q.1 = 0 then ∃ k np : Nat, q = evx 0 (nI k) (nI np) ∧ (np ≤ 8 ∧ k < d.length) ∧ u.1 19 k = nI (2 + lwL x) ∧ u.1 17 k = nI np ∧ Seg u (2 + lwL x) (enW (u.1 18 k) (u.1 0 69) (nI np)) else if q.1 = 21 then ∃ f : Int32, (0 ≤ f.toInt ∧ f.toInt < (u.1 0 22).toInt) ∧ K.2.1 (u.1 16 f.toNatClampNeg) = q.2.1 ∧ Seg u (2 + lwL x) (clW q (jW 1 ((4 : Int32) * (u.1 19 f.toNatClampNeg - nI (2 + lwL x + lwE q - 1))))) else Seg u (2 + lwL x) (finE u q (2 + lwL x)) ∧ (rwE (u.1 24) q).length = lwE q ∧ ∃ Z : Nat, (Z : Int) ≤ (u.1 0 27).toInt ∧ P7 Z [q] := by
  have W := T x q y e
  by_cases c0 : q.1 = 0
  · rw [if_pos c0] at W ⊢
    obtain ⟨k, np, e1, ⟨e2, e2'⟩, e3, e4, e5, e6, e7⟩ := W
    have lq : lwE q = 9 + 2 * np := by rw [e1]; exact lwE0 e2
    have b9 := pos_lt e (i := 0) (by omega)
    have BB := B k (2 + lwL x) e2' e3 (by omega)
    refine ⟨k, np, e1, ⟨e2, by omega⟩, by rw [h19]; exact e3, by rw [h17]; exact e4, ?_⟩
    rw [h18]
    refine enS e2 e5 e6 (fun i hi i1 i2 => ?_) BB.1 BB.2
    have li : i < lwE q := by omega
    rw [S.s4 e li (fun _ => ⟨i1, i2⟩), S.s3 e li (by rw [fxE_0 c0]; exact fun _ h => nomatch h), S.s2 e li, S.s1 e li (fun c => by rw [c0] at c; exact absurd c (by decide))]
  rw [if_neg c0] at W ⊢
  obtain ⟨⟨⟨W1, W2⟩, W3, W4⟩, W5⟩ := W
  by_cases c1 : q.1 = 21
  · rw [if_pos c1]
    obtain ⟨f, f1, f2, f3⟩ := C x q y e c1
    rw [h22, h16, h19]
    refine ⟨f, f1, f2, ?_⟩
    rw [rwE21 c1] at W3
    have l1 := lwE21 c1
    refine clS c1 W3 (fun i hi h1 => ?_) (fun i h1 => ?_)
    · rw [S.s4 e hi (fun c => absurd c c0), S.s3 e hi (by rw [fxE_21 c1]; exact fun _ h => nomatch h), S.s2 e hi, S.s1 e hi (fun _ => h1)]
    · have hi : i < lwE q := by omega
      rw [S.s4 e hi (fun c => absurd c c0), S.s3 e hi (by rw [fxE_21 c1]; exact fun _ h => nomatch h), S.s2 e hi, ← f3, show 2 + lwL x + i = 2 + lwL x + lwE q - 1 by omega]
  · rw [if_neg c1]
    rw [h24]
    refine ⟨finS (w80.1 24) W3 W2 (fun i hi h1 => ?_) (fun e0 he => ?_) h24, W2, by rw [h27]; exact W5⟩
    · rw [S.s4 e hi (fun c => absurd c c0), S.s3 e hi h1, S.s2 e hi, S.s1 e hi (fun c => absurd c c1)]
    · have hi := fxE_lt he
      rw [S.s4 e hi (fun c => absurd c c0), F x q y e0 e he, S.s2 e hi, S.s1 e hi (fun c => absurd c c1)]
theorem EMi.nl (h0 : 0 ≤ (v.1 0 12).toInt) (h1 : 0 ≤ (v.1 0 43).toInt) : EMg v v [] [] := ⟨⟨⟨by show _ = _ + ((0 : Nat) : Int); omega, h0⟩, fun i z h => by simp at h, fun _ _ => rfl⟩, fun _ _ => rfl, rfl, ⟨FQq.rf, h1⟩, fun _ _ => ⟨rfl, rfl, rfl⟩⟩
set_option maxHeartbeats 800000 in
theorem finW (TX : TXX K w0 w80 d) (f12 : (w0.1 0 12).toInt = 2) (f39 : (w0.1 0 39).toInt = 0) (f43 : (w0.1 0 43).toInt = 0) (f15 : (w0.1 0 15).toInt = 0) (f11 : w0.1 11 0 = iW 19 17 0 0 ∧ w0.1 11 1 = 1048691) (O : OAt K w0 w80 (txE 0 d)) (J : JG bz n K e w80) (D : FD n K w80) (d22 : w80.1 0 22 = nI d.length) (d40 : d.length ≤ 40) (b39 : 0 ≤ (w80.1 0 39).toInt) (hk : RT (Q_m_walk_L1 w80) 0 ka) (ck : (w80.1 0 39).toInt ≤ ka.toInt) (hr : RT (Q_m_walk_L2 w80) (0, w80) (kb, w171)) (ckb : (w80.1 0 39).toInt ≤ kb.toInt) (fr : FG [] [11, 14] w80 w171) (E : EMg w171 z tl []) (F : FG [12, 67, 68] [0, 11] w171 z) (hA : Q_m_addresses (wA z 0 69 L) u) (bd : lnX d ≤ 900000) (tb : tl.length ≤ 100) : FTw K u d tl ∧ u.1 0 67 = z.1 0 67 ∧ u.1 0 68 = z.1 0 68 := by
  obtain ⟨t1, t2, t3, t4, t5⟩ := TX
  have n12 : (w0.1 0 12).toNatClampNeg = 2 := natC f12
  have n43 : (w0.1 0 43).toNatClampNeg = 0 := natC f43
  rw [n12, f39] at t4
  have di : (nI d.length).toInt = d.length := nI_Z (by omega)
  have i22 : (w80.1 0 22).toInt = d.length := by rw [d22, di]
  obtain ⟨T, ea⟩ := TXw.pos d 2 0 (by omega) t4
  obtain ⟨a, ha⟩ : ∃ a, a = txW 0 d := ⟨_, rfl⟩
  rw [← ha] at T ea
  rw [txE_map d 0 (TXw.ne0 d 2 0 t4), ← ha] at O
  have m39 := natI b39
  have CE := callsE m39 f39 f15 O T
  have r39 : (w80.1 0 39).toInt = (w80.1 0 39).toInt := rfl
  have CW := callsW J D m39 (fun c hc => (t3.1 c (by omega) (by omega)).2) (fun c d hc hd h => t3.2 c d (by omega) (by omega) (by omega) (by omega) h) (by omega) hk ck hr ckb
  obtain ⟨C1, C2⟩ := pcOf T m39 CE CW
  obtain ⟨V, hV⟩ : ∃ V, V = wA z 0 69 L := ⟨_, rfl⟩
  rw [← hV] at hA
  have VA : ∀ a, a ≠ 0 → V.1 a = z.1 a := fun a a0 => by rw [hV]; exact if_neg a0
  have V0 : ∀ i, i ≠ 69 → V.1 0 i = z.1 0 i := fun i hi => by rw [hV]; exact updN_ hi
  obtain ⟨-, -, -, kc, w2, hr0, g0, -, c0, kd, w161, hr1, g1, -, c1, eu⟩ := hA
  have zA : ∀ a ∉ [0, 11, 14], z.1 a = w80.1 a := fun a ha => by
    have s1 : ∀ i ∈ [0, 11], i ∈ [0, 11, 14] := by decide
    have s2 : ∀ i ∈ [11, 14], i ∈ [0, 11, 14] := by decide
    rw [F.2.2 a (fun q => ha (s1 a q)), fr.2.2 a (fun q => ha (s2 a q))]
  have z0 : ∀ i ∉ [12, 67, 68], z.1 0 i = w80.1 0 i := fun i hi => by
    rw [F.2.1 i hi, fr.2.1 i (fun q => nomatch q)]
  have k2 : ∀ i, w2.1 0 i = V.1 0 i := fun i => g0.2.1 i (fun q => nomatch q)
  have ku : ∀ i, u.1 0 i = V.1 0 i := fun i => by rw [eu, g1.2.1 i (fun q => nomatch q), k2]
  have A2 : ∀ a, a ≠ 11 → w2.1 a = V.1 a := fun a h => g0.2.2 a (by simp only [List.mem_cons, List.not_mem_nil, or_false]; exact h)
  have Au : ∀ a, a ≠ 11 → u.1 a = V.1 a := fun a h => by rw [eu, g1.2.2 a (by simp only [List.mem_cons, List.not_mem_nil, or_false]; exact h), A2 a h]
  have e43 : V.1 0 43 = w80.1 0 43 := (V0 43 (by decide)).trans (z0 43 (by decide))
  have Q : fxX 2 d = fxL 2 a := by rw [ha]; exact fxX_eq d 2 0 t4
  rw [n12] at t5
  obtain ⟨q1, q2⟩ := t5
  rw [f43, Int.zero_add] at q1
  have FF : ∀ (k : Nat) (e : Nat × Int32 × Int32), (fxX 2 d)[k]? = some e → (V.1 40 k).toInt = e.1 ∧ V.1 41 k = e.2.1 ∧ V.1 42 k = e.2.2 := fun k e he => by
    have h := q2 k e he
    rw [n43, Nat.zero_add] at h
    rw [VA 40 (by decide), VA 41 (by decide), VA 42 (by decide), zA 40 (by decide), zA 41 (by decide), zA 42 (by decide)]
    exact h
  rw [k2 43] at c0
  have m43 : (((fxX 2 d).length : Nat) : Int) = (V.1 0 43).toInt := by rw [e43]; exact q1.symm
  have FW := fixesW m43 (fun c d hc hd h => fx_inj Q rfl FF c d hc hd h) hr0 c0
  obtain ⟨F1, F2⟩ := pfOf Q rfl FF FW
  have x22 : w2.1 0 22 = w80.1 0 22 := (k2 22).trans ((V0 22 (by decide)).trans (z0 22 (by decide)))
  have x19 : w2.1 19 = w80.1 19 := (A2 19 (by decide)).trans ((VA 19 (by decide)).trans (zA 19 (by decide)))
  have m22 : ((d.length : Nat) : Int) = (w2.1 0 22).toInt := by rw [x22]; exact i22.symm
  have AT := TXw.at d 2 0 t4
  have lt : ∀ f : Nat, f < d.length → lnX (d.take f) + 9 ≤ lnX d := fun f hf => by
    have := lnX_far d f d.length hf (Nat.le_refl _)
    rw [List.take_length] at this
    exact this
  have P19 : ∀ f : Nat, f < d.length → (w2.1 19 f).toInt = ((2 + lnX (d.take f) : Nat) : Int) := fun f hf => by
    obtain ⟨np, y, -, e2, -, -⟩ := AT f hf
    rw [Nat.zero_add] at e2
    have := lt f hf
    rw [x19, e2]
    exact nI_Z (by omega)
  have c1' : (w2.1 0 22).toInt ≤ kd.toInt := by
    rw [g1.2.1 22 (fun q => nomatch q)] at c1
    exact c1
  have LW := limsW m22 (fun f hf => by
    have h1 := P19 f hf
    have h2 := lt f hf
    omega) (fun f g hf hg h => by
    have h1 := P19 f hf
    have h2 := P19 g hg
    have h3 := lnX_far d f g h (by omega)
    omega) hr1 c1'
  obtain ⟨L1, L2⟩ := plOf (a := a) m22 (fun f hf => by
    obtain ⟨np, y, e1, e2, e3, -⟩ := AT f hf
    rw [Nat.zero_add] at e1 e2
    have := lt f hf
    exact ⟨txW 0 (d.take f), np, y, by rw [ha]; exact e1, by rw [x19, e3]; exact e2, by omega⟩) LW
  have w12 : w171.1 0 12 = w80.1 0 12 := fr.2.1 12 (fun q => nomatch q)
  obtain ⟨⟨⟨E1, E1'⟩, E2, E3⟩, -⟩ := E
  rw [w12] at E1 E2 E3
  have n80 : (w80.1 0 12).toNatClampNeg = 2 + lnX d := natC (by omega)
  rw [← eu] at L1 L2
  have S : PSq a (w80.1 11) (w171.1 11) (z.1 11) (w2.1 11) (u.1 11) := ⟨C1, fun j hj => E3 j (by omega), by rw [← VA 11 (by decide)]; exact F1, L1⟩
  have x69 : w2.1 0 69 = u.1 0 69 := (k2 69).trans (ku 69).symm
  have S16 : ∀ a ∉ [0, 11, 14], u.1 a = w80.1 a := fun a h => by
    have a11 : a ≠ 11 := fun q => h (by rw [q]; decide)
    have a0 : a ≠ 0 := fun q => h (by rw [q]; decide)
    rw [Au a a11, VA a a0, zA a h]
  have uz : ∀ i, i ≠ 69 → u.1 0 i = z.1 0 i := fun i hi => (ku i).trans (V0 i hi)
  refine ⟨⟨⟨by rw [← ha]; exact ea, ?_⟩, ⟨?_, ?_⟩, fun i w hw => ?_, fun x q y h => ?_⟩, uz 67 (by decide), uz 68 (by decide)⟩
  · rw [uz 12 (by decide), E1]
    omega
  · rw [S.hd (by omega), t2.1.2 0 (by omega)]
    exact f11.1
  · rw [S.hd (by omega), t2.1.2 1 (by omega)]
    exact f11.2
  · rw [S.tl (by omega), ← n80]
    exact E2 i w hw
  · rw [← ha] at h
    refine ftOf T ea S C2 (fun x q y e0 h h0 => ?_) (fun f P hf h1 h2 => ?_) (by omega) (S16 16 (by decide)) (S16 17 (by decide)) (S16 18 (by decide)) (S16 19 (by decide)) (S16 24 (by decide)) ((uz 22 (by decide)).trans (z0 22 (by decide))) ((uz 27 (by decide)).trans (z0 27 (by decide))) i22 h
    · rw [fixW_cg (ku 67) (ku 68) (ku 12) (Au 25 (by decide)), ← VA 11 (by decide)]
      exact F2 x q y e0 h h0
    · rw [← x69]
      exact L2 f P (by omega) (by rw [x19]; exact h1) h2
end ZZZA
