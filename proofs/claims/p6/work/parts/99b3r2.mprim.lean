/-! the reference's small steps -/
def OKG (bz : Bool) (g : GM) (n : Int) (K : TK) (e : PE) (f : PS → PX PS) (v : MS) (t : Bool) (u : MS) : Prop := (t = false ∧ f (aR g K v) = .ok (aR g K u) ∧ JG bz n K e u) ∨ (t = true ∧ f (aR g K v) = .error (u.1 0 50, u.1 0 51))
abbrev OKR (g : GM) (n : Int) (K : TK) (e : PE) (f : PS → PX PS) (v : MS) (t : Bool) (u : MS) : Prop := OKG true g n K e f v t u
section MPS
variable {bz : Bool} {g : GM} {n : Int} {K : TK} {e : PE} {f : PS → PX PS} {v u : MS} {t : Bool} {r pa pb : Int32} {m : Int}
theorem OKG.eo (h : OKG bz g n K e f v false u) : f (aR g K v) = .ok (aR g K u) := by
  rcases h with h | ⟨h, _⟩
  · exact h.2.1
  · cases h
theorem OKG.er (h : OKG bz g n K e f v true u) : f (aR g K v) = .error (u.1 0 50, u.1 0 51) := by
  rcases h with ⟨h, _⟩ | h
  · cases h
  · exact h.2
theorem OKG.jj (h : OKG bz g n K e f v false u) : JG bz n K e u := by
  rcases h with h | ⟨h, _⟩
  · exact h.2.2
  · cases h
theorem TR.of (h : TR n K v) (h2 : u.2 = v.2) (h3 : u.1 3 = v.1 3) (h6 : u.1 6 = v.1 6) (h7 : u.1 7 = v.1 7) (h8 : u.1 8 = v.1 8) (h10 : u.1 10 = v.1 10) : TR n K u := by
  unfold TR SM at *
  rw [h2, h3, h6, h7, h8, h10]
  exact h
theorem JG.of (J : JG bz n K e v) (h2 : u.2 = v.2) (ha : ∀ a ∈ [3, 6, 7, 8, 10, 23, 26, 29, 35], u.1 a = v.1 a) (h27 : u.1 0 27 = v.1 0 27) (h30 : u.1 0 30 = v.1 0 30) (h47 : (u.1 0 49).toInt ≤ (u.1 0 47).toInt ∧ 0 ≤ (u.1 0 47).toInt ∧ (u.1 0 47).toInt < n) (h39 : u.1 0 39 = v.1 0 39 := by rfl) : JG bz n K e u := by
  obtain ⟨T, he, nd, J4, J5, J6, J7⟩ := J
  have g1 : glM K u = glM K v := by unfold glM; rw [h27, ha 23 (by decide), ha 26 (by decide)]
  refine ⟨T.of h2 (ha 3 (by decide)) (ha 6 (by decide)) (ha 7 (by decide)) (ha 8 (by decide)) (ha 10 (by decide)), by rw [g1]; exact he, by rw [h27, ha 23 (by decide)]; exact nd, ⟨h47.1, h47.2.1, h47.2.2, J4.2.2.2⟩, ?_, ?_, by rw [h39, ha 35 (by decide)]; exact J7⟩
  · rw [h30, ha 29 (by decide)]
    exact J5
  · rw [h27, ha 23 (by decide), ha 26 (by decide)]
    exact J6
theorem JG.wk (J : JG bz n K e v) : JG false n K e v := ⟨J.1, J.2.1, J.2.2.1, J.2.2.2.1, fun k hk => absurd (show (k : Int) < 0 from hk) (by omega), J.2.2.2.2.2⟩
theorem JG.fr {fl al : List Nat} (J : JG bz n K e v) (h : FG fl al v u) (h1 : ∀ a ∈ [3, 6, 7, 8, 10, 23, 26, 29, 35], a ∉ al) (h2 : 27 ∉ fl ∧ 30 ∉ fl) (h47 : (u.1 0 49).toInt ≤ (u.1 0 47).toInt ∧ 0 ≤ (u.1 0 47).toInt ∧ (u.1 0 47).toInt < n) (h39 : 39 ∉ fl := by decide) : JG bz n K e u :=
  J.of h.1 (fun a ha => h.2.2 a (h1 a ha)) (h.2.1 27 h2.1) (h.2.1 30 h2.2) h47 (h.2.1 39 h39)
theorem at_lt (J : JG bz n K e v) (h5 : (v.1 0 47).toInt ≤ 1500) (hk : 2 ≤ (kd e (aR g K v)).toInt) : (v.1 0 47).toInt + 1 < n := by
  obtain ⟨T, rfl, -, J4, -⟩ := J
  exact T.2.2 _ J4.2.1 h5 J4.2.2.1 hk
theorem aRt (J : JG bz n K e v) (h5 : (v.1 0 47).toInt < 1500) (d : (v.1 0 49).toInt ≠ (v.1 0 47).toInt) : aR g K (wA v 0 47 (v.1 0 47 + 1)) = sAt (sDu (aR g K v) false) (v.1 0 47 + 1) := by
  have J4 := J.2.2.2.1
  have q : (v.1 0 47 + 1).toInt = (v.1 0 47).toInt + 1 := add_z rfl (by decide) (by omega) (by omega)
  have d1 : ¬ (v.1 0 49 = v.1 0 47) := fun k => d (congrArg Int32.toInt k)
  have d2 : ¬ (v.1 0 49 = v.1 0 47 + 1) := fun k => by have := congrArg Int32.toInt k; omega
  show mkP (v.1 0 47 + 1) (v.1 0 48) (decide (v.1 0 49 = v.1 0 47 + 1)) (v.1 0 31) (v.1 0 32) (if v.1 0 49 = v.1 0 47 + 1 then 0 else v.1 0 33) _ _ _ _ _ _ _ _ = mkP (v.1 0 47 + 1) (v.1 0 48) false (v.1 0 31) (v.1 0 32) (if v.1 0 49 = v.1 0 47 then 0 else v.1 0 33) _ _ _ _ _ _ _ _
  rw [if_neg d1, if_neg d2, decide_eq_false d2]
  rfl
theorem JMt (J : JG bz n K e v) (h5 : (v.1 0 47).toInt < 1500) (hk : 2 ≤ (kd e (aR g K v)).toInt) : JG bz n K e (wA v 0 47 (v.1 0 47 + 1)) := by
  have J4 := J.2.2.2.1
  have q : (v.1 0 47 + 1).toInt = (v.1 0 47).toInt + 1 := add_z rfl (by decide) (by omega) (by omega)
  have l := at_lt J (by omega) hk
  refine J.of rfl (fun a ha => if_neg (fun q => by rw [q] at ha; revert ha; decide)) rfl rfl ?_
  show (v.1 0 49).toInt ≤ (v.1 0 47 + 1).toInt ∧ 0 ≤ (v.1 0 47 + 1).toInt ∧ (v.1 0 47 + 1).toInt < n
  omega
theorem rTake (h : Q_m_take v t u) (J : JG bz n K e v) (hk : 2 ≤ (kd e (aR g K v)).toInt) : OKG bz g n K e (tTake e) v t u := by
  obtain ⟨z, h⟩ := h
  unfold OKG tTake
  show (t = false ∧ (if (1500 : Int) ≤ (v.1 0 47).toInt ∨ decide (v.1 0 49 = v.1 0 47) = true then _ else _) = _ ∧ _) ∨ (t = true ∧ (if (1500 : Int) ≤ (v.1 0 47).toInt ∨ decide (v.1 0 49 = v.1 0 47) = true then _ else _) = _)
  rcases h with ⟨a, rfl, rfl⟩ | ⟨a, ⟨b, rfl, rfl⟩ | ⟨b, rfl, rfl⟩⟩
  · rw [if_pos (Or.inl a), rPl J]
    exact Or.inr ⟨rfl, rfl⟩
  · rw [if_neg (by
      rintro (q | q)
      · omega
      · exact b (congrArg Int32.toInt (of_decide_eq_true q)))]
    exact Or.inl ⟨rfl, by rw [aRt J a b]; rfl, JMt J a hk⟩
  · rw [if_pos (Or.inr (decide_eq_true (Int32.toInt_inj.mp b))), rPl J]
    exact Or.inr ⟨rfl, rfl⟩
theorem rOpens (h : Q_m_opens v t u) (J : JG bz n K e v) (hk : 2 ≤ (kd e (aR g K v)).toInt) : OKG bz g n K e (tOpen e) v t u := by
  obtain ⟨z, z8, h⟩ := h
  unfold OKG tOpen
  show (t = false ∧ (if (40 : Int) ≤ (v.1 0 48).toInt then _ else _) = _ ∧ _) ∨ (t = true ∧ (if (40 : Int) ≤ (v.1 0 48).toInt then _ else _) = _)
  rcases h with ⟨a, h⟩ | ⟨a, u9, h, rfl, rfl⟩
  · rw [if_neg (by omega)]
    rcases h with ⟨u9, h1, rfl, rfl⟩ | ⟨h1, k1, rfl, rfl⟩
    · exact Or.inr ⟨rfl, by rw [(rTake (g := g) h1 J hk).er, bd_er]⟩
    · have b := rTake (g := g) h1 J hk
      refine Or.inl ⟨rfl, by rw [b.eo, bd_ok]; rfl, ?_⟩
      exact b.jj.of rfl (fun a ha => if_neg (fun q => by rw [q] at ha; revert ha; decide)) rfl rfl ⟨b.jj.2.2.2.1.1, b.jj.2.2.2.1.2.1, b.jj.2.2.2.1.2.2.1⟩
  · rw [if_pos (by omega)]
    refine Or.inr ⟨rfl, ?_⟩
    obtain ⟨-, h⟩ := h
    have e51 : (u.1 0 50, u.1 0 51) = ((5 : Int32), v.1 7 (v.1 0 47).toNatClampNeg) := by
      rcases h with ⟨-, -, rfl⟩ | ⟨-, ⟨b, -⟩ | ⟨-, -, rfl⟩⟩
      · rfl
      · exact absurd rfl b
      · rfl
    rw [e51, rPl J]
theorem rBad {α : Type} (h : Q_m_bad v u) (J : JG bz n K e v) : (tBad e (aR g K v) : PX α) = .error (u.1 0 50, u.1 0 51) := by
  obtain ⟨-, h⟩ := h
  unfold tBad
  have k1 : (kd e (aR g K v)).toInt = 1 ↔ (v.1 6 (v.1 0 47).toNatClampNeg).toInt = 1 := by
    rw [rKd J]
    have T := rTV J
    constructor
    · intro w
      unfold kM at w
      by_cases k3 : v.1 6 (v.1 0 47).toNatClampNeg = 3
      · rw [if_pos k3] at w
        obtain ⟨y, hy, q⟩ := T.2.1 k3
        rw [q, i64_32] at w
        have : ∀ y ∈ KL, (10 + y : Int32).toInt ≠ 1 := by decide
        exact absurd w (this y hy)
      · rw [if_neg k3] at w
        by_cases k4 : v.1 6 (v.1 0 47).toNatClampNeg = 4
        · rw [if_pos k4] at w
          split at w <;> exact absurd w (by decide)
        · rw [if_neg k4] at w
          by_cases k5 : v.1 6 (v.1 0 47).toNatClampNeg = 5
          · rw [if_pos k5] at w
            obtain ⟨z, hz, q⟩ := T.2.2 k5
            rw [q, i64_32, (sgk_SC z hz).1] at w
            have := (sgk_SC z hz).2
            omega
          · rw [if_neg k5] at w
            by_cases k6 : v.1 6 (v.1 0 47).toNatClampNeg = 6
            · rw [if_pos k6] at w
              exact absurd w (by decide)
            · rw [if_neg k6] at w
              exact w
    · intro w
      have w2 : v.1 6 (v.1 0 47).toNatClampNeg = 1 := Int32.toInt_inj.mp (w.trans (by decide))
      unfold kM
      rw [w2]
      rfl
  rcases h with ⟨a, rfl⟩ | ⟨a, rfl⟩
  · rw [if_neg (fun q => a (k1.mp q)), rPl J]
    rfl
  · rw [if_pos (k1.mpr a), rPl J]
    rfl
theorem kd_m {q : Int32 × Int32} (hm : q.2.toInt = m) : kd e (aR g K v) = q.2 ↔ (kd e (aR g K v)).toInt = m := by rw [← hm, Int32.toInt_inj]
theorem rNeed {q : Int32 × Int32} (h : Q_m_need v pa t u) (J : JG bz n K e v) (hq : q ∈ SC) (hp : q.1 = pa) (hm : q.2.toInt = m) : OKG bz g n K e (tExp m e) v t u := by
  obtain ⟨z, r3, h1, k1, h⟩ := h
  have c := (rIs (g := g) h1 J hq hp).trans (kd_m hm)
  have b := (sgk_SC q hq).2
  unfold OKG tExp tNeed
  rcases h with ⟨a, h⟩ | ⟨a, u12, h2, -, rfl, rfl⟩
  · have k := c.mp a
    rw [if_pos k, bd_ok]
    rcases h with ⟨u9, h2, rfl, rfl⟩ | ⟨h2, k2, rfl, rfl⟩
    · exact Or.inr ⟨rfl, (rTake (g := g) h2 J (by omega)).er⟩
    · have b2 := rTake (g := g) h2 J (by omega)
      exact Or.inl ⟨rfl, b2.eo, b2.jj⟩
  · rw [if_neg (fun w => c.mpr w a), rBad (g := g) h2 J, bd_er]
    exact Or.inr ⟨rfl, rfl⟩
theorem rOpen {q : Int32 × Int32} (h : Q_m_open v pa t u) (J : JG bz n K e v) (hq : q ∈ SC) (hp : q.1 = pa) (hm : q.2.toInt = m) : OKG bz g n K e (fun s => bd (tNeed m e s) (tOpen e)) v t u := by
  obtain ⟨z, z8, r3, h1, k1, h⟩ := h
  have c := (rIs (g := g) h1 J hq hp).trans (kd_m hm)
  have b := (sgk_SC q hq).2
  unfold OKG
  show (t = false ∧ bd (if (kd e (aR g K v)).toInt = m then _ else _) _ = _ ∧ _) ∨ (t = true ∧ bd (if (kd e (aR g K v)).toInt = m then _ else _) _ = _)
  rcases h with ⟨a, h⟩ | ⟨a, u12, h2, -, rfl, rfl⟩
  · have k := c.mp a
    rw [if_pos k, bd_ok]
    rcases h with ⟨u9, h2, rfl, rfl⟩ | ⟨h2, k2, rfl, rfl⟩
    · exact Or.inr ⟨rfl, (rOpens (g := g) h2 J (by omega)).er⟩
    · have b2 := rOpens (g := g) h2 J (by omega)
      exact Or.inl ⟨rfl, b2.eo, b2.jj⟩
  · rw [if_neg (fun w => c.mpr w a), rBad (g := g) h2 J, bd_er]
    exact Or.inr ⟨rfl, rfl⟩
theorem rClose {q : Int32 × Int32} (h : Q_m_close v pa t u) (J : JG bz n K e v) (hq : q ∈ SC) (hp : q.1 = pa) (hm : q.2.toInt = m) : OKG bz g n K e (fun s => bd (tExp m e s) fun s => .ok (tClose s)) v t u := by
  obtain ⟨z, z8, h⟩ := h
  unfold OKG
  show (t = false ∧ bd (tExp m e (aR g K v)) _ = _ ∧ _) ∨ (t = true ∧ bd (tExp m e (aR g K v)) _ = _)
  rcases h with ⟨u9, h1, rfl, rfl⟩ | ⟨h1, k1, rfl, rfl⟩
  · exact Or.inr ⟨rfl, by rw [(rNeed (g := g) h1 J hq hp hm).er, bd_er]⟩
  · have b := rNeed (g := g) h1 J hq hp hm
    rw [b.eo, bd_ok]
    exact Or.inl ⟨rfl, rfl, b.jj.of rfl (fun a ha => if_neg (fun q => by rw [q] at ha; revert ha; decide)) rfl rfl ⟨b.jj.2.2.2.1.1, b.jj.2.2.2.1.2.1, b.jj.2.2.2.1.2.2.1⟩⟩
end MPS
