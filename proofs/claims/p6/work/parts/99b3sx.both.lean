/-! both: a text is read, or refused, alike -/
section BTH
variable {L1 L2 : List Nat} {T : Nat → Int32} {L n N : Nat} {v u w x u3 v2 u10 u11 : MS} {ps r : Int32} {t s : Bool} {K : TK}
theorem mCopy (hL : (v.1 0 2).toInt = L) (h4 : L ≤ 4000) (hT : ∀ p, p < L → v.1 1 p = T p ∧ 0 ≤ (T p).toInt) (h : Q_m_load v N r u) : ∃ u10 u11, TXM T L u10 ∧ Q_m_cut u10 u11 ∧ ((∃ x, Q_m_walk u11 N true x ∧ r = x.1 0 50 ∧ u = wA (wA x 0 91 (x.1 0 50)) 0 92 (x.1 0 51)) ∨ (∃ x, Q_m_walk u11 N false x ∧ Q_m_accept x u ∧ K_m_accept x u ∧ r = 0 ∧ u.1 0 91 = 0 ∧ u.1 0 92 = -1 ∧ K_m_walk u11 x)) := by
  obtain ⟨-, ka, w20, hr, fr, hk, cx, u11, hc, kc, h⟩ := h
  have e4 : w20.1 0 4 = v.1 0 2 := (fr.2.1 4 (fun q => nomatch q)).trans rfl
  have inv : 0 ≤ ka.toInt ∧ ∀ p : Nat, (p : Int) < ka.toInt → p < L → w20.1 3 p = T p := by
    refine RT.ind (fun (y : Int32 × MS) => 0 ≤ y.1.toInt ∧ ∀ p : Nat, (p : Int) < y.1.toInt → p < L → y.2.1 3 p = T p) hr ⟨show 0 ≤ (0 : Int32).toInt by decide, fun p hp => by have hp : (p : Int) < (0 : Int32).toInt := hp; have : (0 : Int32).toInt = 0 := (by decide); omega⟩ ?_
    intro a b _ ⟨g0, g1⟩ hb
    obtain ⟨fa, ba, ca, rfl⟩ := hb
    have ea : (a.1 + (1 : Int32)).toInt = a.1.toInt + 1 := add_z rfl (by decide) (by omega) (by omega)
    have na := natI g0
    refine ⟨by show 0 ≤ (a.1 + (1 : Int32)).toInt; omega, fun p hp hl => ?_⟩
    have hp : (p : Int) < (a.1 + (1 : Int32)).toInt := hp
    show upd (a.2.1 3) a.1.toNatClampNeg _ p = _
    by_cases q : p = a.1.toNatClampNeg
    · rw [← q, updS, fa.2.2 1 (by decide)]
      exact (hT p hl).1
    · rw [updN_ q]
      exact g1 p (by omega) hl
  rw [e4] at cx
  have X : TXM T L (wA (wA w20 0 91 0) 0 92 (-1)) := by
    refine ⟨?_, h4, fun p hp => inv.2 p (by omega) hp, fun p hp => (hT p hp).2⟩
    show (w20.1 0 4).toInt = L
    rw [e4]
    exact hL
  refine ⟨_, u11, X, hc, ?_⟩
  have f91 : u11.1 0 91 = 0 := (kc.2.1 91 (by decide)).trans rfl
  have f92 : u11.1 0 92 = -1 := (kc.2.1 92 (by decide)).trans rfl
  rcases h with ⟨x, hw, -, e1, e2⟩ | ⟨x, hw, kw, u37, ha, kA, e1, e2⟩
  · exact Or.inl ⟨x, hw, e1, e2⟩
  · have x91 : x.1 0 91 = 0 := (kw.2.1 91 (by decide)).trans f91
    have x92 : x.1 0 92 = -1 := (kw.2.1 92 (by decide)).trans f92
    have u91 : u.1 0 91 = 0 := by rw [e2]; exact (kA.1.2.1 91 (by decide)).trans x91
    have u92 : u.1 0 92 = -1 := by rw [e2]; exact (kA.1.2.1 92 (by decide)).trans x92
    refine Or.inr ⟨x, hw, ?_, ?_, ?_, u91, u92, kw⟩
    · rw [e2]; exact ha
    · rw [e2]; exact kA
    · rw [e1, ← e2]; exact u91
theorem rng_eq {α : Type} {F G : Nat → α} {a b : Nat} (h : (List.range a).map F = (List.range b).map G) : a = b ∧ ∀ i, i < a → F i = G i := by
  have e : a = b := by
    have := congrArg List.length h
    rw [List.length_map, List.length_map, List.length_range, List.length_range] at this
    exact this
  refine ⟨e, fun i hi => ?_⟩
  have := congrArg (fun l => l[i]?) h
  simp only [List.getElem?_map, List.getElem?_range hi, List.getElem?_range (show i < b by omega), Option.map_some] at this
  exact Option.some.inj this
/-- the place of the end -/
theorem endPl (H : LEX T L n u w) {y : IS} {f : Nat} (h : tItems SP (kC u) f X0 = .ok y) (at9 : (pAt y.1).toInt < n ∧ 0 ≤ (pAt y.1).toInt) (hk : (kd (mkE (kC u) y.2.2) y.1).toInt = 0) : (pl (mkE (kC u) y.2.2) y.1).toInt = L := by
  have e1 : kd (mkE (kC u) y.2.2) y.1 = u.1 301 (pAt y.1).toNatClampNeg := if_pos (by rw [H.2.2.2.2.1]; exact at9.1)
  have e2 : pl (mkE (kC u) y.2.2) y.1 = u.1 302 (pAt y.1).toNatClampNeg := if_pos (by rw [H.2.2.2.2.1]; exact at9.1)
  rw [e2]
  have A := (H.2.2.1 _ (i_nat at9.2 at9.1)).2.2.2.2.2.2
  exact A (Int32.toInt_inj.mp (by rw [← e1]; exact hk))
/-- reading, in both -/
theorem readJ (rd : RD L1 L2) (X : TXC T L v) (hc : Q_x_X5_readText L1 L2 v ps t u) (Y : TXM T L u10) (hm : Q_m_cut u10 u11) (hw : Q_m_walk u11 N s x) :
    (t = true ∧ s = true ∧ u.1 0 308 = x.1 0 50 ∧ u.1 0 309 = x.1 0 51) ∨ (t = false ∧ ∃ u2 n y W w Wm wm, LEX T L n u2 u11 ∧ tText SP (kC u2) X0 = .ok y ∧ CIq L1 L2 (kC u2) W w y ∧ ovC w = false ∧ (0 ≤ (w.1 0 321).toInt ∧ (w.1 0 321).toInt ≤ 501) ∧ Q_x_X1_link L1 L2 w u ∧ K_x_X1_link w u ∧ RIq n (kC u2) Wm wm y ∧ ovM wm = false ∧ RT7 wm x y N s (kC u2)) := by
  obtain ⟨u2, h2, C⟩ := cReadT rd hc
  have X' : TXC T L (wA v 0 327 ps) := ⟨X.1, X.2.1, X.2.2.1, X.2.2.2⟩
  obtain ⟨n, H⟩ := lexJ X' Y h2 hm
  have M := rText (n := n) SP_m ⟨by have := H.2.2.2.2.2.1; omega, by have := H.2.2.2.2.2.2.1; omega⟩ H.TR H.VB (fun y hy => nov_P hy) hw
  rcases C with ⟨e1, y, W, w, c1, c2, c3, c4, c5, c6⟩ | ⟨e1, c1⟩
  · rcases M with ⟨y', Wm, wm, m1, m2, m3, m4⟩ | ⟨-, m1⟩
    · rw [c1] at m1
      have ey : y = y' := Except.ok.inj m1
      rw [← ey] at m2 m4
      exact Or.inr ⟨e1, u2, n, y, W, w, Wm, wm, H, c1, c2, c3, c4, c5, c6, m2, m3, m4⟩
    · rw [c1] at m1
      cases m1
  · rcases M with ⟨y', Wm, wm, m1, -⟩ | ⟨e2, m1⟩
    · rw [c1] at m1
      cases m1
    · rw [c1] at m1
      have q := Except.error.inj m1
      exact Or.inl ⟨e1, e2, congrArg Prod.fst q, congrArg Prod.snd q⟩
theorem tItems_end {S : FS} {y : IS} : ∀ {f : Nat} {z : IS}, tItems S K f z = .ok y → (kd (mkE K y.2.2) y.1).toInt = 0 := by
  intro f
  induction f with
  | zero => intro z h; cases h
  | succ f ih =>
    intro z h
    have h : (if (kd (mkE K z.2.2) z.1).toInt = 0 then .ok z else bd (tItem S K z) (tItems S K f)) = (Except.ok y : PX IS) := h
    by_cases q : (kd (mkE K z.2.2) z.1).toInt = 0
    · rw [if_pos q] at h
      rw [← Except.ok.inj h]
      exact q
    · rw [if_neg q] at h
      obtain ⟨a, -, h⟩ := bd_iv h
      exact ih h
end BTH
