/-! texts: every token; names that are alike -/
def NEQ (T : Nat → Int32) (L p q : Nat) : Prop := NLE T L p - p = NLE T L q - q ∧ ∀ x, x < NLE T L p - p → btq T L (p + x) = btq T L (q + x)
theorem NEQ.sy {T : Nat → Int32} {L p q : Nat} (h : NEQ T L p q) : NEQ T L q p := ⟨h.1.symm, fun x hx => (h.2 x (by rw [h.1]; exact hx)).symm⟩
theorem NEQ.tr {T : Nat → Int32} {L p q s : Nat} (h : NEQ T L p q) (k : NEQ T L q s) : NEQ T L p s := ⟨h.1.trans k.1, fun x hx => (h.2 x hx).trans (k.2 x (by rw [← h.1]; exact hx))⟩
theorem RT.mono {α : Type} {R S : α → α → Prop} {a b : α} (h : RT R a b) (k : ∀ x y, R x y → S x y) : RT S a b := RT.ind (fun y => RT S a y) h RT.rf (fun x y _ hx hy => RT.st hx (k x y hy))
section LXA
variable {L1 L2 : List Nat} {T : Nat → Int32} {L p q n : Nat} {v u w u' : MS} {pa pb pc1 r rq r' dig unt : Int32} {val : Int64}
theorem FTk.tr {t : Nat} {x : MS} (h : FTk w u t) (k : FTk u x t) : FTk w x t := ⟨k.1.trans h.1, k.2.1.trans h.2.1, k.2.2.1.trans h.2.2.1, k.2.2.2.1.trans h.2.2.2.1, fun i hi => ⟨(k.2.2.2.2 i hi).1.trans (h.2.2.2.2 i hi).1, (k.2.2.2.2 i hi).2.1.trans (h.2.2.2.2 i hi).2.1, (k.2.2.2.2 i hi).2.2.trans (h.2.2.2.2 i hi).2.2⟩⟩
theorem tokJ (X : TXC T L v) (Y : TXM T L w) (hp : pa.toInt = p) (hq : pb.toInt = p) (hl : p < L) (h4 : (v.1 0 304).toInt < 1503) (hc : Q_x_X9_scanOne L1 L2 v pa rq u) (hm : Q_m_token w pb r' u') : TKE L1 L2 T L v pa p rq u r' (u'.2 (w.1 0 5).toNatClampNeg) (u'.1 10 (w.1 0 5).toNatClampNeg) (u'.1 8 (w.1 0 5).toNatClampNeg) ∧ FTk w u' (w.1 0 5).toNatClampNeg := by
  obtain ⟨-, -, r3, h3, hc⟩ := hc
  obtain ⟨-, -, -, r4, -, k4, hm⟩ := hm
  have x4 := X.2.1
  have e3 := xByte h3 X hp
  have b0 : 0 ≤ btq T L p := by rw [bt_lt hl]; exact X.2.2.2 p hl
  have et := mText Y hq hl
  have D := mDigit k4
  rw [et] at D hm
  have W1 : TXM T L (wA w 8 (w.1 0 5).toNatClampNeg (pb + 1)) := Y.of rfl rfl
  have F1 : FTk w (wA w 8 (w.1 0 5).toNatClampNeg (pb + 1)) (w.1 0 5).toNatClampNeg := FTk.rf.w8
  rcases hc with ⟨-, r8, h8, -, hc⟩ | ⟨a, -⟩
  rotate_left
  · omega
  have Lt := xLetter h8
  rw [e3] at Lt
  rcases hc with ⟨a, r13, h13, -, hc⟩ | ⟨a, r32, u31, hc, -, e5, e6⟩
  · have nl : ¬ ltr (btq T L p) := fun z => Lt.mpr z a
    have Dx := xDigit h13
    rw [e3] at Dx
    rcases hc with ⟨b, hc⟩ | ⟨b, r28, u27, hc, -, e5, e6⟩
    · have nd : ¬ dgt (btq T L p) := fun z => Dx.mpr z b
      rcases hm with ⟨c, r9, -, k9, hm⟩ | ⟨c, -⟩
      rotate_left
      · exact absurd (D.mp c) nd
      have N9 := mName k9
      rw [et] at N9
      rcases hm with ⟨d, hm⟩ | ⟨d, -⟩
      rotate_left
      · exact absurd (N9.mp d) (fun z => z.elim nl nd)
      rw [e3] at hc
      rcases hc with ⟨e, r20, u19, hc, -, e5, e6⟩ | ⟨e, r24, u23, hc, -, e5, e6⟩
      · rcases hm with ⟨-, r16, u15, hm, -, e7, e8⟩ | ⟨f, -⟩
        · rw [e5, e6, e7, e8]
          have J := signJ (t := (w.1 0 5).toNatClampNeg) X W1 hp hq hl h4 rfl hc hm
          exact ⟨J.1, F1.tr J.2⟩
        · exact absurd f e
      · rcases hm with ⟨f, -⟩ | ⟨-, r21, h21, -, hm⟩
        · exact absurd e f
        · rw [e5, e6]
          exact charJ (t := (w.1 0 5).toNatClampNeg) X Y hp hq hl h4 hc rfl h21 hm
    · have dd := Dx.mp b
      rcases hm with ⟨c, -⟩ | ⟨-, r71, u70, hm, -, e7, e8⟩
      · exact absurd c (D.mpr dd)
      · rw [e5, e6, e7, e8]
        have J := numJ X W1 hp hq hl dd h4 hc hm
        exact ⟨J.1, F1.tr J.2⟩
  · have lt := Lt.mp a
    rcases hm with ⟨c, r9, -, k9, hm⟩ | ⟨c, -⟩
    rotate_left
    · exact absurd (D.mp c) (ltr_dgt lt)
    have N9 := mName k9
    rw [et] at N9
    rcases hm with ⟨d, -⟩ | ⟨-, to, hr, -, -, r47, h47, -, r50, -, k50, z50, hm⟩
    · exact absurd d (N9.mpr (ltr_nmp lt))
    have e0 := mNameEnd (pa := pb) Y W1 hq hl (hr.mono (fun x y hy => by
      obtain ⟨-, -, r1, g1, -, r2, -, g2, g3, g4⟩ := hy
      exact ⟨r1, g1, r2, g2, g3, g4⟩)) h47 k50 z50
    rw [e5, e6]
    exact nameJ X Y hp hq hl lt h4 rfl hc e0 hm
/-- names that are alike in the class -/
theorem xAlike {k : Nat} (X : TXC T L v) (hk : pa.toInt = k) (hq : pb.toInt = q) (kl : k < L) (hl : q < L) (ln : ltr (btq T L q)) (hn : pc1.toInt = ((NLE T L q - q : Nat) : Int)) (h : Q_x_X9_isAlike L1 L2 v pa pb pc1 r) : r.toInt ≠ 0 ↔ NEQ T L k q := by
  obtain ⟨-, ka, hr, -, h⟩ := h
  have x4 := X.2.1
  have gt := NLE_gt (ltr_nmp ln)
  have inv : ∃ m : Nat, ka.toInt = m ∧ m ≤ NLE T L q - q ∧ ∀ x, x < m → btq T L (k + x) = btq T L (q + x) := by
    refine RT.ind (fun (y : Int32) => ∃ m : Nat, y.toInt = m ∧ m ≤ NLE T L q - q ∧ ∀ x, x < m → btq T L (k + x) = btq T L (q + x)) hr ⟨0, by decide, by omega, fun x hx => by omega⟩ ?_
    intro x y _ ⟨m, f1, f2, f3⟩ hy
    obtain ⟨-, g1, r15, h15, r18, h18, g2, rfl⟩ := hy
    refine ⟨m + 1, inc1 f1 (by omega), by omega, fun z hz => ?_⟩
    by_cases e : z = m
    · rw [e, ← xByte h15 X (incn hk f1 (by omega)), ← xByte h18 X (incn hq f1 (by omega))]
      exact g2
    · exact f3 z (by omega)
  obtain ⟨m, f1, f2, f3⟩ := inv
  have allq : ∀ x, x < NLE T L q - q → nmp (btq T L (q + x)) := by
    have go : ∀ j x : Nat, j ≤ x → ∀ s, s + j ≤ L → NLE T L s - s = x → ∀ i, i < x → nmp (btq T L (s + i)) := by
      intro j x
      induction x generalizing j with
      | zero => intro _ s _ _ i hi; omega
      | succ x ih =>
        intro hj s hs he i hi
        have sl : s < L := by
          by_cases g : s < L
          · exact g
          · rw [NLE_end (by omega)] at he
            omega
        by_cases nm : nmp (btq T L s)
        · cases i with
          | zero => exact nm
          | succ i =>
            rw [NLE_y sl nm] at he
            have := ih 0 (by omega) (s + 1) (by omega) (by omega) i (by omega)
            rw [show s + (i + 1) = s + 1 + i by omega]
            exact this
        · rw [NLE_n sl nm] at he
          omega
    exact go 0 (NLE T L q - q) (by omega) q (by omega) rfl
  have step : ∀ i, ∀ s, s + i ≤ L → (∀ x, x < i → nmp (btq T L (s + x))) → NLE T L s = NLE T L (s + i) := by
    intro i
    induction i with
    | zero => intro s _ _; rfl
    | succ i ih =>
      intro s hs ha
      have n0 : nmp (btq T L s) := ha 0 (by omega)
      rw [NLE_y (nmp_lt n0) n0, ih (s + 1) (by omega) (fun x hx => by rw [show s + 1 + x = s + (x + 1) by omega]; exact ha (x + 1) (by omega)), show s + 1 + i = s + (i + 1) by omega]
  rcases h with ⟨a, r5, h5, r8, h8, -, h⟩ | ⟨a, r15, h15, r18, h18, g2, rfl⟩
  · have me : m = NLE T L q - q := by omega
    rw [me] at f3
    have nk : ∀ x, x < NLE T L q - q → nmp (btq T L (k + x)) := fun x hx => by rw [f3 x hx]; exact allq x hx
    have kl2 : k + (NLE T L q - q) ≤ L := by
      have := nmp_lt (nk (NLE T L q - q - 1) (by omega))
      omega
    have ek := step _ k kl2 nk
    have e5 := xByte h5 X (incn hk hn (by omega))
    have N8 := xName h8
    rw [e5] at N8
    rcases h with ⟨b, rfl⟩ | ⟨b, rfl⟩
    · refine ⟨fun z => absurd rfl z, fun z => ?_⟩
      exfalso
      have nm := N8.mp b
      have lt := nmp_lt nm
      have g2 := NLE_gt nm
      rw [← ek] at g2
      have := z.1
      omega
    · refine ⟨fun _ => ?_, fun _ => i10⟩
      have nn : ¬ nmp (btq T L (k + (NLE T L q - q))) := fun z => N8.mpr z b
      have e : NLE T L (k + (NLE T L q - q)) = k + (NLE T L q - q) := by
        by_cases g : k + (NLE T L q - q) < L
        · exact NLE_n g nn
        · rw [NLE_end (by omega)]; omega
      have e2 : NLE T L k - k = NLE T L q - q := by rw [ek, e]; omega
      exact ⟨e2, fun x hx => f3 x (by omega)⟩
  · refine ⟨fun z => absurd rfl z, fun z => ?_⟩
    exfalso
    refine g2 ?_
    rw [xByte h15 X (incn hk f1 (by omega)), xByte h18 X (incn hq f1 (by omega))]
    exact z.2 m (by have := z.1; omega)
end LXA
