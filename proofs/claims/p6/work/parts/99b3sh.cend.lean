/-! the class: what a text that is read to its end leaves -/
def wtot (y : IS) : Int32 := pWd y.1 + (if pMu y.1 = true then 10 else 0) + (if pDi y.1 = true then 26 else 0)
section CEN
variable {L1 L2 : List Nat} {N : Nat} {K : TK} {W : Nat → Int32} {v u w x z U : MS} {pa pb r : Int32} {y : IS}
theorem cHW (C : CIq L1 L2 K W w y) (ov : ovC w = false) (z21 : 0 ≤ (w.1 0 321).toInt ∧ (w.1 0 321).toInt ≤ 501) (hl : Q_x_X1_link L1 L2 w U) (tc : tCalls y.2.1 (pCa y.1) = .ok ()) (pn : ∀ f ∈ y.2.1, 0 ≤ f.2.2.1.toInt) : HW L1 W w U := by
  obtain ⟨-, -, J3, hf, -, hx, -⟩ := C
  refine ⟨J3, z21, (zLink hl J3).2.2, fun f hf2 => ?_, fun c hc => ?_⟩
  · rw [hf] at pn
    exact pn (rF L1 w f 4, rF L1 w f 3, rF L1 w f 0, rF L1 w f 2, W f) (List.mem_map.mpr ⟨f, List.mem_range.mpr hf2, rfl⟩)
  · have ca : pCa y.1 = cas [] (w.1 318) (w.1 319) (w.1 320) (nC w) := by
      rw [← hx _ PF_pv]
      show caC _ w = _
      unfold caC
      rw [if_neg (by rw [ov]; exact Bool.false_ne_true)]
      rfl
    rw [ca] at tc
    obtain ⟨g, g1, g2⟩ := tCalls_ok tc (w.1 318 c, w.1 319 c, w.1 320 c) (List.mem_map.mpr ⟨c, List.mem_range.mpr hc, by rw [if_neg (fun q => nomatch q)]⟩)
    rw [hf] at g1
    exact ⟨g, g1, g2⟩
theorem cSize (C : CIq L1 L2 K W w y) (ov : ovC w = false) (z21 : 0 ≤ (w.1 0 321).toInt ∧ (w.1 0 321).toInt ≤ 501) : wsz L1 w = wtot y ∧ (∀ k, k ≤ nG w → gsm (fun g => rF L2 w g 0) k = gto (y.2.2.take k)) ∧ gsm (fun g => rF L2 w g 0) (nG w) = gto y.2.2 := by
  obtain ⟨-, -, J3, hf, hg, hx, -⟩ := C
  have pf : PF L1 (p9 L1 w) w := fun f hf2 => p9_f (by have := natI J3.1; unfold nF at hf2; omega) z21.2
  have e1 := hx _ pf
  have wd : pWd y.1 = 2 + dsum (p9 L1 w) (w.1 378) (w.1 379) (nD w) := by
    rw [← e1]
    show wdC (Gp (p9 L1 w)) w = _
    unfold wdC
    rw [if_neg (by rw [ov]; exact Bool.false_ne_true)]
    show 2 + dsum (p9 L1 w) (w.1 378) (w.1 379) (nD w) + csum (p9 L1 w) [] (w.1 320) (nC w) = _
    rw [csum_p9 (by have := natI z21.1; unfold nC; omega), Int32.add_zero]
  have mu : pMu y.1 = dhas isT (w.1 378) (w.1 379) (nD w) := by
    rw [← e1]
    show (false || dhas isT (w.1 378) (w.1 379) (nD w)) = _
    rw [Bool.false_or]
  have di : pDi y.1 = dhas isD (w.1 378) (w.1 379) (nD w) := by
    rw [← e1]
    show (false || dhas isD (w.1 378) (w.1 379) (nD w)) = _
    rw [Bool.false_or]
  refine ⟨?_, fun k hk => ?_, ?_⟩
  · unfold wsz wtot
    rw [wd, mu, di]
  · rw [hg]
    unfold gsC
    rw [gto_take hk]
  · rw [hg]
    unfold gsC
    rw [gto_rng]
/-- what stands at the end: words, the limit, globals -/
theorem cEnd (rd : RD L1 L2) (C : CIq L1 L2 K W w y) (ov : ovC w = false) (z21 : 0 ≤ (w.1 0 321).toInt ∧ (w.1 0 321).toInt ≤ 501) (hl : Q_x_X1_link L1 L2 w U) (tc : tCalls y.2.1 (pCa y.1) = .ok ()) (pn : ∀ f ∈ y.2.1, 0 ≤ f.2.2.1.toInt) (A : AB w U v) {ps : Int32} (h : Q_x_X0_assemble L1 L2 N v ps r u) : AS L1 L2 w U u ∧ u.1 0 383 = wtot y ∧ u.1 0 384 = 4 * (wtot y + gto y.2.2) ∧ (∀ g : Nat, g < nG w → rF L2 u g 1 = 4 * (wtot y + gto (y.2.2.take g))) ∧ ((r = 1 ∧ (4 * (wtot y + gto y.2.2) + 64).toInt ≤ (v.1 0 335).toInt) ∨ (r = 0 ∧ (v.1 0 335).toInt < (4 * (wtot y + gto y.2.2) + 64).toInt)) := by
  have g60 : 0 ≤ (w.1 0 377).toInt ∧ (w.1 0 377).toInt ≤ 60 := (C.1 (pv L1 w)).1.2.2
  have Z := zAsm rd (cHW C ov z21 hl tc pn) A g60 h
  have S := cSize C ov z21
  obtain ⟨Z1, Z2⟩ := Z
  have e4 : u.1 0 384 = 4 * (wtot y + gto y.2.2) := by rw [Z1.2.2.2.1, S.1, S.2.2]
  rw [e4] at Z2
  exact ⟨Z1, Z1.2.2.1.trans S.1, e4, fun g hg => by rw [Z1.2.2.2.2.1 g hg, S.1, S.2.1 g (by omega)], Z2⟩
end CEN
/-! parameters are never below 0 -/
section PNN
variable {e : PE} {s : PS} {S : FS} {K : TK} {y : IS} {m : Int} {x : Int32}
def KN (s : PS) : Prop := 0 ≤ (pKc s).toInt ∧ (pKc s).toInt ≤ 500
def GK (x : PX PS) : Prop := ∀ a, x = .ok a → KN a
theorem gk_er {f : Flt} : GK (.error f) := fun a h => by cases h
theorem gk_ok {a : PS} (h : KN a) : GK (.ok a) := fun b w => by
  rw [← Except.ok.inj w]
  exact h
theorem gk_bd {x : PX PS} {f : PS → PX PS} (h : GK x) (k : ∀ a, KN a → GK (f a)) : GK (bd x f) := by
  cases x with
  | error f => exact gk_er
  | ok a => exact k a (h a rfl)
theorem gk_if {P : Prop} [Decidable P] {a b : PX PS} (h : GK a) (k : GK b) : GK (if P then a else b) := by
  split
  · exact h
  · exact k
theorem k_take (h : KN s) : GK (tTake e s) := gk_if gk_er (gk_ok h)
theorem k_need (h : KN s) : GK (tNeed m e s) := gk_if (gk_ok h) gk_er
theorem k_exp (h : KN s) : GK (tExp m e s) := gk_bd (k_need h) (fun _ k => k_take k)
theorem k_open (h : KN s) : GK (tOpen e s) := gk_if gk_er (gk_bd (k_take h) (fun _ k => gk_ok k))
theorem k_want (h : KN s) : GK (tWant x e s) := gk_if gk_er (gk_ok (by unfold sMm; split <;> exact h))
theorem k_new (h : KN s) : GK (tNew e s) := gk_bd (k_need h) (fun _ k => gk_if gk_er (gk_ok k))
theorem k_learn (h : KN s) : KN (tLearn x s) := by
  unfold tLearn
  split
  · exact h
  · rename_i q
    have e1 : (pKc s + 1).toInt = (pKc s).toInt + 1 := add_z rfl (by decide) (by have := h.1; omega) (by have := h.2; omega)
    show 0 ≤ (pKc s + 1).toInt ∧ (pKc s + 1).toInt ≤ 500
    have := h.1
    omega
theorem k_param (h : KN s) : GK (tParam e s) := gk_bd (k_exp h) (fun _ h1 => gk_bd (k_new h1) (fun _ h2 => gk_if gk_er (gk_bd (k_want h2) (fun _ h3 => gk_bd (k_take h3) (fun _ h4 => gk_ok (k_learn h4))))))
theorem k_moreP : ∀ {f : Nat} {s : PS}, KN s → GK (tMoreP f e s) := by
  intro f
  induction f with
  | zero => intro s h; exact gk_er
  | succ f ih => intro s h; exact gk_if (gk_bd (k_take h) (fun _ h1 => gk_bd (k_param h1) (fun _ h2 => ih h2))) (gk_ok h)
theorem k_params (h : KN s) : GK (tParams e s) := gk_bd (k_open h) (fun _ h1 => gk_bd (gk_if (gk_ok h1) (gk_bd (k_param h1) (fun _ h2 => k_moreP h2))) (fun _ h3 => gk_bd (k_exp h3) (fun _ h4 => gk_ok h4)))
theorem bd_iv {α β : Type} {x : PX α} {f : α → PX β} {b : β} (h : bd x f = .ok b) : ∃ a, x = .ok a ∧ f a = .ok b := by
  cases x with
  | error f => cases h
  | ok a => exact ⟨a, rfl, h⟩
def PN (y : IS) : Prop := ∀ f ∈ y.2.1, 0 ≤ f.2.2.1.toInt
theorem k_fitem {y' : IS} (h : PN y) (k : tFItem S K y = .ok y') : PN y' := by
  unfold tFItem at k
  by_cases q : 40 ≤ y.2.1.length
  · rw [if_pos q] at k
    cases k
  rw [if_neg q] at k
  obtain ⟨z, k1, k2⟩ := bd_iv k
  have k2 := (Except.ok.inj k2).symm
  unfold tFunc at k1
  obtain ⟨s1, j1, k1⟩ := bd_iv k1
  obtain ⟨s2, j2, k1⟩ := bd_iv k1
  obtain ⟨s3, j3, k1⟩ := bd_iv k1
  have k1 := (Except.ok.inj k1).symm
  have n0 : KN (tBegF y.1) := by
    show 0 ≤ (0 : Int32).toInt ∧ (0 : Int32).toInt ≤ 500
    decide
  have n1 := k_take n0 s1 j1
  have n2 := k_params n1 s2 j2
  rw [k2, k1]
  intro f hf
  rcases List.mem_append.mp hf with hf | hf
  · exact h f hf
  · rw [List.mem_singleton.mp hf]
    exact n2.1
theorem k_items {y' : IS} : ∀ {f : Nat} {y : IS}, PN y → tItems S K f y = .ok y' → PN y' := by
  intro f
  induction f with
  | zero => intro y _ h; cases h
  | succ f ih =>
    intro y hy h
    have h : (if (kd (mkE K y.2.2) y.1).toInt = 0 then .ok y else bd (tItem S K y) (tItems S K f)) = (Except.ok y' : PX IS) := h
    by_cases q : (kd (mkE K y.2.2) y.1).toInt = 0
    · rw [if_pos q] at h
      rw [← Except.ok.inj h]
      exact hy
    · rw [if_neg q] at h
      obtain ⟨z, j1, h⟩ := bd_iv h
      refine ih ?_ h
      unfold tItem at j1
      obtain ⟨x, j2, j1⟩ := bd_iv j1
      have hx : PN x := by
        unfold tHead at j2
        obtain ⟨s1, -, j2⟩ := bd_iv j2
        obtain ⟨s2, -, j2⟩ := bd_iv j2
        by_cases c : fnm y.2.1 (vl (mkE K y.2.2) s2) ≠ none ∨ gfd (mkE K y.2.2) (vl (mkE K y.2.2) s2) ≠ none
        · rw [if_pos c] at j2
          cases j2
        · rw [if_neg c] at j2
          rw [← Except.ok.inj j2]
          exact hy
      by_cases c : (kb (mkE K x.2.2) x.1).toInt = 30
      · rw [if_pos c] at j1
        exact k_fitem hx j1
      · rw [if_neg c] at j1
        unfold tGItem at j1
        by_cases c2 : ((kb (mkE K x.2.2) x.1).toInt = 34 ∨ (kb (mkE K x.2.2) x.1).toInt = 36) ∧ 60 ≤ x.2.2.length
        · rw [if_pos c2] at j1
          cases j1
        · rw [if_neg c2] at j1
          obtain ⟨s1, -, j1⟩ := bd_iv j1
          obtain ⟨s2, -, j1⟩ := bd_iv j1
          obtain ⟨s3, -, j1⟩ := bd_iv j1
          rw [← Except.ok.inj j1]
          exact hx
theorem PN0 : PN X0 := fun f hf => nomatch hf
theorem tText_inv {S : FS} {x : IS} (h : tText S K x = .ok y) : tItems S K 1502 x = .ok y ∧ tCalls y.2.1 (pCa y.1) = .ok () := by
  unfold tText at h
  obtain ⟨z, h1, h⟩ := bd_iv h
  obtain ⟨z2, h2, h⟩ := bd_iv h
  have e := Except.ok.inj h
  rw [← e]
  exact ⟨h1, h2⟩
end PNN
