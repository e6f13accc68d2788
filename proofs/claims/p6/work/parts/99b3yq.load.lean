/-! a program that both have loaded is one program -/
/-- as PGF, but what a work brings -/
def PG0 (g : GC) (N : Nat) (ng lim : Int) (L1 L2 : List Nat) (K : TK) (fn : Nat → Int32) (v0 w0 : MS) : Prop :=
  (∀ f i, zOk g f i → ((f : Int) < (w0.1 0 74).toInt ∧ 0 ≤ zRk g f i ∧ zRk g f i ≤ 6018) ∧ ∃ q, EVP g L1 K fn v0 w0 f i q) ∧ FUN g L1 v0 w0 ∧ NAM L1 K fn v0 w0 ∧ GLB L2 v0 w0 ng N ∧ ((v0.1 0 384).toInt = lim ∧ (w0.1 0 77).toInt = lim ∧ 0 ≤ lim ∧ lim ≤ 16384) ∧ (v0.1 0 381).toInt ≤ 3008
section YQL
variable {L1 L2 : List Nat} {T : Nat → Int32} {L N : Nat} {v u w u' x u5 : MS} {ps r r' : Int32} {q : EV} {p : Nat} {K : TK} {evs : List (List Int32 × List EV)}
theorem DTq.cg (h : DTq L1 u5 q p) (e1 : u.1 0 381 = u5.1 0 381) (e5 : u.1 0 375 = u5.1 0 375) (e2 : u.1 378 = u5.1 378) (e3 : u.1 379 = u5.1 379) (e4 : u.1 380 = u5.1 380) (er : ∀ f j, j ≠ 1 → rF L1 u f j = rF L1 u5 f j) : DTq L1 u q p := by
  unfold DTq
  rw [e1, e2, e3, e4, e5, er _ 4 (by decide), er _ 0 (by decide)]
  exact h
theorem fs_at {α : Type} {n f : Nat} {F : Nat → α} (h : f < n) : ((List.range n).map F)[f]? = some (F f) := by
  rw [List.getElem?_map, List.getElem?_range h]
  rfl
/-- from the parts -/
theorem pg0_of {u20 : MS} {nf : Nat} (hN : N ≤ 4096)
    (D : ∀ x q z, txE 0 evs = x ++ q :: z → DTq L1 u q (ldL x)) (h381 : (u.1 0 381).toInt ≤ 3008 ∧ (u.1 0 381).toInt = ldL (txE 0 evs))
    (M : MXq K (x.1 16) u' (txE 0 evs)) (hG : gItems EvSP SP K 1502 X0 = some evs) {y : IS} (hT : tText SP K X0 = .ok y)
    (hn : (u.1 0 375).toInt = evs.length ∧ (u'.1 0 74).toInt = evs.length ∧ u.1 0 375 = u'.1 0 74 ∧ evs.length ≤ 40)
    (hf : ∀ f, f < evs.length → (rF L1 u f 0 = u'.1 78 f ∧ rF L1 u f 2 = u'.1 79 f) ∧ ((rF L1 u f 5).toInt = ldL (txE 0 (evs.take f)) ∧ (u'.1 81 f).toInt = loL (txE 0 (evs.take f))) ∧ (∃ p : FN, y.2.1[f]? = some p ∧ p.2.2.1 = u'.1 78 f ∧ p.2.2.2.1 = u'.1 79 f) ∧ rF L1 u f 4 = K.2.1 (x.1 16 f))
    (hd : ∀ i j : Nat, i < j → j < evs.length → K.2.1 (x.1 16 i) ≠ K.2.1 (x.1 16 j))
    (hg : GLB L2 u u' (u'.1 0 76).toInt N) (hl : u.1 0 384 = u'.1 0 77 ∧ 0 ≤ (u'.1 0 77).toInt ∧ (u'.1 0 77).toInt ≤ 16384) (bg : BG u') : ∃ g, PG0 g N (u'.1 0 76).toInt (u'.1 0 77).toInt L1 L2 K (x.1 16) u u' := by
  obtain ⟨E, hh, TT9, bg⟩ := skol bg
  obtain ⟨lE, J⟩ := jText hT hG
  have ti := (tText_inv hT).1
  have TG := tyItems 1502 X0 evs hG
  have ex : ∀ f, ∃ τ : Nat → ST3, f < evs.length → le3 ((evF evs f).1.length, 0, 0) (τ 0) ∧ ∀ i q, (Lfn evs f)[i]? = some q → (q.1 = 33 ∧ ((τ i).2.2 = 1 ∧ (τ i).2.1 = 0) ∧ (ldL ((Lfn evs f).take i) : Int) + q.2.2.2.1 = (ldL (Lfn evs f) : Int) - 1) ∨ (preT q (τ i) ∧ (endT q ∨ le3 (postT q (τ i)) (τ (i + 1))) ∧ (isL q → ∃ j, j < (Lfn evs f).length ∧ (ldL ((Lfn evs f).take j) : Int) = ldL ((Lfn evs f).take i) + q.2.2.2.1 ∧ (loL ((Lfn evs f).take j) : Int) = loL ((Lfn evs f).take i) + q.2.2.2.2.1 ∧ le3 (leapT q (τ i)) (τ j))) := fun f => by
    by_cases c : f < evs.length
    · obtain ⟨τ, h⟩ := (TG (evF evs f) (List.mem_of_getElem? (evF_g c))).2
      exact ⟨τ, fun _ => h⟩
    · exact ⟨fun _ => (0, 0, 0), fun z => absurd z c⟩
  obtain ⟨ty, hty⟩ : ∃ ty : Nat → Nat → ST3, ∀ f, f < evs.length → le3 ((evF evs f).1.length, 0, 0) (ty f 0) ∧ ∀ i q, (Lfn evs f)[i]? = some q → (q.1 = 33 ∧ ((ty f i).2.2 = 1 ∧ (ty f i).2.1 = 0) ∧ (ldL ((Lfn evs f).take i) : Int) + q.2.2.2.1 = (ldL (Lfn evs f) : Int) - 1) ∨ (preT q (ty f i) ∧ (endT q ∨ le3 (postT q (ty f i)) (ty f (i + 1))) ∧ (isL q → ∃ j, j < (Lfn evs f).length ∧ (ldL ((Lfn evs f).take j) : Int) = ldL ((Lfn evs f).take i) + q.2.2.2.1 ∧ (loL ((Lfn evs f).take j) : Int) = loL ((Lfn evs f).take i) + q.2.2.2.2.1 ∧ le3 (leapT q (ty f i)) (ty f j))) := ⟨fun f => Classical.choose (ex f), fun f hf => Classical.choose_spec (ex f) hf⟩
  have FR : ∀ f, f < evs.length → FNR 1502 (u'.1 78 f) (u'.1 79 f) (evF evs f) := fun f hf9 => by
    obtain ⟨-, -, ⟨p, p1, p2, p3⟩, -⟩ := hf f hf9
    have := J f (evF evs f) p (evF_g hf9) p1
    rw [p2, p3] at this
    exact this
  obtain ⟨M9, hM9⟩ : ∃ M9 : Nat → Nat, ∀ f, M9 f = (((u'.1 79 f).toInt - 8) / 4).toNat := ⟨fun f => (((u'.1 79 f).toInt - 8) / 4).toNat, fun _ => rfl⟩
  have FM : ∀ f, f < evs.length → (u'.1 78 f).toInt = ((evF evs f).1.length : Int) ∧ (u'.1 79 f).toInt = 8 + 4 * (M9 f : Int) ∧ M9 f ≤ 500 ∧ SLT 1502 (M9 f) (Lfn evs f) := fun f hf9 => by
    obtain ⟨a1, m, a2, a3, a4, a5⟩ := FR f hf9
    have e1 : ((4 : Int32) * m).toInt = 4 * m.toInt := mul_z (by decide) rfl (by omega) (by omega)
    have e2 : (8 + (4 : Int32) * m).toInt = 8 + 4 * m.toInt := add_z (by decide) e1 (by omega) (by omega)
    have e3 : (u'.1 79 f).toInt = 8 + 4 * m.toInt := by rw [a2]; exact e2
    have e4 : (M9 f : Int) = m.toInt := by rw [hM9]; omega
    refine ⟨a1, by omega, by omega, ?_⟩
    rw [e4]
    unfold Lfn fnB
    exact ((SLT.rr _ _ a5).app SLT.o).app SLT.o
  have FF : ∀ f, f < evs.length → FN2 (u'.1 71) (u'.1 72) (u'.1 78) (u'.1 79) (u'.1 81) (u'.1 82) (u'.1 0 74).toInt (u'.1 0 76).toInt (u'.1 0 75).toInt f (E f) (hh f) (TT9 f) ∧ (u'.1 81 f).toInt = loL (xfn evs f) := fun f hf9 => by
    refine ⟨(bg f (by omega)).1, ?_⟩
    rw [(hf f hf9).2.1.2]
    unfold xfn
    rw [loL_app]
    rfl
  have PL := placeE (lo := fun f => (u'.1 82 f).toNatClampNeg) (ty := ty) (M := M9) (h := hh) D M h381.1 (fun f hf9 => (hty f hf9).2) (fun f hf9 => (FM f hf9).2.2.2) FF
  refine ⟨(pdF evs, poF evs, ty, fun f => (u'.1 82 f).toNatClampNeg, M9, rkF evs (fun f j => (TT9 f j).2.2.1), okF evs E), ?_, ⟨⟨hn.2.2.1, by omega⟩, fun c hc => ?_⟩, ?_, hg, ⟨by rw [hl.1], rfl, hl.2⟩, h381.1⟩
  · intro f i ok
    have P := PL f i ok
    have ok1 : okF evs E f i := ok
    exact ⟨⟨by have := ok1.1; omega, P.1⟩, P.2⟩
  · have hc9 : c < evs.length := by omega
    obtain ⟨⟨b1, b2⟩, ⟨b3, b4⟩, -, -⟩ := hf c hc9
    obtain ⟨m1, m2, m3, m4⟩ := FM c hc9
    obtain ⟨⟨p1, -, -, -, -, p6, p7, p8, p9, p10⟩, g81⟩ := FF c hc9
    have n81 : (u'.1 81 c).toNatClampNeg = loL (xfn evs c) := natC g81
    have n82 := natI (a := u'.1 82 c) (by omega)
    have x0 : ldL (xfn evs c) = ldL (txE 0 (evs.take c)) + 1 := by unfold xfn; rw [ldL_app]; rfl
    have len : 0 < (Lfn evs c).length := by
      obtain ⟨Y, hY⟩ := Lf_last (evs := evs) (f := c)
      rw [hY, List.length_append]
      show 0 < Y.length + 1
      omega
    have e0 : ∃ z, txE 0 evs = txE 0 (evs.take c) ++ evx 0 (nI c) 0 :: z := by
      obtain ⟨z, hz⟩ := txE_f hc9
      refine ⟨Lfn evs c ++ z, ?_⟩
      rw [hz]
      unfold xfn
      rw [List.append_assoc]
      rfl
    obtain ⟨z, hz⟩ := e0
    have d0 := D _ _ _ hz
    have l0 : ldE (evx 0 (nI c) 0) = 1 := rfl
    have n5 : (rF L1 u c 5).toNatClampNeg = ldL (txE 0 (evs.take c)) := natC b3
    have d1 := d0.1
    rw [l0] at d1
    refine ⟨⟨hc9, len, ?_⟩, ⟨b1, b2⟩, ⟨m2, m3⟩, ⟨?_, ?_, ?_, ?_⟩, ⟨?_, ?_, ?_, ?_, ?_⟩, ?_⟩
    · show loL (xfn evs c) + loL ((Lfn evs c).take 0) < E c
      rw [List.take_zero, loL_nil]
      omega
    · show (u'.1 82 c).toInt = ((u'.1 82 c).toNatClampNeg : Int)
      omega
    · show (u'.1 82 c).toNatClampNeg ≤ M9 c
      omega
    · omega
    · show (u'.1 78 c).toInt ≤ ((u'.1 82 c).toNatClampNeg : Int)
      omega
    · show (rF L1 u c 5).toInt + 1 = ((ldL (xfn evs c) + ldL ((Lfn evs c).take 0) : Nat) : Int)
      rw [List.take_zero, ldL_nil, x0, b3]
      omega
    · rw [n5]
      exact (dPl d0 (show ¬ ((0 : Int32) = 25 ∨ (0 : Int32) = 16 ∨ (0 : Int32) = 17 ∨ (0 : Int32) = 18 ∨ (0 : Int32) = 19 ∨ (0 : Int32) = 33 ∨ (0 : Int32) = 21) by decide)).1
    · omega
    · omega
    · show (u'.1 81 c).toInt = ((loL (xfn evs c) + loL ((Lfn evs c).take 0) : Nat) : Int)
      rw [List.take_zero, loL_nil, g81]
      omega
    · have e78 : (u'.1 78 c).toNatClampNeg = (evF evs c).1.length := natC m1
      rw [e78]
      exact (hty c hc9).1
  · intro c d hc hd9 e
    have c1 : c < evs.length := by omega
    have d1 : d < evs.length := by omega
    rw [(hf c c1).2.2.2] at e
    apply Classical.byContradiction
    intro ne
    by_cases g : c < d
    · exact hd c d g d1 e
    · exact hd d c (by omega) c1 e.symm
end YQL
