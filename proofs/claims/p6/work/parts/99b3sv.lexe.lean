/-! texts: the reference's tokens are the class's -/
section LXE
variable {L1 L2 : List Nat} {T : Nat → Int32} {L p q n : Nat} {v u w V u' : MS}
theorem i_nat {i : Int32} (h0 : 0 ≤ i.toInt) (hn : i.toInt < n) : i.toNatClampNeg < n := by
  have := natI h0
  omega
theorem SM_iff (H : LEX T L n v w) {i j : Int32} (i0 : 0 ≤ i.toInt) (i1 : i.toInt < n) (j0 : 0 ≤ j.toInt) (j1 : j.toInt < n) (hi : v.1 301 i.toNatClampNeg = 2) (hj : v.1 301 j.toNatClampNeg = 2) : SM w i j ↔ NEQ T L (plc v i.toNatClampNeg) (plc v j.toNatClampNeg) := by
  obtain ⟨X, Y, A, NV, -⟩ := H
  have Ai := A _ (i_nat i0 i1)
  have Aj := A _ (i_nat j0 j1)
  have Ni := Ai.2.2.2.2.2.1 hi
  have Nj := Aj.2.2.2.2.2.1 hj
  have x4 := X.2.1
  have pi := natI Ni.1
  have pj := natI Nj.1
  have gi := NLE_gt (ltr_nmp Ni.2.2.1)
  have gj := NLE_gt (ltr_nmp Nj.2.2.1)
  have ei : (v.1 302 i.toNatClampNeg).toNatClampNeg = plc v i.toNatClampNeg := rfl
  have ej : (v.1 302 j.toNatClampNeg).toNatClampNeg = plc v j.toNatClampNeg := rfl
  rw [ei] at pi
  rw [ej] at pj
  unfold SM NEQ
  rw [← Ai.2.1, ← Aj.2.1, Ni.2.2.2, Nj.2.2.2]
  have tx : ∀ {a : Int32} {b : Nat} {k : Int32} {x : Nat}, a.toInt = b → k.toInt = x → b + x < L → w.1 3 (a + k).toNatClampNeg = T (b + x) := by
    intro a b k x ha hk hl
    have e := incn ha hk (by omega)
    have : (a + k).toNatClampNeg = b + x := by have := natI (a := a + k) (by omega); omega
    rw [this]
    exact Y.2.2.1 _ hl
  constructor
  · rintro ⟨h1, h2⟩
    refine ⟨by omega, fun x hx => ?_⟩
    have ek : (Int32.ofNat x).toInt = x := Int32.toInt_ofNat_of_lt (by omega)
    have z := h2 (Int32.ofNat x) (by omega) (by omega)
    rw [tx pi.symm ek (by omega), tx pj.symm ek (by omega)] at z
    rw [bt_lt (by omega), bt_lt (by omega), z]
  · rintro ⟨h1, h2⟩
    refine ⟨by omega, fun k k0 k1 => ?_⟩
    have ek := natI k0
    rw [tx pi.symm ek.symm (by omega), tx pj.symm ek.symm (by omega)]
    have z := h2 k.toNatClampNeg (by omega)
    rw [bt_lt (by omega), bt_lt (by omega)] at z
    exact Int32.toInt_inj.mp z
theorem LEX.TR (H : LEX T L n v w) : TR n (kC v) w := by
  obtain ⟨X, Y, A, NV, h304, n1, n3, h2, hl⟩ := H
  have H : LEX T L n v w := ⟨X, Y, A, NV, h304, n1, n3, h2, hl⟩
  have k1 : ∀ i : Int32, i.toInt < n → (kC v).1 i = v.1 301 i.toNatClampNeg := fun i hi => if_pos (by rw [h304]; exact hi)
  have k2 : ∀ i : Int32, i.toInt < n → (kC v).2.1 i = v.1 303 i.toNatClampNeg := fun i hi => if_pos (by rw [h304]; exact hi)
  have k3 : ∀ i : Int32, i.toInt < n → (kC v).2.2 i = v.1 302 i.toNatClampNeg := fun i hi => if_pos (by rw [h304]; exact hi)
  refine ⟨fun i i0 i1 => ?_, fun i j i0 i1 j0 j1 a b => ?_, fun i i0 i5 i1 a => ?_⟩
  · have Ai := A _ (i_nat i0 i1)
    rw [k1 i i1, k2 i i1, k3 i i1]
    exact ⟨Ai.1, Ai.2.1, Ai.2.2.1, Ai.2.2.2.1⟩
  · rw [k1 i i1] at a
    rw [k1 j j1] at b
    rw [SM_iff H i0 i1 j0 j1 a b, k2 i i1, k2 j j1]
    exact NV.2 _ _ (i_nat i0 i1) (i_nat j0 j1) a b
  · rw [k1 i i1] at a
    have ni := natI i0
    by_cases g : n < 1503
    · have z := hl g
      by_cases e : i.toNatClampNeg = n - 1
      · rw [e] at a
        omega
      · omega
    · omega
theorem LEX.VB (H : LEX T L n v w) : VB n w := by
  intro i i0 i1 h4
  exact (H.2.2.1 _ (i_nat i0 i1)).2.2.2.2.1 h4
theorem LEX.cgm (H : LEX T L n v w) (hu : ∀ a ∈ [3, 6, 7, 8, 10], u.1 a = w.1 a) (h2 : u.2 = w.2) (h4 : u.1 0 4 = w.1 0 4) : LEX T L n v u := by
  obtain ⟨X, Y, A, R⟩ := H
  refine ⟨X, Y.of (hu 3 (by decide)) h4, fun j hj => ?_, R⟩
  have Aj := A j hj
  unfold TAj at Aj ⊢
  rw [hu 6 (by decide), hu 7 (by decide), hu 8 (by decide), hu 10 (by decide), h2]
  exact Aj
end LXE
