/-! the text that was shown last -/
def HT (f : Nat → Int32) (n : Nat) (t : List Int32) : Prop := n = t.length ∧ ∀ i, i < t.length → f i = t.getD i 0
theorem HT.nil (f : Nat → Int32) : HT f 0 [] := ⟨rfl, fun i h => absurd h (Nat.not_lt_zero i)⟩
theorem HT.of {f g : Nat → Int32} {n : Nat} {t : List Int32} (h : TA f 0 g n t) : HT g n t := ⟨by have := h.1; omega, fun i hi => by
  have e := h.2.2 i hi
  rw [Nat.zero_add] at e
  exact e⟩
def HX (f : Nat → Int32) (z : Int32) (t : List Int32) : Prop := z.toInt = (t.length : Int) ∧ ∀ i, i < t.length → f i = t.getD i 0
theorem HX.nil {f : Nat → Int32} {z : Int32} (h : z.toInt = 0) : HX f z [] := ⟨h, fun i h => absurd h (Nat.not_lt_zero i)⟩
theorem HX.of {f g : Nat → Int32} {k : Nat} {t : List Int32} (h : TA f 0 g k t) (hk : k ≤ 60) : HX g (nI k) t := ⟨by
  rw [nI_Z (by omega)]
  have := h.1
  omega, (HT.of h).2⟩
def NN (l : List Int32) : Prop := ∀ x ∈ l, 0 ≤ x.toInt
theorem NN.nil : NN [] := fun x h => absurd h List.not_mem_nil
theorem NN.one {a : Int32} (h : 0 ≤ a.toInt) : NN [a] := fun x hx => by
  rw [List.mem_singleton.mp hx]
  exact h
theorem NN.app {l m : List Int32} (h : NN l) (k : NN m) : NN (l ++ m) := fun x hx => (List.mem_append.mp hx).elim (h x) (k x)
theorem NN.cons {a : Int32} {l : List Int32} (h : 0 ≤ a.toInt) (k : NN l) : NN (a :: l) := NN.app (NN.one h) k
theorem NN.ite {c : Prop} [Decidable c] {l m : List Int32} (h : NN l) (k : NN m) : NN (if c then l else m) := by
  by_cases q : c
  · rw [if_pos q]; exact h
  · rw [if_neg q]; exact k
theorem NN.at {l : List Int32} (h : NN l) {i : Nat} (hi : i < l.length) : 0 ≤ (l.getD i 0).toInt := by
  rw [List.getD_eq_getElem?_getD, List.getElem?_eq_getElem hi]
  exact h _ (List.getElem_mem hi)
theorem nI_nn {n : Nat} (h : n < 2147483648) : 0 ≤ (nI n).toInt := by rw [nI_Z h]; omega
theorem smT_nn (i : Nat) : ∀ k, NN (smT i k)
  | 0 => NN.nil
  | k + 1 => NN.app (smT_nn i k) (NN.one (nI_nn (by have := chN_lt i k; omega)))
theorem hyT_nn (K : Nat) (X : Nat → Int32) : ∀ k, NN (hyT K X k)
  | 0 => NN.nil
  | k + 1 => NN.app (hyT_nn K X k) (NN.one (nI_nn (by have := chN_lt K ((X k &&& 15).toNatClampNeg); omega)))
theorem dgR_nn (M : Nat) : ∀ t, NN (dgR M t)
  | 0 => NN.nil
  | t + 1 => NN.cons (nI_nn (by have : M / 10 ^ t % 10 < 10 := Nat.mod_lt _ (by decide); omega)) (dgR_nn M t)
theorem decT_nn (x : Int32) : NN (decT x) := by
  unfold decT dgT
  exact NN.ite (NN.cons (by decide) (dgR_nn _ _)) (dgR_nn _ _)
theorem rgM_nn (x : Int32) : NN (rgM x) := NN.app (NN.one (by decide)) (decT_nn x)
theorem coM_nn : NN coM := NN.app (NN.one (by decide)) (NN.one (by decide))
theorem thM_nn (x y : Int32) : NN (thM x y) := NN.app (NN.app (NN.app (rgM_nn x) coM_nn) (rgM_nn y)) coM_nn
theorem atM_nn (x y : Int32) : NN (atM x y) := NN.app (NN.app (NN.app (decT_nn x) (NN.one (by decide))) (rgM_nn y)) (NN.one (by decide))
theorem opMT_nn (w : Int32) : NN (opMT w) := by
  unfold opMT
  repeat' first
    | exact NN.nil
    | exact NN.one (by decide)
    | exact rgM_nn _
    | exact coM_nn
    | exact thM_nn _ _
    | exact atM_nn _ _
    | exact decT_nn _
    | refine NN.app ?_ ?_
    | refine NN.ite ?_ ?_
theorem tM_nn (w : Int32) : NN (tM w) := by
  unfold tM
  cases nmI w with
  | none => exact NN.app (smT_nn _ _) (hyT_nn _ _ _)
  | some i => exact NN.app (smT_nn _ _) (opMT_nn w)
/-- what octet answers -/
def ocA (t : List Int32) (x : Int32) : Int := if 0 ≤ x.toInt ∧ x.toInt < (t.length : Int) then (t.getD x.toNatClampNeg 0).toInt else -1
theorem ch128 : ∀ j, j < 128 → ((nI j &&& 255).toUInt32 % 65536).toInt32 = nI j := by decide +kernel
theorem fit_le {y : Int32} (h : fits .byte (.int y) = true) : y.toInt ≤ 127 := by
  have h1 : (decide ((-128 : Int32) ≤ y) && decide (y ≤ 127)) = true := h
  have h2 : y ≤ 127 := of_decide_eq_true ((Bool.and_eq_true _ _).mp h1).2
  have h3 := Int32.le_iff_toInt_le.mp h2
  have e : (127 : Int32).toInt = 127 := by decide
  omega
theorem oc_eq {f : Nat → Int32} {n : Nat} {t : List Int32} {x r : Int32} (hf : sb_Fit f) (hx : HT f n t) (hn : NN t) (h : (0 ≤ x.toInt ∧ x.toInt < (n : Int) ∧ chR f x.toNatClampNeg r) ∨ ((x.toInt < 0 ∨ (n : Int) ≤ x.toInt) ∧ r = -1)) : r.toInt = ocA t x := by
  unfold ocA
  have hl := hx.1
  rcases h with ⟨h1, h2, h3⟩ | ⟨h1, rfl⟩
  · rw [if_pos ⟨h1, by omega⟩]
    have hz := nat_z h1
    have hk : x.toNatClampNeg < t.length := by omega
    have e := hx.2 _ hk
    have h0 := hn.at hk
    have hb := fit_le (hf x.toNatClampNeg)
    unfold chR at h3
    rw [← e] at h0 ⊢
    generalize f x.toNatClampNeg = y at h0 hb h3 ⊢
    have ey := nI_self h0
    have hj : y.toNatClampNeg < 128 := by have := nat_z h0; omega
    rw [h3]
    conv => lhs; rw [ey]
    rw [ch128 _ hj, ← ey]
  · rw [if_neg (by omega)]
    decide
theorem ox_eq {f : Nat → Int32} {z : Int32} {t : List Int32} {x r : Int32} (hx : HX f z t) (h : (0 ≤ x.toInt ∧ x.toInt < z.toInt ∧ r.toInt = (f x.toNatClampNeg).toInt) ∨ ((x.toInt < 0 ∨ z.toInt ≤ x.toInt) ∧ r.toInt = -1)) : r.toInt = ocA t x := by
  unfold ocA
  have hl := hx.1
  rcases h with ⟨h1, h2, h3⟩ | ⟨h1, h2⟩
  · rw [if_pos ⟨h1, by omega⟩, h3, hx.2 _ (by have := nat_z h1; omega)]
  · rw [if_neg (by omega), h2]
