theorem nI_self {x : Int32} (h : 0 ≤ x.toInt) : x = nI x.toNatClampNeg := Int32.toInt_inj.mp (by
  have e := nat_z h
  have h2 := Int32.toInt_lt x
  rw [nI_Z (by omega)]; omega)
theorem chN_f {i k : Nat} {r : Int32} (h : r = nI (chN i k)) : 0 ≤ r.toInt ∧ r.toInt ≤ 255 := by
  have := chN_lt i k
  rw [h, nI_Z (by omega)]; omega
theorem ch_all23 : ∀ k : Fin 55, 32 ≤ chN 23 k.val := by decide +kernel
theorem ch_all24 : ∀ k : Fin 102, 32 ≤ chN 24 k.val := by decide +kernel
theorem ch_l23 {x r : Int32} (hk : x.toNatClampNeg < 55) (h : r = nI (chN 23 x.toNatClampNeg)) : (32 ≤ r.toInt ∧ r.toInt ≤ 255) ∧ (r.toInt = 32 ∨ x.toInt ≠ 54) := by
  refine ⟨⟨by have : 32 ≤ chN 23 x.toNatClampNeg := ch_all23 ⟨_, hk⟩; have := chN_lt 23 x.toNatClampNeg; rw [h, nI_Z (by omega)]; omega, (chN_f h).2⟩, ?_⟩
  by_cases q : x.toInt = 54
  · have e : x = 54 := Int32.toInt_inj.mp (by rw [q]; decide)
    left; rw [h, e]; decide
  · exact Or.inr q
theorem ch_l24 {x r : Int32} (hk : x.toNatClampNeg < 102) (h : r = nI (chN 24 x.toNatClampNeg)) : (32 ≤ r.toInt ∧ r.toInt ≤ 255) ∧ (r.toInt = 32 ∨ x.toInt ≠ 101) := by
  refine ⟨⟨by have : 32 ≤ chN 24 x.toNatClampNeg := ch_all24 ⟨_, hk⟩; have := chN_lt 24 x.toNatClampNeg; rw [h, nI_Z (by omega)]; omega, (chN_f h).2⟩, ?_⟩
  by_cases q : x.toInt = 101
  · have e : x = 101 := Int32.toInt_inj.mp (by rw [q]; decide)
    left; rw [h, e]; decide
  · exact Or.inr q
/-! what a stretch leaves as it was, the longs aside -/
def FH (fl al : List Nat) (v u : MS) : Prop := True ∧ (∀ k, k ∉ fl → u.1 0 k = v.1 0 k) ∧ ∀ a, a ∉ al → u.1 a = v.1 a
theorem FG.h {fl al : List Nat} {v u : MS} (h : FG fl al v u) : FH fl al v u := ⟨trivial, h.2⟩
theorem FH.rf {fl al : List Nat} (v : MS) : FH fl al v v := ⟨trivial, fun _ _ => rfl, fun _ _ => rfl⟩
theorem FH.tr {fl al : List Nat} {v u w : MS} (h : FH fl al v u) (k : FH fl al u w) : FH fl al v w := ⟨trivial, fun j hj => (k.2.1 j hj).trans (h.2.1 j hj), fun a ha => (k.2.2 a ha).trans (h.2.2 a ha)⟩
theorem FH.up {fl al fl' al' : List Nat} {v u : MS} (h : FH fl al v u) (h1 : ∀ k ∈ fl, k ∈ fl') (h2 : ∀ k ∈ al, k ∈ al') : FH fl' al' v u := ⟨trivial, fun k hk => h.2.1 k (fun q => hk (h1 k q)), fun k hk => h.2.2 k (fun q => hk (h2 k q))⟩
theorem FH.f {fl al : List Nat} {v u : MS} (h : FH fl al v u) {k : Nat} (x : Int32) (hk : k ∈ fl ∧ 0 ∈ al) : FH fl al v (wA u 0 k x) := by
  have g : FG fl al u (wA u 0 k x) := FG.f (FG.rf u) x hk
  exact h.tr g.h
theorem FH.a {fl al : List Nat} {v u : MS} (h : FH fl al v u) {b : Nat} (i : Nat) (x : Int32) (hb : b ∈ al) (h0 : b ≠ 0) : FH fl al v (wA u b i x) := by
  have g : FG fl al u (wA u b i x) := FG.a (FG.rf u) i x hb h0
  exact h.tr g.h
theorem FH.l {fl al : List Nat} {v u : MS} (h : FH fl al v u) (i : Nat) (x : Int64) : FH fl al v (wL u i x) := ⟨trivial, h.2.1, h.2.2⟩
theorem AR.l {a : Nat} {lo hi : Int} {v : MS} {i : Nat} {x : Int64} (h : AR a lo hi v) : AR a lo hi (wL v i x) := fun j => h j
/-- where a sign of the row begins -/
def st24 (x : Int32) : Prop := x.toNatClampNeg = 0 ∨ chN 24 (x.toNatClampNeg - 1) = 32
theorem st_all : ∀ k : Fin 102, (k.val = 0 ∨ chN 24 (k.val - 1) = 32) → chN 24 k.val ≠ 32 := by decide +kernel
theorem st_ne {x y r : Int32} (hk : x.toNatClampNeg < 102) (h : r = nI (chN 24 x.toNatClampNeg)) (hs : st24 y) : r.toInt ≠ 32 ∨ x.toInt ≠ y.toInt := by
  by_cases q : x.toInt = y.toInt
  · have e : x = y := Int32.toInt_inj.mp q
    have g : chN 24 x.toNatClampNeg ≠ 32 := st_all ⟨_, hk⟩ (show st24 x from e ▸ hs)
    have := chN_lt 24 x.toNatClampNeg
    left; rw [h, nI_Z (by omega)]
    intro w; exact g (by have : ((chN 24 x.toNatClampNeg : Nat) : Int) = 32 := w; show chN 24 x.toNatClampNeg = 32; omega)
  · exact Or.inr q
theorem st_next {x y r : Int32} (h : r = nI (chN 24 x.toNatClampNeg)) (z : r.toInt = (32 : Int)) (h0 : 0 ≤ x.toInt) (hy : y.toInt = x.toInt + 1) : st24 y := by
  right
  have := chN_lt 24 x.toNatClampNeg
  rw [h, nI_Z (by omega)] at z
  rw [nxt_z h0 hy, Nat.add_sub_cancel]; omega
