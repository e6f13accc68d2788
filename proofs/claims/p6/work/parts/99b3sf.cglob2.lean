/-! the class: globals get their places; all is laid -/
def gsm (F : Nat → Int32) : Nat → Int32
  | 0 => 0
  | n + 1 => gsm F n + F n
def wsz (L1 : List Nat) (w : MS) : Int32 := 2 + dsum (p9 L1 w) (w.1 378) (w.1 379) (nD w) + (if dhas isT (w.1 378) (w.1 379) (nD w) = true then 10 else 0) + (if dhas isD (w.1 378) (w.1 379) (nD w) = true then 26 else 0)
def PGq (L1 L2 : List Nat) (w U v u : MS) (n : Nat) : Prop := AB w U u ∧ (∀ g : Nat, g < n → rF L2 u g 1 = 4 * (v.1 0 337 + gsm (fun g => rF L2 w g 0) g)) ∧ (∀ f : Nat, f < 40 → rF L1 u f 1 = rF L1 v f 1)
section CGB
variable {L1 L2 : List Nat} {N : Nat} {W : Nat → Int32} {v u w x z U : MS} {pa pb pc1 pd r k l d y : Int32} {p : Int → Int32}
theorem AB.fc {fl al : List Nat} (h : AB w U v) (k : FC fl al v u) (h0 : ∀ i ∈ [375, 377, 381], i ∉ fl) (h1 : 378 ∉ al ∧ 379 ∉ al) (hr : ∀ a, 5000 ≤ a → ∀ j : Nat, j ≠ 1 → u.1 a j = v.1 a j) : AB w U u :=
  ⟨(k.2.2 378 ⟨by decide, h1.1⟩).trans h.1, (k.2.2 379 ⟨by decide, h1.2⟩).trans h.2.1, fun i hi => (k.2.1 i (h0 i hi)).trans (h.2.2.1 i hi), fun a ha j hj => (hr a ha j hj).trans (h.2.2.2 a ha j hj)⟩
theorem AB.wr {i : Nat} {y : Int32} (h : AB w U v) (hi : i ∉ [375, 377, 381]) : AB w U (wA v 0 i y) :=
  ⟨h.1, h.2.1, fun j hj => (show upd (v.1 0) i y j = v.1 0 j from updN_ (fun q => hi (q ▸ hj))).trans (h.2.2.1 j hj), fun a ha j hj => (congrFun (if_neg (by omega)) j).trans (h.2.2.2 a ha j hj)⟩
theorem gto_rng {F : Nat → GN} : ∀ n : Nat, gto ((List.range n).map F) = gsm (fun g => (F g).2.2.1) n
  | 0 => rfl
  | n + 1 => by
    rw [List.range_succ, List.map_append]
    show gto ((List.range n).map F ++ [F n]) = _
    rw [gto_snoc, gto_rng n]
    rfl
theorem gto_take {F : Nat → GN} {n k : Nat} (h : k ≤ n) : gto (((List.range n).map F).take k) = gsm (fun g => (F g).2.2.1) k := by
  rw [← List.map_take, List.take_range, Nat.min_eq_left h, gto_rng]
set_option maxHeartbeats 800000 in
theorem zGlob (rd : RD L1 L2) (A : AB w U v) (g60 : 0 ≤ (w.1 0 377).toInt ∧ (w.1 0 377).toInt ≤ 60) (h : Q_x_X0_placeGlobals L1 L2 v u) : PGq L1 L2 w U v u (nG w) ∧ u.1 0 384 = 4 * (v.1 0 337 + gsm (fun g => rF L2 w g 0) (nG w)) ∧ (∀ i, i ≠ 384 → u.1 0 i = v.1 0 i) ∧ (∀ a, a < 5000 → a ≠ 0 → u.1 a = v.1 a) := by
  obtain ⟨ad, ka, w9, hr, fc, hka, cx, rfl⟩ := h
  have n7 := natI g60.1
  have inv : (0 ≤ ka.toInt ∧ ka.toInt ≤ (w.1 0 377).toInt) ∧ ad = 4 * (v.1 0 337 + gsm (fun g => rF L2 w g 0) ka.toNatClampNeg) ∧ PGq L1 L2 w U v w9 ka.toNatClampNeg := by
    refine RT.ind (fun (y : Int32 × Int32 × MS) => (0 ≤ y.2.1.toInt ∧ y.2.1.toInt ≤ (w.1 0 377).toInt) ∧ y.1 = 4 * (v.1 0 337 + gsm (fun g => rF L2 w g 0) y.2.1.toNatClampNeg) ∧ PGq L1 L2 w U v y.2.2 y.2.1.toNatClampNeg) hr ⟨⟨show 0 ≤ (0 : Int32).toInt by decide, by show (0 : Int32).toInt ≤ _; have : (0 : Int32).toInt = 0 := (by decide); omega⟩, ?_, A, fun g hg => absurd hg (by show ¬ g < (0 : Int32).toNatClampNeg; have : (0 : Int32).toNatClampNeg = 0 := (by decide); omega), fun _ _ => rfl⟩ ?_
    · show 4 * v.1 0 337 = 4 * (v.1 0 337 + 0)
      rw [Int32.add_zero]
    intro a b _ ha hb
    obtain ⟨g1, g2, gA, gG, gF⟩ := ha
    obtain ⟨fa, -, ca, u5, h5, k5, r9, h9, -, rfl⟩ := hb
    have e77 : a.2.2.1 0 377 = w.1 0 377 := gA.2.2.1 377 (by decide)
    rw [e77] at ca
    have na := natI g1.1
    have ea : (a.2.1 + (1 : Int32)).toInt = a.2.1.toInt + 1 := add_z rfl (by decide) (by omega) (by omega)
    have nb : (a.2.1 + (1 : Int32)).toNatClampNeg = a.2.1.toNatClampNeg + 1 := natS ea g1.1
    have e5 : u5 = wA a.2.2 (5000 + rowA L2 a.2.1.toNatClampNeg) 1 a.1 := by
      rcases cCG h5 (by decide) with ⟨-, -, q⟩ | ⟨q, -⟩
      · exact q
      · omega
    have r0 : ∀ c, ∀ j : Nat, j ≠ 1 → u5.1 c j = a.2.2.1 c j := fun c j hj => by
      rw [e5]
      show (if c = _ then upd (a.2.2.1 _) 1 _ else a.2.2.1 c) j = _
      by_cases q : c = 5000 + rowA L2 a.2.1.toNatClampNeg
      · rw [if_pos q, q]
        exact updN_ hj
      · rw [if_neg q]
    have lo : ∀ c, c < 5000 → u5.1 c = a.2.2.1 c := fun c hc => by
      rw [e5]
      exact if_neg (by omega)
    have e9 : r9 = rF L2 w a.2.1.toNatClampNeg 0 := by
      have q := cGF4 h9 g1.1 (by rw [lo 0 (by decide), e77]; omega) (by rw [lo 0 (by decide), e77]; omega) (by decide)
      rw [q]
      show u5.1 _ 0 = _
      rw [r0 _ 0 (by decide)]
      exact gA.2.2.2 _ (by omega) 0 (by decide)
    refine ⟨⟨by show 0 ≤ (a.2.1 + (1 : Int32)).toInt; omega, by show (a.2.1 + (1 : Int32)).toInt ≤ _; omega⟩, ?_, ⟨?_, ?_, ?_, ?_⟩, ?_, ?_⟩
    · show a.1 + 4 * r9 = 4 * (v.1 0 337 + gsm (fun g => rF L2 w g 0) (a.2.1 + (1 : Int32)).toNatClampNeg)
      rw [nb, g2, e9]
      show _ = 4 * (v.1 0 337 + (gsm (fun g => rF L2 w g 0) a.2.1.toNatClampNeg + rF L2 w a.2.1.toNatClampNeg 0))
      rw [← Int32.mul_add, Int32.add_assoc]
    · exact (lo 378 (by decide)).trans gA.1
    · exact (lo 379 (by decide)).trans gA.2.1
    · intro i hi
      show u5.1 0 i = _
      rw [lo 0 (by decide)]
      exact gA.2.2.1 i hi
    · intro c hc j hj
      exact (r0 c j hj).trans (gA.2.2.2 c hc j hj)
    · intro g hg
      have hg : g < (a.2.1 + (1 : Int32)).toNatClampNeg := hg
      rw [nb] at hg
      show u5.1 _ 1 = _
      rw [e5]
      show (if 5000 + rowA L2 g = 5000 + rowA L2 a.2.1.toNatClampNeg then upd (a.2.2.1 _) 1 a.1 else a.2.2.1 _) 1 = _
      by_cases q : g = a.2.1.toNatClampNeg
      · rw [q, if_pos rfl, updS, g2]
      · have ne := rd.2.2 g a.2.1.toNatClampNeg (by omega) (by omega) q
        rw [if_neg (by omega)]
        exact gG g (by omega)
    · intro f hf
      show u5.1 _ 1 = _
      rw [e5]
      show (if 5000 + rowA L1 f = 5000 + rowA L2 a.2.1.toNatClampNeg then upd (a.2.2.1 _) 1 a.1 else a.2.2.1 _) 1 = _
      have ne := rd.1 f a.2.1.toNatClampNeg hf (by omega)
      rw [if_neg (by omega)]
      exact gF f hf
  have e77 : w9.1 0 377 = w.1 0 377 := inv.2.2.1.2.2.1 377 (by decide)
  rw [e77] at cx
  have kn : ka.toNatClampNeg = nG w := by unfold nG; congr 1; exact Int32.toInt_inj.mp (by omega)
  rw [kn] at inv
  refine ⟨⟨AB.wr inv.2.2.1 (by decide), fun g hg => (congrFun (if_neg (by omega)) 1).trans (inv.2.2.2.1 g hg), fun f hf => (congrFun (if_neg (by omega)) 1).trans (inv.2.2.2.2 f hf)⟩, ?_, ?_, ?_⟩
  · exact (show upd (w9.1 0) 384 ad 384 = ad from updS).trans inv.2.1
  · intro i hi
    exact (show upd (w9.1 0) 384 ad i = w9.1 0 i from updN_ hi).trans (fc.2.1 i (by rw [List.mem_singleton]; exact hi))
  · intro a ha h0
    exact (if_neg h0).trans (fc.2.2 a ⟨ha, by rw [List.mem_singleton]; exact h0⟩)
end CGB
