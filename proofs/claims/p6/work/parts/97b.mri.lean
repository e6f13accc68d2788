/-! what the reference keeps to between two calls -/
def RI (N : Nat) (B : Int) (v : MS) : Prop :=
  (0 ≤ (v.1 0 2).toInt ∧ (v.1 0 2).toInt ≤ 4000) ∧ (0 ≤ (v.1 0 73).toInt ∧ (v.1 0 73).toInt ≤ 24000 ∧ 0 ≤ (v.1 0 74).toInt ∧ (v.1 0 74).toInt ≤ 40 ∧ 0 ≤ (v.1 0 75).toInt ∧ (v.1 0 75).toInt ≤ 60 ∧ 0 ≤ (v.1 0 76).toInt ∧ (v.1 0 76).toInt ≤ 4096 ∧ 0 ≤ (v.1 0 77).toInt ∧ (v.1 0 77).toInt + 64 ≤ 4 * (N : Int)) ∧
  (0 ≤ (v.1 0 94).toInt ∧ (v.1 0 94).toInt ≤ 64) ∧ (0 ≤ (v.1 0 95).toInt ∧ (v.1 0 95).toInt ≤ B) ∧ (0 ≤ (v.1 0 102).toInt ∧ (v.1 0 102).toInt ≤ B) ∧ (0 ≤ (v.1 0 104).toInt ∧ (v.1 0 104).toInt ≤ 60) ∧
  IV v ∧ AR 7 0 4000 v ∧ AR 8 0 4000 v ∧ (AR 78 0 8 v ∧ AR 79 0 2008 v ∧ AR 80 0 96000 v ∧ AR 81 0 15999 v ∧ AR 82 0 500 v ∧ AR 83 0 4000 v ∧ AR 84 0 4000 v ∧ AR 85 0 1000 v ∧ AR 86 0 60000 v ∧ AR 87 0 4000 v ∧ AR 88 0 4000 v) ∧ BG v ∧ BF v
theorem AR.same {a : Nat} {lo hi : Int} {v u : MS} (h : AR a lo hi v) (e : u.1 a = v.1 a) : AR a lo hi u := fun j => by rw [e]; exact h j
theorem IV.same {v u : MS} (h : IV v) (G : ∀ k ∈ [16, 17, 18, 19, 20, 21, 23, 24, 25, 29, 35, 37, 38, 40, 41, 42], u.1 k = v.1 k) : IV u := by
  unfold IV AR FX at *
  rw [G 16 (by decide), G 17 (by decide), G 18 (by decide), G 19 (by decide), G 20 (by decide), G 21 (by decide), G 23 (by decide), G 24 (by decide), G 25 (by decide), G 29 (by decide), G 35 (by decide), G 37 (by decide), G 38 (by decide), G 40 (by decide), G 41 (by decide), G 42 (by decide)]
  exact h
/-- a call that leaves the texts and what was taken over as they are -/
theorem RI.fr {N : Nat} {B B' : Int} {fl al : List Nat} {v u : MS} (h : RI N B v) (hf : FH fl al v u) (h1 : ∀ k ∈ [73, 74, 75, 76, 77], k ∉ fl) (h2 : ∀ k ∈ [7, 8, 16, 17, 18, 19, 20, 21, 23, 24, 25, 29, 35, 37, 38, 40, 41, 42, 71, 72, 78, 79, 80, 81, 82, 83, 84, 85, 86, 87, 88], k ∉ al)
    (r2 : 0 ≤ (u.1 0 2).toInt ∧ (u.1 0 2).toInt ≤ 4000) (r94 : 0 ≤ (u.1 0 94).toInt ∧ (u.1 0 94).toInt ≤ 64) (r95 : 0 ≤ (u.1 0 95).toInt ∧ (u.1 0 95).toInt ≤ B') (r102 : 0 ≤ (u.1 0 102).toInt ∧ (u.1 0 102).toInt ≤ B') (r104 : 0 ≤ (u.1 0 104).toInt ∧ (u.1 0 104).toInt ≤ 60) : RI N B' u := by
  have F : ∀ k, k ∈ [73, 74, 75, 76, 77] → u.1 0 k = v.1 0 k := fun k hk => hf.2.1 k (h1 k hk)
  have G : ∀ k, k ∈ [7, 8, 16, 17, 18, 19, 20, 21, 23, 24, 25, 29, 35, 37, 38, 40, 41, 42, 71, 72, 78, 79, 80, 81, 82, 83, 84, 85, 86, 87, 88] → u.1 k = v.1 k := fun k hk => hf.2.2 k (h2 k hk)
  obtain ⟨_, p2, _, _, _, _, p7, p8, p9, ⟨q78, q79, q80, q81, q82, q83, q84, q85, q86, q87, q88⟩, p11, p12⟩ := h
  refine ⟨r2, ?_, r94, r95, r102, r104, p7.same (fun k hk => G k (by simp at hk ⊢; omega)), p8.same (G 7 (by decide)), p9.same (G 8 (by decide)), ⟨q78.same (G 78 (by decide)), q79.same (G 79 (by decide)), q80.same (G 80 (by decide)), q81.same (G 81 (by decide)), q82.same (G 82 (by decide)), q83.same (G 83 (by decide)), q84.same (G 84 (by decide)), q85.same (G 85 (by decide)), q86.same (G 86 (by decide)), q87.same (G 87 (by decide)), q88.same (G 88 (by decide))⟩, ?_, ?_⟩
  · rw [F 73 (by decide), F 74 (by decide), F 75 (by decide), F 76 (by decide), F 77 (by decide)]; exact p2
  · exact p11.fr (fl := fl) (al := al) hf.2.1 hf.2.2 (fun k hk => h1 k (by simp at hk ⊢; omega)) (fun k hk => h2 k (by simp at hk ⊢; omega))
  · exact p12.fr (fl := fl) (al := al) hf.2.1 hf.2.2 (fun k hk => h1 k (by simp at hk ⊢; omega)) (fun k hk => h2 k (by simp at hk ⊢; omega))
theorem RI.mk {N : Nat} {B : Int} {u : MS} (p2 : 0 ≤ (u.1 0 2).toInt ∧ (u.1 0 2).toInt ≤ 4000) (pb : 0 ≤ (u.1 0 73).toInt ∧ (u.1 0 73).toInt ≤ 24000 ∧ 0 ≤ (u.1 0 74).toInt ∧ (u.1 0 74).toInt ≤ 40 ∧ 0 ≤ (u.1 0 75).toInt ∧ (u.1 0 75).toInt ≤ 60 ∧ 0 ≤ (u.1 0 76).toInt ∧ (u.1 0 76).toInt ≤ 4096 ∧ 0 ≤ (u.1 0 77).toInt ∧ (u.1 0 77).toInt + 64 ≤ 4 * (N : Int))
    (r94 : 0 ≤ (u.1 0 94).toInt ∧ (u.1 0 94).toInt ≤ 64) (r95 : 0 ≤ (u.1 0 95).toInt ∧ (u.1 0 95).toInt ≤ B) (r102 : 0 ≤ (u.1 0 102).toInt ∧ (u.1 0 102).toInt ≤ B) (r104 : 0 ≤ (u.1 0 104).toInt ∧ (u.1 0 104).toInt ≤ 60)
    (a16 : AR 16 0 1500 u) (a17 : AR 17 0 8 u) (a18 : AR 18 0 2008 u) (a19 : AR 19 0 23900 u) (a20 : AR 20 0 15999 u) (a21 : AR 21 0 500 u) (a23 : AR 23 0 1500 u) (a24 : AR 24 0 1000 u) (a25 : AR 25 0 60000 u) (a29 : AR 29 0 1500 u) (a35 : AR 35 0 1500 u) (a37 : AR 37 0 23999 u) (a38 : AR 38 0 15999 u) (a40 : AR 40 0 23999 u) (fx : FX u)
    (a7 : AR 7 0 4000 u) (a8 : AR 8 0 4000 u) (a78 : AR 78 0 8 u) (a79 : AR 79 0 2008 u) (a80 : AR 80 0 96000 u) (a81 : AR 81 0 15999 u) (a82 : AR 82 0 500 u) (a83 : AR 83 0 4000 u) (a84 : AR 84 0 4000 u) (a85 : AR 85 0 1000 u) (a86 : AR 86 0 60000 u) (a87 : AR 87 0 4000 u) (a88 : AR 88 0 4000 u) (bg : BG u) (bf : BF u) : RI N B u :=
  ⟨p2, pb, r94, r95, r102, r104, ⟨a16, a17, a18, a19, a20, a21, a23, a24, a25, a29, a35, a37, a38, a40, fx⟩, a7, a8, ⟨a78, a79, a80, a81, a82, a83, a84, a85, a86, a87, a88⟩, bg, bf⟩
theorem PG2.nil {u : MS} (h : (u.1 0 22).toInt = 0) : PG2 u := fun f hf => by omega
/-- the numbers of a new object -/
def v0M : MS := (fun b k => if b = 0 ∧ k = 92 then -1 else 0, fun _ => 0)
theorem v0_ar {a : Nat} {lo hi : Int} (h : a ≠ 0) (h1 : lo ≤ 0) (h2 : 0 ≤ hi) : AR a lo hi v0M := fun j => by
  have e : v0M.1 a j = 0 := if_neg (fun w => h w.1)
  rw [e]; exact ⟨h1, h2⟩
theorem v0_fx : FX v0M := fun j => Or.inr (by
  have e : v0M.1 41 j = 0 := (show (if (41 : Nat) = 0 ∧ j = 92 then (-1 : Int32) else 0) = 0 from if_neg (fun w => absurd w.1 (by decide)))
  rw [e]; decide)
theorem v0_f {k : Nat} (h : ¬ k = 92) : (v0M.1 0 k).toInt = 0 := by
  have e : v0M.1 0 k = 0 := if_neg (fun w => h w.2)
  rw [e]; decide
