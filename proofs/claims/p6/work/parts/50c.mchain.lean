/-! chains of words (and orders) that wait: every word of a chain has its chain's label -/
def CH (f : Nat → Int32) (n : Int) (lab : Nat → Nat) : Prop := ∀ j : Nat, lab j ≠ 0 → (j : Int) < n ∧ ((f j).toInt = -1 ∨ (0 ≤ (f j).toInt ∧ (f j).toInt < (j : Int) ∧ lab (f j).toNatClampNeg = lab j))
def SL (lab : Nat → Nat) (x : Int32) (l : Nat) : Prop := x.toInt = -1 ∨ (0 ≤ x.toInt ∧ lab x.toNatClampNeg = l)
def updN (lab : Nat → Nat) (i l : Nat) : Nat → Nat := fun j => if j = i then l else lab j
def labC (lab : Nat → Nat) (d : Int) : Nat → Nat := fun j => if (lab j : Int) ≤ 2 * d + 2 then lab j else 0
def pick (v : MS) (k a d : Nat) : Int32 := if (d : Int) = (v.1 0 52).toInt then v.1 0 k else v.1 a d
def GI (q : Bool) (v : MS) (lab labm : Nat → Nat) : Prop :=
  (CH (v.1 11) (v.1 0 12).toInt lab) ∧
  (CH (v.1 14) (v.1 0 15).toInt labm) ∧
  (SL lab (v.1 0 59) 1) ∧
  (∀ j : Nat, (lab j : Int) ≤ 2 * (v.1 0 52).toInt + 2) ∧
  (∀ j : Nat, (labm j : Int) ≤ 2 * (v.1 0 52).toInt + 2) ∧
  (∀ d : Nat, 1 ≤ d → (d : Int) ≤ (v.1 0 52).toInt → SL lab (pick v 53 61 d) (2 * d + 1)) ∧
  (∀ d : Nat, 1 ≤ d → (d : Int) ≤ (v.1 0 52).toInt → (q = true ∨ (d : Int) < (v.1 0 52).toInt) → SL lab (pick v 57 65 d) (2 * d + 2)) ∧
  (∀ d : Nat, 1 ≤ d → (d : Int) ≤ (v.1 0 52).toInt → SL labm (pick v 54 62 d) (2 * d + 1)) ∧
  (∀ d : Nat, 1 ≤ d → (d : Int) ≤ (v.1 0 52).toInt → (q = true ∨ (d : Int) < (v.1 0 52).toInt) → SL labm (pick v 58 66 d) (2 * d + 2))
theorem GI.c {q : Bool} {v : MS} {lab labm : Nat → Nat} (h : GI q v lab labm) : CH (v.1 11) (v.1 0 12).toInt lab := h.1
theorem GI.m {q : Bool} {v : MS} {lab labm : Nat → Nat} (h : GI q v lab labm) : CH (v.1 14) (v.1 0 15).toInt labm := h.2.1
theorem GI.r {q : Bool} {v : MS} {lab labm : Nat → Nat} (h : GI q v lab labm) : SL lab (v.1 0 59) 1 := h.2.2.1
theorem GI.lb {q : Bool} {v : MS} {lab labm : Nat → Nat} (h : GI q v lab labm) : ∀ j : Nat, (lab j : Int) ≤ 2 * (v.1 0 52).toInt + 2 := h.2.2.2.1
theorem GI.lm {q : Bool} {v : MS} {lab labm : Nat → Nat} (h : GI q v lab labm) : ∀ j : Nat, (labm j : Int) ≤ 2 * (v.1 0 52).toInt + 2 := h.2.2.2.2.1
theorem GI.b {q : Bool} {v : MS} {lab labm : Nat → Nat} (h : GI q v lab labm) : ∀ d : Nat, 1 ≤ d → (d : Int) ≤ (v.1 0 52).toInt → SL lab (pick v 53 61 d) (2 * d + 1) := h.2.2.2.2.2.1
theorem GI.a {q : Bool} {v : MS} {lab labm : Nat → Nat} (h : GI q v lab labm) : ∀ d : Nat, 1 ≤ d → (d : Int) ≤ (v.1 0 52).toInt → (q = true ∨ (d : Int) < (v.1 0 52).toInt) → SL lab (pick v 57 65 d) (2 * d + 2) := h.2.2.2.2.2.2.1
theorem GI.mb {q : Bool} {v : MS} {lab labm : Nat → Nat} (h : GI q v lab labm) : ∀ d : Nat, 1 ≤ d → (d : Int) ≤ (v.1 0 52).toInt → SL labm (pick v 54 62 d) (2 * d + 1) := h.2.2.2.2.2.2.2.1
theorem GI.ma {q : Bool} {v : MS} {lab labm : Nat → Nat} (h : GI q v lab labm) : ∀ d : Nat, 1 ≤ d → (d : Int) ≤ (v.1 0 52).toInt → (q = true ∨ (d : Int) < (v.1 0 52).toInt) → SL labm (pick v 58 66 d) (2 * d + 2) := h.2.2.2.2.2.2.2.2
theorem GI.mk {q : Bool} {v : MS} {lab labm : Nat → Nat} (c : CH (v.1 11) (v.1 0 12).toInt lab) (m : CH (v.1 14) (v.1 0 15).toInt labm) (r : SL lab (v.1 0 59) 1) (lb : ∀ j : Nat, (lab j : Int) ≤ 2 * (v.1 0 52).toInt + 2) (lm : ∀ j : Nat, (labm j : Int) ≤ 2 * (v.1 0 52).toInt + 2) (b : ∀ d : Nat, 1 ≤ d → (d : Int) ≤ (v.1 0 52).toInt → SL lab (pick v 53 61 d) (2 * d + 1)) (a : ∀ d : Nat, 1 ≤ d → (d : Int) ≤ (v.1 0 52).toInt → (q = true ∨ (d : Int) < (v.1 0 52).toInt) → SL lab (pick v 57 65 d) (2 * d + 2)) (mb : ∀ d : Nat, 1 ≤ d → (d : Int) ≤ (v.1 0 52).toInt → SL labm (pick v 54 62 d) (2 * d + 1)) (ma : ∀ d : Nat, 1 ≤ d → (d : Int) ≤ (v.1 0 52).toInt → (q = true ∨ (d : Int) < (v.1 0 52).toInt) → SL labm (pick v 58 66 d) (2 * d + 2)) : GI q v lab labm := ⟨c, m, r, lb, lm, b, a, mb, ma⟩
theorem nat_z {x : Int32} (h : 0 ≤ x.toInt) : (x.toNatClampNeg : Int) = x.toInt := cl_z rfl h
theorem CH.mono {f f' : Nat → Int32} {n n' : Int} {lab : Nat → Nat} (h : CH f n lab) (hn : n ≤ n') (hk : ∀ j : Nat, (j : Int) < n → f' j = f j) : CH f' n' lab := fun j hj => by
  obtain ⟨h1, h2⟩ := h j hj
  exact ⟨by omega, by rw [hk j h1]; exact h2⟩
theorem CH.fill {f : Nat → Int32} {n : Int} {lab : Nat → Nat} {i : Nat} {x : Int32} (h : CH f n lab) (hi : lab i = 0) : CH (upd f i x) n lab := fun j hj => by
  have e : j ≠ i := fun q => hj (q ▸ hi)
  rw [pk_un e]; exact h j hj
theorem CH.zero {f : Nat → Int32} {n : Int} {lab : Nat → Nat} {i : Nat} (h : CH f n lab) (hi : n ≤ (i : Int)) : lab i = 0 := by
  refine Decidable.byContradiction (fun q => ?_)
  have := (h i q).1
  omega
theorem CH.zeroI {f : Nat → Int32} {n a : Int} {lab : Nat → Nat} {x : Int32} (h : CH f n lab) (hx : x.toInt = a) (h0 : 0 ≤ a) (hi : n ≤ a) : lab x.toNatClampNeg = 0 := h.zero (by have := cl_z hx h0; omega)
theorem CH.add {f : Nat → Int32} {n n' : Int} {lab : Nat → Nat} {x y : Int32} {l : Nat} (h : CH f n lab) (hx : x.toInt = n) (h0 : 0 ≤ n) (hn : n' = n + 1) (hl : l ≠ 0) (hy : SL lab y l) : CH (upd f x.toNatClampNeg y) n' (updN lab x.toNatClampNeg l) := fun j hj => by
  have e := cl_z hx h0
  by_cases q : j = x.toNatClampNeg
  · rw [q, pk_us]
    refine ⟨by omega, ?_⟩
    rcases hy with hy | ⟨hy, hz⟩
    · exact Or.inl hy
    · have g := (h y.toNatClampNeg (by rw [hz]; exact hl)).1
      have e2 := nat_z hy
      refine Or.inr ⟨hy, by omega, ?_⟩
      have e3 : y.toNatClampNeg ≠ x.toNatClampNeg := by omega
      simp only [updN, if_neg e3, if_pos, hz]
  · have hj' : lab j ≠ 0 := by simpa only [updN, if_neg q] using hj
    obtain ⟨h1, h2⟩ := h j hj'
    rw [pk_un q]
    refine ⟨by omega, ?_⟩
    rcases h2 with h2 | ⟨h2, h3, h4⟩
    · exact Or.inl h2
    · have e2 := nat_z h2
      have e3 : (f j).toNatClampNeg ≠ x.toNatClampNeg := by omega
      refine Or.inr ⟨h2, h3, ?_⟩
      simp only [updN, if_neg e3, if_neg q, h4]
theorem CH.clr {f f' : Nat → Int32} {n d : Int} {lab : Nat → Nat} (h : CH f n lab) (hk : ∀ j : Nat, (lab j : Int) ≤ 2 * d + 2 → f' j = f j) : CH f' n (labC lab d) := fun j hj => by
  by_cases q : (lab j : Int) ≤ 2 * d + 2
  · have hj' : lab j ≠ 0 := by simpa only [labC, if_pos q] using hj
    obtain ⟨h1, h2⟩ := h j hj'
    rw [hk j q]
    refine ⟨h1, ?_⟩
    rcases h2 with h2 | ⟨h2, h3, h4⟩
    · exact Or.inl h2
    · refine Or.inr ⟨h2, h3, ?_⟩
      have q2 : (lab (f j).toNatClampNeg : Int) ≤ 2 * d + 2 := by rw [h4]; exact q
      simp only [labC, if_pos q2, if_pos q, h4]
  · exact absurd (by simp only [labC, if_neg q]) hj
theorem SL.add {f : Nat → Int32} {n : Int} {lab : Nat → Nat} {x : Int32} {i l l' : Nat} (h : SL lab x l) (hl : l ≠ 0) (hc : CH f n lab) (hi : n ≤ (i : Int)) : SL (updN lab i l') x l := by
  rcases h with h | ⟨h, k⟩
  · exact Or.inl h
  · have g := (hc _ (by rw [k]; exact hl)).1
    have e : x.toNatClampNeg ≠ i := by omega
    exact Or.inr ⟨h, (if_neg e).trans k⟩
theorem SL.clr {lab : Nat → Nat} {x : Int32} {l : Nat} {d : Int} (h : SL lab x l) (hl : (l : Int) ≤ 2 * d + 2) : SL (labC lab d) x l := by
  rcases h with h | ⟨h, k⟩
  · exact Or.inl h
  · have q : (lab x.toNatClampNeg : Int) ≤ 2 * d + 2 := by rw [k]; exact hl
    exact Or.inr ⟨h, (if_pos q).trans k⟩
theorem SL.none {lab : Nat → Nat} {x : Int32} {l : Nat} (h : x.toInt = -1) : SL lab x l := Or.inl h
theorem GI.gen {q : Bool} {v u : MS} {lab labm : Nat → Nat} (h : GI q v lab labm) (e52 : u.1 0 52 = v.1 0 52) (e53 : u.1 0 53 = v.1 0 53) (e54 : u.1 0 54 = v.1 0 54) (e57 : u.1 0 57 = v.1 0 57) (e58 : u.1 0 58 = v.1 0 58) (e59 : u.1 0 59 = v.1 0 59)
    (e61 : u.1 61 = v.1 61) (e62 : u.1 62 = v.1 62) (e65 : u.1 65 = v.1 65) (e66 : u.1 66 = v.1 66) (hc : CH (u.1 11) (u.1 0 12).toInt lab) (hm : CH (u.1 14) (u.1 0 15).toInt labm) : GI q u lab labm :=
  GI.mk
    (c := hc)
    (m := hm)
    (r := by rw [e59]; exact h.r)
    (lb := by rw [e52]; exact h.lb)
    (lm := by rw [e52]; exact h.lm)
    (b := by unfold pick; rw [e52, e53, e61]; exact h.b)
    (a := by unfold pick; rw [e52, e57, e65]; exact h.a)
    (mb := by unfold pick; rw [e52, e54, e62]; exact h.mb)
    (ma := by unfold pick; rw [e52, e58, e66]; exact h.ma)
theorem GI.fr {q : Bool} {fl al : List Nat} {v u : MS} {lab labm : Nat → Nat} (h : GI q v lab labm) (hf : FG fl al v u) (h1 : ∀ k ∈ [52, 53, 54, 57, 58, 59], k ∉ fl) (h2 : ∀ k ∈ [61, 62, 65, 66], k ∉ al)
    (w : (v.1 0 12).toInt ≤ (u.1 0 12).toInt) (kc : ∀ j : Nat, (j : Int) < (v.1 0 12).toInt → (u.1 11) j = (v.1 11) j) (o : (v.1 0 15).toInt ≤ (u.1 0 15).toInt) (kg : ∀ j : Nat, (j : Int) < (v.1 0 15).toInt → (u.1 14) j = (v.1 14) j) : GI q u lab labm :=
  h.gen (hf.2.1 _ (h1 _ (by simp))) (hf.2.1 _ (h1 _ (by simp))) (hf.2.1 _ (h1 _ (by simp))) (hf.2.1 _ (h1 _ (by simp))) (hf.2.1 _ (h1 _ (by simp))) (hf.2.1 _ (h1 _ (by simp))) (hf.2.2 _ (h2 _ (by simp))) (hf.2.2 _ (h2 _ (by simp))) (hf.2.2 _ (h2 _ (by simp))) (hf.2.2 _ (h2 _ (by simp))) (h.c.mono w kc) (h.m.mono o kg)
theorem wA_o {v : MS} {a b i : Nat} {x : Int32} (h : b ≠ a) : (wA v a i x).1 b = v.1 b := if_neg h
theorem wA_f {v : MS} {i k : Nat} {x : Int32} (h : k ≠ i) : (wA v 0 i x).1 0 k = v.1 0 k := pk_un h
theorem GI.o {q : Bool} {v : MS} {lab labm : Nat → Nat} {a i : Nat} {x : Int32} (h : GI q v lab labm) (ha : ∀ k ∈ [0, 11, 14, 61, 62, 65, 66], k ≠ a) : GI q (wA v a i x) lab labm := by
  have e0 : (wA v a i x).1 0 = v.1 0 := wA_o (ha 0 (by simp))
  refine h.gen (by rw [e0]) (by rw [e0]) (by rw [e0]) (by rw [e0]) (by rw [e0]) (by rw [e0]) (wA_o (ha _ (by simp))) (wA_o (ha _ (by simp))) (wA_o (ha _ (by simp))) (wA_o (ha _ (by simp))) ?_ ?_
  · rw [e0, wA_o (ha 11 (by simp))]; exact h.c
  · rw [e0, wA_o (ha 14 (by simp))]; exact h.m
theorem GI.of {q : Bool} {v : MS} {lab labm : Nat → Nat} {i : Nat} {x : Int32} (h : GI q v lab labm) (ha : ∀ k ∈ [12, 15, 52, 53, 54, 57, 58, 59], k ≠ i) : GI q (wA v 0 i x) lab labm := by
  refine h.gen (wA_f (ha _ (by simp))) (wA_f (ha _ (by simp))) (wA_f (ha _ (by simp))) (wA_f (ha _ (by simp))) (wA_f (ha _ (by simp))) (wA_f (ha _ (by simp))) rfl rfl rfl rfl ?_ ?_
  · rw [wA_f (ha 12 (by simp))]; exact h.c
  · rw [wA_f (ha 15 (by simp))]; exact h.m
theorem GI.w12 {q : Bool} {v : MS} {lab labm : Nat → Nat} {x : Int32} (h : GI q v lab labm) (hx : (v.1 0 12).toInt ≤ x.toInt) : GI q (wA v 0 12 x) lab labm :=
  h.gen rfl rfl rfl rfl rfl rfl rfl rfl rfl rfl (h.c.mono hx (fun _ _ => rfl)) h.m
theorem GI.w15 {q : Bool} {v : MS} {lab labm : Nat → Nat} {x : Int32} (h : GI q v lab labm) (hx : (v.1 0 15).toInt ≤ x.toInt) : GI q (wA v 0 15 x) lab labm :=
  h.gen rfl rfl rfl rfl rfl rfl rfl rfl rfl rfl h.c (h.m.mono hx (fun _ _ => rfl))
theorem GI.f11 {q : Bool} {v : MS} {lab labm : Nat → Nat} {i : Nat} {x : Int32} (h : GI q v lab labm) (hi : lab i = 0) : GI q (wA v 11 i x) lab labm :=
  h.gen rfl rfl rfl rfl rfl rfl rfl rfl rfl rfl (h.c.fill hi) h.m
theorem GI.f14 {q : Bool} {v : MS} {lab labm : Nat → Nat} {i : Nat} {x : Int32} (h : GI q v lab labm) (hi : labm i = 0) : GI q (wA v 14 i x) lab labm :=
  h.gen rfl rfl rfl rfl rfl rfl rfl rfl rfl rfl h.c (h.m.fill hi)
theorem GI.z11 {q : Bool} {v : MS} {lab labm : Nat → Nat} {x : Int32} {a : Int} (h : GI q v lab labm) (hx : x.toInt = a) (h0 : 0 ≤ a) (h1 : (v.1 0 12).toInt ≤ a) : lab x.toNatClampNeg = 0 := h.c.zeroI hx h0 h1
theorem GI.z14 {q : Bool} {v : MS} {lab labm : Nat → Nat} {x : Int32} {a : Int} (h : GI q v lab labm) (hx : x.toInt = a) (h0 : 0 ≤ a) (h1 : (v.1 0 15).toInt ≤ a) : labm x.toNatClampNeg = 0 := h.m.zeroI hx h0 h1
theorem lab_k {lab lab' : Nat → Nat} {n a : Int} {x : Int32} (h : ∀ j : Nat, (j : Int) < n → lab' j = lab j) (hx : x.toInt = a) (h0 : 0 ≤ a) (h1 : a < n) (hz : lab x.toNatClampNeg = 0) : lab' x.toNatClampNeg = 0 := (h _ (by have := cl_z hx h0; omega)).trans hz
/-- a chain gets a word: returns -/
theorem GI.ret {q : Bool} {v : MS} {lab labm : Nat → Nat} {y : Int32} (h : GI q v lab labm) (h0 : 0 ≤ (v.1 0 12).toInt) (hy : y.toInt = (v.1 0 12).toInt + 1) (hl : 0 ≤ (v.1 0 52).toInt) : GI q (wA (wA (wA v 11 (v.1 0 12).toNatClampNeg (v.1 0 59)) 0 12 y) 0 59 (v.1 0 12)) (updN lab (v.1 0 12).toNatClampNeg 1) labm := by
  have e := nat_z h0
  have hS : ∀ {x : Int32} {l : Nat}, l ≠ 0 → SL lab x l → SL (updN lab (v.1 0 12).toNatClampNeg 1) x l := fun hl q => q.add hl h.c (by omega)
  exact GI.mk
      (c := h.c.add rfl h0 hy (by decide) h.r)
      (m := h.m)
      (r := Or.inr ⟨h0, if_pos rfl⟩)
      (lb := fun j => by
            show ((updN lab (v.1 0 12).toNatClampNeg 1 j : Nat) : Int) ≤ 2 * (v.1 0 52).toInt + 2
            unfold updN; split
            · omega
            · exact h.lb j)
      (lm := h.lm)
      (b := fun d h1 h2 => hS (by omega) (h.b d h1 h2))
      (a := fun d h1 h2 h3 => hS (by omega) (h.a d h1 h2 h3))
      (mb := h.mb)
      (ma := h.ma)
theorem pick_0 {v u : MS} {k a d : Nat} (e : u.1 0 52 = v.1 0 52) (h : (d : Int) ≠ (v.1 0 52).toInt) (ha : u.1 a = v.1 a) : pick u k a d = pick v k a d := by
  unfold pick; rw [e, if_neg h, if_neg h, ha]
theorem pick_1 {u : MS} {k a d : Nat} (h : (d : Int) = (u.1 0 52).toInt) : pick u k a d = u.1 0 k := if_pos h
theorem GI.brk {q : Bool} {v : MS} {lab labm : Nat → Nat} {y : Int32} (h : GI q v lab labm) (h0 : 0 ≤ (v.1 0 12).toInt) (hy : y.toInt = (v.1 0 12).toInt + 1) (hl : 1 ≤ (v.1 0 52).toInt) : GI q (wA (wA (wA v 11 (v.1 0 12).toNatClampNeg (v.1 0 53)) 0 12 y) 0 53 (v.1 0 12)) (updN lab (v.1 0 12).toNatClampNeg (2 * (v.1 0 52).toNatClampNeg + 1)) labm := by
  have e := nat_z h0
  have e2 := nat_z (x := v.1 0 52) (by omega)
  have hS : ∀ {x : Int32} {l : Nat}, l ≠ 0 → SL lab x l → SL (updN lab (v.1 0 12).toNatClampNeg (2 * (v.1 0 52).toNatClampNeg + 1)) x l := fun hl q => q.add hl h.c (by omega)
  have hb := h.b (v.1 0 52).toNatClampNeg (by omega) (by omega)
  rw [pick_1 e2] at hb
  exact GI.mk
      (c := h.c.add rfl h0 hy (by omega) hb)
      (m := h.m)
      (r := hS (by decide) h.r)
      (lb := fun j => by
            show ((updN lab (v.1 0 12).toNatClampNeg (2 * (v.1 0 52).toNatClampNeg + 1) j : Nat) : Int) ≤ 2 * (v.1 0 52).toInt + 2
            unfold updN; split
            · omega
            · exact h.lb j)
      (lm := h.lm)
      (b := fun d h1 h2 => by
            have g := h.b d h1 h2
            unfold pick at g
            show SL (updN lab (v.1 0 12).toNatClampNeg (2 * (v.1 0 52).toNatClampNeg + 1)) (if (d : Int) = (v.1 0 52).toInt then v.1 0 12 else v.1 61 d) (2 * d + 1)
            by_cases qq : (d : Int) = (v.1 0 52).toInt
            · have qd : d = (v.1 0 52).toNatClampNeg := by omega
              rw [if_pos qq, qd]
              exact Or.inr ⟨h0, if_pos rfl⟩
            · rw [if_neg qq] at g ⊢; exact hS (by omega) g)
      (a := fun d h1 h2 h3 => hS (by omega) (h.a d h1 h2 h3))
      (mb := h.mb)
      (ma := h.ma)
theorem GI.agn {v : MS} {lab labm : Nat → Nat} {y : Int32} (h : GI true v lab labm) (h0 : 0 ≤ (v.1 0 12).toInt) (hy : y.toInt = (v.1 0 12).toInt + 1) (hl : 1 ≤ (v.1 0 52).toInt) : GI true (wA (wA (wA v 11 (v.1 0 12).toNatClampNeg (v.1 0 57)) 0 12 y) 0 57 (v.1 0 12)) (updN lab (v.1 0 12).toNatClampNeg (2 * (v.1 0 52).toNatClampNeg + 2)) labm := by
  have e := nat_z h0
  have e2 := nat_z (x := v.1 0 52) (by omega)
  have hS : ∀ {x : Int32} {l : Nat}, l ≠ 0 → SL lab x l → SL (updN lab (v.1 0 12).toNatClampNeg (2 * (v.1 0 52).toNatClampNeg + 2)) x l := fun hl q => q.add hl h.c (by omega)
  have hb := h.a (v.1 0 52).toNatClampNeg (by omega) (by omega) (Or.inl rfl)
  rw [pick_1 e2] at hb
  exact GI.mk
      (c := h.c.add rfl h0 hy (by omega) hb)
      (m := h.m)
      (r := hS (by decide) h.r)
      (lb := fun j => by
            show ((updN lab (v.1 0 12).toNatClampNeg (2 * (v.1 0 52).toNatClampNeg + 2) j : Nat) : Int) ≤ 2 * (v.1 0 52).toInt + 2
            unfold updN; split
            · omega
            · exact h.lb j)
      (lm := h.lm)
      (a := fun d h1 h2 h3 => by
            have g := h.a d h1 h2 h3
            unfold pick at g
            show SL (updN lab (v.1 0 12).toNatClampNeg (2 * (v.1 0 52).toNatClampNeg + 2)) (if (d : Int) = (v.1 0 52).toInt then v.1 0 12 else v.1 65 d) (2 * d + 2)
            by_cases qq : (d : Int) = (v.1 0 52).toInt
            · have qd : d = (v.1 0 52).toNatClampNeg := by omega
              rw [if_pos qq, qd]
              exact Or.inr ⟨h0, if_pos rfl⟩
            · rw [if_neg qq] at g ⊢; exact hS (by omega) g)
      (b := fun d h1 h2 => hS (by omega) (h.b d h1 h2))
      (mb := h.mb)
      (ma := h.ma)
theorem GI.mbrk {q : Bool} {v : MS} {lab labm : Nat → Nat} {o y : Int32} (h : GI q v lab labm) (h0 : 0 ≤ (v.1 0 15).toInt) (hy : y.toInt = (v.1 0 15).toInt + 1) (hl : 1 ≤ (v.1 0 52).toInt) : GI q (wA (wA (wA (wA v 13 (v.1 0 15).toNatClampNeg o) 14 (v.1 0 15).toNatClampNeg (v.1 0 54)) 0 15 y) 0 54 (v.1 0 15)) lab (updN labm (v.1 0 15).toNatClampNeg (2 * (v.1 0 52).toNatClampNeg + 1)) := by
  have e := nat_z h0
  have e2 := nat_z (x := v.1 0 52) (by omega)
  have hS : ∀ {x : Int32} {l : Nat}, l ≠ 0 → SL labm x l → SL (updN labm (v.1 0 15).toNatClampNeg (2 * (v.1 0 52).toNatClampNeg + 1)) x l := fun hl q => q.add hl h.m (by omega)
  have hb := h.mb (v.1 0 52).toNatClampNeg (by omega) (by omega)
  rw [pick_1 e2] at hb
  exact GI.mk
      (c := h.c)
      (m := h.m.add rfl h0 hy (by omega) hb)
      (r := h.r)
      (lb := h.lb)
      (lm := fun j => by
            show ((updN labm (v.1 0 15).toNatClampNeg (2 * (v.1 0 52).toNatClampNeg + 1) j : Nat) : Int) ≤ 2 * (v.1 0 52).toInt + 2
            unfold updN; split
            · omega
            · exact h.lm j)
      (mb := fun d h1 h2 => by
            have g := h.mb d h1 h2
            unfold pick at g
            show SL (updN labm (v.1 0 15).toNatClampNeg (2 * (v.1 0 52).toNatClampNeg + 1)) (if (d : Int) = (v.1 0 52).toInt then v.1 0 15 else v.1 62 d) (2 * d + 1)
            by_cases qq : (d : Int) = (v.1 0 52).toInt
            · have qd : d = (v.1 0 52).toNatClampNeg := by omega
              rw [if_pos qq, qd]
              exact Or.inr ⟨h0, if_pos rfl⟩
            · rw [if_neg qq] at g ⊢; exact hS (by omega) g)
      (ma := fun d h1 h2 h3 => hS (by omega) (h.ma d h1 h2 h3))
      (b := h.b)
      (a := h.a)
theorem GI.magn {v : MS} {lab labm : Nat → Nat} {o y : Int32} (h : GI true v lab labm) (h0 : 0 ≤ (v.1 0 15).toInt) (hy : y.toInt = (v.1 0 15).toInt + 1) (hl : 1 ≤ (v.1 0 52).toInt) : GI true (wA (wA (wA (wA v 13 (v.1 0 15).toNatClampNeg o) 14 (v.1 0 15).toNatClampNeg (v.1 0 58)) 0 15 y) 0 58 (v.1 0 15)) lab (updN labm (v.1 0 15).toNatClampNeg (2 * (v.1 0 52).toNatClampNeg + 2)) := by
  have e := nat_z h0
  have e2 := nat_z (x := v.1 0 52) (by omega)
  have hS : ∀ {x : Int32} {l : Nat}, l ≠ 0 → SL labm x l → SL (updN labm (v.1 0 15).toNatClampNeg (2 * (v.1 0 52).toNatClampNeg + 2)) x l := fun hl q => q.add hl h.m (by omega)
  have hb := h.ma (v.1 0 52).toNatClampNeg (by omega) (by omega) (Or.inl rfl)
  rw [pick_1 e2] at hb
  exact GI.mk
      (c := h.c)
      (m := h.m.add rfl h0 hy (by omega) hb)
      (r := h.r)
      (lb := h.lb)
      (lm := fun j => by
            show ((updN labm (v.1 0 15).toNatClampNeg (2 * (v.1 0 52).toNatClampNeg + 2) j : Nat) : Int) ≤ 2 * (v.1 0 52).toInt + 2
            unfold updN; split
            · omega
            · exact h.lm j)
      (ma := fun d h1 h2 h3 => by
            have g := h.ma d h1 h2 h3
            unfold pick at g
            show SL (updN labm (v.1 0 15).toNatClampNeg (2 * (v.1 0 52).toNatClampNeg + 2)) (if (d : Int) = (v.1 0 52).toInt then v.1 0 15 else v.1 66 d) (2 * d + 2)
            by_cases qq : (d : Int) = (v.1 0 52).toInt
            · have qd : d = (v.1 0 52).toNatClampNeg := by omega
              rw [if_pos qq, qd]
              exact Or.inr ⟨h0, if_pos rfl⟩
            · rw [if_neg qq] at g ⊢; exact hS (by omega) g)
      (mb := fun d h1 h2 => hS (by omega) (h.mb d h1 h2))
      (b := h.b)
      (a := h.a)
theorem updN_k {lab : Nat → Nat} {n : Int} {x : Int32} {l : Nat} (hx : n ≤ x.toInt) (h0 : 0 ≤ x.toInt) : ∀ j : Nat, (j : Int) < n → updN lab x.toNatClampNeg l j = lab j := fun j hj => if_neg (by have := nat_z h0; omega)
/-- a loop opens -/
theorem pick_w {v u : MS} {k a d : Nat} {i : Nat} (hi : (i : Int) = (v.1 0 52).toInt) (e : (u.1 0 52).toInt = (v.1 0 52).toInt + 1) (ha : u.1 a = upd (v.1 a) i (v.1 0 k)) (h2 : (d : Int) ≤ (v.1 0 52).toInt) : pick u k a d = pick v k a d := by
  unfold pick
  rw [e, if_neg (by omega), ha]
  by_cases qq : (d : Int) = (v.1 0 52).toInt
  · have qd : d = i := by omega
    rw [if_pos qq, qd, pk_us]
  · rw [if_neg qq, pk_un (by omega)]
theorem GI.push {v : MS} {lab labm : Nat → Nat} {l x5 x6 : Int32} (h : GI true v lab labm) (hl : l.toInt = (v.1 0 52).toInt + 1) (h0 : 0 ≤ (v.1 0 52).toInt) :
    GI true (wA (wA (wA (wA (wA (wA (wA (wA (wA (wA (wA (wA (wA v 61 (v.1 0 52).toNatClampNeg (v.1 0 53)) 62 (v.1 0 52).toNatClampNeg (v.1 0 54)) 63 (v.1 0 52).toNatClampNeg (v.1 0 55)) 64 (v.1 0 52).toNatClampNeg (v.1 0 56)) 65 (v.1 0 52).toNatClampNeg (v.1 0 57)) 66 (v.1 0 52).toNatClampNeg (v.1 0 58)) 0 52 l) 0 53 (-1)) 0 54 (-1)) 0 55 x5) 0 56 x6) 0 57 (-1)) 0 58 (-1)) lab labm := by
  have e := nat_z h0
  generalize hu : wA (wA (wA (wA (wA (wA (wA (wA (wA (wA (wA (wA (wA v 61 (v.1 0 52).toNatClampNeg (v.1 0 53)) 62 (v.1 0 52).toNatClampNeg (v.1 0 54)) 63 (v.1 0 52).toNatClampNeg (v.1 0 55)) 64 (v.1 0 52).toNatClampNeg (v.1 0 56)) 65 (v.1 0 52).toNatClampNeg (v.1 0 57)) 66 (v.1 0 52).toNatClampNeg (v.1 0 58)) 0 52 l) 0 53 (-1)) 0 54 (-1)) 0 55 x5) 0 56 x6) 0 57 (-1)) 0 58 (-1) = u
  have u52 : u.1 0 52 = l := by rw [← hu]; rfl
  have u53 : u.1 0 53 = -1 := by rw [← hu]; rfl
  have u54 : u.1 0 54 = -1 := by rw [← hu]; rfl
  have u57 : u.1 0 57 = -1 := by rw [← hu]; rfl
  have u58 : u.1 0 58 = -1 := by rw [← hu]; rfl
  have u59 : u.1 0 59 = v.1 0 59 := by rw [← hu]; rfl
  have u12 : u.1 0 12 = v.1 0 12 := by rw [← hu]; rfl
  have u15 : u.1 0 15 = v.1 0 15 := by rw [← hu]; rfl
  have u11 : u.1 11 = v.1 11 := by rw [← hu]; rfl
  have u14 : u.1 14 = v.1 14 := by rw [← hu]; rfl
  have u61 : u.1 61 = upd (v.1 61) (v.1 0 52).toNatClampNeg (v.1 0 53) := by rw [← hu]; rfl
  have u62 : u.1 62 = upd (v.1 62) (v.1 0 52).toNatClampNeg (v.1 0 54) := by rw [← hu]; rfl
  have u65 : u.1 65 = upd (v.1 65) (v.1 0 52).toNatClampNeg (v.1 0 57) := by rw [← hu]; rfl
  have u66 : u.1 66 = upd (v.1 66) (v.1 0 52).toNatClampNeg (v.1 0 58) := by rw [← hu]; rfl
  have el : (u.1 0 52).toInt = (v.1 0 52).toInt + 1 := by rw [u52, hl]
  exact GI.mk
      (c := by rw [u11, u12]; exact h.c)
      (m := by rw [u14, u15]; exact h.m)
      (r := by rw [u59]; exact h.r)
      (lb := fun j => by have := h.lb j; omega)
      (lm := fun j => by have := h.lm j; omega)
      (b := fun d h1 h2 => by
            by_cases qq : (d : Int) = (u.1 0 52).toInt
            · rw [pick_1 qq, u53]; exact Or.inl (by decide)
            · rw [pick_w e el u61 (by omega)]; exact h.b d h1 (by omega))
      (a := fun d h1 h2 _ => by
            by_cases qq : (d : Int) = (u.1 0 52).toInt
            · rw [pick_1 qq, u57]; exact Or.inl (by decide)
            · rw [pick_w e el u65 (by omega)]; exact h.a d h1 (by omega) (Or.inl rfl))
      (mb := fun d h1 h2 => by
            by_cases qq : (d : Int) = (u.1 0 52).toInt
            · rw [pick_1 qq, u54]; exact Or.inl (by decide)
            · rw [pick_w e el u62 (by omega)]; exact h.mb d h1 (by omega))
      (ma := fun d h1 h2 _ => by
            by_cases qq : (d : Int) = (u.1 0 52).toInt
            · rw [pick_1 qq, u58]; exact Or.inl (by decide)
            · rw [pick_w e el u66 (by omega)]; exact h.ma d h1 (by omega) (Or.inl rfl))
/-- what a stretch of reading leaves of the labels below -/
def GQ (u : MS) (lo lom : Int) (lab labm : Nat → Nat) : Prop := ∃ lab' labm' : Nat → Nat, GI true u lab' labm' ∧ (∀ j : Nat, (j : Int) < lo → lab' j = lab j) ∧ (∀ j : Nat, (j : Int) < lom → labm' j = labm j)
def labD (lab : Nat → Nat) (l : Nat) : Nat → Nat := fun j => if lab j = l then 0 else lab j
theorem CH.clrL {f f' : Nat → Int32} {n : Int} {l : Nat} {lab : Nat → Nat} (h : CH f n lab) (hk : ∀ j : Nat, lab j ≠ l → f' j = f j) : CH f' n (labD lab l) := fun j hj => by
  by_cases q : lab j = l
  · exact absurd (by simp only [labD, if_pos q]) hj
  · have hj' : lab j ≠ 0 := by simpa only [labD, if_neg q] using hj
    obtain ⟨h1, h2⟩ := h j hj'
    rw [hk j q]
    refine ⟨h1, ?_⟩
    rcases h2 with h2 | ⟨h2, h3, h4⟩
    · exact Or.inl h2
    · have q2 : lab (f j).toNatClampNeg ≠ l := by rw [h4]; exact q
      exact Or.inr ⟨h2, h3, by simp only [labD, if_neg q2, if_neg q, h4]⟩
theorem SL.clrL {lab : Nat → Nat} {x : Int32} {l l' : Nat} (h : SL lab x l) (hl : l ≠ l') : SL (labD lab l') x l := by
  rcases h with h | ⟨h, k⟩
  · exact Or.inl h
  · have q : lab x.toNatClampNeg ≠ l' := by rw [k]; exact hl
    exact Or.inr ⟨h, (if_neg q).trans k⟩
theorem clrL_le {lab : Nat → Nat} {l : Nat} (j : Nat) : labD lab l j ≤ lab j := by unfold labD; split <;> omega
theorem lab_le {a b : Nat} {x y : Int} (e : a = b) (h : (b : Int) ≤ x) (hxy : x ≤ y) : (a : Int) ≤ y := by omega
/-- the words that go on again have landed -/
theorem GI.landA {v u : MS} {lab labm : Nat → Nat} {d : Nat} (h : GI true v lab labm) (hf : FG [] [11] v u) (hd : (d : Int) = (v.1 0 52).toInt) (kc : ∀ j : Nat, lab j ≠ 2 * d + 2 → u.1 11 j = v.1 11 j) : GI false u (labD lab (2 * d + 2)) labm := by
  have e : ∀ k, u.1 0 k = v.1 0 k := fun k => hf.2.1 k (by simp)
  have e61 := hf.2.2 61 (by decide)
  have e62 := hf.2.2 62 (by decide)
  have e65 := hf.2.2 65 (by decide)
  have e66 := hf.2.2 66 (by decide)
  have e14 := hf.2.2 14 (by decide)
  exact GI.mk
      (c := by rw [e 12]; exact h.c.clrL kc)
      (m := by rw [e14, e 15]; exact h.m)
      (r := by rw [e 59]; exact h.r.clrL (by omega))
      (lb := fun j => by have := h.lb j; have := clrL_le (lab := lab) (l := 2 * d + 2) j; rw [e 52]; omega)
      (lm := by rw [e 52]; exact h.lm)
      (b := fun d1 h1 h2 => by rw [e 52] at h2; unfold pick; rw [e 52, e 53, e61]; exact (h.b d1 h1 h2).clrL (by omega))
      (a := fun d1 h1 h2 h3 => by
            rw [e 52] at h2 h3
            have q : d1 ≠ d := by rcases h3 with h3 | h3; exact absurd h3 (by decide); omega
            unfold pick; rw [e 52, e 57, e65]; exact (h.a d1 h1 h2 (Or.inl rfl)).clrL (by omega))
      (mb := by unfold pick; rw [e 52, e 54, e62]; exact h.mb)
      (ma := fun d1 h1 h2 h3 => by rw [e 52] at h2; unfold pick; rw [e 52, e 58, e66]; exact h.ma d1 h1 h2 (Or.inl rfl))
theorem GI.arrA {v u : MS} {lab labm : Nat → Nat} {d : Nat} (h : GI false v lab labm) (hf : FG [] [14] v u) (hd : (d : Int) = (v.1 0 52).toInt) (kc : ∀ j : Nat, labm j ≠ 2 * d + 2 → u.1 14 j = v.1 14 j) : GI false u lab (labD labm (2 * d + 2)) := by
  have e : ∀ k, u.1 0 k = v.1 0 k := fun k => hf.2.1 k (by simp)
  have e61 := hf.2.2 61 (by decide)
  have e62 := hf.2.2 62 (by decide)
  have e65 := hf.2.2 65 (by decide)
  have e66 := hf.2.2 66 (by decide)
  have e11 := hf.2.2 11 (by decide)
  exact GI.mk
      (c := by rw [e11, e 12]; exact h.c)
      (m := by rw [e 15]; exact h.m.clrL kc)
      (r := by rw [e 59]; exact h.r)
      (lb := by rw [e 52]; exact h.lb)
      (lm := fun j => by have := h.lm j; have := clrL_le (lab := labm) (l := 2 * d + 2) j; rw [e 52]; omega)
      (b := by unfold pick; rw [e 52, e 53, e61]; exact h.b)
      (a := by unfold pick; rw [e 52, e 57, e65]; exact h.a)
      (mb := fun d1 h1 h2 => by rw [e 52] at h2; unfold pick; rw [e 52, e 54, e62]; exact (h.mb d1 h1 h2).clrL (by omega))
      (ma := fun d1 h1 h2 h3 => by
            rw [e 52] at h2 h3
            have q : d1 ≠ d := by rcases h3 with h3 | h3; exact absurd h3 (by decide); omega
            unfold pick; rw [e 52, e 58, e66]; exact (h.ma d1 h1 h2 (Or.inr (by omega))).clrL (by omega))
theorem GI.weak {v : MS} {lab labm : Nat → Nat} (h : GI true v lab labm) : GI false v lab labm := GI.mk
      (c := h.c)
      (m := h.m)
      (r := h.r)
      (lb := h.lb)
      (lm := h.lm)
      (b := h.b)
      (a := fun d h1 h2 _ => h.a d h1 h2 (Or.inl rfl))
      (mb := h.mb)
      (ma := fun d h1 h2 _ => h.ma d h1 h2 (Or.inl rfl))
/-- a loop is closed -/
theorem pick_p {v u : MS} {k a d i : Nat} (hi : (i : Int) = (v.1 0 52).toInt - 1) (e : (u.1 0 52).toInt = (v.1 0 52).toInt - 1) (ek : u.1 0 k = v.1 a i) (ha : u.1 a = v.1 a) (h2 : (d : Int) ≤ (v.1 0 52).toInt - 1) : pick u k a d = pick v k a d := by
  unfold pick
  rw [e, if_neg (show ¬ (d : Int) = (v.1 0 52).toInt by omega), ha]
  by_cases q : (d : Int) = (v.1 0 52).toInt - 1
  · have qd : d = i := by omega
    rw [if_pos q, qd, ek]
  · rw [if_neg q]
theorem GI.pop {v u : MS} {lab labm : Nat → Nat} {i : Nat} (h : GI false v lab labm) (hi : (i : Int) = (v.1 0 52).toInt - 1) (e : (u.1 0 52).toInt = (v.1 0 52).toInt - 1) (w : u.1 0 12 = v.1 0 12) (o : u.1 0 15 = v.1 0 15) (r : u.1 0 59 = v.1 0 59)
    (e61 : u.1 61 = v.1 61) (e62 : u.1 62 = v.1 62) (e65 : u.1 65 = v.1 65) (e66 : u.1 66 = v.1 66) (e53 : u.1 0 53 = v.1 61 i) (e54 : u.1 0 54 = v.1 62 i) (e57 : u.1 0 57 = v.1 65 i) (e58 : u.1 0 58 = v.1 66 i)
    (kc : ∀ j : Nat, lab j ≠ 2 * (v.1 0 52).toNatClampNeg + 1 → u.1 11 j = v.1 11 j) (kg : ∀ j : Nat, labm j ≠ 2 * (v.1 0 52).toNatClampNeg + 1 → u.1 14 j = v.1 14 j) : GI true u (labC lab (u.1 0 52).toInt) (labC labm (u.1 0 52).toInt) := by
  have e2 := nat_z (x := v.1 0 52) (by omega)
  exact GI.mk
      (c := by rw [w]; exact h.c.clr (fun j hj => kc j (by omega)))
      (m := by rw [o]; exact h.m.clr (fun j hj => kg j (by omega)))
      (r := by rw [r]; exact h.r.clr (by omega))
      (lb := fun j => by unfold labC; split <;> omega)
      (lm := fun j => by unfold labC; split <;> omega)
      (b := fun d h1 h2 => by rw [pick_p hi e e53 e61 (by omega)]; exact (h.b d h1 (by omega)).clr (by omega))
      (a := fun d h1 h2 _ => by rw [pick_p hi e e57 e65 (by omega)]; exact (h.a d h1 (by omega) (Or.inr (by omega))).clr (by omega))
      (mb := fun d h1 h2 => by rw [pick_p hi e e54 e62 (by omega)]; exact (h.mb d h1 (by omega)).clr (by omega))
      (ma := fun d h1 h2 _ => by rw [pick_p hi e e58 e66 (by omega)]; exact (h.ma d h1 (by omega) (Or.inr (by omega))).clr (by omega))
theorem clr_k {lab : Nat → Nat} {lo d : Int} (h : ∀ j : Nat, (j : Int) < lo → (lab j : Int) ≤ 2 * d + 2) : ∀ j : Nat, (j : Int) < lo → labC lab d j = lab j := fun j hj => if_pos (h j hj)
theorem clrL_k {lab : Nat → Nat} {lo : Int} {l : Nat} (h : ∀ j : Nat, (j : Int) < lo → (lab j : Int) < l) : ∀ j : Nat, (j : Int) < lo → labD lab l j = lab j := fun j hj => if_neg (by have := h j hj; omega)
theorem GI.new {v : MS} (h1 : (v.1 0 59).toInt = -1) (h2 : (v.1 0 52).toInt = 0) : GI true v (fun _ => 0) (fun _ => 0) := GI.mk
      (c := fun j hj => absurd rfl hj)
      (m := fun j hj => absurd rfl hj)
      (r := Or.inl h1)
      (lb := fun j => by rw [h2]; decide)
      (lm := fun j => by rw [h2]; decide)
      (b := fun d h3 h4 => by omega)
      (a := fun d h3 h4 _ => by omega)
      (mb := fun d h3 h4 => by omega)
      (ma := fun d h3 h4 _ => by omega)
theorem SL.lt {f : Nat → Int32} {n : Int} {lab : Nat → Nat} {x : Int32} {l : Nat} (h : SL lab x l) (hl : l ≠ 0) (hc : CH f n lab) (h0 : 0 ≤ n) : -1 ≤ x.toInt ∧ x.toInt < n := by
  rcases h with h | ⟨h, k⟩
  · omega
  · have g := (hc _ (by rw [k]; exact hl)).1
    have := nat_z h
    omega
theorem CH.next {f : Nat → Int32} {n : Int} {lab : Nat → Nat} {x : Int32} {l : Nat} (hc : CH f n lab) (h : SL lab x l) (hl : l ≠ 0) (h0 : 0 ≤ x.toInt) : SL lab (f x.toNatClampNeg) l ∧ -1 ≤ (f x.toNatClampNeg).toInt ∧ (f x.toNatClampNeg).toInt < x.toInt := by
  rcases h with h | ⟨h, k⟩
  · omega
  · obtain ⟨g1, g2⟩ := hc _ (by rw [k]; exact hl)
    have := nat_z h
    rcases g2 with g2 | ⟨g2, g3, g4⟩
    · exact ⟨Or.inl g2, by omega, by omega⟩
    · exact ⟨Or.inr ⟨g2, by rw [g4, k]⟩, by omega, by omega⟩
theorem SL.at {lab : Nat → Nat} {x : Int32} {l : Nat} (h : SL lab x l) (h0 : 0 ≤ x.toInt) : lab x.toNatClampNeg = l := by
  rcases h with h | ⟨_, k⟩
  · omega
  · exact k
theorem un_lab {f : Nat → Int32} {y : Int32} {lab : Nat → Nat} {i j l : Nat} (hi : lab i = l) (hj : lab j ≠ l) : upd f i y j = f j := pk_un (fun q => hj (q ▸ hi))
