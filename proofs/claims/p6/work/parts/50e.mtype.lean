/-! the orders of an E have types: a list of Bool for what lies on the pile above the locals (true: a place) -/
def FT (nl ng gl : Int) (k : Nat) (o : Int) (a : Int32) (A B : List Bool) : Prop :=
  ((o = 0 ∨ o = 17) ∧ B = false :: A) ∨
  (o = 1 ∧ 0 ≤ a.toInt ∧ a.toInt < nl ∧ B = false :: A) ∨
  (o = 2 ∧ 0 ≤ a.toInt ∧ a.toInt < nl ∧ ∃ R, A = false :: R ∧ B = false :: R) ∨
  (o = 3 ∧ 0 ≤ a.toInt ∧ a.toInt < ng ∧ B = false :: A) ∨
  (o = 4 ∧ 0 ≤ a.toInt ∧ a.toInt < ng ∧ ∃ R, A = false :: R ∧ B = false :: R) ∨
  (o = 5 ∧ 0 ≤ a.toInt ∧ a.toInt < gl ∧ ∃ R, A = false :: R ∧ B = true :: R) ∨
  (o = 6 ∧ ∃ R, A = true :: R ∧ B = false :: R) ∨
  (o = 7 ∧ ∃ R, A = true :: R ∧ B = false :: true :: R) ∨
  (o = 8 ∧ ∃ R, A = false :: true :: R ∧ B = false :: R) ∨
  ((o = 9 ∨ o = 10 ∨ o = 11 ∨ o = 16 ∨ o = 22 ∨ o = 23) ∧ A = false :: B) ∨
  (o = 12) ∨
  (o = 13 ∧ B = A) ∨
  (o = 14 ∧ ∃ R, A = List.replicate k false ++ R ∧ B = false :: R) ∨
  (o = 15 ∧ ∃ R, A = false :: R) ∨
  ((o = 18 ∨ o = 19 ∨ o = 20 ∨ o = 24) ∧ ∃ R, A = false :: R ∧ B = false :: R) ∨
  (o = 21 ∧ ∃ R, A = false :: false :: R ∧ B = false :: R)
def JT (o : Int) (A T : List Bool) : Prop := ((o = 10 ∨ o = 11) ∧ A = false :: T) ∨ ((o = 12 ∨ o = 22 ∨ o = 23) ∧ T = A)
theorem JT.u {o : Int} {A T T' : List Bool} (h : JT o A T) (h' : JT o A T') : T = T' := by
  rcases h with ⟨h1, h2⟩ | ⟨h1, h2⟩ <;> rcases h' with ⟨h3, h4⟩ | ⟨h3, h4⟩
  · rw [h2] at h4; exact (List.cons.inj h4).2
  · omega
  · omega
  · rw [h2, h4]
theorem JT.app {o : Int} {A T R : List Bool} (h : JT o (A ++ R) T) (hA : ∀ nl ng gl k a B, o = 10 ∨ o = 11 → FT nl ng gl k o a A B → A = false :: B) {nl ng gl : Int} {k : Nat} {a : Int32} {B : List Bool} (hf : FT nl ng gl k o a A B) : ∃ T', JT o A T' ∧ T = T' ++ R := by
  rcases h with ⟨h1, h2⟩ | ⟨h1, h2⟩
  · have e := hA nl ng gl k a B h1 hf
    refine ⟨B, Or.inl ⟨h1, e⟩, ?_⟩
    rw [e] at h2
    exact (List.cons.inj h2).2.symm
  · exact ⟨A, Or.inr ⟨h1, rfl⟩, h2⟩
theorem FT.if0 (nl ng gl : Int) (k : Nat) {o : Int} (a : Int32) {A : List Bool} (B : List Bool) (ho : o = 10 ∨ o = 11) (h : FT nl ng gl k o a A B) : A = false :: B := by
  rcases h with h | h | h | h | h | h | h | h | h | h | h | h | h | h | h | h
  all_goals first
    | exact h.2
    | (exfalso; have := h.1; omega)
    | (exfalso; omega)
theorem FT.app {nl ng gl : Int} {k : Nat} {o : Int} {a : Int32} {A B : List Bool} (R : List Bool) (h : FT nl ng gl k o a A B) : FT nl ng gl k o a (A ++ R) (B ++ R) := by
  rcases h with h | h | h | h | h | h | h | h | h | h | h | h | h | h | h | h
  · exact Or.inl ⟨h.1, by rw [h.2]; rfl⟩
  · exact Or.inr (Or.inl ⟨h.1, h.2.1, h.2.2.1, by rw [h.2.2.2]; rfl⟩)
  · obtain ⟨h1, h2, h3, R', h4, h5⟩ := h
    exact Or.inr (Or.inr (Or.inl ⟨h1, h2, h3, R' ++ R, by rw [h4]; rfl, by rw [h5]; rfl⟩))
  · exact Or.inr (Or.inr (Or.inr (Or.inl ⟨h.1, h.2.1, h.2.2.1, by rw [h.2.2.2]; rfl⟩)))
  · obtain ⟨h1, h2, h3, R', h4, h5⟩ := h
    exact Or.inr (Or.inr (Or.inr (Or.inr (Or.inl ⟨h1, h2, h3, R' ++ R, by rw [h4]; rfl, by rw [h5]; rfl⟩))))
  · obtain ⟨h1, h2, h3, R', h4, h5⟩ := h
    exact Or.inr (Or.inr (Or.inr (Or.inr (Or.inr (Or.inl ⟨h1, h2, h3, R' ++ R, by rw [h4]; rfl, by rw [h5]; rfl⟩)))))
  · obtain ⟨h1, R', h4, h5⟩ := h
    exact Or.inr (Or.inr (Or.inr (Or.inr (Or.inr (Or.inr (Or.inl ⟨h1, R' ++ R, by rw [h4]; rfl, by rw [h5]; rfl⟩))))))
  · obtain ⟨h1, R', h4, h5⟩ := h
    exact Or.inr (Or.inr (Or.inr (Or.inr (Or.inr (Or.inr (Or.inr (Or.inl ⟨h1, R' ++ R, by rw [h4]; rfl, by rw [h5]; rfl⟩)))))))
  · obtain ⟨h1, R', h4, h5⟩ := h
    exact Or.inr (Or.inr (Or.inr (Or.inr (Or.inr (Or.inr (Or.inr (Or.inr (Or.inl ⟨h1, R' ++ R, by rw [h4]; rfl, by rw [h5]; rfl⟩))))))))
  · exact Or.inr (Or.inr (Or.inr (Or.inr (Or.inr (Or.inr (Or.inr (Or.inr (Or.inr (Or.inl ⟨h.1, by rw [h.2]; rfl⟩)))))))))
  · exact Or.inr (Or.inr (Or.inr (Or.inr (Or.inr (Or.inr (Or.inr (Or.inr (Or.inr (Or.inr (Or.inl h))))))))))
  · exact Or.inr (Or.inr (Or.inr (Or.inr (Or.inr (Or.inr (Or.inr (Or.inr (Or.inr (Or.inr (Or.inr (Or.inl ⟨h.1, by rw [h.2]⟩)))))))))))
  · obtain ⟨h1, R', h4, h5⟩ := h
    exact Or.inr (Or.inr (Or.inr (Or.inr (Or.inr (Or.inr (Or.inr (Or.inr (Or.inr (Or.inr (Or.inr (Or.inr (Or.inl ⟨h1, R' ++ R, by rw [h4, List.append_assoc], by rw [h5]; rfl⟩))))))))))))
  · obtain ⟨h1, R', h4⟩ := h
    exact Or.inr (Or.inr (Or.inr (Or.inr (Or.inr (Or.inr (Or.inr (Or.inr (Or.inr (Or.inr (Or.inr (Or.inr (Or.inr (Or.inl ⟨h1, R' ++ R, by rw [h4]; rfl⟩)))))))))))))
  · obtain ⟨h1, R', h4, h5⟩ := h
    exact Or.inr (Or.inr (Or.inr (Or.inr (Or.inr (Or.inr (Or.inr (Or.inr (Or.inr (Or.inr (Or.inr (Or.inr (Or.inr (Or.inr (Or.inl ⟨h1, R' ++ R, by rw [h4]; rfl, by rw [h5]; rfl⟩))))))))))))))
  · obtain ⟨h1, R', h4, h5⟩ := h
    exact Or.inr (Or.inr (Or.inr (Or.inr (Or.inr (Or.inr (Or.inr (Or.inr (Or.inr (Or.inr (Or.inr (Or.inr (Or.inr (Or.inr (Or.inr ⟨h1, R' ++ R, by rw [h4]; rfl, by rw [h5]; rfl⟩))))))))))))))
/-- what holds of one order of a stretch -/
def OKo (nl ng gl : Int) (f g : Nat → Int32) (hi : Nat) (Hs : List (Nat × List Bool)) (S : Nat → List Bool) (K : Nat → Nat) (j : Nat) : Prop :=
  FT nl ng gl (K j) (f j).toInt (g j) (S j) (S (j + 1)) ∧ ∀ T, JT (f j).toInt (S j) T → ((j, T) ∈ Hs ∨ ((j : Int) < (g j).toInt ∧ (g j).toInt ≤ (hi : Int) ∧ S (g j).toNatClampNeg = T))
def SGE (nl ng gl : Int) (f g cm co : Nat → Int32) (lo hi c0 c1 : Nat) (A B : List Bool) (M : Int) (Hs : List (Nat × List Bool)) : Prop :=
  lo ≤ hi ∧ c0 ≤ c1 ∧ ∃ (S : Nat → List Bool) (K : Nat → Nat), S lo = A ∧ S hi = B ∧ (∀ j, lo ≤ j → j ≤ hi → ((S j).length : Int) ≤ M) ∧
    (∀ j, lo ≤ j → j < hi → OKo nl ng gl f g hi Hs S K j) ∧ (∀ x ∈ Hs, lo ≤ x.1 ∧ x.1 < hi ∧ JT (f x.1).toInt (S x.1) x.2) ∧
    (∀ j, lo ≤ j → j < hi → (f j).toInt = 14 → ∃ c, c0 ≤ c ∧ c < c1 ∧ (co c).toInt = (j : Int)) ∧
    (∀ c, c0 ≤ c → c < c1 → (lo : Int) ≤ (co c).toInt ∧ (co c).toInt < (hi : Int) ∧ K (co c).toNatClampNeg = (cm c).toNatClampNeg ∧ (f (co c).toNatClampNeg).toInt = 14)
theorem nxt_z {x y : Int32} (hx : 0 ≤ x.toInt) (hy : y.toInt = x.toInt + 1) : y.toNatClampNeg = x.toNatClampNeg + 1 := by have := nat_z hx; have := nat_z (x := y) (by omega); omega
section SGES
variable {nl ng gl : Int} {f g cm co f' g' cm' co' : Nat → Int32} {lo hi c0 c1 : Nat} {A B C : List Bool} {M M' : Int} {Hs Hs' : List (Nat × List Bool)}
theorem SGE.nil (e : A = B) (h : (B.length : Int) ≤ M) : SGE nl ng gl f g cm co lo lo c0 c0 A B M [] :=
  e ▸ ⟨Nat.le_refl _, Nat.le_refl _, fun _ => A, fun _ => 0, rfl, rfl, fun _ _ _ => e ▸ h, fun j h1 h2 => by omega, fun x hx => by simp at hx, fun j h1 h2 => by omega, fun c h1 h2 => by omega⟩
/-- other arrays that agree on the stretch -/
theorem SGE.to {hi' c1' : Nat} (h : SGE nl ng gl f g cm co lo hi c0 c1 A B M Hs) (hf : ∀ j, j < hi → f' j = f j) (hg : ∀ j, j < hi → g' j = g j) (hm : ∀ c, c0 ≤ c → c < c1 → cm' c = cm c) (ho : ∀ c, c0 ≤ c → c < c1 → co' c = co c) (eh : hi' = hi) (ec : c1' = c1) (hM : M ≤ M') : SGE nl ng gl f' g' cm' co' lo hi' c0 c1' A B M' Hs := by
  subst eh ec
  obtain ⟨h1, h2, S, K, a1, a2, a3, a4, a5, a6, a7⟩ := h
  refine ⟨h1, h2, S, K, a1, a2, fun j k1 k2 => by have := a3 j k1 k2; omega, fun j k1 k2 => ?_, fun x hx => ?_, fun j k1 k2 k3 => ?_, fun c k1 k2 => ?_⟩
  · unfold OKo; rw [hf j k2, hg j k2]; exact a4 j k1 k2
  · obtain ⟨b1, b2, b3⟩ := a5 x hx
    exact ⟨b1, b2, by rw [hf _ b2]; exact b3⟩
  · rw [hf j k2] at k3
    obtain ⟨c, b1, b2, b3⟩ := a6 j k1 k2 k3
    exact ⟨c, b1, b2, by rw [ho c b1 b2]; exact b3⟩
  · rw [ho c k1 k2, hm c k1 k2]
    obtain ⟨d1, d2, d3, d4⟩ := a7 c k1 k2
    have ez := nat_z (x := co c) (by omega)
    exact ⟨d1, d2, d3, by rw [hf _ (by omega)]; exact d4⟩
/-- an order more: what it does to the stretch -/
theorem SGE.more {o a : Int32} {T : List Bool} (h : SGE nl ng gl f g cm co lo hi c0 c1 A B M Hs) (hM : M ≤ M') (hC : (C.length : Int) ≤ M') (hf : FT nl ng gl 0 o.toInt a B C) (h14 : o.toInt ≠ 14)
    (hT : (Hs' = Hs ∧ ∀ T, ¬ JT o.toInt B T) ∨ (Hs' = (hi, T) :: Hs ∧ JT o.toInt B T)) : SGE nl ng gl (upd f hi o) (upd g hi a) cm co lo (hi + 1) c0 c1 A C M' Hs' := by
  obtain ⟨h1, h2, S, K, a1, a2, a3, a4, a5, a6, a7⟩ := h
  have sub : ∀ x ∈ Hs, x ∈ Hs' := fun x hx => by rcases hT with ⟨e, _⟩ | ⟨e, _⟩ <;> rw [e]; exact hx; exact List.mem_cons_of_mem _ hx
  refine ⟨by omega, h2, fun j => if j ≤ hi then S j else C, fun j => if j = hi then 0 else K j, by simp [h1, a1], if_neg (by omega), fun j k1 k2 => ?_, fun j k1 k2 => ?_, fun x hx => ?_, fun j k1 k2 k3 => ?_, fun c k1 k2 => ?_⟩
  · by_cases q : j ≤ hi
    · simp only [if_pos q]; have := a3 j k1 q; omega
    · simp only [if_neg q]; exact hC
  · by_cases q : j = hi
    · subst q
      unfold OKo
      simp only [Nat.le_refl, if_true, if_pos, show ¬ j + 1 ≤ j by omega, if_false, pk_us, a2]
      refine ⟨hf, fun T' hT' => ?_⟩
      rcases hT with ⟨_, e⟩ | ⟨e, e2⟩
      · exact absurd hT' (e T')
      · rw [e, JT.u hT' e2]; exact Or.inl (List.mem_cons_self ..)
    · have q1 : j < hi := by omega
      obtain ⟨b1, b2⟩ := a4 j k1 q1
      unfold OKo
      rw [pk_un q, pk_un q]
      simp only [if_neg q, if_pos (Nat.le_of_lt q1), if_pos (Nat.succ_le_of_lt q1)]
      refine ⟨b1, fun T' hT' => ?_⟩
      rcases b2 T' hT' with c1 | ⟨c1, c2, c3⟩
      · exact Or.inl (sub _ c1)
      · have e := nat_z (x := g j) (by omega)
        refine Or.inr ⟨c1, by omega, ?_⟩
        rw [if_pos (by omega)]; exact c3
  · have main : ∀ x ∈ Hs, lo ≤ x.1 ∧ x.1 < hi + 1 ∧ JT (upd f hi o x.1).toInt (if x.1 ≤ hi then S x.1 else C) x.2 := fun x hx => by
      obtain ⟨b1, b2, b3⟩ := a5 x hx
      exact ⟨b1, by omega, by rw [pk_un (by omega), if_pos (by omega)]; exact b3⟩
    rcases hT with ⟨e, _⟩ | ⟨e, e2⟩
    · rw [e] at hx; exact main x hx
    · rw [e] at hx
      rcases List.mem_cons.mp hx with hx | hx
      · subst hx; exact ⟨h1, Nat.lt_succ_self _, (show JT (upd f hi o hi).toInt (if hi ≤ hi then S hi else C) T by rw [pk_us, if_pos (Nat.le_refl _), a2]; exact e2)⟩
      · exact main x hx
  · by_cases q : j = hi
    · subst q; rw [pk_us] at k3; exact absurd k3 h14
    · rw [pk_un q] at k3; exact a6 j k1 (by omega) k3
  · obtain ⟨b1, b2, b3, b4⟩ := a7 c k1 k2
    have e := nat_z (x := co c) (by omega)
    exact ⟨b1, by omega, by simp only [if_neg (show (co c).toNatClampNeg ≠ hi by omega)]; exact b3, by rw [pk_un (by omega)]; exact b4⟩
theorem SGE.say {o a : Int32} (h : SGE nl ng gl f g cm co lo hi c0 c1 A B M Hs) (hM : M ≤ M') (hC : (C.length : Int) ≤ M') (hf : FT nl ng gl 0 o.toInt a B C) (h14 : o.toInt ≠ 14) (hj : o.toInt ≠ 10 ∧ o.toInt ≠ 11 ∧ o.toInt ≠ 12 ∧ o.toInt ≠ 22 ∧ o.toInt ≠ 23) : SGE nl ng gl (upd f hi o) (upd g hi a) cm co lo (hi + 1) c0 c1 A C M' Hs :=
  h.more (T := []) hM hC hf h14 (Or.inl ⟨rfl, fun T q => by rcases q with q | q <;> omega⟩)
theorem SGE.hole {o a : Int32} (T : List Bool) (h : SGE nl ng gl f g cm co lo hi c0 c1 A B M Hs) (hM : M ≤ M') (hC : (C.length : Int) ≤ M') (hf : FT nl ng gl 0 o.toInt a B C) (h14 : o.toInt ≠ 14) (hj : JT o.toInt B T) : SGE nl ng gl (upd f hi o) (upd g hi a) cm co lo (hi + 1) c0 c1 A C M' ((hi, T) :: Hs) :=
  h.more hM hC hf h14 (Or.inr ⟨rfl, hj⟩)
/-- a jump is led to where we are -/
theorem SGE.fill {z : Int32} (m : Nat) (h : SGE nl ng gl f g cm co lo hi c0 c1 A B M Hs) (hz : z.toInt = (hi : Int)) (hm : (m, B) ∈ Hs) (hs : ∀ x ∈ Hs, x = (m, B) ∨ x ∈ Hs') (hs' : ∀ x ∈ Hs', x ∈ Hs ∧ x.1 ≠ m) : SGE nl ng gl f (upd g m z) cm co lo hi c0 c1 A B M Hs' := by
  obtain ⟨h1, h2, S, K, a1, a2, a3, a4, a5, a6, a7⟩ := h
  obtain ⟨m1, m2, m3⟩ := a5 _ hm
  refine ⟨h1, h2, S, K, a1, a2, a3, fun j k1 k2 => ?_, fun x hx => a5 x (hs' x hx).1, a6, a7⟩
  obtain ⟨b1, b2⟩ := a4 j k1 k2
  by_cases q : j = m
  · subst q
    have m3 : JT (f j).toInt (S j) B := m3
    have ft : FT nl ng gl (K j) (f j).toInt z (S j) (S (j + 1)) := by
      have hjt : (f j).toInt = 10 ∨ (f j).toInt = 11 ∨ (f j).toInt = 12 ∨ (f j).toInt = 22 ∨ (f j).toInt = 23 := by rcases m3 with ⟨m3, _⟩ | ⟨m3, _⟩ <;> omega
      rcases b1 with h | h | h | h | h | h | h | h | h | h | h | h | h | h | h | h
      all_goals first
        | exact Or.inr (Or.inr (Or.inr (Or.inr (Or.inr (Or.inr (Or.inr (Or.inr (Or.inr (Or.inl h)))))))))
        | exact Or.inr (Or.inr (Or.inr (Or.inr (Or.inr (Or.inr (Or.inr (Or.inr (Or.inr (Or.inr (Or.inl h))))))))))
        | (exfalso; have := h.1; omega)
    refine ⟨by rw [pk_us]; exact ft, fun T hT => ?_⟩
    have e := JT.u hT m3
    have ez := nat_z (x := z) (by omega)
    rw [pk_us]
    exact Or.inr ⟨by omega, by omega, by rw [show z.toNatClampNeg = hi by omega, a2, e]⟩
  · refine ⟨by rw [pk_un q]; exact b1, fun T hT => ?_⟩
    rw [pk_un q]
    rcases b2 T hT with c1 | c1
    · rcases hs _ c1 with c2 | c2
      · exact absurd (congrArg Prod.fst c2) q
      · exact Or.inl c2
    · exact Or.inr c1
/-- a stretch behind a stretch -/
theorem SGE.cat {mid cm0 : Nat} {M2 : Int} {A' B' : List Bool} (R : List Bool) (h : SGE nl ng gl f g cm co lo mid c0 cm0 A B M Hs) (h' : SGE nl ng gl f g cm co mid hi cm0 c1 A' B' M2 []) (hB : B = A' ++ R) (hC : C = B' ++ R) (hM : M ≤ M') (hM2 : M2 + (R.length : Int) ≤ M') : SGE nl ng gl f g cm co lo hi c0 c1 A C M' Hs := by
  obtain ⟨h1, h2, S, K, a1, a2, a3, a4, a5, a6, a7⟩ := h
  obtain ⟨g1, g2, S', K', b1, b2, b3, b4, b5, b6, b7⟩ := h'
  have Sm : ∀ j, j ≤ mid → (if j < mid then S j else S' j ++ R) = S j := fun j hj => by
    by_cases q : j < mid
    · rw [if_pos q]
    · rw [if_neg q, show j = mid by omega, b1, a2, hB]
  refine ⟨by omega, by omega, fun j => if j < mid then S j else S' j ++ R, fun j => if j < mid then K j else K' j, (Sm lo h1).trans a1, (if_neg (by omega)).trans (by rw [b2, hC]), fun j k1 k2 => ?_, fun j k1 k2 => ?_, fun x hx => ?_, fun j k1 k2 k3 => ?_, fun c k1 k2 => ?_⟩
  · by_cases q : j < mid
    · simp only [if_pos q]; have := a3 j k1 (by omega); omega
    · simp only [if_neg q, List.length_append]; have := b3 j (by omega) k2; omega
  · by_cases q : j < mid
    · obtain ⟨d1, d2⟩ := a4 j k1 q
      unfold OKo
      simp only [if_pos q]
      rw [Sm (j + 1) (by omega)]
      refine ⟨d1, fun T hT => ?_⟩
      rcases d2 T hT with e1 | ⟨e1, e2, e3⟩
      · exact Or.inl e1
      · have ez := nat_z (x := g j) (by omega)
        exact Or.inr ⟨e1, by omega, by rw [Sm _ (by omega)]; exact e3⟩
    · obtain ⟨d1, d2⟩ := b4 j (by omega) k2
      unfold OKo
      simp only [if_neg q, if_neg (show ¬ j + 1 < mid by omega)]
      refine ⟨d1.app R, fun T hT => ?_⟩
      obtain ⟨T', t1, t2⟩ := JT.app hT (fun _ _ _ _ _ _ ho hf => FT.if0 _ _ _ _ _ _ ho hf) d1
      rcases d2 T' t1 with e1 | ⟨e1, e2, e3⟩
      · simp at e1
      · have ez := nat_z (x := g j) (by omega)
        exact Or.inr ⟨e1, e2, by rw [if_neg (by omega), e3, t2]⟩
  · obtain ⟨d1, d2, d3⟩ := a5 x hx
    exact ⟨d1, by omega, by simp only [if_pos d2]; exact d3⟩
  · by_cases q : j < mid
    · obtain ⟨c, d1, d2, d3⟩ := a6 j k1 q k3
      exact ⟨c, d1, by omega, d3⟩
    · obtain ⟨c, d1, d2, d3⟩ := b6 j (by omega) k2 k3
      exact ⟨c, by omega, d2, d3⟩
  · by_cases q : c < cm0
    · obtain ⟨d1, d2, d3, d4⟩ := a7 c k1 q
      have ez := nat_z (x := co c) (by omega)
      exact ⟨d1, by omega, by simp only [if_pos (show (co c).toNatClampNeg < mid by omega)]; exact d3, d4⟩
    · obtain ⟨d1, d2, d3, d4⟩ := b7 c (by omega) k2
      have ez := nat_z (x := co c) (by omega)
      exact ⟨by omega, d2, by simp only [if_neg (show ¬ (co c).toNatClampNeg < mid by omega)]; exact d3, d4⟩
/-- the call itself: its own entry c0 is written last -/
theorem SGE.call {a n p : Int32} {R : List Bool} (h : SGE nl ng gl f g cm co lo hi (c0 + 1) c1 A B M []) (hB : B = List.replicate n.toNatClampNeg false ++ R) (hM : M ≤ M') (hR : (R.length : Int) + 1 ≤ M') (hp : p.toInt = (hi : Int)) : SGE nl ng gl (upd f hi 14) (upd g hi a) (upd cm c0 n) (upd co c0 p) lo (hi + 1) c0 c1 A (false :: R) M' [] := by
  obtain ⟨h1, h2, S, K, a1, a2, a3, a4, a5, a6, a7⟩ := h
  have ep := nat_z (x := p) (by omega)
  refine ⟨by omega, by omega, fun j => if j ≤ hi then S j else false :: R, fun j => if j = hi then n.toNatClampNeg else K j, by simp [h1, a1], if_neg (by omega), fun j k1 k2 => ?_, fun j k1 k2 => ?_, fun x hx => by simp at hx, fun j k1 k2 k3 => ?_, fun c k1 k2 => ?_⟩
  · by_cases q : j ≤ hi
    · simp only [if_pos q]; have := a3 j k1 q; omega
    · simp only [if_neg q, List.length_cons]; omega
  · by_cases q : j = hi
    · subst q
      unfold OKo
      simp only [Nat.le_refl, if_true, if_pos, show ¬ j + 1 ≤ j by omega, if_false, pk_us, a2]
      refine ⟨Or.inr (Or.inr (Or.inr (Or.inr (Or.inr (Or.inr (Or.inr (Or.inr (Or.inr (Or.inr (Or.inr (Or.inr (Or.inl ⟨by decide, R, hB, rfl⟩)))))))))))), fun T' hT' => ?_⟩
      have e14 : (14 : Int32).toInt = 14 := by decide
      rcases hT' with q | q <;> omega
    · have q1 : j < hi := by omega
      obtain ⟨b1, b2⟩ := a4 j k1 q1
      unfold OKo
      rw [pk_un q, pk_un q]
      simp only [if_neg q, if_pos (Nat.le_of_lt q1), if_pos (Nat.succ_le_of_lt q1)]
      refine ⟨b1, fun T' hT' => ?_⟩
      rcases b2 T' hT' with c1 | ⟨c1, c2, c3⟩
      · simp at c1
      · have e := nat_z (x := g j) (by omega)
        refine Or.inr ⟨c1, by omega, ?_⟩
        rw [if_pos (by omega)]; exact c3
  · by_cases q : j = hi
    · exact ⟨c0, Nat.le_refl _, by omega, by rw [pk_us, hp, q]⟩
    · rw [pk_un q] at k3
      obtain ⟨c, d1, d2, d3⟩ := a6 j k1 (by omega) k3
      exact ⟨c, by omega, d2, by rw [pk_un (by omega)]; exact d3⟩
  · by_cases q : c = c0
    · subst q
      rw [pk_us, pk_us]
      exact ⟨by omega, by omega, by simp only [if_pos (show p.toNatClampNeg = hi by omega)], by rw [show p.toNatClampNeg = hi by omega, pk_us]; decide⟩
    · rw [pk_un q, pk_un q]
      obtain ⟨d1, d2, d3, d4⟩ := a7 c (by omega) k2
      have ez := nat_z (x := co c) (by omega)
      exact ⟨d1, by omega, by simp only [if_neg (show (co c).toNatClampNeg ≠ hi by omega)]; exact d3, by rw [pk_un (by omega)]; exact d4⟩
/-- one order in a row of its own: hi' is the next place -/
theorem SGE.say1 {o a x y : Int32} (h : SGE nl ng gl f g cm co lo x.toNatClampNeg c0 c1 A B M Hs) (hx : 0 ≤ x.toInt) (hy : y.toInt = x.toInt + 1) (hM : M ≤ M') (hC : (C.length : Int) ≤ M') (hf : FT nl ng gl 0 o.toInt a B C) (h14 : o.toInt ≠ 14) (hj : o.toInt ≠ 10 ∧ o.toInt ≠ 11 ∧ o.toInt ≠ 12 ∧ o.toInt ≠ 22 ∧ o.toInt ≠ 23) : SGE nl ng gl (upd f x.toNatClampNeg o) (upd g x.toNatClampNeg a) cm co lo y.toNatClampNeg c0 c1 A C M' Hs := by
  rw [nxt_z hx hy]; exact h.say hM hC hf h14 hj
theorem SGE.hole1 {o a x y : Int32} (T : List Bool) (h : SGE nl ng gl f g cm co lo x.toNatClampNeg c0 c1 A B M Hs) (hx : 0 ≤ x.toInt) (hy : y.toInt = x.toInt + 1) (hM : M ≤ M') (hC : (C.length : Int) ≤ M') (hf : FT nl ng gl 0 o.toInt a B C) (h14 : o.toInt ≠ 14) (hj : JT o.toInt B T) : SGE nl ng gl (upd f x.toNatClampNeg o) (upd g x.toNatClampNeg a) cm co lo y.toNatClampNeg c0 c1 A C M' ((x.toNatClampNeg, T) :: Hs) := by
  rw [nxt_z hx hy]; exact h.hole T hM hC hf h14 hj
theorem SGE.fill1 {m z : Int32} (h : SGE nl ng gl f g cm co lo z.toNatClampNeg c0 c1 A B M ((m.toNatClampNeg, B) :: Hs)) (hz : 0 ≤ z.toInt) (hs : ∀ x ∈ Hs, x.1 ≠ m.toNatClampNeg) : SGE nl ng gl f (upd g m.toNatClampNeg z) cm co lo z.toNatClampNeg c0 c1 A B M Hs :=
  h.fill m.toNatClampNeg (nat_z hz).symm (List.mem_cons_self ..) (fun x hx => (List.mem_cons.mp hx).imp id id) (fun x hx => ⟨List.mem_cons_of_mem _ hx, hs x hx⟩)
theorem SGE.fill2 {m z : Int32} {q : Nat × List Bool} (h : SGE nl ng gl f g cm co lo z.toNatClampNeg c0 c1 A B M [q, (m.toNatClampNeg, B)]) (hz : 0 ≤ z.toInt) (hs : q.1 ≠ m.toNatClampNeg) : SGE nl ng gl f (upd g m.toNatClampNeg z) cm co lo z.toNatClampNeg c0 c1 A B M [q] :=
  h.fill m.toNatClampNeg (nat_z hz).symm (by simp) (fun x hx => by simp at hx; rcases hx with hx | hx; exact Or.inr (by simp [hx]); exact Or.inl hx) (fun x hx => by simp at hx; subst hx; exact ⟨by simp, hs⟩)
theorem SGE.call1 {a n p c x y : Int32} {R : List Bool} {cs : Nat} (h : SGE nl ng gl f g cm co lo x.toNatClampNeg cs c1 A B M []) (hc : cs = c.toNatClampNeg + 1) (hx : 0 ≤ x.toInt) (hy : y.toInt = x.toInt + 1) (hB : B = List.replicate n.toNatClampNeg false ++ R) (hM : M ≤ M') (hR : (R.length : Int) + 1 ≤ M') (hp : p.toInt = x.toInt) : SGE nl ng gl (upd f x.toNatClampNeg 14) (upd g x.toNatClampNeg a) (upd cm c.toNatClampNeg n) (upd co c.toNatClampNeg p) lo y.toNatClampNeg c.toNatClampNeg c1 A (false :: R) M' [] := by
  rw [nxt_z hx hy]; subst hc; exact h.call hB hM hR (by have := nat_z hx; omega)
theorem SGE.mono (h : SGE nl ng gl f g cm co lo hi c0 c1 A B M Hs) (hM : M ≤ M') : SGE nl ng gl f g cm co lo hi c0 c1 A B M' Hs := h.to (fun _ _ => rfl) (fun _ _ => rfl) (fun _ _ _ => rfl) (fun _ _ _ => rfl) rfl rfl hM
theorem SGE.par {nl' ng' gl' : Int} (h : SGE nl ng gl f g cm co lo hi c0 c1 A B M Hs) (e1 : nl = nl') (e2 : ng = ng') (e3 : gl = gl') : SGE nl' ng' gl' f g cm co lo hi c0 c1 A B M Hs := by subst e1 e2 e3; exact h
theorem SGE.setB {B' : List Bool} (h : SGE nl ng gl f g cm co lo hi c0 c1 A B M Hs) (e : B = B') : SGE nl ng gl f g cm co lo hi c0 c1 A B' M Hs := by subst e; exact h
end SGES
theorem lenle {l : List Bool} {M : Int} (n : Int) (h : (l.length : Int) = n) (h2 : n ≤ M) : (l.length : Int) ≤ M := by omega
theorem len_rep {x : Int32} (h : 0 ≤ x.toInt) : ((List.replicate x.toNatClampNeg false).length : Int) = x.toInt := by rw [List.length_replicate]; exact nat_z h
theorem len_repR {x : Int32} {R : List Bool} {n : Int} (h : 0 ≤ x.toInt) (hR : (R.length : Int) = n) : ((List.replicate x.toNatClampNeg false ++ R).length : Int) = x.toInt + n := by rw [List.length_append, List.length_replicate]; have := nat_z h; omega
theorem rep1 {x y : Int32} {R : List Bool} (h : 0 ≤ x.toInt) (hy : y.toInt = x.toInt + 1) : false :: (List.replicate x.toNatClampNeg false ++ R) = List.replicate y.toNatClampNeg false ++ R := by
  have e : y.toNatClampNeg = x.toNatClampNeg + 1 := by have := nat_z h; have := nat_z (x := y) (by omega); omega
  rw [e, List.replicate_succ]; rfl
theorem kzN {x : Int32} {P : Nat → Prop} (h : ∀ j : Nat, (j : Int) < x.toInt → P j) : ∀ j, j < x.toNatClampNeg → P j := fun j hj => h j (by unfold Int32.toNatClampNeg at hj; omega)
def bT (b : Int32) : List Bool := if b.toInt = 0 then [] else [false]
def bP (b : Int32) : List Bool := if b.toInt = 0 then [] else [true]
theorem bT0 {b : Int32} (h : b.toInt = 0) : bT b = [] := if_pos h
theorem bT1 {b : Int32} (h : b.toInt ≠ 0) : bT b = [false] := if_neg h
theorem bP0 {b : Int32} (h : b.toInt = 0) : bP b = [] := if_pos h
theorem bP1 {b : Int32} (h : b.toInt ≠ 0) : bP b = [true] := if_neg h
section FTS
variable {nl ng gl : Int} {o a : Int32} {R B : List Bool}
theorem ft_num (h : o.toInt = 0 ∨ o.toInt = 17) : FT nl ng gl 0 o.toInt a R (false :: R) := Or.inl ⟨h, rfl⟩
theorem ft_loc (h : o.toInt = 1) (h1 : 0 ≤ a.toInt ∧ a.toInt < nl) : FT nl ng gl 0 o.toInt a R (false :: R) := Or.inr (Or.inl ⟨h, h1.1, h1.2, rfl⟩)
theorem ft_sloc (h : o.toInt = 2) (h1 : 0 ≤ a.toInt ∧ a.toInt < nl) : FT nl ng gl 0 o.toInt a (false :: R) (false :: R) := Or.inr (Or.inr (Or.inl ⟨h, h1.1, h1.2, R, rfl, rfl⟩))
theorem ft_glo (h : o.toInt = 3) (h1 : 0 ≤ a.toInt ∧ a.toInt < ng) : FT nl ng gl 0 o.toInt a R (false :: R) := Or.inr (Or.inr (Or.inr (Or.inl ⟨h, h1.1, h1.2, rfl⟩)))
theorem ft_sglo (h : o.toInt = 4) (h1 : 0 ≤ a.toInt ∧ a.toInt < ng) : FT nl ng gl 0 o.toInt a (false :: R) (false :: R) := Or.inr (Or.inr (Or.inr (Or.inr (Or.inl ⟨h, h1.1, h1.2, R, rfl, rfl⟩))))
theorem ft_place (h : o.toInt = 5) (h1 : 0 ≤ a.toInt ∧ a.toInt < gl) : FT nl ng gl 0 o.toInt a (false :: R) (true :: R) := Or.inr (Or.inr (Or.inr (Or.inr (Or.inr (Or.inl ⟨h, h1.1, h1.2, R, rfl, rfl⟩)))))
theorem ft_at (h : o.toInt = 6) : FT nl ng gl 0 o.toInt a (true :: R) (false :: R) := Or.inr (Or.inr (Or.inr (Or.inr (Or.inr (Or.inr (Or.inl ⟨h, R, rfl, rfl⟩))))))
theorem ft_kat (h : o.toInt = 7) : FT nl ng gl 0 o.toInt a (true :: R) (false :: true :: R) := Or.inr (Or.inr (Or.inr (Or.inr (Or.inr (Or.inr (Or.inr (Or.inl ⟨h, R, rfl, rfl⟩)))))))
theorem ft_sat (h : o.toInt = 8) : FT nl ng gl 0 o.toInt a (false :: true :: R) (false :: R) := Or.inr (Or.inr (Or.inr (Or.inr (Or.inr (Or.inr (Or.inr (Or.inr (Or.inl ⟨h, R, rfl, rfl⟩))))))))
theorem ft_pop (h : o.toInt = 9 ∨ o.toInt = 10 ∨ o.toInt = 11 ∨ o.toInt = 16 ∨ o.toInt = 22 ∨ o.toInt = 23) : FT nl ng gl 0 o.toInt a (false :: R) R := Or.inr (Or.inr (Or.inr (Or.inr (Or.inr (Or.inr (Or.inr (Or.inr (Or.inr (Or.inl ⟨h, rfl⟩)))))))))
theorem ft_go (h : o.toInt = 12) : FT nl ng gl 0 o.toInt a R B := Or.inr (Or.inr (Or.inr (Or.inr (Or.inr (Or.inr (Or.inr (Or.inr (Or.inr (Or.inr (Or.inl h))))))))))
theorem ft_turn (h : o.toInt = 13) : FT nl ng gl 0 o.toInt a R R := Or.inr (Or.inr (Or.inr (Or.inr (Or.inr (Or.inr (Or.inr (Or.inr (Or.inr (Or.inr (Or.inr (Or.inl ⟨h, rfl⟩)))))))))))
theorem ft_back (h : o.toInt = 15) : FT nl ng gl 0 o.toInt a (false :: R) B := Or.inr (Or.inr (Or.inr (Or.inr (Or.inr (Or.inr (Or.inr (Or.inr (Or.inr (Or.inr (Or.inr (Or.inr (Or.inr (Or.inl ⟨h, R, rfl⟩)))))))))))))
theorem ft_one (h : o.toInt = 18 ∨ o.toInt = 19 ∨ o.toInt = 20 ∨ o.toInt = 24) : FT nl ng gl 0 o.toInt a (false :: R) (false :: R) := Or.inr (Or.inr (Or.inr (Or.inr (Or.inr (Or.inr (Or.inr (Or.inr (Or.inr (Or.inr (Or.inr (Or.inr (Or.inr (Or.inr (Or.inl ⟨h, R, rfl, rfl⟩))))))))))))))
theorem ft_op (h : o.toInt = 21) : FT nl ng gl 0 o.toInt a (false :: false :: R) (false :: R) := Or.inr (Or.inr (Or.inr (Or.inr (Or.inr (Or.inr (Or.inr (Or.inr (Or.inr (Or.inr (Or.inr (Or.inr (Or.inr (Or.inr (Or.inr ⟨h, R, rfl, rfl⟩))))))))))))))
end FTS
/-- where the globals lie -/
def GF (v : MS) : Prop := ∀ g : Nat, (g : Int) < (v.1 0 27).toInt → 0 ≤ (v.1 25 g).toInt ∧ 1 ≤ (v.1 24 g).toInt ∧ (v.1 25 g).toInt + (v.1 24 g).toInt ≤ (v.1 0 28).toInt

theorem app_e {A' A R : List Bool} (e : A' = A) : A ++ R = A' ++ R := by rw [e]
theorem cat_le {R : List Bool} {M2 M n : Int} (h : (R.length : Int) = n) (h2 : M2 + n ≤ M) : M2 + (R.length : Int) ≤ M := by omega
theorem len_b (b : Int32) : ((bT b).length : Int) ≤ 1 := by unfold bT; split <;> decide
theorem len_p (b : Int32) : ((bP b).length : Int) ≤ 1 := by unfold bP; split <;> decide
theorem neN {x y : Int32} (h0 : 0 ≤ x.toInt) (h1 : 0 ≤ y.toInt) (h : x.toInt ≠ y.toInt) : x.toNatClampNeg ≠ y.toNatClampNeg := by
  have := nat_z h0
  have := nat_z h1
  omega
theorem GF.fr {fl al : List Nat} {v u : MS} (h : FG fl al v u) (h1 : 27 ∉ fl ∧ 28 ∉ fl) (h2 : 24 ∉ al ∧ 25 ∉ al) (k : GF v) : GF u := fun g hg => by
  rw [h.2.1 27 h1.1] at hg
  rw [h.2.1 28 h1.2, h.2.2 24 h2.1, h.2.2 25 h2.2]; exact k g hg
theorem GF.o {v : MS} {a i : Nat} {x : Int32} (k : GF v) (h : a ≠ 0 ∧ a ≠ 24 ∧ a ≠ 25) : GF (wA v a i x) := fun g hg => by
  have e0 : (wA v a i x).1 0 = v.1 0 := if_neg (fun q => h.1 q.symm)
  have e1 : (wA v a i x).1 24 = v.1 24 := if_neg (fun q => h.2.1 q.symm)
  have e2 : (wA v a i x).1 25 = v.1 25 := if_neg (fun q => h.2.2 q.symm)
  rw [e0] at hg ⊢
  rw [e1, e2]; exact k g hg
theorem GF.of {v : MS} {i : Nat} {x : Int32} (k : GF v) (h : i ≠ 27 ∧ i ≠ 28) : GF (wA v 0 i x) := fun g hg => by
  have e0 : (wA v 0 i x).1 0 27 = v.1 0 27 := pk_un (fun q => h.1 q.symm)
  have e1 : (wA v 0 i x).1 0 28 = v.1 0 28 := pk_un (fun q => h.2 q.symm)
  rw [e0] at hg
  rw [e1]; exact k g hg
theorem GF.at {v : MS} {x : Int32} {a : Int} (k : GF v) (hx : x.toInt = a) (h0 : 0 ≤ a) (h1 : a < (v.1 0 27).toInt) : 0 ≤ (v.1 25 x.toNatClampNeg).toInt ∧ 1 ≤ (v.1 24 x.toNatClampNeg).toInt ∧ (v.1 25 x.toNatClampNeg).toInt + (v.1 24 x.toNatClampNeg).toInt ≤ (v.1 0 28).toInt := k _ (by have := cl_z hx h0; omega)
theorem len1 {M : Int} (h : (1 : Int) ≤ M) : ((([] : List Bool).length : Nat) : Int) + 1 ≤ M := by simpa using h
theorem GF.add {v : MS} {x y n r s z : Int32} (k : GF v) (ex : v.1 0 27 = x) (ey : v.1 0 28 = y) (h0 : 0 ≤ x.toInt) (hz : z.toInt = x.toInt + 1) (hn : 1 ≤ n.toInt) (hs : s.toInt = y.toInt + n.toInt) (hy : 0 ≤ y.toInt) : GF (wA (wA (wA (wA (wA v 24 x.toNatClampNeg n) 26 x.toNatClampNeg r) 25 x.toNatClampNeg y) 0 28 s) 0 27 z) := fun g hg => by
  show 0 ≤ (upd (v.1 25) x.toNatClampNeg y g).toInt ∧ 1 ≤ (upd (v.1 24) x.toNatClampNeg n g).toInt ∧ (upd (v.1 25) x.toNatClampNeg y g).toInt + (upd (v.1 24) x.toNatClampNeg n g).toInt ≤ s.toInt
  have hg' : (g : Int) < z.toInt := hg
  have e := nat_z h0
  by_cases q : g = x.toNatClampNeg
  · rw [q, pk_us, pk_us]; omega
  · rw [pk_un q, pk_un q]
    have := k g (by rw [ex]; omega)
    rw [ey] at this
    omega
theorem GF.nil {v : MS} (h : (v.1 0 27).toInt ≤ 0) : GF v := fun g hg => by omega
