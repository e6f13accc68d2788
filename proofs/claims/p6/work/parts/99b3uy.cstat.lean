/-! the class's deeds: statements that have no others within -/
def T6 (v : MS) : Prop := (v.1 0 326).toInt = 0 ∧ 0 ≤ (v.1 0 306).toInt
section UYS
variable {L1 L2 : List Nat} {P : Int32 × Int32 × Int32} {v u w x : MS} {a b : List EV} {e : PE} {pa pb pc1 pd r : Int32} {t : Bool} {E : EvE} {n : Nat}
theorem T6.tp (h : T6 v) : TPE v := by unfold TPE; obtain ⟨h1, h2⟩ := h; omega
theorem T6.fr {fl al : List Nat} (h : T6 v) (f : FC fl al v u) (g : 326 ∉ fl ∧ 306 ∉ fl := by decide) : T6 u := by unfold T6; rw [f.2.1 326 g.1, f.2.1 306 g.2]; exact h
theorem T6.kt (h : T6 v) (k : KT v u) (h6 : 0 ≤ (u.1 0 306).toInt) : T6 u := by unfold T6; rw [k.1]; exact ⟨h.1, h6⟩
theorem eNeed {m : Int} (hm : pa.toInt = m) (h : Q_x_X9_need L1 L2 v pa false u) (J : JC L2 e v) : u = v ∧ (e.1 (v.1 0 305)).toInt = m := by
  obtain ⟨-, -, -, r3', hk', h2⟩ := h
  rcases h2 with ⟨c, -, e9⟩ | ⟨-, r9, -, ⟨-, r14, -, u9, -, f, -⟩ | ⟨-, r14, -, u9, -, f, -⟩⟩
  · exact ⟨e9, by rw [← kdC hk' J, c, hm]⟩
  · cases f
  · cases f
/-- a question in parentheses -/
theorem eCond (hE : XE L2 (QE L1 L2 (n - 1)) E) (hK : XK (QE L1 L2 (n - 1))) (h : Q_x_X5_condition L1 L2 n v false u) (J : JC L2 e v) (B : LBe v) (t6 : T6 v) (cu : (u.1 0 321).toInt ≤ 500) : ∃ a, gCond E e (knC v) (v.1 0 314) (v.1 0 305) = some (a, u.1 0 305) ∧ ES L2 e P v u a ∧ KT v u := by
  obtain ⟨-, -, -, -, -, -, -, -, -, -, h⟩ := h
  rcases h with ⟨u9, -, f, -⟩ | ⟨u2, h2, k2, ⟨u9, -, f, -⟩ | ⟨u10, h10, k10, ⟨u9, -, f, -⟩ | ⟨u27, h27, k27, ⟨u9, -, f, -⟩ | ⟨u32, h32, k32, u36, h36, k36, -, eu⟩⟩⟩⟩
  · cases f
  · cases f
  · cases f
  · cases f
  obtain ⟨e2, kd⟩ := eNeed (m := 30) (by decide) h2 J
  rw [e2] at h10 k10
  rw [eu] at cu ⊢
  have O1 := ES.opn (P := P) h10 k10 J B
  have t10 : T6 u10 := ⟨by rw [k10.1.2.1 326 (by decide)]; exact t6.1, k10.2.2.1.1⟩
  have c27 : (u27.1 0 321).toInt ≤ 500 := by
    have := fc21 k32.1
    have := fc21 k36.1
    omega
  obtain ⟨a, x1, x2⟩ := hE.es (P := P) (bz := true) h27 k27 O1.1.1 O1.1.2.2.1 t10.tp c27 (by decide)
  have X := ES.exp (P := P) (m := 31) (by decide) h32 k32 x2.1 x2.2.2.1
  have C := ES.close (P := P) h36 k36 X.1.1 X.1.2.2.1
  have T := ((O1.1.tr x2 B).tr X.1 B).tr C.1 B
  simp only [List.nil_append, List.append_nil] at T
  refine ⟨a, ?_, T, (((KT.fc k10.1).tr (hK _ _ _ h27)).tr (KT.fc k32.1)).tr (KT.fc k36.1)⟩
  unfold gCond
  have g1 : gTok e 30 (v.1 0 305) = some (u10.1 0 305) := by unfold gTok; rw [if_pos kd, O1.2]
  rw [O1.1.2.2.2.1, O1.1.2.2.2.2.1] at x1
  rw [g1, Option.bind_some, x1, Option.bind_some, X.2, Option.bind_some, C.2]
/-- a jump to a place not known yet -/
theorem ES.jmp {tg : Int32} (h : Q_x_X1_add L1 L2 v 19 pb 0 u) (k : K_x_X1_add v 19 pb 0 u) (J : JC L2 e v) (B : LBe v) (hp : (tg = 30 ∧ pb = P.1 ∧ pb.toInt ≠ -1) ∨ (tg = 31 ∧ pb = P.2.1 ∧ pb.toInt ≠ -1) ∨ (tg = 32 ∧ pb = P.2.2)) : ES L2 e P v u [evx tg 0 0] ∧ u.1 0 305 = v.1 0 305 := by
  have A := EF.add (lo := (v.1 0 317).toInt) (lc := (v.1 0 321).toInt) h
  have e5 : u.1 0 305 = v.1 0 305 := k.1.2.1 305 (by decide)
  have e17 : u.1 0 317 = v.1 0 317 := k.1.2.1 317 (by decide)
  have n0 := natI (a := v.1 0 381) A.2.2.2.2.2
  have l1 : ldE (evx tg 0 0) = 1 := by rcases hp with ⟨q, -⟩ | ⟨q, -⟩ | ⟨q, -⟩ <;> (rw [q]; rfl)
  have M : mtE P u (v.1 0 317).toInt (v.1 0 321).toInt (evx tg 0 0) (v.1 0 381).toNatClampNeg := by
    refine ⟨by rw [l1, A.2.1]; omega, ?_⟩
    have d1 := A.2.2.1
    have d2 := A.2.2.2.1
    have d3 := A.2.2.2.2.1
    rcases hp with ⟨q, q2, q3⟩ | ⟨q, q2, q3⟩ | ⟨q, q2⟩
    · rw [q]
      show u.1 378 _ = 19 ∧ u.1 380 _ = 0 ∧ u.1 379 _ = P.1 ∧ P.1.toInt ≠ -1
      exact ⟨d1, d3, d2.trans q2, by rw [← q2]; exact q3⟩
    · rw [q]
      show u.1 378 _ = 19 ∧ u.1 380 _ = 0 ∧ u.1 379 _ = P.2.1 ∧ P.2.1.toInt ≠ -1
      exact ⟨d1, d3, d2.trans q2, by rw [← q2]; exact q3⟩
    · rw [q]
      show u.1 378 _ = 19 ∧ u.1 380 _ = 0 ∧ u.1 379 _ = P.2.2
      exact ⟨d1, d3, d2.trans q2⟩
  have T : EA P v u [evx tg 0 0] := ⟨by rw [ldL_cons, ldL_nil, l1, A.2.1]; rfl, A.1, by rw [e5, e17]; exact Int.le_refl _, MTq.one M⟩
  exact ⟨⟨J.fr k.1 k.2.2.2 (by decide) (by decide) (by rw [e5, k.1.2.1 307 (by decide)]; exact J.2.1), T, B.tr T (by rw [e5]; exact B.2.1) (k.1.2.1 312 (by decide)), knC_fr k.1, k.1.2.1 314 (by decide), k.1.2.1 312 (by decide)⟩, e5⟩
/-- what the reference drops: no deed -/
theorem ES.drp (J : JC L2 e v) (B : LBe v) : ES L2 e P v v [evx 25 0 0] := by
  refine ⟨J, ⟨by rw [ldL_cons, ldL_nil]; show _ = _ + ((0 + 0 : Nat) : Int); omega, EF.rf, Int.le_refl _, MTq.one ⟨?_, trivial⟩⟩, B, rfl, rfl, rfl⟩
  have n0 := natI B.2.2.2.1
  show ((v.1 0 381).toNatClampNeg : Int) + ((0 : Nat) : Int) ≤ _
  omega
/-- break, continue -/
theorem eJump (h : Q_x_X5_jumpStat L1 L2 v pa false u) (J : JC L2 e v) (B : LBe v) (hk : ((e.1 (v.1 0 305)).toInt = 16 ∧ pa = P.1) ∨ ((e.1 (v.1 0 305)).toInt = 17 ∧ pa = P.2.1)) : ∃ a, gLeave e (knC v) (v.1 0 305) = some (a, knC u, u.1 0 305) ∧ ES L2 e P v u a ∧ KT v u := by
  obtain ⟨-, -, -, -, -, -, r3, -, h⟩ := h
  rcases h with ⟨u9, -, f, -⟩ | ⟨u5, h5, k5, ⟨nz, u12, h12, k12, ⟨u9, -, f, -⟩ | ⟨u20, h20, k20, -, eu⟩⟩ | ⟨-, u9, -, f, -⟩⟩
  · cases f
  · cases f
  · rw [eu]
    have T := ES.take (P := P) h5 k5 J B
    have A := ES.jmp (P := P) (tg := if (e.1 (v.1 0 305)).toInt = 16 then 30 else 31) h12 k12 T.1.1 T.1.2.2.1 (by
      rcases hk with ⟨q, q2⟩ | ⟨q, q2⟩
      · rw [if_pos q]; exact Or.inl ⟨rfl, q2, nz⟩
      · rw [if_neg (by omega)]; exact Or.inr (Or.inl ⟨rfl, q2, nz⟩))
    have X := ES.exp (P := P) (m := 36) (by decide) h20 k20 A.1.1 A.1.2.2.1
    have S := (T.1.tr A.1 B).tr X.1 B
    simp only [List.nil_append, List.append_nil] at S
    refine ⟨_, ?_, S, ((KT.fc k5.1).tr (KT.fc k12.1)).tr (KT.fc k20.1)⟩
    unfold gLeave
    have g := X.2
    rw [A.2, T.2] at g
    rw [g, Option.bind_some, S.2.2.2.1]
  · cases f
/-- return -/
theorem eRet (hE : XE L2 (QE L1 L2 n) E) (hK : XK (QE L1 L2 n)) (h : Q_x_X5_returnStat L1 L2 n v false u) (J : JC L2 e v) (B : LBe v) (t6 : T6 v) (cu : (u.1 0 321).toInt ≤ 500) (hP : P.2.2 = v.1 0 333) : ∃ a, gRet E e (knC v) (v.1 0 314) (v.1 0 305) = some (a, knC u, u.1 0 305) ∧ ES L2 e P v u a ∧ KT v u := by
  obtain ⟨-, -, -, -, -, -, -, -, -, -, h⟩ := h
  rcases h with ⟨u9, -, f, -⟩ | ⟨u2, h2, k2, r7, hk7, h⟩
  · cases f
  have T := ES.take (P := P) h2 k2 J B
  have ek := kdC hk7 T.1.1
  rw [T.2] at ek
  have p2 : u2.1 0 333 = v.1 0 333 := k2.1.2.1 333 (by decide)
  rcases h with ⟨c, ⟨u9, -, f, -⟩ | ⟨u18, h18, k18, u21, h21, k21, ⟨u9, -, f, -⟩ | ⟨u29, h29, k29, -, eu⟩⟩⟩ | ⟨c, u43, h43, k43, u46, h46, k46, ⟨u9, -, f, -⟩ | ⟨u56, h56, k56, -, eu⟩⟩
  · cases f
  · cases f
  · rw [eu] at cu ⊢
    have c18 : (u18.1 0 321).toInt ≤ 500 := by
      have := fc21 k21.1
      have := fc21 k29.1
      omega
    obtain ⟨a, x1, x2⟩ := hE.es (P := P) (bz := true) h18 k18 T.1.1 T.1.2.2.1 (t6.fr k2.1).tp c18 (by decide)
    have A := ES.jmp (P := P) (tg := 32) h21 k21 x2.1 x2.2.2.1 (Or.inr (Or.inr ⟨rfl, by rw [k18.1.2.1 333 (by decide), p2, hP]⟩))
    have X := ES.exp (P := P) (m := 36) (by decide) h29 k29 A.1.1 A.1.2.2.1
    have S := ((T.1.tr x2 B).tr A.1 B).tr X.1 B
    simp only [List.nil_append, List.append_nil] at S
    refine ⟨_, ?_, S, (((KT.fc k2.1).tr (hK _ _ _ h18)).tr (KT.fc k21.1)).tr (KT.fc k29.1)⟩
    unfold gRet
    rw [T.1.2.2.2.1, T.1.2.2.2.2.1, T.2] at x1
    have g := X.2
    rw [A.2] at g
    rw [if_neg (by rw [← ek]; exact c), x1, Option.bind_some, g, Option.bind_some, S.2.2.2.1]
  · cases f
  · rw [eu] at cu ⊢
    have A0 := ES.add (P := P) (y := 0) h43 k43 T.1.1 T.1.2.2.1 (by unfold plE; decide) rfl
    have A := ES.jmp (P := P) (tg := 32) h46 k46 A0.1.1 A0.1.2.2.1 (Or.inr (Or.inr ⟨rfl, by rw [k43.1.2.1 333 (by decide), p2, hP]⟩))
    have X := ES.exp (P := P) (m := 36) (by decide) h56 k56 A.1.1 A.1.2.2.1
    have S := ((T.1.tr A0.1 B).tr A.1 B).tr X.1 B
    simp only [List.nil_append, List.append_nil] at S
    refine ⟨_, ?_, S, (((KT.fc k2.1).tr (KT.fc k43.1)).tr (KT.fc k46.1)).tr (KT.fc k56.1)⟩
    unfold gRet
    have g := X.2
    rw [A.2, A0.2, T.2] at g
    rw [if_pos (by rw [← ek]; exact c), Option.bind_some, g, Option.bind_some, S.2.2.2.1]
end UYS
