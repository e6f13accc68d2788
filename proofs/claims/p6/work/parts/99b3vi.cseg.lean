/-! the class's deeds: parts, jumps and places one behind the other -/
/-- a part (its own P), a jump's deed (tag, label), a place (label) -/
abbrev SG : Type := ((Int32 × Int32 × Int32) × List EV) ⊕ ((Int32 × Nat) ⊕ Nat)
def lgS : SG → Nat
  | .inl x => ldL x.2
  | .inr (.inl _) => 1
  | .inr (.inr _) => 0
def lgL : List SG → Nat
  | [] => 0
  | x :: l => lgS x + lgL l
def mks : List SG → List Nat
  | [] => []
  | .inl _ :: l => mks l
  | .inr (.inl _) :: l => mks l
  | .inr (.inr m) :: l => m :: mks l
def MTs (u : MS) (lo cl : Int) : Nat → List SG → Prop
  | _, [] => True
  | p, .inl x :: l => MTq x.1 u lo cl p x.2 ∧ MTs u lo cl (p + ldL x.2) l
  | p, .inr (.inl x) :: l => ((p : Int) < (u.1 0 381).toInt ∧ u.1 378 p = x.1 ∧ (u.1 379 p).toInt = x.2 ∧ u.1 380 p = 0) ∧ MTs u lo cl (p + 1) l
  | p, .inr (.inr m) :: l => ((m : Int) < 1500 → (u.1 316 m).toInt = p) ∧ MTs u lo cl p l
/-- between v and u these; own labels below M -/
def EAs (M : Int) (v u : MS) (s : List SG) : Prop := (u.1 0 381).toInt = (v.1 0 381).toInt + lgL s ∧ EF (v.1 0 317).toInt (v.1 0 321).toInt v u ∧ M ≤ (u.1 0 317).toInt ∧ MTs u M (v.1 0 321).toInt (v.1 0 381).toNatClampNeg s ∧ ∀ m ∈ mks s, (m : Int) < M
section VIS
variable {L1 L2 : List Nat} {P P' : Int32 × Int32 × Int32} {v u w t : MS} {a b : List EV} {e : PE} {pa pb pc1 r : Int32} {l0 l1 lo cl M : Int} {p : Nat} {q : EV} {s s' : List SG}
theorem lgL_app : ∀ (s s' : List SG), lgL (s ++ s') = lgL s + lgL s'
  | [], s' => (Nat.zero_add _).symm
  | x :: s, s' => by
    show lgS x + lgL (s ++ s') = lgS x + lgL s + lgL s'
    rw [lgL_app s s', Nat.add_assoc]
theorem mks_app : ∀ (s s' : List SG), mks (s ++ s') = mks s ++ mks s'
  | [], _ => rfl
  | .inl _ :: s, s' => mks_app s s'
  | .inr (.inl _) :: s, s' => mks_app s s'
  | .inr (.inr m) :: s, s' => congrArg (m :: ·) (mks_app s s')
theorem MTs.app : ∀ (s : List SG) (p : Nat), MTs u lo cl p s → MTs u lo cl (p + lgL s) s' → MTs u lo cl p (s ++ s')
  | [], _, _, k => k
  | .inl x :: s, p, h, k => ⟨h.1, MTs.app s _ h.2 (by rw [Nat.add_assoc]; exact k)⟩
  | .inr (.inl x) :: s, p, h, k => ⟨h.1, MTs.app s _ h.2 (by rw [Nat.add_assoc]; exact k)⟩
  | .inr (.inr m) :: s, p, h, k => ⟨h.1, MTs.app s _ h.2 (by
      have k : MTs u lo cl (p + (0 + lgL s)) s' := k
      rw [Nat.zero_add] at k
      exact k)⟩
theorem MTs.ky (k : KY lo l1 t u) (h1 : (t.1 0 317).toInt ≤ l1) : ∀ (s : List SG) (p : Nat), ((p + lgL s : Nat) : Int) ≤ (t.1 0 381).toInt → (∀ m ∈ mks s, u.1 316 m = t.1 316 m) → MTs t lo cl p s → MTs u lo cl p s
  | [], _, _, _, _ => trivial
  | .inl x :: s, p, hp, hm, h => ⟨h.1.ky k h1 (Int.le_refl _) (Int.le_refl _), MTs.ky k h1 s _ (by rw [Nat.add_assoc]; exact hp) hm h.2⟩
  | .inr (.inl x) :: s, p, hp, hm, h => by
    have hp : ((p + (1 + lgL s) : Nat) : Int) ≤ (t.1 0 381).toInt := hp
    have d := k.1.2 p (by omega)
    have k1 := k.1.1
    refine ⟨?_, MTs.ky k h1 s _ (by rw [Nat.add_assoc]; exact hp) hm h.2⟩
    rw [d.1, d.2.1, d.2.2]
    exact ⟨by omega, h.1.2⟩
  | .inr (.inr m) :: s, p, hp, hm, h => by
    have hp : ((p + (0 + lgL s) : Nat) : Int) ≤ (t.1 0 381).toInt := hp
    have hm : ∀ m' ∈ m :: mks s, u.1 316 m' = t.1 316 m' := hm
    refine ⟨?_, MTs.ky k h1 s _ (by omega) (fun m' h' => hm m' (List.mem_cons_of_mem _ h')) h.2⟩
    rw [hm m List.mem_cons_self]
    exact h.1
theorem EAs.beg (h : EF (v.1 0 317).toInt (v.1 0 321).toInt v u) (h1 : (u.1 0 381).toInt = (v.1 0 381).toInt) (h2 : M ≤ (u.1 0 317).toInt) : EAs M v u [] := ⟨by rw [h1]; show _ = _ + ((0 : Nat) : Int); omega, h, h2, trivial, fun m hm => nomatch hm⟩
/-- what comes behind keeps what was laid -/
theorem EAs.kp (h : EAs M v t s) (h0 : 0 ≤ (v.1 0 381).toInt) (F : EF (t.1 0 317).toInt (t.1 0 321).toInt t u) : MTs u M (v.1 0 321).toInt (v.1 0 381).toNatClampNeg s ∧ EF (v.1 0 317).toInt (v.1 0 321).toInt v u ∧ M ≤ (u.1 0 317).toInt := by
  obtain ⟨a1, a2, a3, a4, a5⟩ := h
  have m1 := a2.2.2.1
  have m2 := a2.2.2.2.2.1
  have m3 := F.2.2.1
  have n0 := natI h0
  refine ⟨MTs.ky (l1 := (t.1 0 317).toInt) (KY.ef F (Int.le_refl _) (Int.le_refl _)) (Int.le_refl _) s _ (by omega) (fun m hm => F.2.2.2.1 m ?_) a4, a2.tr F m1 m2, by omega⟩
  have := a5 m hm
  omega
theorem EAs.fr (h : EAs M v t s) (h0 : 0 ≤ (v.1 0 381).toInt) (F : EF (t.1 0 317).toInt (t.1 0 321).toInt t u) (h1 : (u.1 0 381).toInt = (t.1 0 381).toInt) : EAs M v u s := by
  have K := h.kp h0 F
  exact ⟨by rw [h1]; exact h.1, K.2.1, K.2.2, K.1, h.2.2.2.2⟩
theorem EAs.ea (h : EAs M v t s) (h0 : 0 ≤ (v.1 0 381).toInt) (A : EA P t u a) : EAs M v u (s ++ [.inl (P, a)]) := by
  have K := h.kp h0 A.2.1
  have m2 := h.2.1.2.2.2.2.1
  have e1 := h.1
  have e2 := A.1
  have n0 := natI h0
  have n1 := natI (a := t.1 0 381) (by omega)
  refine ⟨?_, K.2.1, K.2.2, MTs.app s _ K.1 ⟨?_, trivial⟩, ?_⟩
  · rw [lgL_app]
    show _ = _ + ((lgL s + (ldL a + 0) : Nat) : Int)
    omega
  · rw [show (v.1 0 381).toNatClampNeg + lgL s = (t.1 0 381).toNatClampNeg by omega]
    exact A.2.2.2.ky (KY.rf (l1 := (u.1 0 317).toInt)) (Int.le_refl _) h.2.2.1 m2
  · rw [mks_app]
    show ∀ m ∈ mks s ++ [], _
    rw [List.append_nil]
    exact h.2.2.2.2
theorem EAs.nl (h : EAs M v t s) (h0 : 0 ≤ (v.1 0 381).toInt) (A : EA P t u []) : EAs M v u s := h.fr h0 A.2.1 (by have := A.1; rw [ldL_nil] at this; omega)
theorem EAs.jmp {tg : Int32} {l : Nat} (h : EAs M v t s) (h0 : 0 ≤ (v.1 0 381).toInt) (hq : Q_x_X1_add L1 L2 t tg pb 0 u) (hl : pb.toInt = l) : EAs M v u (s ++ [.inr (.inl (tg, l))]) := by
  have D := EF.add (lo := (t.1 0 317).toInt) (lc := (t.1 0 321).toInt) hq
  have K := h.kp h0 D.1
  have e1 := h.1
  have e2 := D.2.1
  have n0 := natI h0
  have n1 := natI (a := t.1 0 381) (by omega)
  refine ⟨?_, K.2.1, K.2.2, MTs.app s _ K.1 ⟨?_, trivial⟩, ?_⟩
  · rw [lgL_app]
    show _ = _ + ((lgL s + (1 + 0) : Nat) : Int)
    omega
  · rw [show (v.1 0 381).toNatClampNeg + lgL s = (t.1 0 381).toNatClampNeg by omega]
    exact ⟨by omega, D.2.2.1, by rw [D.2.2.2.1]; exact hl, D.2.2.2.2.1⟩
  · rw [mks_app]
    show ∀ m ∈ mks s ++ [], _
    rw [List.append_nil]
    exact h.2.2.2.2
theorem EAs.set {l : Nat} (h : EAs M v t s) (h0 : 0 ≤ (v.1 0 381).toInt) (hq : Q_x_X1_setLabel L1 L2 t pb u) (hl : pb.toInt = l) (h1 : (v.1 0 317).toInt ≤ l ∧ (l : Int) < M) (h2 : l ∉ mks s) : EAs M v u (s ++ [.inr (.inr l)]) ∧ u.1 0 = t.1 0 := by
  have T := KX.set (lo := M) (cl := 0) hq (by omega) (by omega)
  obtain ⟨a1, a2, a3, a4, a5⟩ := h
  have S := EF.set (lo := (v.1 0 317).toInt) (lc := (v.1 0 321).toInt) hq ⟨by omega, by omega⟩
  have z0 := T.2.2.2.1
  have z17 : u.1 0 317 = t.1 0 317 := congrFun z0 317
  have z81 : u.1 0 381 = t.1 0 381 := congrFun z0 381
  have n0 := natI h0
  have k1 : KY M (t.1 0 317).toInt t u := KY.set hq (by omega) (Or.inl (by omega))
  refine ⟨⟨?_, a2.tr S.1 (Int.le_refl _) (Int.le_refl _), by rw [z17]; exact a3, MTs.app s _ (MTs.ky k1 (Int.le_refl _) s _ (by omega) (fun m hm => T.2.2.1 m ?_) a4) ⟨fun q => ?_, trivial⟩, ?_⟩, z0⟩
  · rw [lgL_app, z81]
    show _ = _ + ((lgL s + (0 + 0) : Nat) : Int)
    omega
  · intro q
    have : m = l := by omega
    rw [this] at hm
    exact h2 hm
  · have := T.2.1 (by omega)
    rw [natC hl] at this
    rw [this]
    omega
  · rw [mks_app]
    intro m hm
    rcases List.mem_append.mp hm with q | q
    · exact a5 m q
    · have q : m ∈ [l] := q
      have := List.mem_singleton.mp q
      omega
theorem MTq.lw (h : MTq P u lo cl p a) (h1 : l0 ≤ lo) : MTq P u l0 cl p a := h.ky (KY.rf (l1 := (u.1 0 317).toInt)) (Int.le_refl _) h1 (Int.le_refl _)
theorem ldE_fw {tg y : Int32} {c : List EV} (h : tg ≠ 25 := by decide) : ldE (fwE tg y c) = 1 := if_neg h
theorem ldE_bw {tg y : Int32} {c : List EV} (h : tg ≠ 25 := by decide) : ldE (bwE tg y c) = 1 := if_neg h
theorem ldE_vx {tg x y : Int32} (h : tg ≠ 25 := by decide) : ldE (evx tg x y) = 1 := if_neg h
end VIS
