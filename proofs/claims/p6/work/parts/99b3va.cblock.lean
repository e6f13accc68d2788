/-! the class's deeds: blocks -/
/-- a statement, whose level's relation is R -/
def XS (L2 : List Nat) (R : MS → Bool → MS → Prop) (S : EvS) : Prop := ∀ (v u : MS) (e : PE) (P : Int32 × Int32 × Int32), R v false u → K_x_X5_stat v u → JC L2 e v → LBe v → T6 v → v.1 0 314 = 0 → (u.1 0 321).toInt ≤ 500 → (P.1 = v.1 0 331 ∧ P.2.1 = v.1 0 332 ∧ P.2.2 = v.1 0 333) → ∃ a, S e (knC v) (v.1 0 314) (v.1 0 305) = some (a, knC u, u.1 0 305) ∧ SS L2 e P v u a
def XMs (R : MS → Bool → MS → Prop) : Prop := ∀ v u : MS, R v false u → (v.1 0 321).toInt ≤ (u.1 0 321).toInt
def LPq (P : Int32 × Int32 × Int32) (v : MS) : Prop := P.1 = v.1 0 331 ∧ P.2.1 = v.1 0 332 ∧ P.2.2 = v.1 0 333
section VAB
variable {L1 L2 : List Nat} {P : Int32 × Int32 × Int32} {v u w x : MS} {a b : List EV} {e : PE} {pa pb pc1 pd r : Int32} {t : Bool} {E : EvE} {S : EvS} {R : MS → Bool → MS → Prop} {n : Nat}
theorem LPq.ss (h : LPq P v) (k : SS L2 e P v u a) : LPq P u := by
  obtain ⟨k1, k2, k3⟩ := k.2.2.2.1
  unfold LPq
  rw [k1, k2, k3]
  exact h
/-- names of a block are forgotten at its end -/
theorem SS.back (h : SS L2 e P (wA v 0 313 pa) u a) (B : LBe v) : SS L2 e P v (wA (wA u 0 312 (v.1 0 312)) 0 313 pb) a ∧ knC (wA (wA u 0 312 (v.1 0 312)) 0 313 pb) = knC v ∧ (wA (wA u 0 312 (v.1 0 312)) 0 313 pb).1 0 312 = v.1 0 312 ∧ (wA (wA u 0 312 (v.1 0 312)) 0 313 pb).1 0 305 = u.1 0 305 := by
  obtain ⟨⟨a1, a2, a3⟩, a4, a5, a6, a9, a10⟩ := h
  have J1 : JC L2 e (wA u 0 312 (v.1 0 312)) := a1.fr (FC.f (fl := [312]) (al := [0]) (FC.rf u) _ (by decide)) (RS.w0 RS.rf (by decide)) (by decide) (by decide) a1.2.1
  have J2 : JC L2 e (wA (wA u 0 312 (v.1 0 312)) 0 313 pb) := J1.fr (FC.f (fl := [313]) (al := [0]) (FC.rf _) _ (by decide)) (RS.w0 RS.rf (by decide)) (by decide) (by decide) J1.2.1
  have A0 : EA P v (wA v 0 313 pa) [] := EA.wr 313 pa
  have A1 : EA P u (wA u 0 312 (v.1 0 312)) [] := EA.wr 312 _
  have A2 : EA P (wA u 0 312 (v.1 0 312)) (wA (wA u 0 312 (v.1 0 312)) 0 313 pb) [] := EA.wr 313 pb
  have T := ((A0.tr a2 B.2.2.2).tr A1 B.2.2.2).tr A2 B.2.2.2
  simp only [List.nil_append, List.append_nil] at T
  have b0 := B.2.2.1.1
  have n0 := natI b0
  refine ⟨⟨⟨J2, T, ⟨a3.1, a3.2.1, B.2.2.1, a3.2.2.2⟩⟩, a4, a5, a6, Int.le_refl _, fun j hj => a10 j hj⟩, ?_, rfl, rfl⟩
  show lst (u.1 311) (v.1 0 312) = lst (v.1 311) (v.1 0 312)
  unfold lst
  refine List.map_congr_left fun j hj => a10 j ?_
  have := List.mem_range.mp hj
  show (j : Int) < (v.1 0 312).toInt
  omega
/-- a statement within another -/
theorem eInner (hS : XS L2 R S) (h : Q_x_X5_innerStat L1 L2 n R v false u) (J : JC L2 e v) (B : LBe v) (t6 : T6 v) (p0 : v.1 0 314 = 0) (cu : (u.1 0 321).toInt ≤ 500) (hP : LPq P v) : ∃ a, gInner S e (knC v) (v.1 0 314) (v.1 0 305) = some (a, knC v, u.1 0 305) ∧ SS L2 e P v u a ∧ knC u = knC v ∧ u.1 0 312 = v.1 0 312 := by
  obtain ⟨-, -, -, -, -, -, -, -, -, -, h⟩ := h
  rcases h with ⟨u9, -, f, -⟩ | ⟨u2, h2, k2, -, eu⟩
  · cases f
  have J0 : JC L2 e (wA v 0 313 (v.1 0 312)) := J.fr (FC.f (fl := [313]) (al := [0]) (FC.rf v) _ (by decide)) (RS.w0 RS.rf (by decide)) (by decide) (by decide) J.2.1
  have c2 : (u2.1 0 321).toInt ≤ 500 := by rw [eu] at cu; exact cu
  obtain ⟨a, x1, x2⟩ := hS (wA v 0 313 (v.1 0 312)) u2 e P h2 k2 J0 B t6 p0 c2 hP
  have Z := SS.back (pb := v.1 0 313) x2 B
  rw [eu]
  refine ⟨a, ?_, Z.1, Z.2.1, Z.2.2.1⟩
  have x1 : S e (knC v) (v.1 0 314) (v.1 0 305) = some (a, knC u2, u2.1 0 305) := x1
  unfold gInner
  rw [x1, Option.bind_some]
  rfl
/-- statements up to a closing brace -/
theorem eStats (hS : XS L2 R S) (hM : XMs R) (h : Q_x_X5_stats L1 L2 n R v false u) (J : JC L2 e v) (B : LBe v) (t6 : T6 v) (p0 : v.1 0 314 = 0) (cu : (u.1 0 321).toInt ≤ 500) (hP : LPq P v) (h1 : 1 ≤ (v.1 0 305).toInt) : ∃ a, gStats S 1502 e (knC v) (v.1 0 314) (v.1 0 305) = some (a, knC u, u.1 0 305) ∧ SS L2 e P v u a := by
  obtain ⟨-, -, -, -, -, -, -, -, -, -, ka, w2, hr, -, i5, i6, -, -, i26, -, hka, -, -, -, -, h6, h⟩ := h
  have inv : (v.1 0 305).toInt + ka.toInt ≤ (w2.1 0 305).toInt ∧ ((w2.1 0 321).toInt ≤ 500 → ∃ a f, SS L2 e P v w2 a ∧ 1500 - (w2.1 0 305).toInt < ((f : Nat) : Int) ∧ gStats S 1502 e (knC v) (v.1 0 314) (v.1 0 305) = (gStats S f e (knC w2) (v.1 0 314) (w2.1 0 305)).bind fun r => some (a ++ r.1, r.2)) := by
    refine RT.ind (fun (q : Int32 × MS) => (v.1 0 305).toInt + q.1.toInt ≤ (q.2.1 0 305).toInt ∧ ((q.2.1 0 321).toInt ≤ 500 → ∃ a f, SS L2 e P v q.2 a ∧ 1500 - (q.2.1 0 305).toInt < ((f : Nat) : Int) ∧ gStats S 1502 e (knC v) (v.1 0 314) (v.1 0 305) = (gStats S f e (knC q.2) (v.1 0 314) (q.2.1 0 305)).bind fun r => some (a ++ r.1, r.2))) hr ⟨?_, fun _ => ⟨[], 1502, SS.rf J B, ?_, ?_⟩⟩ ?_
    · have t0 : (0 : Int32).toInt = 0 := by decide
      show (v.1 0 305).toInt + (0 : Int32).toInt ≤ (v.1 0 305).toInt
      omega
    · show 1500 - (v.1 0 305).toInt < 1502
      omega
    · show _ = (gStats S 1502 e (knC v) (v.1 0 314) (v.1 0 305)).bind _
      cases gStats S 1502 e (knC v) (v.1 0 314) (v.1 0 305) with
      | none => rfl
      | some q => rfl
    · rintro ⟨k9, w1⟩ y - ⟨g1, I1⟩ hy
      obtain ⟨-, j5, j6, -, -, -, -, hk9, -, -, -, -, h61, lt, r7, hk, c33, u13, h13, k13, rfl⟩ := hy
      have g1 : (v.1 0 305).toInt + k9.toInt ≤ (w1.1 0 305).toInt := g1
      have hk9 : 0 ≤ k9.toInt ∧ k9.toInt ≤ 1500 := hk9
      have lt : k9.toInt < 1500 := lt
      have j5 : 0 ≤ (w1.1 0 305).toInt ∧ (w1.1 0 305).toInt ≤ 1500 := j5
      have j6 : 0 ≤ (w1.1 0 306).toInt ∧ (w1.1 0 306).toInt ≤ 40 := j6
      have c33 : r7.toInt ≠ 33 := c33
      have at1 : (w1.1 0 305).toInt + 1 ≤ (u13.1 0 305).toInt := k13.2.2.2.2.2.2.2.2.1
      have ke : (k9 + (1 : Int32)).toInt = k9.toInt + 1 := add_z rfl (by decide) (by omega) (by omega)
      refine ⟨?_, fun c8 => ?_⟩
      · show (v.1 0 305).toInt + (k9 + (1 : Int32)).toInt ≤ (u13.1 0 305).toInt
        omega
      · have c8 : (u13.1 0 321).toInt ≤ 500 := c8
        have m := hM _ _ h13
        obtain ⟨a, f, S1, F1, X1⟩ := I1 (Int.le_trans m c8)
        have S1 : SS L2 e P v w1 a := S1
        have F1 : 1500 - (w1.1 0 305).toInt < ((f : Nat) : Int) := F1
        have X1 : gStats S 1502 e (knC v) (v.1 0 314) (v.1 0 305) = (gStats S f e (knC w1) (v.1 0 314) (w1.1 0 305)).bind fun r => some (a ++ r.1, r.2) := X1
        have t1 : T6 w1 := t6.kt S1.2.2.1 j6.1
        obtain ⟨b, y1, y2⟩ := hS w1 u13 e P h13 k13 S1.1.1 S1.1.2.2 t1 (S1.2.1.trans p0) c8 (hP.ss S1)
        obtain ⟨f0, hf⟩ : ∃ f0, f = f0 + 1 := ⟨f - 1, by omega⟩
        refine ⟨a ++ b, f0, S1.tr y2 B, by show 1500 - (u13.1 0 305).toInt < _; omega, ?_⟩
        show _ = (gStats S f0 e (knC u13) (v.1 0 314) (u13.1 0 305)).bind _
        have ek := kdC hk S1.1.1
        rw [X1, hf]
        show (if (e.1 (w1.1 0 305)).toInt = 33 then _ else (S e (knC w1) (v.1 0 314) (w1.1 0 305)).bind _ : Option (List EV × List Int32 × Int32)).bind _ = _
        rw [if_neg (by rw [← ek]; exact c33)]
        rw [S1.2.1] at y1
        rw [y1, Option.bind_some]
        show ((gStats S f0 e (knC u13) (v.1 0 314) (u13.1 0 305)).bind _).bind _ = _
        cases gStats S f0 e (knC u13) (v.1 0 314) (u13.1 0 305) with
        | none => rfl
        | some q =>
          show some (a ++ (b ++ q.1), q.2) = some ((a ++ b) ++ q.1, q.2)
          rw [List.append_assoc]
  obtain ⟨g1, I1⟩ := inv
  rcases h with ⟨q, -, -⟩ | ⟨-, r7, hk, ⟨c33, -, eu⟩ | ⟨-, u9, -, f, -⟩⟩
  · have t0 : (1500 : Int32).toInt = 1500 := by decide
    omega
  · rw [← eu] at I1 hk i5
    obtain ⟨a, f, S1, F1, X1⟩ := I1 cu
    obtain ⟨f0, hf⟩ : ∃ f0, f = f0 + 1 := ⟨f - 1, by omega⟩
    refine ⟨a, ?_, S1⟩
    have ek := kdC hk S1.1.1
    rw [X1, hf]
    show (if (e.1 (u.1 0 305)).toInt = 33 then some ([], knC u, u.1 0 305) else _ : Option (List EV × List Int32 × Int32)).bind _ = _
    rw [if_pos (by rw [← ek]; exact c33), Option.bind_some, List.append_nil]
  · cases f
end VAB
