/-! the class's deeds: a call -/
section UIC
variable {L1 L2 : List Nat} {P : Int32 × Int32 × Int32} {v u w x z : MS} {a b : List EV} {e : PE} {pa pb pc1 pd r : Int32} {t : Bool} {E : EvE} {R : MS → Int32 → Bool → MS → Prop}
theorem AGx.tr {c : Nat} (h : AGx L2 e P c v u a) (k : AGx L2 e P c u w b) (B : LBe v) (hc : (c : Int) < (v.1 0 321).toInt) : AGx L2 e P c v w (a ++ b) :=
  ⟨k.1, EAx.tr h.2.1 k.2.1 B.2.2.2 (Or.inl rfl) hc, k.2.2.1, k.2.2.2.1.trans h.2.2.2.1, k.2.2.2.2.1.trans h.2.2.2.2.1, k.2.2.2.2.2.trans h.2.2.2.2.2⟩
/-- the arguments so far, and those to come -/
def gRest (E : EvE) (f : Nat) (k : Int) (e : PE) (kn : List Int32) (pb : Int32) (acc : List EV) (i : Int32) : Option (Int × List EV × Int32) :=
  if (e.1 i).toInt = 37 then (gArgs E f k e kn pb (i + 1)).bind fun r => some (r.1, acc ++ r.2.1, r.2.2) else some (k, acc, i)
theorem gArgs_s {E : EvE} {f : Nat} {k : Int} {kn : List Int32} {pb i j : Int32} (h : E true e kn pb i = some (a, j)) : gArgs E (f + 1) k e kn pb i = gRest E f (k + 1) e kn (pb + 1) (a ++ [evx 4 (gsl kn pb) 0]) j := by
  show (E true e kn pb i).bind _ = _
  rw [h, Option.bind_some]
  rfl
theorem gRest_s {E : EvE} {f : Nat} {k : Int} {kn : List Int32} {pb i j : Int32} {acc : List EV} (h37 : (e.1 i).toInt = 37) (h : E true e kn pb (i + 1) = some (a, j)) : gRest E (f + 1) k e kn pb acc i = gRest E f (k + 1) e kn (pb + 1) (acc ++ (a ++ [evx 4 (gsl kn pb) 0])) j := by
  show (if (e.1 i).toInt = 37 then _ else _) = _
  rw [if_pos h37, gArgs_s h]
  unfold gRest
  by_cases q : (e.1 j).toInt = 37
  · rw [if_pos q, if_pos q]
    cases gArgs E f (k + 1) e kn (pb + 1) (j + 1) with
    | none => rfl
    | some r => simp only [Option.bind_some, List.append_assoc]
  · rw [if_neg q, if_neg q]
    rfl
theorem eCallEnd {c : Nat} {nm : Int32} {n : Int} (hc : pa.toInt = c) (S : AGx L2 e P c x z a) (ex : EA P v x []) (B : LBe v) (hv : (v.1 0 321).toInt = c) (h18 : z.1 318 c = nm) (h20 : (z.1 320 c).toInt = n) (cz : (v.1 0 321).toInt < (z.1 0 321).toInt) (kx : knC x = knC v) (x12 : x.1 0 312 = v.1 0 312) {y y2 : MS} {m : Int32} (h1 : Q_x_X9_expect L1 L2 z 31 false y) (k1 : K_x_X9_expect z 31 y) (h2 : Q_x_X9_close L1 L2 y y2) (k2 : K_x_X9_close y y2) (h3 : Q_x_X1_add L1 L2 (wA y2 0 314 (y2.1 0 314 - m)) 21 pa pb u) (k3 : K_x_X1_add (wA y2 0 314 (y2.1 0 314 - m)) 21 pa pb u) (hm : z.1 0 314 - m = v.1 0 314) :
    gTok e 31 (z.1 0 305) = some (u.1 0 305) ∧ ES L2 e P v u (a ++ [(21, nm, pb, n, 0, 0)]) ∧ (DS v x 1 → DS v u 1) := by
  have Y := ES.exp (P := P) (m := 31) (by decide) h1 k1 S.1 S.2.2.1
  have Z := ES.close (P := P) h2 k2 Y.1.1 Y.1.2.2.1
  have B2 : LBe (wA y2 0 314 (y2.1 0 314 - m)) := Z.1.2.2.1
  have J2 : JC L2 e (wA y2 0 314 (y2.1 0 314 - m)) := Z.1.1.w14
  have T0 : EAx (-1) P v z a := EAx.tr0 ex S.2.1 B.2.2.2.1 (Or.inr (Or.inr (by omega)))
  have T1 := EA.tr (EA.tr (EA.tr T0 Y.1.2.1 B.2.2.2) Z.1.2.1 B.2.2.2) (EA.wr (P := P) (v := y2) 314 (y2.1 0 314 - m)) B.2.2.2
  simp only [List.append_nil] at T1
  have A := EF.add (lo := (v.1 0 317).toInt) (lc := (v.1 0 321).toInt) h3
  have u17 : u.1 0 317 = y2.1 0 317 := k3.1.2.1 317 (by decide)
  have u05 : u.1 0 305 = y2.1 0 305 := k3.1.2.1 305 (by decide)
  have u21 : u.1 0 321 = y2.1 0 321 := k3.1.2.1 321 (by decide)
  have u18 : u.1 318 = y2.1 318 := k3.1.2.2 318 (by decide)
  have u20 : u.1 320 = y2.1 320 := k3.1.2.2 320 (by decide)
  have y18 : y2.1 318 = z.1 318 := (k2.1.2.2 318 (by decide)).trans (k1.1.2.2 318 (by decide))
  have y20 : y2.1 320 = z.1 320 := (k2.1.2.2 320 (by decide)).trans (k1.1.2.2 320 (by decide))
  have y21 : y2.1 0 321 = z.1 0 321 := (k2.1.2.1 321 (by decide)).trans (k1.1.2.1 321 (by decide))
  have nc : pa.toNatClampNeg = c := natC hc
  have A' := EF.add (lo := (y2.1 0 317).toInt) (lc := (y2.1 0 321).toInt) h3
  have l1 : ldE (21, nm, pb, n, 0, 0) = 1 := rfl
  have n0 := natI B.2.2.2.1
  have e81 : (y2.1 0 381).toInt = (v.1 0 381).toInt + ldL a := T1.1
  have a81 : (u.1 0 381).toInt = (y2.1 0 381).toInt + 1 := A.2.1
  have nn := natI (a := y2.1 0 381) (by omega)
  have ep : (v.1 0 381).toNatClampNeg + ldL a = (y2.1 0 381).toNatClampNeg := by omega
  have T : EA P v u (a ++ [(21, nm, pb, n, 0, 0)]) := by
    refine ⟨by rw [ldL_app, ldL_cons, l1, ldL_nil]; omega, EF.tr T1.2.1 A.1 (Int.le_refl _) (Int.le_refl _), ?_, (T1.2.2.2.up A'.1 (Int.le_refl _) (Int.le_refl _) (Int.le_refl _) (Int.le_refl _) (by have := B.2.2.2.2; omega)).app (MTq.one ⟨?_, ?_⟩)⟩
    · have := T1.2.2.1
      have q1 : (y2.1 0 317).toInt - (y2.1 0 305).toInt ≤ (v.1 0 317).toInt - (v.1 0 305).toInt := T1.2.2.1
      rw [u17, u05]
      exact q1
    · rw [l1, ep]
      omega
    · rw [ep]
      show u.1 378 _ = 21 ∧ u.1 380 _ = pb ∧ ((v.1 0 321).toInt ≤ (u.1 379 _).toInt ∧ 0 ≤ (u.1 379 _).toInt ∧ (u.1 379 _).toInt < (u.1 0 321).toInt) ∧ u.1 318 (u.1 379 _).toNatClampNeg = nm ∧ (u.1 320 (u.1 379 _).toNatClampNeg).toInt = n
      have d1 : u.1 378 (y2.1 0 381).toNatClampNeg = 21 := A.2.2.1
      have d2 : u.1 379 (y2.1 0 381).toNatClampNeg = pa := A.2.2.2.1
      have d3 : u.1 380 (y2.1 0 381).toNatClampNeg = pb := A.2.2.2.2.1
      rw [d1, d2, d3, nc, u18, u20, y18, y20, u21, y21]
      exact ⟨rfl, rfl, ⟨by omega, by omega, by omega⟩, h18, h20⟩
  refine ⟨?_, ⟨?_, T, ?_, ?_, ?_, ?_⟩, ?_⟩
  · rw [Y.2]
    exact congrArg some (u05.trans Z.2).symm
  · exact J2.fr k3.1 k3.2.2.2 (by decide) (by decide) (by rw [k3.1.2.1 305 (by decide), k3.1.2.1 307 (by decide)]; exact J2.2.1)
  · exact B.tr T (by rw [u05]; exact Z.1.2.2.1.2.1) (by rw [k3.1.2.1 312 (by decide)]; exact (Z.1.2.2.2.2.2.trans Y.1.2.2.2.2.2).trans (S.2.2.2.2.1.trans x12))
  · exact (knC_fr k3.1).trans ((Z.1.2.2.2.1.trans Y.1.2.2.2.1).trans (S.2.2.2.1.trans kx))
  · rw [k3.1.2.1 314 (by decide)]
    show y2.1 0 314 - m = _
    rw [Z.1.2.2.2.2.1, Y.1.2.2.2.2.1]
    exact hm
  · rw [k3.1.2.1 312 (by decide)]
    exact (Z.1.2.2.2.2.2.trans Y.1.2.2.2.2.2).trans (S.2.2.2.2.1.trans x12)
  · intro d
    have q1 : (z.1 0 317).toInt - (z.1 0 305).toInt ≤ (x.1 0 317).toInt - (x.1 0 305).toInt := S.2.1.2.2.1
    have q2 := Y.1.2.1.2.2.1
    have q3 := Z.1.2.1.2.2.1
    unfold DS at d ⊢
    rw [u17, u05]
    omega
end UIC
