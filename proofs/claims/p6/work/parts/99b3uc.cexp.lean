/-! the class's deeds: steps of an expression -/
def knC (v : MS) : List Int32 := lst (v.1 311) (v.1 0 312)
def LBe (v : MS) : Prop := (0 ≤ (v.1 0 317).toInt ∧ (v.1 0 317).toInt ≤ 4 * (v.1 0 305).toInt + 8) ∧ (v.1 0 305).toInt ≤ 1500 ∧ (0 ≤ (v.1 0 312).toInt ∧ (v.1 0 312).toInt ≤ 500) ∧ 0 ≤ (v.1 0 381).toInt ∧ 0 ≤ (v.1 0 321).toInt
def EAx (x : Int) (P : Int32 × Int32 × Int32) (v u : MS) (a : List EV) : Prop := (u.1 0 381).toInt = (v.1 0 381).toInt + ldL a ∧ EFx (v.1 0 317).toInt (v.1 0 321).toInt x v u ∧ (u.1 0 317).toInt - (u.1 0 305).toInt ≤ (v.1 0 317).toInt - (v.1 0 305).toInt ∧ MTq P u (v.1 0 317).toInt (v.1 0 321).toInt (v.1 0 381).toNatClampNeg a
abbrev EA (P : Int32 × Int32 × Int32) (v u : MS) (a : List EV) : Prop := EAx (-1) P v u a
/-- labels against tokens: s tokens more -/
def DS (v u : MS) (s : Int) : Prop := (u.1 0 317).toInt - (u.1 0 305).toInt + s ≤ (v.1 0 317).toInt - (v.1 0 305).toInt
section EAS
variable {L1 L2 : List Nat} {P : Int32 × Int32 × Int32} {v u w : MS} {a b : List EV} {e : PE} {pa pb pc1 r : Int32} {t : Bool} {f : PS → PX PS} {G : GH}
theorem OKC.ok (h : OKC G L2 e f v false u) : JC L2 e u ∧ KP v u := by
  rcases h with ⟨_, _, j, k⟩ | ⟨h, _⟩
  · exact ⟨j, k⟩
  · cases h
theorem EAx.tr {x x' : Int} (h : EAx x P v u a) (k : EAx x' P u w b) (h0 : 0 ≤ (v.1 0 381).toInt ∧ 0 ≤ (v.1 0 321).toInt) (hx : x' = x ∨ x' = -1 ∨ (v.1 0 321).toInt ≤ x') (hy : x' < (v.1 0 321).toInt) : EAx x P v w (a ++ b) := by
  obtain ⟨a1, a2, a3, a4⟩ := h
  obtain ⟨b1, b2, b3, b4⟩ := k
  have m1 := a2.2.2.1
  have m2 := a2.2.2.2.2.1
  refine ⟨by rw [ldL_app]; omega, EFx.tr a2 b2 m1 m2 hx, by omega, (a4.up b2 (Int.le_refl _) (Int.le_refl _) (Int.le_refl _) (Int.le_refl _) hy).app ?_⟩
  have n1 := natI h0.1
  have n2 := natI (a := u.1 0 381) (by omega)
  rw [show (v.1 0 381).toNatClampNeg + ldL a = (u.1 0 381).toNatClampNeg by omega]
  exact fun x q y e => (b4 x q y e).up (EF.rf (lo := (w.1 0 317).toInt) (lc := (w.1 0 321).toInt)) (Int.le_refl _) (Int.le_refl _) m1 m2 (by omega)
theorem EA.tr (h : EA P v u a) (k : EA P u w b) (h0 : 0 ≤ (v.1 0 381).toInt ∧ 0 ≤ (v.1 0 321).toInt) : EA P v w (a ++ b) := EAx.tr h k h0 (Or.inl rfl) (by omega)
theorem EA.fc {fl al : List Nat} (f : FC fl al v u) (h1 : 381 ∉ fl ∧ 317 ∉ fl ∧ 321 ∉ fl := by decide) (h2 : 378 ∉ al ∧ 379 ∉ al ∧ 380 ∉ al ∧ 316 ∉ al ∧ 318 ∉ al ∧ 320 ∉ al := by decide) (h3 : (v.1 0 305).toInt ≤ (u.1 0 305).toInt) : EA P v u [] :=
  ⟨by rw [f.2.1 381 h1.1, ldL_nil]; omega, EF.fc f h1 h2, by rw [f.2.1 317 h1.2.1]; omega, MTq.nil⟩
theorem EA.wr (k : Nat) (x : Int32) (h : k ≠ 381 ∧ k ≠ 317 ∧ k ≠ 321 ∧ k ≠ 305 := by decide) : EA P v (wA v 0 k x) [] := by
  have E : ∀ j, j ≠ k → (wA v 0 k x).1 0 j = v.1 0 j := fun j hj => pk_un hj
  have e1 := E 381 (fun q => h.1 q.symm)
  have e2 := E 317 (fun q => h.2.1 q.symm)
  have e3 := E 321 (fun q => h.2.2.1 q.symm)
  have e4 := E 305 (fun q => h.2.2.2 q.symm)
  refine ⟨by rw [e1, ldL_nil]; omega, ⟨by rw [e1]; exact Int.le_refl _, fun _ _ => ⟨rfl, rfl, rfl⟩, by rw [e2]; exact Int.le_refl _, fun _ _ => rfl, by rw [e3]; exact Int.le_refl _, fun _ _ _ => ⟨rfl, rfl⟩⟩, by rw [e2, e4]; exact Int.le_refl _, MTq.nil⟩
/-- a deed that is its event -/
def plE (t : Int32) : Prop := t ≠ 25 ∧ t ≠ 16 ∧ t ≠ 17 ∧ t ≠ 18 ∧ t ≠ 19 ∧ t ≠ 30 ∧ t ≠ 31 ∧ t ≠ 32 ∧ t ≠ 21 ∧ t ≠ 33
theorem EA.add {y : Int32} (h : Q_x_X1_add L1 L2 v pa pb pc1 u) (hp : plE pa) (hy : pc1 = if pa = 4 then 0 else y) : EA P v u [evx pa pb y] := by
  have A := EF.add (lo := (v.1 0 317).toInt) (lc := (v.1 0 321).toInt) h
  obtain ⟨-, -, -, -, e⟩ := h
  obtain ⟨p1, p2, p3, p4, p5, p6, p7, p8, p9, p10⟩ := hp
  have e17 : u.1 0 317 = v.1 0 317 := by rw [e]; rfl
  have e05 : u.1 0 305 = v.1 0 305 := by rw [e]; rfl
  have l1 : ldE (evx pa pb y) = 1 := if_neg p1
  have n := natI A.2.2.2.2.2
  refine ⟨by rw [ldL_cons, l1, ldL_nil]; omega, A.1, by rw [e17, e05]; exact Int.le_refl _, MTq.one ⟨by rw [l1]; omega, ?_⟩⟩
  show if pa = 25 then True else if pa = 16 ∨ pa = 17 ∨ pa = 18 ∨ pa = 19 then _ else if pa = 30 then _ else if pa = 31 then _ else if pa = 32 then _ else if pa = 33 then _ else if pa = 21 then _ else _
  rw [if_neg p1, if_neg (fun q => q.elim p2 (fun q => q.elim p3 (fun q => q.elim p4 p5))), if_neg p6, if_neg p7, if_neg p8, if_neg p10, if_neg p9]
  exact ⟨A.2.2.1, A.2.2.2.1, A.2.2.2.2.1.trans hy⟩
theorem LBe.tr (h : LBe v) (k : EA P v u a) (h1 : (u.1 0 305).toInt ≤ 1500) (h2 : u.1 0 312 = v.1 0 312) : LBe u := by
  obtain ⟨⟨b1, b2⟩, b3, b4, b5, b6⟩ := h
  obtain ⟨k1, k2, k3, k4⟩ := k
  have := k2.2.2.1
  have := k2.2.2.2.2.1
  exact ⟨⟨by omega, by omega⟩, h1, by rw [h2]; exact b4, by omega, by omega⟩
theorem gslC (h : 0 ≤ (v.1 0 312).toInt ∧ (v.1 0 312).toInt ≤ 500) : gsl (knC v) (v.1 0 314) = v.1 0 312 + v.1 0 314 := by
  unfold gsl knC lst
  rw [List.length_map, List.length_range]
  congr 1
  have n := natI h.1
  exact Int32.toInt_inj.mp (by rw [nI_Z (by omega)]; exact n)
theorem knC_fr {fl al : List Nat} (f : FC fl al v u) (h1 : 312 ∉ fl := by decide) (h2 : 311 ∉ al := by decide) : knC u = knC v := by
  unfold knC
  rw [f.2.1 312 h1, f.2.2 311 ⟨by decide, h2⟩]
/-- what stands there -/
theorem kdC (h : Q_x_X9_kind L1 L2 v r) (J : JC L2 e v) : r = e.1 (v.1 0 305) := cKind (G := (false, false, false, (0, fun _ => 0), [])) h J
theorem vlC (h : Q_x_X9_value L1 L2 v r) (J : JC L2 e v) : r = e.2.1 (v.1 0 305) := cValue (G := (false, false, false, (0, fun _ => 0), [])) h J
def G0 : GH := (false, false, false, (0, fun _ => 0), [])
/-- tokens -/
theorem eTake (h : Q_x_X9_take L1 L2 v false u) (k : K_x_X9_take v u) (J : JC L2 e v) : JC L2 e u ∧ EA P v u [] ∧ u.1 0 305 = v.1 0 305 + 1 := by
  refine ⟨(cTake (G := G0) h (fun _ => k) J).ok.1, EA.fc k.1 (h3 := by have := k.2.2.1; omega), ?_⟩
  obtain ⟨-, -, -, r3, -, -, h⟩ := h
  rcases h with ⟨-, -, e⟩ | ⟨-, r11, -, u9, -, q, -⟩
  · rw [e]; rfl
  · cases q
theorem eOpen (h : Q_x_X9_open L1 L2 v false u) (k : K_x_X9_open v u) (J : JC L2 e v) : JC L2 e u ∧ EA P v u [] ∧ u.1 0 305 = v.1 0 305 + 1 := by
  refine ⟨(cOpen (G := G0) h (fun _ => k) J).ok.1, EA.fc k.1 (h3 := by have := k.2.2.2.2.1; omega), ?_⟩
  obtain ⟨-, -, -, -, h⟩ := h
  rcases h with ⟨-, r5, -, u9, -, q, -⟩ | ⟨-, r12, -, -, ⟨-, -, e⟩ | ⟨-, r20, -, u9, -, q, -⟩⟩
  · cases q
  · rw [e]; rfl
  · cases q
theorem eExp {m : Int} (hm : pa.toInt = m) (h : Q_x_X9_expect L1 L2 v pa false u) (k : K_x_X9_expect v pa u) (J : JC L2 e v) : JC L2 e u ∧ EA P v u [] ∧ gTok e m (v.1 0 305) = some (u.1 0 305) := by
  refine ⟨(cExp (G := G0) h (fun _ => k) J).ok.1, EA.fc k.1 (h3 := by have := k.2.2.1; omega), ?_⟩
  obtain ⟨-, -, -, r3, hk, h⟩ := h
  have ek := kdC hk J
  rcases h with ⟨c, r8, -, -, ⟨-, -, e⟩ | ⟨-, r15, -, u9, -, q, -⟩⟩ | ⟨-, r22, -, ⟨-, r27, -, u9, -, q, -⟩ | ⟨-, r27, -, u9, -, q, -⟩⟩
  · unfold gTok
    rw [← ek, if_pos (by omega), e]
    rfl
  · cases q
  · cases q
  · cases q
theorem eClose (h : Q_x_X9_close L1 L2 v u) (k : K_x_X9_close v u) (J : JC L2 e v) : JC L2 e u ∧ EA P v u [] ∧ u.1 0 305 = v.1 0 305 := by
  have e5 : u.1 0 305 = v.1 0 305 := k.1.2.1 305 (by decide)
  exact ⟨J.fr k.1 k.2.2.2 (by decide) (by decide) (by rw [e5, k.1.2.1 307 (by decide)]; exact J.2.1), EA.fc k.1 (h3 := by rw [e5]; exact Int.le_refl _), e5⟩
end EAS
