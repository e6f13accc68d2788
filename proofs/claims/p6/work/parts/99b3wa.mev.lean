/-! the reference's orders are the events': what is kept, what stands where -/
def oEv (q : EV) : Int32 :=
  if q.1 = 2 then 0 else if q.1 = 3 then 1 else if q.1 = 4 then 2 else if q.1 = 5 then 3 else if q.1 = 6 then 4 else if q.1 = 7 then 5 else if q.1 = 8 then 6 else if q.1 = 10 then 7 else if q.1 = 11 then 8 else if q.1 = 25 then 9 else if q.1 = 16 then (if q.2.2.1 = 1 then 22 else 10) else if q.1 = 17 then 11 else if q.1 = 18 then 23 else if q.1 = 19 then 12 else if q.1 = 24 then 13 else if q.1 = 21 then 14 else if q.1 = 1 ∨ q.1 = 32 ∨ q.1 = 33 then 15 else if q.1 = 22 then 16 else if q.1 = 23 then 17 else if q.1 = 12 then 18 else if q.1 = 13 then 19 else if q.1 = 14 then 20 else if q.1 = 20 then 21 else 24
/-- an order's argument -/
def moA (K : TK) (u : MS) (cl : Int) (q : EV) (p : Nat) : Prop :=
  if q.1 = 16 ∨ q.1 = 17 ∨ q.1 = 18 ∨ q.1 = 19 then (u.1 14 p).toInt = p + q.2.2.2.2.1
  else if q.1 = 5 ∨ q.1 = 6 then (q.2.1.toNatClampNeg : Int) < (u.1 0 27).toInt ∧ u.1 14 p = u.1 25 q.2.1.toNatClampNeg
  else if q.1 = 20 then ∃ z ∈ SC, z.2 = q.2.1 ∧ u.1 14 p = z.1
  else if q.1 = 21 then ∃ c : Nat, cl ≤ c ∧ (c : Int) < (u.1 0 39).toInt ∧ (u.1 38 c).toInt = p ∧ K.2.1 (u.1 35 c) = q.2.1
  else if q.1 = 2 ∨ q.1 = 3 ∨ q.1 = 4 ∨ q.1 = 7 then u.1 14 p = q.2.1
  else if q.1 = 30 ∨ q.1 = 31 then False
  else u.1 14 p = 0
def moE (K : TK) (u : MS) (cl : Int) (q : EV) (p : Nat) : Prop := (p : Int) + loE q ≤ (u.1 0 15).toInt ∧ (loE q = 0 ∨ (u.1 13 p = oEv q ∧ moA K u cl q p))
def MOq (K : TK) (u : MS) (cl : Int) (p : Nat) (a : List EV) : Prop := ∀ x q y, a = x ++ q :: y → moE K u cl q (p + loL x)
/-- kept: orders, calls, the globals' places -/
def OF (v u : MS) : Prop := ((v.1 0 15).toInt ≤ (u.1 0 15).toInt ∧ ∀ j : Nat, (j : Int) < (v.1 0 15).toInt → u.1 13 j = v.1 13 j ∧ u.1 14 j = v.1 14 j) ∧ ((v.1 0 39).toInt ≤ (u.1 0 39).toInt ∧ ∀ c : Nat, (c : Int) < (v.1 0 39).toInt → u.1 35 c = v.1 35 c ∧ u.1 38 c = v.1 38 c) ∧ (u.1 0 27 = v.1 0 27 ∧ u.1 25 = v.1 25)
/-- each call has its own order -/
def CJ (v u : MS) : Prop := (∀ c : Nat, (v.1 0 39).toInt ≤ c → (c : Int) < (u.1 0 39).toInt → ((v.1 0 15).toInt ≤ (u.1 38 c).toInt ∧ (u.1 38 c).toInt < (u.1 0 15).toInt) ∧ 0 ≤ (u.1 38 c).toInt ∧ u.1 13 (u.1 38 c).toNatClampNeg = 14) ∧ ∀ c d : Nat, (v.1 0 39).toInt ≤ c → (c : Int) < (u.1 0 39).toInt → (v.1 0 39).toInt ≤ d → (d : Int) < (u.1 0 39).toInt → u.1 38 c = u.1 38 d → c = d
def OA (K : TK) (v u : MS) (a : List EV) : Prop := (u.1 0 15).toInt = (v.1 0 15).toInt + loL a ∧ OF v u ∧ CJ v u ∧ MOq K u (v.1 0 39).toInt (v.1 0 15).toNatClampNeg a
theorem loL_nil : loL [] = 0 := rfl
theorem loE1 {t : Int32} {r : Int32 × Int32 × Int × Int × Int} (h0 : t ≠ 0 := by decide) (h4 : t ≠ 4 := by decide) (h9 : t ≠ 9 := by decide) : loE (t, r) = 1 := if_neg (fun q => q.elim h0 (fun q => q.elim (fun q => h4 q.1) h9))
section WAM
variable {K : TK} {v u w x y : MS} {cl cl' : Int} {q : EV} {p m : Nat} {a b c : List EV} {o z : Int32}
theorem OF.rf : OF v v := ⟨⟨Int.le_refl _, fun _ _ => ⟨rfl, rfl⟩⟩, ⟨Int.le_refl _, fun _ _ => ⟨rfl, rfl⟩⟩, rfl, rfl⟩
theorem OF.tr (h : OF v u) (k : OF u w) : OF v w := by
  obtain ⟨⟨a1, a2⟩, ⟨a3, a4⟩, a5, a6⟩ := h
  obtain ⟨⟨b1, b2⟩, ⟨b3, b4⟩, b5, b6⟩ := k
  refine ⟨⟨by omega, fun j hj => ?_⟩, ⟨by omega, fun c hc => ?_⟩, b5.trans a5, b6.trans a6⟩
  · have := a2 j hj
    have := b2 j (by omega)
    exact ⟨by rw [(b2 j (by omega)).1, (a2 j hj).1], by rw [(b2 j (by omega)).2, (a2 j hj).2]⟩
  · exact ⟨by rw [(b4 c (by omega)).1, (a4 c hc).1], by rw [(b4 c (by omega)).2, (a4 c hc).2]⟩
theorem CJ.rf : CJ v v := ⟨fun c h1 h2 => by omega, fun c d h1 h2 => by omega⟩
theorem CJ.tr (h : CJ v u) (k : CJ u w) (f : OF v u) (g : OF u w) : CJ v w := by
  obtain ⟨h1, h2⟩ := h
  obtain ⟨k1, k2⟩ := k
  have f1 := f.1.1
  have g1 := g.1.1
  have f3 := f.2.1.1
  have g3 := g.2.1.1
  have g4 := g.2.1.2
  have R : ∀ c : Nat, (v.1 0 39).toInt ≤ c → (c : Int) < (w.1 0 39).toInt → (((c : Int) < (u.1 0 39).toInt ∧ w.1 38 c = u.1 38 c ∧ (v.1 0 15).toInt ≤ (w.1 38 c).toInt ∧ (w.1 38 c).toInt < (u.1 0 15).toInt) ∨ ((u.1 0 39).toInt ≤ c ∧ (u.1 0 15).toInt ≤ (w.1 38 c).toInt ∧ (w.1 38 c).toInt < (w.1 0 15).toInt)) ∧ 0 ≤ (w.1 38 c).toInt ∧ w.1 13 (w.1 38 c).toNatClampNeg = 14 := fun c c1 c2 => by
    by_cases e : (c : Int) < (u.1 0 39).toInt
    · have := h1 c c1 e
      rw [(g4 c e).2]
      have nc := natI this.2.1
      refine ⟨Or.inl ⟨e, rfl, this.1.1, this.1.2⟩, this.2.1, ?_⟩
      rw [(g.1.2 _ (by omega)).1]
      exact this.2.2
    · have := k1 c (by omega) c2
      exact ⟨Or.inr ⟨by omega, this.1⟩, this.2⟩
  refine ⟨fun c c1 c2 => ?_, fun c d c1 c2 d1 d2 e => ?_⟩
  · obtain ⟨R1, R2⟩ := R c c1 c2
    rcases R1 with ⟨q1, q2, q3, q4⟩ | ⟨q1, q2, q3⟩
    · exact ⟨⟨q3, by omega⟩, R2⟩
    · exact ⟨⟨by omega, q3⟩, R2⟩
  · rcases (R c c1 c2).1 with ⟨q1, q2, q3, q4⟩ | ⟨q1, q2, q3⟩
    · rcases (R d d1 d2).1 with ⟨r1, r2, r3, r4⟩ | ⟨r1, r2, r3⟩
      · exact h2 c d c1 q1 d1 r1 (by rw [← q2, ← r2]; exact e)
      · rw [e] at q4
        omega
    · rcases (R d d1 d2).1 with ⟨r1, r2, r3, r4⟩ | ⟨r1, r2, r3⟩
      · rw [e] at q2
        omega
      · exact k2 c d q1 c2 r1 d2 e
theorem moE.up (h : moE K u cl q p) (k : OF u w) (hc : cl' ≤ cl) : moE K w cl' q p := by
  obtain ⟨a1, a2⟩ := h
  obtain ⟨⟨b1, b2⟩, ⟨b3, b4⟩, b5, b6⟩ := k
  refine ⟨by omega, ?_⟩
  by_cases z : loE q = 0
  · exact Or.inl z
  · rcases a2 with a2 | a2
    · exact absurd a2 z
    have J := b2 p (by omega)
    rw [J.1]
    refine Or.inr ⟨a2.1, ?_⟩
    have m := a2.2
    unfold moA at m ⊢
    rw [J.2, b5, b6]
    by_cases c1 : q.1 = 16 ∨ q.1 = 17 ∨ q.1 = 18 ∨ q.1 = 19
    · rw [if_pos c1] at m ⊢; exact m
    rw [if_neg c1] at m ⊢
    by_cases c2 : q.1 = 5 ∨ q.1 = 6
    · rw [if_pos c2] at m ⊢; exact m
    rw [if_neg c2] at m ⊢
    by_cases c3 : q.1 = 20
    · rw [if_pos c3] at m ⊢; exact m
    rw [if_neg c3] at m ⊢
    by_cases c4 : q.1 = 21
    · rw [if_pos c4] at m ⊢
      obtain ⟨c, m1, m2, m3, m4⟩ := m
      have C := b4 c m2
      exact ⟨c, by omega, by omega, by rw [C.2]; exact m3, by rw [C.1]; exact m4⟩
    rw [if_neg c4] at m ⊢
    exact m
theorem MOq.up (h : MOq K u cl p a) (k : OF u w) (hc : cl' ≤ cl) : MOq K w cl' p a := fun x q y e => (h x q y e).up k hc
theorem MOq.nil : MOq K u cl p [] := fun x q y h => by
  have := congrArg List.length h
  simp at this
theorem MOq.one (h : moE K u cl q p) : MOq K u cl p [q] := fun x q' y h' => by
  cases x with
  | nil =>
    have e := (List.cons.inj h').1
    rw [← e]
    exact h
  | cons z x =>
    have e := (List.cons.inj h').2
    have := congrArg List.length e
    simp at this
theorem MOq.app (h : MOq K u cl p a) (k : MOq K u cl (p + loL a) b) : MOq K u cl p (a ++ b) := fun x q y e => by
  rcases List.append_eq_append_iff.mp e with ⟨z, e1, e2⟩ | ⟨z, e1, e2⟩
  · have := k z q y e2
    rw [e1, loL_app, ← Nat.add_assoc]
    exact this
  · cases z with
    | nil =>
      rw [List.append_nil] at e1
      rw [List.nil_append] at e2
      have := k [] q y e2.symm
      rw [← e1]
      exact this
    | cons z0 z =>
      rw [List.cons_append] at e2
      have e3 := List.cons.inj e2
      exact h x q z (by rw [e1, e3.1])
theorem OA.rf : OA K v v [] := ⟨by rw [loL_nil]; omega, OF.rf, CJ.rf, MOq.nil⟩
theorem OA.tr (h : OA K v u a) (k : OA K u w b) (h0 : 0 ≤ (v.1 0 15).toInt) : OA K v w (a ++ b) := by
  obtain ⟨a1, a2, a3, a4⟩ := h
  obtain ⟨b1, b2, b3, b4⟩ := k
  refine ⟨by rw [loL_app]; omega, a2.tr b2, a3.tr b3 a2 b2, (a4.up b2 (Int.le_refl _)).app ?_⟩
  have n1 := natI h0
  have n2 := natI (a := u.1 0 15) (by omega)
  rw [show (v.1 0 15).toNatClampNeg + loL a = (u.1 0 15).toNatClampNeg by omega]
  exact b4.up OF.rf a2.2.1.1
theorem OF.fg {fl al : List Nat} (f : FG fl al v u) (h1 : 15 ∉ fl ∧ 39 ∉ fl ∧ 27 ∉ fl := by decide) (h2 : 13 ∉ al ∧ 14 ∉ al ∧ 35 ∉ al ∧ 38 ∉ al ∧ 25 ∉ al := by decide) : OF v u := by
  have A : ∀ {a : Nat}, a ∉ al → u.1 a = v.1 a := fun h => f.2.2 _ h
  exact ⟨⟨by rw [f.2.1 15 h1.1]; exact Int.le_refl _, fun j _ => ⟨by rw [A h2.1], by rw [A h2.2.1]⟩⟩, ⟨by rw [f.2.1 39 h1.2.1]; exact Int.le_refl _, fun c _ => ⟨by rw [A h2.2.2.1], by rw [A h2.2.2.2.1]⟩⟩, f.2.1 27 h1.2.2, A h2.2.2.2.2⟩
theorem OA.of0 (f : OF v u) (h1 : u.1 0 15 = v.1 0 15) (h2 : u.1 0 39 = v.1 0 39) : OA K v u [] := ⟨by rw [h1, loL_nil]; omega, f, ⟨fun c c1 c2 => by rw [h2] at c2; omega, fun c d c1 c2 => by rw [h2] at c2; omega⟩, MOq.nil⟩
theorem OA.fg {fl al : List Nat} (f : FG fl al v u) (h1 : 15 ∉ fl ∧ 39 ∉ fl ∧ 27 ∉ fl := by decide) (h2 : 13 ∉ al ∧ 14 ∉ al ∧ 35 ∉ al ∧ 38 ∉ al ∧ 25 ∉ al := by decide) : OA K v u [] := OA.of0 (OF.fg f h1 h2) (f.2.1 15 h1.1) (f.2.1 39 h1.2.1)
/-- an order is said -/
theorem OA.say (h13 : u.1 13 = upd (v.1 13) (v.1 0 15).toNatClampNeg o) (h14 : u.1 14 = upd (v.1 14) (v.1 0 15).toNatClampNeg z) (h15 : u.1 0 15 = v.1 0 15 + 1) (hb : 0 ≤ (v.1 0 15).toInt ∧ (v.1 0 15).toInt ≤ 100000) (h39 : u.1 0 39 = v.1 0 39) (h27 : u.1 0 27 = v.1 0 27) (ha : u.1 35 = v.1 35 ∧ u.1 38 = v.1 38 ∧ u.1 25 = v.1 25) (l1 : loE q = 1) (ho : oEv q = o) (hm : moA K u (v.1 0 39).toInt q (v.1 0 15).toNatClampNeg) : OA K v u [q] := by
  have i15 : (u.1 0 15).toInt = (v.1 0 15).toInt + 1 := by rw [h15]; exact add_z rfl (by decide) (by omega) (by omega)
  have n0 := natI hb.1
  refine ⟨by rw [loL_cons, l1, loL_nil]; omega, ⟨⟨by omega, fun j hj => ?_⟩, ⟨by rw [h39]; exact Int.le_refl _, fun c _ => ⟨by rw [ha.1], by rw [ha.2.1]⟩⟩, h27, ha.2.2⟩, ⟨fun c c1 c2 => by rw [h39] at c2; omega, fun c d c1 c2 => by rw [h39] at c2; omega⟩, MOq.one ⟨by rw [l1]; omega, Or.inr ⟨?_, hm⟩⟩⟩
  · have : j ≠ (v.1 0 15).toNatClampNeg := by omega
    exact ⟨by rw [h13]; exact updN_ this, by rw [h14]; exact updN_ this⟩
  · rw [h13, ho]
    exact updS
/-- an event that is no order -/
theorem OA.no (l0 : loE q = 0) (h0 : 0 ≤ (v.1 0 15).toInt) : OA K v v [q] := by
  have n0 := natI h0
  exact ⟨by rw [loL_cons, l0, loL_nil]; omega, OF.rf, CJ.rf, MOq.one ⟨by rw [l0]; omega, Or.inl l0⟩⟩
/-- an argument is changed elsewhere -/
theorem moE.pt (h : moE K u cl q p) (hm : loE q = 0 ∨ m ≠ p) : moE K (wA u 14 m z) cl q p := by
  refine ⟨h.1, ?_⟩
  rcases hm with hm | hm
  · exact Or.inl hm
  refine h.2.imp id (fun k => ⟨k.1, ?_⟩)
  have e : (wA u 14 m z).1 14 p = u.1 14 p := show upd (u.1 14) m z p = _ from updN_ (fun q => hm q.symm)
  have k2 := k.2
  unfold moA at k2 ⊢
  rw [e]
  exact k2
theorem MOq.pt (h : MOq K u cl p a) (hm : m < p ∨ p + loL a ≤ m) : MOq K (wA u 14 m z) cl p a := fun x q y e => (h x q y e).pt (by
  by_cases l0 : loE q = 0
  · exact Or.inl l0
  · refine Or.inr ?_
    have l := congrArg loL e
    rw [loL_app, loL_cons] at l
    omega)
theorem OF.pt (h : OF v u) (h0 : (v.1 0 15).toInt ≤ m) : OF v (wA u 14 m z) := by
  obtain ⟨⟨a1, a2⟩, a3, a5, a6⟩ := h
  refine ⟨⟨a1, fun j hj => ⟨(a2 j hj).1, ?_⟩⟩, a3, a5, a6⟩
  rw [← (a2 j hj).2]
  exact show upd (u.1 14) m z j = _ from updN_ (by omega)
/-- a jump's order, its argument patched -/
theorem moE.jump {tg y9 : Int32} {d1 d2 d3 : Int} (ht : tg = 16 ∨ tg = 17 ∨ tg = 18 ∨ tg = 19) (h0 : (p : Int) < (u.1 0 15).toInt) (h1 : u.1 13 p = oEv (tg, 0, y9, d1, d2, d3)) (h2 : (u.1 14 p).toInt = p + d2) : moE K u cl (tg, 0, y9, d1, d2, d3) p := by
  have l1 : loE (tg, 0, y9, d1, d2, d3) = 1 := by rcases ht with rfl | rfl | rfl | rfl <;> exact loE1
  refine ⟨by rw [l1]; omega, Or.inr ⟨h1, ?_⟩⟩
  unfold moA
  rw [if_pos ht]
  exact h2
end WAM
