/-! leaps lead to places of their own list, in deeds and in words alike -/
def isJ (q : EV) : Prop := q.1 = 16 ∨ q.1 = 17 ∨ q.1 = 18 ∨ q.1 = 19 ∨ q.1 = 33
def Pfx (a : List EV) (m n : Int) : Prop := ∃ x y, a = x ++ y ∧ (ldL x : Int) = m ∧ (lwL x : Int) = n
def JLt (T : Int → Int → Prop) (a : List EV) : Prop := ∀ x q y, a = x ++ q :: y → isJ q → T (ldL x + q.2.2.2.1) (lwL x + q.2.2.2.2.2)
def JLk (a : List EV) : Prop := JLt (Pfx a) a
def XEj (E : EvE) : Prop := ∀ (st : Bool) (e : PE) (kn : List Int32) (pb i : Int32) (q : List EV × Int32), E st e kn pb i = some q → JLk q.1
def XOj (O : EvO) : Prop := ∀ (st : Bool) (e : PE) (kn : List Int32) (pb i : Int32) (q : Bool × List EV × Int32), O st e kn pb i = some q → JLk q.2.1
def XSj (S : EvS) : Prop := ∀ (e : PE) (kn : List Int32) (pb i : Int32) (q : List EV × List Int32 × Int32), S e kn pb i = some q → JLk q.1
section ZZZC
variable {T T' : Int → Int → Prop} {a b c p s W x : List EV} {q : EV} {m n : Int} {y : Int32}
theorem JLt.nil : JLt T [] := fun x q y e => by
  have := congrArg List.length e
  simp at this
theorem JLt.one (h : isJ q → T q.2.2.2.1 q.2.2.2.2.2) : JLt T [q] := fun x q' y e j => by
  cases x with
  | nil =>
    have e1 := (List.cons.inj e).1
    rw [← e1] at j ⊢
    show T (((0 : Nat) : Int) + _) (((0 : Nat) : Int) + _)
    rw [show (((0 : Nat) : Int)) = 0 from rfl, Int.zero_add, Int.zero_add]
    exact h j
  | cons z x =>
    have := congrArg List.length (List.cons.inj e).2
    simp at this
theorem JLt.mono (h : JLt T a) (k : ∀ m n, T m n → T' m n) : JLt T' a := fun x q y e j => k _ _ (h x q y e j)
theorem JLt.app (h : JLt T a) (k : JLt (fun m n => T (ldL a + m) (lwL a + n)) b) : JLt T (a ++ b) := fun x q y e j => by
  have K : ∀ z, b = z ++ q :: y → x = a ++ z → T (ldL x + q.2.2.2.1) (lwL x + q.2.2.2.2.2) := fun z e1 e2 => by
    have := k z q y e1 j
    rw [e2, ldL_app, lwL_app]
    have t1 : ((ldL a + ldL z : Nat) : Int) + q.2.2.2.1 = (ldL a : Int) + ((ldL z : Int) + q.2.2.2.1) := by omega
    have t2 : ((lwL a + lwL z : Nat) : Int) + q.2.2.2.2.2 = (lwL a : Int) + ((lwL z : Int) + q.2.2.2.2.2) := by omega
    rw [t1, t2]
    exact this
  rcases List.append_eq_append_iff.mp e with ⟨z, e1, e2⟩ | ⟨z, e1, e2⟩
  · exact K z e2 e1
  · cases z with
    | nil =>
      rw [List.append_nil] at e1
      rw [List.nil_append] at e2
      exact K [] e2.symm (by rw [List.append_nil]; exact e1.symm)
    | cons z0 z =>
      rw [List.cons_append] at e2
      have e3 := List.cons.inj e2
      exact h x q z (by rw [e1, e3.1]) j
theorem JLt.hd (h : JLt T (q :: a)) (j : isJ q) : T q.2.2.2.1 q.2.2.2.2.2 := by
  have := h [] q a rfl j
  rw [ldL_nil, show lwL [] = 0 from rfl, show (((0 : Nat) : Int)) = 0 from rfl, Int.zero_add, Int.zero_add] at this
  exact this
theorem JLt.tl (h : JLt T (q :: a)) : JLt (fun m n => T (ldE q + m) (lwE q + n)) a := fun x q' y e j => by
  have := h (q :: x) q' y (by rw [e]; rfl) j
  rw [ldL_cons, lwL_cons] at this
  have t1 : ((ldE q + ldL x : Nat) : Int) + q'.2.2.2.1 = (ldE q : Int) + ((ldL x : Int) + q'.2.2.2.1) := by omega
  have t2 : ((lwE q + lwL x : Nat) : Int) + q'.2.2.2.2.2 = (lwE q : Int) + ((lwL x : Int) + q'.2.2.2.2.2) := by omega
  rw [t1, t2] at this
  exact this
theorem JLt.cons (h : isJ q → T q.2.2.2.1 q.2.2.2.2.2) (k : JLt (fun m n => T (ldE q + m) (lwE q + n)) a) : JLt T (q :: a) := by
  have A : JLt T ([q] ++ a) := JLt.app (JLt.one h) (by
    have e1 : ldL [q] = ldE q := by rw [ldL_cons, ldL_nil, Nat.add_zero]
    have e2 : lwL [q] = lwE q := by rw [lwL_cons, lwL_nil, Nat.add_zero]
    rw [e1, e2]
    exact k)
  exact A
theorem Pfx.at {y : List EV} (e : a = x ++ y) (h1 : (ldL x : Int) = m) (h2 : (lwL x : Int) = n) : Pfx a m n := ⟨x, y, e, h1, h2⟩
theorem Pfx.lf (e : W = a ++ s) (h : Pfx a m n) : Pfx W m n := by
  obtain ⟨x, y, e1, h1, h2⟩ := h
  exact ⟨x, y ++ s, by rw [e, e1, List.append_assoc], h1, h2⟩
theorem Pfx.mid (e : W = p ++ (a ++ s)) (h : Pfx a m n) : Pfx W (ldL p + m) (lwL p + n) := by
  obtain ⟨x, y, e1, h1, h2⟩ := h
  refine ⟨p ++ x, y ++ s, by rw [e, e1]; simp only [List.append_assoc], ?_, ?_⟩
  · rw [ldL_app]; omega
  · rw [lwL_app]; omega
theorem JLk.nil : JLk [] := JLt.nil
theorem JLk.app (h : JLk a) (k : JLk b) : JLk (a ++ b) := JLt.app (h.mono (fun m n => Pfx.lf rfl)) (k.mono (fun m n => Pfx.mid (s := []) (by rw [List.append_nil])))
theorem JLk.o {t : Int32} {r : Int32 × Int32 × Int × Int × Int} (h : ¬ (t = 16 ∨ t = 17 ∨ t = 18 ∨ t = 19 ∨ t = 33) := by decide) : JLk [(t, r)] := JLt.one (fun c => absurd c h)
theorem jk_ev {t x y : Int32} (h : ¬ (t = 16 ∨ t = 17 ∨ t = 18 ∨ t = 19 ∨ t = 33) := by decide) : JLk [evx t x y] := JLk.o h
theorem JLk.one (h : ¬ isJ q) : JLk [q] := JLt.one (fun c => absurd c h)
theorem rs_hd (B C : D3) : ldE (if q.1 = 30 then (19, 0, 0, B.1, B.2.1, B.2.2) else if q.1 = 31 then (19, 0, 0, C.1, C.2.1, C.2.2) else q) = ldE q ∧ lwE (if q.1 = 30 then (19, 0, 0, B.1, B.2.1, B.2.2) else if q.1 = 31 then (19, 0, 0, C.1, C.2.1, C.2.2) else q) = lwE q := by
  obtain ⟨t, r⟩ := q
  by_cases c : t = 30
  · subst c
    exact ⟨rfl, rfl⟩
  · by_cases d : t = 31
    · subst d
      exact ⟨rfl, rfl⟩
    · rw [if_neg c, if_neg d]
      exact ⟨rfl, rfl⟩
theorem rr_hd (R : D3) : ldE (if q.1 = 32 then (33, 0, 0, R.1, R.2.1, R.2.2) else q) = ldE q ∧ lwE (if q.1 = 32 then (33, 0, 0, R.1, R.2.1, R.2.2) else q) = lwE q := by
  obtain ⟨t, r⟩ := q
  by_cases c : t = 32
  · subst c
    exact ⟨rfl, rfl⟩
  · rw [if_neg c]
    exact ⟨rfl, rfl⟩
theorem Pfx.rs : ∀ (x y : List EV) (B C : D3), ∃ x' y', rsv B C (x ++ y) = x' ++ y' ∧ ldL x' = ldL x ∧ lwL x' = lwL x
  | [], y, B, C => ⟨[], _, rfl, rfl, rfl⟩
  | q :: x, y, B, C => by
    obtain ⟨x', y', e, h1, h2⟩ := Pfx.rs x y (d3s B q) (d3s C q)
    have H := rs_hd (q := q) B C
    refine ⟨(if q.1 = 30 then (19, 0, 0, B.1, B.2.1, B.2.2) else if q.1 = 31 then (19, 0, 0, C.1, C.2.1, C.2.2) else q) :: x', y', ?_, ?_, ?_⟩
    · show _ :: rsv (d3s B q) (d3s C q) (x ++ y) = _
      rw [e]
      rfl
    · rw [ldL_cons, ldL_cons, h1, H.1]
    · rw [lwL_cons, lwL_cons, h2, H.2]
theorem Pfx.rr : ∀ (x y : List EV) (R : D3), ∃ x' y', rsr R (x ++ y) = x' ++ y' ∧ ldL x' = ldL x ∧ lwL x' = lwL x
  | [], y, R => ⟨[], _, rfl, rfl, rfl⟩
  | q :: x, y, R => by
    obtain ⟨x', y', e, h1, h2⟩ := Pfx.rr x y (d3s R q)
    have H := rr_hd (q := q) R
    refine ⟨(if q.1 = 32 then (33, 0, 0, R.1, R.2.1, R.2.2) else q) :: x', y', ?_, ?_, ?_⟩
    · show _ :: rsr (d3s R q) (x ++ y) = _
      rw [e]
      rfl
    · rw [ldL_cons, ldL_cons, h1, H.1]
    · rw [lwL_cons, lwL_cons, h2, H.2]
theorem Pfx.rv (B C : D3) (h : Pfx b m n) : Pfx (rsv B C b) m n := by
  obtain ⟨x, y, e, h1, h2⟩ := h
  obtain ⟨x', y', e', h1', h2'⟩ := Pfx.rs x y B C
  exact ⟨x', y', by rw [e, e'], by rw [h1']; exact h1, by rw [h2']; exact h2⟩
theorem Pfx.rt (R : D3) (h : Pfx b m n) : Pfx (rsr R b) m n := by
  obtain ⟨x, y, e, h1, h2⟩ := h
  obtain ⟨x', y', e', h1', h2'⟩ := Pfx.rr x y R
  exact ⟨x', y', by rw [e, e'], by rw [h1']; exact h1, by rw [h2']; exact h2⟩
theorem ldL_rv : ∀ (a : List EV) (B C : D3), ldL (rsv B C a) = ldL a
  | [], _, _ => rfl
  | q :: l, B, C => by
    show ldL ((if q.1 = 30 then _ else if q.1 = 31 then _ else q) :: rsv _ _ l) = _
    rw [ldL_cons, ldL_cons, ldL_rv l, (rs_hd B C).1]
theorem ldL_rt : ∀ (a : List EV) (R : D3), ldL (rsr R a) = ldL a
  | [], _ => rfl
  | q :: l, R => by
    show ldL ((if q.1 = 32 then _ else q) :: rsr _ l) = _
    rw [ldL_cons, ldL_cons, ldL_rt l, (rr_hd R).1]
theorem JLt.rv : ∀ (a : List EV) (B C : D3) (T : Int → Int → Prop), JLt T a → T B.1 B.2.2 → T C.1 C.2.2 → JLt T (rsv B C a)
  | [], _, _, _, _, _, _ => JLt.nil
  | q :: l, B, C, T, h, hB, hC => by
    have H := rs_hd (q := q) B C
    have R := JLt.rv l (d3s B q) (d3s C q) (fun m n => T (ldE q + m) (lwE q + n)) h.tl (by
      show T ((ldE q : Int) + (B.1 - ldE q)) ((lwE q : Int) + (B.2.2 - lwE q))
      rw [show (ldE q : Int) + (B.1 - ldE q) = B.1 by omega, show (lwE q : Int) + (B.2.2 - lwE q) = B.2.2 by omega]
      exact hB) (by
      show T ((ldE q : Int) + (C.1 - ldE q)) ((lwE q : Int) + (C.2.2 - lwE q))
      rw [show (ldE q : Int) + (C.1 - ldE q) = C.1 by omega, show (lwE q : Int) + (C.2.2 - lwE q) = C.2.2 by omega]
      exact hC)
    show JLt T ((if q.1 = 30 then (19, 0, 0, B.1, B.2.1, B.2.2) else if q.1 = 31 then (19, 0, 0, C.1, C.2.1, C.2.2) else q) :: rsv (d3s B q) (d3s C q) l)
    refine JLt.cons ?_ ?_
    · split
      · exact fun _ => hB
      · split
        · exact fun _ => hC
        · exact h.hd
    · rw [H.1, H.2]
      exact R
theorem JLt.rt : ∀ (a : List EV) (B : D3) (T : Int → Int → Prop), JLt T a → T B.1 B.2.2 → JLt T (rsr B a)
  | [], _, _, _, _ => JLt.nil
  | q :: l, B, T, h, hB => by
    have H := rr_hd (q := q) B
    have R := JLt.rt l (d3s B q) (fun m n => T (ldE q + m) (lwE q + n)) h.tl (by
      show T ((ldE q : Int) + (B.1 - ldE q)) ((lwE q : Int) + (B.2.2 - lwE q))
      rw [show (ldE q : Int) + (B.1 - ldE q) = B.1 by omega, show (lwE q : Int) + (B.2.2 - lwE q) = B.2.2 by omega]
      exact hB)
    show JLt T ((if q.1 = 32 then (33, 0, 0, B.1, B.2.1, B.2.2) else q) :: rsr (d3s B q) l)
    refine JLt.cons ?_ ?_
    · split
      · exact fun _ => hB
      · exact h.hd
    · rw [H.1, H.2]
      exact R
/-- a leap over what follows -/
theorem JLk.fw {t : Int32} (ht : t = 16 ∨ t = 18 ∨ t = 19) (hc : JLk c) : JLk ([fwE t y c] ++ c) := by
  have e : (ldL [fwE t y c] : Int) = 1 ∧ (lwL [fwE t y c] : Int) = (dsz t 0).toInt := by
    rcases ht with h | h | h <;> (subst h; exact ⟨rfl, rfl⟩)
  refine JLt.app (JLt.one (fun _ => ?_)) (hc.mono (fun m n => Pfx.mid (s := []) (by rw [List.append_nil])))
  show Pfx _ (1 + (ldL c : Int)) ((dsz t 0).toInt + lwL c)
  refine Pfx.at (x := [fwE t y c] ++ c) (y := []) (by rw [List.append_nil]) ?_ ?_
  · rw [ldL_app]; omega
  · rw [lwL_app]; omega
/-- two parts, one of them gone -/
theorem JLk.q2 (ha : JLk a) (hb : JLk b) : JLk ([fwE 16 0 (a ++ [fwE 19 0 b])] ++ a ++ [fwE 19 0 b] ++ b) := by
  obtain ⟨f, hf⟩ : ∃ f, f = fwE 16 0 (a ++ [fwE 19 0 b]) := ⟨_, rfl⟩
  obtain ⟨g, hg⟩ : ∃ g, g = fwE 19 0 b := ⟨_, rfl⟩
  rw [← hg] at hf
  rw [← hg, ← hf]
  have f1 : ldL [f] = 1 ∧ lwL [f] = 2 := by rw [hf]; exact ⟨rfl, rfl⟩
  have g1 : ldL [g] = 1 ∧ lwL [g] = 1 := by rw [hg]; exact ⟨rfl, rfl⟩
  have f2 : f.2.2.2.1 = 1 + (ldL (a ++ [g]) : Int) ∧ f.2.2.2.2.2 = 2 + (lwL (a ++ [g]) : Int) := by rw [hf]; exact ⟨rfl, rfl⟩
  have g2 : g.2.2.2.1 = 1 + (ldL b : Int) ∧ g.2.2.2.2.2 = 1 + (lwL b : Int) := by rw [hg]; exact ⟨rfl, rfl⟩
  refine JLt.app (JLt.app (JLt.app (JLt.one (fun _ => ?_)) (ha.mono (fun m n => Pfx.mid (s := [g] ++ b) (by simp only [List.append_assoc])))) (JLt.one (fun _ => ?_))) (hb.mono (fun m n => Pfx.mid (s := []) (by simp only [List.append_nil])))
  · refine Pfx.at (x := [f] ++ a ++ [g]) rfl ?_ ?_
    · rw [f2.1, ldL_app, ldL_app, ldL_app, f1.1]; omega
    · rw [f2.2, lwL_app, lwL_app, lwL_app, f1.2]; omega
  · refine Pfx.at (x := [f] ++ a ++ [g] ++ b) (y := []) (by rw [List.append_nil]) ?_ ?_
    · rw [g2.1, ldL_app, ldL_app, ldL_app, f1.1, g1.1]; omega
    · rw [g2.2, lwL_app, lwL_app, lwL_app, f1.2, g1.2]; omega
theorem JLk.wh (hc : JLk c) (hb : JLk b) : JLk (gWhileL c b) := by
  unfold gWhileL
  dsimp only
  obtain ⟨h, hh⟩ : ∃ h, h = [evx 24 0 0] ++ c := ⟨_, rfl⟩
  rw [← hh]
  obtain ⟨u, hu⟩ : ∃ u, u = fwE 16 0 (b ++ [evx 19 0 0]) := ⟨_, rfl⟩
  rw [← hu]
  obtain ⟨z, hz⟩ : ∃ z, z = bwE 19 0 (h ++ [u] ++ b) := ⟨_, rfl⟩
  rw [← hz]
  obtain ⟨B, hB⟩ : ∃ B, B = d3p (b ++ [evx 19 0 0]) := ⟨_, rfl⟩
  obtain ⟨C, hC⟩ : ∃ C, C = d3n (h ++ [u]) := ⟨_, rfl⟩
  rw [← hB, ← hC]
  have jh : JLk h := by rw [hh]; exact JLk.app jk_ev hc
  have e9 : ldL [evx 19 0 0] = 1 ∧ lwL [evx 19 0 0] = 1 := ⟨rfl, rfl⟩
  have u1 : ldL [u] = 1 ∧ lwL [u] = 2 := by rw [hu]; exact ⟨rfl, rfl⟩
  have z1 : ldL [z] = 1 ∧ lwL [z] = 1 := by rw [hz]; exact ⟨rfl, rfl⟩
  have u2 : u.2.2.2.1 = 1 + (ldL (b ++ [evx 19 0 0]) : Int) ∧ u.2.2.2.2.2 = 2 + (lwL (b ++ [evx 19 0 0]) : Int) := by rw [hu]; exact ⟨rfl, rfl⟩
  have z2 : z.2.2.2.1 = -(ldL (h ++ [u] ++ b) : Int) ∧ z.2.2.2.2.2 = -(lwL (h ++ [u] ++ b) : Int) := by rw [hz]; exact ⟨rfl, rfl⟩
  have B2 : B.1 = (ldL (b ++ [evx 19 0 0]) : Int) ∧ B.2.2 = (lwL (b ++ [evx 19 0 0]) : Int) := by rw [hB]; exact ⟨rfl, rfl⟩
  have C2 : C.1 = -(ldL (h ++ [u]) : Int) ∧ C.2.2 = -(lwL (h ++ [u]) : Int) := by rw [hC]; exact ⟨rfl, rfl⟩
  refine JLt.app (JLt.app (JLt.app (jh.mono (fun m n => Pfx.lf (s := [u] ++ rsv B C b ++ [z]) (by simp only [List.append_assoc]))) (JLt.one (fun _ => ?_))) (JLt.rv b B C _ (hb.mono (fun m n h9 => Pfx.mid (s := [z]) (by simp only [List.append_assoc]) (h9.rv B C))) ?_ ?_)) (JLt.one (fun _ => ?_))
  · refine Pfx.at (x := h ++ [u] ++ rsv B C b ++ [z]) (y := []) (by rw [List.append_nil]) ?_ ?_
    · simp only [u2.1, ldL_app, ldL_rv, u1.1, z1.1, e9.1]; omega
    · simp only [u2.2, lwL_app, lwL_rsv, u1.2, z1.2, e9.2]; omega
  · refine Pfx.at (x := h ++ [u] ++ rsv B C b ++ [z]) (y := []) (by rw [List.append_nil]) ?_ ?_
    · simp only [B2.1, ldL_app, ldL_rv, u1.1, z1.1, e9.1]; omega
    · simp only [B2.2, lwL_app, lwL_rsv, u1.2, z1.2, e9.2]; omega
  · refine Pfx.at (x := []) rfl ?_ ?_
    · simp only [C2.1, ldL_app, u1.1, ldL_nil]; omega
    · simp only [C2.2, lwL_app, u1.2, lwL_nil]; omega
  · refine Pfx.at (x := []) rfl ?_ ?_
    · simp only [z2.1, ldL_app, ldL_rv, u1.1, ldL_nil]; omega
    · simp only [z2.2, lwL_app, lwL_rsv, u1.2, lwL_nil]; omega
theorem JLk.dd (hb : JLk b) (hc : JLk c) : JLk (gDoL b c) := by
  unfold gDoL
  dsimp only
  obtain ⟨z, hz⟩ : ∃ z, z = bwE 17 0 ([evx 24 0 0] ++ b ++ c) := ⟨_, rfl⟩
  rw [← hz]
  obtain ⟨B, hB⟩ : ∃ B, B = d3p (b ++ c ++ [evx 17 0 0]) := ⟨_, rfl⟩
  obtain ⟨C, hC⟩ : ∃ C, C = d3p b := ⟨_, rfl⟩
  rw [← hB, ← hC]
  have e7 : ldL [evx 17 0 0] = 1 ∧ lwL [evx 17 0 0] = 2 := ⟨rfl, rfl⟩
  have e4 : ldL [evx 24 0 0] = 1 ∧ lwL [evx 24 0 0] = 0 := ⟨rfl, rfl⟩
  have z1 : ldL [z] = 1 ∧ lwL [z] = 2 := by rw [hz]; exact ⟨rfl, rfl⟩
  have z2 : z.2.2.2.1 = -(ldL ([evx 24 0 0] ++ b ++ c) : Int) ∧ z.2.2.2.2.2 = -(lwL ([evx 24 0 0] ++ b ++ c) : Int) := by rw [hz]; exact ⟨rfl, rfl⟩
  have B2 : B.1 = (ldL (b ++ c ++ [evx 17 0 0]) : Int) ∧ B.2.2 = (lwL (b ++ c ++ [evx 17 0 0]) : Int) := by rw [hB]; exact ⟨rfl, rfl⟩
  have C2 : C.1 = (ldL b : Int) ∧ C.2.2 = (lwL b : Int) := by rw [hC]; exact ⟨rfl, rfl⟩
  refine JLt.app (JLt.app (JLt.app (JLt.one (fun j => absurd (show isJ (evx 24 0 0) from j) (show ¬ ((24 : Int32) = 16 ∨ (24 : Int32) = 17 ∨ (24 : Int32) = 18 ∨ (24 : Int32) = 19 ∨ (24 : Int32) = 33) by decide))) (JLt.rv b B C _ (hb.mono (fun m n h9 => Pfx.mid (s := c ++ [z]) (by simp only [List.append_assoc]) (h9.rv B C))) ?_ ?_)) (hc.mono (fun m n => Pfx.mid (s := [z]) (by simp only [List.append_assoc])))) (JLt.one (fun _ => ?_))
  · refine Pfx.at (x := [evx 24 0 0] ++ rsv B C b ++ c ++ [z]) (y := []) (by rw [List.append_nil]) ?_ ?_
    · simp only [B2.1, ldL_app, ldL_rv, z1.1, e7.1]; omega
    · simp only [B2.2, lwL_app, lwL_rsv, z1.2, e7.2]; omega
  · refine Pfx.at (x := [evx 24 0 0] ++ rsv B C b) (y := c ++ [z]) (by simp only [List.append_assoc]) ?_ ?_
    · simp only [C2.1, ldL_app, ldL_rv]; omega
    · simp only [C2.2, lwL_app, lwL_rsv]; omega
  · refine Pfx.at (x := []) rfl ?_ ?_
    · simp only [z2.1, ldL_app, ldL_rv, ldL_nil]; omega
    · simp only [z2.2, lwL_app, lwL_rsv, lwL_nil]; omega
/-- for: h the question's events -/
theorem JLk.fo {i h s : List EV} {f : EV} (hi : JLk i) (hs : JLk s) (hb : JLk b) (hq : h = [] ∨ ∃ c, JLk c ∧ h = c ++ [f] ∧ (ldL [f] = 1 ∧ lwL [f] = 2) ∧ (f.2.2.2.1 = 1 + (ldL ([fwE 19 0 (s ++ [evx 19 0 0])] ++ (s ++ [evx 19 0 0]) ++ b ++ [evx 19 0 0]) : Int) ∧ f.2.2.2.2.2 = 2 + (lwL ([fwE 19 0 (s ++ [evx 19 0 0])] ++ (s ++ [evx 19 0 0]) ++ b ++ [evx 19 0 0]) : Int))) : JLk (i ++ ([evx 24 0 0] ++ h ++ [fwE 19 0 (s ++ [evx 19 0 0])]) ++ s ++ [bwE 19 0 (([evx 24 0 0] ++ h ++ [fwE 19 0 (s ++ [evx 19 0 0])]) ++ s)] ++ rsv (d3p (b ++ [evx 19 0 0])) (d3n (s ++ [evx 19 0 0])) b ++ [bwE 19 0 ((s ++ [evx 19 0 0]) ++ b)]) := by
  obtain ⟨j, hj⟩ : ∃ j, j = fwE 19 0 (s ++ [evx 19 0 0]) := ⟨_, rfl⟩
  rw [← hj] at hq ⊢
  obtain ⟨y, hy⟩ : ∃ y, y = bwE 19 0 (([evx 24 0 0] ++ h ++ [j]) ++ s) := ⟨_, rfl⟩
  obtain ⟨z, hz⟩ : ∃ z, z = bwE 19 0 ((s ++ [evx 19 0 0]) ++ b) := ⟨_, rfl⟩
  obtain ⟨B, hB⟩ : ∃ B, B = d3p (b ++ [evx 19 0 0]) := ⟨_, rfl⟩
  obtain ⟨C, hC⟩ : ∃ C, C = d3n (s ++ [evx 19 0 0]) := ⟨_, rfl⟩
  rw [← hy, ← hz, ← hB, ← hC]
  have e9 : ldL [evx 19 0 0] = 1 ∧ lwL [evx 19 0 0] = 1 := ⟨rfl, rfl⟩
  have j1 : ldL [j] = 1 ∧ lwL [j] = 1 := by rw [hj]; exact ⟨rfl, rfl⟩
  have y1 : ldL [y] = 1 ∧ lwL [y] = 1 := by rw [hy]; exact ⟨rfl, rfl⟩
  have z1 : ldL [z] = 1 ∧ lwL [z] = 1 := by rw [hz]; exact ⟨rfl, rfl⟩
  have j2 : j.2.2.2.1 = 1 + (ldL (s ++ [evx 19 0 0]) : Int) ∧ j.2.2.2.2.2 = 1 + (lwL (s ++ [evx 19 0 0]) : Int) := by rw [hj]; exact ⟨rfl, rfl⟩
  have y2 : y.2.2.2.1 = -(ldL (([evx 24 0 0] ++ h ++ [j]) ++ s) : Int) ∧ y.2.2.2.2.2 = -(lwL (([evx 24 0 0] ++ h ++ [j]) ++ s) : Int) := by rw [hy]; exact ⟨rfl, rfl⟩
  have z2 : z.2.2.2.1 = -(ldL ((s ++ [evx 19 0 0]) ++ b) : Int) ∧ z.2.2.2.2.2 = -(lwL ((s ++ [evx 19 0 0]) ++ b) : Int) := by rw [hz]; exact ⟨rfl, rfl⟩
  have B2 : B.1 = (ldL (b ++ [evx 19 0 0]) : Int) ∧ B.2.2 = (lwL (b ++ [evx 19 0 0]) : Int) := by rw [hB]; exact ⟨rfl, rfl⟩
  have C2 : C.1 = -(ldL (s ++ [evx 19 0 0]) : Int) ∧ C.2.2 = -(lwL (s ++ [evx 19 0 0]) : Int) := by rw [hC]; exact ⟨rfl, rfl⟩
  have H : JLt (fun m n => Pfx (i ++ ([evx 24 0 0] ++ h ++ [j]) ++ s ++ [y] ++ rsv B C b ++ [z]) (ldL i + (ldL [evx 24 0 0] + m)) (lwL i + (lwL [evx 24 0 0] + n))) h := by
    rcases hq with hq | ⟨c, jc, hq, f1, f2⟩
    · rw [hq]; exact JLt.nil
    · rw [hq]
      refine JLt.app (jc.mono (fun m n h9 => ?_)) (JLt.one (fun _ => ?_))
      · have := Pfx.mid (W := i ++ ([evx 24 0 0] ++ (c ++ [f]) ++ [j]) ++ s ++ [y] ++ rsv B C b ++ [z]) (p := i ++ [evx 24 0 0]) (s := [f] ++ [j] ++ s ++ [y] ++ rsv B C b ++ [z]) (by simp only [List.append_assoc]) h9
        rw [ldL_app, lwL_app] at this
        rw [show (ldL i : Int) + ((ldL [evx 24 0 0] : Int) + m) = ((ldL i + ldL [evx 24 0 0] : Nat) : Int) + m by omega, show (lwL i : Int) + ((lwL [evx 24 0 0] : Int) + n) = ((lwL i + lwL [evx 24 0 0] : Nat) : Int) + n by omega]
        exact this
      · refine Pfx.at (x := i ++ ([evx 24 0 0] ++ (c ++ [f]) ++ [j]) ++ s ++ [y] ++ rsv B C b ++ [z]) (y := []) (by rw [List.append_nil]) ?_ ?_
        · simp only [f2.1, ldL_app, ldL_rv, f1.1, j1.1, y1.1, z1.1, e9.1]; omega
        · simp only [f2.2, lwL_app, lwL_rsv, f1.2, j1.2, y1.2, z1.2, e9.2]; omega
  refine JLt.app (JLt.app (JLt.app (JLt.app (JLt.app (hi.mono (fun m n => Pfx.lf (s := ([evx 24 0 0] ++ h ++ [j]) ++ s ++ [y] ++ rsv B C b ++ [z]) (by simp only [List.append_assoc]))) (JLt.app (JLt.app (JLt.one (fun j => absurd (show isJ (evx 24 0 0) from j) (show ¬ ((24 : Int32) = 16 ∨ (24 : Int32) = 17 ∨ (24 : Int32) = 18 ∨ (24 : Int32) = 19 ∨ (24 : Int32) = 33) by decide))) H) (JLt.one (fun _ => ?_)))) (hs.mono (fun m n => Pfx.mid (s := [y] ++ rsv B C b ++ [z]) (by simp only [List.append_assoc])))) (JLt.one (fun _ => ?_))) (JLt.rv b B C _ (hb.mono (fun m n h9 => Pfx.mid (s := [z]) (by simp only [List.append_assoc]) (h9.rv B C))) ?_ ?_)) (JLt.one (fun _ => ?_))
  · refine Pfx.at (x := i ++ ([evx 24 0 0] ++ h ++ [j]) ++ s ++ [y]) (y := rsv B C b ++ [z]) (by simp only [List.append_assoc]) ?_ ?_
    · simp only [j2.1, ldL_app, j1.1, y1.1, e9.1]; omega
    · simp only [j2.2, lwL_app, j1.2, y1.2, e9.2]; omega
  · refine Pfx.at (x := i) (y := ([evx 24 0 0] ++ h ++ [j]) ++ s ++ [y] ++ rsv B C b ++ [z]) (by simp only [List.append_assoc]) ?_ ?_
    · simp only [y2.1, ldL_app]; omega
    · simp only [y2.2, lwL_app]; omega
  · refine Pfx.at (x := i ++ ([evx 24 0 0] ++ h ++ [j]) ++ s ++ [y] ++ rsv B C b ++ [z]) (y := []) (by rw [List.append_nil]) ?_ ?_
    · simp only [B2.1, ldL_app, ldL_rv, z1.1, e9.1]; omega
    · simp only [B2.2, lwL_app, lwL_rsv, z1.2, e9.2]; omega
  · refine Pfx.at (x := i ++ ([evx 24 0 0] ++ h ++ [j])) (y := s ++ [y] ++ rsv B C b ++ [z]) (by simp only [List.append_assoc]) ?_ ?_
    · simp only [C2.1, ldL_app, y1.1, e9.1]; omega
    · simp only [C2.2, lwL_app, y1.2, e9.2]; omega
  · refine Pfx.at (x := i ++ ([evx 24 0 0] ++ h ++ [j])) (y := s ++ [y] ++ rsv B C b ++ [z]) (by simp only [List.append_assoc]) ?_ ?_
    · simp only [z2.1, ldL_app, ldL_rv, y1.1, e9.1]; omega
    · simp only [z2.2, lwL_app, lwL_rsv, y1.2, e9.2]; omega
/-- within, never behind the end -/
def JLs (a : List EV) : Prop := JLt (fun m n => Pfx a m n ∧ m < ldL a) a
theorem JLs.nil : JLs [] := JLt.nil
theorem JLs.app (h : JLs a) (k : JLs b) : JLs (a ++ b) := JLt.app (h.mono (fun m n g => ⟨Pfx.lf rfl g.1, by rw [ldL_app]; omega⟩)) (k.mono (fun m n g => ⟨Pfx.mid (s := []) (by rw [List.append_nil]) g.1, by rw [ldL_app]; omega⟩))
theorem JLs.o {t : Int32} {r : Int32 × Int32 × Int × Int × Int} (h : ¬ (t = 16 ∨ t = 17 ∨ t = 18 ∨ t = 19 ∨ t = 33) := by decide) : JLs [(t, r)] := JLt.one (fun c => absurd c h)
theorem Pfx.le (h : Pfx a m n) : m ≤ ldL a := by
  obtain ⟨x, y, e, h1, -⟩ := h
  rw [e, ldL_app]
  omega
theorem JLk.fn (hb : JLk b) : JLs (fnT b) := by
  unfold fnT
  obtain ⟨R, hR⟩ : ∃ R, R = d3p (b ++ [evx 2 0 0]) := ⟨_, rfl⟩
  rw [← hR]
  have R2 : R.1 = (ldL (b ++ [evx 2 0 0]) : Int) ∧ R.2.2 = (lwL (b ++ [evx 2 0 0]) : Int) := by rw [hR]; exact ⟨rfl, rfl⟩
  have e2 : ldL [evx 2 0 0] = 1 := rfl
  have e1 : ldL [evx 1 0 0] = 1 := rfl
  have len : ldL (rsr R b ++ [evx 2 0 0] ++ [evx 1 0 0]) = ldL b + 1 + 1 := by rw [ldL_app, ldL_app, ldL_rt, e1, e2]
  refine JLt.app (JLt.app (JLt.rt b R _ (hb.mono (fun m n h9 => ⟨Pfx.lf (s := [evx 2 0 0] ++ [evx 1 0 0]) (by simp only [List.append_assoc]) (h9.rt R), by have := h9.le; rw [len]; omega⟩)) ⟨?_, ?_⟩) (JLt.one (fun j => absurd (show isJ (evx 2 0 0) from j) (show ¬ ((2 : Int32) = 16 ∨ (2 : Int32) = 17 ∨ (2 : Int32) = 18 ∨ (2 : Int32) = 19 ∨ (2 : Int32) = 33) by decide)))) (JLt.one (fun j => absurd (show isJ (evx 1 0 0) from j) (show ¬ ((1 : Int32) = 16 ∨ (1 : Int32) = 17 ∨ (1 : Int32) = 18 ∨ (1 : Int32) = 19 ∨ (1 : Int32) = 33) by decide)))
  · refine Pfx.at (x := rsr R b ++ [evx 2 0 0]) (y := [evx 1 0 0]) rfl ?_ ?_
    · simp only [R2.1, ldL_app, ldL_rt]
    · simp only [R2.2, lwL_app, lwL_rsr]
  · rw [R2.1, len, ldL_app, e2]
    omega
end ZZZC
