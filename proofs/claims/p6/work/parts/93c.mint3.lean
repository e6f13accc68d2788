/-! frames come and go -/
section MIL
variable {T : Nat → Nat → TT} {E : Nat → Nat} {h : Nat → Int} {v u : MS} {n k : Nat} {b j j' f : Int32}
theorem SUS.pop (s : SUS T E v (n + 2) b) : SUS T E v (n + 1) (v.1 108 (n + 1)) := by
  have eb : ∀ k, k < n + 1 → bsk v (n + 1) k (v.1 108 (n + 1)) = bsk v (n + 2) k b := fun k hk => by
    unfold bsk
    rw [if_neg (show ¬ k + 1 = n + 2 by omega)]
    by_cases q : k + 1 = n + 1
    · rw [if_pos q, q]
    · rw [if_neg q]
  refine ⟨fun k hk => s.1 k (by omega), fun k hk => ?_, fun k hk => ?_⟩
  · rw [eb (k + 1) hk]; exact s.2.1 k (by omega)
  · rw [eb k hk]; exact s.2.2 k (by omega)
theorem MI.lv {i : Nat} (m : MI T E h v j) (e : (v.1 71 j.toNatClampNeg).toInt = 15) (hi : (i : Int) = (v.1 0 110).toInt - 1) (F : ∀ k ∈ [74, 75, 76, 113, 114, 119, 120], u.1 0 k = v.1 0 k) (G : ∀ k ∈ [71, 72, 78, 79, 81, 82, 85, 86, 107, 108, 109], u.1 k = v.1 k)
    (e110 : (u.1 0 110).toInt = (v.1 0 110).toInt - 1) (e111 : u.1 0 111 = v.1 108 i) (e115 : (u.1 0 115).toInt = (v.1 0 115).toInt - (v.1 79 (v.1 109 i).toNatClampNeg).toInt) (e106 : (u.1 0 106).toInt = (v.1 0 111).toInt + 1) (k105 : ∀ q : Nat, (q : Int) < (v.1 0 111).toInt → u.1 105 q = v.1 105 q) :
    (i = 0 → (u.1 0 106).toInt = 1) ∧ (1 ≤ i → MI T E h u (v.1 107 i) ∧ PHI T u (v.1 107 i) < PHI T v j) := by
  have nm := m.num
  obtain ⟨p, n1, s, t, e5, e6, bd⟩ := m
  have en : (v.1 0 110).toNatClampNeg = i + 1 := by have := nat_z (x := v.1 0 110) (by omega); omega
  have eu : (u.1 0 110).toNatClampNeg = i := by have := nat_z (x := u.1 0 110) (by omega); omega
  rw [en] at s e5
  refine ⟨fun w => ?_, fun w => ?_⟩
  · subst w
    have z := s.2.2 0 (by omega)
    have eb : bsk v (0 + 1) 0 (v.1 0 111) = v.1 0 111 := if_pos rfl
    rw [eb] at z
    have : cum (v.1 79) (v.1 109) 0 = 0 := rfl
    omega
  · obtain ⟨q, rfl⟩ : ∃ q, i = q + 1 := ⟨i - 1, by omega⟩
    obtain ⟨R, r1, r2, r3, r4, r5⟩ := s.2.1 q (by omega)
    have eb : bsk v (q + 1 + 1) (q + 1) (v.1 0 111) = v.1 0 111 := if_pos rfl
    rw [eb] at r4
    have c := s.1 q (by omega)
    have c1 := s.1 (q + 1) (by omega)
    have l := p.lo c.1 c.2
    have b0 := (s.2.2 q (by omega)).1
    have eb2 : bsk v (q + 1 + 1) q (v.1 0 111) = v.1 108 (q + 1) := if_neg (by omega)
    rw [eb2] at b0
    have et : tfn u = v.1 109 q := by unfold tfn; rw [eu, G 109 (by decide)]; rfl
    have ev : tfn v = v.1 109 (q + 1) := by unfold tfn; rw [en]; rfl
    have ec : cum (v.1 79) (v.1 109) (q + 1 + 1) = cum (v.1 79) (v.1 109) (q + 1) + (v.1 79 (v.1 109 (q + 1)).toNatClampNeg).toInt := rfl
    have ek : cur (v.1 71) T (v.1 109) (v.1 107) (q + 1) = cur (v.1 71) T (v.1 109) (v.1 107) q + RK (v.1 71) (T (v.1 109 q).toNatClampNeg) (v.1 107 (q + 1)).toNatClampNeg := rfl
    have ej := nat_z (x := j) (by omega)
    have rp := RK.p (o := v.1 71) (τ := T (tfn v).toNatClampNeg) (j := j.toNatClampNeg) (by omega) (by omega)
    have eP : PHI T u (v.1 107 (q + 1)) < PHI T v j := by
      unfold PHI
      rw [et, eu, en, F 113 (by decide), F 114 (by decide), G 71 (by decide), G 109 (by decide), G 107 (by decide)]
      show _ + cur (v.1 71) T (v.1 109) (v.1 107) q + RK (v.1 71) (T (v.1 109 q).toNatClampNeg) (v.1 107 (q + 1)).toNatClampNeg < _ + cur (v.1 71) T (v.1 109) (v.1 107) (q + 1) + _
      omega
    refine ⟨⟨p.same (fun k hk => F k (by simp at hk ⊢; omega)) (fun k hk => G k (by simp at hk ⊢; omega)), by omega, ?_, ?_, ?_, by have := p.lo c1.1 c1.2; have := SUS.cum8 p s 0 (by omega); omega, ?_⟩, eP⟩
    · rw [eu, e111]
      exact s.pop.same p (fun k hk => F k (by simp at hk ⊢; omega)) (fun k hk => G k (by simp at hk ⊢; omega)) (fun i _ => by rw [G 109 (by decide)]) (fun i _ => by rw [G 107 (by decide)]) (fun i _ => by rw [G 108 (by decide)]) (fun x hx => k105 x (by omega))
    · unfold TOPF
      rw [et, e111, G 81 (by decide), G 82 (by decide), F 76 (by decide), r1]
      exact ⟨r2, r3, by rw [List.length_cons]; omega, (r5.keep (fun x _ hx => k105 x (by omega))).f⟩
    · rw [eu, G 79 (by decide), G 109 (by decide)]; omega
    · obtain ⟨b1, b2, b3, b4, b5, b6, b7⟩ := bd
      refine ⟨by rw [F 113 (by decide)]; exact b1, by rw [F 113 (by decide), F 114 (by decide)]; exact b2, by rw [F 114 (by decide)]; exact b3, by rw [F 119 (by decide)]; exact b4, by rw [F 119 (by decide)]; omega, by rw [F 120 (by decide)]; exact b6, by rw [F 120 (by decide)]; omega⟩
def EPH (T : Nat → Nat → TT) (v : MS) : Int := ((v.1 0 114).toInt - (v.1 0 113).toInt) * 40001 + (if (v.1 0 110).toNatClampNeg = 0 then 0 else cur (v.1 71) T (v.1 109) (v.1 107) ((v.1 0 110).toNatClampNeg - 1) + RK (v.1 71) (T (tfn v).toNatClampNeg) (v.1 0 112).toNatClampNeg)
/-- f is about to be entered -/
def EN (T : Nat → Nat → TT) (E : Nat → Nat) (h : Nat → Int) (v : MS) (f : Int32) : Prop :=
  PRG T E h v ∧ (0 ≤ f.toInt ∧ f.toInt < (v.1 0 74).toInt) ∧ 0 ≤ (v.1 0 110).toInt ∧ SUS T E v (v.1 0 110).toNatClampNeg (v.1 0 111) ∧ (v.1 0 115).toInt = cum (v.1 79) (v.1 109) (v.1 0 110).toNatClampNeg ∧ (v.1 0 115).toInt ≤ 16384 ∧ BUD v (EPH T v) ∧
  0 ≤ (v.1 0 106).toInt - (v.1 78 f.toNatClampNeg).toInt ∧ 2 * ((v.1 0 106).toInt - (v.1 78 f.toNatClampNeg).toInt) ≤ cum (v.1 79) (v.1 109) (v.1 0 110).toNatClampNeg ∧
  (1 ≤ (v.1 0 110).toInt → ∃ R, (T (tfn v).toNatClampNeg (v.1 0 112).toNatClampNeg).1 = false :: R ∧ (v.1 81 (tfn v).toNatClampNeg).toInt ≤ (v.1 0 112).toInt ∧ (v.1 0 112).toInt < (E (tfn v).toNatClampNeg : Int) ∧ (v.1 0 106).toInt - (v.1 78 f.toNatClampNeg).toInt = (v.1 0 111).toInt + (v.1 82 (tfn v).toNatClampNeg).toInt + (R.length : Int) ∧ PT (v.1 105) (v.1 0 76).toInt ((v.1 0 111).toInt + (v.1 82 (tfn v).toNatClampNeg).toInt).toNat R)
theorem MI.en (m : MI T E h v j) (e : (v.1 71 j.toNatClampNeg).toInt = 14) (hf : f = v.1 72 j.toNatClampNeg) (F : ∀ k ∈ [74, 75, 76, 106, 110, 111, 113, 114, 115, 119, 120], u.1 0 k = v.1 0 k) (G : ∀ k ∈ [71, 72, 78, 79, 81, 82, 85, 86, 105, 107, 108, 109], u.1 k = v.1 k) (hj : (u.1 0 112).toInt = j.toInt + 1) : EN T E h u f ∧ EPH T u < PHI T v j := by
  subst hf
  obtain ⟨x1, x2, x3, x4⟩ := m.nx (j' := u.1 0 112) (by omega) (by omega) hj
  obtain ⟨R, a3, a4⟩ := m.ft.i14 e
  obtain ⟨l, q⟩ := m.len a3
  have nm := m.num
  have c := m.tf
  obtain ⟨p, n1, s, ⟨t1, t2, t3, t4⟩, e5, e6, bd⟩ := m
  have lo := p.lo c.1 c.2
  obtain ⟨⟨p1, p2, p3, p4, p5, _⟩, f3⟩ := p.at c.1 c.2
  have ej := nat_z (x := j) (by omega)
  have eg := nat_z (x := v.1 81 (tfn v).toNatClampNeg) lo.2.2.2.2.2
  obtain ⟨o1, o2, o3⟩ := (p5 j.toNatClampNeg (by omega) (by omega)).2.2.2 e
  have em := nat_z (x := v.1 78 (v.1 72 j.toNatClampNeg).toNatClampNeg) (p.lo o1 o2).2.2.2.1
  have en := nat_z (x := v.1 0 110) (by omega)
  have z := s.2.2 ((v.1 0 110).toNatClampNeg - 1) (by omega)
  have eb : bsk v (v.1 0 110).toNatClampNeg ((v.1 0 110).toNatClampNeg - 1) (v.1 0 111) = v.1 0 111 := if_pos (by omega)
  rw [eb] at z
  have ec : cum (v.1 79) (v.1 109) (v.1 0 110).toNatClampNeg = cum (v.1 79) (v.1 109) ((v.1 0 110).toNatClampNeg - 1) + (v.1 79 (tfn v).toNatClampNeg).toInt := by
    have : (v.1 0 110).toNatClampNeg = ((v.1 0 110).toNatClampNeg - 1) + 1 := by omega
    rw [this]; rfl
  have len := p4 (j.toNatClampNeg + 1) (by omega) (by omega)
  rw [a4, List.length_cons] at len
  rw [List.length_append, List.length_replicate] at l
  have et : tfn u = tfn v := by unfold tfn; rw [F 110 (by decide), G 109 (by decide)]
  have eE : EPH T u < PHI T v j := by
    unfold EPH PHI
    rw [et, F 110 (by decide), F 113 (by decide), F 114 (by decide), G 71 (by decide), G 109 (by decide), G 107 (by decide), if_neg (show ¬ (v.1 0 110).toNatClampNeg = 0 by omega)]
    have := x4.resolve_right (by omega)
    omega
  refine ⟨⟨p.same (fun k hk => F k (by simp at hk ⊢; omega)) (fun k hk => G k (by simp at hk ⊢; omega)), by rw [F 74 (by decide)]; exact ⟨o1, o2⟩, by rw [F 110 (by decide)]; omega, ?_, ?_, by rw [F 115 (by decide)]; exact e6, ?_, ?_, ?_, fun _ => ⟨R, ?_, ?_, ?_, ?_, ?_⟩⟩, eE⟩
  · rw [F 110 (by decide), F 111 (by decide)]
    exact s.same p (fun k hk => F k (by simp at hk ⊢; omega)) (fun k hk => G k (by simp at hk ⊢; omega)) (fun i _ => by rw [G 109 (by decide)]) (fun i _ => by rw [G 107 (by decide)]) (fun i _ => by rw [G 108 (by decide)]) (fun i _ => by rw [G 105 (by decide)])
  · rw [F 115 (by decide), F 110 (by decide), G 79 (by decide), G 109 (by decide)]; exact e5
  · obtain ⟨b1, b2, b3, b4, b5, b6, b7⟩ := bd
    refine ⟨by rw [F 113 (by decide)]; exact b1, by rw [F 113 (by decide), F 114 (by decide)]; exact b2, by rw [F 114 (by decide)]; exact b3, by rw [F 119 (by decide)]; exact b4, by rw [F 119 (by decide)]; omega, by rw [F 120 (by decide)]; exact b6, by rw [F 120 (by decide)]; omega⟩
  · rw [F 106 (by decide), G 78 (by decide)]; omega
  · rw [F 106 (by decide), F 110 (by decide), G 78 (by decide), G 79 (by decide), G 109 (by decide)]; omega
  · rw [et, x1]; exact a4
  · rw [et, G 81 (by decide)]; exact x2
  · rw [et]; exact x3
  · rw [et, F 106 (by decide), F 111 (by decide), G 78 (by decide), G 82 (by decide)]; omega
  · rw [et, F 111 (by decide), F 76 (by decide), G 82 (by decide), G 105 (by decide)]; exact PT.suf q
theorem EN.lin (e : EN T E h v f) : 0 ≤ (v.1 0 106).toInt ∧ (v.1 0 106).toInt ≤ 8192 + (v.1 78 f.toNatClampNeg).toInt ∧ (v.1 78 f.toNatClampNeg).toInt ≤ (v.1 0 106).toInt ∧ 0 ≤ (v.1 0 110).toInt ∧ (v.1 0 110).toInt ≤ 2048 ∧ 0 ≤ (v.1 0 113).toInt ∧ (v.1 0 113).toInt ≤ (v.1 0 114).toInt ∧ (v.1 0 114).toInt ≤ 20000 ∧ 0 ≤ (v.1 0 115).toInt ∧ (v.1 0 115).toInt ≤ 16384 ∧ 0 ≤ (v.1 78 f.toNatClampNeg).toInt ∧ (v.1 78 f.toNatClampNeg).toInt ≤ (v.1 82 f.toNatClampNeg).toInt ∧ 8 ≤ (v.1 79 f.toNatClampNeg).toInt ∧ 0 ≤ f.toInt ∧ f.toInt < (v.1 0 74).toInt := by
  obtain ⟨p, ⟨o1, o2⟩, n0, s, e5, e6, bd, g1, g2, _⟩ := e
  have c8 := SUS.cum8 p s (v.1 0 110).toNatClampNeg (Nat.le_refl _)
  have en := nat_z n0
  have l := p.lo o1 o2
  obtain ⟨b1, b2, b3, _⟩ := bd
  omega
/-- f has been entered -/
theorem EN.go {n : Nat} (e : EN T E h v f) (hn : (n : Int) = (v.1 0 110).toInt) (F : ∀ k ∈ [74, 75, 76, 114, 119, 120], u.1 0 k = v.1 0 k) (G : ∀ k ∈ [71, 72, 78, 79, 81, 82, 85, 86], u.1 k = v.1 k) (e110 : (u.1 0 110).toInt = (v.1 0 110).toInt + 1) (e111 : (u.1 0 111).toInt = (v.1 0 106).toInt - (v.1 78 f.toNatClampNeg).toInt) (e112 : u.1 0 112 = v.1 81 f.toNatClampNeg)
    (e113 : (u.1 0 113).toInt = (v.1 0 113).toInt + 1) (h113 : (u.1 0 113).toInt ≤ (v.1 0 114).toInt) (e115 : (u.1 0 115).toInt = (v.1 0 115).toInt + (v.1 79 f.toNatClampNeg).toInt) (h115 : (u.1 0 115).toInt ≤ 16384) (k9 : ∀ i, i < n → u.1 109 i = v.1 109 i) (k7 : ∀ i, i < n → u.1 107 i = v.1 107 i) (k8 : ∀ i, i < n → u.1 108 i = v.1 108 i)
    (w9 : u.1 109 n = f) (w7 : u.1 107 n = v.1 0 112) (w8 : u.1 108 n = v.1 0 111) (e106 : (u.1 0 106).toInt = (v.1 0 106).toInt - (v.1 78 f.toNatClampNeg).toInt + (v.1 82 f.toNatClampNeg).toInt) (k105 : ∀ i : Nat, (i : Int) < (v.1 0 106).toInt - (v.1 78 f.toNatClampNeg).toInt → u.1 105 i = v.1 105 i) : MI T E h u (u.1 0 112) ∧ PHI T u (u.1 0 112) < EPH T v := by
  obtain ⟨p, ⟨o1, o2⟩, n0, s, e5, e6, bd, g1, g2, g3⟩ := e
  have en : (v.1 0 110).toNatClampNeg = n := by have := nat_z n0; omega
  have eu : (u.1 0 110).toNatClampNeg = n + 1 := by have := nat_z (x := u.1 0 110) (by omega); omega
  rw [en] at s e5 g2
  have l := p.lo o1 o2
  obtain ⟨⟨p1, p2, p3, p4, p5, _⟩, f3⟩ := p.at o1 o2
  have et : tfn u = f := by unfold tfn; rw [eu]; exact w9
  have eg := nat_z (x := v.1 81 f.toNatClampNeg) l.2.2.2.2.2
  have r1 := (RK.r (o := v.1 71) (τ := T f.toNatClampNeg) (j := (v.1 81 f.toNatClampNeg).toNatClampNeg) (by omega)).2
  have eb : ∀ k, k < n → bsk u (n + 1) k (u.1 0 111) = bsk v n k (v.1 0 111) := fun k hk => by
    unfold bsk
    rw [if_neg (show ¬ k + 1 = n + 1 by omega)]
    by_cases q : k + 1 = n
    · rw [if_pos q, q]; exact w8
    · rw [if_neg q]; exact k8 _ (by omega)
  have et2 : 0 < n → tfn v = v.1 109 (n - 1) := fun _ => by unfold tfn; rw [en]
  have eC : (114 : Int) = 114 := rfl
  have eP : PHI T u (u.1 0 112) < EPH T v := by
    have ek : cur (u.1 71) T (u.1 109) (u.1 107) n = if n = 0 then 0 else cur (v.1 71) T (v.1 109) (v.1 107) (n - 1) + RK (v.1 71) (T (tfn v).toNatClampNeg) (v.1 0 112).toNatClampNeg := by
      by_cases q : n = 0
      · rw [if_pos q, q]; rfl
      · rw [if_neg q, et2 (by omega)]
        obtain ⟨m, rfl⟩ : ∃ m, n = m + 1 := ⟨n - 1, by omega⟩
        show cur (u.1 71) T (u.1 109) (u.1 107) m + RK (u.1 71) (T (u.1 109 m).toNatClampNeg) (u.1 107 (m + 1)).toNatClampNeg = cur (v.1 71) T (v.1 109) (v.1 107) m + RK (v.1 71) (T (v.1 109 m).toNatClampNeg) (v.1 0 112).toNatClampNeg
        rw [G 71 (by decide), w7, k9 m (by omega), cur_keep (fun i hi => k9 i (by omega)) (fun i hi => k7 (i + 1) (by omega))]
    unfold PHI EPH
    rw [eu, en]
    show _ + cur (u.1 71) T (u.1 109) (u.1 107) n + _ < _
    rw [ek, et, e112, G 71 (by decide), F 114 (by decide), e113]
    have : ((v.1 0 114).toInt - ((v.1 0 113).toInt + 1)) * 40001 = ((v.1 0 114).toInt - (v.1 0 113).toInt) * 40001 - 40001 := by rw [Int.sub_mul, Int.sub_mul, Int.add_mul]; omega
    omega
  have ecu : cum (u.1 79) (u.1 109) n = cum (v.1 79) (v.1 109) n := by rw [G 79 (by decide), cum_keep (fun i hi => k9 i hi)]
  refine ⟨⟨p.same (fun k hk => F k (by simp at hk ⊢; omega)) (fun k hk => G k (by simp at hk ⊢; omega)), by omega, ?_, ?_, ?_, h115, ?_⟩, eP⟩
  · rw [eu]
    refine ⟨fun k hk => ?_, fun k hk => ?_, fun k hk => ?_⟩
    · rw [F 74 (by decide)]
      by_cases q : k = n
      · rw [q, w9]; exact ⟨o1, o2⟩
      · rw [k9 k (by omega)]; exact s.1 k (by omega)
    · have bge : (v.1 0 111).toInt ≤ (v.1 0 106).toInt - (v.1 78 f.toNatClampNeg).toInt := by
        obtain ⟨R, _, _, _, r4, _⟩ := g3 (by omega)
        have c := s.1 (n - 1) (by omega)
        have l2 := p.lo c.1 c.2
        rw [et2 (by omega)] at r4
        omega
      by_cases q : k + 1 = n
      · obtain ⟨R, r1, r2, r3, r4, r5⟩ := g3 (by omega)
        have e1 : bsk u (n + 1) (k + 1) (u.1 0 111) = u.1 0 111 := if_pos (by omega)
        rw [e1]
        have e2 : tfn v = v.1 109 k := by rw [et2 (by omega), show n - 1 = k by omega]
        rw [e2] at r1 r2 r3 r4 r5
        have c := s.1 k (by omega)
        have l2 := p.lo c.1 c.2
        have b0 := (s.2.2 k (by omega)).1
        have e3 : bsk v n k (v.1 0 111) = v.1 0 111 := if_pos q
        rw [e3] at b0
        unfold FRM
        rw [q, w7, w8, k9 k (by omega), G 81 (by decide), G 82 (by decide), F 76 (by decide)]
        exact ⟨R, r1, r2, r3, by omega, r5.keep (fun i _ hi => k105 i (by omega))⟩
      · obtain ⟨R, r1, r2, r3, r4, r5⟩ := s.2.1 k (by omega)
        rw [eb (k + 1) (by omega)]
        have m1 := SUS.mono p s (n - k - 2) (k + 1) (by omega)
        have c := s.1 k (by omega)
        have l2 := p.lo c.1 c.2
        have b0 := (s.2.2 k (by omega)).1
        have e3 : bsk v n k (v.1 0 111) = v.1 108 (k + 1) := if_neg q
        rw [e3] at b0
        unfold FRM
        rw [k7 (k + 1) (by omega), k8 (k + 1) (by omega), k9 k (by omega), G 81 (by decide), G 82 (by decide), F 76 (by decide)]
        exact ⟨R, r1, r2, r3, r4, r5.keep (fun i _ hi => k105 i (by omega))⟩
    · by_cases q : k = n
      · subst q
        have e1 : bsk u (k + 1) k (u.1 0 111) = u.1 0 111 := if_pos rfl
        rw [e1, ecu]; omega
      · rw [eb k (by omega), G 79 (by decide), cum_keep (fun i hi => k9 i (by omega))]; exact s.2.2 k (by omega)
  · unfold TOPF
    rw [et, e112, G 81 (by decide), G 82 (by decide), p2]
    exact ⟨Int.le_refl _, by omega, by simp; omega, trivial⟩
  · rw [eu]
    show _ = cum (u.1 79) (u.1 109) n + (u.1 79 (u.1 109 n).toNatClampNeg).toInt
    rw [ecu, w9, G 79 (by decide)]; omega
  · obtain ⟨b1, b2, b3, b4, b5, b6, b7⟩ := bd
    refine ⟨by omega, by rw [F 114 (by decide)]; exact h113, by rw [F 114 (by decide)]; exact b3, by rw [F 119 (by decide)]; exact b4, by rw [F 119 (by decide)]; omega, by rw [F 120 (by decide)]; exact b6, by rw [F 120 (by decide)]; omega⟩
/-- the first frame -/
theorem EN.first (p : PRG T E h v) (o : 0 ≤ f.toInt ∧ f.toInt < (v.1 0 74).toInt) (e110 : (v.1 0 110).toInt = 0) (e115 : (v.1 0 115).toInt = 0) (e113 : (v.1 0 113).toInt = 0) (h114 : 0 ≤ (v.1 0 114).toInt ∧ (v.1 0 114).toInt ≤ 20000) (e119 : (v.1 0 119).toInt = 0) (e120 : (v.1 0 120).toInt = 0) (e106 : (v.1 0 106).toInt = (v.1 78 f.toNatClampNeg).toInt) : EN T E h v f := by
  have en : (v.1 0 110).toNatClampNeg = 0 := by have := nat_z (x := v.1 0 110) (by omega); omega
  have eE : EPH T v ≤ 900000000 := by
    unfold EPH
    rw [if_pos en, e113]
    omega
  refine ⟨p, o, by omega, ⟨fun k hk => by omega, fun k hk => by omega, fun k hk => by omega⟩, by rw [en, e115]; rfl, by omega, ⟨by omega, by omega, h114.2, by omega, by omega, by omega, by omega⟩, by omega, ?_, fun w => by omega⟩
  rw [en]
  show _ ≤ (0 : Int)
  omega
end MIL
def OBP (T : Nat → Nat → TT) (E : Nat → Nat) (h : Nat → Int) (v u : MS) (j r : Int32) : Prop := (r.toInt = -1 ∧ MI T E h u (u.1 0 112) ∧ PHI T u (u.1 0 112) < PHI T v j) ∨ (r.toInt ≠ -1 ∧ (r.toInt = 0 → (u.1 0 106).toInt = 1))
def OBE (T : Nat → Nat → TT) (E : Nat → Nat) (h : Nat → Int) (v u : MS) (r : Int32) : Prop := (r.toInt = -1 ∧ MI T E h u (u.1 0 112) ∧ PHI T u (u.1 0 112) < EPH T v) ∨ (r.toInt ≠ -1 ∧ r.toInt ≠ 0)
def OBW (T : Nat → Nat → TT) (E : Nat → Nat) (h : Nat → Int) (u : MS) : Prop := ((u.1 0 121).toInt = -1 ∧ MI T E h u (u.1 0 112)) ∨ ((u.1 0 121).toInt ≠ -1 ∧ ((u.1 0 121).toInt = 0 → (u.1 0 106).toInt = 1))
def MWK (T : Nat → Nat → TT) (u : MS) : Nat := if (u.1 0 121).toInt = -1 then (PHI T u (u.1 0 112)).toNat + 1 else 0
theorem all8f {P : Nat → Prop} (a : P 74) (b : P 75) (c : P 76) (d : P 110) (e : P 111) (f : P 113) (g : P 114) (h : P 115) : ∀ k ∈ [74, 75, 76, 110, 111, 113, 114, 115], P k := fun k hk => by
  have : k = 74 ∨ k = 75 ∨ k = 76 ∨ k = 110 ∨ k = 111 ∨ k = 113 ∨ k = 114 ∨ k = 115 := by simpa using hk
  rcases this with rfl | rfl | rfl | rfl | rfl | rfl | rfl | rfl <;> assumption
theorem all11g {P : Nat → Prop} (a : P 71) (b : P 72) (c : P 78) (d : P 79) (e : P 81) (f : P 82) (g : P 85) (h : P 86) (i : P 107) (j : P 108) (l : P 109) : ∀ k ∈ [71, 72, 78, 79, 81, 82, 85, 86, 107, 108, 109], P k := fun k hk => by
  have : k = 71 ∨ k = 72 ∨ k = 78 ∨ k = 79 ∨ k = 81 ∨ k = 82 ∨ k = 85 ∨ k = 86 ∨ k = 107 ∨ k = 108 ∨ k = 109 := by simpa using hk
  rcases this with rfl | rfl | rfl | rfl | rfl | rfl | rfl | rfl | rfl | rfl | rfl <;> assumption
theorem all12g {P : Nat → Prop} (a : P 71) (b : P 72) (c : P 78) (d : P 79) (e : P 81) (f : P 82) (g : P 85) (h : P 86) (z : P 105) (i : P 107) (j : P 108) (l : P 109) : ∀ k ∈ [71, 72, 78, 79, 81, 82, 85, 86, 105, 107, 108, 109], P k := fun k hk => by
  have : k = 71 ∨ k = 72 ∨ k = 78 ∨ k = 79 ∨ k = 81 ∨ k = 82 ∨ k = 85 ∨ k = 86 ∨ k = 105 ∨ k = 107 ∨ k = 108 ∨ k = 109 := by simpa using hk
  rcases this with rfl | rfl | rfl | rfl | rfl | rfl | rfl | rfl | rfl | rfl | rfl | rfl <;> assumption
theorem all8g {P : Nat → Prop} (a : P 71) (b : P 72) (c : P 78) (d : P 79) (e : P 81) (f : P 82) (g : P 85) (h : P 86) : ∀ k ∈ [71, 72, 78, 79, 81, 82, 85, 86], P k := fun k hk => by
  have : k = 71 ∨ k = 72 ∨ k = 78 ∨ k = 79 ∨ k = 81 ∨ k = 82 ∨ k = 85 ∨ k = 86 := by simpa using hk
  rcases this with rfl | rfl | rfl | rfl | rfl | rfl | rfl | rfl <;> assumption
theorem all6f {P : Nat → Prop} (a : P 74) (b : P 75) (c : P 76) (d : P 114) (e : P 119) (f : P 120) : ∀ k ∈ [74, 75, 76, 114, 119, 120], P k := fun k hk => by
  have : k = 74 ∨ k = 75 ∨ k = 76 ∨ k = 114 ∨ k = 119 ∨ k = 120 := by simpa using hk
  rcases this with rfl | rfl | rfl | rfl | rfl | rfl <;> assumption
theorem all7f {P : Nat → Prop} (a : P 74) (b : P 75) (c : P 76) (d : P 113) (e : P 114) (f : P 119) (g : P 120) : ∀ k ∈ [74, 75, 76, 113, 114, 119, 120], P k := fun k hk => by
  have : k = 74 ∨ k = 75 ∨ k = 76 ∨ k = 113 ∨ k = 114 ∨ k = 119 ∨ k = 120 := by simpa using hk
  rcases this with rfl | rfl | rfl | rfl | rfl | rfl | rfl <;> assumption
theorem all10f {P : Nat → Prop} (a : P 74) (b : P 75) (c : P 76) (z : P 106) (d : P 110) (e : P 111) (g : P 114) (h : P 115) (x : P 119) (y : P 120) : ∀ k ∈ [74, 75, 76, 106, 110, 111, 114, 115, 119, 120], P k := fun k hk => by
  have : k = 74 ∨ k = 75 ∨ k = 76 ∨ k = 106 ∨ k = 110 ∨ k = 111 ∨ k = 114 ∨ k = 115 ∨ k = 119 ∨ k = 120 := by simpa using hk
  rcases this with rfl | rfl | rfl | rfl | rfl | rfl | rfl | rfl | rfl | rfl <;> assumption
theorem all11f {P : Nat → Prop} (a : P 74) (b : P 75) (c : P 76) (z : P 106) (d : P 110) (e : P 111) (f : P 113) (g : P 114) (h : P 115) (x : P 119) (y : P 120) : ∀ k ∈ [74, 75, 76, 106, 110, 111, 113, 114, 115, 119, 120], P k := fun k hk => by
  have : k = 74 ∨ k = 75 ∨ k = 76 ∨ k = 106 ∨ k = 110 ∨ k = 111 ∨ k = 113 ∨ k = 114 ∨ k = 115 ∨ k = 119 ∨ k = 120 := by simpa using hk
  rcases this with rfl | rfl | rfl | rfl | rfl | rfl | rfl | rfl | rfl | rfl | rfl <;> assumption
section MIE
variable {T : Nat → Nat → TT} {E : Nat → Nat} {h : Nat → Int} {v u : MS} {n k : Nat} {b j j' f : Int32}
theorem MI.cO (m : MI T E h v j) (e : 16 ≤ (v.1 71 j.toNatClampNeg).toInt ∧ (v.1 71 j.toNatClampNeg).toInt ≤ 24 ∧ (v.1 71 j.toNatClampNeg).toInt ≠ 21 ∧ (v.1 71 j.toNatClampNeg).toInt ≠ 17) : 1 ≤ (v.1 0 106).toInt := by
  by_cases w : (v.1 71 j.toNatClampNeg).toInt = 16 ∨ (v.1 71 j.toNatClampNeg).toInt = 22 ∨ (v.1 71 j.toNatClampNeg).toInt = 23
  · exact m.c9 (by omega)
  · exact m.c18 (by omega)
theorem MI.cl {x : Int32} (m : MI T E h v j) (hx : x.toInt = (v.1 0 110).toInt - 1) : 0 ≤ (v.1 109 x.toNatClampNeg).toInt ∧ (v.1 109 x.toNatClampNeg).toInt < (v.1 0 74).toInt := by
  have t := m.tf
  have nm := m.num
  have e1 := nat_z (x := v.1 0 110) (by omega)
  have e2 := nat_z (x := x) (by omega)
  unfold tfn at t
  rw [show (v.1 0 110).toNatClampNeg - 1 = x.toNatClampNeg by omega] at t
  exact t
theorem MI.popE (m : MI T E h v j) (e : (v.1 71 j.toNatClampNeg).toInt = 10 ∨ (v.1 71 j.toNatClampNeg).toInt = 11) (ej : j' = v.1 72 j.toNatClampNeg) (F : ∀ k ∈ [74, 75, 76, 110, 111, 113, 114, 115], u.1 0 k = v.1 0 k) (G : ∀ k ∈ [71, 72, 78, 79, 81, 82, 85, 86, 107, 108, 109], u.1 k = v.1 k) (e106 : (u.1 0 106).toInt = (v.1 0 106).toInt - 1) (k105 : ∀ i : Nat, (i : Int) + 1 < (v.1 0 106).toInt → u.1 105 i = v.1 105 i) (h119 : 0 ≤ (u.1 0 119).toInt ∧ (u.1 0 119).toInt ≤ (v.1 0 119).toInt + 1) (h120 : 0 ≤ (u.1 0 120).toInt ∧ (u.1 0 120).toInt ≤ (v.1 0 120).toInt + 1) : MI T E h u j' ∧ PHI T u j' < PHI T v j := by
  subst ej; exact m.popJ e F G e106 k105 h119 h120
theorem MI.jmpE (m : MI T E h v j) (e : (v.1 71 j.toNatClampNeg).toInt = 12 ∨ (v.1 71 j.toNatClampNeg).toInt = 22 ∨ (v.1 71 j.toNatClampNeg).toInt = 23) (ej : j' = v.1 72 j.toNatClampNeg) (F : ∀ k ∈ [74, 75, 76, 110, 111, 113, 114, 115], u.1 0 k = v.1 0 k) (G : ∀ k ∈ [71, 72, 78, 79, 81, 82, 85, 86, 107, 108, 109], u.1 k = v.1 k) (e106 : (u.1 0 106).toInt = (v.1 0 106).toInt) (k105 : ∀ i : Nat, ((i : Int) + 1 < (v.1 0 106).toInt ∨ (v.1 71 j.toNatClampNeg).toInt = 12) → u.1 105 i = v.1 105 i) (h119 : 0 ≤ (u.1 0 119).toInt ∧ (u.1 0 119).toInt ≤ (v.1 0 119).toInt + 1) (h120 : 0 ≤ (u.1 0 120).toInt ∧ (u.1 0 120).toInt ≤ (v.1 0 120).toInt + 1) : MI T E h u j' ∧ PHI T u j' < PHI T v j := by
  subst ej; exact m.jmp e F G e106 k105 h119 h120
theorem MI.other (m : MI T E h v j) (hu : MI T E h u (u.1 0 112) ∧ PHI T u (u.1 0 112) < PHI T v j) {r : Int32} (hr : r.toInt = -1) : OBP T E h v u j r := Or.inl ⟨hr, hu⟩
theorem MI.turned (m : MI T E h v j) (e : (v.1 71 j.toNatClampNeg).toInt = 13) (hj : (u.1 0 112).toInt = j.toInt + 1) (F : ∀ k ∈ [74, 75, 76, 106, 110, 111, 114, 115, 119, 120], u.1 0 k = v.1 0 k) (G : ∀ k ∈ [71, 72, 78, 79, 81, 82, 85, 86, 105, 107, 108, 109], u.1 k = v.1 k) {r : Int32} (pt : (r.toInt = -1 ∧ (u.1 0 113).toInt = (v.1 0 113).toInt + 1 ∧ (u.1 0 113).toInt ≤ (v.1 0 114).toInt) ∨ (r.toInt = 4 ∧ (u.1 0 113).toInt = (v.1 0 113).toInt)) : OBP T E h v u j r := by
  rcases pt with ⟨q1, q2, q3⟩ | ⟨q1, q2⟩
  · exact Or.inl ⟨q1, m.trn e hj F G q2 (by rw [F 114 (by decide)]; exact q3)⟩
  · exact Or.inr ⟨by omega, fun w => by omega⟩
theorem OBE.to {w : MS} {r : Int32} (hl : EPH T w < PHI T v j) (o : OBE T E h w u r) : OBP T E h v u j r := by
  rcases o with ⟨q1, q2, q3⟩ | ⟨q1, q2⟩
  · exact Or.inl ⟨q1, q2, by omega⟩
  · exact Or.inr ⟨q1, fun w => absurd w q2⟩
/-- what work's round reads of the state that obey or enter left -/
theorem MI.set {y : Int32} (m : MI T E h v j) (F : ∀ k, k ≠ 121 → u.1 0 k = v.1 0 k) (G : ∀ k, k ≠ 0 → u.1 k = v.1 k) : MI T E h u j := by
  have et : tfn u = tfn v := by unfold tfn; rw [F 110 (by decide), G 109 (by decide)]
  obtain ⟨p, n1, s, t, e5, e6, bd⟩ := m
  refine ⟨p.same (fun k hk => F k (by simp at hk; omega)) (fun k hk => G k (by simp at hk; omega)), by rw [F 110 (by decide)]; exact n1, ?_, ?_, ?_, by rw [F 115 (by decide)]; exact e6, ?_⟩
  · rw [F 110 (by decide), F 111 (by decide)]
    exact s.same p (fun k hk => F k (by simp at hk; omega)) (fun k hk => G k (by simp at hk; omega)) (fun i _ => by rw [G 109 (by decide)]) (fun i _ => by rw [G 107 (by decide)]) (fun i _ => by rw [G 108 (by decide)]) (fun i _ => by rw [G 105 (by decide)])
  · unfold TOPF
    rw [et, G 81 (by decide), G 82 (by decide), G 105 (by decide), F 111 (by decide), F 106 (by decide), F 76 (by decide)]
    exact t
  · rw [F 115 (by decide), F 110 (by decide), G 79 (by decide), G 109 (by decide)]; exact e5
  · unfold BUD PHI
    rw [et, F 110 (by decide), F 113 (by decide), F 114 (by decide), F 119 (by decide), F 120 (by decide), G 71 (by decide), G 109 (by decide), G 107 (by decide)]
    exact bd
theorem PHI.set (F : ∀ k, k ≠ 121 → u.1 0 k = v.1 0 k) (G : ∀ k, k ≠ 0 → u.1 k = v.1 k) : PHI T u j = PHI T v j := by
  have et : tfn u = tfn v := by unfold tfn; rw [F 110 (by decide), G 109 (by decide)]
  unfold PHI
  rw [et, F 110 (by decide), F 113 (by decide), F 114 (by decide), G 71 (by decide), G 109 (by decide), G 107 (by decide)]
theorem w121 {x : Int32} : (∀ k, k ≠ 121 → (wA v 0 121 x).1 0 k = v.1 0 k) ∧ (∀ k, k ≠ 0 → (wA v 0 121 x).1 k = v.1 k) ∧ (wA v 0 121 x).1 0 121 = x := by
  refine ⟨fun k hk => ?_, fun k hk => ?_, ?_⟩
  · show upd (v.1 0) 121 x k = v.1 0 k; exact pk_un hk
  · show (if k = 0 then upd (v.1 0) 121 x else v.1 k) = v.1 k; rw [if_neg hk]
  · show upd (v.1 0) 121 x 121 = x; exact pk_us
theorem OBW.e {w : MS} {r : Int32} (o : OBE T E h w u r) : OBW T E h (wA u 0 121 r) := by
  obtain ⟨a, c, d⟩ := w121 (v := u) (x := r)
  unfold OBW
  rw [d, a 112 (by decide), a 106 (by decide)]
  rcases o with ⟨q1, q2, q3⟩ | ⟨q1, q2⟩
  · exact Or.inl ⟨q1, q2.set (y := r) a c⟩
  · exact Or.inr ⟨q1, fun w => absurd w q2⟩
theorem OBW.o {r : Int32} (o : OBP T E h v u (v.1 0 112) r) : OBW T E h (wA u 0 121 r) := by
  obtain ⟨a, c, d⟩ := w121 (v := u) (x := r)
  unfold OBW
  rw [d, a 112 (by decide), a 106 (by decide)]
  rcases o with ⟨q1, q2, q3⟩ | ⟨q1, q2⟩
  · exact Or.inl ⟨q1, q2.set (y := r) a c⟩
  · exact Or.inr ⟨q1, q2⟩
theorem OBW.mi (o : OBW T E h v) (e : (v.1 0 121).toInt = -1) : MI T E h v (v.1 0 112) := by
  rcases o with ⟨_, q⟩ | ⟨q, _⟩
  · exact q
  · exact absurd e q
theorem OBW.one (o : OBW T E h v) (e : (v.1 0 121).toInt = 0) : (v.1 0 106).toInt = 1 := by
  rcases o with ⟨q, _⟩ | ⟨_, q⟩
  · omega
  · exact q e
theorem MWK.lt {r : Int32} (e : (v.1 0 121).toInt = -1) (o : OBP T E h v u (v.1 0 112) r) : MWK T (wA u 0 121 r) < MWK T v := by
  obtain ⟨a, c, d⟩ := w121 (v := u) (x := r)
  unfold MWK
  rw [d, a 112 (by decide), if_pos e]
  rcases o with ⟨q1, q2, q3⟩ | ⟨q1, q2⟩
  · rw [if_pos q1, PHI.set a c]
    have := q2.num.2.2.2.2.2.2.2.1
    omega
  · rw [if_neg q1]; omega
end MIE
