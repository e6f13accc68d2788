/-! texts: a round of both lexers -/
def plc (v : MS) (j : Nat) : Nat := (v.1 302 j).toNatClampNeg
def TAj (T : Nat → Int32) (L : Nat) (v w : MS) (j : Nat) : Prop := v.1 301 j = kM (w.1 6 j) (w.2 j) (w.1 10 j) ∧ v.1 302 j = w.1 7 j ∧ ((w.1 6 j = 4 ∨ w.1 6 j = 6) → v.1 303 j = (w.2 j).toInt32) ∧ TV (w.1 6 j) (w.2 j) ∧ (w.1 6 j = 4 → -2147483648 ≤ (w.2 j).toInt ∧ (w.1 10 j = 0 → (w.2 j).toInt ≤ 2147483647)) ∧ (v.1 301 j = 2 → 0 ≤ (v.1 302 j).toInt ∧ plc v j < L ∧ ltr (btq T L (plc v j)) ∧ (w.1 8 j).toInt = ((NLE T L (plc v j) : Nat) : Int)) ∧ (v.1 301 j = 0 → (v.1 302 j).toInt = L)
def NVj (T : Nat → Int32) (L : Nat) (v : MS) (j : Nat) : Prop := v.1 301 j = 2 → ∃ x : Nat, x ≤ j ∧ (v.1 303 j).toInt = x ∧ v.1 301 x = 2 ∧ (v.1 303 x).toInt = x ∧ NEQ T L (plc v x) (plc v j)
def NVE (T : Nat → Int32) (L n : Nat) (v : MS) : Prop := (∀ j, j < n → NVj T L v j) ∧ ∀ i j, i < n → j < n → v.1 301 i = 2 → v.1 301 j = 2 → (NEQ T L (plc v i) (plc v j) ↔ v.1 303 i = v.1 303 j)
section LXB
variable {L1 L2 : List Nat} {T : Nat → Int32} {L p q n : Nat} {v u w u' : MS} {pa pb pc1 r rq r' dig unt : Int32} {val : Int64}
theorem kM_1 {k : Int32} {x : Int64} {d : Int32} (h : TV k x) : (kM k x d).toInt ≤ 1 ↔ k.toInt ≤ 1 := by
  have hk := h.1
  simp only [List.mem_cons, List.not_mem_nil, or_false] at hk
  rcases hk with rfl | rfl | rfl | rfl | rfl | rfl | rfl
  · exact ⟨fun _ => by decide, fun _ => by show (0 : Int32).toInt ≤ 1; decide⟩
  · exact ⟨fun _ => by decide, fun _ => by show (1 : Int32).toInt ≤ 1; decide⟩
  · exact ⟨fun q => absurd q (by show ¬ (2 : Int32).toInt ≤ 1; decide), fun q => absurd q (by decide)⟩
  · obtain ⟨z, hz, rfl⟩ := h.2.1 rfl
    have e1 : kM 3 z.toInt64 d = 10 + z := by unfold kM; rw [if_pos rfl, i64_32]
    have : ∀ z ∈ KL, 10 ≤ (10 + z : Int32).toInt := by decide
    have := this z hz
    rw [e1]
    exact ⟨fun q => by omega, fun q => absurd q (by decide)⟩
  · refine ⟨fun q => ?_, fun q => absurd q (by decide)⟩
    unfold kM at q
    rw [if_neg (by decide), if_pos rfl] at q
    split at q <;> exact absurd q (by decide)
  · obtain ⟨z, hz, rfl⟩ := h.2.2 rfl
    have e1 : kM 5 z.1.toInt64 d = z.2 := (kM_5 h hz).mpr ⟨rfl, rfl⟩
    have := (sgk_SC z hz).2
    rw [e1]
    exact ⟨fun q => by omega, fun q => absurd q (by decide)⟩
  · exact ⟨fun q => absurd q (by show ¬ (5 : Int32).toInt ≤ 1; decide), fun q => absurd q (by decide)⟩
/-- the reference's token writes at its own place alone -/
theorem numFr (h : Q_m_number w pa r u) : FTk w u (w.1 0 5).toNatClampNeg := by
  obtain ⟨-, -, -, -, h⟩ := h
  rcases h with ⟨-, tn, lb, -, -, -, r5, -, -, r8, -, -, ⟨-, ⟨-, -, rfl⟩ | ⟨-, r17, -, -, r20, -, -, ⟨-, -, rfl⟩ | ⟨-, -, rfl⟩⟩⟩ | ⟨-, -, -, -, rfl⟩⟩ | ⟨-, r42, -, -, ⟨-, tn, lb, -, -, -, r5, -, -, r8, -, -, ⟨-, ⟨-, -, rfl⟩ | ⟨-, r17, -, -, r20, -, -, ⟨-, -, rfl⟩ | ⟨-, -, rfl⟩⟩⟩ | ⟨-, -, -, -, rfl⟩⟩ | ⟨-, to, la, -, -, r84, -, -, r87, -, -, ⟨-, ⟨-, -, rfl⟩ | ⟨-, ⟨-, -, rfl⟩ | ⟨-, r100, -, -, r103, -, -, ⟨-, -, rfl⟩ | ⟨-, -, rfl⟩⟩⟩⟩ | ⟨-, -, -, -, -, rfl⟩⟩⟩
  · exact FTk.rf
  · exact ((FTk.rf.w10).wl).w8
  · exact FTk.rf
  · exact FTk.rf
  · exact FTk.rf
  · exact ((FTk.rf.w10).wl).w8
  · exact FTk.rf
  · exact FTk.rf
  · exact FTk.rf
  · exact FTk.rf
  · exact ((FTk.rf.w10).wl).w8
  · exact FTk.rf
  · exact FTk.rf
theorem sgnFr (h : Q_m_sign w pa r u) : FTk w u (w.1 0 5).toNatClampNeg := by
  obtain ⟨-, -, -, ia, -, -, h⟩ := h
  rcases h with ⟨-, -, rfl⟩ | ⟨-, ja, va, sa, -, -, -, r7, -, -, -, -, rfl⟩
  · exact FTk.rf
  · exact (FTk.rf.w8).wl
theorem tokFr (h : Q_m_token w pb r' u') : FTk w u' (w.1 0 5).toNatClampNeg := by
  obtain ⟨-, -, -, r4, -, -, h⟩ := h
  have F1 : FTk w (wA w 8 (w.1 0 5).toNatClampNeg (pb + 1)) (w.1 0 5).toNatClampNeg := FTk.rf.w8
  rcases h with ⟨-, r9, -, -, ⟨-, ⟨-, r16, u15, hs, -, -, rfl⟩ | ⟨-, r21, -, -, ⟨-, -, rfl⟩ | ⟨-, ⟨-, -, rfl⟩ | ⟨-, ⟨-, -, rfl⟩ | ⟨-, r34, -, -, ⟨-, -, rfl⟩ | ⟨-, ⟨-, -, rfl⟩ | ⟨-, -, rfl⟩⟩⟩⟩⟩⟩⟩ | ⟨-, to, -, -, -, r47, -, -, r50, -, -, -, ⟨-, r59, -, ⟨-, -, rfl⟩ | ⟨-, -, rfl⟩⟩ | ⟨-, -, rfl⟩⟩⟩ | ⟨-, r71, u70, hn, -, -, rfl⟩
  · exact F1.tr (sgnFr hs)
  · exact F1
  · exact F1
  · exact F1
  · exact F1
  · exact (F1.w8).wl
  · exact F1
  · exact (F1.w8).wl
  · exact (F1.w8).wl
  · exact F1.w8
  · exact F1.tr (numFr hn)
theorem TXC.tok {k x : Int32} (X : TXC T L v) : TXC T L (tokAdd v k pa x) := ⟨X.1, X.2.1, X.2.2.1, X.2.2.2⟩
theorem tok_at {k x : Int32} (h : (v.1 0 304).toInt = n) : (tokAdd v k pa x).1 301 n = k ∧ (tokAdd v k pa x).1 302 n = pa ∧ (tokAdd v k pa x).1 303 n = x := by
  have e : (v.1 0 304).toNatClampNeg = n := by have := natI (a := v.1 0 304) (by omega); omega
  refine ⟨?_, ?_, ?_⟩
  · show upd (v.1 301) (v.1 0 304).toNatClampNeg k n = k
    rw [e, updS]
  · show upd (v.1 302) (v.1 0 304).toNatClampNeg pa n = pa
    rw [e, updS]
  · show upd (v.1 303) (v.1 0 304).toNatClampNeg x n = x
    rw [e, updS]
theorem tok_ol {k x : Int32} {j : Nat} (h : (v.1 0 304).toInt = n) (hj : j ≠ n) : (tokAdd v k pa x).1 301 j = v.1 301 j ∧ (tokAdd v k pa x).1 302 j = v.1 302 j ∧ (tokAdd v k pa x).1 303 j = v.1 303 j := by
  have e : (v.1 0 304).toNatClampNeg = n := by have := natI (a := v.1 0 304) (by omega); omega
  refine ⟨?_, ?_, ?_⟩
  · show upd (v.1 301) (v.1 0 304).toNatClampNeg k j = _
    rw [e, updN_ hj]
  · show upd (v.1 302) (v.1 0 304).toNatClampNeg pa j = _
    rw [e, updN_ hj]
  · show upd (v.1 303) (v.1 0 304).toNatClampNeg x j = _
    rw [e, updN_ hj]
/-- the first name that is alike -/
theorem xFirst (X : TXC T L v) (h4 : (v.1 0 304).toInt = n) (hq : pa.toInt = q) (hl : q < L) (ln : ltr (btq T L q)) (hn : pb.toInt = ((NLE T L q - q : Nat) : Int)) (pls : ∀ j, j < n → v.1 301 j = 2 → 0 ≤ (v.1 302 j).toInt ∧ plc v j < L) (h : Q_x_X9_firstAlike L1 L2 v pa pb r) : (r.toInt = n ∧ ∀ j, j < n → v.1 301 j = 2 → (v.1 303 j).toInt = j → ¬ NEQ T L (plc v j) q) ∨ ∃ k, k < n ∧ r.toInt = k ∧ v.1 301 k = 2 ∧ (v.1 303 k).toInt = k ∧ NEQ T L (plc v k) q := by
  obtain ⟨-, -, ka, hr, -, h⟩ := h
  have x4 := X.2.1
  have two : (2 : Int32).toInt = 2 := by decide
  have al : ∀ {k : Nat} {r14 : Int32}, k < n → v.1 301 k = 2 → Q_x_X9_isAlike L1 L2 v (v.1 302 k) pa pb r14 → (r14.toInt ≠ 0 ↔ NEQ T L (plc v k) q) := by
    intro k r14 hk h2 h14
    have P := pls k hk h2
    exact xAlike X (natI P.1).symm hq P.2 hl ln hn h14
  have inv : ∃ m : Nat, m ≤ n ∧ ka.toInt = m ∧ ∀ j, j < m → v.1 301 j = 2 → (v.1 303 j).toInt = j → ¬ NEQ T L (plc v j) q := by
    refine RT.ind (fun (y : Int32) => ∃ m : Nat, m ≤ n ∧ y.toInt = m ∧ ∀ j, j < m → v.1 301 j = 2 → (v.1 303 j).toInt = j → ¬ NEQ T L (plc v j) q) hr ⟨0, by omega, by decide, fun j hj => by omega⟩ ?_
    intro x y _ ⟨m, f0, f1, f2⟩ hy
    obtain ⟨-, g1, hy⟩ := hy
    have nx := natI (a := x) (by omega)
    have ex : x.toNatClampNeg = m := by omega
    rw [ex] at hy
    have e1 : (x + (1 : Int32)).toInt = x.toInt + 1 := add_z rfl (by decide) (by omega) (by have := Int32.toInt_lt (v.1 0 304); omega)
    have go : y = x + 1 → (v.1 301 m = 2 → (v.1 303 m).toInt = m → ¬ NEQ T L (plc v m) q) → ∃ m : Nat, m ≤ n ∧ y.toInt = m ∧ ∀ j, j < m → v.1 301 j = 2 → (v.1 303 j).toInt = j → ¬ NEQ T L (plc v j) q := by
      rintro rfl z
      refine ⟨m + 1, by omega, by omega, fun j hj => ?_⟩
      by_cases g : j = m
      · rw [g]; exact z
      · exact f2 j (by omega)
    rcases hy with ⟨a, hy⟩ | ⟨a, ⟨b, hy⟩ | ⟨b, r14, h14, -, c, hy⟩⟩
    · exact go hy (fun z => absurd (by rw [z]; exact two) a)
    · exact go hy (fun _ z => absurd (by omega) b)
    · exact go hy (fun z1 _ z3 => (al (by omega) z1 h14).mpr z3 c)
  obtain ⟨m, f0, f1, f2⟩ := inv
  rcases h with ⟨a, rfl⟩ | ⟨a, b, c, r14, h14, -, d, rfl⟩
  · have : m = n := by omega
    rw [this] at f2
    exact Or.inl ⟨h4, f2⟩
  · have nx := natI (a := r) (by omega)
    have ex : r.toNatClampNeg = m := by omega
    rw [ex] at b c h14
    have b2 : v.1 301 m = 2 := Int32.toInt_inj.mp (by rw [two]; exact b)
    exact Or.inr ⟨m, by omega, f1, b2, by omega, (al (by omega) b2 h14).mp d⟩
end LXB
