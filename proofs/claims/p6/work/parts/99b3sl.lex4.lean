/-! texts: how long a name is; the reference's key words -/
section LX4
variable {L1 L2 : List Nat} {T : Nat → Int32} {L p q n : Nat} {v u w : MS} {pa pb pc1 r : Int32}
theorem xNameLen (X : TXC T L v) (hp : pa.toInt = p) (hl : p ≤ L) (h : Q_x_X7_nameBytes L1 L2 v pa r) : r.toInt = ((NLE T L p - p : Nat) : Int) := by
  obtain ⟨-, ka, hr, b, h⟩ := h
  obtain ⟨xl, x4, xt, x0⟩ := X
  have X : TXC T L v := ⟨xl, x4, xt, x0⟩
  have inv : ∃ k : Nat, ka.toInt = k ∧ p + k ≤ L ∧ NLE T L p = NLE T L (p + k) := by
    refine RT.ind (fun (y : Int32) => ∃ k : Nat, y.toInt = k ∧ p + k ≤ L ∧ NLE T L p = NLE T L (p + k)) hr ⟨0, by decide, hl, rfl⟩ ?_
    intro x y _ ⟨k, f1, f2, f3⟩ hy
    obtain ⟨-, -, r6, h6, r9, h9, -, g, rfl⟩ := hy
    have e6 := xByte h6 X (p := p + k) (incn hp f1 (by omega))
    have nm := (xName h9).mp g
    rw [e6] at nm
    have lt := nmp_lt nm
    exact ⟨k + 1, inc1 f1 (by omega), by omega, by rw [f3, NLE_y lt nm]; rfl⟩
  obtain ⟨k, f1, f2, f3⟩ := inv
  rw [xl] at h
  rcases h with ⟨a, rfl⟩ | ⟨a, r6, h6, r9, h9, -, g, rfl⟩
  · have : p = 0 := by omega
    rw [f3, NLE_end (by omega), xl]
    omega
  · have e6 := xByte h6 X (p := p + k) (incn hp f1 (by omega))
    have nm : ¬ nmp (btq T L (p + k)) := fun q => (xName h9).mpr (by rw [e6]; exact q) g
    have e : NLE T L (p + k) = p + k := by
      by_cases c : p + k < L
      · exact NLE_n c nm
      · rw [NLE_end (by omega)]; omega
    rw [f3, e, f1]
    omega
theorem mNameEnd (X : TXM T L w) (X2 : TXM T L u) (hp : pa.toInt = p) (hl : p < L) {to : Int32} (hr : RT (fun xq yq => ∃ r47 : Int32, Q_m_at2 u xq r47 ∧ ∃ r50, K_m_isOfName2 r47 r50 ∧ r50.toInt ≠ 0 ∧ yq = xq + 1) pa to) {r47 r50 : Int32} (h47 : Q_m_at2 u to r47) (k50 : K_m_isOfName2 r47 r50) (z : r50.toInt = 0) : to.toInt = NLE T L p := by
  have x4 := X.2.1
  have inv : ∃ k : Nat, to.toInt = k ∧ k ≤ L ∧ NLE T L p = NLE T L k := by
    refine RT.ind (fun (y : Int32) => ∃ k : Nat, y.toInt = k ∧ k ≤ L ∧ NLE T L p = NLE T L k) hr ⟨p, hp, by omega, rfl⟩ ?_
    intro x y _ ⟨k, f1, f2, f3⟩ hy
    obtain ⟨r, h1, r2, h2, g, rfl⟩ := hy
    have nm := (mName h2).mp g
    rw [mAt h1 X2 f1, nmp_b0] at nm
    have lt := nmp_lt nm
    exact ⟨k + 1, inc1 f1 (by omega), by omega, by rw [f3, NLE_y lt nm]⟩
  obtain ⟨k, f1, f2, f3⟩ := inv
  have nm : ¬ nmp (btq T L k) := fun q => (mName k50).mpr (by rw [mAt h47 X2 f1, nmp_b0]; exact q) z
  have e : NLE T L k = k := by
    by_cases c : k < L
    · exact NLE_n c nm
    · rw [NLE_end (by omega)]; omega
  rw [f3, e, f1]
/-- one key word in the reference -/
theorem mWord (X : TXM T L w) (hp : pa.toInt = p) (hn : pb.toInt = n) (hl : p + n ≤ L) {e : Nat} (he : e < 11) {ia ja sa r7 : Int32} (hi : ia.toInt = stw e) (hr : RT (Q_m_wordOf_L1 w pa pb ia) (ia, 1) (ja, sa)) (h7 : r7 = nI (chN 23 ja.toNatClampNeg)) (c7 : r7.toInt = 32) (jb : ia.toInt ≤ ja.toInt ∧ ja.toInt ≤ 54) : ja.toInt = stw e + wl e ∧ (sa.toInt ≠ 0 ↔ wl e ≤ n ∧ ∀ j, j < wl e → btq T L (p + j) = (chN 0 (8 * e + j) : Int)) := by
  have x4 := X.2.1
  have w8 := wl_8 e he
  have sn := stw_n e he
  have inv : ∃ k : Nat, ja.toInt = stw e + k ∧ k ≤ wl e ∧ (sa.toInt ≠ 0 ↔ k ≤ n ∧ ∀ j, j < k → btq T L (p + j) = (chN 0 (8 * e + j) : Int)) := by
    refine RT.ind (fun (y : Int32 × Int32) => ∃ k : Nat, y.1.toInt = stw e + k ∧ k ≤ wl e ∧ (y.2.toInt ≠ 0 ↔ k ≤ n ∧ ∀ j, j < k → btq T L (p + j) = (chN 0 (8 * e + j) : Int))) hr ⟨0, by show ia.toInt = _; omega, by omega, fun _ => ⟨by omega, fun j hj => by omega⟩, fun _ => i10⟩ ?_
    intro x y _ ⟨k, f1, f2, f3⟩ hy
    obtain ⟨b1, r, hc, c32, hy⟩ := hy
    have nx := natI (a := x.1) (by omega)
    have ex : x.1.toNatClampNeg = stw e + k := by omega
    rw [ex] at hc hy
    have er : r.toInt = (chN 23 (stw e + k) : Int) := by rw [hc]; exact nI_c
    have kl : k < wl e := by
      by_cases q : k = wl e
      · exfalso
        rw [q] at er
        rw [sn.2.1] at er
        exact c32 er
      · omega
    have ec := stw_c e he k kl
    have e1 : (x.1 + (1 : Int32)).toInt = x.1.toInt + 1 := add_z rfl (by decide) (by omega) (by omega)
    have go : ∀ {s : Int32}, y = (x.1 + 1, s) → (s.toInt ≠ 0 ↔ k + 1 ≤ n ∧ ∀ j, j < k + 1 → btq T L (p + j) = (chN 0 (8 * e + j) : Int)) → ∃ k : Nat, y.1.toInt = stw e + k ∧ k ≤ wl e ∧ (y.2.toInt ≠ 0 ↔ k ≤ n ∧ ∀ j, j < k → btq T L (p + j) = (chN 0 (8 * e + j) : Int)) := by
      rintro s rfl q
      exact ⟨k + 1, by show (x.1 + (1 : Int32)).toInt = _; omega, by omega, q⟩
    rcases hy with ⟨a, hy⟩ | ⟨a, ⟨b, hy⟩ | ⟨b, r35, h35, ⟨c, hy⟩ | ⟨c, hy⟩⟩⟩
    · exact go hy ⟨fun q => absurd rfl q, fun q => absurd a (f3.mpr ⟨by omega, fun j hj => q.2 j (by omega)⟩)⟩
    · exact go hy ⟨fun q => absurd rfl q, fun q => by omega⟩
    · have e35 : r35.toInt = (chN 23 (stw e + k) : Int) := by rw [h35]; exact nI_c
      have ep : ((pa + x.1) - ia).toInt = ((p + k : Nat) : Int) := by
        have m1 : (pa + x.1).toInt = pa.toInt + x.1.toInt := add_z rfl rfl (by omega) (by omega)
        have m2 : ((pa + x.1) - ia).toInt = (pa + x.1).toInt - ia.toInt := sub_z rfl rfl (by omega) (by omega)
        omega
      rw [mText X ep (by omega), e35, ec] at c
      exact go hy ⟨fun q => absurd rfl q, fun q => absurd (q.2 k (by omega)) c⟩
    · have e35 : r35.toInt = (chN 23 (stw e + k) : Int) := by rw [h35]; exact nI_c
      have ep : ((pa + x.1) - ia).toInt = ((p + k : Nat) : Int) := by
        have m1 : (pa + x.1).toInt = pa.toInt + x.1.toInt := add_z rfl rfl (by omega) (by omega)
        have m2 : ((pa + x.1) - ia).toInt = (pa + x.1).toInt - ia.toInt := sub_z rfl rfl (by omega) (by omega)
        omega
      rw [mText X ep (by omega), e35, ec] at c
      refine go hy ⟨fun _ => ⟨by omega, fun j hj => ?_⟩, fun _ => i10⟩
      by_cases q : j = k
      · rw [q]; exact c
      · exact (f3.mp a).2 j (by omega)
  obtain ⟨k, f1, f2, f3⟩ := inv
  have nj := natI (a := ja) (by omega)
  have ej : ja.toNatClampNeg = stw e + k := by omega
  have e7 : r7.toInt = (chN 23 (stw e + k) : Int) := by rw [h7, ej]; exact nI_c
  have kk : k = wl e := by
    by_cases q : k < wl e
    · exfalso
      rw [stw_c e he k q] at e7
      have : chN 0 (8 * e + k) = 32 := by omega
      have := (wl_32 e he k (by omega)).mp this
      omega
    · omega
  rw [kk] at f1 f3
  exact ⟨f1, f3⟩
theorem MW_iff {e : Nat} : MW T L p n e ↔ (wl e ≤ n ∧ ∀ j, j < wl e → btq T L (p + j) = (chN 0 (8 * e + j) : Int)) ∧ wl e = n := by
  unfold MW
  constructor
  · rintro ⟨rfl, h⟩
    exact ⟨⟨Nat.le_refl _, h⟩, rfl⟩
  · rintro ⟨⟨-, h⟩, rfl⟩
    exact ⟨rfl, h⟩
set_option maxHeartbeats 800000 in
theorem mKey (X : TXM T L w) (hp : pa.toInt = p) (hn : pb.toInt = n) (hl : p + n ≤ L) (h : Q_m_wordOf w pa pb r) : (r.toInt = -1 ∧ ∀ e, e < 11 → ¬ MW T L p n e) ∨ ∃ k : Nat, k < 11 ∧ r.toInt = k ∧ MW T L p n k ∧ ∀ e, e < k → ¬ MW T L p n e := by
  obtain ⟨-, wh, ia, hr, -, -, h⟩ := h
  have inv : ∃ k : Nat, k ≤ 11 ∧ wh.toInt = k ∧ ia.toInt = stw k ∧ ∀ e, e < k → ¬ MW T L p n e := by
    refine RT.ind (fun (y : Int32 × Int32) => ∃ k : Nat, k ≤ 11 ∧ y.1.toInt = k ∧ y.2.toInt = stw k ∧ ∀ e, e < k → ¬ MW T L p n e) hr ⟨0, by omega, by decide, by decide, fun e he => by omega⟩ ?_
    intro x y _ ⟨k, f0, f1, f2, f3⟩ hy
    obtain ⟨-, -, c55, ja, sa, h1, jb, r7, h7, c7, hy⟩ := hy
    have k11 : k < 11 := by
      by_cases q : k = 11
      · rw [q] at f2
        have : stw 11 = 55 := by decide
        omega
      · omega
    have W := mWord X hp hn hl k11 f2 h1 h7 c7 jb
    have sn := stw_n k k11
    have e1 : (x.1 + (1 : Int32)).toInt = x.1.toInt + 1 := add_z rfl (by decide) (by omega) (by omega)
    have e2 : (ja + (1 : Int32)).toInt = ja.toInt + 1 := add_z rfl (by decide) (by omega) (by omega)
    have no : ¬ MW T L p n k → y = (x.1 + 1, ja + 1) → ∃ k : Nat, k ≤ 11 ∧ y.1.toInt = k ∧ y.2.toInt = stw k ∧ ∀ e, e < k → ¬ MW T L p n e := by
      rintro q rfl
      refine ⟨k + 1, by omega, by show (x.1 + (1 : Int32)).toInt = _; omega, by show (ja + (1 : Int32)).toInt = _; omega, fun e he => ?_⟩
      by_cases z : e = k
      · rw [z]; exact q
      · exact f3 e (by omega)
    rcases hy with ⟨a, hy⟩ | ⟨a, b, hy⟩
    · exact no (fun m => W.2.mpr (MW_iff.mp m).1 a) hy
    · exact no (fun m => b (by have := (MW_iff.mp m).2; omega)) hy
  obtain ⟨k, f0, f1, f2, f3⟩ := inv
  rcases h with ⟨a, rfl⟩ | ⟨a, ja, sa, h1, jb, r7, h7, c7, b, c, rfl⟩
  · refine Or.inl ⟨by decide, fun e he => f3 e ?_⟩
    by_cases q : k < 11
    · have := (stw_n k q).2.2.1
      omega
    · omega
  · have k11 : k < 11 := by
      by_cases q : k = 11
      · rw [q] at f2
        have : stw 11 = 55 := by decide
        omega
      · omega
    have W := mWord X hp hn hl k11 f2 h1 h7 c7 jb
    exact Or.inr ⟨k, k11, f1, MW_iff.mpr ⟨W.2.mp b, by omega⟩, f3⟩
end LX4
