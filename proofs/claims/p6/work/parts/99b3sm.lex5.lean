/-! texts: signs -/
def sln (k : Nat) : Nat := [1, 1, 1, 1, 1, 1, 1, 1, 1, 1, 1, 1, 1, 2, 2, 2, 2, 2, 2, 2, 2, 3, 3, 1, 1, 1, 1, 1, 1, 1, 1, 2, 2, 2, 2, 1, 2, 1, 2, 2, 2].getD k 0
def ron (i : Nat) : Nat := [21, 22, 13, 14, 15, 16, 17, 18, 19, 20, 40, 39, 33, 34, 36, 38, 31, 32, 0, 1, 2, 3, 4, 5, 6, 7, 8, 9, 12, 29, 30, 28, 35, 37, 23, 24, 25, 26, 27, 10, 11].getD i 0
def sts (i : Nat) : Nat := [0, 4, 8, 11, 14, 17, 20, 23, 26, 29, 32, 35, 38, 41, 44, 47, 50, 53, 56, 58, 60, 62, 64, 66, 68, 70, 72, 74, 76, 78, 80, 82, 84, 86, 88, 90, 92, 94, 96, 98, 100, 102].getD i 102
def pk (k : Nat) : Nat → Int32
  | 0 => 0
  | j + 1 => pk k j ||| (nI (chN 1 (3 * k + j)) <<< ((8 * Int32.ofNat j) &&& 31))
def SMt (T : Nat → Int32) (L p k : Nat) : Prop := ∀ j, j < sln k → btq T L (p + j) = (chN 1 (3 * k + j) : Int)
set_option maxRecDepth 4000 in
theorem sln_32 : ∀ k, k < 41 → ∀ j, j < 3 → (chN 1 (3 * k + j) = 32 ↔ sln k ≤ j) := by decide +kernel
theorem sln_3 : ∀ k, k < 41 → 1 ≤ sln k ∧ sln k ≤ 3 := by decide +kernel
theorem ron_41 : ∀ i, i < 41 → ron i < 41 := by decide +kernel
theorem ron_s : ∀ k, k < 41 → ∃ i, i < 41 ∧ ron i = k := by decide +kernel
theorem sts_c : ∀ i, i < 41 → ∀ j, j < sln (ron i) → chN 24 (sts i + j) = chN 1 (3 * ron i + j) := by decide +kernel
theorem sts_n : ∀ i, i < 41 → sts (i + 1) = sts i + sln (ron i) + 1 ∧ chN 24 (sts i + sln (ron i)) = 32 ∧ sts i < 102 ∧ sts (i + 1) ≤ 102 := by decide +kernel
theorem ron_p : ∀ i, i < 41 → ∀ l, l < 41 → i < l → sln (ron i) < sln (ron l) → ¬ ∀ j, j < sln (ron i) → chN 1 (3 * ron i + j) = chN 1 (3 * ron l + j) := by decide +kernel
theorem sln_d : ∀ k, k < 41 → ∀ l, l < 41 → k ≠ l → sln k = sln l → ¬ ∀ j, j < sln k → chN 1 (3 * k + j) = chN 1 (3 * l + j) := by decide +kernel
theorem pk_SC : ∀ k, k < 41 → (pk k (sln k), 30 + Int32.ofNat k) ∈ SC := by decide +kernel
section LX5
variable {L1 L2 : List Nat} {T : Nat → Int32} {L p q n : Nat} {v u w : MS} {pa pb pc1 r : Int32}
set_option maxHeartbeats 400000 in
theorem xSpS (X : TXC T L v) (hp : pc1.toInt = p) (hl : p ≤ L) {e : Nat} (he : e < 41) (hb : pb.toInt = e) (h : Q_x_spelledS L1 L2 v 3 pb pc1 r) : (r.toInt = sln e ∧ ∀ j, j < sln e → btq T L (p + j) = (chN 1 (3 * e + j) : Int)) ∨ (r.toInt = 0 ∧ ∃ j, j < sln e ∧ btq T L (p + j) ≠ (chN 1 (3 * e + j) : Int)) := by
  obtain ⟨-, ka, hr, h0, h⟩ := h
  have x4 := X.2.1
  have w8 := sln_3 e he
  have eight : (3 : Int32).toInt = 3 := by decide
  have ix : ∀ {y : Int32} {k : Nat}, y.toInt = k → k < 3 → (pb * 3 + y).toInt = ((3 * e + k : Nat) : Int) ∧ (pb * 3 + y).toNatClampNeg = 3 * e + k := by
    intro y k hy hk
    have m1 : (pb * 3).toInt = pb.toInt * 3 := mul_z rfl eight (by omega) (by omega)
    have m2 : (pb * 3 + y).toInt = pb.toInt * 3 + y.toInt := add_z m1 rfl (by omega) (by omega)
    have m3 := natI (a := pb * 3 + y) (by omega)
    constructor <;> omega
  have inv : ∃ k : Nat, ka.toInt = k ∧ k ≤ sln e ∧ ∀ j, j < k → btq T L (p + j) = (chN 1 (3 * e + j) : Int) := by
    refine RT.ind (fun (y : Int32) => ∃ k : Nat, y.toInt = k ∧ k ≤ sln e ∧ ∀ j, j < k → btq T L (p + j) = (chN 1 (3 * e + j) : Int)) hr ⟨0, by decide, by omega, fun j hj => by omega⟩ ?_
    intro x y _ ⟨k, f1, f2, f3⟩ hy
    obtain ⟨-, g1, -, -, r15, hc, g2, r20, hb2, g3, rfl⟩ := hy
    have k8 : k < 3 := by omega
    have I := ix f1 k8
    rw [I.2] at hc
    have e15 : r15.toInt = (chN 1 (3 * e + k) : Int) := by rw [hc]; exact nI_c
    have e20 := xByte hb2 X (p := p + k) (incn hp f1 (by omega))
    have kl : ¬ sln e ≤ k := fun q => g2 (by rw [e15, (sln_32 e he k k8).mpr q]; rfl)
    refine ⟨k + 1, inc1 f1 (by omega), by omega, fun j hj => ?_⟩
    by_cases q : j = k
    · rw [q, ← e20, ← e15, g3]
    · exact f3 j (by omega)
  obtain ⟨k, f1, f2, f3⟩ := inv
  rw [eight] at h
  rcases h with ⟨a, rfl⟩ | ⟨a, h⟩
  · refine Or.inl ⟨by rw [eight]; omega, fun j hj => f3 j (by omega)⟩
  have I := ix f1 (by omega)
  rcases h with ⟨b, -⟩ | ⟨-, ⟨b, -⟩ | ⟨-, r15, hc, ⟨c, r20, hb2, d, rfl⟩ | ⟨c, rfl⟩⟩⟩
  · omega
  · omega
  · rw [I.2] at hc
    have e15 : r15.toInt = (chN 1 (3 * e + k) : Int) := by rw [hc]; exact nI_c
    have e20 := xByte hb2 X (p := p + k) (incn hp f1 (by omega))
    have kl : ¬ sln e ≤ k := fun q => c (by rw [e15, (sln_32 e he k (by omega)).mpr q]; rfl)
    exact Or.inr ⟨by decide, k, by omega, by rw [← e20, ← e15]; exact d⟩
  · rw [I.2] at hc
    have e15 : r15.toInt = (chN 1 (3 * e + k) : Int) := by rw [hc]; exact nI_c
    have kl : sln e ≤ k := (sln_32 e he k (by omega)).mp (by have : (chN 1 (3 * e + k) : Int) = 32 := (by rw [← e15]; exact c); omega)
    exact Or.inl ⟨by omega, fun j hj => f3 j (by omega)⟩
/-- the class: the longest sign -/
theorem xSign (X : TXC T L v) (hp : pa.toInt = p) (hl : p ≤ L) {kd mo ka : Int32} (hr : RT (Q_x_X9_scanSign_L0 L1 L2 v pa) (1, 0, 0) (kd, mo, ka)) (hx : 41 ≤ ka.toInt) : (kd = 1 ∧ mo = 0 ∧ ∀ k, k < 41 → ¬ SMt T L p k) ∨ ∃ k, k < 41 ∧ kd = 30 + Int32.ofNat k ∧ mo.toInt = sln k ∧ SMt T L p k ∧ ∀ l, l < 41 → SMt T L p l → sln l ≤ sln k := by
  have inv : ∃ m : Nat, m ≤ 41 ∧ ka.toInt = m ∧ ((kd = 1 ∧ mo = 0 ∧ ∀ k, k < m → ¬ SMt T L p k) ∨ ∃ k, k < m ∧ kd = 30 + Int32.ofNat k ∧ mo.toInt = sln k ∧ SMt T L p k ∧ ∀ l, l < m → SMt T L p l → sln l ≤ sln k) := by
    refine RT.ind (fun (y : Int32 × Int32 × Int32) => ∃ m : Nat, m ≤ 41 ∧ y.2.2.toInt = m ∧ ((y.1 = 1 ∧ y.2.1 = 0 ∧ ∀ k, k < m → ¬ SMt T L p k) ∨ ∃ k, k < m ∧ y.1 = 30 + Int32.ofNat k ∧ y.2.1.toInt = sln k ∧ SMt T L p k ∧ ∀ l, l < m → SMt T L p l → sln l ≤ sln k)) hr ⟨0, by omega, by decide, Or.inl ⟨rfl, rfl, fun k hk => by omega⟩⟩ ?_
    intro x y _ ⟨m, f0, f1, f2⟩ hy
    obtain ⟨-, g1, r11, h11, hy⟩ := hy
    have S := xSpS X hp hl (e := m) (by omega) f1 h11
    have e1 := inc1 f1 (by omega)
    have s3 := sln_3 m (by omega)
    have S' : (r11.toInt = sln m ∧ SMt T L p m) ∨ (r11.toInt = 0 ∧ ¬ SMt T L p m) := by
      rcases S with ⟨a, b⟩ | ⟨a, j, b, c⟩
      · exact Or.inl ⟨a, b⟩
      · exact Or.inr ⟨a, fun q => c (q j b)⟩
    rcases hy with ⟨a, rfl⟩ | ⟨a, rfl⟩
    · refine ⟨m + 1, by omega, e1, ?_⟩
      rcases f2 with ⟨g2, g3, g4⟩ | ⟨k, k1, k2, k3, k4, k5⟩
      · refine Or.inl ⟨g2, g3, fun k hk => ?_⟩
        by_cases q : k = m
        · rw [q]
          rcases S' with ⟨z, -⟩ | ⟨-, z⟩
          · have : (0 : Int32).toInt = 0 := by decide
            rw [g3] at a
            omega
          · exact z
        · exact g4 k (by omega)
      · refine Or.inr ⟨k, by omega, k2, k3, k4, fun l hl2 sl => ?_⟩
        by_cases q : l = m
        · rw [q] at sl ⊢
          rcases S' with ⟨z, -⟩ | ⟨-, z⟩
          · omega
          · exact absurd sl z
        · exact k5 l (by omega) sl
    · refine ⟨m + 1, by omega, e1, Or.inr ⟨m, by omega, ?_, ?_, ?_, ?_⟩⟩
      · show 30 + x.2.2 = _
        congr 1
        refine Int32.toInt_inj.mp ?_
        rw [f1, Int32.toInt_ofNat_of_lt (by omega)]
      · rcases S' with ⟨z, -⟩ | ⟨z, -⟩
        · exact z
        · exfalso
          rcases f2 with ⟨g2, g3, g4⟩ | ⟨k, k1, k2, k3, k4, k5⟩
          · rw [g3] at a
            have : (0 : Int32).toInt = 0 := by decide
            omega
          · omega
      · rcases S' with ⟨-, z⟩ | ⟨z, -⟩
        · exact z
        · exfalso
          rcases f2 with ⟨g2, g3, g4⟩ | ⟨k, k1, k2, k3, k4, k5⟩
          · rw [g3] at a
            have : (0 : Int32).toInt = 0 := by decide
            omega
          · omega
      · intro l hl2 sl
        by_cases q : l = m
        · rw [q]; exact Nat.le_refl _
        · rcases f2 with ⟨g2, g3, g4⟩ | ⟨k, k1, k2, k3, k4, k5⟩
          · exact absurd sl (g4 l (by omega))
          · have := k5 l (by omega) sl
            rcases S' with ⟨z, -⟩ | ⟨z, -⟩
            · omega
            · omega
  obtain ⟨m, f0, f1, f2⟩ := inv
  have : m = 41 := by omega
  rw [this] at f2
  exact f2
/-- one sign in the reference -/
theorem mSg (X : TXM T L w) (hp : pa.toInt = p) (hl : p < L) {i : Nat} (hi : i < 41) {ia ja va sa r7 : Int32} (h1 : ia.toInt = sts i) (hr : RT (Q_m_sign_L1 w pa ia) (ia, 0, 1) (ja, va, sa)) (h7 : r7 = nI (chN 24 ja.toNatClampNeg)) (c7 : r7.toInt = 32) (jb : ia.toInt ≤ ja.toInt ∧ ja.toInt ≤ 101) : ja.toInt = sts i + sln (ron i) ∧ va = pk (ron i) (sln (ron i)) ∧ (sa.toInt ≠ 0 ↔ SMt T L p (ron i)) := by
  have x4 := X.2.1
  have r41 := ron_41 i hi
  have s3 := sln_3 (ron i) r41
  have sn := sts_n i hi
  have inv : ∃ k : Nat, ja.toInt = sts i + k ∧ k ≤ sln (ron i) ∧ va = pk (ron i) k ∧ (sa.toInt ≠ 0 ↔ ∀ j, j < k → btq T L (p + j) = (chN 1 (3 * ron i + j) : Int)) := by
    refine RT.ind (fun (y : Int32 × Int32 × Int32) => ∃ k : Nat, y.1.toInt = sts i + k ∧ k ≤ sln (ron i) ∧ y.2.1 = pk (ron i) k ∧ (y.2.2.toInt ≠ 0 ↔ ∀ j, j < k → btq T L (p + j) = (chN 1 (3 * ron i + j) : Int))) hr ⟨0, by show ia.toInt = _; omega, by omega, rfl, fun _ j hj => by omega, fun _ => i10⟩ ?_
    intro x y _ ⟨k, f1, f2, f4, f3⟩ hy
    obtain ⟨b1, -, r, hc, c32, hy⟩ := hy
    have nx := natI (a := x.1) (by omega)
    have ex : x.1.toNatClampNeg = sts i + k := by omega
    rw [ex] at hc hy
    have er : r.toInt = (chN 24 (sts i + k) : Int) := by rw [hc]; exact nI_c
    have kl : k < sln (ron i) := by
      by_cases q : k = sln (ron i)
      · exfalso
        rw [q] at er
        rw [sn.2.1] at er
        exact c32 er
      · omega
    have ec := sts_c i hi k kl
    rw [ec] at hy
    have e1 : (x.1 + (1 : Int32)).toInt = x.1.toInt + 1 := add_z rfl (by decide) (by omega) (by omega)
    have ed : x.1 - ia = Int32.ofNat k := by
      refine Int32.toInt_inj.mp ?_
      rw [Int32.toInt_ofNat_of_lt (by omega)]
      have : (x.1 - ia).toInt = x.1.toInt - ia.toInt := sub_z rfl rfl (by omega) (by omega)
      omega
    rw [ed, f4] at hy
    have go : ∀ {s : Int32}, y = (x.1 + 1, pk (ron i) (k + 1), s) → (s.toInt ≠ 0 ↔ ∀ j, j < k + 1 → btq T L (p + j) = (chN 1 (3 * ron i + j) : Int)) → ∃ k : Nat, y.1.toInt = sts i + k ∧ k ≤ sln (ron i) ∧ y.2.1 = pk (ron i) k ∧ (y.2.2.toInt ≠ 0 ↔ ∀ j, j < k → btq T L (p + j) = (chN 1 (3 * ron i + j) : Int)) := by
      rintro s rfl q
      exact ⟨k + 1, by show (x.1 + (1 : Int32)).toInt = _; omega, by omega, rfl, q⟩
    have at9 : ∀ {r33 r35 : Int32}, Q_m_at w ((pa + x.1) - ia) r33 → r35 = nI (chN 1 (3 * ron i + k)) → (r33.toInt = r35.toInt ↔ btq T L (p + k) = (chN 1 (3 * ron i + k) : Int)) := by
      intro r33 r35 h33 h35
      have e35 : r35.toInt = (chN 1 (3 * ron i + k) : Int) := by rw [h35]; exact nI_c
      have ep : ((pa + x.1) - ia).toInt = ((p + k : Nat) : Int) := by
        have m1 : (pa + x.1).toInt = pa.toInt + x.1.toInt := add_z rfl rfl (by omega) (by omega)
        have m2 : ((pa + x.1) - ia).toInt = (pa + x.1).toInt - ia.toInt := sub_z rfl rfl (by omega) (by omega)
        omega
      have e33 := mAt (h33 : Q_m_at2 w ((pa + x.1) - ia) r33) X ep
      have pos : (0 : Int) < (chN 1 (3 * ron i + k) : Int) := by
        have : ∀ k, k < 41 → ∀ j, j < 3 → 0 < chN 1 (3 * k + j) := by decide +kernel
        have := this (ron i) r41 k (by omega)
        omega
      rw [e33, e35]
      exact b0_47 pos
    rcases hy with ⟨a, r23, h23, hy⟩ | ⟨a, r33, h33, -, r35, h35, ⟨c, r40, h40, hy⟩ | ⟨c, r47, h47, hy⟩⟩
    · rw [h23] at hy
      exact go hy ⟨fun q => absurd rfl q, fun q => absurd a (f3.mpr (fun j hj => q j (by omega)))⟩
    · rw [h40] at hy
      exact go hy ⟨fun q => absurd rfl q, fun q => absurd ((at9 h33 h35).mpr (q k (by omega))) c⟩
    · rw [h47] at hy
      refine go hy ⟨fun _ j hj => ?_, fun _ => i10⟩
      by_cases q : j = k
      · rw [q]; exact (at9 h33 h35).mp c
      · exact f3.mp a j (by omega)
  obtain ⟨k, f1, f2, f4, f3⟩ := inv
  have nj := natI (a := ja) (by omega)
  have ej : ja.toNatClampNeg = sts i + k := by omega
  have e7 : r7.toInt = (chN 24 (sts i + k) : Int) := by rw [h7, ej]; exact nI_c
  have kk : k = sln (ron i) := by
    by_cases q : k < sln (ron i)
    · exfalso
      rw [sts_c i hi k q] at e7
      have : chN 1 (3 * ron i + k) = 32 := by omega
      have := (sln_32 (ron i) r41 k (by omega)).mp this
      omega
    · omega
  rw [kk] at f1 f3 f4
  exact ⟨f1, f4, f3⟩
/-- the reference: the first sign -/
theorem mSign (X : TXM T L w) (hp : pa.toInt = p) (hl : p < L) (h : Q_m_sign w pa r u) : (r = 1 ∧ u = w ∧ ∀ k, k < 41 → ¬ SMt T L p k) ∨ ∃ i ja ia, i < 41 ∧ r = 5 ∧ u = wL (wA w 8 ((w.1 0 5).toNatClampNeg) ((pa + ja) - ia)) ((w.1 0 5).toNatClampNeg) (pk (ron i) (sln (ron i))).toInt64 ∧ ((pa + ja) - ia).toInt = ((p + sln (ron i) : Nat) : Int) ∧ SMt T L p (ron i) ∧ ∀ l, l < i → ¬ SMt T L p (ron l) := by
  obtain ⟨-, -, -, ia, hr, -, h⟩ := h
  have x4 := X.2.1
  have inv : ∃ i : Nat, i ≤ 41 ∧ ia.toInt = sts i ∧ ∀ l, l < i → ¬ SMt T L p (ron l) := by
    refine RT.ind (fun (y : Int32) => ∃ i : Nat, i ≤ 41 ∧ y.toInt = sts i ∧ ∀ l, l < i → ¬ SMt T L p (ron l)) hr ⟨0, by omega, by decide, fun l hl => by omega⟩ ?_
    intro x y _ ⟨i, f0, f1, f2⟩ hy
    obtain ⟨-, c1, ja, va, sa, h1, jb, -, r7, h7, c7, z, rfl⟩ := hy
    have i41 : i < 41 := by
      by_cases q : i = 41
      · rw [q] at f1
        have : sts 41 = 102 := by decide
        omega
      · omega
    have S := mSg X hp hl i41 f1 h1 h7 c7 jb
    have sn := sts_n i i41
    have e2 : (ja + (1 : Int32)).toInt = ja.toInt + 1 := add_z rfl (by decide) (by omega) (by omega)
    refine ⟨i + 1, by omega, by omega, fun l hl => ?_⟩
    by_cases q : l = i
    · rw [q]
      exact fun m => S.2.2.mpr m z
    · exact f2 l (by omega)
  obtain ⟨i, f0, f1, f2⟩ := inv
  rcases h with ⟨a, rfl, rfl⟩ | ⟨a, ja, va, sa, h1, jb, -, r7, h7, c7, z, rfl, rfl⟩
  · refine Or.inl ⟨rfl, rfl, fun k hk m => ?_⟩
    obtain ⟨l, l1, l2⟩ := ron_s k hk
    have i41 : i = 41 := by
      by_cases q : i < 41
      · have := (sts_n i q).2.2.1
        omega
      · omega
    exact f2 l (by omega) (by rw [l2]; exact m)
  · have i41 : i < 41 := by
      by_cases q : i = 41
      · rw [q] at f1
        have : sts 41 = 102 := by decide
        omega
      · omega
    have S := mSg X hp hl i41 f1 h1 h7 c7 jb
    have ep : ((pa + ja) - ia).toInt = ((p + sln (ron i) : Nat) : Int) := by
      have m1 : (pa + ja).toInt = pa.toInt + ja.toInt := add_z rfl rfl (by omega) (by omega)
      have m2 : ((pa + ja) - ia).toInt = (pa + ja).toInt - ia.toInt := sub_z rfl rfl (by omega) (by omega)
      omega
    exact Or.inr ⟨i, ja, ia, i41, rfl, by rw [S.2.1], ep, S.2.2.mp z, f2⟩
/-- the longest is the first -/
theorem sgEq {k i : Nat} (hk : k < 41) (hi : i < 41) (mk : SMt T L p k) (mx : ∀ l, l < 41 → SMt T L p l → sln l ≤ sln k) (mi : SMt T L p (ron i)) (fi : ∀ l, l < i → ¬ SMt T L p (ron l)) : k = ron i := by
  have r41 := ron_41 i hi
  have le := mx (ron i) r41 mi
  have pre : ∀ j, j < sln (ron i) → chN 1 (3 * ron i + j) = chN 1 (3 * k + j) := fun j hj => by
    have a := mi j hj
    have b := mk j (by omega)
    omega
  by_cases q : sln (ron i) = sln k
  · by_cases e : k = ron i
    · exact e
    · exact absurd pre (sln_d (ron i) r41 k hk (fun z => e z.symm) q)
  · obtain ⟨l, l1, l2⟩ := ron_s k hk
    rw [← l2] at q pre le mk
    by_cases z : l < i
    · exact absurd mk (fi l z)
    · have : l ≠ i := fun y => q (by rw [y])
      exact absurd pre (ron_p i hi l l1 (by omega) (by omega))
end LX5
