/-! texts: both read numbers alike -/
def tokAdd (v : MS) (k pa x : Int32) : MS := wA (wA (wA (wA v 301 ((v.1 0 304).toNatClampNeg) k) 302 ((v.1 0 304).toNatClampNeg) pa) 303 ((v.1 0 304).toNatClampNeg) x) 0 304 ((v.1 0 304) + (1 : Int32))
def TKE (L1 L2 : List Nat) (T : Nat → Int32) (L : Nat) (v : MS) (pa : Int32) (p : Nat) (rq : Int32) (u : MS) (r' : Int32) (val : Int64) (dig unt : Int32) : Prop :=
  ∃ kc xc : Int32, ∃ q : Nat, u = tokAdd v kc pa xc ∧ rq.toInt = q ∧ kc = kM r' val dig ∧ TV r' val ∧ ((r' = 4 ∨ r' = 6) → xc = val.toInt32) ∧ (r' = 4 → -2147483648 ≤ val.toInt ∧ (dig = 0 → val.toInt ≤ 2147483647)) ∧ (2 ≤ kc.toInt → unt.toInt = q ∧ p < q ∧ q ≤ L) ∧ (kc = 2 → ltr (btq T L p) ∧ q = NLE T L p ∧ ∃ r3 : Int32, r3.toInt = ((q - p : Nat) : Int) ∧ Q_x_X9_firstAlike L1 L2 v pa r3 xc) ∧ kc ≠ 0
section LX7
variable {L1 L2 : List Nat} {T : Nat → Int32} {L p q n : Nat} {v u w u' : MS} {pa pb pc1 r rq r' dig unt : Int32} {val : Int64}
theorem xAdd {k x len : Int32} (h : Q_x_X9_add L1 L2 v k pa x len r u) (h4 : (v.1 0 304).toInt < 1503) : r = pa + len ∧ u = tokAdd v k pa x := by
  obtain ⟨-, h⟩ := h
  rcases h with ⟨a, -⟩ | ⟨-, e1, e2⟩
  · omega
  · exact ⟨e1, e2⟩
theorem xBad (h : Q_x_X9_add L1 L2 v 1 pa 0 0 r u) (h4 : (v.1 0 304).toInt < 1503) (hp : pa.toInt = p) (e1 : rq = r) : rq.toInt = p ∧ u = tokAdd v 1 pa 0 := by
  have A := xAdd h h4
  rw [e1, A.1, Int32.add_zero]
  exact ⟨hp, A.2⟩
theorem te_bad (h : rq.toInt = p ∧ u = tokAdd v 1 pa 0) : TKE L1 L2 T L v pa p rq u 1 val dig unt :=
  ⟨1, 0, p, h.2, h.1, rfl, ⟨by decide, fun q => absurd q (by decide), fun q => absurd q (by decide)⟩, fun q => q.elim (fun q => absurd q (by decide)) (fun q => absurd q (by decide)), fun q => absurd q (by decide), fun q => absurd q (by decide), fun q => absurd q (by decide), by decide⟩
/-- a decimal number's end in the class -/
theorem xDecO (X : TXC T L v) (hp : pa.toInt = p) (hl : p ≤ L) (h4 : (v.1 0 304).toInt < 1503) {va : Int64} {dg : Int32} {k : Nat} (k10 : k ≤ 10) (hd : dg.toInt = k) (hv : va = dvl T p k) (hO : (dg.toInt = 0 ∧ ∃ r15 u14, Q_x_X9_add L1 L2 v 1 pa 0 0 r15 u14 ∧ K_x_X9_add v 1 pa 0 0 r15 u14 ∧ rq = r15 ∧ u = u14) ∨ (dg.toInt ≠ 0 ∧ ∃ r19, Q_x_X7_byteAt L1 L2 v (pa + dg) r19 ∧ ∃ r22, Q_x_X9_isNamePart r19 r22 ∧ K_x_X9_isNamePart r19 r22 ∧ ((r22.toInt = 0 ∧ (((lg_cmp va 2147483647).toInt ≤ 0 ∧ ∃ r31 u30, Q_x_X9_add L1 L2 v 3 pa va.toInt32 ((pa + dg) - pa) r31 u30 ∧ K_x_X9_add v 3 pa va.toInt32 ((pa + dg) - pa) r31 u30 ∧ rq = r31 ∧ u = u30) ∨ (0 < (lg_cmp va 2147483647).toInt ∧ ∃ r31 u30, Q_x_X9_add L1 L2 v 4 pa va.toInt32 ((pa + dg) - pa) r31 u30 ∧ K_x_X9_add v 4 pa va.toInt32 ((pa + dg) - pa) r31 u30 ∧ rq = r31 ∧ u = u30))) ∨ (r22.toInt ≠ 0 ∧ ∃ r15 u14, Q_x_X9_add L1 L2 v 1 pa 0 0 r15 u14 ∧ K_x_X9_add v 1 pa 0 0 r15 u14 ∧ rq = r15 ∧ u = u14)))) :
    ((k = 0 ∨ nmp (btq T L (p + k))) ∧ rq.toInt = p ∧ u = tokAdd v 1 pa 0) ∨ (1 ≤ k ∧ ¬ nmp (btq T L (p + k)) ∧ rq.toInt = ((p + k : Nat) : Int) ∧ u = tokAdd v (if (2147483647 : Int) < (dvl T p k).toInt then 4 else 3) pa (dvl T p k).toInt32) := by
  have x4 := X.2.1
  have ed := incn hp hd (by omega)
  have ee : (pa + ((pa + dg) - pa)).toInt = ((p + k : Nat) : Int) := by
    have m1 : ((pa + dg) - pa).toInt = (pa + dg).toInt - pa.toInt := sub_z rfl rfl (by omega) (by omega)
    have m2 : (pa + ((pa + dg) - pa)).toInt = pa.toInt + ((pa + dg) - pa).toInt := add_z rfl rfl (by omega) (by omega)
    omega
  have c47 : (2147483647 : Int64).toInt = 2147483647 := by decide
  rcases hO with ⟨a, r15, u14, hA, -, e1, e2⟩ | ⟨a, r19, h19, r22, h22, -, hO⟩
  · have B := xBad hA h4 hp e1
    rw [e2]
    exact Or.inl ⟨Or.inl (by omega), B⟩
  · have nm := xName h22
    rw [xByte h19 X ed] at nm
    rcases hO with ⟨b, hO⟩ | ⟨b, r15, u14, hA, -, e1, e2⟩
    · have nn : ¬ nmp (btq T L (p + k)) := fun q => nm.mpr q b
      rw [hv] at hO
      rcases hO with ⟨c, r31, u30, hA, -, e1, e2⟩ | ⟨c, r31, u30, hA, -, e1, e2⟩
      · have A := xAdd hA h4
        have le : ¬ (2147483647 : Int) < (dvl T p k).toInt := fun q => by
          have := lg_pos.mpr (show (2147483647 : Int64).toInt < (dvl T p k).toInt by rw [c47]; exact q)
          omega
        rw [if_neg le, e1, A.1, e2]
        exact Or.inr ⟨by omega, nn, ee, A.2⟩
      · have A := xAdd hA h4
        have gt := lg_pos.mp c
        rw [c47] at gt
        rw [if_pos gt, e1, A.1, e2]
        exact Or.inr ⟨by omega, nn, ee, A.2⟩
    · have B := xBad hA h4 hp e1
      rw [e2]
      exact Or.inl ⟨Or.inr (nm.mp b), B⟩
/-- a hexadecimal number's end in the class -/
theorem xHexO (X : TXC T L v) (hp : pa.toInt = p) (hl : p ≤ L) (h4 : (v.1 0 304).toInt < 1503) {va : Int64} {dg : Int32} {k : Nat} (k8 : k ≤ 8) (hd : dg.toInt = k) (hv : va = hvl T (p + 2) k) (hO : (dg.toInt = 0 ∧ ∃ r15 u14, Q_x_X9_add L1 L2 v 1 pa 0 0 r15 u14 ∧ K_x_X9_add v 1 pa 0 0 r15 u14 ∧ rq = r15 ∧ u = u14) ∨ (dg.toInt ≠ 0 ∧ ∃ r19, Q_x_X7_byteAt L1 L2 v ((pa + 2) + dg) r19 ∧ ∃ r22, Q_x_X9_isNamePart r19 r22 ∧ K_x_X9_isNamePart r19 r22 ∧ ((r22.toInt = 0 ∧ ∃ r31 u30, Q_x_X9_add L1 L2 v 3 pa va.toInt32 (((pa + 2) + dg) - pa) r31 u30 ∧ K_x_X9_add v 3 pa va.toInt32 (((pa + 2) + dg) - pa) r31 u30 ∧ rq = r31 ∧ u = u30) ∨ (r22.toInt ≠ 0 ∧ ∃ r15 u14, Q_x_X9_add L1 L2 v 1 pa 0 0 r15 u14 ∧ K_x_X9_add v 1 pa 0 0 r15 u14 ∧ rq = r15 ∧ u = u14)))) :
    ((k = 0 ∨ nmp (btq T L (p + 2 + k))) ∧ rq.toInt = p ∧ u = tokAdd v 1 pa 0) ∨ (1 ≤ k ∧ ¬ nmp (btq T L (p + 2 + k)) ∧ rq.toInt = ((p + 2 + k : Nat) : Int) ∧ u = tokAdd v 3 pa (hvl T (p + 2) k).toInt32) := by
  have x4 := X.2.1
  have e2 : (pa + (2 : Int32)).toInt = ((p + 2 : Nat) : Int) := by
    have : (pa + (2 : Int32)).toInt = pa.toInt + 2 := add_z rfl (by decide) (by omega) (by omega)
    omega
  have ed := incn e2 hd (by omega)
  have ee : (pa + (((pa + 2) + dg) - pa)).toInt = ((p + 2 + k : Nat) : Int) := by
    have m1 : (((pa + 2) + dg) - pa).toInt = ((pa + 2) + dg).toInt - pa.toInt := sub_z rfl rfl (by omega) (by omega)
    have m2 : (pa + (((pa + 2) + dg) - pa)).toInt = pa.toInt + (((pa + 2) + dg) - pa).toInt := add_z rfl rfl (by omega) (by omega)
    omega
  rcases hO with ⟨a, r15, u14, hA, -, e1, e2⟩ | ⟨a, r19, h19, r22, h22, -, hO⟩
  · have B := xBad hA h4 hp e1
    rw [e2]
    exact Or.inl ⟨Or.inl (by omega), B⟩
  · have nm := xName h22
    rw [xByte h19 X ed] at nm
    rcases hO with ⟨b, r31, u30, hA, -, e1, e2⟩ | ⟨b, r15, u14, hA, -, e1, e2⟩
    · have nn : ¬ nmp (btq T L (p + 2 + k)) := fun q => nm.mpr q b
      rw [hv] at hA
      have A := xAdd hA h4
      rw [e1, A.1, e2]
      exact Or.inr ⟨by omega, nn, ee, A.2⟩
    · have B := xBad hA h4 hp e1
      rw [e2]
      exact Or.inl ⟨Or.inr (nm.mp b), B⟩
/-- numbers in the class -/
theorem xNum (X : TXC T L v) (hp : pa.toInt = p) (hl : p ≤ L) (h4 : (v.1 0 304).toInt < 1503) (h : Q_x_X9_scanNumber L1 L2 v pa rq u) :
    (¬ (btq T L p = 48 ∧ btq T L (p + 1) = 120) ∧ ∃ k, k ≤ 10 ∧ (∀ j, j < k → dgt (btq T L (p + j))) ∧ (k = 10 ∨ ¬ dgt (btq T L (p + k))) ∧ (((k = 0 ∨ nmp (btq T L (p + k))) ∧ rq.toInt = p ∧ u = tokAdd v 1 pa 0) ∨ (1 ≤ k ∧ ¬ nmp (btq T L (p + k)) ∧ rq.toInt = ((p + k : Nat) : Int) ∧ u = tokAdd v (if (2147483647 : Int) < (dvl T p k).toInt then 4 else 3) pa (dvl T p k).toInt32))) ∨
    ((btq T L p = 48 ∧ btq T L (p + 1) = 120) ∧ ∃ k, k ≤ 8 ∧ (∀ j, j < k → hex9 (btq T L (p + 2 + j))) ∧ (k = 8 ∨ ¬ hex9 (btq T L (p + 2 + k))) ∧ (((k = 0 ∨ nmp (btq T L (p + 2 + k))) ∧ rq.toInt = p ∧ u = tokAdd v 1 pa 0) ∨ (1 ≤ k ∧ ¬ nmp (btq T L (p + 2 + k)) ∧ rq.toInt = ((p + 2 + k : Nat) : Int) ∧ u = tokAdd v 3 pa (hvl T (p + 2) k).toInt32))) := by
  obtain ⟨-, -, r3, h3, h⟩ := h
  have x4 := X.2.1
  have e3 := xByte h3 X hp
  have dec : ∀ {va : Int64} {dg ka : Int32}, RT (Q_x_X9_scanNumber_L0 L1 L2 v pa) (0, 0, 0) (va, dg, ka) → ((10 ≤ ka.toInt ∧ ((dg.toInt = 0 ∧ ∃ r15 u14, Q_x_X9_add L1 L2 v 1 pa 0 0 r15 u14 ∧ K_x_X9_add v 1 pa 0 0 r15 u14 ∧ rq = r15 ∧ u = u14) ∨ (dg.toInt ≠ 0 ∧ ∃ r19, Q_x_X7_byteAt L1 L2 v (pa + dg) r19 ∧ ∃ r22, Q_x_X9_isNamePart r19 r22 ∧ K_x_X9_isNamePart r19 r22 ∧ ((r22.toInt = 0 ∧ (((lg_cmp va 2147483647).toInt ≤ 0 ∧ ∃ r31 u30, Q_x_X9_add L1 L2 v 3 pa va.toInt32 ((pa + dg) - pa) r31 u30 ∧ K_x_X9_add v 3 pa va.toInt32 ((pa + dg) - pa) r31 u30 ∧ rq = r31 ∧ u = u30) ∨ (0 < (lg_cmp va 2147483647).toInt ∧ ∃ r31 u30, Q_x_X9_add L1 L2 v 4 pa va.toInt32 ((pa + dg) - pa) r31 u30 ∧ K_x_X9_add v 4 pa va.toInt32 ((pa + dg) - pa) r31 u30 ∧ rq = r31 ∧ u = u30))) ∨ (r22.toInt ≠ 0 ∧ ∃ r15 u14, Q_x_X9_add L1 L2 v 1 pa 0 0 r15 u14 ∧ K_x_X9_add v 1 pa 0 0 r15 u14 ∧ rq = r15 ∧ u = u14))))) ∨ (ka.toInt < 10 ∧ ∃ r44, Q_x_X7_byteAt L1 L2 v (pa + ka) r44 ∧ ∃ r47, Q_x_X9_digitValue r44 10 r47 ∧ r47.toInt = -1 ∧ ((dg.toInt = 0 ∧ ∃ r15 u14, Q_x_X9_add L1 L2 v 1 pa 0 0 r15 u14 ∧ K_x_X9_add v 1 pa 0 0 r15 u14 ∧ rq = r15 ∧ u = u14) ∨ (dg.toInt ≠ 0 ∧ ∃ r19, Q_x_X7_byteAt L1 L2 v (pa + dg) r19 ∧ ∃ r22, Q_x_X9_isNamePart r19 r22 ∧ K_x_X9_isNamePart r19 r22 ∧ ((r22.toInt = 0 ∧ (((lg_cmp va 2147483647).toInt ≤ 0 ∧ ∃ r31 u30, Q_x_X9_add L1 L2 v 3 pa va.toInt32 ((pa + dg) - pa) r31 u30 ∧ K_x_X9_add v 3 pa va.toInt32 ((pa + dg) - pa) r31 u30 ∧ rq = r31 ∧ u = u30) ∨ (0 < (lg_cmp va 2147483647).toInt ∧ ∃ r31 u30, Q_x_X9_add L1 L2 v 4 pa va.toInt32 ((pa + dg) - pa) r31 u30 ∧ K_x_X9_add v 4 pa va.toInt32 ((pa + dg) - pa) r31 u30 ∧ rq = r31 ∧ u = u30))) ∨ (r22.toInt ≠ 0 ∧ ∃ r15 u14, Q_x_X9_add L1 L2 v 1 pa 0 0 r15 u14 ∧ K_x_X9_add v 1 pa 0 0 r15 u14 ∧ rq = r15 ∧ u = u14)))))) → ∃ k, k ≤ 10 ∧ (∀ j, j < k → dgt (btq T L (p + j))) ∧ (k = 10 ∨ ¬ dgt (btq T L (p + k))) ∧ (((k = 0 ∨ nmp (btq T L (p + k))) ∧ rq.toInt = p ∧ u = tokAdd v 1 pa 0) ∨ (1 ≤ k ∧ ¬ nmp (btq T L (p + k)) ∧ rq.toInt = ((p + k : Nat) : Int) ∧ u = tokAdd v (if (2147483647 : Int) < (dvl T p k).toInt then 4 else 3) pa (dvl T p k).toInt32)) := by
    intro va dg ka hr hO
    obtain ⟨k, k10, f1, f2, f3, f4⟩ := xDigs X hp hl hr
    rcases hO with ⟨a, hO⟩ | ⟨a, r44, h44, r47, h47, b, hO⟩
    · exact ⟨k, k10, f4, Or.inl (by omega), xDecO X hp hl h4 k10 f2 f3 hO⟩
    · refine ⟨k, k10, f4, Or.inr ?_, xDecO X hp hl h4 k10 f2 f3 hO⟩
      have e44 := xByte h44 X (incn hp f1 (by omega))
      intro D
      rcases xDec h47 with ⟨d1, d2⟩ | ⟨d1, -⟩
      · rw [d2, s48 d1] at b
        unfold dgt at d1
        omega
      · rw [e44] at d1
        exact d1 D
  rcases h with ⟨a, va, dg, ka, hr, -, h⟩ | ⟨a, r91, h91, h⟩
  · exact Or.inl ⟨fun q => a (by rw [e3]; exact q.1), dec hr h⟩
  have e91 := xByte h91 X (inc1 hp (by omega))
  rcases h with ⟨b, va, dg, ka, hr, -, h⟩ | ⟨b, va, dg, ka, hr, -, h⟩
  · exact Or.inl ⟨fun q => b (by rw [e91]; exact q.2), dec hr h⟩
  · refine Or.inr ⟨⟨by rw [← e3]; exact a, by rw [← e91]; exact b⟩, ?_⟩
    obtain ⟨k, k8, f1, f2, f3, f4⟩ := xHexs X hp hl hr
    rcases h with ⟨a, hO⟩ | ⟨a, r44, h44, r47, h47, b, hO⟩
    · exact ⟨k, k8, f4, Or.inl (by omega), xHexO X hp hl h4 k8 f2 f3 hO⟩
    · refine ⟨k, k8, f4, Or.inr ?_, xHexO X hp hl h4 k8 f2 f3 hO⟩
      have e2 : (pa + (2 : Int32)).toInt = ((p + 2 : Nat) : Int) := by
        have : (pa + (2 : Int32)).toInt = pa.toInt + 2 := add_z rfl (by decide) (by omega) (by omega)
        omega
      have e44 := xByte h44 X (incn e2 f1 (by omega))
      intro D
      rw [← e44] at D
      have := hxv_y D
      rw [← xHex h47] at this
      omega
end LX7
