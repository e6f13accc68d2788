/-! the reference: names, slots, words -/
section MNM
variable {bz : Bool} {g : GM} {n : Int} {K : TK} {e : PE} {f : PS → PX PS} {v u : MS} {t : Bool} {r pa pb : Int32} {m : Int}
theorem rSame (h : Q_m_isSame v pa pb r) : r.toInt ≠ 0 ↔ SM v pa pb := by
  obtain ⟨-, -, h⟩ := h
  rcases h with ⟨c, i, b, hr, hi, -, h⟩ | ⟨c, i, b, hr, hi, -, h⟩
  · have b0 : b.toInt = 0 := by
      refine RT.ind (fun (y : Int32 × Int32) => y.2.toInt = 0) hr (show (0 : Int32).toInt = 0 by decide) ?_
      intro x y _ hx hy
      obtain ⟨-, -, -, q, -⟩ := hy
      exact absurd hx q
    have r0 : r.toInt = 0 := by
      rcases h with ⟨-, rfl⟩ | ⟨-, -, rfl⟩ <;> exact b0
    exact ⟨fun q => absurd r0 q, fun q => absurd q.1 c⟩
  · have inv : (b.toInt ≠ 0 ∧ ∀ k : Int32, 0 ≤ k.toInt → k.toInt < i.toInt → v.1 3 (v.1 7 pa.toNatClampNeg + k).toNatClampNeg = v.1 3 (v.1 7 pb.toNatClampNeg + k).toNatClampNeg) ∨ (b.toInt = 0 ∧ ∃ k : Int32, 0 ≤ k.toInt ∧ k.toInt < (v.1 8 pa.toNatClampNeg).toInt - (v.1 7 pa.toNatClampNeg).toInt ∧ v.1 3 (v.1 7 pa.toNatClampNeg + k).toNatClampNeg ≠ v.1 3 (v.1 7 pb.toNatClampNeg + k).toNatClampNeg) := by
      refine RT.ind (fun (y : Int32 × Int32) => (y.2.toInt ≠ 0 ∧ ∀ k : Int32, 0 ≤ k.toInt → k.toInt < y.1.toInt → v.1 3 (v.1 7 pa.toNatClampNeg + k).toNatClampNeg = v.1 3 (v.1 7 pb.toNatClampNeg + k).toNatClampNeg) ∨ (y.2.toInt = 0 ∧ ∃ k : Int32, 0 ≤ k.toInt ∧ k.toInt < (v.1 8 pa.toNatClampNeg).toInt - (v.1 7 pa.toNatClampNeg).toInt ∧ v.1 3 (v.1 7 pa.toNatClampNeg + k).toNatClampNeg ≠ v.1 3 (v.1 7 pb.toNatClampNeg + k).toNatClampNeg)) hr (Or.inl ⟨show (1 : Int32).toInt ≠ 0 by decide, fun k h1 h2 => by
        have e0 : (0 : Int32).toInt = 0 := (by decide)
        have h2 : k.toInt < (0 : Int32).toInt := h2
        omega⟩) ?_
      intro x y _ hx hy
      obtain ⟨q1, -, q3, q4, hy⟩ := hy
      have ea : (x.1 + (1 : Int32)).toInt = x.1.toInt + 1 := add_z rfl (by decide) (by omega) (by omega)
      rcases hx with ⟨-, hx⟩ | ⟨hx, -⟩
      · rcases hy with ⟨q5, rfl⟩ | ⟨q5, rfl⟩
        · exact Or.inr ⟨show (0 : Int32).toInt = 0 by decide, x.1, q1.1, q3, fun w => q5 (congrArg Int32.toInt w)⟩
        · refine Or.inl ⟨show (1 : Int32).toInt ≠ 0 by decide, fun k h1 h2 => ?_⟩
          have h2 : k.toInt < (x.1 + (1 : Int32)).toInt := h2
          by_cases w : k.toInt = x.1.toInt
          · rw [Int32.toInt_inj.mp w]
            exact Int32.toInt_inj.mp q5
          · exact hx k h1 (by omega)
      · exact absurd hx q4
    have rb : r = b := by rcases h with ⟨-, h⟩ | ⟨-, -, h⟩ <;> exact h
    rw [rb]
    rcases inv with ⟨q1, q2⟩ | ⟨q1, k, k1, k2, k3⟩
    · refine ⟨fun _ => ⟨c, fun k h1 h2 => q2 k h1 ?_⟩, fun _ => q1⟩
      rcases h with ⟨h, -⟩ | ⟨-, h, -⟩
      · omega
      · exact absurd h q1
    · exact ⟨fun w => absurd q1 w, fun w => absurd (w.2 k k1 k2) k3⟩
theorem rNm (J : JG bz n K e v) (ha : NT n K pa) (hb : NT n K pb) (h : Q_m_isSame v pa pb r) : r.toInt ≠ 0 ↔ K.2.1 pa = K.2.1 pb :=
  (rSame h).trans (J.1.2.1 pa pb ha.1 ha.2.1 hb.1 hb.2.1 ha.2.2 hb.2.2)
theorem rLocal (h : Q_m_local v pa r) (J : JM n K e v) (hp : NT n K pa) : r.toInt = fnd (pKn (aR g K v)) (K.2.1 pa) := by
  obtain ⟨-, z, k, hr, hk, h⟩ := h
  have J5 := J.2.2.2.2.1
  have n0 : (((v.1 0 30).toNatClampNeg : Nat) : Int) = (v.1 0 30).toInt := natI z.1
  have gi : ((v.1 0 30) - 1).toInt = (v.1 0 30).toInt - 1 := sub_z rfl (by decide) (by omega) (by omega)
  have inv : ∀ j : Nat, k.toInt < j → (j : Int) < (v.1 0 30).toInt → K.2.1 (v.1 29 j) ≠ K.2.1 pa := by
    refine RT.ind (fun (y : Int32) => ∀ j : Nat, y.toInt < j → (j : Int) < (v.1 0 30).toInt → K.2.1 (v.1 29 j) ≠ K.2.1 pa) hr (fun j a b => by omega) ?_
    intro x y _ hx hy
    obtain ⟨q1, q2, r7, h7, -, c7, rfl⟩ := hy
    have e1 : (x + (-1 : Int32)).toInt = x.toInt + (-1) := add_z rfl (by decide) (by omega) (by omega)
    intro j a b
    by_cases q : (j : Int) = x.toInt
    · have xj : x.toNatClampNeg = j := by have := natI (a := x) q2; omega
      rw [xj] at h7
      exact fun w => ((rNm J (J5 j b) hp h7).mpr w) c7
    · exact hx j (by omega) b
  have F := fnd_l (f := fun j => K.2.1 (v.1 29 j)) (x := K.2.1 pa) (k := k.toInt) (v.1 0 30).toNatClampNeg (by omega) (fun j a b => inv j a (by omega))
  show r.toInt = fnd ((List.range (v.1 0 30).toNatClampNeg).map (fun k => K.2.1 (v.1 29 k))) _
  rcases h with ⟨a, rfl⟩ | ⟨a, r7, h7, -, c7, rfl⟩
  · rw [F.1 a]
    omega
  · have kn := natI a
    exact (F.2 r.toNatClampNeg kn.symm ((rNm J (J5 _ (show _ < (v.1 0 30).toInt by omega)) hp h7).mp c7)).symm
theorem rGlobal (h : Q_m_globalOf v pa r) (J : JG bz n K e v) (hp : NT n K pa) : (r.toInt < 0 ∧ gfd e (K.2.1 pa) = none) ∨ (0 ≤ r.toInt ∧ r.toInt < (v.1 0 27).toInt ∧ gfd e (K.2.1 pa) = some (v.1 26 r.toNatClampNeg)) := by
  obtain ⟨-, z, k, hr, hk, h⟩ := h
  have J6 := J.2.2.2.2.2.1
  have nd := J.2.2.1
  have n0 : (((v.1 0 27).toNatClampNeg : Nat) : Int) = (v.1 0 27).toInt := natI z.1
  have gi : ((v.1 0 27) - 1).toInt = (v.1 0 27).toInt - 1 := sub_z rfl (by decide) (by omega) (by omega)
  have inv : ∀ j : Nat, k.toInt < j → (j : Int) < (v.1 0 27).toInt → K.2.1 (v.1 23 j) ≠ K.2.1 pa := by
    refine RT.ind (fun (y : Int32) => ∀ j : Nat, y.toInt < j → (j : Int) < (v.1 0 27).toInt → K.2.1 (v.1 23 j) ≠ K.2.1 pa) hr (fun j a b => by omega) ?_
    intro x y _ hx hy
    obtain ⟨q1, q2, r7, h7, -, c7, rfl⟩ := hy
    have e1 : (x + (-1 : Int32)).toInt = x.toInt + (-1) := add_z rfl (by decide) (by omega) (by omega)
    intro j a b
    by_cases q : (j : Int) = x.toInt
    · have xj : x.toNatClampNeg = j := by have := natI (a := x) q2; omega
      rw [xj] at h7
      exact fun w => ((rNm J (J6 j b).1 hp h7).mpr w) c7
    · exact hx j (by omega) b
  have gf : gfd e (K.2.1 pa) = (((List.range (v.1 0 27).toNatClampNeg).map (fun k => (K.2.1 (v.1 23 k), v.1 26 k))).find? (fun g => g.1 == K.2.1 pa)).map (fun g => g.2) := by
    rw [J.2.1]
    rfl
  rcases h with ⟨a, rfl⟩ | ⟨a, r7, h7, -, c7, rfl⟩
  · refine Or.inl ⟨a, ?_⟩
    rw [gf, find_l (p := fun g : Int32 × Int32 => g.1 == K.2.1 pa) (F := fun k => (K.2.1 (v.1 23 k), v.1 26 k)) _ (fun j hj => beq_false_of_ne (inv j (by omega) (by omega)))]
    rfl
  · have kn := natI a
    have e7 := (rNm J (J6 _ (by omega)).1 hp h7).mp c7
    refine Or.inr ⟨a, hk.2, ?_⟩
    rw [gf, find_s (p := fun g : Int32 × Int32 => g.1 == K.2.1 pa) (F := fun k => (K.2.1 (v.1 23 k), v.1 26 k)) (k := r.toNatClampNeg) (by
      show (K.2.1 (v.1 23 r.toNatClampNeg) == K.2.1 pa) = true
      rw [beq_iff_eq]
      exact e7) (fun j hj => beq_false_of_ne (fun w => nd j r.toNatClampNeg hj (by omega) (w.trans e7.symm))) _ (by omega)]
    rfl
/-- words alone -/
theorem aR_em {k : Int32} (h47 : u.1 0 47 = v.1 0 47) (h48 : u.1 0 48 = v.1 0 48) (h49 : u.1 0 49 = v.1 0 49) (h31 : u.1 0 31 = v.1 0 31) (h32 : u.1 0 32 = v.1 0 32) (h33 : u.1 0 33 = v.1 0 33) (h44 : u.1 0 44 = v.1 0 44) (h45 : u.1 0 45 = v.1 0 45) (h39 : u.1 0 39 = v.1 0 39) (h30 : u.1 0 30 = v.1 0 30) (h29 : u.1 29 = v.1 29) (h35 : u.1 35 = v.1 35) (h36 : u.1 36 = v.1 36) (h12 : u.1 0 12 = v.1 0 12 + k) : aR g K u = em k (aR g K v) := by
  have ov : ovM u = ovM v := by unfold ovM; rw [h39]
  unfold em
  show _ = if ovM v = true then aR g K v else _
  unfold aR knM caM
  rw [h47, h48, h49, h31, h32, h33, h44, h45, h39, h30, h29, h35, h36, h12, ov]
  by_cases o : ovM v = true
  · rw [if_pos o, if_pos o, if_pos o, if_pos o]
  · rw [if_neg o, if_neg o, if_neg o, if_neg o]
    rfl
theorem rSlots {k : Int32} (h : Q_m_slots v pa r u) (J : JM n K e v) : r = pKc (aR g K v) + pPb (aR g K v) ∧ JM n K e u ∧ ((pKc (aR g K v) + pPb (aR g K v) + pa).toInt ≤ 500 → aR g K u = sMm (aR g K v) (mx (pMo (aR g K v)) (pKc (aR g K v) + pPb (aR g K v) + pa)) ∧ u.1 0 49 = v.1 0 49) ∧ ((500 : Int) < (pKc (aR g K v) + pPb (aR g K v) + pa).toInt → aR g K u = sDu (sMo (aR g K v) 0) true ∧ u.1 0 49 = v.1 0 47) := by
  obtain ⟨z30, z32, z33, za, h⟩ := h
  have e1 : (v.1 0 30 + v.1 0 32).toInt = (v.1 0 30).toInt + (v.1 0 32).toInt := add_z rfl rfl (by omega) (by omega)
  have e2 : (v.1 0 30 + v.1 0 32 + pa).toInt = (v.1 0 30).toInt + (v.1 0 32).toInt + pa.toInt := add_z e1 rfl (by omega) (by omega)
  have J4 := J.2.2.2.1
  show r = v.1 0 30 + v.1 0 32 ∧ _ ∧ ((v.1 0 30 + v.1 0 32 + pa).toInt ≤ 500 → aR g K u = sMm (aR g K v) (mx (pMo (aR g K v)) (v.1 0 30 + v.1 0 32 + pa)) ∧ _) ∧ ((500 : Int) < (v.1 0 30 + v.1 0 32 + pa).toInt → _)
  have mo : pMo (aR g K v) = if v.1 0 49 = v.1 0 47 then 0 else v.1 0 33 := rfl
  rcases h with ⟨a, ⟨b, hr, rfl⟩ | ⟨b, hr, rfl⟩⟩ | ⟨a, hr, rfl⟩
  · refine ⟨hr, J, fun _ => ⟨?_, rfl⟩, fun q => by omega⟩
    unfold sMm
    by_cases d : u.1 0 49 = u.1 0 47
    · rw [if_pos (show pDu (aR g K u) = true from decide_eq_true d)]
    · rw [if_neg (show ¬ pDu (aR g K u) = true from fun q => d (of_decide_eq_true q)), mo, if_neg d]
      have : mx (u.1 0 33) (u.1 0 30 + u.1 0 32 + pa) = u.1 0 33 := if_neg (fun q => by have := Int32.lt_iff_toInt_lt.mp q; omega)
      rw [this]
      show mkP _ _ _ _ _ (if u.1 0 49 = u.1 0 47 then 0 else u.1 0 33) _ _ _ _ _ _ _ _ = mkP _ _ _ _ _ (u.1 0 33) _ _ _ _ _ _ _ _
      rw [if_neg d]
      rfl
  · refine ⟨hr, J.of rfl (fun a ha => if_neg (fun q => by rw [q] at ha; revert ha; decide)) rfl rfl ⟨J4.1, J4.2.1, J4.2.2.1⟩, fun _ => ⟨?_, rfl⟩, fun q => by omega⟩
    unfold sMm
    by_cases d : v.1 0 49 = v.1 0 47
    · rw [if_pos (show pDu (aR g K v) = true from decide_eq_true d)]
      show mkP _ _ _ _ _ (if v.1 0 49 = v.1 0 47 then 0 else _) _ _ _ _ _ _ _ _ = mkP _ _ _ _ _ (if v.1 0 49 = v.1 0 47 then 0 else v.1 0 33) _ _ _ _ _ _ _ _
      rw [if_pos d, if_pos d]
      rfl
    · rw [if_neg (show ¬ pDu (aR g K v) = true from fun q => d (of_decide_eq_true q)), mo, if_neg d]
      have : mx (v.1 0 33) (v.1 0 30 + v.1 0 32 + pa) = v.1 0 30 + v.1 0 32 + pa := if_pos (Int32.lt_iff_toInt_lt.mpr (by omega))
      rw [this]
      show mkP _ _ _ _ _ (if v.1 0 49 = v.1 0 47 then 0 else _) _ _ _ _ _ _ _ _ = mkP _ _ _ _ _ (v.1 0 30 + v.1 0 32 + pa) _ _ _ _ _ _ _ _
      rw [if_neg d]
      rfl
  · refine ⟨hr, J.of rfl (fun a ha => if_neg (fun q => by rw [q] at ha; revert ha; decide)) rfl rfl ⟨Int.le_refl _, J4.2.1, J4.2.2.1⟩, fun q => by omega, fun _ => ⟨?_, rfl⟩⟩
    show mkP _ _ (decide (v.1 0 47 = v.1 0 47)) _ _ (if v.1 0 47 = v.1 0 47 then 0 else _) _ _ _ _ _ _ _ _ = mkP _ _ true _ _ 0 _ _ _ _ _ _ _ _
    rw [if_pos rfl, decide_eq_true rfl]
    rfl
end MNM
