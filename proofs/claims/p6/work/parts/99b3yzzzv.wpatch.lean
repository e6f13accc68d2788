/-! the reference's words: calls, addresses, limits are filled in -/
/-- a word that wanted an address -/
def fixW (v : MS) (fo kd at' wd : Int32) : Int32 := if kd.toInt = 5 then jW 28 ((4 : Int32) * ((if fo.toInt = -1 then v.1 0 67 else v.1 0 68) - at')) else if kd.toInt = 0 then wd ||| (hiW ((4 : Int32) * v.1 0 12 + (4 : Int32) * v.1 25 fo.toNatClampNeg) <<< ((12 : Int32) &&& 31)) else if kd.toInt = 2 then sW 10 (loW ((4 : Int32) * v.1 0 12 + (4 : Int32) * v.1 25 fo.toNatClampNeg)) 6 else wd ||| (loW ((4 : Int32) * v.1 0 12 + (4 : Int32) * v.1 25 fo.toNatClampNeg) <<< ((20 : Int32) &&& 31))
section ZZV
variable {n : Int} {K : TK} {e : PE} {v u w w0 w80 w171 w2 w161 : MS} {r ka kb : Int32} {bz : Bool}
set_option maxHeartbeats 800000 in
theorem callsW {m : Nat} (J : JG bz n K e w80) (D : FD n K w80) (hm : (m : Int) = (w80.1 0 39).toInt) (pos : ∀ c : Nat, c < m → 0 ≤ (w80.1 37 c).toInt) (inj : ∀ c d : Nat, c < m → d < m → w80.1 37 c = w80.1 37 d → c = d) (b22 : 0 ≤ (w80.1 0 22).toInt) (hk : RT (Q_m_walk_L1 w80) 0 ka) (ck : (w80.1 0 39).toInt ≤ ka.toInt) (hr : RT (Q_m_walk_L2 w80) (0, w80) (kb, w171)) (ckb : (w80.1 0 39).toInt ≤ kb.toInt) : (∀ c : Nat, c < m → ∃ f : Int32, 0 ≤ f.toInt ∧ f.toInt < (w80.1 0 22).toInt ∧ K.2.1 (w80.1 16 f.toNatClampNeg) = K.2.1 (w80.1 35 c) ∧ w171.1 11 (w80.1 37 c).toNatClampNeg = jW 1 ((4 : Int32) * (w80.1 19 f.toNatClampNeg - w80.1 37 c))) ∧ ∀ j : Nat, (∀ c : Nat, c < m → (w80.1 37 c).toNatClampNeg ≠ j) → w171.1 11 j = w80.1 11 j := by
  have z0 : (0 : Int32).toInt = 0 := by decide
  have l39 := Int32.toInt_lt (w80.1 0 39)
  have A : ∀ c : Nat, c < m → ∃ r : Int32, 0 ≤ r.toInt ∧ Q_m_functionOf2 w80 (w80.1 35 c) r := by
    have : 0 ≤ ka.toInt ∧ ∀ c : Nat, (c : Int) < ka.toInt → ∃ r : Int32, 0 ≤ r.toInt ∧ Q_m_functionOf2 w80 (w80.1 35 c) r := by
      refine RT.ind (fun (y : Int32) => 0 ≤ y.toInt ∧ ∀ c : Nat, (c : Int) < y.toInt → ∃ r : Int32, 0 ≤ r.toInt ∧ Q_m_functionOf2 w80 (w80.1 35 c) r) hk ⟨by omega, fun c hc => by omega⟩ ?_
      intro a b _ ⟨i0, i1⟩ hb
      obtain ⟨-, c1, r7, h7, -, c7, -, rfl⟩ := hb
      have ea : (a + (1 : Int32)).toInt = a.toInt + 1 := add_z rfl (by decide) (by omega) (by omega)
      refine ⟨by omega, fun c hc => ?_⟩
      have na := natI i0
      by_cases g : c = a.toNatClampNeg
      · rw [g]; exact ⟨r7, c7, h7⟩
      · exact i1 c (by omega)
    exact fun c hc => this.2 c (by omega)
  have inj2 : ∀ c d : Nat, c < m → d < m → (w80.1 37 c).toNatClampNeg = (w80.1 37 d).toNatClampNeg → c = d := fun c d hc hd q => by
    have n1 := natI (pos c hc)
    have n2 := natI (pos d hd)
    exact inj c d hc hd (Int32.toInt_inj.mp (by omega))
  have inv : 0 ≤ kb.toInt ∧ (∀ c : Nat, (c : Int) < kb.toInt → c < m → ∃ f : Int32, 0 ≤ f.toInt ∧ f.toInt < (w80.1 0 22).toInt ∧ K.2.1 (w80.1 16 f.toNatClampNeg) = K.2.1 (w80.1 35 c) ∧ w171.1 11 (w80.1 37 c).toNatClampNeg = jW 1 ((4 : Int32) * (w80.1 19 f.toNatClampNeg - w80.1 37 c))) ∧ ∀ j : Nat, (∀ c : Nat, c < m → (w80.1 37 c).toNatClampNeg ≠ j) → w171.1 11 j = w80.1 11 j := by
    refine RT.ind (fun (y : Int32 × MS) => 0 ≤ y.1.toInt ∧ (∀ c : Nat, (c : Int) < y.1.toInt → c < m → ∃ f : Int32, 0 ≤ f.toInt ∧ f.toInt < (w80.1 0 22).toInt ∧ K.2.1 (w80.1 16 f.toNatClampNeg) = K.2.1 (w80.1 35 c) ∧ y.2.1 11 (w80.1 37 c).toNatClampNeg = jW 1 ((4 : Int32) * (w80.1 19 f.toNatClampNeg - w80.1 37 c))) ∧ ∀ j : Nat, (∀ c : Nat, c < m → (w80.1 37 c).toNatClampNeg ≠ j) → y.2.1 11 j = w80.1 11 j) hr ⟨show 0 ≤ (0 : Int32).toInt by omega, fun c hc => absurd (show (c : Int) < (0 : Int32).toInt from hc) (by omega), fun _ _ => rfl⟩ ?_
    rintro ⟨s, z⟩ y - ⟨i0, i1, i2⟩ hb
    obtain ⟨fr, bs, cs, r195, h7, -, x202, h202, rfl⟩ := hb
    have fr : FG [] [11, 14] w80 z := fr
    have cs : s.toInt < (z.1 0 39).toInt := cs
    have i0 : 0 ≤ s.toInt := i0
    have z0' : ∀ i, z.1 0 i = w80.1 0 i := fun i => fr.2.1 i (fun q => nomatch q)
    have zA : ∀ a ∉ [11, 14], z.1 a = w80.1 a := fr.2.2
    rw [z0' 39] at cs
    have ns := natI i0
    have ea : (s + (1 : Int32)).toInt = s.toInt + 1 := add_z rfl (by decide) (by omega) (by omega)
    have h7 : Q_m_functionOf2 z (z.1 35 s.toNatClampNeg) r195 := h7
    have e202 : x202 = jW 1 ((4 : Int32) * (z.1 19 r195.toNatClampNeg - z.1 37 s.toNatClampNeg)) := eJmp h202
    subst e202
    have J2 : JG bz n K e z := J.fr fr (by decide) ⟨by decide, by decide⟩ (by rw [z0' 49, z0' 47]; exact ⟨J.2.2.2.1.1, J.2.2.2.1.2.1, J.2.2.2.1.2.2.1⟩) (fun q => nomatch q)
    have D2 : FD n K z := by
      unfold FD nFm at D ⊢
      rw [z0' 22, zA 16 (by decide)]
      exact D
    have F := oCallF J2 D2 (c := s.toNatClampNeg) (by rw [z0' 39]; omega) h7
    rw [zA 16 (by decide), zA 35 (by decide), z0' 22] at F
    have F2 : 0 ≤ r195.toInt ∧ r195.toInt < (w80.1 0 22).toInt ∧ K.2.1 (w80.1 16 r195.toNatClampNeg) = K.2.1 (w80.1 35 s.toNatClampNeg) := by
      rcases F with ⟨-, no⟩ | F
      · obtain ⟨r, r0, hq⟩ := A s.toNatClampNeg (by omega)
        rcases oCallF J D (c := s.toNatClampNeg) (by omega) hq with ⟨q, -⟩ | ⟨-, q2, q3⟩
        · omega
        · have nr := natI r0
          have : nFm z = nFm w80 := by unfold nFm; rw [z0' 22]
          have n22 : ((nFm w80 : Nat) : Int) = (w80.1 0 22).toInt := natI b22
          exact absurd q3 (no r.toNatClampNeg (by omega))
      · exact F
    have e37 : z.1 37 = w80.1 37 := zA 37 (by decide)
    have e19 : z.1 19 = w80.1 19 := zA 19 (by decide)
    refine ⟨show 0 ≤ (s + (1 : Int32)).toInt by omega, fun c hc h9 => ?_, fun j hj => ?_⟩
    · have hc : (c : Int) < (s + (1 : Int32)).toInt := hc
      show ∃ f : Int32, 0 ≤ f.toInt ∧ f.toInt < (w80.1 0 22).toInt ∧ K.2.1 (w80.1 16 f.toNatClampNeg) = K.2.1 (w80.1 35 c) ∧ upd (z.1 11) (z.1 37 s.toNatClampNeg).toNatClampNeg (jW 1 ((4 : Int32) * (z.1 19 r195.toNatClampNeg - z.1 37 s.toNatClampNeg))) (w80.1 37 c).toNatClampNeg = _
      rw [e37, e19]
      by_cases g : c = s.toNatClampNeg
      · rw [g, updS]
        exact ⟨r195, F2.1, F2.2.1, F2.2.2, rfl⟩
      · rw [updN_ (fun q => g (inj2 c _ h9 (by omega) q))]
        exact i1 c (show (c : Int) < s.toInt by omega) h9
    · show upd (z.1 11) (z.1 37 s.toNatClampNeg).toNatClampNeg _ j = _
      rw [e37, updN_ (fun q => hj s.toNatClampNeg (by omega) q.symm)]
      exact i2 j hj
  exact ⟨fun c hc => inv.2.1 c (by omega) hc, inv.2.2⟩
set_option maxHeartbeats 800000 in
/-- addresses, one after the other -/
theorem fixesW {m : Nat} (hm : (m : Int) = (v.1 0 43).toInt) (inj : ∀ c d : Nat, c < m → d < m → (v.1 40 c).toNatClampNeg = (v.1 40 d).toNatClampNeg → c = d) (hr : RT (Q_m_addresses_L0 v) (0, v) (ka, w2)) (ck : (v.1 0 43).toInt ≤ ka.toInt) : (∀ c : Nat, c < m → w2.1 11 (v.1 40 c).toNatClampNeg = fixW v (v.1 41 c) (v.1 42 c) (v.1 40 c) (v.1 11 (v.1 40 c).toNatClampNeg)) ∧ ∀ j : Nat, (∀ c : Nat, c < m → (v.1 40 c).toNatClampNeg ≠ j) → w2.1 11 j = v.1 11 j := by
  have z0 : (0 : Int32).toInt = 0 := by decide
  have l43 := Int32.toInt_lt (v.1 0 43)
  have inv : 0 ≤ ka.toInt ∧ (∀ c : Nat, (c : Int) < ka.toInt → c < m → w2.1 11 (v.1 40 c).toNatClampNeg = fixW v (v.1 41 c) (v.1 42 c) (v.1 40 c) (v.1 11 (v.1 40 c).toNatClampNeg)) ∧ ∀ j : Nat, (∀ c : Nat, (c : Int) < ka.toInt → c < m → (v.1 40 c).toNatClampNeg ≠ j) → w2.1 11 j = v.1 11 j := by
    refine RT.ind (fun (y : Int32 × MS) => 0 ≤ y.1.toInt ∧ (∀ c : Nat, (c : Int) < y.1.toInt → c < m → y.2.1 11 (v.1 40 c).toNatClampNeg = fixW v (v.1 41 c) (v.1 42 c) (v.1 40 c) (v.1 11 (v.1 40 c).toNatClampNeg)) ∧ ∀ j : Nat, (∀ c : Nat, (c : Int) < y.1.toInt → c < m → (v.1 40 c).toNatClampNeg ≠ j) → y.2.1 11 j = v.1 11 j) hr ⟨show 0 ≤ (0 : Int32).toInt by omega, fun c hc => absurd (show (c : Int) < (0 : Int32).toInt from hc) (by omega), fun _ _ => rfl⟩ ?_
    rintro ⟨s, z⟩ y - ⟨i0, i1, i2⟩ hb
    obtain ⟨fr, bs, cs, hb⟩ := hb
    have fr : FG [] [11] v z := fr
    have cs : s.toInt < (z.1 0 43).toInt := cs
    have i0 : 0 ≤ s.toInt := i0
    have z0' : ∀ i, z.1 0 i = v.1 0 i := fun i => fr.2.1 i (fun q => nomatch q)
    have zA : ∀ a ∉ [11], z.1 a = v.1 a := fr.2.2
    have e40 : z.1 40 = v.1 40 := zA 40 (by decide)
    have e41 : z.1 41 = v.1 41 := zA 41 (by decide)
    have e42 : z.1 42 = v.1 42 := zA 42 (by decide)
    have e25 : z.1 25 = v.1 25 := zA 25 (by decide)
    rw [z0' 43] at cs
    have ns := natI i0
    have ea : (s + (1 : Int32)).toInt = s.toInt + 1 := add_z rfl (by decide) (by omega) (by omega)
    have zw : z.1 11 (v.1 40 s.toNatClampNeg).toNatClampNeg = v.1 11 (v.1 40 s.toNatClampNeg).toNatClampNeg := i2 _ (fun c hc h9 q => by
      have hc : (c : Int) < s.toInt := hc
      have := inj c s.toNatClampNeg h9 (by omega) q
      omega)
    have main : ∃ X : Int32, y = ((s + (1 : Int32)), (wA z 11 ((v.1 40 s.toNatClampNeg).toNatClampNeg) X)) ∧ X = fixW v (v.1 41 s.toNatClampNeg) (v.1 42 s.toNatClampNeg) (v.1 40 s.toNatClampNeg) (v.1 11 (v.1 40 s.toNatClampNeg).toNatClampNeg) := by
      unfold fixW
      have hb : _ := hb
      rcases hb with ⟨c5, ⟨c0, ⟨c2, r41, h41, ey⟩ | ⟨c2, r46, h46, r49, h49, ey⟩⟩ | ⟨c0, r56, h56, ey⟩⟩ | ⟨c5, ⟨c1, x65, h65, ey⟩ | ⟨c1, x72, h72, ey⟩⟩
      · have c5 : (z.1 42 s.toNatClampNeg).toInt ≠ 5 := c5
        have c0 : (z.1 42 s.toNatClampNeg).toInt ≠ 0 := c0
        have c2 : (z.1 42 s.toNatClampNeg).toInt ≠ 2 := c2
        have h41 : Q_m_lo ((4 : Int32) * z.1 0 12 + (4 : Int32) * z.1 25 (z.1 41 s.toNatClampNeg).toNatClampNeg) r41 := h41
        have ey : y = ((s + (1 : Int32)), (wA z 11 ((z.1 40 s.toNatClampNeg).toNatClampNeg) (z.1 11 (z.1 40 s.toNatClampNeg).toNatClampNeg ||| (r41 <<< ((20 : Int32) &&& 31))))) := ey
        rw [e42] at c5 c0 c2
        rw [e40, zw] at ey
        have e41' := eLo h41
        rw [z0' 12, e25, e41] at e41'
        refine ⟨_, ey, ?_⟩
        rw [if_neg c5, if_neg c0, if_neg c2, e41']
      · have c5 : (z.1 42 s.toNatClampNeg).toInt ≠ 5 := c5
        have c0 : (z.1 42 s.toNatClampNeg).toInt ≠ 0 := c0
        have c2 : (z.1 42 s.toNatClampNeg).toInt = 2 := c2
        have h46 : Q_m_lo ((4 : Int32) * z.1 0 12 + (4 : Int32) * z.1 25 (z.1 41 s.toNatClampNeg).toNatClampNeg) r46 := h46
        have ey : y = ((s + (1 : Int32)), (wA z 11 ((z.1 40 s.toNatClampNeg).toNatClampNeg) r49)) := ey
        rw [e42] at c5 c0 c2
        rw [e40] at ey
        have e41' := eLo h46
        rw [z0' 12, e25, e41] at e41'
        refine ⟨_, ey, ?_⟩
        rw [if_neg c5, if_neg c0, if_pos c2, eSw h49, e41']
      · have c5 : (z.1 42 s.toNatClampNeg).toInt ≠ 5 := c5
        have c0 : (z.1 42 s.toNatClampNeg).toInt = 0 := c0
        have h56 : Q_m_hi ((4 : Int32) * z.1 0 12 + (4 : Int32) * z.1 25 (z.1 41 s.toNatClampNeg).toNatClampNeg) r56 := h56
        have ey : y = ((s + (1 : Int32)), (wA z 11 ((z.1 40 s.toNatClampNeg).toNatClampNeg) (z.1 11 (z.1 40 s.toNatClampNeg).toNatClampNeg ||| (r56 <<< ((12 : Int32) &&& 31))))) := ey
        rw [e42] at c5 c0
        rw [e40, zw] at ey
        have e41' := eHi h56
        rw [z0' 12, e25, e41] at e41'
        refine ⟨_, ey, ?_⟩
        rw [if_neg c5, if_pos c0, e41']
      · have c5 : (z.1 42 s.toNatClampNeg).toInt = 5 := c5
        have c1 : (z.1 41 s.toNatClampNeg).toInt ≠ -1 := c1
        have ej : x65 = jW 28 ((4 : Int32) * (z.1 0 68 - z.1 40 s.toNatClampNeg)) := eJmp h65
        have ey : y = ((s + (1 : Int32)), (wA z 11 ((z.1 40 s.toNatClampNeg).toNatClampNeg) x65)) := ey
        rw [e42] at c5
        rw [e41] at c1
        rw [e40] at ey ej
        rw [z0' 68] at ej
        refine ⟨_, ey, ?_⟩
        rw [if_pos c5, if_neg c1, ej]
      · have c5 : (z.1 42 s.toNatClampNeg).toInt = 5 := c5
        have c1 : (z.1 41 s.toNatClampNeg).toInt = -1 := c1
        have ej : x72 = jW 28 ((4 : Int32) * (z.1 0 67 - z.1 40 s.toNatClampNeg)) := eJmp h72
        have ey : y = ((s + (1 : Int32)), (wA z 11 ((z.1 40 s.toNatClampNeg).toNatClampNeg) x72)) := ey
        rw [e42] at c5
        rw [e41] at c1
        rw [e40] at ey ej
        rw [z0' 67] at ej
        refine ⟨_, ey, ?_⟩
        rw [if_pos c5, if_pos c1, ej]
    obtain ⟨X, ey, eX⟩ := main
    rw [ey]
    refine ⟨show 0 ≤ (s + (1 : Int32)).toInt by omega, fun c hc h9 => ?_, fun j hj => ?_⟩
    · have hc : (c : Int) < (s + (1 : Int32)).toInt := hc
      show upd (z.1 11) (v.1 40 s.toNatClampNeg).toNatClampNeg X (v.1 40 c).toNatClampNeg = _
      by_cases g : c = s.toNatClampNeg
      · rw [g, updS, eX]
      · rw [updN_ (fun q => g (inj c _ h9 (by omega) q))]
        exact i1 c (show (c : Int) < s.toInt by omega) h9
    · show upd (z.1 11) (v.1 40 s.toNatClampNeg).toNatClampNeg X j = _
      have hj : ∀ c : Nat, (c : Int) < (s + (1 : Int32)).toInt → c < m → (v.1 40 c).toNatClampNeg ≠ j := hj
      rw [updN_ (fun q => hj s.toNatClampNeg (by omega) (by omega) q.symm)]
      exact i2 j (fun c hc h9 => hj c (by have hc : (c : Int) < s.toInt := hc; omega) h9)
  exact ⟨fun c hc => inv.2.1 c (by omega) hc, fun j hj => inv.2.2 j (fun c _ h9 => hj c h9)⟩
/-- the limit in every function's beginning -/
theorem limsW {m : Nat} (hm : (m : Int) = (v.1 0 22).toInt) (pos : ∀ f : Nat, f < m → 0 ≤ (v.1 19 f).toInt ∧ (v.1 19 f).toInt ≤ 1000000) (far : ∀ f g : Nat, f < m → g < m → f < g → (v.1 19 f).toInt + 3 ≤ (v.1 19 g).toInt) (hr : RT (Q_m_addresses_L1 v) (0, v) (kb, w161)) (ck : (v.1 0 22).toInt ≤ kb.toInt) : (∀ f : Nat, f < m → w161.1 11 ((v.1 19 f).toNatClampNeg + 1) = uW 6 (v.1 0 69) ∧ w161.1 11 ((v.1 19 f).toNatClampNeg + 2) = iW 19 6 6 (loW (v.1 0 69))) ∧ ∀ j : Nat, (∀ f : Nat, f < m → j ≠ (v.1 19 f).toNatClampNeg + 1 ∧ j ≠ (v.1 19 f).toNatClampNeg + 2) → w161.1 11 j = v.1 11 j := by
  have z0 : (0 : Int32).toInt = 0 := by decide
  have l22 := Int32.toInt_lt (v.1 0 22)
  have inv : 0 ≤ kb.toInt ∧ (∀ f : Nat, (f : Int) < kb.toInt → f < m → w161.1 11 ((v.1 19 f).toNatClampNeg + 1) = uW 6 (v.1 0 69) ∧ w161.1 11 ((v.1 19 f).toNatClampNeg + 2) = iW 19 6 6 (loW (v.1 0 69))) ∧ ∀ j : Nat, (∀ f : Nat, f < m → j ≠ (v.1 19 f).toNatClampNeg + 1 ∧ j ≠ (v.1 19 f).toNatClampNeg + 2) → w161.1 11 j = v.1 11 j := by
    refine RT.ind (fun (y : Int32 × MS) => 0 ≤ y.1.toInt ∧ (∀ f : Nat, (f : Int) < y.1.toInt → f < m → y.2.1 11 ((v.1 19 f).toNatClampNeg + 1) = uW 6 (v.1 0 69) ∧ y.2.1 11 ((v.1 19 f).toNatClampNeg + 2) = iW 19 6 6 (loW (v.1 0 69))) ∧ ∀ j : Nat, (∀ f : Nat, f < m → j ≠ (v.1 19 f).toNatClampNeg + 1 ∧ j ≠ (v.1 19 f).toNatClampNeg + 2) → y.2.1 11 j = v.1 11 j) hr ⟨show 0 ≤ (0 : Int32).toInt by omega, fun c hc => absurd (show (c : Int) < (0 : Int32).toInt from hc) (by omega), fun _ _ => rfl⟩ ?_
    rintro ⟨s, z⟩ y - ⟨i0, i1, i2⟩ hb
    obtain ⟨fr, bs, cs, r12, h12, r15, h15, r19, h19, r22, h22, rfl⟩ := hb
    have fr : FG [] [11] v z := fr
    have cs : s.toInt < (z.1 0 22).toInt := cs
    have i0 : 0 ≤ s.toInt := i0
    have z0' : ∀ i, z.1 0 i = v.1 0 i := fun i => fr.2.1 i (fun q => nomatch q)
    have e19 : z.1 19 = v.1 19 := fr.2.2 19 (by decide)
    rw [z0' 22] at cs
    have ns := natI i0
    have ea : (s + (1 : Int32)).toInt = s.toInt + 1 := add_z rfl (by decide) (by omega) (by omega)
    have sm : s.toNatClampNeg < m := by omega
    have P := pos s.toNatClampNeg sm
    have w15 : r15 = uW 6 (v.1 0 69) := by
      have := eLui h15 (eHi h12)
      rw [show (((s, z) : Int32 × MS).2.1 0 69) = v.1 0 69 from z0' 69] at this
      exact this
    have w22 : r22 = iW 19 6 6 (loW (v.1 0 69)) := by
      have := eAddi h22
      rw [eLo h19, show (((s, z) : Int32 × MS).2.1 0 69) = v.1 0 69 from z0' 69] at this
      exact this
    have k1 : ((v.1 19 s.toNatClampNeg) + 1).toNatClampNeg = (v.1 19 s.toNatClampNeg).toNatClampNeg + 1 := inN (k := 1) (m := 1) (by decide) P.1 P.2 (by decide)
    have k2 : ((v.1 19 s.toNatClampNeg) + 2).toNatClampNeg = (v.1 19 s.toNatClampNeg).toNatClampNeg + 2 := inN (k := 2) (m := 2) (by decide) P.1 P.2 (by decide)
    have up : ∀ j : Nat, (wA (wA z 11 (((z.1 19 s.toNatClampNeg) + (1 : Int32)).toNatClampNeg) r15) 11 (((z.1 19 s.toNatClampNeg) + (2 : Int32)).toNatClampNeg) r22).1 11 j = upd (upd (z.1 11) ((v.1 19 s.toNatClampNeg).toNatClampNeg + 1) (uW 6 (v.1 0 69))) ((v.1 19 s.toNatClampNeg).toNatClampNeg + 2) (iW 19 6 6 (loW (v.1 0 69))) j := fun j => by
      rw [← k1, ← k2, ← e19, ← w15, ← w22]
      rfl
    refine ⟨show 0 ≤ (s + (1 : Int32)).toInt by omega, fun f hf h9 => ?_, fun j hj => ?_⟩
    · have hf : (f : Int) < (s + (1 : Int32)).toInt := hf
      show (wA (wA z 11 (((z.1 19 s.toNatClampNeg) + (1 : Int32)).toNatClampNeg) r15) 11 (((z.1 19 s.toNatClampNeg) + (2 : Int32)).toNatClampNeg) r22).1 11 _ = _ ∧ (wA (wA z 11 (((z.1 19 s.toNatClampNeg) + (1 : Int32)).toNatClampNeg) r15) 11 (((z.1 19 s.toNatClampNeg) + (2 : Int32)).toNatClampNeg) r22).1 11 _ = _
      rw [up, up]
      by_cases g : f = s.toNatClampNeg
      · rw [g, updN_ (by omega), updS, updS]
        exact ⟨rfl, rfl⟩
      · have Q := pos f h9
        have n1 := natI P.1
        have n2 := natI Q.1
        have D := far f s.toNatClampNeg h9 sm (by omega)
        rw [updN_ (by omega), updN_ (by omega), updN_ (by omega), updN_ (by omega)]
        exact i1 f (show (f : Int) < s.toInt by omega) h9
    · show (wA (wA z 11 (((z.1 19 s.toNatClampNeg) + (1 : Int32)).toNatClampNeg) r15) 11 (((z.1 19 s.toNatClampNeg) + (2 : Int32)).toNatClampNeg) r22).1 11 j = _
      have Q := hj s.toNatClampNeg sm
      rw [up, updN_ Q.2, updN_ Q.1]
      exact i2 j hj
  exact ⟨fun f hf => inv.2.1 f (by omega) hf, inv.2.2⟩
end ZZV
