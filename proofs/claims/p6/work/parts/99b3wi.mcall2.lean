/-! the reference's orders: a whole call -/
section WIC
variable {n : Int} {K : TK} {e : PE} {v u w x y : MS} {a b d : List EV} {q : EV} {r pa pb pd : Int32} {c : RM1} {E : EvE} {Es : FE} {f : Nat}
set_option maxHeartbeats 800000 in
theorem oCall (hX : XMe n K c E) (hE : HME n K c Es) (h : Q_m_call c v false u) (J : JM n K e v) (hk : e.1 (v.1 0 47) = 2) (h30 : (e.1 (v.1 0 47 + 1)).toInt = 30) : ∃ a, gCall E e (knM K v) (v.1 0 32) (v.1 0 47) = some (a, u.1 0 47) ∧ OS n K e v u a := by
  have JU : JM n K e u := by
    rcases rCall (g := g00) (st := false) hE h J og00 hk h30 with ⟨-, -, q⟩ | ⟨q, -⟩
    · exact q
    · cases q
  obtain ⟨z1, z2, z3, z4, z5, z6, z15, z8, z9, z10, r3, h3, k3, h⟩ := h
  have p0 := z15.1
  have z39 := z9
  rcases h with ⟨-, f9, -⟩ | ⟨-, r12, h12, k12, ⟨-, h⟩ | ⟨-, f9, -⟩⟩
  · cases f9
  · rcases h with ⟨u9, -, f9, -⟩ | ⟨ht, kt, ⟨u9, -, f9, -⟩ | ⟨ho, ko, r29, h29, k29, h⟩⟩
    · cases f9
    · cases f9
    have J4 := J.2.2.2.1
    have q1 : ((v.1 0 47) + (1 : Int32)).toInt = (v.1 0 47).toInt + 1 := add_z rfl (by decide) (by omega) (by omega)
    -- the state behind '('
    obtain ⟨V0, hV0⟩ : ∃ V0, V0 = (wA (wA v 0 39 ((v.1 0 39) + (1 : Int32))) 35 ((v.1 0 39).toNatClampNeg) (v.1 0 47)) := ⟨_, rfl⟩
    have hnt : NT n K (v.1 0 47) := ⟨J4.2.1, J4.2.2.1, by rw [← hk, J.2.1]⟩
    have JV0 : JM n K e V0 := by
      rw [hV0]
      have nz := natI z39.1
      have e39 : (v.1 0 39 + 1).toInt = (v.1 0 39).toInt + 1 := add_z rfl (by decide) (by omega) (by omega)
      obtain ⟨T, he, nd, J4', J5, J6, J7⟩ := J
      refine ⟨T.of rfl rfl rfl rfl rfl rfl, he, nd, J4', J5, J6, fun k hk9 => ?_⟩
      have hk9 : (k : Int) < (v.1 0 39 + 1).toInt := hk9
      show NT n K (upd (v.1 35) (v.1 0 39).toNatClampNeg (v.1 0 47) k)
      by_cases q : k = (v.1 0 39).toNatClampNeg
      · rw [q, updS]; exact hnt
      · rw [updN_ q]; exact J7 k (by omega)
    rw [← hV0] at ht ho h29 h
    have v47 : V0.1 0 47 = v.1 0 47 := by rw [hV0]; rfl
    have JT := (rTake (g := g00) ht JV0 (by show 2 ≤ (e.1 (V0.1 0 47)).toInt; rw [v47, hk]; decide)).jj
    have O1 := oOpen (q := (40, 30)) (m := 30) ho JT (by decide) rfl (by decide)
    obtain ⟨V1, hV1⟩ : ∃ V1, V1 = (wA (wA (wA V0 0 47 ((v.1 0 47) + (1 : Int32))) 0 47 (((v.1 0 47) + (1 : Int32)) + (1 : Int32))) 0 48 ((v.1 0 48) + (1 : Int32))) := ⟨_, rfl⟩
    rw [← hV1] at h29 h O1
    have i2 := rIs (g := g00) h29 O1.1 (q := (41, 31)) (by decide) rfl
    have w47 : V1.1 0 47 = v.1 0 47 + 2 := by
      rw [hV1]
      show v.1 0 47 + 1 + 1 = _
      rw [Int32.add_assoc]
      rfl
    have i2 : r29.toInt ≠ 0 ↔ e.1 (V1.1 0 47) = 31 := i2
    rw [w47] at i2
    have e31 : e.1 (v.1 0 47 + 2) = 31 ↔ (e.1 (v.1 0 47 + 2)).toInt = 31 := ⟨fun q => by rw [q]; decide, fun q => Int32.toInt_inj.mp (q.trans (by decide))⟩
    have w29 : V1.1 29 = v.1 29 := by rw [hV1, hV0]; rfl
    have w30 : V1.1 0 30 = v.1 0 30 := by rw [hV1, hV0]; rfl
    have w32 : V1.1 0 32 = v.1 0 32 := by rw [hV1, hV0]; rfl
    have w39 : V1.1 0 39 = v.1 0 39 + 1 := by rw [hV1, hV0]; rfl
    have w15 : V1.1 0 15 = v.1 0 15 := by rw [hV1, hV0]; rfl
    have w35 : V1.1 35 = upd (v.1 35) (v.1 0 39).toNatClampNeg (v.1 0 47) := by rw [hV1, hV0]; rfl
    have wa : V1.1 13 = v.1 13 ∧ V1.1 14 = v.1 14 ∧ V1.1 38 = v.1 38 ∧ V1.1 25 = v.1 25 := by rw [hV1, hV0]; exact ⟨rfl, rfl, rfl, rfl⟩
    have w27 : V1.1 0 27 = v.1 0 27 := by rw [hV1, hV0]; rfl
    have knV : knM K V1 = knM K v := knM_of w29 w30
    have nm : K.2.1 (v.1 0 47) = e.2.1 (v.1 0 47) := by rw [J.2.1]
    have i47 : (V1.1 0 47).toInt = (v.1 0 47).toInt + 2 := by rw [w47]; exact add_z rfl (by decide) (by omega) (by omega)
    -- the end
    have fin : ∀ {w y : MS} {d : List EV} {nn : Int}, OA K V1 w d → (w.1 29 = V1.1 29 ∧ w.1 0 30 = V1.1 0 30) → w.1 0 32 = V1.1 0 32 + Int32.ofInt nn → (w.1 0 15).toInt ≤ 100000 → u = y → y.1 13 = upd (w.1 13) (w.1 0 15).toNatClampNeg 14 → y.1 14 = upd (w.1 14) (w.1 0 15).toNatClampNeg 0 → y.1 0 15 = w.1 0 15 + 1 → y.1 38 = upd (w.1 38) (v.1 0 39).toNatClampNeg (w.1 0 15) → y.1 35 = w.1 35 → y.1 0 39 = w.1 0 39 → y.1 0 27 = w.1 0 27 → y.1 25 = w.1 25 → (y.1 29 = w.1 29 ∧ y.1 0 30 = w.1 0 30 ∧ y.1 0 32 = w.1 0 32 - Int32.ofInt nn) → OS n K e v u (d ++ [(21, e.2.1 (v.1 0 47), gsl (knM K v) (v.1 0 32), nn, 0, 0)]) := by
      intro w y d nn A g1 g2 g3 eu g4 g5 g6 g7 g8 g9 g10 g11 g12
      refine ⟨JU, ?_, ?_, ?_, ?_⟩
      · rw [eu]
        exact OA.call w39 ⟨z39.1, by have := z39.2; omega⟩ w35 w15 wa w27 A p0 g3 g4 g5 g6 g7 g8 g9 g10 g11 nm
      · rw [eu, g12.1, g1.1, w29]
      · rw [eu, g12.2.1, g1.2, w30]
      · rw [eu, g12.2.2, g2, w32, Int32.add_sub_cancel]
    unfold gCall
    rcases h with ⟨c29, ⟨u9, -, f9, -⟩ | ⟨hc, kc, u37, hu37, u55, hu55, -, eu⟩⟩ | ⟨c29, na, mo, w91, hr, fg, hna, g47, -, -, g15, -, -, g32, -, h⟩
    · cases f9
    · have k31 := e31.mp (i2.mp c29)
      have C := oClose (q := (41, 31)) (m := 31) hc O1.1 (by decide) rfl (by decide)
      have y15 : u37.1 0 15 = v.1 0 15 := by
        rw [hu37]
        exact w15
      have AY : OA K V1 u37 [] := by
        rw [hu37]
        exact OA.sm rfl rfl rfl rfl rfl rfl rfl rfl
      have e47 : u.1 0 47 = v.1 0 47 + 2 + 1 := by
        rw [eu, hu55]
        show u37.1 0 47 = _
        rw [hu37]
        show v.1 0 47 + 1 + 1 + 1 = _
        rw [Int32.add_assoc (v.1 0 47) 1 1]
        rfl
      have F := fin (w := u37) (y := u55) (d := []) (nn := 0) AY ⟨by rw [hu37]; rfl, by rw [hu37]; rfl⟩ (by
        rw [hu37]
        show V1.1 0 32 = V1.1 0 32 + 0
        rw [Int32.add_zero]) (by rw [y15]; have := z15.2; omega) eu (by rw [hu55]; rfl) (by rw [hu55]; rfl) (by rw [hu55]; rfl) (by rw [hu55]; rfl) (by rw [hu55]; rfl) (by rw [hu55]; rfl) (by rw [hu55]; rfl) (by rw [hu55]; rfl) ⟨by rw [hu55]; rfl, by rw [hu55]; rfl, by rw [hu55]; rfl⟩
      refine ⟨_, ?_, F⟩
      rw [if_pos k31, Option.bind_some]
      have g : gTok e 31 (v.1 0 47 + 2) = some (v.1 0 47 + 2 + 1) := by unfold gTok; rw [if_pos k31]
      show (gTok e 31 (v.1 0 47 + 2)).bind _ = _
      rw [g, Option.bind_some, e47]
    · rw [if_neg (fun q => i2.mpr (e31.mpr q) c29)]
      have inv : OAI n K e E V1 (gArgs E 1502 0 e (knM K v) (v.1 0 32) (v.1 0 47 + 2)) (na, mo, w91) := by
        refine RT.ind (OAI n K e E V1 (gArgs E 1502 0 e (knM K v) (v.1 0 32) (v.1 0 47 + 2))) hr ⟨O1.1, ⟨rfl, rfl⟩, by show V1.1 0 32 = V1.1 0 32 + 0; rw [Int32.add_zero], [], OA.rf, Or.inl ⟨by show (1 : Int32).toInt ≠ 0; decide, 1502, by show (1501 : Int) ≤ 1502 + (V1.1 0 47).toInt; omega, ?_⟩⟩ ?_
        · show _ = (gArgs E 1502 (0 : Int32).toInt e (knM K V1) (V1.1 0 32) (V1.1 0 47)).bind _
          rw [knV, w32, w47, show (0 : Int32).toInt = 0 by decide]
          cases gArgs E 1502 0 e (knM K v) (v.1 0 32) (v.1 0 47 + 2) with
          | none => rfl
          | some z => rfl
        · intro a b _ I hb
          exact oArgL hX (by rw [w15]; exact p0) hb I
      obtain ⟨Jw, ⟨i29, i30⟩, i32, d, A, I⟩ := inv
      have Jw : JM n K e w91 := Jw
      have i32 : w91.1 0 32 = V1.1 0 32 + na := i32
      rcases h with ⟨m0, h⟩ | ⟨m0, h⟩
      · have X : gArgs E 1502 0 e (knM K v) (v.1 0 32) (v.1 0 47 + 2) = some (na.toInt, d, w91.1 0 47) := by
          rcases I with ⟨q, -⟩ | ⟨-, q⟩
          · exact absurd m0 q
          · exact q
        rw [X, Option.bind_some]
        rcases h with ⟨u9, -, f9, -⟩ | ⟨hc, kc, h⟩
        · cases f9
        have C := oClose (q := (41, 31)) (m := 31) hc Jw (by decide) rfl (by decide)
        have l15 : (w91.1 0 15).toInt ≤ 100000 := by omega
        have on : Int32.ofInt na.toInt = na := Int32.ofInt_toInt na
        have G : ∀ {y : MS}, y.1 0 47 = w91.1 0 47 + 1 → u = y → OS n K e v u (d ++ [(21, e.2.1 (v.1 0 47), gsl (knM K v) (v.1 0 32), na.toInt, 0, 0)]) → ∃ a, ((gTok e 31 (w91.1 0 47)).bind fun j => some (d ++ [(21, e.2.1 (v.1 0 47), gsl (knM K v) (v.1 0 32), na.toInt, 0, 0)], j)) = some (a, u.1 0 47) ∧ OS n K e v u a := fun g1 g2 g3 => ⟨_, by rw [gTok_of C.2, Option.bind_some, g2, g1], g3⟩
        rcases h with ⟨c0, u90, hu90, -, eu⟩ | ⟨c0, r104, -, r107, -, u121, hu121, -, eu⟩
        · refine G (y := u90) (by rw [hu90]; rfl) eu (fin (w := w91) (y := u90) A ⟨i29, i30⟩ (by rw [on]; exact i32) l15 eu (by rw [hu90]; rfl) (by rw [hu90]; rfl) (by rw [hu90]; rfl) (by rw [hu90]; rfl) (by rw [hu90]; rfl) (by rw [hu90]; rfl) (by rw [hu90]; rfl) (by rw [hu90]; rfl) ⟨by rw [hu90]; rfl, by rw [hu90]; rfl, by rw [hu90, on]; rfl⟩)
        · refine G (y := u121) (by rw [hu121]; rfl) eu (fin (w := w91) (y := u121) A ⟨i29, i30⟩ (by rw [on]; exact i32) l15 eu (by rw [hu121]; rfl) (by rw [hu121]; rfl) (by rw [hu121]; rfl) (by rw [hu121]; rfl) (by rw [hu121]; rfl) (by rw [hu121]; rfl) (by rw [hu121]; rfl) (by rw [hu121]; rfl) ⟨by rw [hu121]; rfl, by rw [hu121]; rfl, by rw [hu121, on]; rfl⟩)
      · exfalso
        rcases h with ⟨-, r138, u137, -, -, ⟨u9, -, f9, -⟩ | ⟨u153, -, -, r160, -, r163, -, r172, -, -, -, u9, -, f9, -⟩⟩ | ⟨-, r184, u183, -, -, ⟨u9, -, f9, -⟩ | ⟨u199, -, -, r206, -, r209, -, r218, -, -, -, u9, -, f9, -⟩⟩ <;> cases f9
  · cases f9
end WIC
