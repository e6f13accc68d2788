/-! the class's deeds: a whole text -/
/-- the functions' bodies: names known at the beginning, events -/
def gItems (S : EvS) (Sx : FS) (K : TK) : Nat → IS → Option (List (List Int32 × List EV))
  | 0, _ => none
  | f + 1, x => if (kd (mkE K x.2.2) x.1).toInt = 0 then some [] else match tItem Sx K x with
    | .error _ => none
    | .ok x' => if ((mkE K x.2.2).1 (pAt x.1 + 1 + 1)).toInt = 30 then (gFunc S (mkE K x.2.2) (pAt x.1 + 1)).bind fun q => (gItems S Sx K f x').bind fun r => some ((q.1, q.2.1) :: r) else gItems S Sx K f x'
def txE : Nat → List (List Int32 × List EV) → List EV
  | _, [] => []
  | k, q :: l => fnE (nI k) q.2 ++ txE (k + 1) l
theorem txE_snoc : ∀ (l : List (List Int32 × List EV)) (k : Nat) (q : List Int32 × List EV), txE k (l ++ [q]) = txE k l ++ fnE (nI (k + l.length)) q.2
  | [], k, q => by
    show fnE (nI k) q.2 ++ [] = [] ++ fnE (nI (k + 0)) q.2
    rw [List.append_nil, List.nil_append, Nat.add_zero]
  | x :: l, k, q => by
    show fnE (nI k) x.2 ++ txE (k + 1) (l ++ [q]) = fnE (nI k) x.2 ++ txE (k + 1) l ++ fnE (nI (k + (l.length + 1))) q.2
    rw [txE_snoc l, List.append_assoc, show k + 1 + l.length = k + (l.length + 1) by omega]
def EvEP : EvE := geE 50
def EvSP : EvS := geS EvEP 50
theorem EvSP_c {L1 L2 : List Nat} : XS L2 (QS L1 L2 39) EvSP := eSLev (fun m hm => (eLev m 50 hm).2) 39 50 (by decide) (by decide)
section VST
variable {L1 L2 : List Nat} {K : TK} {W : Nat → Int32} {v u w : MS} {x0 : IS} {t : Bool} {r pa ps : Int32} {n : Nat}
theorem nI_nF (h : 0 ≤ (w.1 0 375).toInt) : nI (nF w) = w.1 0 375 := by
  have n5 : (nF w : Int) = (w.1 0 375).toInt := natI h
  have l := Int32.toInt_lt (w.1 0 375)
  exact Int32.toInt_inj.mp (by rw [nI_Z (by omega)]; exact n5)
/-- what a part of the items has left -/
def TIq (L1 L2 : List Nat) (K : TK) (x0 : IS) (u8 : MS) (ka : Int32) (w : MS) : Prop := ∃ y W', CIq L1 L2 K W' w y ∧ (u8.1 0 321).toInt ≤ (w.1 0 321).toInt ∧ 2 * ka.toInt ≤ (w.1 0 305).toInt ∧ ∃ f : Nat, tItems SP K 1502 x0 = tItems SP K f y ∧ (1501 : Int) ≤ f + (w.1 0 305).toInt ∧ ((w.1 0 321).toInt ≤ 500 → ∃ d, gItems EvSP SP K 1502 x0 = (gItems EvSP SP K f y).bind (fun r => some (d ++ r)) ∧ (∀ P, EA P u8 w (txE 0 d)) ∧ nF w = d.length)
set_option maxHeartbeats 800000 in
theorem eItems (rd : RD L1 L2) {ka : Int32} {u8 w30 : MS} (C : CIq L1 L2 K W u8 x0) (c5 : (u8.1 0 305).toInt = 0) (h81 : 0 ≤ (u8.1 0 381).toInt ∧ 0 ≤ (u8.1 0 321).toInt) (h75 : nF u8 = 0) (hr : RT (Q_x_X5_readText_L0 L1 L2 v) (0, u8) (ka, w30)) : TIq L1 L2 K x0 u8 ka w30 := by
  refine RT.ind (fun (q : Int32 × MS) => TIq L1 L2 K x0 u8 q.1 q.2) hr ⟨x0, W, C, Int.le_refl _, by show 2 * (0 : Int32).toInt ≤ (u8.1 0 305).toInt; have : (0 : Int32).toInt = 0 := (by decide); omega, 1502, rfl, by show (1501 : Int) ≤ 1502 + (u8.1 0 305).toInt; omega, fun _ => ⟨[], ?_, fun P => ⟨by show (u8.1 0 381).toInt = (u8.1 0 381).toInt + ((0 : Nat) : Int); omega, EF.rf, Int.le_refl _, MTq.nil⟩, h75⟩⟩ ?_
  · cases gItems EvSP SP K 1502 x0 with
    | none => rfl
    | some q => rfl
  · intro a b _ ha hb
    obtain ⟨y, W1, C1, m21, hk, f, hf, hm, ev⟩ := ha
    obtain ⟨-, -, y5, y6, y21, -, y81, -, y17, yk, c1, r42, h42, c42, r67, u66, h66, k66, hb⟩ := hb
    have I0 := C1.1 (pv L1 a.2)
    have hx := C1.2.2.2.2.2.1 _ (PF_pv (L1 := L1) (v := a.2))
    have f42 := sKind (G := Gp (pv L1 a.2)) h42 I0
    have pat : pAt y.1 = a.2.1 0 305 := by rw [← hx]; rfl
    have e42 : (kd (mkE K y.2.2) y.1) = r42 := by
      rw [f42, ← hx]
      rfl
    have ea : (a.1 + (1 : Int32)).toInt = a.1.toInt + 1 := add_z rfl (by decide) (by omega) (by omega)
    obtain ⟨f0, rfl⟩ : ∃ f0, f = f0 + 1 := ⟨f - 1, by omega⟩
    obtain ⟨-, I6, K0, e67, fr, rs⟩ : tHead K y = .ok (tBegF (aC (Gp (pv L1 a.2)) u66), y.2) ∧ SIq (Gp (pv L1 a.2)) L2 (mkE K y.2.2) u66 ∧ KS a.2 u66 ∧ r67 = kb (mkE K y.2.2) (aC (Gp (pv L1 a.2)) u66) ∧ FC [305] [0] a.2 u66 ∧ RS a.2 u66 := by
      rcases sHead (G := Gp (pv L1 a.2)) h66 I0 hx.symm C1.2.2.2.1 C1.2.2.1 with ⟨-, q⟩ | ⟨q, -⟩
      · exact q
      · cases q
    have e67 : r67 = (mkE K y.2.2).1 (u66.1 0 305 + 1) := e67
    have at6 : u66.1 0 305 = a.2.1 0 305 + 1 := by
      have h66' := h66
      obtain ⟨-, -, -, -, -, -, h⟩ := h66'
      rcases h with ⟨u9, -, q, -⟩ | ⟨u2, h2, k2, ⟨u9, -, q, -⟩ | ⟨u7, h7, k7, r14, -, r17, -, h⟩⟩
      · cases q
      · cases q
      have X := eExp (P := (0, 0, 0)) (m := 10) (by decide) h2 k2 I0.1
      have e7 := (eNeed (m := 2) (by decide) h7 X.1).1
      have g : u2.1 0 305 = a.2.1 0 305 + 1 := by
        have g := X.2.2
        unfold gTok at g
        by_cases c : ((mkE K y.2.2).1 (a.2.1 0 305)).toInt = 10
        · rw [if_pos c] at g
          exact (Option.some.inj g).symm
        · rw [if_neg c] at g
          cases g
      rcases h with ⟨-, r23, -, u9, -, q, -⟩ | ⟨-, r30, -, ⟨-, r35, -, -, -, e9⟩ | ⟨-, r44, -, u9, -, q, -⟩⟩
      · cases q
      · rw [e9, e7]; exact g
      · cases q
    have c30e : ((mkE K y.2.2).1 (pAt y.1 + 1 + 1)) = r67 := by rw [pat, ← at6, ← e67]
    have h6k := k66.2.2.2.1
    have A6 : ∀ P, EA P a.2 u66 [] := fun P => EA.fc fr (h3 := by omega)
    have m66 : (u66.1 0 321).toInt = (a.2.1 0 321).toInt := by rw [fr.2.1 321 (by decide)]
    rcases hb with ⟨c30, u76, h76, k76, rfl⟩ | ⟨c30, u95, h95, k95, rfl⟩
    · rcases cItem rd SP_c C1 ⟨y21.1, y81.1⟩ h66 (Or.inl ⟨c30, h76⟩) with ⟨-, y', W', q1, q2, q3⟩ | ⟨q, -⟩
      · have m76 : (u76.1 0 321).toInt = (u66.1 0 321).toInt := by rw [k76.1.2.1 321 (by decide)]
        have k5 := k76.2.2.2.2
        refine ⟨y', W', q2, by show (u8.1 0 321).toInt ≤ (u76.1 0 321).toInt; omega, by show 2 * (a.1 + (1 : Int32)).toInt ≤ (u76.1 0 305).toInt; omega, f0, ?_, by show (1501 : Int) ≤ f0 + (u76.1 0 305).toInt; have : (1501 : Int) ≤ ((f0 + 1 : Nat) : Int) + (a.2.1 0 305).toInt := hm; omega, fun c5 => ?_⟩
        · rw [hf]
          show (if (kd (mkE K y.2.2) y.1).toInt = 0 then _ else _) = _
          rw [e42, if_neg c42, q1, bd_ok]
        · have c5 : (u76.1 0 321).toInt ≤ 500 := c5
          obtain ⟨d, d1, d2, d3⟩ := ev (by omega)
          refine ⟨d, ?_, fun P => ?_, ?_⟩
          · rw [d1]
            show ((if (kd (mkE K y.2.2) y.1).toInt = 0 then some [] else match tItem SP K y with
              | .error _ => none
              | .ok x' => if ((mkE K y.2.2).1 (pAt y.1 + 1 + 1)).toInt = 30 then _ else gItems EvSP SP K f0 x') : Option (List (List Int32 × List EV))).bind _ = _
            rw [e42, if_neg c42, q1]
            show (if ((mkE K y.2.2).1 (pAt y.1 + 1 + 1)).toInt = 30 then _ else gItems EvSP SP K f0 y' : Option (List (List Int32 × List EV))).bind _ = _
            rw [c30e, if_neg c30]
          · have T := ((d2 P).tr (A6 P) h81).tr (EA.fc (P := P) k76.1 (h3 := by omega)) h81
            rw [List.append_nil, List.append_nil] at T
            exact T
          · show (u76.1 0 375).toNatClampNeg = _
            rw [k76.1.2.1 375 (by decide), fr.2.1 375 (by decide)]
            exact d3
      · cases q
    · rcases cItem rd SP_c C1 ⟨y21.1, y81.1⟩ h66 (Or.inr ⟨c30, h95, fun _ => k95⟩) with ⟨-, y', W', q1, q2, q3⟩ | ⟨q, -⟩
      · have m95 := mFunM rd h95
        refine ⟨y', W', q2, by show (u8.1 0 321).toInt ≤ (u95.1 0 321).toInt; omega, by show 2 * (a.1 + (1 : Int32)).toInt ≤ (u95.1 0 305).toInt; omega, f0, ?_, by show (1501 : Int) ≤ f0 + (u95.1 0 305).toInt; have : (1501 : Int) ≤ ((f0 + 1 : Nat) : Int) + (a.2.1 0 305).toInt := hm; omega, fun c5 => ?_⟩
        · rw [hf]
          show (if (kd (mkE K y.2.2) y.1).toInt = 0 then _ else _) = _
          rw [e42, if_neg c42, q1, bd_ok]
        · have c5 : (u95.1 0 321).toInt ≤ 500 := c5
          obtain ⟨d, d1, d2, d3⟩ := ev (by omega)
          have e75 : u66.1 0 375 = a.2.1 0 375 := fr.2.1 375 (by decide)
          have J3 := C1.2.2.1
          have F := fun P => eFunI (P := P) rd EvSP_c h95 I6.1 ⟨by rw [fr.2.1 317 (by decide)]; exact ⟨y17.1, by have := y17.2; omega⟩, k66.2.1, by rw [fr.2.1 381 (by decide)]; exact y81.1, by rw [fr.2.1 321 (by decide)]; exact y21.1⟩ ⟨I6.2.1, by rw [fr.2.1 306 (by decide)]; exact y6.1⟩ c5 (by rw [e75]; exact J3.1)
          obtain ⟨kn, b, g1, g2, g3⟩ := F (0, 0, 0)
          have n7 : u66.1 0 375 = nI (0 + d.length) := by
            rw [e75, ← nI_nF J3.1, Nat.zero_add, ← d3]
          refine ⟨d ++ [(kn, b)], ?_, fun P => ?_, ?_⟩
          · rw [d1]
            show ((if (kd (mkE K y.2.2) y.1).toInt = 0 then some [] else match tItem SP K y with
              | .error _ => none
              | .ok x' => if ((mkE K y.2.2).1 (pAt y.1 + 1 + 1)).toInt = 30 then (gFunc EvSP (mkE K y.2.2) (pAt y.1 + 1)).bind fun q => (gItems EvSP SP K f0 x').bind fun r => some ((q.1, q.2.1) :: r) else gItems EvSP SP K f0 x') : Option (List (List Int32 × List EV))).bind _ = _
            rw [e42, if_neg c42, q1]
            show (if ((mkE K y.2.2).1 (pAt y.1 + 1 + 1)).toInt = 30 then (gFunc EvSP (mkE K y.2.2) (pAt y.1 + 1)).bind fun q => (gItems EvSP SP K f0 y').bind fun r => some ((q.1, q.2.1) :: r) else gItems EvSP SP K f0 y' : Option (List (List Int32 × List EV))).bind _ = _
            rw [c30e, if_pos c30, pat, ← at6, g1, Option.bind_some]
            cases gItems EvSP SP K f0 y' with
            | none => rfl
            | some r =>
              show some (d ++ ((kn, b) :: r)) = some (d ++ [(kn, b)] ++ r)
              rw [List.append_assoc]
              rfl
          · obtain ⟨kn', b', g1', g2', -⟩ := F P
            have eb : b' = b := by
              rw [g1] at g1'
              have q := Option.some.inj g1'
              exact (congrArg (fun z : List Int32 × List EV × Int32 => z.2.1) q).symm
            rw [eb, n7] at g2'
            have T := ((d2 P).tr (A6 P) h81).tr g2' h81
            rw [List.append_nil] at T
            rw [txE_snoc]
            exact T
          · have n9 : (u66.1 0 375).toNatClampNeg = d.length := by
              show _
              rw [e75]
              exact d3
            have w95 : (u95.1 0 375).toNatClampNeg = (u66.1 0 375).toNatClampNeg + 1 := by
              rw [g3]
              have j1 := J3.1
              have j2 := J3.2
              have q1 : (u66.1 0 375).toInt = (a.2.1 0 375).toInt := by rw [e75]
              exact natS (add_z rfl (by decide) (by omega) (by omega)) (by omega)
            show (u95.1 0 375).toNatClampNeg = _
            rw [w95, n9, List.length_append]
            rfl
      · cases q
end VST
