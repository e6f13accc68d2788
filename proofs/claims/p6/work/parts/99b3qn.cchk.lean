/-! the class: calls at the end, the whole text -/
section CCK
variable {L1 L2 : List Nat} {K : TK} {W : Nat → Int32} {v u : MS} {x x0 : IS} {t : Bool} {r pa : Int32} {n : Nat} {S : FS}
theorem cas_drop {f g h : Nat → Int32} {n k : Nat} (hk : k < n) : (cas [] f g h n).drop k = (f k, g k, h k) :: (cas [] f g h n).drop (k + 1) := by
  rw [List.drop_eq_getElem_cons (by rw [cas_len]; exact hk)]
  congr 1
  unfold cas
  rw [List.getElem_map, List.getElem_range, if_neg (fun q => nomatch q)]
theorem cFOC (h : Q_x_X1_functionOfCall L1 L2 v pa r) (h0 : 0 ≤ pa.toInt ∧ pa.toInt < (v.1 0 321).toInt) : Q_x_X7_functionNamed L1 L2 v (v.1 318 pa.toNatClampNeg) r := by
  obtain ⟨-, h⟩ := h
  rcases h with ⟨a, -⟩ | ⟨-, ⟨a, -⟩ | ⟨-, r9, h, hr⟩⟩
  · omega
  · omega
  · rw [hr]
    exact h
theorem cPOC (h : Q_x_X1_placeOfCall L1 L2 v pa r) (h0 : 0 ≤ pa.toInt ∧ pa.toInt < (v.1 0 321).toInt) : r = v.1 319 pa.toNatClampNeg := by
  obtain ⟨-, h⟩ := h
  rcases h with ⟨a, -⟩ | ⟨-, ⟨a, -⟩ | ⟨-, h⟩⟩
  · omega
  · omega
  · exact h
/-- one call: what stands at its name -/
theorem cOne (J3 : 0 ≤ (v.1 0 375).toInt ∧ (v.1 0 375).toInt ≤ 40) (h0 : 0 ≤ pa.toInt ∧ pa.toInt < (v.1 0 321).toInt) (h1 : Q_x_X1_functionOfCall L1 L2 v pa r) : (r.toInt = -1 ∧ fnm (fsC L1 W v) (v.1 318 pa.toNatClampNeg) = none) ∨ (r.toInt ≠ -1 ∧ ∃ g : FN, fnm (fsC L1 W v) (v.1 318 pa.toNatClampNeg) = some g ∧ ∀ r12, Q_x_X1_hasItsArguments L1 L2 v pa r12 → (r12.toInt ≠ 0 ↔ g.2.2.1 = v.1 320 pa.toNatClampNeg)) := by
  rcases cFun (W := W) (cFOC h1 h0) J3 with q | ⟨q1, q2, q3⟩
  · exact Or.inl q
  · refine Or.inr ⟨by omega, _, q3, fun r12 h2 => ?_⟩
    obtain ⟨-, r3, h3, r6, h6, -, h⟩ := h2
    rcases cFun (W := W) (cFOC h3 h0) J3 with ⟨p1, p2⟩ | ⟨p1, p2, p3⟩
    · rw [q3] at p2
      cases p2
    · have e6 := cFF4 h6 p1 p2 J3.2 (by decide)
      have e3 : rF L1 v r.toNatClampNeg 0 = rF L1 v r3.toNatClampNeg 0 := by
        rw [q3] at p3
        injection p3 with p3
        exact congrArg (fun g : FN => g.2.2.1) p3
      show r12.toInt ≠ 0 ↔ rF L1 v r.toNatClampNeg 0 = _
      rw [e3, show rF L1 v r3.toNatClampNeg 0 = r6 from e6.symm]
      rcases h with ⟨a, -⟩ | ⟨-, ⟨a, -⟩ | ⟨-, ⟨a, rfl⟩ | ⟨a, rfl⟩⟩⟩
      · omega
      · omega
      · exact ⟨fun q => absurd rfl q, fun q => absurd (congrArg Int32.toInt q.symm) a⟩
      · exact ⟨fun _ => (Int32.toInt_inj.mp a).symm, fun _ => by decide⟩
set_option maxHeartbeats 400000 in
theorem cChk (h : Q_x_X5_checkCalls L1 L2 v t u) (J3 : 0 ≤ (v.1 0 375).toInt ∧ (v.1 0 375).toInt ≤ 40) (z : 0 ≤ (v.1 0 321).toInt) : (t = false ∧ u = v ∧ tCalls (fsC L1 W v) (cas [] (v.1 318) (v.1 319) (v.1 320) (nC v)) = .ok ()) ∨ (t = true ∧ tCalls (fsC L1 W v) (cas [] (v.1 318) (v.1 319) (v.1 320) (nC v)) = .error (u.1 0 308, u.1 0 309)) := by
  obtain ⟨-, ka, w2, hr, -, hka, -, h⟩ := h
  have n2 : (nC v : Int) = (v.1 0 321).toInt := natI z
  have inv : w2 = v ∧ 0 ≤ ka.toInt ∧ tCalls (fsC L1 W v) (cas [] (v.1 318) (v.1 319) (v.1 320) (nC v)) = tCalls (fsC L1 W v) ((cas [] (v.1 318) (v.1 319) (v.1 320) (nC v)).drop ka.toNatClampNeg) := by
    refine RT.ind (fun (y : Int32 × MS) => y.2 = v ∧ 0 ≤ y.1.toInt ∧ tCalls (fsC L1 W v) (cas [] (v.1 318) (v.1 319) (v.1 320) (nC v)) = tCalls (fsC L1 W v) ((cas [] (v.1 318) (v.1 319) (v.1 320) (nC v)).drop y.1.toNatClampNeg)) hr ⟨rfl, (show 0 ≤ (0 : Int32).toInt by decide), rfl⟩ ?_
    intro a b _ ha hb
    obtain ⟨e1, k0, e2⟩ := ha
    obtain ⟨-, k1, -, c1, r7, h7, c7, r12, h12, -, c12, rfl⟩ := hb
    rw [e1] at c1 h7 h12
    have ea : (a.1 + (1 : Int32)).toInt = a.1.toInt + 1 := add_z rfl (by decide) (by omega) (by omega)
    have na := natI k0
    have nb : (a.1 + (1 : Int32)).toNatClampNeg = a.1.toNatClampNeg + 1 := natS ea k0
    refine ⟨e1, by show 0 ≤ (a.1 + (1 : Int32)).toInt; omega, ?_⟩
    show _ = tCalls _ ((cas [] (v.1 318) (v.1 319) (v.1 320) (nC v)).drop (a.1 + (1 : Int32)).toNatClampNeg)
    rw [e2, nb, cas_drop (by omega)]
    rcases cOne (W := W) J3 ⟨k0, c1⟩ h7 with ⟨q, -⟩ | ⟨-, g, q2, q3⟩
    · exact absurd q c7
    · show (match fnm (fsC L1 W v) (v.1 318 a.1.toNatClampNeg) with | none => _ | some f => _) = _
      rw [q2]
      show (if g.2.2.1 = v.1 320 a.1.toNatClampNeg then _ else _) = _
      rw [if_pos ((q3 r12 h12).mp c12)]
  obtain ⟨rfl, k0, e2⟩ := inv
  have na := natI k0
  rcases h with ⟨c1, rfl, rfl⟩ | ⟨c1, r7, h7, h⟩
  · refine Or.inl ⟨rfl, rfl, ?_⟩
    rw [e2, List.drop_eq_nil_of_le (by rw [cas_len]; omega)]
    rfl
  · refine Or.inr ?_
    rw [e2, cas_drop (by omega)]
    rcases h with ⟨c7, r12, h12, -, c12, r19, h19, u9, h9, rfl, rfl⟩ | ⟨c7, r26, h26, u9, h9, rfl, rfl⟩
    · refine ⟨rfl, ?_⟩
      rcases cOne (W := W) J3 ⟨k0, c1⟩ h7 with ⟨q, -⟩ | ⟨-, g, q2, q3⟩
      · exact absurd q c7
      · show (match fnm (fsC L1 W w2) (w2.1 318 ka.toNatClampNeg) with | none => _ | some f => _) = _
        rw [q2]
        show (if g.2.2.1 = w2.1 320 ka.toNatClampNeg then _ else _) = _
        rw [if_neg (fun q => (q3 r12 h12).mpr q c12), sRef h9, cPOC h19 ⟨k0, c1⟩]
    · refine ⟨rfl, ?_⟩
      rcases cOne (W := W) J3 ⟨k0, c1⟩ h7 with ⟨-, q⟩ | ⟨q, -⟩
      · show (match fnm (fsC L1 W w2) (w2.1 318 ka.toNatClampNeg) with | none => _ | some f => _) = _
        rw [q, sRef h9, cPOC h26 ⟨k0, c1⟩]
      · exact absurd c7 q
def tText (S : FS) (K : TK) (x : IS) : PX IS := bd (tItems S K 1502 x) fun x => bd (tCalls x.2.1 (pCa x.1)) fun _ => .ok x
set_option maxHeartbeats 800000 in
theorem cText (rd : RD L1 L2) (hS : HS L2 (QS L1 L2 39) S) {ka : Int32} {u8 w30 : MS} (C : CIq L1 L2 K W u8 x0) (c5 : (u8.1 0 305).toInt = 0) (nov : ∀ y, tItems S K 1502 x0 = .ok y → pOv y.1 = false) (hr : RT (Q_x_X5_readText_L0 L1 L2 v) (0, u8) (ka, w30)) (g5 : 0 ≤ (w30.1 0 305).toInt ∧ (w30.1 0 305).toInt ≤ 1500) (g21 : 0 ≤ (w30.1 0 321).toInt ∧ (w30.1 0 321).toInt ≤ 501) (g81 : 0 ≤ (w30.1 0 381).toInt ∧ (w30.1 0 381).toInt ≤ 3008)
    (h : (1500 ≤ ka.toInt ∧ True) ∨ (ka.toInt < 1500 ∧ ∃ r42, Q_x_X9_kind L1 L2 w30 r42 ∧ ((r42.toInt = 0 ∧ ((∃ u9, Q_x_X5_checkCalls L1 L2 w30 true u9 ∧ t = true ∧ u = u9) ∨ (∃ u46, Q_x_X5_checkCalls L1 L2 w30 false u46 ∧ K_x_X5_checkCalls w30 u46 ∧ ∃ u51, Q_x_X1_link L1 L2 u46 u51 ∧ K_x_X1_link u46 u51 ∧ t = false ∧ u = u51))) ∨ (r42.toInt ≠ 0 ∧ ((∃ u9, Q_x_X5_headOfItem L1 L2 w30 true 0 u9 ∧ t = true ∧ u = u9) ∨ (∃ r67 u66, Q_x_X5_headOfItem L1 L2 w30 false r67 u66 ∧ K_x_X5_headOfItem w30 r67 u66 ∧ ((r67.toInt ≠ 30 ∧ ∃ u9, Q_x_X5_globalItem L1 L2 u66 r67 true u9 ∧ t = true ∧ u = u9) ∨ (r67.toInt = 30 ∧ ∃ u9, Q_x_X5_functionItem L1 L2 40 u66 true u9 ∧ t = true ∧ u = u9)))))))) :
    (t = false ∧ ∃ y W', tText S K x0 = .ok y ∧ CIq L1 L2 K W' w30 y ∧ ovC w30 = false ∧ Q_x_X1_link L1 L2 w30 u ∧ K_x_X1_link w30 u) ∨ (t = true ∧ tText S K x0 = .error (u.1 0 308, u.1 0 309)) := by
  have inv : ∃ y W', CIq L1 L2 K W' w30 y ∧ (∃ f : Nat, tItems S K 1502 x0 = tItems S K f y ∧ (1501 : Int) ≤ f + (w30.1 0 305).toInt) ∧ 2 * ka.toInt ≤ (w30.1 0 305).toInt := by
    refine RT.ind (fun (q : Int32 × MS) => ∃ y W', CIq L1 L2 K W' q.2 y ∧ (∃ f : Nat, tItems S K 1502 x0 = tItems S K f y ∧ (1501 : Int) ≤ f + (q.2.1 0 305).toInt) ∧ 2 * q.1.toInt ≤ (q.2.1 0 305).toInt) hr ⟨x0, W, C, ⟨1502, rfl, by show (1501 : Int) ≤ 1502 + (u8.1 0 305).toInt; omega⟩, by show 2 * (0 : Int32).toInt ≤ (u8.1 0 305).toInt; have : (0 : Int32).toInt = 0 := (by decide); omega⟩ ?_
    intro a b _ ha hb
    obtain ⟨y, W1, C1, ⟨f, hf, hm⟩, hk⟩ := ha
    obtain ⟨-, -, y5, -, y21, -, y81, -, -, yk, c1, r42, h42, c42, r67, u66, h66, k66, hb⟩ := hb
    have f42 := sKind (G := Gp (pv L1 a.2)) h42 (C1.1 _)
    have e42 : (kd (mkE K y.2.2) y.1) = r42 := by
      rw [f42, ← C1.2.2.2.2.2.1 _ PF_pv]
      rfl
    have ea : (a.1 + (1 : Int32)).toInt = a.1.toInt + 1 := add_z rfl (by decide) (by omega) (by omega)
    obtain ⟨f0, rfl⟩ : ∃ f0, f = f0 + 1 := ⟨f - 1, by omega⟩
    have step : ∀ {w : MS}, ((r67.toInt ≠ 30 ∧ Q_x_X5_globalItem L1 L2 u66 r67 false w) ∨ (r67.toInt = 30 ∧ Q_x_X5_functionItem L1 L2 40 u66 false w ∧ (false = false → K_x_X5_functionItem u66 w))) → 0 ≤ (w.1 0 305).toInt → ∃ y' W', CIq L1 L2 K W' w y' ∧ (∃ f : Nat, tItems S K 1502 x0 = tItems S K f y' ∧ (1501 : Int) ≤ f + (w.1 0 305).toInt) ∧ 2 * (a.1 + (1 : Int32)).toInt ≤ (w.1 0 305).toInt := by
      intro w hw h5
      rcases cItem rd hS C1 ⟨y21.1, y81.1⟩ h66 hw with ⟨-, y', W', q1, q2, q3⟩ | ⟨q, -⟩
      · refine ⟨y', W', q2, ⟨f0, ?_, by omega⟩, by omega⟩
        rw [hf]
        show (if (kd (mkE K y.2.2) y.1).toInt = 0 then _ else _) = _
        rw [e42, if_neg c42, q1, bd_ok]
      · cases q
    rcases hb with ⟨c30, u76, h76, k76, rfl⟩ | ⟨c30, u95, h95, k95, rfl⟩
    · exact step (Or.inl ⟨c30, h76⟩) k76.2.1.1
    · exact step (Or.inr ⟨c30, h95, fun _ => k95⟩) k95.2.1.1
  obtain ⟨y, W1, C1, ⟨f, hf, hm⟩, hk⟩ := inv
  obtain ⟨f0, rfl⟩ : ∃ f0, f = f0 + 1 := ⟨f - 1, by omega⟩
  rcases h with ⟨c1, -⟩ | ⟨c1, r42, h42, h⟩
  · omega
  have f42 := sKind (G := Gp (pv L1 w30)) h42 (C1.1 _)
  have e42 : (kd (mkE K y.2.2) y.1) = r42 := by
    rw [f42, ← C1.2.2.2.2.2.1 _ PF_pv]
    rfl
  have hf2 : tItems S K 1502 x0 = if (kd (mkE K y.2.2) y.1).toInt = 0 then .ok y else bd (tItem S K y) (tItems S K f0) := hf
  rw [e42] at hf2
  unfold tText
  rcases h with ⟨c42, h⟩ | ⟨c42, h⟩
  · rw [if_pos c42] at hf2
    have ov : ovC w30 = false := by
      have q := nov y hf2
      rw [← C1.2.2.2.2.2.1 _ PF_pv] at q
      exact q
    have ca : pCa y.1 = cas [] (w30.1 318) (w30.1 319) (w30.1 320) (nC w30) := by
      rw [← C1.2.2.2.2.2.1 _ PF_pv]
      show caC _ w30 = _
      unfold caC
      rw [if_neg (by rw [ov]; decide)]
      rfl
    rw [hf2, bd_ok, ca, C1.2.2.2.1]
    rcases h with ⟨u9, h1, rfl, rfl⟩ | ⟨u46, h1, -, u51, h2, k2, rfl, rfl⟩
    · rcases cChk (W := W1) h1 C1.2.2.1 g21.1 with ⟨q, -⟩ | ⟨-, q⟩
      · cases q
      · exact Or.inr ⟨rfl, by rw [q, bd_er]⟩
    · rcases cChk (W := W1) h1 C1.2.2.1 g21.1 with ⟨-, rfl, q⟩ | ⟨q, -⟩
      · exact Or.inl ⟨rfl, y, W1, by rw [q, bd_ok], C1, ov, h2, k2⟩
      · cases q
  · rw [if_neg c42] at hf2
    rw [hf2]
    rcases h with ⟨u9, h1, rfl, rfl⟩ | ⟨r67, u66, h1, k1, h⟩
    · rcases sHead (G := Gp (pv L1 w30)) h1 (C1.1 _) (C1.2.2.2.2.2.1 _ PF_pv).symm C1.2.2.2.1 C1.2.2.1 with ⟨q, -⟩ | ⟨-, q⟩
      · cases q
      · refine Or.inr ⟨rfl, ?_⟩
        unfold tItem
        rw [q]
        rfl
    · have er : ∀ {w : MS}, ((r67.toInt ≠ 30 ∧ Q_x_X5_globalItem L1 L2 u66 r67 true w) ∨ (r67.toInt = 30 ∧ Q_x_X5_functionItem L1 L2 40 u66 true w ∧ (true = false → K_x_X5_functionItem u66 w))) → tItem S K y = .error (w.1 0 308, w.1 0 309) := by
        intro w hw
        rcases cItem rd hS C1 ⟨g21.1, g81.1⟩ h1 hw with ⟨q, -⟩ | ⟨-, q⟩
        · cases q
        · exact q
      rcases h with ⟨c30, u9, h2, rfl, rfl⟩ | ⟨c30, u9, h2, rfl, rfl⟩
      · refine Or.inr ⟨rfl, ?_⟩
        rw [er (Or.inl ⟨c30, h2⟩)]
        rfl
      · refine Or.inr ⟨rfl, ?_⟩
        rw [er (Or.inr ⟨c30, h2, nom⟩)]
        rfl
end CCK
