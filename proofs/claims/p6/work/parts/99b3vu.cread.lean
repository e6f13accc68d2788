/-! the class: a text that is read to its end: its events -/
theorem txE_app : ∀ (a b : List (List Int32 × List EV)) (k : Nat), txE k (a ++ b) = txE k a ++ txE (k + a.length) b
  | [], b, k => by
    show txE k b = [] ++ txE (k + 0) b
    rw [List.nil_append, Nat.add_zero]
  | x :: a, b, k => by
    show fnE (nI k) x.2 ++ txE (k + 1) (a ++ b) = fnE (nI k) x.2 ++ txE (k + 1) a ++ txE (k + (a.length + 1)) b
    rw [txE_app a b, List.append_assoc, show k + 1 + a.length = k + (a.length + 1) by omega]
section VUR
variable {L1 L2 : List Nat} {v u w : MS} {ps : Int32}
set_option maxHeartbeats 800000 in
theorem cReadE (rd : RD L1 L2) (h : Q_x_X5_readText L1 L2 v ps false u) : ∃ u2 y W evs, Q_x_X9_scan L1 L2 (wA v 0 327 ps) ps u2 ∧ tText SP (kC u2) X0 = .ok y ∧ gItems EvSP SP (kC u2) 1502 X0 = some evs ∧ (∀ x q z, txE 0 evs = x ++ q :: z → DTq L1 u q (ldL x)) ∧ (u.1 0 381).toInt = ldL (txE 0 evs) ∧ y.2.1 = fsC L1 W u ∧ y.2.2 = gsC L2 u ∧ nF u = evs.length ∧ (∀ f, f < nF u → (rF L1 u f 5).toInt = ldL (txE 0 (evs.take f))) ∧ (u.1 0 381).toInt ≤ 3008 ∧ ∃ ww, CIq L1 L2 (kC u2) W ww y ∧ ovC ww = false ∧ (0 ≤ (ww.1 0 321).toInt ∧ (ww.1 0 321).toInt ≤ 501) ∧ Q_x_X1_link L1 L2 ww u ∧ K_x_X1_link ww u := by
  obtain ⟨-, u2, h2, -, u5, h5, -, u8, h8, -, ka, w30, hr, fc, b304, b305, b306, b321, b326, b381, -, b17, bka, h⟩ := h
  obtain ⟨u3, h3, -, e5⟩ := h5
  have e3 : u3 = (wA (wA (wA (wA (wA (wA u2 0 310 ps) 0 375 0) 0 377 0) 0 381 0) 0 383 0) 0 384 0) := h3
  have e8 : u8 = wA u5 0 326 0 := h8
  have F := scan_f h2
  have k8 : kC u8 = kC u2 := by rw [e8, e5, e3]; rfl
  have z21 : u8.1 0 321 = 0 := by rw [e8, e5]; rfl
  have z81 : u8.1 0 381 = 0 := by rw [e8, e5, e3]; rfl
  have z17 : u8.1 0 317 = 0 := by rw [e8, e5]; rfl
  have z75 : u8.1 0 375 = 0 := by rw [e8, e5, e3]; rfl
  have z5 : u8.1 0 305 = 0 := by rw [e8, e5, e3]; exact F.1
  have z0 : (0 : Int32).toInt = 0 := by decide
  have C : CIq L1 L2 (kC u2) (fun _ => 0) u8 X0 := by
    rw [← k8]
    refine CI0 ?_ z21 ?_ z75 ?_ z81
    · rw [e8, e5, e3]; exact F
    · rw [e8]; rfl
    · rw [e8, e5, e3]; rfl
  have c5 : (u8.1 0 305).toInt = 0 := by rw [z5]; exact z0
  have h' := h
  have R := cText (t := false) (u := u) rd SP_c C c5 (fun y hy => nov_P hy) hr b305 b321 b381 (by
    rcases h with ⟨a, -⟩ | h
    · exact Or.inl ⟨a, trivial⟩
    · exact Or.inr h)
  obtain ⟨y, W, q1, q2, q3, q4, q5⟩ : ∃ y W', tText SP (kC u2) X0 = .ok y ∧ CIq L1 L2 (kC u2) W' w30 y ∧ ovC w30 = false ∧ Q_x_X1_link L1 L2 w30 u ∧ K_x_X1_link w30 u := by
    rcases R with ⟨-, q⟩ | ⟨q, -⟩
    · exact q
    · cases q
  have I := eItems rd C c5 (by rw [z81, z21, z0]; exact ⟨Int.le_refl _, Int.le_refl _⟩) (by unfold nF; rw [z75]; rfl) hr
  obtain ⟨y1, W1, C1, m21, hk, f, hf, hm, ev⟩ := I
  obtain ⟨f0, rfl⟩ : ∃ f0, f = f0 + 1 := ⟨f - 1, by omega⟩
  have kd0 : (kd (mkE (kC u2) y1.2.2) y1.1).toInt = 0 := by
    rcases h' with ⟨c, -⟩ | ⟨c, r42, h42, h⟩
    · omega
    have f42 := sKind (G := Gp (pv L1 w30)) h42 (C1.1 _)
    have e42 : (kd (mkE (kC u2) y1.2.2) y1.1) = r42 := by
      rw [f42, ← C1.2.2.2.2.2.1 _ PF_pv]
      rfl
    rcases h with ⟨c42, -⟩ | ⟨c42, ⟨u9, -, g, -⟩ | ⟨r67, u66, -, -, ⟨-, u9, -, g, -⟩ | ⟨-, u9, -, g, -⟩⟩⟩
    · rw [e42]; exact c42
    · cases g
    · cases g
    · cases g
  have hT : tItems SP (kC u2) 1502 X0 = .ok y1 := by
    rw [hf]
    show (if (kd (mkE (kC u2) y1.2.2) y1.1).toInt = 0 then _ else _) = _
    rw [if_pos kd0]
  have c500 : (w30.1 0 321).toInt ≤ 500 := by have := of_decide_eq_false q3; omega
  obtain ⟨d, d1, d2, d3⟩ := ev c500
  have hG : gItems EvSP SP (kC u2) 1502 X0 = some d := by
    rw [d1]
    show (if (kd (mkE (kC u2) y1.2.2) y1.1).toInt = 0 then some [] else _ : Option (List (List Int32 × List EV))).bind _ = _
    rw [if_pos kd0, Option.bind_some, List.append_nil]
  have hC : tCalls y1.2.1 (pCa y1.1) = .ok () ∧ y1 = y := by
    unfold tText at q1
    rw [hT, bd_ok] at q1
    cases g : tCalls y1.2.1 (pCa y1.1) with
    | error k => rw [g, bd_er] at q1; cases q1
    | ok z =>
      rw [g, bd_ok] at q1
      injection q1 with q1
      exact ⟨rfl, q1⟩
  have ca : pCa y1.1 = cas [] (w30.1 318) (w30.1 319) (w30.1 320) (nC w30) := by
    rw [← C1.2.2.2.2.2.1 _ PF_pv]
    show caC _ w30 = _
    unfold caC
    rw [if_neg (by rw [q3]; decide)]
    rfl
  have G : ∀ j, u.1 0 j = w30.1 0 j := fun j => q5.1.2.1 j (fun q => nomatch q)
  have rf : ∀ L f i, rF L u f i = rF L w30 f i := fun L f i => by unfold rF; rw [q5.2 _ (by omega)]
  have D := cLinkD (K := kC u2) q4 q5 C1 d2 ⟨by rw [z81]; exact z0, by rw [z17]; exact z0, c5⟩ b321.1 b305.2 (by rw [← ca]; exact hC.1)
  refine ⟨u2, y, W, d, h2, q1, hG, D.1, D.2, ?_, ?_, ?_, fun g hg => ?_, by rw [G 381]; exact b381.2, w30, q2, q3, b321, q4, q5⟩
  · rw [q2.2.2.2.1]
    unfold fsC nF
    rw [G 375]
    exact List.map_congr_left (fun f _ => by rw [rf, rf, rf, rf])
  · rw [q2.2.2.2.2.1]
    unfold gsC nG
    rw [G 377]
    exact List.map_congr_left (fun f _ => by rw [rf, rf, rf, rf])
  · unfold nF
    rw [G 375]
    exact d3
  · have hg : g < nF w30 := by unfold nF at hg ⊢; rw [← G 375]; exact hg
    have lt : g < d.length := by omega
    have e0 : txE 0 d = txE 0 (d.take g) ++ (evx 0 (nI g) 0 :: ((rsr (d3p (d[g].2 ++ [evx 2 0 0])) d[g].2 ++ [evx 2 0 0] ++ [evx 1 0 0]) ++ txE (g + 1) (d.drop (g + 1)))) := by
      have e1 : d = d.take g ++ d[g] :: d.drop (g + 1) := by rw [List.getElem_cons_drop, List.take_append_drop]
      have e2 := congrArg (txE 0) e1
      rw [txE_app] at e2
      have l : (d.take g).length = g := by rw [List.length_take]; omega
      rw [l, Nat.zero_add] at e2
      exact e2
    have n0 : (u8.1 0 381).toNatClampNeg = 0 := by rw [z81]; rfl
    have M := (d2 (0, 0, 0)).2.2.2 _ _ _ e0
    rw [n0, Nat.zero_add] at M
    obtain ⟨m1, m2⟩ := M
    have m1 : ((ldL (txE 0 (d.take g)) : Nat) : Int) + 1 ≤ (w30.1 0 381).toInt := m1
    have m2 : w30.1 378 (ldL (txE 0 (d.take g))) = 0 ∧ w30.1 379 (ldL (txE 0 (d.take g))) = nI g ∧ w30.1 380 (ldL (txE 0 (d.take g))) = 0 := m2
    obtain ⟨g', g1, g2⟩ := C1.2.2.2.2.2.2.2 q3 (ldL (txE 0 (d.take g))) (by omega) m2.1
    obtain ⟨w1, w2, w3, w4, -⟩ := C1.2.2.2.2.2.2.1 g' g1
    rw [← g2, m2.2.1] at w4
    have J3 := C1.2.2.1
    have nw : ((nF w30 : Nat) : Int) = (w30.1 0 375).toInt := natI J3.1
    rw [nI_Z (by omega)] at w4
    have eg : g' = g := by omega
    rw [eg] at g2 w1
    rw [rf, g2]
    exact (natI w1).symm
end VUR
